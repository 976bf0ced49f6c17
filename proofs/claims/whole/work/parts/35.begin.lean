/-! THE LAW'S BEGINNING: the object, the reference, the long row; then its loop -/
theorem mem_M {k : Nat} : k ∈ RM ↔ 9 ≤ k ∧ k ≤ 16 := by
  simp only [RM, List.mem_cons, List.not_mem_nil, or_false]
  omega
theorem Cl_M : Cl RM := by
  intro k hk cy ad ad' r h
  have h0 : ∀ j, 9 ≤ j → j ≤ 16 → ad j = ad' j := fun j h1 h2 => h j (mem_M.mpr ⟨h1, h2⟩)
  have hk := mem_M.mp hk
  rw [rb_rc (by omega) (by omega), rb_rc (by omega) (by omega)]
  rcases (show k = 9 ∨ k = 10 ∨ k = 11 ∨ k = 12 ∨ k = 13 ∨ k = 14 ∨ k = 15 ∨ k = 16 by omega) with rfl | rfl | rfl | rfl | rfl | rfl | rfl | rfl
  · rw [isO_9.2, isO_9.2]
    simp only [fM, h0 10 (by decide) (by decide), h0 11 (by decide) (by decide), h0 12 (by decide) (by decide), h0 13 (by decide) (by decide), h0 14 (by decide) (by decide), h0 15 (by decide) (by decide), h0 16 (by decide) (by decide)]
  · rw [isA_10.2, isA_10.2]
  · rw [isA_11.2, isA_11.2]
  · rw [isA_12.2, isA_12.2]
  · rw [isA_13.2, isA_13.2]
  · rw [isZ_14.2, isZ_14.2]
  · rw [isA_15.2, isA_15.2]
  · rw [isA_16.2, isA_16.2]
theorem mem_X {k : Nat} : k ∈ RX ↔ k ≤ 8 ∨ (18 ≤ k ∧ k < 174) := by
  have h : k ∈ RX ↔ (k ∈ [0, 7] ∨ k ∈ Rd) ∨ k ∈ [8] := by
    rw [show RX = [0, 7] ++ Rd ++ [8] from rfl, List.mem_append, List.mem_append]
  rw [h, mem_d]
  simp only [List.mem_cons, List.not_mem_nil, or_false]
  omega
theorem Cl_X : Cl RX := by
  intro k hk cy ad ad' r h
  have h0 : ∀ j, j ≤ 8 ∨ (18 ≤ j ∧ j < 174) → ad j = ad' j := fun j hj => h j (mem_X.mpr hj)
  by_cases hd : k ∈ Rd
  · exact Cl_d k hd cy ad ad' r (fun j hj => h0 j (by have := mem_d.mp hj; omega))
  · have hk := mem_X.mp hk
    have hd' : ¬ ((1 ≤ k ∧ k ≤ 6) ∨ (18 ≤ k ∧ k < 174)) := fun h => hd (mem_d.mpr h)
    rcases (show k = 0 ∨ k = 7 ∨ k = 8 by omega) with rfl | rfl | rfl
    · rw [rb_rc (by decide) (by decide), rb_rc (by decide) (by decide), isO_0.2, isO_0.2]
      simp only [fS, h0 18 (by decide), h0 1 (by decide), h0 3 (by decide), h0 5 (by decide), h0 7 (by decide), h0 8 (by decide)]
    · have hf : fP 148 ad 2 = fP 148 ad' 2 := by
        funext j
        unfold fP
        by_cases hj : j < 2
        · rw [if_pos hj, if_pos hj, h0 _ (by omega)]
        · rw [if_neg hj, if_neg hj]
      show Sum.inl (cy 2, 2, Sum.inr (Sum.inr (Sum.inr (Sum.inr (fP 148 ad 2))))) = _
      rw [hf]
      rfl
    · rw [rb_rc (by decide) (by decide), rb_rc (by decide) (by decide), isZ_8.2, isZ_8.2]
theorem Cl_L : Cl [17] := by
  intro k hk cy ad ad' r h
  rw [List.mem_singleton.mp hk, rb_rc (by decide) (by decide), rb_rc (by decide) (by decide), isL_17.2, isL_17.2]
theorem at_rb {D : va_G} {cy : Nat → ClassId} {ad : Nat → Nat} {k a : Nat} {r : Nat → Int32} {H : Heap} (h : va_at D vwCl (a, rb cy ad k r) H) : va_at D vwCl (a, rc cy ad k r) H := by
  by_cases h4 : k = 4
  · subst h4
    exact h.trans (congrArg some (fP_cell (cy 2)))
  · by_cases h7 : k = 7
    · subst h7
      exact h.trans (congrArg some (fP_cell (cy 2)))
    · rw [rb_rc h4 h7] at h
      exact h
theorem wb_at {rs : List Nat} {cy : Nat → ClassId} {ad : Nat → Nat} {M : Mem} {i k : Nat} (h : rs[i]? = some k) : (wb rs cy ad M)[i]? = some (ad k, rb cy ad k (M k)) := by
  simp [wb, h]
theorem wl_len {cy : Nat → ClassId} {ad : Nat → Nat} {M : Mem} {k : Nat} {q : Nat × va_E} (h : (wl cy ad M)[k]? = some q) : k < NR ∧ q = (ad k, rc cy ad k (M k)) := by
  have hl : k < NR := by have := (List.getElem?_eq_some_iff.mp h).1; simpa [wl] using this
  rw [wl_at hl] at h
  exact ⟨hl, (Option.some.inj h).symm⟩
theorem wl_of {D : va_G} {rs : List Nat} {cy : Nat → ClassId} {ad : Nat → Nat} {M : Mem} {H : Heap} {A : Nat → Prop} (hall : ∀ k, k < NR → k ∈ rs) (hP : va_P D vwCl (wb rs cy ad M) H) (hD : va_D A (wb rs cy ad M)) : va_P D vwCl (wl cy ad M) H ∧ va_D A (wl cy ad M) := by
  have hi : ∀ k, ∃ i, k < NR → rs[i]? = some k := fun k => by
    by_cases hk : k < NR
    · obtain ⟨i, hi⟩ := List.getElem?_of_mem (hall k hk)
      exact ⟨i, fun _ => hi⟩
    · exact ⟨0, fun h => absurd h hk⟩
  obtain ⟨f, hf⟩ := Classical.axiomOfChoice hi
  refine ⟨fun k q hk => ?_, hD.via f (fun k q hk => ?_) (fun i j h1 h2 hij => ?_)⟩
  · obtain ⟨hl, rfl⟩ := wl_len hk
    exact at_rb (hP _ _ (wb_at (hf k hl)))
  · obtain ⟨hl, rfl⟩ := wl_len hk
    exact ⟨_, wb_at (hf k hl)⟩
  · have h1 : i < NR := by simpa [wl] using h1
    have h2 : j < NR := by simpa [wl] using h2
    have e1 := hf i h1
    have e2 := hf j h2
    rw [hij, e2] at e1
    exact (Option.some.inj e1).symm
section LBEG
variable {p : Program} {l : Launch} {e : Env} {R : Room} {s : State} {m : MethodId} {args : Array Value} {below : List Frame} {meth : Method} {c : Code} {H : Heap} {locs : List Loc} {cells slots : Nat} {Q : State → Prop}
variable {cc : ByteArray} {nL : Nat} {own : String} {D : va_G} {cy : Nat → ClassId} {A : Nat → Prop} {pc : Nat} {ls : Array Slot} {rest st0 : List Value} {ws w0 : va_W}
theorem i_newL (iy : IX p s m args meth c cc nL own D cy A) (hw : GW D A s ws H locs) {n : Int32} (N : Nat) (hn : ¬ n < 0) (hN : n.toNatClampNeg = N) (hb4 : N * 8 ≤ 536870912) (hcells : cells + 1 ≤ R.cells) (hslots : slots + N ≤ R.slots) (hdg : decode cc pc = .ok (.newarray .long, 2))
    (kk : ∀ (q : Nat) (H1 : Heap), GW D A s (ws ++ [(q, .inl (cy 3, N, .inr (.inl (fun _ => 0))))]) H1 locs → W p l e R s m args below meth c H1 locs (cells + 1) (slots + N) Q (F0 m (pc + 2) ls (.ref q :: rest))) : W p l e R s m args below meth c H locs cells slots Q (F0 m pc ls (.int n :: rest)) := by
  obtain ⟨⟨hx, hb, hml, hown, hts⟩, hK, hA, -⟩ := iy
  obtain ⟨hP, hD, hS⟩ := hw
  refine va_newa (atype := .long) (ty := .long) (a0 := (N, .inr (.inl (fun _ => 0)))) hx hb (hts _ wI_aL) rfl hK hP hD hS hA (fun _ => rfl) hn hN hb4 hcells hslots hdg (fun q cA H1 hK1 hP1 hD1 hS1 => ?_)
  have e : cA = cy 3 := Option.some.inj (((hK1.2 4 (cA, .long) rfl).2).symm.trans (hK.2 3 (cy 3, .long) rfl).2)
  subst e
  exact kk q H1 ⟨hP1, hD1, hS1⟩
end LBEG
def Mst (M5 M6 : Mem) : Mem := fun k => if 9 ≤ k ∧ k ≤ 16 then M6 k else M5 k
set_option maxHeartbeats 4000000 in
set_option maxRecDepth 100000 in
theorem start_of (M5 M6 : Mem) (h5 : f_X1_becomeFirst 18 Mz = some M5) (hM5 : ∀ k, ¬ (18 ≤ k ∧ k < 31) → M5 k = Mz k) (h6 : f_X6_init = some M6) (hall : ∀ (xs : Nat → Int32) (L : Nat), L ≤ 3072 → f_L_law xs L 513 0 (Mst M5 M6) = some ())
    {p : Program} {e : Env} {s : State} {m : MethodId} {below : List Frame} {meth : Method} {c : Code} (l : Launch) (hflags : l.flags = flags0) {b L : Nat} {xs : Nat → Int32} (hL : L ≤ 3072) (C0 : lw_At p s m meth c b L xs) : W p l e room_1 s m #[Value.ref b] below meth c s.heap [] 0 0 (lw_Z below #[Value.ref b] s) (entryFrame m ([Value.ref b] : List Value).toArray 9) := by
  obtain ⟨hx, hb, hr, hml, hown, hts, hX, hbl, hlk, hgv⟩ := C0
  have hl9 : l.stackTraces = false := by
    unfold Launch.stackTraces
    rw [hflags]
    decide
  have hn : ∀ q ∈ fN, q.before #[Value.ref b] s = true := fun q hq => flat_of_before _ hgv q (show q ∈ flatC given_1 ++ flatC narrow_1 from List.mem_append_right _ hq)
  obtain ⟨D, hD0⟩ := D_of hts
  obtain ⟨cy, hK⟩ := tys_of hts hD0
  have hXW := XW_of hts
  obtain ⟨x, hSF⟩ := SF_of hts hn (A := fun q => s.heap.size ≤ q) (fun a h1 h2 => by omega)
  have hG : ∀ w ∈ GB, w.before #[Value.ref b] s = true := fun w h => hts w (gb_tbl h)
  have iy : IX p s m #[Value.ref b] meth c cL_law 9 RL D cy (fun q => s.heap.size ≤ q) := ⟨⟨hx, hb, hml, hown, hG⟩, hK, fun q h => h, hXW⟩
  have hw : GW D (fun q => s.heap.size ≤ q) s [] s.heap [] := ⟨fun k q hk => by simp at hk, ⟨fun i j p q hi => by simp at hi, fun k q hk => by simp at hk⟩, va_S.rf⟩
  have hl := lv_entry [.ref b] (n := 9) (Nat.le_of_ble_eq_true rfl)
  rw [lg_entry_eq]
  generalize (lg_sl ([.ref b])  ++ List.replicate (9 - (lg_sl ([.ref b])).length) Slot.unset).toArray = ls at hl ⊢
  have hl : lv_has ls 9 [(0, .ref b)] := hl
  refine i_new iy hw (ci := 4) (C := RX5) (T := TX5) (N := 6) rfl iX5 tyX5 tyX5_ok (gb_1 22 rfl rfl) (gb_1 23 rfl rfl) (gb_1 1 rfl rfl) [.null, .null, .null, .null, .null, .null] (fun j hj => by rcases (show j = 0 ∨ j = 1 ∨ j = 2 ∨ j = 3 ∨ j = 4 ∨ j = 5 by omega) with rfl | rfl | rfl | rfl | rfl | rfl <;> rfl) (Nat.le_of_ble_eq_true rfl) (Nat.le_of_ble_eq_true rfl) dL_law_0 (fun q1 H hw => ?_)
  refine lv_dup hx hb dL_law_3 rfl ?_
  refine i_cv iy hw (i_runI (rest := [.ref q1]) iy hw (c_X5_init l D cy q1 H.size M5 h5 hM5) (gb_1 24 rfl rfl) (gb_1 25 rfl rfl) (gb_1 1 rfl rfl) (gb_1 26 rfl rfl) rfl (by decide +kernel) rfl (Nat.le_of_ble_eq_true rfl) hl.1 ⟨Nat.le_of_ble_eq_true rfl, Nat.le_of_ble_eq_true rfl⟩ ⟨Nat.le_of_ble_eq_true rfl, Nat.le_of_ble_eq_true rfl⟩ dL_law_4) (fun ad5 H locs hq1 hw => ?_)
  refine lv_astore_n (lv' := [(1, .ref q1), (0, .ref b)]) hx hb dL_law_7 rfl hl (by decide) rfl (fun ls hl => ?_)
  refine i_new iy hw (ci := 5) (C := RX6) (T := TX6) (N := 19) rfl iX6 tyX6 tyX6_ok (gb_5 2 rfl rfl) (gb_5 3 rfl rfl) (gb_1 8 rfl rfl) [.null, .null, .null, .null, .null, .int 0, .int 0, .null, .int 0, .null, .int 0, .int 0, .int 0, .int 0, .int 0, .int 0, .int 0, .int 0, .int 0] (fun j hj => by rcases (show j = 0 ∨ j = 1 ∨ j = 2 ∨ j = 3 ∨ j = 4 ∨ j = 5 ∨ j = 6 ∨ j = 7 ∨ j = 8 ∨ j = 9 ∨ j = 10 ∨ j = 11 ∨ j = 12 ∨ j = 13 ∨ j = 14 ∨ j = 15 ∨ j = 16 ∨ j = 17 ∨ j = 18 by omega) with rfl | rfl | rfl | rfl | rfl | rfl | rfl | rfl | rfl | rfl | rfl | rfl | rfl | rfl | rfl | rfl | rfl | rfl | rfl <;> rfl) (Nat.le_of_ble_eq_true rfl) (Nat.le_of_ble_eq_true rfl) dL_law_8 (fun q2 H hw => ?_)
  refine lv_dup hx hb dL_law_11 rfl ?_
  refine i_cv iy hw (i_runI (rest := [.ref q2]) iy hw (c_X6_init l D cy q2 H.size M6 h6) (gb_5 4 rfl rfl) (gb_5 5 rfl rfl) (gb_1 8 rfl rfl) (gb_5 6 rfl rfl) rfl (by decide +kernel) rfl (Nat.le_of_ble_eq_true rfl) hl.1 ⟨Nat.le_of_ble_eq_true rfl, Nat.le_of_ble_eq_true rfl⟩ ⟨Nat.le_of_ble_eq_true rfl, Nat.le_of_ble_eq_true rfl⟩ dL_law_12) (fun ad6 H locs hq2 hw => ?_)
  refine lv_astore_n (lv' := [(2, .ref q2), (1, .ref q1), (0, .ref b)]) hx hb dL_law_15 rfl hl (by decide) rfl (fun ls hl => ?_)
  refine lv_iconst (v := 1) hx hb dL_law_16 (by decide) ?_
  refine i_newL iy hw 1 (by decide) (by decide) (by decide) (Nat.le_of_ble_eq_true rfl) (Nat.le_of_ble_eq_true rfl) dL_law_17 (fun q3 H hw => ?_)
  refine lv_astore_n (lv' := [(3, .ref q3), (2, .ref q2), (1, .ref q1), (0, .ref b)]) hx hb dL_law_19 rfl hl (by decide) rfl (fun ls hl => ?_)
  refine lv_iconst (v := 0) hx hb dL_law_20 (by decide) ?_
  refine lv_istore (lv' := [(4, .int 0), (3, .ref q3), (2, .ref q2), (1, .ref q1), (0, .ref b)]) hx hb dL_law_21 hl (by decide) rfl (fun ls hl => ?_)
  have hMx : ∀ k, k ∈ RX → M5 k = Mst M5 M6 k := fun k hk => by
    have := mem_X.mp hk
    unfold Mst
    rw [if_neg (by omega)]
  have hMm : ∀ k, k ∈ RM → M6 k = Mst M5 M6 k := fun k hk => by
    have := mem_M.mp hk
    unfold Mst
    rw [if_pos (by omega)]
  have e17 : [(q3, (.inl (cy 3, 1, .inr (.inl (fun _ => 0))) : va_E))] = wb [17] cy (fun _ => q3) (Mst M5 M6) := by
    have e1 : Mst M5 M6 17 = fun _ => 0 := by
      unfold Mst
      rw [if_neg (by omega), hM5 17 (by omega)]
      exact Mz_h (by decide)
    show _ = [(q3, rb cy (fun _ => q3) 17 (Mst M5 M6 17))]
    rw [e1]
    rfl
  replace hw : GW D (fun q => s.heap.size ≤ q) s ((wb RX cy ad5 M5 ++ wb RM cy ad6 M6) ++ [(q3, .inl (cy 3, 1, .inr (.inl (fun _ => 0))))]) H locs := hw
  rw [wb_congr Cl_X (ad' := ad5) (M' := Mst M5 M6) (fun _ _ => rfl) hMx, wb_merge Cl_X Cl_M (fun k h1 h2 => by have := mem_X.mp h1; have := mem_M.mp h2; omega) hMm, e17, wb_merge (Cl_X.app Cl_M) Cl_L (fun k h1 h2 => by
    have h2 := List.mem_singleton.mp h2
    rcases List.mem_append.mp h1 with h1 | h1
    · have := mem_X.mp h1; omega
    · have := mem_M.mp h1; omega) (fun _ _ => rfl)] at hw
  generalize hadd : mg [17] (fun _ => q3) (mg RM ad6 ad5) = ad at hw
  have a0 : ad 0 = q1 := by
    rw [← hadd, mg_out (by decide), mg_out (by decide), hq1]
  have a9 : ad 9 = q2 := by
    rw [← hadd, mg_out (by decide), mg_in (by decide), hq2]
  have a17 : ad 17 = q3 := by
    rw [← hadd, mg_in (by decide)]
  obtain ⟨hP, hDD, hS⟩ := hw
  have hwl := wl_of (fun k hk => by
    have hk : k < 174 := hk
    by_cases h17 : k = 17
    · exact List.mem_append_right _ (by rw [h17]; decide)
    · by_cases hm : 9 ≤ k ∧ k ≤ 16
      · exact List.mem_append_left _ (List.mem_append_right _ (mem_M.mpr hm))
      · exact List.mem_append_left _ (List.mem_append_left _ (mem_X.mpr (by omega)))) hP hDD
  have hAA : ∀ q, AA ad s.heap.size q → s.heap.size ≤ q := fun q hq => by
    rcases hq with ⟨k, hk, rfl⟩ | hq
    · exact hwl.2.2 k _ (wl_at hk)
    · exact hq
  have hbA : ¬ AA ad s.heap.size b := fun h => by have := hAA b h; omega
  have hAe : AA ad s.heap.size = fun q => s.heap.size ≤ q := by
    funext q
    exact propext ⟨hAA q, fun h => Or.inr h⟩
  have fx0 : FX p s m #[Value.ref b] meth c cL_law 9 (some .boolean) RL D cy ad x := ⟨iy.1, hr, hlk, hK, by rw [hAe]; exact hSF⟩
  have hwd : WD D cy ad s (Mst M5 M6) H locs := ⟨hwl.1, wl_D hwl.2, by rw [hAe]; exact hS⟩
  rw [← a0, ← a9, ← a17] at hl
  refine W.base ?_
  exact law_loop l hl9 fx0 hX hbl hbA hAA 513 0 (Mst M5 M6) s.drawn (Drawn.sameBut.refl s.drawn lw_cs) _ _ (Nat.le_of_ble_eq_true rfl) (Nat.le_of_ble_eq_true rfl) H locs ls (lv_sub hl [4, 3, 2, 1, 0] rfl) hwd (hall xs L hL)
