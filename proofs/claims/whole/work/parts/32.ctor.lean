/-! CLOSED UNITS AND HOW THEY ARE PUT TOGETHER -/
def Cl (rs : List Nat) : Prop := ∀ k, k ∈ rs → ∀ (cy : Nat → ClassId) (ad ad' : Nat → Nat) (r : Nat → Int32), (∀ j, j ∈ rs → ad j = ad' j) → rb cy ad k r = rb cy ad' k r
theorem Cl.app {a b : List Nat} (ha : Cl a) (hb : Cl b) : Cl (a ++ b) := by
  intro k hk cy ad ad' r h
  rcases List.mem_append.mp hk with hk | hk
  · exact ha k hk cy ad ad' r (fun j hj => h j (List.mem_append_left _ hj))
  · exact hb k hk cy ad ad' r (fun j hj => h j (List.mem_append_right _ hj))
theorem Cl_house {o : Nat} (ho : isH o) : Cl (hr o) := by
  intro k hk cy ad ad' r h
  have hm := mem_hr.mp hk
  have h18 : 18 ≤ o := by obtain ⟨i, -, rfl⟩ := ho; omega
  rw [rb_rc (by omega) (by omega), rb_rc (by omega) (by omega)]
  have h0 : ∀ j, j < 13 → ad (o + j) = ad' (o + j) := fun j hj => h _ (mem_hr.mpr ⟨by omega, by omega⟩)
  by_cases hko : k = o
  · subst hko
    rw [ho.O.2, ho.O.2]
    simp only [fH, h0 1 (by decide), h0 2 (by decide), h0 3 (by decide), h0 4 (by decide), h0 5 (by decide), h0 6 (by decide), h0 7 (by decide), h0 8 (by decide), h0 9 (by decide), h0 10 (by decide), h0 11 (by decide), h0 12 (by decide)]
  · have e : k = o + ((k - o - 1) + 1) := by omega
    rw [e, (ho.arr (k - o - 1) (by omega) rfl).2, (ho.arr (k - o - 1) (by omega) rfl).2]
theorem wb_app {a b : List Nat} {cy : Nat → ClassId} {ad : Nat → Nat} {M : Mem} : wb (a ++ b) cy ad M = wb a cy ad M ++ wb b cy ad M := by
  simp [wb]
theorem wb_congr {rs : List Nat} (hc : Cl rs) {cy : Nat → ClassId} {ad ad' : Nat → Nat} {M M' : Mem} (h : ∀ k, k ∈ rs → ad k = ad' k) (hM : ∀ k, k ∈ rs → M k = M' k) : wb rs cy ad M = wb rs cy ad' M' := by
  unfold wb
  apply List.map_congr_left
  intro k hk
  rw [h k hk, hM k hk, hc k hk cy ad ad' _ h]
def mg (rs : List Nat) (ad2 ad1 : Nat → Nat) : Nat → Nat := fun k => if k ∈ rs then ad2 k else ad1 k
theorem mg_in {rs : List Nat} {ad2 ad1 : Nat → Nat} {k : Nat} (h : k ∈ rs) : mg rs ad2 ad1 k = ad2 k := if_pos h
theorem mg_out {rs : List Nat} {ad2 ad1 : Nat → Nat} {k : Nat} (h : k ∉ rs) : mg rs ad2 ad1 k = ad1 k := if_neg h
theorem wb_merge {a b : List Nat} (ha : Cl a) (hb : Cl b) (hdis : ∀ k, k ∈ a → k ∉ b) {cy : Nat → ClassId} {ad1 ad2 : Nat → Nat} {M M2 : Mem} (hM : ∀ k, k ∈ b → M2 k = M k) : wb a cy ad1 M ++ wb b cy ad2 M2 = wb (a ++ b) cy (mg b ad2 ad1) M := by
  rw [wb_app, wb_congr ha (M' := M) (fun k hk => (mg_out (hdis k hk)).symm) (fun _ _ => rfl), wb_congr hb (M := M2) (M' := M) (fun k hk => (mg_in hk).symm) hM]
/-- houses side by side -/
def hs (b : Nat) : Nat → List Nat
  | 0 => []
  | i + 1 => hs b i ++ hr (b + 13 * i)
theorem mem_hs {b k : Nat} : ∀ {i : Nat}, k ∈ hs b i ↔ b ≤ k ∧ k < b + 13 * i
  | 0 => ⟨fun h => (List.not_mem_nil (show k ∈ [] from h)).elim, fun h => by omega⟩
  | i + 1 => by
    simp only [hs, List.mem_append, mem_hr, mem_hs (i := i)]
    omega
theorem Cl_hs {b : Nat} : ∀ {i : Nat}, (∀ j, j < i → isH (b + 13 * j)) → Cl (hs b i)
  | 0, _ => fun k hk => by cases hk
  | i + 1, h => (Cl_hs (fun j hj => h j (by omega))).app (Cl_house (h i (by omega)))
theorem fP_up {b : Nat} {ad ad' : Nat → Nat} {i q : Nat} (h : ad' (b + 13 * i) = q) : va_up (fP b ad i) i (some q) = fP b (mg (hr (b + 13 * i)) ad' ad) (i + 1) := by
  funext j
  unfold va_up fP
  by_cases hj : j = i
  · subst hj
    rw [if_pos rfl, if_pos (by omega), mg_in (mem_hr.mpr ⟨by omega, by omega⟩), h]
  · rw [if_neg hj]
    by_cases hl : j < i
    · rw [if_pos hl, if_pos (by omega), mg_out (fun h => by have := mem_hr.mp h; omega)]
    · rw [if_neg hl, if_neg (by omega)]
theorem fP_cell {b : Nat} {ad : Nat → Nat} {n : Nat} (cA : ClassId) : vp_cell cA (n, .inr (.inr (.inr (.inr (fP b ad n))))) = vp_cell cA (n, .inr (.inr (.inr (.inr (fun j => some (ad (b + 13 * j))))))) := by
  rw [vp_cell_q, vp_cell_q]
  unfold arrV
  congr 1
  apply Array.ext
  · simp
  · intro j h1 h2
    have hj : j < n := by simpa using h1
    simp [fP, hj]
theorem va_D.via {A : Nat → Prop} {ws ws' : va_W} (h : va_D A ws) (f : Nat → Nat) (hf : ∀ (k : Nat) (q : Nat × va_E), ws'[k]? = some q → ∃ e, ws[f k]? = some (q.1, e)) (hinj : ∀ i j, i < ws'.length → j < ws'.length → f i = f j → i = j) : va_D A ws' := by
  refine ⟨fun i j x y hi hj hxy => ?_, fun k q hk => ?_⟩
  · obtain ⟨e1, h1⟩ := hf i x hi
    obtain ⟨e2, h2⟩ := hf j y hj
    exact hinj i j (List.getElem?_eq_some_iff.mp hi).1 (List.getElem?_eq_some_iff.mp hj).1 (h.1 _ _ _ _ h1 h2 hxy)
  · obtain ⟨e1, h1⟩ := hf k q hk
    exact h.2 _ (q.1, e1) h1
theorem va_P.all {D : va_G} {w : va_W} {H : Heap} : va_P D vwCl w H ↔ ∀ q, q ∈ w → va_at D vwCl q H := by
  refine ⟨fun h q hq => ?_, fun h k q hk => h q (List.mem_of_getElem? hk)⟩
  obtain ⟨k, hk⟩ := List.getElem?_of_mem hq
  exact h k q hk
/-- a cell is told anew -/
theorem re_P {D : va_G} {x : Nat × va_E} {a : Nat} {e e' : va_E} {w : va_W} {H : Heap} (h : va_P D vwCl (x :: (a, e) :: w) H) (he : va_at D vwCl (a, e) H → va_at D vwCl (a, e') H) : va_P D vwCl (x :: (a, e') :: w) H := by
  rw [va_P.all] at h ⊢
  intro q hq
  rcases List.mem_cons.mp hq with rfl | hq
  · exact h _ List.mem_cons_self
  · rcases List.mem_cons.mp hq with rfl | hq
    · exact he (h _ (List.mem_cons_of_mem _ List.mem_cons_self))
    · exact h _ (List.mem_cons_of_mem _ (List.mem_cons_of_mem _ hq))
theorem re_D {A : Nat → Prop} {x : Nat × va_E} {a : Nat} {e e' : va_E} {w : va_W} (h : va_D A (x :: (a, e) :: w)) : va_D A (x :: (a, e') :: w) := by
  refine h.via (fun k => k) (fun k q hk => ?_) (fun _ _ _ _ h => h)
  match k with
  | 0 => exact ⟨q.2, hk⟩
  | 1 =>
    rw [show (x :: (a, e') :: w)[1]? = some (a, e') from rfl] at hk
    cases hk
    exact ⟨e, rfl⟩
  | k + 2 => exact ⟨q.2, hk⟩
/-- the last cell goes to the second place -/
theorem sw_P {D : va_G} {x y : Nat × va_E} {w : va_W} {H : Heap} (h : va_P D vwCl (x :: (w ++ [y])) H) : va_P D vwCl (x :: y :: w) H := by
  rw [va_P.all] at h ⊢
  intro q hq
  apply h
  simp only [List.mem_cons, List.mem_append, List.not_mem_nil, or_false] at hq ⊢
  rcases hq with h | h | h
  · exact Or.inl h
  · exact Or.inr (Or.inr h)
  · exact Or.inr (Or.inl h)
theorem sw_D {A : Nat → Prop} {x y : Nat × va_E} {w : va_W} (h : va_D A (x :: (w ++ [y]))) : va_D A (x :: y :: w) := by
  refine h.via (fun k => if k = 0 then 0 else if k = 1 then w.length + 1 else k - 1) (fun k q hk => ⟨q.2, ?_⟩) (fun i j hi hj hij => ?_)
  · match k with
    | 0 => exact hk
    | 1 =>
      rw [show (x :: y :: w)[1]? = some y from rfl] at hk
      cases hk
      show (x :: (w ++ [y]))[w.length + 1]? = some y
      rw [List.getElem?_cons_succ, List.getElem?_append_right (Nat.le_refl _), Nat.sub_self]
      rfl
    | k + 2 =>
      have hk2 : w[k]? = some q := hk
      have hl := (List.getElem?_eq_some_iff.mp hk2).1
      show (x :: (w ++ [y]))[k + 1]? = some q
      rw [List.getElem?_cons_succ, List.getElem?_append_left hl]
      exact hk2
  · simp only [List.length_cons] at hi hj
    split at hij <;> split at hij <;> (try split at hij) <;> (try split at hij) <;> omega
section IROWS2
variable {p : Program} {l : Launch} {e : Env} {R : Room} {s : State} {m : MethodId} {args : Array Value} {below : List Frame} {meth : Method} {c : Code} {H : Heap} {locs : List Loc} {cells slots : Nat} {Q : State → Prop}
variable {cc : ByteArray} {nL : Nat} {own : String} {D : va_G} {cy : Nat → ClassId} {A : Nat → Prop} {pc : Nat} {ls : Array Slot} {rest st0 : List Value} {w : va_W} {x : Nat × va_E}
theorem GW.sw {y : Nat × va_E} (h : GW D A s (x :: (w ++ [y])) H locs) : GW D A s (x :: y :: w) H locs := ⟨sw_P h.1, sw_D h.2.1, h.2.2⟩
/-- a new house goes into the array at the second place -/
theorem i_hst (iy : IX p s m args meth c cc nL own D cy A) {qa n b i : Nat} {ad ad' : Nat → Nat} {M : Mem} {w9 : va_W} (hw : GW D A s (x :: (qa, .inl (cy 2, n, .inr (.inr (.inr (.inr (fP b ad i)))))) :: (w9 ++ wb (hs b i) cy ad M ++ wb (hr (b + 13 * i)) cy ad' M)) H locs) (hH : ∀ j, j ≤ i → isH (b + 13 * j)) {q : Nat} (hq : ad' (b + 13 * i) = q) {j : Int32} (hj : ix j = i) (hin : inB j n = true) (hdg : decode cc pc = .ok (.aastore, 1))
    (kk : ∀ (H1 : Heap) (locs1 : List Loc), GW D A s (x :: (qa, .inl (cy 2, n, .inr (.inr (.inr (.inr (fP b (mg (hr (b + 13 * i)) ad' ad) (i + 1))))))) :: (w9 ++ wb (hs b (i + 1)) cy (mg (hr (b + 13 * i)) ad' ad) M)) H1 locs1 → W p l e R s m args below meth c H1 locs1 cells slots Q (F0 m (pc + 1) ls rest)) : W p l e R s m args below meth c H locs cells slots Q (F0 m pc ls (.ref q :: .int j :: .ref qa :: rest)) := by
  obtain ⟨⟨hx, hb, hml, hown, hts⟩, hK, hA, hX⟩ := iy
  obtain ⟨hP, hD, hS⟩ := hw
  have ho := hH i (Nat.le_refl _)
  have hpl : (x :: (qa, (.inl (cy 2, n, .inr (.inr (.inr (.inr (fP b ad i))))) : va_E)) :: (w9 ++ wb (hs b i) cy ad M ++ wb (hr (b + 13 * i)) cy ad' M))[(w9 ++ wb (hs b i) cy ad M).length + 2]? = some (q, .inr (1, fH (b + 13 * i) ad' (M (b + 13 * i)))) := by
    rw [List.getElem?_cons_succ, List.getElem?_cons_succ, List.getElem?_append_right (Nat.le_refl _), Nat.sub_self, wb_wr (fun k hk => by have := mem_hr.mp hk; have h18 : 18 ≤ b + 13 * i := (by obtain ⟨i', -, e9⟩ := ho; omega); omega), wr_house ho, hq]
    rfl
  refine va_astq hx hb hK hP hD hS 1 2 _ 1 rfl rfl hpl rfl (inB_in hin) hdg (fun H1 locs1 hP hD hS => ?_)
  rw [show j.toNatClampNeg = i from hj, fP_up hq] at hP hD
  have hcl : Cl (hs b i) := Cl_hs (fun j hj => hH j (by omega))
  have hdis : ∀ k, k ∈ hs b i → k ∉ hr (b + 13 * i) := fun k h1 h2 => by
    have := mem_hs.mp h1
    have := mem_hr.mp h2
    omega
  have hm := wb_merge (cy := cy) (ad1 := ad) (ad2 := ad') (M := M) (M2 := M) hcl (Cl_house ho) hdis (fun _ _ => rfl)
  rw [List.append_assoc] at hP hD
  rw [hm] at hP hD
  exact kk H1 locs1 ⟨hP, hD, hS⟩
/-- a call of a contract over some rows alone, the rest of the world ahead of them -/
theorem i_cr (ix : IX p s m args meth c cc nL own D cy A) {w0 : va_W} {rs : List Nat} {ad : Nat → Nat} {M M' : Mem} (hw : GW D A s (w0 ++ wr rs cy ad M) H locs) {mc ms : Nat} {a : Array Value} (hr : va_Run p l e R s m args below meth c H locs cells slots mc ms (F0 m pc ls st0) rest (rQvW rs D cy ad H.size M' a) (rAA rs ad H.size))
    (kk : ∀ (H1 : Heap) (locs1 : List Loc), GW D A s (w0 ++ wr rs cy ad M') H1 locs1 → W p l e R s m args below meth c H1 locs1 (cells + mc) (slots + ms) Q (F0 m (pc + 3) ls rest)) : W p l e R s m args below meth c H locs cells slots Q (F0 m pc ls st0) := by
  obtain ⟨hP, hD, hS⟩ := hw
  have hBw : ∀ y, rAA rs ad H.size y → (∃ (k : Nat) (e : va_E), (wr rs cy ad M)[k]? = some (y, e)) ∨ H.size ≤ y := fun y hy => by
    rcases hy with ⟨k, hk, rfl⟩ | hy
    · obtain ⟨i, hi⟩ := List.getElem?_of_mem hk
      exact Or.inl ⟨i, _, wr_at hi⟩
    · exact Or.inr hy
  have hBA : ∀ y, rAA rs ad H.size y → A y := fun y hy => by
    rcases hBw y hy with ⟨k, e, hk⟩ | hy
    · exact hD.right.2 k (y, e) hk
    · exact ix.2.2.1 y (Nat.le_trans hS.1 hy)
  refine va_callv hr hS (fun y _ h => hBA y h) hBA (fun u t H1 locs1 ht hvm hw' hB hz1 hk1 hS1 => ?_)
  obtain ⟨hP1, hK1, hD1⟩ := hB
  rw [ht] at hP1
  have hj := i_join hP hD hBw hBA hk1 hP1 hD1
  exact kk H1 locs1 ⟨hj.1, hj.2, hS1⟩
end IROWS2
theorem fs0_ok : ∀ j, j < 18 → defaultValue (tyX1 j) = vp_V fs0_H j := by
  intro j hj
  rcases (show j = 0 ∨ j = 1 ∨ j = 2 ∨ j = 3 ∨ j = 4 ∨ j = 5 ∨ j = 6 ∨ j = 7 ∨ j = 8 ∨ j = 9 ∨ j = 10 ∨ j = 11 ∨ j = 12 ∨ j = 13 ∨ j = 14 ∨ j = 15 ∨ j = 16 ∨ j = 17 by omega) with rfl | rfl | rfl | rfl | rfl | rfl | rfl | rfl | rfl | rfl | rfl | rfl | rfl | rfl | rfl | rfl | rfl | rfl <;> rfl
/-! the written text is made -/
abbrev RW5 : List Nat := [5, 6]
theorem Cl_W : Cl RW5 := by
  intro k hk cy ad ad' r h
  have h6 := h 6 (by decide)
  rcases List.mem_cons.mp hk with rfl | hk
  · rw [rb_rc (by decide) (by decide), rb_rc (by decide) (by decide), isO_5.2, isO_5.2]; simp only [fW, h6]
  · rcases List.mem_cons.mp hk with rfl | hk
    · rw [rb_rc (by decide) (by decide), rb_rc (by decide) (by decide), isA_6.2, isA_6.2]
    · cases hk
theorem c_X4_init (l : Launch) (D : va_G) (cy : Nat → ClassId) (h0 sz : Nat) : Met l yX4_init (.code yX4_init cX4_init 1 none :: GB) ({ frames := 1, cells := 1, slots := 119, locals := 13 } : Room) (PcI D cy h0 3 [.null, .int 0] sz) (QcI D cy h0 sz 5 RW5 Mz) 1 119 (A1 h0 sz) := by
  refine i_mk (own := RX4) (by decide) rfl rfl (Nat.le_refl _) ?_
  intro p e s m args below meth c ls ix hrt hlk hinit hw hl hsz
  have hx := ix.1.1
  have hb := ix.1.2.1
  refine lv_aload_n hx hb dX4_init_0 rfl (lv_at hl 0 rfl) ?_
  refine i_obj ix (gb_1 195 rfl rfl) hl.1 dX4_init_1 (Nat.le_of_ble_eq_true rfl) (Nat.le_of_ble_eq_true rfl) ?_
  refine lv_aload_n hx hb dX4_init_4 rfl (lv_at hl 0 rfl) ?_
  refine lv_bipush (v := 119) hx hb dX4_init_5 (by decide) ?_
  refine i_newI ix hw 119 (by decide) (by decide) (by decide) (Nat.le_of_ble_eq_true rfl) (Nat.le_of_ble_eq_true rfl) dX4_init_7 (fun q1 H hw => ?_)
  replace hw : GW D (A1 h0 sz) s [(h0, .inr (3, [.null, .int 0])), (q1, .inl (cy 0, 119, .inl (fun _ => 0)))] H _ := hw
  refine i_putF ix hw rfl iX4 tyX4 tyX4_ok nmX4 tcX4 hinit 0 (by decide) (gb_1 196 rfl rfl) rfl (v := .ref q1) rfl rfl rfl (Nat.le_of_ble_eq_true rfl) dX4_init_9 (fun H locs hw => ?_)
  have he : wb RW5 cy (ld [h0, q1] 5) Mz = [(h0, .inr (3, [.ref q1, .int 0])), (q1, .inl (cy 0, 119, .inl (fun _ => 0)))] := rfl
  exact i_ret (ad := ld [h0, q1] 5) ix hrt hlk hw hsz rfl (by rw [he]; exact hw.1) (by rw [he]; exact hw.2.1) dX4_init_12
/-! the reader is made -/
abbrev RR1 : List Nat := [1, 2] ++ hr 31
theorem Cl_R : Cl RR1 := by
  intro k hk cy ad ad' r h
  rcases List.mem_append.mp hk with hk | hk
  · have h2 := h 2 (by decide)
    have h31 := h 31 (by decide)
    rcases List.mem_cons.mp hk with rfl | hk
    · rw [rb_rc (by decide) (by decide), rb_rc (by decide) (by decide), isO_1.2, isO_1.2]; simp only [fT, h2, h31]
    · rcases List.mem_cons.mp hk with rfl | hk
      · rw [rb_rc (by decide) (by decide), rb_rc (by decide) (by decide), isA_2.2, isA_2.2]
      · cases hk
  · exact Cl_house isH_31 k hk cy ad ad' r (fun j hj => h j (List.mem_append_right _ hj))
set_option maxHeartbeats 1000000 in
theorem c_X3_init (l : Launch) (D : va_G) (cy : Nat → ClassId) (h0 sz : Nat) : Met l yX3_init (.code yX3_init cX3_init 1 none :: GB) ({ frames := 2, cells := 14, slots := 968, locals := 33 } : Room) (PcI D cy h0 2 [.null, .null, .int 0, .int 0, .int 0, .int 0, .int 0] sz) (QcI D cy h0 sz 1 RR1 Mz) 14 968 (A1 h0 sz) := by
  refine i_mk (own := RX3) (by decide) rfl rfl (Nat.le_of_ble_eq_true rfl) ?_
  intro p e s m args below meth c ls ix hrt hlk hinit hw hl hsz
  have hx := ix.1.1
  have hb := ix.1.2.1
  refine lv_aload_n hx hb dX3_init_0 rfl (lv_at hl 0 rfl) ?_
  refine i_obj ix (gb_1 141 rfl rfl) hl.1 dX3_init_1 (Nat.le_of_ble_eq_true rfl) (Nat.le_of_ble_eq_true rfl) ?_
  refine lv_aload_n hx hb dX3_init_4 rfl (lv_at hl 0 rfl) ?_
  refine lv_sipush (v := 800) hx hb dX3_init_5 (by decide) ?_
  refine i_newI ix hw 800 (by decide) (by decide) (by decide) (Nat.le_of_ble_eq_true rfl) (Nat.le_of_ble_eq_true rfl) dX3_init_8 (fun q1 H hw => ?_)
  replace hw : GW D (A1 h0 sz) s [(h0, .inr (2, [.null, .null, .int 0, .int 0, .int 0, .int 0, .int 0])), (q1, .inl (cy 0, 800, .inl (fun _ => 0)))] H _ := hw
  refine i_putF ix hw rfl iX3 tyX3 tyX3_ok nmX3 tcX3 hinit 0 (by decide) (gb_1 144 rfl rfl) rfl (v := .ref q1) rfl rfl rfl (Nat.le_of_ble_eq_true rfl) dX3_init_10 (fun H locs hw => ?_)
  replace hw : GW D (A1 h0 sz) s [(h0, .inr (2, [.ref q1, .null, .int 0, .int 0, .int 0, .int 0, .int 0])), (q1, .inl (cy 0, 800, .inl (fun _ => 0)))] H _ := hw
  refine lv_aload_n hx hb dX3_init_13 rfl (lv_at hl 0 rfl) ?_
  refine i_new ix hw (ci := 1) (C := RX1) (T := TX1) (N := 18) rfl iX1 tyX1 tyX1_ok (gb_1 142 rfl rfl) (gb_1 31 rfl rfl) wd1_2 fs0_H fs0_ok (Nat.le_of_ble_eq_true rfl) (Nat.le_of_ble_eq_true rfl) dX3_init_14 (fun q2 H hw => ?_)
  refine lv_dup hx hb dX3_init_17 rfl ?_
  refine i_cv ix hw (i_runN (rest := [.ref q2, .ref h0]) ix hw (c_X1_init l D cy 31 isH_31 q2 H.size) (by decide +kernel) (gb_1 33 rfl rfl) wd1_2 (gb_1 34 rfl rfl) rfl (by decide +kernel) rfl (Nat.le_of_ble_eq_true rfl) hl.1 ⟨Nat.le_of_ble_eq_true rfl, Nat.le_of_ble_eq_true rfl⟩ ⟨Nat.le_of_ble_eq_true rfl, Nat.le_of_ble_eq_true rfl⟩ dX3_init_18) (fun ad H locs hq hw => ?_)
  replace hw : GW D (A1 h0 sz) s ((h0, .inr (2, [.ref q1, .null, .int 0, .int 0, .int 0, .int 0, .int 0])) :: (q1, .inl (cy 0, 800, .inl (fun _ => 0))) :: wb (hr 31) cy ad Mz) H _ := hw
  refine i_putF ix hw rfl iX3 tyX3 tyX3_ok nmX3 tcX3 hinit 1 (by decide) (gb_1 145 rfl rfl) rfl (v := .ref q2) rfl rfl rfl (Nat.le_of_ble_eq_true rfl) dX3_init_21 (fun H locs hw => ?_)
  replace hw : GW D (A1 h0 sz) s ((h0, .inr (2, [.ref q1, .ref q2, .int 0, .int 0, .int 0, .int 0, .int 0])) :: (q1, .inl (cy 0, 800, .inl (fun _ => 0))) :: wb (hr 31) cy ad Mz) H _ := hw
  refine lv_aload_n hx hb dX3_init_24 rfl (lv_at hl 0 rfl) ?_
  refine lv_iconst (v := -1) hx hb dX3_init_25 (by decide) ?_
  refine i_put ix hw rfl iX3 tyX3 tyX3_ok nmX3 tcX3 4 (by decide) (gb_1 151 rfl rfl) rfl (Nat.le_of_ble_eq_true rfl) dX3_init_26 (fun H locs hw => ?_)
  replace hw : GW D (A1 h0 sz) s ((h0, .inr (2, [.ref q1, .ref q2, .int 0, .int 0, .int (-1), .int 0, .int 0])) :: (q1, .inl (cy 0, 800, .inl (fun _ => 0))) :: wb (hr 31) cy ad Mz) H _ := hw
  have he : wb RR1 cy (mg (hr 31) ad (ld [h0, q1] 1)) Mz = (h0, .inr (2, [.ref q1, .ref q2, .int 0, .int 0, .int (-1), .int 0, .int 0])) :: (q1, .inl (cy 0, 800, .inl (fun _ => 0))) :: wb (hr 31) cy ad Mz := by
    rw [show RR1 = [1, 2] ++ hr 31 from rfl, wb_app, wb_congr (Cl_house isH_31) (ad := mg (hr 31) ad (ld [h0, q1] 1)) (ad' := ad) (M := Mz) (M' := Mz) (fun k hk => mg_in hk) (fun _ _ => rfl)]
    rw [← hq]
    rfl
  exact i_ret (ad := mg (hr 31) ad (ld [h0, q1] 1)) ix hrt hlk hw hsz rfl (by rw [he]; exact hw.1) (by rw [he]; exact hw.2.1) dX3_init_29
/-! the history is made -/
abbrev RY3 : List Nat := [3, 4] ++ hs 44 8
theorem isH_p : ∀ j, j < 8 → isH (44 + 13 * j) := fun _ h => isH_past h
theorem isH_s : ∀ j, j < 2 → isH (148 + 13 * j) := fun _ h => isH_saved h
theorem Cl_Y : Cl RY3 := by
  intro k hk cy ad ad' r h
  rcases List.mem_append.mp hk with hk | hk
  · rcases List.mem_cons.mp hk with rfl | hk
    · rw [rb_rc (by decide) (by decide), rb_rc (by decide) (by decide), isO_3.2, isO_3.2]
      simp only [fY, h 4 (List.mem_append_left _ (by decide))]
    · rw [List.mem_singleton.mp hk]
      have hf : fP 44 ad 8 = fP 44 ad' 8 := by
        funext j
        unfold fP
        by_cases hj : j < 8
        · rw [if_pos hj, if_pos hj, h _ (List.mem_append_right _ (mem_hs.mpr ⟨by omega, by omega⟩))]
        · rw [if_neg hj, if_neg hj]
      show Sum.inl (cy 2, 8, Sum.inr (Sum.inr (Sum.inr (Sum.inr (fP 44 ad 8))))) = _
      rw [hf]
      rfl
  · exact Cl_hs isH_p k hk cy ad ad' r (fun j hj => h j (List.mem_append_right _ hj))
set_option maxHeartbeats 1000000 in
theorem c_X0_init (l : Launch) (D : va_G) (cy : Nat → ClassId) (h0 sz : Nat) : Met l yX0_init (.code yX0_init cX0_init 2 none :: GB) ({ frames := 2, cells := 105, slots := 1352, locals := 34 } : Room) (PcI D cy h0 0 [.null, .int 0, .int 0] sz) (QcI D cy h0 sz 3 RY3 Mz) 105 1352 (A1 h0 sz) := by
  refine i_mk (own := RX0) (by decide) rfl rfl (Nat.le_of_ble_eq_true rfl) ?_
  intro p e s m args below meth c ls ix hrt hlk hinit hw hl hsz
  have hx := ix.1.1
  have hb := ix.1.2.1
  have hloop : ∀ (qa n i : Nat), i + n = 8 → ∀ (ad : Nat → Nat) (H : Heap) (locs : List Loc) (ls : Array Slot), lv_has ls 2 [(1, .int (nI i)), (0, .ref h0)] → GW D (A1 h0 sz) s ((h0, .inr (0, [.ref qa, .int 0, .int 0])) :: (qa, .inl (cy 2, 8, .inr (.inr (.inr (.inr (fP 44 ad i)))))) :: ([] ++ wb (hs 44 i) cy ad Mz)) H locs →
      W p l e ({ frames := 2, cells := 105, slots := 1352, locals := 34 } : Room) s m args below meth c H locs (1 + 13 * i) (8 + 168 * i) (MQ below (QcI D cy h0 sz 3 RY3 Mz) args s 105 1352 (A1 h0 sz)) (F0 m 15 ls []) := by
    intro qa n
    induction n with
    | zero =>
      intro i hi ad H locs ls hl hw
      obtain rfl : i = 8 := by omega
      refine lv_iload_n hx hb dX0_init_15 rfl (lv_at hl 0 rfl) ?_
      refine lv_bipush (v := 8) hx hb dX0_init_16 (by decide) ?_
      refine lv_icmp_ge (tgt := 40) hx hb dX0_init_18 (by decide) (fun hc => ?_) (fun hc => absurd (by decide) hc)
      have he : wb RY3 cy (mg [3, 4] (ld [h0, qa] 3) ad) Mz = (h0, .inr (0, [.ref qa, .int 0, .int 0])) :: (qa, .inl (cy 2, 8, .inr (.inr (.inr (.inr (fP 44 ad 8)))))) :: ([] ++ wb (hs 44 8) cy ad Mz) := by
        rw [show RY3 = [3, 4] ++ hs 44 8 from rfl, wb_app, wb_congr (Cl_hs isH_p) (ad := mg [3, 4] (ld [h0, qa] 3) ad) (ad' := ad) (M := Mz) (M' := Mz) (fun k hk => mg_out (fun h => by
          have := mem_hs.mp hk
          simp only [List.mem_cons, List.not_mem_nil, or_false] at h
          omega)) (fun _ _ => rfl)]
        have hf : fP 44 (mg [3, 4] (ld [h0, qa] 3) ad) 8 = fP 44 ad 8 := by
          funext j
          unfold fP
          rw [mg_out (fun h => by simp only [List.mem_cons, List.not_mem_nil, or_false] at h; omega)]
        rw [← hf]
        rfl
      exact i_ret (ad := mg [3, 4] (ld [h0, qa] 3) ad) ix hrt hlk hw hsz rfl (by rw [he]; exact hw.1) (by rw [he]; exact hw.2.1) dX0_init_40
    | succ n ih =>
      intro i hi ad H locs ls hl hw
      have hi8 : i < 8 := by omega
      refine lv_iload_n hx hb dX0_init_15 rfl (lv_at hl 0 rfl) ?_
      refine lv_bipush (v := 8) hx hb dX0_init_16 (by decide) ?_
      refine lv_icmp_ge (tgt := 40) hx hb dX0_init_18 (by decide) (fun hc => absurd hc (by rcases (show i = 0 ∨ i = 1 ∨ i = 2 ∨ i = 3 ∨ i = 4 ∨ i = 5 ∨ i = 6 ∨ i = 7 by omega) with rfl | rfl | rfl | rfl | rfl | rfl | rfl | rfl <;> decide)) (fun hc => ?_)
      refine lv_aload_n hx hb dX0_init_21 rfl (lv_at hl 1 rfl) ?_
      refine i_get ix hw rfl iX0 tcX0 0 (by decide) (gb_1 179 rfl rfl) (v := .ref qa) rfl dX0_init_22 ?_
      refine lv_iload_n hx hb dX0_init_25 rfl (lv_at hl 0 rfl) ?_
      refine i_new ix hw (ci := 1) (C := RX1) (T := TX1) (N := 18) rfl iX1 tyX1 tyX1_ok (gb_1 176 rfl rfl) (gb_1 31 rfl rfl) wd1_2 fs0_H fs0_ok (by show 1 + 13 * i + 1 ≤ 105; omega) (by show 8 + 168 * i + 18 ≤ 1352; omega) dX0_init_26 (fun q2 H hw => ?_)
      refine lv_dup hx hb dX0_init_29 rfl ?_
      refine i_cv ix hw (i_runN (rest := [.ref q2, .int (nI i), .ref qa]) ix hw (c_X1_init l D cy (44 + 13 * i) (isH_p i hi8) q2 H.size) (by decide +kernel) (gb_1 33 rfl rfl) wd1_2 (gb_1 34 rfl rfl) rfl (by decide +kernel) rfl (Nat.le_of_ble_eq_true rfl) hl.1 ⟨Nat.le_of_ble_eq_true rfl, Nat.le_of_ble_eq_true rfl⟩ ⟨by show 1 + 13 * i + 1 + 12 ≤ 105; omega, by show 8 + 168 * i + 18 + 150 ≤ 1352; omega⟩ dX0_init_30) (fun ad' H locs hq hw => ?_)
      refine i_hst (w9 := []) ix (by simpa only [List.cons_append, List.nil_append] using hw) (fun j hj => isH_p j (by omega)) hq (ix_nI (by omega)) (inB_nI hi8 (by decide)) dX0_init_33 (fun H locs hw => ?_)
      refine lv_iinc (v := nI (i + 1)) (lv' := [(1, .int (nI (i + 1))), (0, .ref h0)]) hx hb dX0_init_34 hl (k := 0) rfl (nI_succ i).symm (by decide) rfl (fun ls hl => ?_)
      refine lv_goto (tgt := 15) hx hb dX0_init_37 (by decide) ?_
      exact W.widen (by omega) (by omega) (ih (i + 1) (by omega) _ H locs ls hl hw)
  refine lv_aload_n hx hb dX0_init_0 rfl (lv_at hl 0 rfl) ?_
  refine i_obj ix (gb_1 175 rfl rfl) hl.1 dX0_init_1 (Nat.le_of_ble_eq_true rfl) (Nat.le_of_ble_eq_true rfl) ?_
  refine lv_aload_n hx hb dX0_init_4 rfl (lv_at hl 0 rfl) ?_
  refine lv_bipush (v := 8) hx hb dX0_init_5 (by decide) ?_
  refine i_newQ ix hw 8 (gb_1 176 rfl rfl) (by decide) (by decide) (by decide) (Nat.le_of_ble_eq_true rfl) (Nat.le_of_ble_eq_true rfl) dX0_init_7 (fun qa H hw => ?_)
  replace hw : GW D (A1 h0 sz) s [(h0, .inr (0, [.null, .int 0, .int 0])), (qa, .inl (cy 2, 8, .inr (.inr (.inr (.inr (fun _ => none))))))] H _ := hw
  refine i_putF ix hw rfl iX0 tyX0 tyX0_ok nmX0 tcX0 hinit 0 (by decide) (gb_1 179 rfl rfl) rfl (v := .ref qa) rfl rfl rfl (Nat.le_of_ble_eq_true rfl) dX0_init_10 (fun H locs hw => ?_)
  have e0 : fP 44 (fun _ => 0) 0 = fun _ => none := by funext j; simp [fP]
  replace hw : GW D (A1 h0 sz) s ((h0, .inr (0, [.ref qa, .int 0, .int 0])) :: (qa, .inl (cy 2, 8, .inr (.inr (.inr (.inr (fP 44 (fun _ => 0) 0)))))) :: ([] ++ wb (hs 44 0) cy (fun _ => 0) Mz)) H locs := by rw [e0]; exact hw
  refine lv_iconst (v := 0) hx hb dX0_init_13 (by decide) ?_
  refine lv_istore_n (lv' := [(1, .int (nI 0)), (0, .ref h0)]) hx hb dX0_init_14 rfl hl (by decide) rfl (fun ls hl => ?_)
  exact hloop qa 8 0 rfl _ H locs ls hl hw
