/-! LOAD: names, and who bears them -/
theorem ishl5 {a l : Nat} (ha : a < 2 ^ 25) (hl : l < 32) : (ishl (nI a) 5) ||| nI l = nI (32 * a + l) := by
  apply Int32.toBitVec_inj.mp
  rw [Int32.toBitVec_or]
  have e1 : (ishl (nI a) 5).toBitVec = (BitVec.ofNat 32 a) <<< 5 := congrArg (fun k : Nat => (BitVec.ofNat 32 a) <<< k) (show ((5 &&& 31 : Int32).toBitVec.smod 32).toNat = 5 from by decide)
  apply BitVec.eq_of_toNat_eq
  rw [BitVec.toNat_or, e1, BitVec.toNat_shiftLeft]
  show ((BitVec.ofNat 32 a).toNat <<< 5) % 2 ^ 32 ||| (BitVec.ofNat 32 l).toNat = (BitVec.ofNat 32 (32 * a + l)).toNat
  have h1 : a % 2 ^ 32 = a := Nat.mod_eq_of_lt (by omega)
  have h2 : l % 2 ^ 32 = l := Nat.mod_eq_of_lt (by omega)
  have h3 : (32 * a + l) % 2 ^ 32 = 32 * a + l := Nat.mod_eq_of_lt (by omega)
  rw [BitVec.toNat_ofNat, BitVec.toNat_ofNat, BitVec.toNat_ofNat, h1, h2, h3]
  have h4 : a <<< 5 = 32 * a := by rw [Nat.shiftLeft_eq]; omega
  have h5 : a <<< 5 % 2 ^ 32 = a <<< 5 := Nat.mod_eq_of_lt (by omega)
  rw [h5, ← Nat.shiftLeft_add_eq_or_of_lt (i := 5) hl a, h4]
def nm (tx : Nat → Nat) (s d : Nat) : List Nat := (List.range d).map (fun i => tx (s + i) - 96)
theorem nm_s (tx : Nat → Nat) (s d : Nat) : nm tx s (d + 1) = nm tx s d ++ [tx (s + d) - 96] := by
  unfold nm
  rw [List.range_succ, List.map_append]
  rfl
theorem nm_len (tx : Nat → Nat) (s d : Nat) : (nm tx s d).length = d := by simp [nm]
theorem nm_dg {tx : Nat → Nat} {s e d : Nat} (h : ∀ k, s ≤ k → k < e → lwr (tx k) = true) (hd : s + d ≤ e) : dgOK (nm tx s d) := fun x hx => by
  obtain ⟨i, hi, rfl⟩ := List.mem_map.mp hx
  have hi := List.mem_range.mp hi
  have := lwr_t.mp (h (s + i) (by omega) (by omega))
  show 1 ≤ tx (s + i) - 96 ∧ tx (s + i) - 96 ≤ 26
  omega
theorem f32_pos {ls : List Nat} (h : nmOK ls) : 1 ≤ f32 ls := by
  rcases snoc_cases ls with rfl | ⟨l', b, rfl⟩
  · exact absurd h.1 (by decide)
  · have hb := h.2.2 b (List.mem_append_right _ (List.mem_singleton.mpr rfl))
    show 1 ≤ fB 32 (l' ++ [b])
    rw [fB_snoc]
    omega
section NA
variable {A0 B0 A B : Mem} {nb : Nat} {tx : Nat → Nat} {s e : Nat}
theorem X3_nm (hT : TX A0 B0 nb tx) (h : TS A0 B0 nb tx A B s e) (hr : ∀ k, s ≤ k → k < e → lwr (tx k) = true) (h6 : e - s ≤ 6) : lp (fun _ _ _ => none) f_X3_nameHere_48 FU 0 (nI s) A = some (nI (f32 (nm tx s (e - s))), A) := by
  have hle := h.le
  have hn := hT.1
  have tA := h.1.tA hT
  have key := lp_run (z := fun _ _ _ => none) (b := f_X3_nameHere_48) (fun k r => r (nI (fB 32 (nm tx s (k - s)))) (nI k) A = some (nI (fB 32 (nm tx s (e - s))), A)) hle.1 (f := FU) (fun r => ?_) (fun k r h1 h2 ih => ?_) (by rw [FU_eq]; omega)
  · rw [Nat.sub_self] at key
    exact key
  · unfold f_X3_nameHere_48
    rw [h.1.2.2.2.2.1, if_pos (le_self_nI e)]
  · obtain ⟨t1, t2⟩ := tA k (by omega)
    have q := lwr_t.mp (hr k h1 h2)
    have hb : fB 32 (nm tx s (k - s)) < 2 ^ 25 := by
      have q1 : fB 32 (nm tx s (k - s)) < 32 ^ (nm tx s (k - s)).length := fB_lt (by decide) (nm_dg hr (by omega))
      have q2 : 32 ^ (nm tx s (k - s)).length ≤ 32 ^ 5 := Nat.pow_le_pow_right (by decide) (by rw [nm_len]; omega)
      exact Nat.lt_of_lt_of_le q1 q2
    unfold f_X3_nameHere_48 f_X2_with
    rw [h.1.2.2.2.2.1, if_neg (not_le_nI h2 (by omega)), ev_chk (inB_nI (show k < 800 by omega) (by decide)), ix_nI (by omega), t1, show (96 : Int32) = nI 96 from rfl, nI_sub (by omega), ishl5 hb (by omega), bnd_some, ← nI_succ k, ← ih, show k + 1 - s = (k - s) + 1 by omega, nm_s, fB_snoc, show s + (k - s) = k by omega]
theorem X6_nm (hT : TX A0 B0 nb tx) (h : TS A0 B0 nb tx A B s e) (hr : ∀ k, s ≤ k → k < e → lwr (tx k) = true) : f_X6_nameHere_34 B = some (nI (f27 (nm tx s (e - s))), B) := by
  have hle := h.le
  have hn := hT.1
  have tB := h.1.tB hT
  have w0 := h.w0
  have key := lp_run (z := fun _ _ _ => none) (b := f_X6_nameHere_41) (fun k r => r (nI (fB 27 (nm tx s (k - s)))) (nI k) B = some (nI (fB 27 (nm tx s (e - s))), B)) hle.1 (f := FU) (fun r => ?_) (fun k r h1 h2 ih => ?_) (by rw [FU_eq]; omega)
  · rw [Nat.sub_self] at key
    unfold f_X6_nameHere_34
    rw [h.2.2.1]
    exact key
  · unfold f_X6_nameHere_41
    rw [h.1.2.2.2.2.2.1, if_pos (le_self_nI e)]
  · obtain ⟨t1, t2⟩ := tB k (by omega)
    have q := lwr_t.mp (hr k h1 h2)
    unfold f_X6_nameHere_41
    rw [h.1.2.2.2.2.2.1, if_neg (not_le_nI h2 (by omega)), if_pos w0, ev_chk (inB_nI (show k < 800 by omega) (by decide)), ix_nI (by omega), t1, show (97 : Int32) = nI 97 from rfl, nI_sub (by omega), ← nI_succ (tx k - 97), show (27 : Int32) = nI 27 from rfl, nI_mul, nI_add, ← nI_succ k, ← ih, show k + 1 - s = (k - s) + 1 by omega, nm_s, fB_snoc, show s + (k - s) = k by omega, show tx k - 97 + 1 = tx k - 96 by omega]
theorem S_name (hT : TX A0 B0 nb tx) (h : TS A0 B0 nb tx A B s e) : (∃ ls, nmOK ls ∧ f_X3_nameHere A = some (nI (f32 ls), A) ∧ f_X6_nameHere B = some (nI (f27 ls), B) ∧ s < e ∧ B 9 13 = 0) ∨ (∃ A' B' x, f_X3_nameHere A = some (0, A') ∧ f_X6_nameHere B = some (x, B') ∧ ER A0 B0 A' B' ∧ RA A A' ∧ RB B B') := by
  have hle := h.le
  have hn := hT.1
  have hfb := fb_lt hT s
  have w0 := h.w0
  have h11 := h.2.2.1
  have h12 := h.1.2.2.2.2.2.1
  obtain ⟨kd, hg, g2, g3⟩ := h.2.2.2
  obtain ⟨k1, k2, k3, k4, k5, k6⟩ := hg.kind
  have bad : f_X3_nameHere A = f_X3_nameHere_32 A → f_X6_nameHere B = f_X6_nameHere_28 B → (∃ A' B' x, f_X3_nameHere A = some (0, A') ∧ f_X6_nameHere B = some (x, B') ∧ ER A0 B0 A' B' ∧ RA A A' ∧ RB B B') := fun c1 c2 => by
    obtain ⟨A', B', n1, n2, n3, n4, n5⟩ := S_fail h (c := -2) (by decide)
    refine ⟨A', B', 0, ?_, ?_, n3, n4, n5⟩
    · rw [c1]
      unfold f_X3_nameHere_32
      rw [ev_bnd2 n1]
    · rw [c2]
      unfold f_X6_nameHere_28
      rw [ev_bnd n2, er_name34 n3.2.2.2.2.1]
  have e3 : f_X3_nameHere A = (if nI (fb nb tx s) < 97 then f_X3_nameHere_32 A else if 122 < nI (fb nb tx s) then f_X3_nameHere_32 A else if nI (e - s) ≤ 6 then lp (fun _ _ _ => none) f_X3_nameHere_48 FU 0 (nI s) A else f_X3_nameHere_32 A) := by
    unfold f_X3_nameHere
    rw [ev_bnd (X3_fb hT h), ev_bnd (X3_fb hT h), h.2.1, h.1.2.2.2.2.1, nI_sub hle.1]
  have e6 : f_X6_nameHere B = (if nI kd = 0 then (if nI (e - s) ≤ 6 then f_X6_nameHere_34 B else f_X6_nameHere_28 B) else f_X6_nameHere_28 B) := by
    unfold f_X6_nameHere
    rw [if_pos w0, g2, h12, h11, nI_sub hle.1]
  by_cases hk : kd = 0
  · have hrun : s < e ∧ ∀ k, s ≤ k → k < e → lwr (tx k) = true := by
      rcases hg with ⟨rfl, -⟩ | ⟨-, r1, -, r2, -⟩ | ⟨rfl, -⟩ | ⟨rfl, -⟩
      · cases hk
      · exact ⟨r1, r2⟩
      · cases hk
      · cases hk
    rw [decide_eq_true hk] at k1
    have q := lwr_t.mp k1
    have i1 : ¬ nI (fb nb tx s) < (97 : Int32) := nI_nlt (b := 97) q.1 (by omega)
    have i2 : ¬ (122 : Int32) < nI (fb nb tx s) := nI_nlt (a := 122) q.2 (by decide)
    have i0 : nI kd = (0 : Int32) := by rw [hk]; rfl
    rw [if_neg i1, if_neg i2] at e3
    rw [if_pos i0] at e6
    by_cases h6 : e - s ≤ 6
    · left
      have i6 : nI (e - s) ≤ (6 : Int32) := (nI_leI (b := 6) (by omega) (by decide)).mpr h6
      rw [if_pos i6, X3_nm hT h hrun.2 h6] at e3
      rw [if_pos i6, X6_nm hT h hrun.2] at e6
      exact ⟨_, ⟨by rw [nm_len]; omega, by rw [nm_len]; exact h6, nm_dg hrun.2 (by omega)⟩, e3, e6, hrun.1, by rw [g2]; exact i0⟩
    · right
      have i6 : ¬ nI (e - s) ≤ (6 : Int32) := not_le_nI (b := 6) (by omega) (by omega)
      rw [if_neg i6] at e3 e6
      exact bad e3 e6
  · right
    rw [if_neg (show ¬ nI kd = (0 : Int32) from fun q => hk (nI_inj (b := 0) (by omega) (by decide) q))] at e6
    refine bad ?_ e6
    rw [decide_eq_false hk] at k1
    rw [e3]
    rcases lwr_f.mp k1 with q | q
    · rw [if_pos (show nI (fb nb tx s) < (97 : Int32) from (nI_ltI (b := 97) (by omega) (by decide)).mpr q)]
    · rw [if_neg (show ¬ nI (fb nb tx s) < (97 : Int32) from nI_nlt (b := 97) (by omega) (by omega)), if_pos (show (122 : Int32) < nI (fb nb tx s) from (nI_ltI (a := 122) (by decide) (by omega)).mpr q)]
end NA
/-! who bears a name -/
def fnd (g : Nat → Bool) : Nat → Nat → Int32
  | 0, _ => -1
  | d + 1, k => if g k = true then nI k else fnd g d (k + 1)
theorem fnd_t {g : Nat → Bool} {d k : Nat} (h : g k = true) : fnd g (d + 1) k = nI k := if_pos h
theorem fnd_f {g : Nat → Bool} {d k : Nat} (h : ¬ g k = true) : fnd g (d + 1) k = fnd g d (k + 1) := if_neg h
theorem fnd_ok (g : Nat → Bool) : ∀ (d k : Nat), fnd g d k = -1 ∨ ∃ j, k ≤ j ∧ j < k + d ∧ fnd g d k = nI j
  | 0, _ => Or.inl rfl
  | d + 1, k => by
    by_cases h : g k = true
    · exact Or.inr ⟨k, Nat.le_refl _, by omega, fnd_t h⟩
    · rw [fnd_f h]
      rcases fnd_ok g d (k + 1) with q | ⟨j, q1, q2, q3⟩
      · exact Or.inl q
      · exact Or.inr ⟨j, by omega, by omega, q3⟩
theorem fnd_congr {g g' : Nat → Bool} : ∀ (d k : Nat), (∀ j, k ≤ j → j < k + d → g j = g' j) → fnd g d k = fnd g' d k
  | 0, _, _ => rfl
  | d + 1, k, h => by
    have h0 := h k (Nat.le_refl _) (by omega)
    by_cases q : g k = true
    · rw [fnd_t q, fnd_t (h0 ▸ q)]
    · rw [fnd_f q, fnd_f (h0 ▸ q)]
      exact fnd_congr d (k + 1) (fun j h1 h2 => h j (by omega) (by omega))
section FI
variable {M : Mem} {o m n t : Nat} {v : Nat → Int32}
theorem X1_needNamed (h : HR M o v m n) (w : VV v m n t) (x : Int32) : f_X1_needNamed o x M = some (fnd (fun k => decide (M (o + 9) k = x)) n 0) := by
  have h8 := w.n8
  refine lp_dn (z := fun _ _ => none) (b := f_X1_needNamed_2 o M) (fun k r => r x (nI k) = some (fnd (fun k => decide (M (o + 9) k = x)) (n - k) k)) n (fun r => ?_) (fun k r hk ih => ?_) 0 FU (by omega) (by rw [FU_eq]; omega)
  · unfold f_X1_needNamed_2
    rw [h.1.2.1, w.e1, if_pos (le_self_nI n), Nat.sub_self]
    rfl
  · unfold f_X1_needNamed_2
    rw [h.1.2.1, w.e1, if_neg (not_le_nI hk (by omega)), ev_chk (inB_nI (show k < 8 by omega) (by decide)), ix_nI (by omega), ← nI_succ, ih, show n - k = (n - (k + 1)) + 1 by omega]
    by_cases q : M (o + 9) k = x
    · rw [if_pos q, fnd_t (decide_eq_true q)]
    · rw [if_neg q, fnd_f (fun z => q (of_decide_eq_true z))]
theorem X1_monkNamed (h : HR M o v m n) (w : VV v m n t) (x : Int32) : f_X1_monkNamed o x M = some (fnd (fun k => decide (M (o + 1) k = x)) m 0) := by
  have h12 := w.m12
  refine lp_dn (z := fun _ _ => none) (b := f_X1_monkNamed_2 o M) (fun k r => r x (nI k) = some (fnd (fun k => decide (M (o + 1) k = x)) (m - k) k)) m (fun r => ?_) (fun k r hk ih => ?_) 0 FU (by omega) (by rw [FU_eq]; omega)
  · unfold f_X1_monkNamed_2
    rw [h.1.1, w.e0, if_pos (le_self_nI m), Nat.sub_self]
    rfl
  · unfold f_X1_monkNamed_2
    rw [h.1.1, w.e0, if_neg (not_le_nI hk (by omega)), ev_chk (inB_nI (show k < 12 by omega) (by decide)), ix_nI (by omega), ← nI_succ, ih, show m - k = (m - (k + 1)) + 1 by omega]
    by_cases q : M (o + 1) k = x
    · rw [if_pos q, fnd_t (decide_eq_true q)]
    · rw [if_neg q, fnd_f (fun z => q (of_decide_eq_true z))]
theorem X6_needNamed (hv : M 10 = v) (w : VV v m n t) (y : Int32) : f_X6_needNamed y M = some (fnd (fun k => decide (v (44 + 2 * k) = y)) n 0) := by
  have h8 := w.n8
  refine lp_dn (z := fun _ _ => none) (b := f_X6_needNamed_2 M) (fun k r => r y (nI k) = some (fnd (fun k => decide (v (44 + 2 * k) = y)) (n - k) k)) n (fun r => ?_) (fun k r hk ih => ?_) 0 FU (by omega) (by rw [FU_eq]; omega)
  · unfold f_X6_needNamed_2
    rw [hv, w.e1, if_pos (le_self_nI n), Nat.sub_self]
    rfl
  · unfold f_X6_needNamed_2
    rw [hv, w.e1, if_neg (not_le_nI hk (by omega)), show (2 : Int32) = nI 2 from rfl, nI_mul, show (44 : Int32) = nI 44 from rfl, nI_add, ev_chk (inB_nI (show 44 + 2 * k < 156 by omega) (by decide)), ix_nI (by omega), ← nI_succ, ih, show n - k = (n - (k + 1)) + 1 by omega]
    by_cases q : v (44 + 2 * k) = y
    · rw [if_pos q, fnd_t (decide_eq_true q)]
    · rw [if_neg q, fnd_f (fun z => q (of_decide_eq_true z))]
theorem X6_monkNamed (hv : M 10 = v) (w : VV v m n t) (y : Int32) : f_X6_monkNamed y M = some (fnd (fun k => decide (v (60 + 8 * k) = y)) m 0) := by
  have h12 := w.m12
  refine lp_dn (z := fun _ _ => none) (b := f_X6_monkNamed_2 M) (fun k r => r y (nI k) = some (fnd (fun k => decide (v (60 + 8 * k) = y)) (m - k) k)) m (fun r => ?_) (fun k r hk ih => ?_) 0 FU (by omega) (by rw [FU_eq]; omega)
  · unfold f_X6_monkNamed_2
    rw [hv, w.e0, if_pos (le_self_nI m), Nat.sub_self]
    rfl
  · unfold f_X6_monkNamed_2
    rw [hv, w.e0, if_neg (not_le_nI hk (by omega)), ev_bnd (ev_moc (M := M) 0 (c := 0) (d := 60 + 8 * k) rfl (by omega)), ev_chk (inB_nI (show 60 + 8 * k < 156 by omega) (by decide)), ix_nI (by omega), ← nI_succ, ih, show m - k = (m - (k + 1)) + 1 by omega]
    by_cases q : v (60 + 8 * k) = y
    · rw [if_pos q, fnd_t (decide_eq_true q)]
    · rw [if_neg q, fnd_f (fun z => q (of_decide_eq_true z))]
end FI
section FS
variable {A0 B0 A B : Mem} {nb : Nat} {tx : Nat → Nat} {s e o m n t : Nat} {v : Nat → Int32}
theorem S_fneed (h : HR A o v m n) (w : VV v m n t) (hv : B 10 = v) {ls : List Nat} (hl : nmOK ls) : ∃ q, f_X1_needNamed o (nI (f32 ls)) A = some q ∧ f_X6_needNamed (nI (f27 ls)) B = some q ∧ (q = -1 ∨ ∃ j, j < n ∧ q = nI j) := by
  refine ⟨_, X1_needNamed h w _, ?_, ?_⟩
  · rw [X6_needNamed hv w]
    refine congrArg some (fnd_congr n 0 (fun j _ hj => ?_)).symm
    exact decide_eq_decide.mpr ((h.2.2.2.1 j (by omega)).1.iff ⟨ls, hl, rfl, rfl⟩)
  · rcases fnd_ok (fun k => decide (A (o + 9) k = nI (f32 ls))) n 0 with q | ⟨j, q1, q2, q3⟩
    · exact Or.inl q
    · exact Or.inr ⟨j, by omega, q3⟩
theorem S_fmonk (h : HR A o v m n) (w : VV v m n t) (hv : B 10 = v) {ls : List Nat} (hl : nmOK ls) : ∃ q, f_X1_monkNamed o (nI (f32 ls)) A = some q ∧ f_X6_monkNamed (nI (f27 ls)) B = some q ∧ (q = -1 ∨ ∃ j, j < m ∧ q = nI j) := by
  refine ⟨_, X1_monkNamed h w _, ?_, ?_⟩
  · rw [X6_monkNamed hv w]
    refine congrArg some (fnd_congr m 0 (fun j _ hj => ?_)).symm
    exact decide_eq_decide.mpr ((h.2.2.2.2 j (by omega)).1.iff ⟨ls, hl, rfl, rfl⟩)
  · rcases fnd_ok (fun k => decide (A (o + 1) k = nI (f32 ls))) m 0 with q | ⟨j, q1, q2, q3⟩
    · exact Or.inl q
    · exact Or.inr ⟨j, by omega, q3⟩
/-! the reference behind an error -/
theorem er_needNamed (hk : okB B) (y : Int32) : ∃ q, f_X6_needNamed y B = some q := by
  obtain ⟨m, n, t, w⟩ := hk
  exact ⟨_, X6_needNamed rfl w y⟩
theorem er_monkNamed (hk : okB B) (y : Int32) : ∃ q, f_X6_monkNamed y B = some q := by
  obtain ⟨m, n, t, w⟩ := hk
  exact ⟨_, X6_monkNamed rfl w y⟩
theorem er_needHere (h : ER A0 B0 A B) : ∃ q, f_X6_needHere B = some (q, B) := by
  have hE := h.2.2.2.2.1
  obtain ⟨q, hq⟩ := er_needNamed h.2.2.1 0
  refine ⟨q, ?_⟩
  unfold f_X6_needHere
  rw [er_name hE, bnd2_some, hq, bnd_some, er_errs hE, bnd_some]
  exact ite_self _
theorem er_takesMonk (h : ER A0 B0 A B) (p : Int32) : ∃ q, f_X6_takesMonk p B = some (q, B) := by
  have hE := h.2.2.2.2.1
  obtain ⟨q, hq⟩ := er_monkNamed h.2.2.1 0
  refine ⟨q, ?_⟩
  unfold f_X6_takesMonk f_X6_takesMonk_20 f_X6_takesMonk_38
  rw [er_name hE, bnd2_some, hq, bnd_some, er_errs hE, bnd_some, if_neg hE, er_must hE, bnd_some]
  exact ite_self _
/-! a monk is taken -/
theorem S_tmonk (hT : TX A0 B0 nb tx) (h : TS A0 B0 nb tx A B s e) (hr : HR A 31 v m n) (w : VV v m n t) (hv : B 10 = v) (p : Int32) : (∃ a A' B' s' e', a < m ∧ ¬ nI a = p ∧ f_X3_takeMonk p A = some (nI a, A') ∧ f_X6_takesMonk p B = some (nI a, B') ∧ TS A0 B0 nb tx A' B' s' e' ∧ e ≤ s' ∧ RA A A' ∧ RB B B') ∨ (∃ A' B' q, f_X3_takeMonk p A = some (-1, A') ∧ f_X6_takesMonk p B = some (q, B') ∧ ER A0 B0 A' B' ∧ RA A A' ∧ RB B B') := by
  have h12 := w.m12
  have w0 := h.w0
  rcases S_name hT h with ⟨ls, hl, n1, n2, hse, -⟩ | ⟨A', B', x, n1, n2, n3, n4, n5⟩
  · obtain ⟨q, f1, f2, f3⟩ := S_fmonk hr w hv hl
    have hp := f32_pos hl
    have hlt := f32_lt hl
    have hz : ¬ nI (f32 ls) = 0 := nI_ne0 (by omega) (by omega)
    unfold f_X3_takeMonk f_X6_takesMonk f_X6_takesMonk_20 f_X6_takesMonk_38
    rw [ev_bnd2 n1, if_neg hz, ev_bnd f1, ev_bnd2 n2, ev_bnd f2]
    rcases f3 with rfl | ⟨j, hj, rfl⟩
    · right
      obtain ⟨A', B', q1, q2, q3, q4, q5⟩ := S_fail h (c := -4) (by decide)
      have hE := q3.2.2.2.2.1
      rw [if_pos rfl, ev_bnd2 q1, if_pos rfl, ev_bnd q2, if_neg hE, er_must hE, bnd_some]
      exact ⟨A', B', _, rfl, rfl, q3, q4, q5⟩
    · have hm1 : ¬ nI j = -1 := m1_ne (by omega)
      rw [if_neg hm1, if_neg hm1, if_pos w0]
      by_cases hjp : nI j = p
      · right
        obtain ⟨A', B', q1, q2, q3, q4, q5⟩ := S_fail h (c := -5) (by decide)
        have hE := q3.2.2.2.2.1
        rw [if_pos hjp, ev_bnd2 q1, if_pos hjp, ev_bnd q2, er_must hE, bnd_some]
        exact ⟨A', B', _, rfl, rfl, q3, q4, q5⟩
      · left
        obtain ⟨A', B', s', e', q1, q2, q3, q4, q5, q6⟩ := S_next hT h
        rw [if_neg hjp, ev_bnd q1, if_neg hjp, X6_must_1 w0 q2, bnd_some]
        exact ⟨j, A', B', s', e', hj, hjp, rfl, rfl, q3, q4, q5, q6⟩
  · right
    have hE := n3.2.2.2.2.1
    obtain ⟨q, hq⟩ := er_monkNamed n3.2.2.1 x
    refine ⟨A', B', q, ?_, ?_, n3, n4, n5⟩
    · unfold f_X3_takeMonk
      rw [ev_bnd2 n1, if_pos rfl]
    · unfold f_X6_takesMonk f_X6_takesMonk_20 f_X6_takesMonk_38
      rw [ev_bnd2 n2, hq, bnd_some, er_errs hE, bnd_some, if_neg hE, er_must hE, bnd_some]
      exact ite_self _
/-! a need is taken -/
theorem S_tneed (hT : TX A0 B0 nb tx) (h : TS A0 B0 nb tx A B s e) (hr : HR A 31 v m n) (w : VV v m n t) (hv : B 10 = v) {x : Int32} (hx : By x) : (∃ j, j < n ∧ f_X6_needHere B = some (nI j, B) ∧ s < e ∧ B 9 13 = 0 ∧ ((mm x j = false ∧ ∃ A' B' s' e', f_X3_takeNeed x A = some (nI j, A') ∧ f_X6_must 1 B = some B' ∧ TS A0 B0 nb tx A' B' s' e' ∧ e ≤ s' ∧ RA A A' ∧ RB B B') ∨ (mm x j = true ∧ ∃ A' B', f_X3_takeNeed x A = some (-1, A') ∧ f_X6_errs (-5) B = some B' ∧ ER A0 B0 A' B' ∧ RA A A' ∧ RB B B'))) ∨ (∃ A' B' q, f_X3_takeNeed x A = some (-1, A') ∧ f_X6_needHere B = some (q, B') ∧ ER A0 B0 A' B' ∧ RA A A' ∧ RB B B') := by
  have h8 := w.n8
  have w0 := h.w0
  rcases S_name hT h with ⟨ls, hl, n1, n2, hse, hk0⟩ | ⟨A', B', y, n1, n2, n3, n4, n5⟩
  · obtain ⟨q, f1, f2, f3⟩ := S_fneed hr w hv hl
    have hp := f32_pos hl
    have hlt := f32_lt hl
    have hz : ¬ nI (f32 ls) = 0 := nI_ne0 (by omega) (by omega)
    unfold f_X3_takeNeed f_X6_needHere
    rw [ev_bnd2 n1, if_neg hz, ev_bnd f1, ev_bnd2 n2, ev_bnd f2]
    rcases f3 with rfl | ⟨j, hj, rfl⟩
    · right
      obtain ⟨A', B', q1, q2, q3, q4, q5⟩ := S_fail h (c := -4) (by decide)
      rw [if_pos rfl, ev_bnd2 q1, if_pos rfl, ev_bnd q2]
      exact ⟨A', B', _, rfl, rfl, q3, q4, q5⟩
    · left
      have hm1 : ¬ nI j = -1 := m1_ne (by omega)
      rw [if_neg hm1, if_neg hm1, ev_bnd (X1_isMember hx (show j < 8 by omega) A)]
      refine ⟨j, hj, rfl, hse, hk0, ?_⟩
      cases hb : mm x j with
      | false =>
        left
        obtain ⟨A', B', s', e', q1, q2, q3, q4, q5, q6⟩ := S_next hT h
        rw [if_pos b2_f, ev_bnd q1]
        exact ⟨rfl, A', B', s', e', rfl, X6_must_1 w0 q2, q3, q4, q5, q6⟩
      | true =>
        right
        obtain ⟨A', B', q1, q2, q3, q4, q5⟩ := S_fail h (c := -5) (by decide)
        rw [if_neg (by decide), ev_bnd2 q1]
        exact ⟨rfl, A', B', rfl, q2, q3, q4, q5⟩
  · right
    have hE := n3.2.2.2.2.1
    obtain ⟨q, hq⟩ := er_needNamed n3.2.2.1 y
    refine ⟨A', B', q, ?_, ?_, n3, n4, n5⟩
    · unfold f_X3_takeNeed
      rw [ev_bnd2 n1, if_pos rfl]
    · unfold f_X6_needHere
      rw [ev_bnd2 n2, hq, bnd_some, er_errs hE, bnd_some]
      exact ite_self _
end FS
