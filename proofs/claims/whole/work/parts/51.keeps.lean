/-! COPIES: of a house, of the reference's row; the latest houses on both sides -/
theorem ix_c0 : ix 0 = 0 := by decide
theorem ix_c8 : ix 8 = 8 := by decide
theorem ix_c12 : ix 12 = 12 := by decide
theorem ix_c14 : ix 14 = 14 := by decide
theorem ix_c24 : ix 24 = 24 := by decide
theorem mcpy_row {M : Mem} {d s a b n r : Nat} (h : r ≠ d) : mcpy M d s a b n r = M r := by simp [mcpy, va_up, h]
theorem mcpy_at {M : Mem} {d s n k : Nat} (h : k < n) : mcpy M d s 0 0 n d k = M s k := by
  show (if d = d then va_cpy (M s) (M d) 0 0 n else M d) k = _
  rw [if_pos rfl]
  unfold va_cpy
  rw [if_pos (by omega)]
  congr 1
  omega
def Cpy (o q : Nat) (M0 : Mem) (i : Nat) (M : Mem) : Prop := (∀ j, 1 ≤ j → j ≤ i → ∀ k, k < hlen (j - 1) → M (o + j) k = M0 (q + j) k) ∧ ∀ r, (r < o + 1 ∨ o + i < r) → M r = M0 r
theorem Cpy.step {o q i n : Nat} {M0 M : Mem} (hd : o + 13 ≤ q ∨ q + 13 ≤ o) (hi : i < 12) (h : Cpy o q M0 i M) (hn : hlen i = n) {d s : Nat} (ed : o + (i + 1) = d) (es : q + (i + 1) = s) : Cpy o q M0 (i + 1) (mcpy M d s 0 0 n) := by
  subst ed es hn
  refine ⟨fun j h1 h2 k hk => ?_, fun r hr => ?_⟩
  · by_cases hj : j = i + 1
    · subst hj
      have hk : k < hlen i := hk
      rw [mcpy_at hk, h.2 (q + (i + 1)) (by omega)]
    · rw [mcpy_row (by omega)]
      exact h.1 j h1 (by omega) k hk
  · rw [mcpy_row (by omega)]
    exact h.2 r (by omega)
theorem X1_copyFrom {o q : Nat} (hd : o + 13 ≤ q ∨ q + 13 ≤ o) (M : Mem) : ∃ M1, f_X1_copyFrom o q M = some M1 ∧ (∀ j, 1 ≤ j → j ≤ 12 → ∀ k, k < hlen (j - 1) → M1 (o + j) k = M (q + j) k) ∧ (∀ c, 12 ≤ c → c ≤ 17 → M1 o c = M q c) ∧ ∀ r, (r < o ∨ o + 13 ≤ r) → M1 r = M r := by
  have c0 : Cpy o q M 0 M := ⟨fun j h1 h2 => by omega, fun r _ => rfl⟩
  unfold f_X1_copyFrom
  rw [ix_c0, ix_c8, ix_c12, ix_c14, ix_c24]
  rw [letM_eq]
  have c1 := c0.step hd (by decide) (n := 12) rfl (d := o + 1) (s := q + 1) rfl rfl
  generalize mcpy M (o + 1) (q + 1) 0 0 12 = N1 at c1 ⊢
  rw [letM_eq]
  have c2 := c1.step hd (by decide) (n := 12) rfl (d := o + 2) (s := q + 2) rfl rfl
  generalize mcpy N1 (o + 2) (q + 2) 0 0 12 = N2 at c2 ⊢
  rw [letM_eq]
  have c3 := c2.step hd (by decide) (n := 12) rfl (d := o + 3) (s := q + 3) rfl rfl
  generalize mcpy N2 (o + 3) (q + 3) 0 0 12 = N3 at c3 ⊢
  rw [letM_eq]
  have c4 := c3.step hd (by decide) (n := 12) rfl (d := o + 4) (s := q + 4) rfl rfl
  generalize mcpy N3 (o + 4) (q + 4) 0 0 12 = N4 at c4 ⊢
  rw [letM_eq]
  have c5 := c4.step hd (by decide) (n := 12) rfl (d := o + 5) (s := q + 5) rfl rfl
  generalize mcpy N4 (o + 5) (q + 5) 0 0 12 = N5 at c5 ⊢
  rw [letM_eq]
  have c6 := c5.step hd (by decide) (n := 12) rfl (d := o + 6) (s := q + 6) rfl rfl
  generalize mcpy N5 (o + 6) (q + 6) 0 0 12 = N6 at c6 ⊢
  rw [letM_eq]
  have c7 := c6.step hd (by decide) (n := 12) rfl (d := o + 7) (s := q + 7) rfl rfl
  generalize mcpy N6 (o + 7) (q + 7) 0 0 12 = N7 at c7 ⊢
  rw [letM_eq]
  have c8 := c7.step hd (by decide) (n := 12) rfl (d := o + 8) (s := q + 8) rfl rfl
  generalize mcpy N7 (o + 8) (q + 8) 0 0 12 = N8 at c8 ⊢
  rw [letM_eq]
  have c9 := c8.step hd (by decide) (n := 8) rfl (d := o + 9) (s := q + 9) rfl rfl
  generalize mcpy N8 (o + 9) (q + 9) 0 0 8 = N9 at c9 ⊢
  rw [letM_eq]
  have c10 := c9.step hd (by decide) (n := 8) rfl (d := o + 10) (s := q + 10) rfl rfl
  generalize mcpy N9 (o + 10) (q + 10) 0 0 8 = N10 at c10 ⊢
  rw [letM_eq]
  have c11 := c10.step hd (by decide) (n := 24) rfl (d := o + 11) (s := q + 11) rfl rfl
  generalize mcpy N10 (o + 11) (q + 11) 0 0 24 = N11 at c11 ⊢
  rw [letM_eq]
  have c12 := c11.step hd (by decide) (n := 14) rfl (d := o + 12) (s := q + 12) rfl rfl
  generalize mcpy N11 (o + 12) (q + 12) 0 0 14 = N12 at c12 ⊢
  have eq : N12 q = M q := c12.2 q (by omega)
  have hqo : q ≠ o := by omega
  refine ⟨mput (mput (mput (mput (mput (mput N12 o 12 (M q 12)) o 13 (M q 13)) o 14 (M q 14)) o 15 (M q 15)) o 16 (M q 16)) o 17 (M q 17), ?_, fun j h1 h2 k hk => ?_, fun c h1 h2 => ?_, fun r hr => ?_⟩
  · simp only [letM_eq, mput_row hqo, eq]
  · have hj : o + j ≠ o := by omega
    rw [mput_row hj, mput_row hj, mput_row hj, mput_row hj, mput_row hj, mput_row hj]
    exact c12.1 j h1 h2 k hk
  · rcases (show c = 12 ∨ c = 13 ∨ c = 14 ∨ c = 15 ∨ c = 16 ∨ c = 17 by omega) with rfl | rfl | rfl | rfl | rfl | rfl
    · rw [mput_col (by decide), mput_col (by decide), mput_col (by decide), mput_col (by decide), mput_col (by decide), mput_at]
    · rw [mput_col (by decide), mput_col (by decide), mput_col (by decide), mput_col (by decide), mput_at]
    · rw [mput_col (by decide), mput_col (by decide), mput_col (by decide), mput_at]
    · rw [mput_col (by decide), mput_col (by decide), mput_at]
    · rw [mput_col (by decide), mput_at]
    · rw [mput_at]
  · have hr' : r ≠ o := by omega
    rw [mput_row hr', mput_row hr', mput_row hr', mput_row hr', mput_row hr', mput_row hr']
    exact c12.2 r (by omega)
theorem HOK.copy {M M1 : Mem} {o q : Nat} {v : Nat → Int32} (h : HOK M q v) (h1 : ∀ j, 1 ≤ j → j ≤ 12 → ∀ k, k < hlen (j - 1) → M1 (o + j) k = M (q + j) k) (h2 : ∀ c, 12 ≤ c → c ≤ 17 → M1 o c = M q c) : HOK M1 o v := by
  obtain ⟨m, n, t, hm, hr, w⟩ := h
  have h12 := w.m12
  have h8 := w.n8
  refine ⟨m, n, t, hm, ⟨?_, ?_, ?_, ?_, ?_⟩, w⟩
  · rw [h2 12 (by decide) (by decide), h2 13 (by decide) (by decide), h2 14 (by decide) (by decide), h2 15 (by decide) (by decide), h2 16 (by decide) (by decide), h2 17 (by decide) (by decide)]
    exact hr.1
  · intro k hk
    rw [h1 12 (by decide) (by decide) k hk]
    exact hr.2.1 k hk
  · intro k hk
    rw [h1 11 (by decide) (by decide) k hk]
    exact hr.2.2.1 k hk
  · intro k hk
    rw [h1 9 (by decide) (by decide) k (show k < 8 by omega), h1 10 (by decide) (by decide) k (show k < 8 by omega)]
    exact hr.2.2.2.1 k hk
  · intro k hk
    have hk : k < m := hk
    rw [h1 1 (by decide) (by decide) k (show k < 12 by omega), h1 2 (by decide) (by decide) k (show k < 12 by omega), h1 3 (by decide) (by decide) k (show k < 12 by omega), h1 4 (by decide) (by decide) k (show k < 12 by omega), h1 5 (by decide) (by decide) k (show k < 12 by omega), h1 6 (by decide) (by decide) k (show k < 12 by omega), h1 7 (by decide) (by decide) k (show k < 12 by omega), h1 8 (by decide) (by decide) k (show k < 12 by omega)]
    exact hr.2.2.2.2 k hk
theorem VV.congv {v v' : Nat → Int32} {m n t : Nat} (w : VV v m n t) (e : ∀ k, k < 156 → v' k = v k) : VV v' m n t := by
  have h12 := w.m12
  have h8 := w.n8
  refine ⟨h12, h8, w.2.2.1, by rw [e 0 (by decide)]; exact w.e0, by rw [e 1 (by decide)]; exact w.e1, by rw [e 4 (by decide)]; exact w.e4, fun k hk => ?_, fun k hk => ?_⟩
  · rw [e _ (by omega)]
    exact w.2.2.2.2.2.2.1 k hk
  · rw [e _ (by omega), e _ (by omega), e _ (by omega)]
    exact w.2.2.2.2.2.2.2 k hk
theorem HR.congv {M : Mem} {o m n : Nat} {v v' : Nat → Int32} (h : HR M o v m n) (h12 : m ≤ 12) (h8 : n ≤ 8) (e : ∀ k, k < 156 → v' k = v k) : HR M o v' m n := by
  refine ⟨?_, fun k hk => ?_, fun k hk => ?_, fun k hk => ?_, fun k hk => ?_⟩
  · rw [e 0 (by decide), e 1 (by decide), e 2 (by decide), e 3 (by decide), e 4 (by decide), e 5 (by decide)]
    exact h.1
  · rw [e _ (by omega)]
    exact h.2.1 k hk
  · rw [e _ (by omega)]
    exact h.2.2.1 k hk
  · rw [e _ (by omega), e _ (by omega)]
    exact h.2.2.2.1 k hk
  · rw [e _ (by omega), e _ (by omega), e _ (by omega), e _ (by omega), e _ (by omega), e _ (by omega), e _ (by omega), e _ (by omega)]
    exact h.2.2.2.2 k hk
theorem HOK.congv {M : Mem} {o : Nat} {v v' : Nat → Int32} (h : HOK M o v) (e : ∀ k, k < 156 → v' k = v k) : HOK M o v' := by
  obtain ⟨m, n, t, hm, hr, w⟩ := h
  exact ⟨m, n, t, hm, hr.congv w.m12 w.n8 e, w.congv e⟩
/-! the reference's copies -/
theorem mrow_row {M : Mem} {k r : Nat} {f : Nat → Int32} (h : r ≠ k) : mrow M k f r = M r := by simp [mrow, va_up, h]
theorem mrow_at {M : Mem} {k : Nat} {f : Nat → Int32} : mrow M k f k = f := by simp [mrow, va_up]
theorem mrow_mput {M : Mem} {k c : Nat} {f : Nat → Int32} {x : Int32} : mput (mrow M k f) k c x = mrow M k (upd f c x) := by
  funext i
  by_cases hi : i = k
  · subst hi
    rw [mput_self, mrow_at, mrow_at]
  · rw [mput_row hi, mrow_row hi, mrow_row hi]
theorem mrow_id {M : Mem} {k : Nat} {f : Nat → Int32} (h : f = M k) : mrow M k f = M := by
  funext i
  by_cases hi : i = k
  · subst hi
    rw [mrow_at, h]
  · rw [mrow_row hi]
theorem X6_copies {n1 q1 n3 q3 a b : Nat} (hq : q3 ≠ q1) (h1 : a + 156 ≤ n1) (h3 : b + 156 ≤ n3) (g1 : n1 < 2 ^ 31) (g3 : n3 < 2 ^ 31) (M : Mem) : f_X6_copies n1 q1 n3 q3 (nI a) (nI b) M = some (mrow M q1 (va_cpy (M q3) (M q1) b a 156)) := by
  have key := lp_dn (z := fun _ _ _ _ => none) (b := f_X6_copies_3 n1 q1 n3 q3) (fun k r => r (nI a) (nI b) (nI k) (mrow M q1 (va_cpy (M q3) (M q1) b a k)) = some (mrow M q1 (va_cpy (M q3) (M q1) b a 156))) 156 (fun r => ?_) (fun k r hk ih => ?_) 0 FU (by omega) (by rw [FU_eq]; omega)
  · refine Eq.trans ?_ key
    unfold f_X6_copies
    rw [mrow_id (f := va_cpy (M q3) (M q1) b a 0)]
    · rfl
    · funext i
      unfold va_cpy
      rw [if_neg (by omega)]
  · unfold f_X6_copies_3
    rw [show (156 : Int32) = nI 156 from rfl, if_pos (le_self_nI 156)]
  · unfold f_X6_copies_3
    rw [show (156 : Int32) = nI 156 from rfl, if_neg (not_le_nI hk (by decide)), nI_add, nI_add, ev_chk (inB_nI (by omega) g3), ev_chk (inB_nI (by omega) g1), letM_eq, ix_nI (by omega), ix_nI (by omega), mrow_row hq, mrow_mput, ← nI_succ, ← ih]
    congr 1
    congr 1
    funext i
    unfold upd va_cpy
    by_cases hi : i = a + k
    · subst hi
      rw [if_pos rfl, if_pos (by omega)]
      congr 1
      omega
    · rw [if_neg hi]
      by_cases hl : a ≤ i ∧ i < a + k
      · rw [if_pos hl, if_pos (by omega)]
      · rw [if_neg hl, if_neg (by omega)]
/-- the row of the latest, one place ahead -/
def shf (f : Nat → Int32) (k : Nat) : Nat → Int32 := fun c => if c < k then f (c + 156) else f c
theorem X6_shift (q : Nat) (M : Mem) : lp (fun _ _ => none) (f_X6_keeps_11 q) FU 0 M = f_X6_keeps_50 q (mput (mrow M 12 (shf (M 12) 1092)) 9 5 (M 9 5 - 1)) := by
  have key := lp_dn (z := fun _ _ => none) (b := f_X6_keeps_11 q) (fun k r => r (nI k) (mrow M 12 (shf (M 12) k)) = f_X6_keeps_50 q (mput (mrow M 12 (shf (M 12) 1092)) 9 5 (M 9 5 - 1))) 1092 (fun r => ?_) (fun k r hk ih => ?_) 0 FU (by omega) (by rw [FU_eq]; omega)
  · refine Eq.trans ?_ key
    rw [mrow_id (f := shf (M 12) 0)]
    · rfl
    · funext i
      unfold shf
      rw [if_neg (by omega)]
  · unfold f_X6_keeps_11
    rw [show (1092 : Int32) = nI 1092 from rfl, if_pos (le_self_nI 1092), letM_eq, mrow_row (by decide)]
  · unfold f_X6_keeps_11
    rw [show (1092 : Int32) = nI 1092 from rfl, if_neg (not_le_nI hk (by decide)), show (156 : Int32) = nI 156 from rfl, nI_add, ev_chk (inB_nI (by omega) (by decide)), ev_chk (inB_nI (by omega) (by decide)), letM_eq, ix_nI (by omega), ix_nI (by omega), mrow_at, mrow_mput, ← nI_succ, ← ih]
    congr 2
    funext i
    unfold upd shf
    by_cases hi : i = k
    · subst hi
      rw [if_pos rfl, if_neg (by omega), if_pos (by omega)]
    · rw [if_neg hi]
      by_cases hl : i < k
      · rw [if_pos hl, if_pos (by omega)]
      · rw [if_neg hl, if_neg (by omega)]
/-- the latest, told anew -/
def newv (h : Nat) (old : Nat → Nat → Int32) (a : Nat → Int32) (j : Nat) : Nat → Int32 := if h < 8 then (if j < h then old j else a) else (if j < 7 then old (j + 1) else a)
theorem X6_keeps {q h : Nat} {M : Mem} (hq : q = 10 ∨ q = 11) (hh : h ≤ 8) (e5 : M 9 5 = nI h) : ∃ N, f_X6_keeps q M = some N ∧ N 9 5 = nI (min (h + 1) 8) ∧ (∀ c, c ≠ 5 → N 9 c = M 9 c) ∧ (∀ r, r ≠ 9 → r ≠ 12 → N r = M r) ∧ ∀ j, j < min (h + 1) 8 → ∀ k, k < 156 → N 12 (156 * j + k) = newv h (fun j k => M 12 (156 * j + k)) (M q) j k := by
  have step : ∀ (h : Nat) (M : Mem), h ≤ 7 → M 9 5 = nI h → f_X6_keeps_50 q M = some (mput (mrow M 12 (va_cpy (M q) (M 12) 0 (156 * h) 156)) 9 5 (nI (h + 1))) := fun h M hh e5 => by
    unfold f_X6_keeps_50
    rw [e5, show (156 : Int32) = nI 156 from rfl, nI_mul, show (0 : Int32) = nI 0 from rfl, ev_bnd (X6_copies (by omega) (by omega) (by omega) (by decide) (by decide) M), letM_eq, mrow_row (by decide), e5, show (1 : Int32) = nI 1 from rfl, nI_add]
  by_cases h8 : h = 8
  · subst h8
    refine ⟨_, (by
      unfold f_X6_keeps
      rw [e5, if_pos (show nI 8 = 8 from rfl), X6_shift, step 7 _ (by decide) (by rw [mput_at, e5]; rfl)]), ?_⟩
    refine ⟨by rw [mput_at]; rfl, fun c hc => ?_, fun r h1 h2 => ?_, fun j hj k hk => ?_⟩
    · rw [mput_col hc, mrow_row (by decide), mput_col hc, mrow_row (by decide)]
    · rw [mput_row h1, mrow_row h2, mput_row h1, mrow_row h2]
    · rw [mput_row (show (12 : Nat) ≠ 9 by decide), mrow_at, mput_row (show q ≠ 9 by omega), mput_row (show (12 : Nat) ≠ 9 by decide), mrow_at, mrow_row (show q ≠ 12 by omega)]
      have hj : j < 8 := hj
      unfold newv va_cpy shf
      rw [if_neg (show ¬ (8 : Nat) < 8 by decide)]
      by_cases hj7 : j < 7
      · rw [if_pos hj7, if_neg (show ¬ (156 * 7 ≤ 156 * j + k ∧ 156 * j + k < 156 * 7 + 156) by omega), if_pos (show 156 * j + k < 1092 by omega)]
        exact congrArg (M 12) (by omega)
      · rw [if_neg hj7, if_pos (show 156 * 7 ≤ 156 * j + k ∧ 156 * j + k < 156 * 7 + 156 by omega)]
        exact congrArg (M q) (by omega)
  · refine ⟨_, (by
      unfold f_X6_keeps
      rw [e5, if_neg (show ¬ nI h = 8 from fun e => h8 (nI_inj (by omega) (by decide) e)), step h M (by omega) e5]), ?_⟩
    refine ⟨by rw [mput_at, Nat.min_eq_left (by omega)], fun c hc => ?_, fun r h1 h2 => ?_, fun j hj k hk => ?_⟩
    · rw [mput_col hc, mrow_row (by decide)]
    · rw [mput_row h1, mrow_row h2]
    · rw [mput_row (by decide), mrow_at]
      rw [Nat.min_eq_left (by omega)] at hj
      unfold newv va_cpy
      rw [if_pos (show h < 8 by omega)]
      by_cases hj7 : j < h
      · rw [if_pos hj7, if_neg (show ¬ (156 * h ≤ 156 * j + k ∧ 156 * j + k < 156 * h + 156) by omega)]
      · rw [if_neg hj7, if_pos (show 156 * h ≤ 156 * j + k ∧ 156 * j + k < 156 * h + 156 by omega)]
        exact congrArg (M q) (by omega)
theorem X0_remember {M : Mem} {h od : Nat} (hh : h ≤ 8) (ho : od < 8) (e2 : M 3 2 = nI h) (e1 : M 3 1 = nI od) {old : Nat → Nat → Int32} (hold : ∀ j, j < h → HOK M (44 + 13 * ((od + j) % 8)) (old j)) {a : Nat → Int32} (ha : HOK M 18 a) : ∃ N od', f_X0_remember 18 M = some N ∧ od' < 8 ∧ N 3 2 = nI (min (h + 1) 8) ∧ N 3 1 = nI od' ∧ (∀ r, r ≠ 3 → (r < 44 ∨ 148 ≤ r) → N r = M r) ∧ ∀ j, j < min (h + 1) 8 → HOK N (44 + 13 * ((od' + j) % 8)) (newv h old a j) := by
  have hx : (od + h) % 8 < 8 := Nat.mod_lt _ (by decide)
  obtain ⟨M1, c1, c2, c3, c4⟩ := X1_copyFrom (o := 44 + 13 * ((od + h) % 8)) (q := 18) (by omega) M
  have hnew := ha.copy c2 c3
  have hkeep : ∀ j, j < 8 → j ≠ (od + h) % 8 → ∀ i, i < 13 → M1 (44 + 13 * j + i) = M (44 + 13 * j + i) := fun j hj hne i hi => c4 _ (by omega)
  have e3 : M1 3 = M 3 := c4 3 (by omega)
  have ev : f_X0_remember 18 M = if 8 ≤ M1 3 2 then some (mput M1 3 1 (irem (M1 3 1 + 1) 8)) else some (mput M1 3 2 (M1 3 2 + 1)) := by
    unfold f_X0_remember
    rw [e1, e2, nI_add, show (8 : Int32) = nI 8 from rfl, nI_irem (by omega) (by decide), ev_chk (inB_nI hx (by decide)), ix_nI (by omega), ev_bnd c1]
    rfl
  rw [e3, e2, e1] at ev
  by_cases h8 : h = 8
  · subst h8
    rw [if_pos (show (8 : Int32) ≤ nI 8 from le_self_nI 8), show (1 : Int32) = nI 1 from rfl, nI_add, show (8 : Int32) = nI 8 from rfl, nI_irem (by omega) (by decide)] at ev
    refine ⟨_, (od + 1) % 8, ev, Nat.mod_lt _ (by decide), by rw [mput_col (by decide), e3, e2]; rfl, by rw [mput_at], fun r h1 h2 => by rw [mput_row h1]; exact c4 r (by omega), fun j hj => ?_⟩
    refine HOK.cong (M := M1) (v := newv 8 old a j) ?_ (fun i hi => mput_row (by omega)) rfl
    unfold newv
    rw [if_neg (by decide)]
    by_cases hj7 : j < 7
    · rw [if_pos hj7]
      have hs := hold (j + 1) (by omega)
      have ei : ((od + 1) % 8 + j) % 8 = (od + (j + 1)) % 8 := by omega
      rw [ei]
      exact hs.cong (hkeep _ (Nat.mod_lt _ (by decide)) (by omega)) rfl
    · rw [if_neg hj7]
      have ei : ((od + 1) % 8 + j) % 8 = (od + 8) % 8 := by omega
      rw [ei]
      exact hnew
  · rw [if_neg (show ¬ (8 : Int32) ≤ nI h from not_le_nI (show h < 8 by omega) (by decide)), show (1 : Int32) = nI 1 from rfl, nI_add] at ev
    refine ⟨_, od, ev, ho, by rw [mput_at, Nat.min_eq_left (by omega)], by rw [mput_col (by decide), e3, e1], fun r h1 h2 => by rw [mput_row h1]; exact c4 r (by omega), fun j hj => ?_⟩
    refine HOK.cong (M := M1) (v := newv h old a j) ?_ (fun i hi => mput_row (by omega)) rfl
    unfold newv
    rw [if_pos (by omega)]
    by_cases hjh : j < h
    · rw [if_pos hjh]
      exact (hold j hjh).cong (hkeep _ (Nat.mod_lt _ (by decide)) (by omega)) rfl
    · rw [if_neg hjh]
      have ei : j = h := by omega
      rw [ei]
      exact hnew
