/-! LOAD: the call on both sides -/
theorem J7_fill {n q : Nat} (hn : n < 4096) (p : Int32) (M : Mem) : ∃ M1, f_J7_fill_53178 n q p M = some M1 ∧ (∀ k, k < n → M1 q k = p) ∧ ∀ r, r ≠ q → M1 r = M r := by
  refine lp_dn (z := fun _ _ _ _ => none) (b := f_J7_fill_53178_5 n q) (fun k r => ∀ N : Mem, (∀ j, j < k → N q j = p) → (∀ r, r ≠ q → N r = M r) → ∃ M1, r p (nI k) (nI n) N = some M1 ∧ (∀ k, k < n → M1 q k = p) ∧ ∀ r, r ≠ q → M1 r = M r) n (fun r N h1 h2 => ?_) (fun k r hk ih N h1 h2 => ?_) 0 FU (by omega) (by rw [FU_eq]; omega) M (fun j hj => absurd hj (Nat.not_lt_zero j)) (fun _ _ => rfl)
  · unfold f_J7_fill_53178_5
    rw [if_pos (le_self_nI n)]
    exact ⟨N, rfl, h1, h2⟩
  · unfold f_J7_fill_53178_5
    rw [if_neg (not_le_nI hk (by omega)), ev_chk (inB_nI hk (by omega)), letM_eq, ix_nI (by omega), ← nI_succ]
    refine ih _ (fun j hj => ?_) (fun r hr => by rw [mput_row hr]; exact h2 r hr)
    by_cases hjk : j = k
    · rw [hjk, mput_at]
    · rw [mput_col hjk]
      exact h1 j (by omega)
theorem X1_clear (o : Nat) (M : Mem) : ∃ M1, f_X1_clear o M = some M1 ∧ (M1 o 12 = 0 ∧ M1 o 13 = 0 ∧ M1 o 14 = 20 ∧ M1 o 15 = 10 ∧ M1 o 16 = 0 ∧ M1 o 17 = 0) ∧ (∀ k, k < 24 → M1 (o + 11) k = 0) ∧ (∀ k, k < 14 → M1 (o + 12) k = 0) ∧ ∀ r, r ≠ o → r ≠ o + 11 → r ≠ o + 12 → M1 r = M r := by
  unfold f_X1_clear
  rw [letM_eq, letM_eq, letM_eq, letM_eq, letM_eq, letM_eq]
  generalize hN : mput (mput (mput (mput (mput (mput M o 12 0) o 13 0) o 14 20) o 15 10) o 16 0) o 17 0 = N
  obtain ⟨M1, a1, a2, a3⟩ := J7_fill (n := 24) (q := o + 11) (by decide) 0 N
  obtain ⟨M2, b1, b2', b3⟩ := J7_fill (n := 14) (q := o + 12) (by decide) 0 M1
  rw [ev_bnd a1, ev_bnd b1]
  have eo : M2 o = N o := (b3 o (by omega)).trans (a3 o (by omega))
  refine ⟨M2, rfl, ?_, fun k hk => ?_, b2', fun r h1 h2 h3 => ?_⟩
  · rw [eo, ← hN]
    refine ⟨?_, ?_, ?_, ?_, ?_, ?_⟩
    · rw [mput_col (by decide), mput_col (by decide), mput_col (by decide), mput_col (by decide), mput_col (by decide), mput_at]
    · rw [mput_col (by decide), mput_col (by decide), mput_col (by decide), mput_col (by decide), mput_at]
    · rw [mput_col (by decide), mput_col (by decide), mput_col (by decide), mput_at]
    · rw [mput_col (by decide), mput_col (by decide), mput_at]
    · rw [mput_col (by decide), mput_at]
    · rw [mput_at]
  · rw [b3 _ (by omega)]
    exact a2 k hk
  · rw [b3 r h3, a3 r h2, ← hN, mput_row h1, mput_row h1, mput_row h1, mput_row h1, mput_row h1, mput_row h1]
def zB (v : Nat → Int32) (k : Nat) : Nat → Int32 := fun i => if i < k then 0 else v i
def begV (v : Nat → Int32) : Nat → Int32 := upd (upd (zB v 156) 2 20) 3 10
theorem zB_s (v : Nat → Int32) (k : Nat) : upd (zB v k) k 0 = zB v (k + 1) := by
  funext i
  unfold upd zB
  by_cases hi : i = k
  · rw [if_pos hi, if_pos (by omega)]
  · rw [if_neg hi]
    by_cases h2 : i < k
    · rw [if_pos h2, if_pos (by omega)]
    · rw [if_neg h2, if_neg (by omega)]
theorem X6_begins (N : Mem) (v : Nat → Int32) : f_X6_begins (mrow N 10 v) = some (mrow N 10 (begV v)) := by
  have key := lp_dn (z := fun _ _ => none) (b := f_X6_begins_2) (fun k r => r (nI k) (mrow N 10 (zB v k)) = some (mrow N 10 (begV v))) 156 (fun r => ?_) (fun k r hk ih => ?_) 0 FU (by omega) (by rw [FU_eq]; omega)
  · rw [show zB v 0 = v from by
      funext i
      unfold zB
      rw [if_neg (by omega)]] at key
    exact key
  · unfold f_X6_begins_2
    rw [if_pos (show (156 : Int32) ≤ nI 156 from le_self_nI 156), letM_eq, letM_eq, mrow_mput, mrow_mput]
    rfl
  · unfold f_X6_begins_2
    rw [if_neg (show ¬ (156 : Int32) ≤ nI k from not_le_nI hk (by decide)), ev_chk (inB_nI hk (by decide)), letM_eq, ix_nI (by omega), mrow_mput, zB_s, ← nI_succ]
    exact ih
theorem begV_0 {v : Nat → Int32} {i : Nat} (h : i < 156) (h2 : i ≠ 2) (h3 : i ≠ 3) : begV v i = 0 := by
  unfold begV
  rw [upd_ne h3, upd_ne h2]
  unfold zB
  rw [if_pos h]
theorem beg_VV (v : Nat → Int32) : VV (begV v) 0 0 0 :=
  ⟨by decide, by decide, by decide, begV_0 (by decide) (by decide) (by decide), begV_0 (by decide) (by decide) (by decide), begV_0 (by decide) (by decide) (by decide), fun k hk => absurd hk (Nat.not_lt_zero k), fun k hk => absurd hk (Nat.not_lt_zero k)⟩
theorem beg_HR {M1 : Mem} {o : Nat} {v : Nat → Int32} (h1 : M1 o 12 = 0 ∧ M1 o 13 = 0 ∧ M1 o 14 = 20 ∧ M1 o 15 = 10 ∧ M1 o 16 = 0 ∧ M1 o 17 = 0) (h2 : ∀ k, k < 24 → M1 (o + 11) k = 0) (h3 : ∀ k, k < 14 → M1 (o + 12) k = 0) : HR M1 o (begV v) 0 0 := by
  refine ⟨⟨?_, ?_, ?_, ?_, ?_, ?_⟩, fun k hk => ?_, fun k hk => ?_, fun k hk => absurd hk (Nat.not_lt_zero k), fun k hk => absurd hk (Nat.not_lt_zero k)⟩
  · rw [begV_0 (by decide) (by decide) (by decide)]; exact h1.1
  · rw [begV_0 (by decide) (by decide) (by decide)]; exact h1.2.1
  · rw [h1.2.2.1]; unfold begV; rw [upd_ne (by decide), upd_at]
  · rw [h1.2.2.2.1]; unfold begV; rw [upd_at]
  · rw [begV_0 (by decide) (by decide) (by decide)]; exact h1.2.2.2.2.1
  · rw [begV_0 (by decide) (by decide) (by decide)]; exact h1.2.2.2.2.2
  · rw [begV_0 (by omega) (by omega) (by omega)]; exact h3 k hk
  · rw [begV_0 (by omega) (by omega) (by omega)]; exact h2 k hk
/-! where the reference begins -/
def bs9 (N : Mem) : Mem := mput (mput (mput N 9 6 0) 9 12 0) 9 15 0
def bs0 (N : Mem) : Mem := mrow (bs9 N) 11 (va_cpy (N 10) (N 11) 0 0 156)
theorem X6_load_eq (N : Mem) : f_X6_load N = rfT (mrow (bs0 N) 10 (begV (N 10))) := by
  have e1 : f_X6_load N = bnd (f_X6_copies 156 11 156 10 0 0 (bs9 N)) (fun M341 => bnd (f_X6_begins M341) (fun M343 => rfT M343)) := by
    unfold f_X6_load rfT bs9
    rw [letM_eq, letM_eq, letM_eq]
  have h10 : (bs9 N) 10 = N 10 := by unfold bs9; rw [mput_row (by decide), mput_row (by decide), mput_row (by decide)]
  have h11 : (bs9 N) 11 = N 11 := by unfold bs9; rw [mput_row (by decide), mput_row (by decide), mput_row (by decide)]
  have e2 : f_X6_copies 156 11 156 10 0 0 (bs9 N) = some (bs0 N) := by
    have := X6_copies (n1 := 156) (q1 := 11) (n3 := 156) (q3 := 10) (a := 0) (b := 0) (by decide) (by decide) (by decide) (by decide) (by decide) (bs9 N)
    rw [h10, h11] at this
    exact this
  have e3 := X6_begins (bs0 N) ((bs0 N) 10)
  rw [mrow_self] at e3
  have h0 : (bs0 N) 10 = N 10 := by unfold bs0; rw [mrow_row (by decide), h10]
  rw [e1, ev_bnd e2, ev_bnd e3, h0]
theorem bs0_row {N : Mem} {x : Nat} (h9 : x ≠ 9) (h11 : x ≠ 11) : (bs0 N) x = N x := by
  unfold bs0 bs9
  rw [mrow_row h11, mput_row h9, mput_row h9, mput_row h9]
theorem bs0_col {N : Mem} {c : Nat} (h6 : c ≠ 6) (h12 : c ≠ 12) (h15 : c ≠ 15) : (bs0 N) 9 c = N 9 c := by
  unfold bs0 bs9
  rw [mrow_row (by decide), mput_col h15, mput_col h12, mput_col h6]
theorem bs0_12 (N : Mem) : (bs0 N) 9 12 = 0 := by
  unfold bs0 bs9
  rw [mrow_row (by decide), mput_col (by decide), mput_at]
theorem bs0_15 (N : Mem) : (bs0 N) 9 15 = 0 := by
  unfold bs0 bs9
  rw [mrow_row (by decide), mput_at]
theorem bs0_11 {N : Mem} {k : Nat} (hk : k < 156) : (bs0 N) 11 k = N 10 k := by
  unfold bs0
  rw [mrow_at]
  unfold va_cpy
  rw [if_pos (by omega)]
  exact congrArg (N 10) (by omega)
theorem S_run {M N : Mem} {nb : Nat} {tx : Nat → Nat} (hT : TX M (bs0 N) nb tx) : (∃ A' B' s e m n t, f_X3_readText M = some (1, A') ∧ f_X6_load N = f_X6_load_200 B' ∧ LSt M (bs0 N) nb tx A' B' s e m n t ∧ 1 ≤ m) ∨ (∃ A' B', f_X3_readText M = some (0, A') ∧ f_X6_load N = f_X6_load_200 B' ∧ ER M (bs0 N) A' B') := by
  obtain ⟨A, a1, a2, a3, a4, a5⟩ := X1_clear 31 (mput (mput M 1 4 (-1)) 1 6 0)
  have e1 : f_X3_readText M = clT A := by
    have e0 : f_X3_readText M = bnd (f_X1_clear 31 (mput (mput M 1 4 (-1)) 1 6 0)) (fun M45 => clT M45) := rfl
    rw [e0, ev_bnd a1]
  have r1 : A 1 = (mput (mput M 1 4 (-1)) 1 6 0) 1 := a5 1 (by decide) (by decide) (by decide)
  have hP : PT M (bs0 N) nb A (mrow (bs0 N) 10 (begV (N 10))) 0 := by
    refine ⟨⟨fun x hx hx2 => ?_, fun c hc => ?_⟩, ⟨fun x h9 h10 => mrow_row h10, fun c _ => by rw [mrow_row (by decide)]⟩, ⟨0, 0, 0, by rw [mrow_at]; exact beg_VV _⟩, ?_, ?_, ?_, Nat.zero_le _, ?_⟩
    · rw [a5 x (by omega) (by omega) (by omega), mput_row hx, mput_row hx]
    · rw [r1, mput_col (by omega), mput_col (by omega)]
    · rw [r1, mput_col (by decide), mput_at]
    · rw [r1, mput_at]
      rfl
    · rw [mrow_row (by decide), bs0_12]
      rfl
    · rw [mrow_row (by decide), bs0_15]
  have hr : HR A 31 ((mrow (bs0 N) 10 (begV (N 10))) 10) 0 0 := by
    rw [mrow_at]
    exact beg_HR a2 a3 a4
  have hw : VV ((mrow (bs0 N) 10 (begV (N 10))) 10) 0 0 0 := by
    rw [mrow_at]
    exact beg_VV _
  rw [e1, X6_load_eq]
  exact S_text hT hP hr hw
/-! the call -/
theorem X6_fin0 {B : Mem} (h0 : B 9 15 = 0) : f_X6_load_200 B = bnd (f_X6_keeps 11 (mput (mput B 9 17 (-1)) 9 10 0)) (fun M319 => some (M319 10 0, M319)) := by
  have h1 : (mput (mput B 9 17 (-1)) 9 10 0) 9 15 = 0 := by rw [mput_col (by decide), mput_col (by decide)]; exact h0
  unfold f_X6_load_200 f_X6_load_216 f_X6_load_244
  rw [if_pos h0, letM_eq, letM_eq, if_pos h1, if_pos h1]
theorem X6_finE {B : Mem} (hE : ¬ B 9 15 = 0) : f_X6_load_200 B = some (B 9 15, mrow (mput (mput B 9 17 (B 9 16)) 9 10 0) 10 (va_cpy (B 11) (B 10) 0 0 156)) := by
  have h1 : (mput (mput B 9 17 (B 9 16)) 9 10 0) 9 15 = B 9 15 := by rw [mput_col (by decide), mput_col (by decide)]
  have h10 : (mput (mput B 9 17 (B 9 16)) 9 10 0) 10 = B 10 := by rw [mput_row (by decide), mput_row (by decide)]
  have h11 : (mput (mput B 9 17 (B 9 16)) 9 10 0) 11 = B 11 := by rw [mput_row (by decide), mput_row (by decide)]
  have e2 : f_X6_copies 156 10 156 11 0 0 (mput (mput B 9 17 (B 9 16)) 9 10 0) = some (mrow (mput (mput B 9 17 (B 9 16)) 9 10 0) 10 (va_cpy (B 11) (B 10) 0 0 156)) := by
    have := X6_copies (n1 := 156) (q1 := 10) (n3 := 156) (q3 := 11) (a := 0) (b := 0) (by decide) (by decide) (by decide) (by decide) (by decide) (mput (mput B 9 17 (B 9 16)) 9 10 0)
    rw [h10, h11] at this
    exact this
  unfold f_X6_load_200 f_X6_load_216 f_X6_load_244
  rw [if_neg hE, letM_eq, letM_eq, if_neg (by rw [h1]; exact hE), ev_bnd e2, mrow_row (by decide), h1, if_neg hE]
