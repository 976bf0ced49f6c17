/-! THE LAW: each call agrees, so all do -/
theorem lcm2_self (a : Int32) : lcm2 a a = 0 := (lcm2_0 a a).mpr rfl
theorem agr_step {c : Option (Int32 × Mem)} {md : Mem → Option (Int32 × Mem)} (h : Agr c md) {rec : Mem → Option Unit} (hr : ∀ M, Inv M → rec M = some ()) : bnd2 c (fun r8 M9 => bnd2 (md M9) (fun r15 M16 => bnd (f_X6_thrown M16) (fun r17 => if r17 = r8 then (if r8 = 0 then (if lcm2 (M16 17 0) r15 = 0 then rec M16 else none) else rec M16) else none))) = some () := by
  obtain ⟨k, M1, b, M2, h1, h2, h3, h4, h5⟩ := h
  unfold f_X6_thrown
  rw [ev_bnd2 h1, ev_bnd2 h2, bnd_some, if_pos h3]
  by_cases hk : k = 0
  · rw [if_pos hk, h4 hk, if_pos (lcm2_self b)]
    exact hr M2 h5
  · rw [if_neg hk]
    exact hr M2 h5
theorem agrN_step {c : Option Int32} {md : Option (Int32 × Mem)} (h : AgrN c md) {rec : Mem → Option Unit} (hr : ∀ M, Inv M → rec M = some ()) : bnd c (fun r => bnd2 md (fun r' M' => if r = r' then rec M' else none)) = some () := by
  obtain ⟨r, M2, h1, h2, h3⟩ := h
  rw [ev_bnd h1, ev_bnd2 h2, if_pos rfl]
  exact hr M2 h3
theorem agr2_step {c : Option (Int32 × Mem)} {md : Mem → Option (Int32 × Mem)} (h : ∃ r M1 M2, c = some (r, M1) ∧ md M1 = some (r, M2) ∧ Inv M2) {rec : Mem → Option Unit} (hr : ∀ M, Inv M → rec M = some ()) : bnd2 c (fun r M1 => bnd2 (md M1) (fun r' M' => if r = r' then rec M' else none)) = some () := by
  obtain ⟨r, M1, M2, h1, h2, h3⟩ := h
  rw [ev_bnd2 h1, ev_bnd2 h2, if_pos rfl]
  exact hr M2 h3
theorem agrS_step {c : Option (Int32 × Mem)} {md : Mem → Option Mem} (h : ∃ k M1 M2, c = some (k, M1) ∧ md M1 = some M2 ∧ M2 9 6 = k ∧ Inv M2) {rec : Mem → Option Unit} (hr : ∀ M, Inv M → rec M = some ()) : bnd2 c (fun r M1 => bnd (md M1) (fun M' => bnd (f_X6_thrown M') (fun r' => if r' = r then rec M' else none))) = some () := by
  obtain ⟨k, M1, M2, h1, h2, h3, h4⟩ := h
  unfold f_X6_thrown
  rw [ev_bnd2 h1, ev_bnd h2, bnd_some, if_pos h3]
  exact hr M2 h4
theorem agrH_step {c : Option (Int32 × Mem)} {md : Mem → Option (Int32 × Mem)} (h : ∃ k M1 bb M2, c = some (k, M1) ∧ md M1 = some (b2 bb, M2) ∧ M2 9 6 = k ∧ (k = 0 → M2 17 0 = b2 bb) ∧ Inv M2) {rec : Mem → Option Unit} (hr : ∀ M, Inv M → rec M = some ()) : bnd2 c (fun r60 M61 => bnd2 (md M61) (fun r65 M66 => bnd (f_X6_thrown M66) (fun r67 => if r67 = r60 then (if r60 = 0 then (if r65 = 0 then (if lcm2 (M66 17 0) 0 = 0 then rec M66 else none) else (if lcm2 (M66 17 0) 1 = 0 then rec M66 else none)) else rec M66) else none))) = some () := by
  obtain ⟨k, M1, bb, M2, h1, h2, h3, h4, h5⟩ := h
  unfold f_X6_thrown
  rw [ev_bnd2 h1, ev_bnd2 h2, bnd_some, if_pos h3]
  by_cases hk : k = 0
  · rw [if_pos hk, h4 hk]
    cases bb with
    | false =>
      rw [if_pos b2_f, show lcm2 (b2 false) 0 = 0 from lcm2_self 0, if_pos rfl]
      exact hr M2 h5
    | true =>
      rw [if_neg (by decide), show lcm2 (b2 true) 1 = 0 from lcm2_self 1, if_pos rfl]
      exact hr M2 h5
  · rw [if_neg hk]
    exact hr M2 h5
theorem agrD_step {c : Option UInt64} {md : Option (UInt64 × Mem)} {M : Mem} (hI : Inv M) (h : ∃ z, c = some z ∧ md = some (z, mput M 9 6 0)) {rec : Mem → Option Unit} (hr : ∀ M, Inv M → rec M = some ()) : bnd c (fun z => bndD md (fun z' M' => if z = z' then rec M' else none)) = some () := by
  obtain ⟨z, h1, h2⟩ := h
  rw [ev_bnd h1, h2]
  show (if z = z then rec (mput M 9 6 0) else none) = some ()
  rw [if_pos rfl]
  exact hr _ (hI.same (Same.thr M 0))
theorem agrF_step {c : Option UInt32} {md : Option (UInt32 × Mem)} {M : Mem} (hI : Inv M) (h : ∃ z, c = some z ∧ md = some (z, mput M 9 6 0)) {rec : Mem → Option Unit} (hr : ∀ M, Inv M → rec M = some ()) : bnd c (fun z => bndD md (fun z' M' => if (FP.f2d z) = (FP.f2d z') then rec M' else none)) = some () := by
  obtain ⟨z, h1, h2⟩ := h
  rw [ev_bnd h1, h2]
  show (if (FP.f2d z) = (FP.f2d z) then rec (mput M 9 6 0) else none) = some ()
  rw [if_pos rfl]
  exact hr _ (hI.same (Same.thr M 0))
set_option maxHeartbeats 4000000 in
set_option maxRecDepth 100000 in
theorem law_step {xs : Nat → Int32} {L j : Nat} {rec : Int32 → Mem → Option Unit} {M : Mem} (hI : Inv M) (hj : 6 * j + 6 ≤ L) (hL : L ≤ 3072) (hr : ∀ M, Inv M → rec (nI (6 * j) + 6) M = some ()) : f_L_law_23 xs L rec (nI (6 * j)) M = some () := by
  have h0 : inB (nI (6 * j)) L = true := inB_nI (by omega) (by omega)
  have h1 : inB (nI (6 * j) + 1) L = true := by
    rw [show (1 : Int32) = nI 1 from rfl, nI_add]
    exact inB_nI (by omega) (by omega)
  have h2 : inB (nI (6 * j) + 2) L = true := by
    rw [show (2 : Int32) = nI 2 from rfl, nI_add]
    exact inB_nI (by omega) (by omega)
  have h3 : inB (nI (6 * j) + 3) L = true := by
    rw [show (3 : Int32) = nI 3 from rfl, nI_add]
    exact inB_nI (by omega) (by omega)
  have h4 : inB (nI (6 * j) + 4) L = true := by
    rw [show (4 : Int32) = nI 4 from rfl, nI_add]
    exact inB_nI (by omega) (by omega)
  have h5 : inB (nI (6 * j) + 5) L = true := by
    rw [show (5 : Int32) = nI 5 from rfl, nI_add]
    exact inB_nI (by omega) (by omega)
  have hlt : ¬ nI L - 6 < nI (6 * j) := by
    rw [show (6 : Int32) = nI 6 from rfl, nI_sub (by omega)]
    exact nI_nlt (by omega) (by omega)
  unfold f_L_law_23
  rw [if_neg hlt, ev_chk h0, letV_eq]
  simp only [h1, h2, h3, h4, h5, chk_true]
  generalize xs (ix (nI (6 * j))) &&& 31 = y
  by_cases e0 : y = 0
  · rw [if_pos e0]
    exact agr_step (C_append hI _ _ _ _ _) hr
  rw [if_neg e0]
  by_cases e1 : y = 1
  · rw [if_pos e1]
    exact agr2_step (C_load hI) hr
  rw [if_neg e1]
  by_cases e2 : y = 2
  · rw [if_pos e2]
    exact agrN_step (C_errorPosition hI) hr
  rw [if_neg e2]
  by_cases e3 : y = 3
  · rw [if_pos e3]
    exact agr_step (C_count hI _) hr
  rw [if_neg e3]
  by_cases e4 : y = 4
  · rw [if_pos e4]
    exact agr_step (C_account hI _) hr
  rw [if_neg e4]
  by_cases e5 : y = 5
  · rw [if_pos e5]
    exact agr_step (C_monk hI _ _) hr
  rw [if_neg e5]
  by_cases e6 : y = 6
  · rw [if_pos e6]
    exact agr_step (C_need hI _ _) hr
  rw [if_neg e6]
  by_cases e7 : y = 7
  · rw [if_pos e7]
    by_cases hz : xs (ix (nI (6 * j) + 3)) = 0
    · simp only [if_pos hz]
      exact agrH_step (C_has hI _ _ false) hr
    · simp only [if_neg hz]
      exact agrH_step (C_has hI _ _ true) hr
  rw [if_neg e7]
  by_cases e8 : y = 8
  · rw [if_pos e8]
    exact agr_step (C_bell hI _) hr
  rw [if_neg e8]
  by_cases e9 : y = 9
  · rw [if_pos e9]
    exact agr_step (C_why hI _ _ _ _ _) hr
  rw [if_neg e9]
  by_cases e10 : y = 10
  · rw [if_pos e10]
    exact agrN_step (C_gap hI) hr
  rw [if_neg e10]
  by_cases e11 : y = 11
  · rw [if_pos e11]
    exact agrD_step hI (C_meanFast hI) hr
  rw [if_neg e11]
  by_cases e12 : y = 12
  · rw [if_pos e12]
    exact agrF_step hI (C_breachShare hI) hr
  rw [if_neg e12]
  by_cases e13 : y = 13
  · rw [if_pos e13]
    exact agrN_step (C_ranked hI _) hr
  rw [if_neg e13]
  by_cases e14 : y = 14
  · rw [if_pos e14]
    exact agr_step (C_bestWay hI _ _ _) hr
  rw [if_neg e14]
  by_cases e15 : y = 15
  · rw [if_pos e15]
    exact agrN_step (C_speechIn hI) hr
  rw [if_neg e15]
  by_cases e16 : y = 16
  · rw [if_pos e16]
    exact agr_step (C_fastIn hI _) hr
  rw [if_neg e16]
  by_cases e17 : y = 17
  · rw [if_pos e17]
    exact agr_step (C_freeIn hI _) hr
  rw [if_neg e17]
  by_cases e18 : y = 18
  · rw [if_pos e18]
    exact agrN_step (C_bestBell hI) hr
  rw [if_neg e18]
  by_cases e19 : y = 19
  · rw [if_pos e19]
    exact agrN_step (C_bestHearer hI) hr
  rw [if_neg e19]
  by_cases e20 : y = 20
  · rw [if_pos e20]
    exact agr_step (C_want hI _ _) hr
  rw [if_neg e20]
  by_cases e21 : y = 21
  · rw [if_pos e21]
    exact agr_step (C_tell hI _ _ _ _) hr
  rw [if_neg e21]
  by_cases e22 : y = 22
  · rw [if_pos e22]
    exact agr_step (C_give hI _ _ _) hr
  rw [if_neg e22]
  by_cases e23 : y = 23
  · rw [if_pos e23]
    exact agr_step (C_pass hI _) hr
  rw [if_neg e23]
  by_cases e24 : y = 24
  · rw [if_pos e24]
    exact agr_step (C_setBell hI _ _) hr
  rw [if_neg e24]
  by_cases e25 : y = 25
  · rw [if_pos e25]
    exact agr_step (C_set hI _ _) hr
  rw [if_neg e25]
  by_cases e26 : y = 26
  · rw [if_pos e26]
    exact agr_step (C_undo hI) hr
  rw [if_neg e26]
  by_cases e27 : y = 27
  · rw [if_pos e27]
    exact agrS_step (C_save hI _) hr
  rw [if_neg e27]
  by_cases e28 : y = 28
  · rw [if_pos e28]
    exact agr_step (C_restore hI _) hr
  rw [if_neg e28]
  by_cases e29 : y = 29
  · rw [if_pos e29]
    exact agr_step (C_writeMonk hI _) hr
  rw [if_neg e29]
  by_cases e30 : y = 30
  · rw [if_pos e30]
    exact agr2_step (C_writeDay hI) hr
  rw [if_neg e30]
  by_cases e31 : y = 31
  · rw [if_pos e31]
    exact agr_step (C_writtenByte hI _) hr
  rw [if_neg e31]
  exact hr M hI
theorem law_all {xs : Nat → Int32} {L : Nat} (hL : L ≤ 3072) : ∀ (n j : Nat) (M : Mem), L < 6 * (j + n + 1) → 6 * j ≤ 3072 → Inv M → f_L_law xs L (n + 1) (nI (6 * j)) M = some () := by
  have fin : ∀ (n j : Nat) (M : Mem), L < 6 * (j + 1) → 6 * j ≤ 3072 → f_L_law xs L (n + 1) (nI (6 * j)) M = some () := by
    intro n j M h1 h2
    show f_L_law_23 xs L (f_L_law xs L n) (nI (6 * j)) M = some ()
    generalize f_L_law xs L n = rr
    have hlt : nI L - 6 < nI (6 * j) := by
      rw [i32_lt, Int32.toInt_sub, nI_tI (by omega), nI_tI (by omega), show (6 : Int32).toInt = 6 from rfl, Int.bmod_eq_of_le (by omega) (by omega)]
      omega
    unfold f_L_law_23
    rw [if_pos hlt]
  intro n
  induction n with
  | zero =>
    intro j M h1 h2 hI
    exact fin 0 j M h1 h2
  | succ n ih =>
    intro j M h1 h2 hI
    by_cases hj : L < 6 * (j + 1)
    · exact fin (n + 1) j M hj h2
    · show f_L_law_23 xs L (f_L_law xs L (n + 1)) (nI (6 * j)) M = some ()
      refine law_step hI (by omega) hL (fun M' hI' => ?_)
      rw [show (6 : Int32) = nI 6 from rfl, nI_add, show 6 * j + 6 = 6 * (j + 1) by omega]
      exact ih (j + 1) M' (by omega) (by omega) hI'
