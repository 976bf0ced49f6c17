/-! THE DAY, WRITTEN -/
def dyB (v : Nat → Int32) : Nat → Nat → List Int32
  | 0, _ => []
  | d + 1, k => (if sSp (bvo v) k = true then 115 else 46) :: dyB v d (k + 1)
theorem dyB_len (v : Nat → Int32) : ∀ (d k : Nat), (dyB v d k).length = d
  | 0, _ => rfl
  | d + 1, k => by
    show ((if sSp (bvo v) k = true then (115 : Int32) else 46) :: dyB v d (k + 1)).length = d + 1
    rw [List.length_cons, dyB_len v d (k + 1)]
theorem dyB_app (bs : List Int32) (v : Nat → Int32) (d k : Nat) : bs ++ dyB v (d + 1) k = (bs ++ [(if sSp (bvo v) k = true then (115 : Int32) else 46)]) ++ dyB v d (k + 1) := by
  rw [List.append_assoc]
  rfl
theorem X5_day {M0 M : Mem} {bs : List Int32} {v : Nat → Int32} {m n t : Nat} (h0 : HR M0 18 v m n) (w : VV v m n t) (h : CW M0 M bs) (hl : bs.length + 29 ≤ 119) : ∃ M1, lp (fun _ _ => none) f_X5_writeDay_10 FU 0 M = some (M1 5 1, M1) ∧ CW M0 M1 (((bs ++ dyB v 24 0) ++ [47]) ++ tlD t (szD t 3)) := by
  have ht := w.2.2.1
  have hs := szD_le t 3
  refine lp_dn (z := fun _ _ => none) (b := f_X5_writeDay_10) (fun k r => ∀ (M : Mem) (bs : List Int32), CW M0 M bs → bs.length + ((24 - k) + 5) ≤ 119 → ∃ M1, r (nI k) M = some (M1 5 1, M1) ∧ CW M0 M1 (((bs ++ dyB v (24 - k) k) ++ [47]) ++ tlD t (szD t 3))) 24 (fun r M bs h hl => ?_) (fun k r hk ih M bs h hl => ?_) 0 FU (by omega) (by rw [FU_eq]; omega) M bs h (by omega)
  · obtain ⟨M1, e1, h1⟩ := h.put (by omega) 47
    have e16 : M1 18 16 = nI t := by rw [h1.2.2.2 18 (by decide) (by decide), h0.tim, w.e4]
    obtain ⟨M2, e2, h2⟩ := X4_addNumber ht h1 (by rw [List.length_append, List.length_singleton]; omega)
    unfold f_X5_writeDay_10
    rw [if_pos (show (24 : Int32) ≤ nI 24 from le_self_nI 24), ev_bnd e1, e16, ev_bnd e2, Nat.sub_self]
    refine ⟨M2, rfl, ?_⟩
    rw [show dyB v 0 24 = [] from rfl, List.append_nil]
    exact h2
  · have ed : 24 - k = (24 - (k + 1)) + 1 := by omega
    have hM : HR M 18 v m n := h0.cong (fun i hi => h.2.2.2 _ (by omega) (by omega))
    unfold f_X5_writeDay_10 f_X5_writeDay_38
    rw [if_neg (show ¬ (24 : Int32) ≤ nI k from not_le_nI hk (by decide)), ev_bnd (X1_isSpeechAt hM hk), ← nI_succ]
    rw [ed, dyB_app]
    cases hq : sSp (bvo v) k with
    | false =>
      rw [if_pos b2_f, if_neg (by decide)]
      obtain ⟨M1, e1, h1⟩ := h.put (by omega) 46
      rw [ev_bnd e1]
      exact ih M1 _ h1 (by rw [List.length_append, List.length_singleton]; omega)
    | true =>
      rw [if_neg (by decide), if_pos rfl]
      obtain ⟨M1, e1, h1⟩ := h.put (by omega) 115
      rw [ev_bnd e1]
      exact ih M1 _ h1 (by rw [List.length_append, List.length_singleton]; omega)
theorem X6_day {N0 N : Mem} {bs : List Int32} {v : Nat → Int32} {m n t : Nat} (hv : N0 10 = v) (w : VV v m n t) (h : NW N0 N bs) (hl : bs.length + 29 ≤ 119) : ∃ N1, lp (fun _ _ => none) f_X6_writeDay_12 FU 0 N = some (N1 9 8, N1) ∧ NW N0 N1 (((bs ++ dyB v 24 0) ++ [47]) ++ tlD t (szD t 3)) := by
  have ht := w.2.2.1
  have hs := szD_le t 3
  refine lp_dn (z := fun _ _ => none) (b := f_X6_writeDay_12) (fun k r => ∀ (N : Mem) (bs : List Int32), NW N0 N bs → bs.length + ((24 - k) + 5) ≤ 119 → ∃ N1, r (nI k) N = some (N1 9 8, N1) ∧ NW N0 N1 (((bs ++ dyB v (24 - k) k) ++ [47]) ++ tlD t (szD t 3))) 24 (fun r N bs h hl => ?_) (fun k r hk ih N bs h hl => ?_) 0 FU (by omega) (by rw [FU_eq]; omega) N bs h (by omega)
  · obtain ⟨N1, e1, h1⟩ := h.put (by omega) 47
    obtain ⟨N2, e2, h2⟩ := X6_writeDay_n ht (by rw [hv, w.e4]) h1 (by rw [List.length_append, List.length_singleton]; omega)
    unfold f_X6_writeDay_12
    rw [if_pos (show (24 : Int32) ≤ nI 24 from le_self_nI 24), ev_bnd e1, e2, Nat.sub_self]
    refine ⟨N2, rfl, ?_⟩
    rw [show dyB v 0 24 = [] from rfl, List.append_nil]
    exact h2
  · have ed : 24 - k = (24 - (k + 1)) + 1 := by omega
    unfold f_X6_writeDay_12 f_X6_writeDay_34
    rw [if_neg (show ¬ (24 : Int32) ≤ nI k from not_le_nI hk (by decide)), ev_bnd (X6_isSpeech (v := v) (by rw [h.2.2.2.2 10 (by decide) (by decide), hv]) hk), ← nI_succ]
    rw [ed, dyB_app]
    cases hq : sSp (bvo v) k with
    | false =>
      rw [if_pos b2_f, if_neg (by decide)]
      obtain ⟨M1, e1, h1⟩ := h.put (by omega) 46
      rw [ev_bnd e1]
      exact ih M1 _ h1 (by rw [List.length_append, List.length_singleton]; omega)
    | true =>
      rw [if_neg (by decide), if_pos rfl]
      obtain ⟨M1, e1, h1⟩ := h.put (by omega) 115
      rw [ev_bnd e1]
      exact ih M1 _ h1 (by rw [List.length_append, List.length_singleton]; omega)
theorem C_writeDay {M : Mem} (hI : Inv M) : ∃ r M1 M2, f_X5_writeDay M = some (r, M1) ∧ f_X6_writeDay M1 = some (r, M2) ∧ Inv M2 := by
  obtain ⟨m, n, t, h1, h, w⟩ := hI.1
  have hM0 : ∀ x, x ≠ 5 → (mput M 5 1 0) x = M x := fun x hx => mput_row hx
  have hC0 : CW (mput M 5 1 0) (mput M 5 1 0) [] := ⟨by decide, by rw [mput_at]; rfl, fun k hk => absurd hk (Nat.not_lt_zero k), fun _ _ _ => rfl⟩
  obtain ⟨Mc, e1, g1⟩ := X5_day (h.cong (M' := mput M 5 1 0) (fun i hi => hM0 _ (by omega))) w hC0 (by decide)
  generalize hb : (([] ++ dyB (M 10) 24 0) ++ [47]) ++ tlD t (szD t 3) = bs at g1
  have hc10 : Mc 10 = M 10 := by rw [g1.2.2.2 10 (by decide) (by decide), hM0 10 (by decide)]
  have hN00 : NW (mput (mput Mc 9 6 0) 9 8 0) (mput (mput Mc 9 6 0) 9 8 0) [] := ⟨by decide, by rw [mput_at]; rfl, fun k hk => absurd hk (Nat.not_lt_zero k), fun _ _ => rfl, fun _ _ _ => rfl⟩
  obtain ⟨N, e2, g2⟩ := X6_day (v := M 10) (by rw [mput_row (by decide), mput_row (by decide), hc10]) w hN00 (by decide)
  rw [hb] at g2
  obtain ⟨q1, q2, q3⟩ := wr_end (r := Mc 17 0) hI hM0 g1 (fun x hx => by rw [mput_id, mput_row hx, mput_row hx]) (fun c h6 h8 => by rw [mput_col h8, mput_col h6]) g2
  refine ⟨Mc 5 1, Mc, N, ?_, ?_, q1⟩
  · unfold f_X5_writeDay
    rw [letM_eq]
    exact e1
  · unfold f_X6_writeDay
    rw [letM_eq, letM_eq]
    refine e2.trans ?_
    rw [g1.2.1, g2.2.1]
