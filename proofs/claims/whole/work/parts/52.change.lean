/-! CALLS THAT CHANGE THE HOUSE: what is kept on both sides -/
theorem rem_ex {M : Mem} (hI : Inv M) : ∃ M1, f_X0_remember 18 M = some M1 ∧ ∀ r, r ≠ 3 → (r < 44 ∨ 148 ≤ r) → M1 r = M r := by
  obtain ⟨h, od, g1, g2, g3, g4, g5, g6⟩ := hI.2.2.2.1
  obtain ⟨N, od', c1, c2, c3, c4, c5, c6⟩ := X0_remember g1 g2 g3 g5 g6 hI.1
  exact ⟨N, c1, c5⟩
theorem keep_ex {M N : Mem} (hI : Inv M) (e : N 9 5 = M 9 5) {q : Nat} (hq : q = 10 ∨ q = 11) : ∃ N1, f_X6_keeps q N = some N1 ∧ (∀ r, r ≠ 9 → r ≠ 12 → N1 r = N r) ∧ ∀ c, c ≠ 5 → N1 9 c = N 9 c := by
  obtain ⟨h, od, g1, g2, g3, g4, g5, g6⟩ := hI.2.2.2.1
  obtain ⟨N1, c1, c2, c3, c4, c5⟩ := X6_keeps (M := N) hq g1 (by rw [e]; exact g4)
  exact ⟨N1, c1, c4, c3⟩
theorem change_inv {M M1 M2 N1 N2 : Mem} (hI : Inv M) (e1 : f_X0_remember 18 M = some M1) (hM2 : ∀ k, ¬ (18 ≤ k ∧ k < 31) → M2 k = M1 k) (r : Int32) (e3 : f_X6_keeps 10 (mput (mput M2 17 0 r) 9 6 0) = some N1) (hN2 : ∀ k, k ≠ 10 → N2 k = N1 k) (hok : HOK N2 18 (N2 10)) : Inv N2 ∧ N2 9 6 = 0 ∧ N2 17 0 = r := by
  obtain ⟨hOw, hBu, hWr, hHi, hSa, hEr⟩ := hI
  obtain ⟨h, od, g1, g2, g3, g4, g5, g6⟩ := hHi
  obtain ⟨M1', od', c1, c2, c3, c4, c5, c6⟩ := X0_remember g1 g2 g3 g5 g6 hOw
  rw [e1] at c1
  cases c1
  generalize hMk : mput (mput M2 17 0 r) 9 6 0 = Mk at e3
  have k9 : ∀ c, c ≠ 6 → Mk 9 c = M 9 c := fun c hc => by
    rw [← hMk, mput_col hc, mput_row (by decide), hM2 9 (by omega), c5 9 (by decide) (by decide)]
  have kr : ∀ x, x ≠ 9 → x ≠ 17 → Mk x = M2 x := fun x h1 h2 => by rw [← hMk, mput_row h1, mput_row h2]
  obtain ⟨N1', d1, d2, d3, d4, d5⟩ := X6_keeps (M := Mk) (Or.inl rfl) g1 (by rw [k9 5 (by decide)]; exact g4)
  rw [e3] at d1
  cases d1
  have hr : ∀ x, x ≠ 3 → x ≠ 9 → x ≠ 10 → x ≠ 12 → x ≠ 17 → ¬ (18 ≤ x ∧ x < 31) → (x < 44 ∨ 148 ≤ x) → N2 x = M x := fun x h3 h9 h10 h12 h17 h18 h44 => by
    rw [hN2 x h10, d4 x h9 h12, kr x h9 h17, hM2 x h18, c5 x h3 h44]
  have h9c : ∀ c, c ≠ 5 → c ≠ 6 → N2 9 c = M 9 c := fun c h5 h6 => by rw [hN2 9 (by decide), d3 c h5, k9 c h6]
  have hh : ∀ x, (44 ≤ x ∧ x < 148) → N2 x = M1 x := fun x hx => by rw [hN2 x (by omega), d4 x (by omega) (by omega), kr x (by omega) (by omega), hM2 x (by omega)]
  refine ⟨⟨hok, ?_, ?_, ?_, ?_, ?_⟩, ?_, ?_⟩
  · unfold iBu at hBu ⊢
    rw [hr 1 (by decide) (by decide) (by decide) (by decide) (by decide) (by decide) (by decide), hr 2 (by decide) (by decide) (by decide) (by decide) (by decide) (by decide) (by decide), hr 16 (by decide) (by decide) (by decide) (by decide) (by decide) (by decide) (by decide), h9c 10 (by decide) (by decide)]
    exact hBu
  · unfold iWr at hWr ⊢
    rw [hr 5 (by decide) (by decide) (by decide) (by decide) (by decide) (by decide) (by decide), hr 6 (by decide) (by decide) (by decide) (by decide) (by decide) (by decide) (by decide), hr 15 (by decide) (by decide) (by decide) (by decide) (by decide) (by decide) (by decide), h9c 8 (by decide) (by decide)]
    exact hWr
  · have e33 : N2 3 = M1 3 := by rw [hN2 3 (by decide), d4 3 (by decide) (by decide), kr 3 (by decide) (by decide), hM2 3 (by decide)]
    refine ⟨min (h + 1) 8, od', Nat.min_le_right _ _, c2, by rw [e33]; exact c3, by rw [hN2 9 (by decide)]; exact d2, by rw [e33]; exact c4, fun j hj => ?_⟩
    refine ((c6 j hj).cong (fun i hi => hh _ (by have := Nat.mod_lt (od' + j) (show 0 < 8 by decide); omega)) rfl).congv (fun k hk => ?_)
    rw [hN2 12 (by decide), d5 j hj k hk]
    unfold newv
    rw [kr 12 (by decide) (by decide), kr 10 (by decide) (by decide), hM2 12 (by decide), hM2 10 (by decide), c5 12 (by decide) (by decide), c5 10 (by decide) (by decide)]
  · intro j hj
    rw [hr 8 (by decide) (by decide) (by decide) (by decide) (by decide) (by decide) (by decide), hr 14 (by decide) (by decide) (by decide) (by decide) (by decide) (by decide) (by decide), hr 13 (by decide) (by decide) (by decide) (by decide) (by decide) (by decide) (by decide)]
    rcases hSa j hj with g | ⟨q1, q2, q3⟩
    · exact Or.inl g
    · exact Or.inr ⟨q1, q2, q3.cong (fun i hi => hr _ (by omega) (by omega) (by omega) (by omega) (by omega) (by omega) (by omega)) rfl⟩
  · unfold iEr at hEr ⊢
    rw [hr 1 (by decide) (by decide) (by decide) (by decide) (by decide) (by decide) (by decide), h9c 17 (by decide) (by decide)]
    exact hEr
  · rw [hN2 9 (by decide), d3 6 (by decide), ← hMk, mput_at]
  · rw [hN2 17 (by decide), d4 17 (by decide) (by decide), ← hMk, mput_row (by decide), mput_at]
/-- a change on both sides, the first half told by the class -/
theorem agrC {M M1 M2 N1 N2 : Mem} {c : Option (Int32 × Mem)} {md : Mem → Option (Int32 × Mem)} {r : Int32} (hI : Inv M) (e1 : f_X0_remember 18 M = some M1) (hc : c = some (0, mput M2 17 0 r)) (hM2 : ∀ k, ¬ (18 ≤ k ∧ k < 31) → M2 k = M1 k) (e3 : f_X6_keeps 10 (mput (mput M2 17 0 r) 9 6 0) = some N1) (hm : md (mput M2 17 0 r) = some (r, N2)) (hN2 : ∀ k, k ≠ 10 → N2 k = N1 k) (hok : HOK N2 18 (N2 10)) : Agr c md := by
  obtain ⟨h1, h2, h3⟩ := change_inv hI e1 hM2 r e3 hN2 hok
  exact ⟨0, _, r, N2, hc, hm, h2, fun _ => h3, h1⟩
/-- where the two sides stand when the change itself begins -/
theorem mid_N {M M1 M2 N1 : Mem} {r : Int32} (hM1 : ∀ x, x ≠ 3 → (x < 44 ∨ 148 ≤ x) → M1 x = M x) (hM2 : ∀ k, ¬ (18 ≤ k ∧ k < 31) → M2 k = M1 k) (h4 : ∀ x, x ≠ 9 → x ≠ 12 → N1 x = (mput (mput M2 17 0 r) 9 6 0) x) : N1 10 = M 10 ∧ (∀ k, 18 ≤ k → k < 31 → N1 k = M2 k) ∧ (∀ k, 18 ≤ k → k < 31 → M1 k = M k) ∧ M1 10 = M 10 := by
  refine ⟨?_, fun k h1 h2 => ?_, fun k h1 h2 => ?_, ?_⟩
  · rw [h4 10 (by decide) (by decide), mput_row (by decide), mput_row (by decide), hM2 10 (by decide), hM1 10 (by decide) (by decide)]
  · rw [h4 k (by omega) (by omega), mput_row (by omega), mput_row (by omega)]
  · exact hM1 k (by omega) (by omega)
  · exact hM1 10 (by decide) (by decide)
theorem mid95 {M M1 M2 : Mem} {r : Int32} (hM1 : ∀ x, x ≠ 3 → (x < 44 ∨ 148 ≤ x) → M1 x = M x) (hM2 : ∀ k, ¬ (18 ≤ k ∧ k < 31) → M2 k = M1 k) : (mput (mput M2 17 0 r) 9 6 0) 9 5 = M 9 5 := by
  rw [mput_col (by decide), mput_row (by decide), hM2 9 (by decide), hM1 9 (by decide) (by decide)]
/-! undo, save, restore -/
theorem C_undo {M : Mem} (hI : Inv M) : Agr (f_L_undo M) (f_X6_undo) := by
  obtain ⟨hOw, hBu, hWr, hHi, hSa, hEr⟩ := id hI
  obtain ⟨h, od, g1, g2, g3, g4, g5, g6⟩ := hHi
  by_cases h0 : h = 0
  · subst h0
    have hc : f_X5_undo M = some (3, 0, M) := by
      unfold f_X5_undo
      rw [g3, if_pos (show nI 0 = 0 from rfl)]
    refine agrk hI (b := 0) (by decide) (L3_undo hc) ?_
    unfold f_X6_undo f_X6_undo_13
    rw [g4, if_pos (show nI 0 = 0 from rfl), letM_eq, mput_at]
    rfl
  · have hz : ¬ nI h = 0 := nI_ne0 (by omega) (by omega)
    have hx : (od + (h - 1)) % 8 < 8 := Nat.mod_lt _ (by decide)
    obtain ⟨M1, c1, c2, c3, c4⟩ := X1_copyFrom (o := 18) (q := 44 + 13 * ((od + (h - 1)) % 8)) (by omega) (mput M 3 2 (nI (h - 1)))
    have hc : f_X5_undo M = some (0, nI (h - 1), M1) := by
      unfold f_X5_undo f_X0_bringBack
      rw [g3, if_neg hz, if_neg (nI_nle (by omega) (by omega)), letM_eq, show (1 : Int32) = nI 1 from rfl, nI_sub (by omega), mput_col (by decide), mput_at, g5, nI_add, show (8 : Int32) = nI 8 from rfl, nI_irem (by omega) (by decide), ev_chk (inB_nI hx (by decide)), ix_nI (by omega), ev_bnd c1, bnd_some, c4 3 (by decide), mput_at]
    refine ⟨0, _, nI (h - 1), mrow (mput (mput (mput M1 17 0 (nI (h - 1))) 9 6 0) 9 5 (nI (h - 1))) 10 (va_cpy (M 12) (M 10) (156 * (h - 1)) 0 156), L0_undo hc, ?_, ?_, fun _ => ?_, ?_⟩
    · have e9 : (mput M1 17 0 (nI (h - 1))) 9 5 = nI h := by rw [mput_row (by decide), c4 9 (by decide), mput_row (by decide), g4]
      unfold f_X6_undo f_X6_undo_13
      rw [e9, if_neg hz, letM_eq, mput_at, if_pos le00, letM_eq, mput_col (show (5 : Nat) ≠ 6 by decide), e9, show (1 : Int32) = nI 1 from rfl, nI_sub (by omega), mput_at, show (156 : Int32) = nI 156 from rfl, nI_mul, show (0 : Int32) = nI 0 from rfl, ev_bnd (X6_copies (by decide) (by decide) (by omega) (by decide) (by decide) _), mrow_row (by decide), mput_at, mput_row (by decide), mput_row (by decide), mput_row (by decide), c4 12 (by decide), mput_row (by decide), mput_row (by decide), mput_row (by decide), mput_row (by decide), c4 10 (by decide), mput_row (by decide)]
    · rw [mrow_row (by decide), mput_col (by decide), mput_at]
    · rw [mrow_row (by decide), mput_row (by decide), mput_row (by decide), mput_at]
    · generalize hF : mrow (mput (mput (mput M1 17 0 (nI (h - 1))) 9 6 0) 9 5 (nI (h - 1))) 10 (va_cpy (M 12) (M 10) (156 * (h - 1)) 0 156) = F
      have r1 : ∀ x, x ≠ 10 → x ≠ 9 → x ≠ 17 → F x = M1 x := fun x a b c => by rw [← hF, mrow_row a, mput_row b, mput_row b, mput_row c]
      have r2 : ∀ x, x ≠ 10 → x ≠ 9 → x ≠ 17 → x ≠ 3 → (x < 18 ∨ 31 ≤ x) → F x = M x := fun x a b c d e => by rw [r1 x a b c, c4 x e, mput_row d]
      have r9 : ∀ c, c ≠ 5 → c ≠ 6 → F 9 c = M 9 c := fun c h5 h6 => by rw [← hF, mrow_row (by decide), mput_col h5, mput_col h6, mput_row (by decide), c4 9 (by decide), mput_row (by decide)]
      have f3 : F 3 = (mput M 3 2 (nI (h - 1))) 3 := by rw [r1 3 (by decide) (by decide) (by decide), c4 3 (by decide)]
      refine ⟨?_, ?_, ?_, ?_, ?_, ?_⟩
      · have hs := (g6 (h - 1) (by omega)).cong (M' := mput M 3 2 (nI (h - 1))) (fun i hi => mput_row (by omega)) rfl
        have hs2 := hs.copy (M1 := M1) (o := 18) c2 c3
        refine (hs2.cong (M' := F) (fun i hi => r1 _ (by omega) (by omega) (by omega)) rfl).congv (fun k hk => ?_)
        rw [← hF, mrow_at]
        unfold va_cpy
        rw [if_pos (by omega)]
        exact congrArg (M 12) (by omega)
      · unfold iBu at hBu ⊢
        rw [r2 1 (by decide) (by decide) (by decide) (by decide) (by decide), r2 2 (by decide) (by decide) (by decide) (by decide) (by decide), r2 16 (by decide) (by decide) (by decide) (by decide) (by decide), r9 10 (by decide) (by decide)]
        exact hBu
      · unfold iWr at hWr ⊢
        rw [r2 5 (by decide) (by decide) (by decide) (by decide) (by decide), r2 6 (by decide) (by decide) (by decide) (by decide) (by decide), r2 15 (by decide) (by decide) (by decide) (by decide) (by decide), r9 8 (by decide) (by decide)]
        exact hWr
      · refine ⟨h - 1, od, by omega, g2, by rw [f3, mput_at], by rw [← hF, mrow_row (by decide), mput_at], by rw [f3, mput_col (by decide), g5], fun j hj => ?_⟩
        exact (g6 j (by omega)).cong (fun i hi => r2 _ (by omega) (by omega) (by omega) (by omega) (by omega)) (by rw [r2 12 (by decide) (by decide) (by decide) (by decide) (by decide)])
      · intro j hj
        rw [r2 8 (by decide) (by decide) (by decide) (by decide) (by decide), r2 14 (by decide) (by decide) (by decide) (by decide) (by decide), r2 13 (by decide) (by decide) (by decide) (by decide) (by decide)]
        rcases hSa j hj with g | ⟨q1, q2, q3⟩
        · exact Or.inl g
        · exact Or.inr ⟨q1, q2, q3.cong (fun i hi => r2 _ (by omega) (by omega) (by omega) (by omega) (by omega)) rfl⟩
      · unfold iEr at hEr ⊢
        rw [r2 1 (by decide) (by decide) (by decide) (by decide) (by decide), r9 17 (by decide) (by decide)]
        exact hEr
theorem C_save {M : Mem} (hI : Inv M) (p : Int32) : ∃ k M1 M2, f_L_save p M = some (k, M1) ∧ f_X6_save p M1 = some M2 ∧ M2 9 6 = k ∧ Inv M2 := by
  obtain ⟨hOw, hBu, hWr, hHi, hSa, hEr⟩ := id hI
  cases hp : inM p 2 with
  | false =>
    have hc : f_X5_save p M = some (1, 0, M) := by
      unfold f_X5_save
      rw [X5_requireSlot, hp, bnd3_some]
      rfl
    refine ⟨1, M, mput M 9 6 1, L1_save hc, ?_, mput_at, hI.same (Same.thr M 1)⟩
    unfold f_X6_save f_X6_save_15
    rw [X6_isIn, inR_slot, hp, bnd_some, if_pos b2_f, letM_eq, mput_at]
    rfl
  | true =>
    obtain ⟨x, hx, rfl⟩ := inM_t (by decide) hp
    obtain ⟨M1, c1, c2, c3, c4⟩ := X1_copyFrom (o := 148 + 13 * x) (q := 18) (by omega) M
    have hc : f_X5_save (nI x) M = some (0, 0, mput M1 8 x 1) := by
      unfold f_X5_save
      rw [X5_requireSlot, hp, bnd3_some, ex_t, if_pos rfl, ev_chk (inB_nI hx (by decide)), ix_nI (by omega), ev_bnd c1, ev_chk (inB_nI hx (by decide))]
      rfl
    refine ⟨0, _, mput (mrow (mput (mput M1 8 x 1) 9 6 0) 13 (va_cpy (M 10) (M 13) 0 (156 * x) 156)) 14 x 1, L0_save hc, ?_, ?_, ?_⟩
    · unfold f_X6_save f_X6_save_15
      rw [X6_isIn, inR_slot, hp, bnd_some, if_neg (by decide), letM_eq, mput_at, if_pos le00, show (156 : Int32) = nI 156 from rfl, nI_mul, show (0 : Int32) = nI 0 from rfl, ev_bnd (X6_copies (by decide) (by omega) (by decide) (by decide) (by decide) _), ev_chk (inB_nI hx (by decide)), letM_eq, ix_nI (by omega), mput_row (by decide), mput_row (by decide), c4 10 (by omega), mput_row (by decide), mput_row (by decide), c4 13 (by omega)]
    · rw [mput_row (by decide), mrow_row (by decide), mput_at]
    · generalize hF : mput (mrow (mput (mput M1 8 x 1) 9 6 0) 13 (va_cpy (M 10) (M 13) 0 (156 * x) 156)) 14 x 1 = F
      have r1 : ∀ z, z ≠ 14 → z ≠ 13 → z ≠ 9 → z ≠ 8 → F z = M1 z := fun z a b c d => by rw [← hF, mput_row a, mrow_row b, mput_row c, mput_row d]
      have r2 : ∀ z, z ≠ 14 → z ≠ 13 → z ≠ 9 → z ≠ 8 → (z < 148 + 13 * x ∨ 148 + 13 * x + 13 ≤ z) → F z = M z := fun z a b c d e => by rw [r1 z a b c d, c4 z e]
      have r9 : ∀ c, c ≠ 6 → F 9 c = M 9 c := fun c h6 => by rw [← hF, mput_row (by decide), mrow_row (by decide), mput_col h6, mput_row (by decide), c4 9 (by omega)]
      refine ⟨?_, ?_, ?_, ?_, ?_, ?_⟩
      · exact hOw.cong (fun i hi => r2 _ (by omega) (by omega) (by omega) (by omega) (by omega)) (r2 10 (by decide) (by decide) (by decide) (by decide) (by omega))
      · unfold iBu at hBu ⊢
        rw [r2 1 (by decide) (by decide) (by decide) (by decide) (by omega), r2 2 (by decide) (by decide) (by decide) (by decide) (by omega), r2 16 (by decide) (by decide) (by decide) (by decide) (by omega), r9 10 (by decide)]
        exact hBu
      · unfold iWr at hWr ⊢
        rw [r2 5 (by decide) (by decide) (by decide) (by decide) (by omega), r2 6 (by decide) (by decide) (by decide) (by decide) (by omega), r2 15 (by decide) (by decide) (by decide) (by decide) (by omega), r9 8 (by decide)]
        exact hWr
      · obtain ⟨h, od, g1, g2, g3, g4, g5, g6⟩ := hHi
        refine ⟨h, od, g1, g2, by rw [r2 3 (by decide) (by decide) (by decide) (by decide) (by omega)]; exact g3, by rw [r9 5 (by decide)]; exact g4, by rw [r2 3 (by decide) (by decide) (by decide) (by decide) (by omega)]; exact g5, fun j hj => ?_⟩
        exact (g6 j hj).cong (fun i hi => r2 _ (by omega) (by omega) (by omega) (by omega) (by omega)) (by rw [r2 12 (by decide) (by decide) (by decide) (by decide) (by omega)])
      · intro j hj
        have f8 : F 8 = upd (M 8) x 1 := by rw [← hF, mput_row (by decide), mrow_row (by decide), mput_row (by decide), mput_self, c4 8 (by omega)]
        have f14 : F 14 = upd (M 14) x 1 := by rw [← hF, mput_self, mrow_row (by decide), mput_row (by decide), mput_row (by decide), c4 14 (by omega)]
        have f13 : F 13 = va_cpy (M 10) (M 13) 0 (156 * x) 156 := by rw [← hF, mput_row (by decide), mrow_at]
        by_cases hjx : j = x
        · subst hjx
          right
          refine ⟨by rw [f8]; unfold upd; rw [if_pos rfl], by rw [f14]; unfold upd; rw [if_pos rfl], ?_⟩
          refine ((hOw.copy (M1 := M1) (o := 148 + 13 * j) c2 c3).cong (M' := F) (fun i hi => r1 _ (by omega) (by omega) (by omega) (by omega)) rfl).congv (fun k hk => ?_)
          rw [f13]
          unfold va_cpy
          rw [if_pos (by omega)]
          exact congrArg (M 10) (by omega)
        · have u8 : F 8 j = M 8 j := by rw [f8]; unfold upd; rw [if_neg hjx]
          have u14 : F 14 j = M 14 j := by rw [f14]; unfold upd; rw [if_neg hjx]
          rw [u8, u14]
          rcases hSa j hj with g | ⟨q1, q2, q3⟩
          · exact Or.inl g
          · refine Or.inr ⟨q1, q2, (q3.cong (M' := F) (fun i hi => r2 _ (by omega) (by omega) (by omega) (by omega) (by omega)) rfl).congv (fun k hk => ?_)⟩
            rw [f13]
            unfold va_cpy
            rw [if_neg (by omega)]
      · unfold iEr at hEr ⊢
        rw [r2 1 (by decide) (by decide) (by decide) (by decide) (by omega), r9 17 (by decide)]
        exact hEr
theorem C_restore {M : Mem} (hI : Inv M) (p : Int32) : Agr (f_L_restore p M) (f_X6_restore p) := by
  obtain ⟨hOw, hBu, hWr, hHi, hSa, hEr⟩ := id hI
  cases hp : inM p 2 with
  | false =>
    have hc : f_X5_restore p M = some (1, 0, M) := by
      unfold f_X5_restore
      rw [X5_requireSlot, hp, bnd3_some]
      rfl
    refine agrk hI (b := 0) (by decide) (L1_restore hc) ?_
    unfold f_X6_restore f_X6_restore_28
    rw [X6_isIn, inR_slot, hp, bnd_some, if_pos b2_f, letM_eq, mput_at]
    rfl
  | true =>
    obtain ⟨x, hx, rfl⟩ := inM_t (by decide) hp
    rcases hSa x hx with ⟨q1, q2⟩ | ⟨q1, q2, q3⟩
    · have hc : f_X5_restore (nI x) M = some (3, 0, M) := by
        unfold f_X5_restore
        rw [X5_requireSlot, hp, bnd3_some, ex_t, if_pos rfl, ev_chk (inB_nI hx (by decide)), ix_nI (by omega), q1, if_pos rfl]
      refine agrk hI (b := 0) (by decide) (L3_restore hc) ?_
      unfold f_X6_restore f_X6_restore_28
      rw [X6_isIn, inR_slot, hp, bnd_some, if_neg (by decide), ev_chk (inB_nI hx (by decide)), ix_nI (by omega), q2, if_pos rfl, letM_eq, mput_at]
      rfl
    · obtain ⟨M1, e1, hM1⟩ := rem_ex hI
      obtain ⟨M2, c1, c2, c3, c4⟩ := X1_copyFrom (o := 18) (q := 148 + 13 * x) (by omega) M1
      have hM2 : ∀ k, ¬ (18 ≤ k ∧ k < 31) → M2 k = M1 k := fun k hk => c4 k (by omega)
      have hs := q3.cong (M' := M1) (fun i hi => hM1 _ (by omega) (by omega)) rfl
      have hs2 := hs.copy (M1 := M2) (o := 18) c2 c3
      have h16 : M2 18 16 = M 13 (156 * x + 4) := by
        obtain ⟨m, n, t, -, hr, -⟩ := hs2
        exact hr.1.2.2.2.2.1
      have hc : f_X5_restore (nI x) M = some (0, M 13 (156 * x + 4), M2) := by
        unfold f_X5_restore
        rw [X5_requireSlot, hp, bnd3_some, ex_t, if_pos rfl, ev_chk (inB_nI hx (by decide)), ix_nI (by omega), q1, if_neg (by decide), ev_bnd e1, ev_chk (inB_nI hx (by decide)), ev_bnd c1, h16]
      obtain ⟨N1, d1, d4, d3⟩ := keep_ex (N := mput (mput M2 17 0 (M 13 (156 * x + 4))) 9 6 0) hI (mid95 hM1 hM2) (Or.inl rfl)
      have n13 : N1 13 = M 13 := by rw [d4 13 (by decide) (by decide), mput_row (by decide), mput_row (by decide), hM2 13 (by decide), hM1 13 (by decide) (by decide)]
      have n14 : (mput M2 17 0 (M 13 (156 * x + 4))) 14 = M 14 := by rw [mput_row (by decide), hM2 14 (by decide), hM1 14 (by decide) (by decide)]
      refine agrC (N2 := mrow N1 10 (va_cpy (M 13) (N1 10) (156 * x) 0 156)) hI e1 (L0_restore hc) hM2 d1 ?_ (fun k hk => mrow_row hk) ?_
      · unfold f_X6_restore f_X6_restore_28
        rw [X6_isIn, inR_slot, hp, bnd_some, if_neg (by decide), ev_chk (inB_nI hx (by decide)), ix_nI (by omega), n14, q2, if_neg (by decide), letM_eq, mput_at, if_pos le00, ev_bnd d1, show (156 : Int32) = nI 156 from rfl, nI_mul, show (0 : Int32) = nI 0 from rfl, ev_bnd (X6_copies (by decide) (by decide) (by omega) (by decide) (by decide) _), mrow_at, n13]
        refine congrArg (fun z => some (z, _)) ?_
        unfold va_cpy
        rw [if_pos (by decide)]
      · refine (hs2.cong (M' := mrow N1 10 (va_cpy (M 13) (N1 10) (156 * x) 0 156)) (fun i hi => ?_) rfl).congv (fun k hk => ?_)
        · rw [mrow_row (by omega), d4 _ (by omega) (by omega), mput_row (by omega), mput_row (by omega)]
        · rw [mrow_at]
          unfold va_cpy
          rw [if_pos (by omega)]
          exact congrArg (M 13) (by omega)
