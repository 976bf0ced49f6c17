/-! LOAD: the call itself -/
theorem C_load {M : Mem} (hI : Inv M) : ∃ r M1 M2, f_X5_load M = some (r, M1) ∧ f_X6_load M1 = some (r, M2) ∧ Inv M2 := by
  obtain ⟨hOw, ⟨nb, c1, c2, c3, c4⟩, hWr, ⟨h, od, g1, g2, g3, g4, g5, g6⟩, hSa, hEr⟩ := hI
  have htx : ∀ N : Mem, N 9 10 = M 9 10 → N 16 = M 16 → TX M (bs0 N) nb (fun k => ix (M 16 k)) := fun N e9 e16 => by
    refine ⟨c1, c2, ?_, fun k hk => ?_⟩
    · rw [bs0_col (by decide) (by decide) (by decide), e9]
      exact c3
    · obtain ⟨q1, x, x1, x2, x3⟩ := c4 k hk
      have hix : ix (M 16 k) = x := by rw [x3, ix_nI (by omega)]
      show M 2 k = nI (ix (M 16 k)) ∧ (bs0 N) 16 k = nI (ix (M 16 k)) ∧ ix (M 16 k) < 256
      rw [bs0_row (by decide) (by decide), e16, q1, hix]
      exact ⟨x3, x3, x2⟩
  rcases S_run (htx M rfl rfl) with ⟨A, zz_B, zz_s, zz_e, zz_m, zz_n, zz_t, e1, zz_u, ⟨hS, zz_r⟩, zz_l⟩ | ⟨A, zz_B, e1, zz_u, hS⟩
  · have hF := hS.1.1
    have a4 := hS.a4
    generalize hM10 : mput A 1 2 0 = M10
    have mr : ∀ x, x ≠ 1 → ¬ (31 ≤ x ∧ x < 44) → M10 x = M x := fun x hx hx2 => by rw [← hM10, mput_row hx]; exact hF.1 x hx hx2
    obtain ⟨M12, od', k1, k2, k3, k4, k5, k6⟩ := X0_remember (M := M10) (h := h) (od := od) g1 g2 (by rw [mr 3 (by decide) (by decide)]; exact g3) (by rw [mr 3 (by decide) (by decide)]; exact g5) (old := fun j k => M 12 (156 * j + k)) (fun j hj => (g6 j hj).cong (fun i hi => mr _ (by omega) (by omega)) rfl) (a := M 10) (hOw.cong (fun i hi => mr _ (by omega) (by omega)) rfl)
    obtain ⟨N, n1, n2, n3, n4⟩ := X1_copyFrom (o := 18) (q := 31) (by omega) M12
    have hc : f_X5_load M = some (N 18 12, N) := by
      unfold f_X5_load
      rw [ev_bnd2 e1, letM_eq, hM10, if_neg (by decide), ev_bnd k1, ev_bnd n1]
    have N12 : ∀ x, (x < 18 ∨ 31 ≤ x) → N x = M12 x := fun x hx => n4 x (by omega)
    have N10 : ∀ x, x ≠ 3 → (x < 44 ∨ 148 ≤ x) → (x < 18 ∨ 31 ≤ x) → N x = M10 x := fun x h3 h4 h5 => (N12 x h5).trans (k5 x h3 h4)
    have NM : ∀ x, x ≠ 1 → x ≠ 3 → (x < 18 ∨ (44 ≤ x ∧ 148 ≤ x)) → N x = M x := fun x hx1 hx3 h4 => by
      rw [N10 x hx3 (by omega) (by omega), mr x hx1 (by omega)]
    refine ⟨N 18 12, N, ?_⟩
    rcases S_run (htx N (by rw [NM 9 (by decide) (by decide) (by decide)]) (NM 16 (by decide) (by decide) (by decide))) with ⟨A2, B, s, e, m, n, t, u1, u2, ⟨hS2, hr2, w2⟩, hm⟩ | ⟨A2, B, u1, -, -⟩
    · rw [e1] at u1
      have hA : A = A2 := congrArg Prod.snd (Option.some.inj u1)
      subst hA
      have hFB := hS2.1.2.1
      have b5 : (mput (mput B 9 17 (-1)) 9 10 0) 9 5 = nI h := by
        rw [mput_col (by decide), mput_col (by decide), hFB.2 5 (by decide), bs0_col (by decide) (by decide) (by decide), NM 9 (by decide) (by decide) (by decide)]
        exact g4
      obtain ⟨N2, v1, v2, v3, v4, v5⟩ := X6_keeps (M := mput (mput B 9 17 (-1)) 9 10 0) (q := 11) (Or.inr rfl) g1 b5
      have Br : ∀ x, x ≠ 9 → x ≠ 10 → x ≠ 11 → B x = N x := fun x h9 h10 h11 => by rw [hFB.1 x h9 h10, bs0_row h9 h11]
      have N2r : ∀ x, x ≠ 9 → x ≠ 10 → x ≠ 11 → x ≠ 12 → N2 x = N x := fun x h9 h10 h11 h12 => by rw [v4 x h9 h12, mput_row h9, mput_row h9, Br x h9 h10 h11]
      have N2M : ∀ x, x ≠ 9 → x ≠ 10 → x ≠ 11 → x ≠ 12 → x ≠ 1 → x ≠ 3 → (x < 18 ∨ 148 ≤ x) → N2 x = M x := fun x h9 h10 h11 h12 h1 h3 h => by rw [N2r x h9 h10 h11 h12, NM x h1 h3 (by omega)]
      have N210 : N2 10 = B 10 := by rw [v4 10 (by decide) (by decide), mput_row (by decide), mput_row (by decide)]
      have N29 : ∀ c, c ≠ 5 → c ≠ 10 → c ≠ 17 → (c < 11 ∨ 18 < c) → c ≠ 6 → N2 9 c = M 9 c := fun c h5 h10 h17 h11 h6 => by
        rw [v3 c h5, mput_col h10, mput_col h17, hFB.2 c (by omega), bs0_col h6 (by omega) (by omega), NM 9 (by decide) (by decide) (by decide)]
      have h31 : HR M12 31 (B 10) m n := hr2.cong (fun i hi => by rw [k5 _ (by omega) (by omega), ← hM10, mput_row (by omega)])
      have hok18 : HOK N 18 (B 10) := HOK.copy (q := 31) (M := M12) ⟨m, n, t, hm, h31, w2⟩ n2 n3
      refine ⟨N2, hc, ?_, ?_⟩
      · rw [u2, X6_fin0 hS2.w0, ev_bnd v1, N210]
        have e12 : N 18 12 = B 10 0 := by
          rw [n3 12 (by decide) (by decide)]
          exact h31.1.1
        rw [e12]
      · refine ⟨?_, ?_, ?_, ?_, ?_, ?_⟩
        · unfold iOw
          rw [N210]
          exact hok18.cong (fun i hi => N2r _ (by omega) (by omega) (by omega) (by omega)) rfl
        · refine ⟨0, by decide, ?_, ?_, fun k hk => absurd hk (Nat.not_lt_zero k)⟩
          · rw [N2r 1 (by decide) (by decide) (by decide) (by decide), N10 1 (by decide) (by decide) (by decide), ← hM10, mput_at]
            rfl
          · rw [v3 10 (by decide), mput_at]
            rfl
        · unfold iWr at hWr ⊢
          rw [N2M 5 (by decide) (by decide) (by decide) (by decide) (by decide) (by decide) (by decide), N2M 6 (by decide) (by decide) (by decide) (by decide) (by decide) (by decide) (by decide), N2M 15 (by decide) (by decide) (by decide) (by decide) (by decide) (by decide) (by decide), N29 8 (by decide) (by decide) (by decide) (by decide) (by decide)]
          exact hWr
        · have e33 : N2 3 = M12 3 := by rw [N2r 3 (by decide) (by decide) (by decide) (by decide), N12 3 (by decide)]
          refine ⟨min (h + 1) 8, od', Nat.min_le_right _ _, k2, by rw [e33]; exact k3, v2, by rw [e33]; exact k4, fun j hj => ?_⟩
          refine ((k6 j hj).cong (fun i hi => ?_) rfl).congv (fun k hk => ?_)
          · have hx := Nat.mod_lt (od' + j) (show 0 < 8 by decide)
            rw [N2r _ (by omega) (by omega) (by omega) (by omega), N12 _ (by omega)]
          · rw [v5 j hj k hk]
            have e12 : (mput (mput B 9 17 (-1)) 9 10 0) 12 = M 12 := by rw [mput_row (by decide), mput_row (by decide), Br 12 (by decide) (by decide) (by decide), NM 12 (by decide) (by decide) (by decide)]
            have e11 : (mput (mput B 9 17 (-1)) 9 10 0) 11 k = M 10 k := by rw [mput_row (by decide), mput_row (by decide), hFB.1 11 (by decide) (by decide), bs0_11 hk, NM 10 (by decide) (by decide) (by decide)]
            unfold newv
            rw [e12]
            by_cases h8 : h < 8
            · rw [if_pos h8, if_pos h8]
              by_cases hjh : j < h
              · rw [if_pos hjh, if_pos hjh]
              · rw [if_neg hjh, if_neg hjh, e11]
            · rw [if_neg h8, if_neg h8]
              by_cases hjh : j < 7
              · rw [if_pos hjh, if_pos hjh]
              · rw [if_neg hjh, if_neg hjh, e11]
        · intro j hj
          rw [N2M 8 (by decide) (by decide) (by decide) (by decide) (by decide) (by decide) (by decide), N2M 14 (by decide) (by decide) (by decide) (by decide) (by decide) (by decide) (by decide), N2M 13 (by decide) (by decide) (by decide) (by decide) (by decide) (by decide) (by decide)]
          rcases hSa j hj with g | ⟨q1, q2, q3⟩
          · exact Or.inl g
          · exact Or.inr ⟨q1, q2, q3.cong (fun i hi => N2M _ (by omega) (by omega) (by omega) (by omega) (by omega) (by omega) (by omega)) rfl⟩
        · unfold iEr
          rw [N2r 1 (by decide) (by decide) (by decide) (by decide), N10 1 (by decide) (by decide) (by decide), ← hM10, mput_col (by decide), a4, v3 17 (by decide), mput_col (by decide), mput_at]
    · rw [e1] at u1
      exact absurd (congrArg Prod.fst (Option.some.inj u1)) (show ¬ (1 : Int32) = 0 by decide)
  · have hF := hS.1
    generalize hN : mput A 1 2 0 = N
    have hc : f_X5_load M = some (A 1 3, N) := by
      unfold f_X5_load
      rw [ev_bnd2 e1, letM_eq, if_pos rfl, mput_col (by decide), hN]
    have NM : ∀ x, x ≠ 1 → ¬ (31 ≤ x ∧ x < 44) → N x = M x := fun x hx hx2 => by rw [← hN, mput_row hx]; exact hF.1 x hx hx2
    refine ⟨A 1 3, N, ?_⟩
    rcases S_run (htx N (by rw [NM 9 (by decide) (by decide)]) (NM 16 (by decide) (by decide))) with ⟨A2, B, s, e, m, n, t, u1, -⟩ | ⟨A2, B, u1, u2, hS2⟩
    · rw [e1] at u1
      exact absurd (congrArg Prod.fst (Option.some.inj u1)) (show ¬ (0 : Int32) = 1 by decide)
    · rw [e1] at u1
      have hA : A = A2 := congrArg Prod.snd (Option.some.inj u1)
      subst hA
      obtain ⟨-, hFB, -, x1, x2, x3⟩ := hS2
      generalize hN2 : mrow (mput (mput B 9 17 (B 9 16)) 9 10 0) 10 (va_cpy (B 11) (B 10) 0 0 156) = N2
      have Br : ∀ x, x ≠ 9 → x ≠ 10 → x ≠ 11 → B x = N x := fun x h9 h10 h11 => by rw [hFB.1 x h9 h10, bs0_row h9 h11]
      have N2r : ∀ x, x ≠ 9 → x ≠ 10 → x ≠ 11 → N2 x = N x := fun x h9 h10 h11 => by rw [← hN2, mrow_row h10, mput_row h9, mput_row h9, Br x h9 h10 h11]
      have N2M : ∀ x, x ≠ 9 → x ≠ 10 → x ≠ 11 → x ≠ 1 → ¬ (31 ≤ x ∧ x < 44) → N2 x = M x := fun x h9 h10 h11 h1 h31 => by rw [N2r x h9 h10 h11, NM x h1 h31]
      have N29 : ∀ c, c ≠ 10 → c ≠ 17 → (c < 11 ∨ 18 < c) → c ≠ 6 → N2 9 c = M 9 c := fun c h10 h17 h11 h6 => by
        rw [← hN2, mrow_row (by decide), mput_col h10, mput_col h17, hFB.2 c (by omega), bs0_col h6 (by omega) (by omega), NM 9 (by decide) (by decide)]
      refine ⟨N2, hc, ?_, ?_⟩
      · rw [u2, X6_finE x2, hN2, x1]
      · refine ⟨?_, ?_, ?_, ?_, ?_, ?_⟩
        · refine (hOw.cong (fun i hi => N2M _ (by omega) (by omega) (by omega) (by omega) (by omega)) rfl).congv (fun k hk => ?_)
          rw [← hN2, mrow_at]
          unfold va_cpy
          rw [if_pos (by omega), show 0 + (k - 0) = k by omega, hFB.1 11 (by decide) (by decide), bs0_11 hk, NM 10 (by decide) (by decide)]
        · refine ⟨0, by decide, ?_, ?_, fun k hk => absurd hk (Nat.not_lt_zero k)⟩
          · rw [N2r 1 (by decide) (by decide) (by decide), ← hN, mput_at]
            rfl
          · rw [← hN2, mrow_row (by decide), mput_at]
            rfl
        · unfold iWr at hWr ⊢
          rw [N2M 5 (by decide) (by decide) (by decide) (by decide) (by decide), N2M 6 (by decide) (by decide) (by decide) (by decide) (by decide), N2M 15 (by decide) (by decide) (by decide) (by decide) (by decide), N29 8 (by decide) (by decide) (by decide) (by decide)]
          exact hWr
        · have e33 : N2 3 = M 3 := N2M 3 (by decide) (by decide) (by decide) (by decide) (by decide)
          exact ⟨h, od, g1, g2, by rw [e33]; exact g3, by rw [N29 5 (by decide) (by decide) (by decide) (by decide)]; exact g4, by rw [e33]; exact g5, fun j hj => (g6 j hj).cong (fun i hi => N2M _ (by omega) (by omega) (by omega) (by omega) (by omega)) (by rw [N2M 12 (by decide) (by decide) (by decide) (by decide) (by decide)])⟩
        · intro j hj
          rw [N2M 8 (by decide) (by decide) (by decide) (by decide) (by decide), N2M 14 (by decide) (by decide) (by decide) (by decide) (by decide), N2M 13 (by decide) (by decide) (by decide) (by decide) (by decide)]
          rcases hSa j hj with g | ⟨q1, q2, q3⟩
          · exact Or.inl g
          · exact Or.inr ⟨q1, q2, q3.cong (fun i hi => N2M _ (by omega) (by omega) (by omega) (by omega) (by omega)) rfl⟩
        · unfold iEr
          rw [N2r 1 (by decide) (by decide) (by decide), ← hN, mput_col (by decide), ← x3, ← hN2, mrow_row (by decide), mput_col (by decide), mput_at]
