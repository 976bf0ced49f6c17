/-! THE LAST CALLS THAT CHANGE NOTHING -/
section CT
variable {M : Mem} {m n t : Nat} {v : Nat → Int32}
def sBW (v : Nat → Int32) (t a b j : Nat) : Nat → Nat → Option Nat → Option Nat
  | 0, _, best => best
  | d + 1, k, best => if sRe v t a b j k = 0 then (match best with
      | none => sBW v t a b j d (k + 1) (some k)
      | some x => if sCo v t a j x ≤ sCo v t a j k then sBW v t a b j d (k + 1) best else sBW v t a b j d (k + 1) (some k)) else sBW v t a b j d (k + 1) best
theorem C_bestWay (hI : Inv M) (p q r : Int32) : Agr (f_L_bestWay p q r M) (f_X6_bestWay p q r) := by
  obtain ⟨m, n, t, hm, h, w⟩ := hI.ow
  have h12 := w.m12
  have h8 := w.n8
  have hv : M 10 = M 10 := rfl
  have bad : ∀ k : Nat, (k = 1 ∨ k = 2) → f_X5_bestWay p q r M = some (k, 0, M) → f_X6_bestWay p q r M = some (0, mput M 9 6 (nI k)) → Agr (f_L_bestWay p q r M) (f_X6_bestWay p q r) := fun k hk hc h6 => by
    rcases hk with rfl | rfl
    · exact agrk hI (b := 0) (k := nI 1) (by decide) (L1_bestWay hc) h6
    · exact agrk hI (b := 0) (k := nI 2) (by decide) (L2_bestWay hc) h6
  by_cases hw : sWt p q r m n = 0
  · obtain ⟨a, b, j, ha, hb, hj, hab, rfl, rfl, rfl⟩ := sWt_0 h12 h8 hw
    have hX : f_X5_bestWay (nI a) (nI b) (nI j) M = some (0, toI (sBW (M 10) t a b j 3 0 none), M) := by
      unfold f_X5_bestWay
      rw [X5_requireTelling h w, hw, bnd3_some, if_pos rfl]
      refine (lp_dn (z := fun _ _ _ _ _ _ _ => none) (b := f_X5_bestWay_16) (fun k r => ∀ (best : Option Nat) (lc : Int32), (∀ x, best = some x → x < 3 ∧ lc = sCo (M 10) t a j x) → r (nI a) (nI b) (nI j) (toI best) lc (nI k) M = some (0, toI (sBW (M 10) t a b j (3 - k) k best), M)) 3 (fun r best lc hb2 => ?_) (fun k r hk ih best lc hb2 => ?_) 0 FU (by omega) (by rw [FU_eq]; omega)) none 0 (fun x hx => by cases hx)
      · unfold f_X5_bestWay_16
        rw [show (2 : Int32) = nI 2 from rfl, if_pos ((nI_ltI (by decide) (by decide)).mpr (by decide : 2 < 3))]
        rfl
      · unfold f_X5_bestWay_16 f_X5_bestWay_63 f_X5_bestWay_71
        rw [show (2 : Int32) = nI 2 from rfl, if_neg (nI_nlt (by omega : k ≤ 2) (by decide)), ev_bnd (X1_tellRefusal h w ha hb hj hk), ev_bnd (X1_costOf h w ha hj hk), ← nI_succ, show 3 - k = (3 - (k + 1)) + 1 by omega]
        unfold sBW
        by_cases hz : sRe (M 10) t a b j k = 0
        · rw [if_pos hz, if_pos hz]
          have hn := ih (some k) (sCo (M 10) t a j k) (fun x hx => by cases hx; exact ⟨hk, rfl⟩)
          cases best with
          | none =>
            rw [if_pos (show toI none = -1 from rfl)]
            exact hn
          | some x =>
            obtain ⟨hx3, rfl⟩ := hb2 x rfl
            rw [if_neg (show ¬ toI (some x) = -1 from m1_ne (by omega))]
            show (if _ then _ else _) = some (0, toI (if sCo (M 10) t a j x ≤ sCo (M 10) t a j k then sBW (M 10) t a b j (3 - (k + 1)) (k + 1) (some x) else sBW (M 10) t a b j (3 - (k + 1)) (k + 1) (some k)), M)
            by_cases hc : sCo (M 10) t a j x ≤ sCo (M 10) t a j k
            · rw [if_pos hc, if_pos hc]
              exact ih (some x) _ hb2
            · rw [if_neg hc, if_neg hc]
              exact hn
        · rw [if_neg hz, if_neg hz]
          exact ih best lc hb2
    refine agr0 hI (L0_bestWay hX) ?_
    generalize hN : mput M 17 0 (toI (sBW (M 10) t a b j 3 0 none)) = N
    have hN10 : N 10 = M 10 := by rw [← hN]; exact hv_out hv _
    have hv' := hv_thr hN10 0
    unfold f_X6_bestWay
    rw [X6_wrongTwo hN10 w, hw, bnd_some, letM_eq, nI_0, mput_at, if_pos le00]
    refine (lp_dn (z := fun _ _ _ _ _ _ => none) (b := f_X6_bestWay_26) (fun k r => ∀ (best : Option Nat), (∀ x, best = some x → x < 3) → r (nI a) (nI b) (nI j) (toI best) (nI k) (mput N 9 6 0) = some (toI (sBW (M 10) t a b j (3 - k) k best), mput N 9 6 0)) 3 (fun r best hb2 => ?_) (fun k r hk ih best hb2 => ?_) 0 FU (by omega) (by rw [FU_eq]; omega)) none (fun x hx => by cases hx)
    · unfold f_X6_bestWay_26
      rw [show (2 : Int32) = nI 2 from rfl, if_pos ((nI_ltI (by decide) (by decide)).mpr (by decide : 2 < 3))]
      rfl
    · unfold f_X6_bestWay_26 f_X6_bestWay_72 f_X6_bestWay_76
      rw [show (2 : Int32) = nI 2 from rfl, if_neg (nI_nlt (by omega : k ≤ 2) (by decide)), ev_bnd (X6_reason hv' w ha hb hj hk), ev_bnd (X6_costOf hv' w ha hj hk), ← nI_succ, show 3 - k = (3 - (k + 1)) + 1 by omega]
      unfold sBW
      by_cases hz : sRe (M 10) t a b j k = 0
      · rw [if_pos hz, if_pos hz]
        have hn := ih (some k) (fun x hx => by cases hx; exact hk)
        cases best with
        | none =>
          rw [if_pos (show toI none = -1 from rfl)]
          exact hn
        | some x =>
          have hx3 := hb2 x rfl
          rw [if_neg (show ¬ toI (some x) = -1 from m1_ne (by omega)), show toI (some x) = nI x from rfl, ev_bnd (X6_costOf hv' w ha hj hx3)]
          show (if _ then _ else _) = some (toI (if sCo (M 10) t a j x ≤ sCo (M 10) t a j k then sBW (M 10) t a b j (3 - (k + 1)) (k + 1) (some x) else sBW (M 10) t a b j (3 - (k + 1)) (k + 1) (some k)), mput N 9 6 0)
          by_cases hc : sCo (M 10) t a j x ≤ sCo (M 10) t a j k
          · rw [if_pos hc, if_pos hc]
            exact ih (some x) hb2
          · rw [if_neg hc, if_neg hc]
            exact hn
      · rw [if_neg hz, if_neg hz]
        exact ih best hb2
  · have h3 := sWt_3 (m := m) (n := n) p q r
    refine bad (sWt p q r m n) (by omega) ?_ ?_
    · unfold f_X5_bestWay
      rw [X5_requireTelling h w, bnd3_some, if_neg hw]
    · unfold f_X6_bestWay
      rw [X6_wrongTwo hv w, bnd_some, letM_eq, mput_at, if_neg (show ¬ nI (sWt p q r m n) ≤ 0 from nI_nle (by omega) (by omega))]
def gFas (v : Nat → Int32) (d : Int32) (k : Nat) : Int32 := imax (v (65 + 8 * k) - imax (d - v (67 + 8 * k)) 0) 0
theorem C_fastIn (hI : Inv M) (p : Int32) : Agr (f_L_fastIn p M) (f_X6_fastIn p) := by
  obtain ⟨m, n, t, hm, h, w⟩ := hI.ow
  have h12 := w.m12
  have hv : M 10 = M 10 := rfl
  have hm0 : M 18 12 = nI m := h.1.1.trans w.e0
  cases hp : inR p 0 999 with
  | false =>
    have hc : f_X5_fastIn p M = some (2, 0, M) := by
      unfold f_X5_fastIn
      rw [X5_requireWithin, hp, bnd3_some]
      rfl
    refine agrk hI (b := 0) (by decide) (L2_fastIn hc) ?_
    unfold f_X6_fastIn f_X6_fastIn_17
    rw [X6_isIn, hp, bnd_some, if_pos b2_f, letM_eq, mput_at]
    rfl
  | true =>
    have hX : f_X5_fastIn p M = some (0, sumTo (gFas (M 10) ((irem (M 10 4) 24 + p) / 24)) m, M) := by
      unfold f_X5_fastIn
      rw [X5_requireWithin, hp, bnd3_some, ex_t, if_pos rfl]
      have e : f_X1_fastBehind 18 p M = some (sumTo (gFas (M 10) ((irem (M 10 4) 24 + p) / 24)) m) := by
        unfold f_X1_fastBehind
        rw [h.tim]
        refine acc3 _ _ m (by omega) (fun r a k hk => ?_) (fun r a => ?_)
        · unfold f_X1_fastBehind_18 gFas
          rw [hm0, if_neg (not_le_nI hk (by omega)), ev_chk (inB_nI (by omega) (by decide)), ev_chk (inB_nI (by omega) (by decide)), ix_nI (by omega), h.fs hk, h.bk hk]
        · unfold f_X1_fastBehind_18
          rw [hm0, if_pos (le_self_nI m)]
      rw [ev_bnd e]
    refine agr0 hI (L0_fastIn hX) ?_
    generalize hN : mput M 17 0 (sumTo (gFas (M 10) ((irem (M 10 4) 24 + p) / 24)) m) = N
    have hN10 : N 10 = M 10 := by rw [← hN]; exact hv_out hv _
    have hv' := hv_thr hN10 0
    unfold f_X6_fastIn f_X6_fastIn_17
    rw [X6_isIn, hp, bnd_some, if_neg (by decide), letM_eq, mput_at, if_pos le00, hv']
    refine lp_dn (z := fun _ _ _ _ => none) (b := f_X6_fastIn_49) (fun k r => r ((irem (M 10 4) 24 + p) / 24) (sumTo (gFas (M 10) ((irem (M 10 4) 24 + p) / 24)) k) (nI k) (mput N 9 6 0) = some (sumTo (gFas (M 10) ((irem (M 10 4) 24 + p) / 24)) m, mput N 9 6 0)) m (fun r => ?_) (fun k r hk ih => ?_) 0 FU (by omega) (by rw [FU_eq]; omega)
    · unfold f_X6_fastIn_49
      rw [hv', w.e0, if_pos (le_self_nI m)]
    · have e1 : f_X6_mo (nI k) 5 (mput N 9 6 0) = some (nI (65 + 8 * k)) := ev_moc 5 (c := 5) rfl (by omega)
      have e2 : f_X6_mo (nI k) 7 (mput N 9 6 0) = some (nI (67 + 8 * k)) := ev_moc 7 (c := 7) rfl (by omega)
      unfold f_X6_fastIn_49
      rw [hv', w.e0, if_neg (not_le_nI hk (by omega)), ev_bnd e1, ev_chk (inB_nI (by omega) (by decide)), ev_bnd e2, ev_chk (inB_nI (by omega) (by decide)), ix_nI (by omega), ix_nI (by omega), ← ih, nI_succ, imax_comm 0, imax_comm 0]
      rfl
theorem C_freeIn (hI : Inv M) (p : Int32) : Agr (f_L_freeIn p M) (f_X6_freeIn p) := by
  obtain ⟨m, n, t, hm, h, w⟩ := hI.ow
  have h12 := w.m12
  have hv : M 10 = M 10 := rfl
  cases hp : inM p m with
  | false =>
    have hc : f_X5_freeIn p M = some (1, 0, M) := by
      unfold f_X5_freeIn
      rw [X5_requireMonk h w, hp, bnd3_some]
      rfl
    refine agrk hI (b := 0) (by decide) (L1_freeIn hc) ?_
    unfold f_X6_freeIn f_X6_freeIn_14
    rw [X6_isMonk hv w, hp, bnd_some, if_pos b2_f, letM_eq, mput_at]
    rfl
  | true =>
    obtain ⟨a, ha, rfl⟩ := inM_t (by omega) hp
    have hX : f_X5_freeIn (nI a) M = some (0, (if M 10 (65 + 8 * a) = 0 then 0 else (M 10 (65 + 8 * a) + M 10 (67 + 8 * a)) * 24 - irem (M 10 4) 24), M) := by
      unfold f_X5_freeIn
      rw [X5_requireMonk h w, hp, bnd3_some, ex_t, if_pos rfl]
      simp only [ev_chk (inB_nI (show a < 12 by omega) (by decide)), ix_nI (show a < 2 ^ 31 by omega)]
      rw [show M 24 a = _ from h.fs ha, show M 26 a = _ from h.bk ha, show M 18 16 = _ from h.tim]
      by_cases hz : M 10 (65 + 8 * a) = 0
      · rw [if_pos hz, if_pos hz]
      · rw [if_neg hz, if_neg hz]
    refine agr0 hI (L0_freeIn hX) ?_
    generalize hN : mput M 17 0 (if M 10 (65 + 8 * a) = 0 then 0 else (M 10 (65 + 8 * a) + M 10 (67 + 8 * a)) * 24 - irem (M 10 4) 24) = N
    have hN10 : N 10 = M 10 := by rw [← hN]; exact hv_out hv _
    have hv' := hv_thr hN10 0
    have e1 : f_X6_mo (nI a) 5 (mput N 9 6 0) = some (nI (65 + 8 * a)) := ev_moc 5 (c := 5) rfl (by omega)
    have e2 : f_X6_mo (nI a) 7 (mput N 9 6 0) = some (nI (67 + 8 * a)) := ev_moc 7 (c := 7) rfl (by omega)
    unfold f_X6_freeIn f_X6_freeIn_14
    rw [X6_isMonk hN10 w, hp, bnd_some, if_neg (by decide), letM_eq, mput_at, if_neg (show ¬ (0 : Int32) < 0 by decide), ev_bnd e1, ev_chk (inB_nI (by omega) (by decide)), ev_bnd e1, ev_chk (inB_nI (by omega) (by decide)), ev_bnd e2, ev_chk (inB_nI (by omega) (by decide)), ix_nI (by omega), ix_nI (by omega), hv', Int32.mul_comm 24]
    by_cases hz : M 10 (65 + 8 * a) = 0
    · rw [if_pos hz, if_pos hz]
    · rw [if_neg hz, if_neg hz]
theorem C_writtenByte (hI : Inv M) (p : Int32) : Agr (f_L_writtenByte p M) (f_X6_writtenByte p) := by
  obtain ⟨l, hl, e1, e2, eq⟩ := hI.2.2.1
  have hin : ∀ N : Mem, N 9 8 = M 9 8 → f_X6_isIn p 0 (N 9 8 - 1) N = some (b2 (inM p l)) := fun N hN => by
    rw [hN, e2, X6_isIn]
    congr 2
    unfold inR inM
    congr 1
    apply decide_eq_decide.mpr
    rw [i32_le, i32_lt, nI_tI (by omega)]
    have e : (nI l - 1).toInt = (l : Int) - 1 := by
      rw [Int32.toInt_sub, nI_tI (by omega), show (1 : Int32).toInt = 1 from rfl, Int.bmod_eq_of_le (by omega) (by omega)]
    rw [e]
    omega
  cases hp : inM p l with
  | false =>
    have hc : f_X5_writtenByte p M = some (1, 0, M) := by
      unfold f_X5_writtenByte f_X5_writtenByte_15
      rw [e1, out3 hp]
    refine agrk hI (b := 0) (by decide) (L1_writtenByte hc) ?_
    unfold f_X6_writtenByte f_X6_writtenByte_20
    rw [hin M rfl, hp, bnd_some, if_pos b2_f, letM_eq, mput_at]
    rfl
  | true =>
    obtain ⟨x, hx, rfl⟩ := inM_t (by omega) hp
    have hX : f_X5_writtenByte (nI x) M = some (0, M 15 x, M) := by
      unfold f_X5_writtenByte
      rw [e1, in3 hx (by omega), ev_chk (inB_nI (by omega) (by decide)), ix_nI (by omega), eq x hx]
    refine agr0 hI (L0_writtenByte hX) ?_
    unfold f_X6_writtenByte f_X6_writtenByte_20
    rw [hin _ (by rw [mput_row (by decide)]), hp, bnd_some, if_neg (by decide), letM_eq, mput_at, if_pos le00, ev_chk (inB_nI (by omega) (by decide)), ix_nI (by omega), mput_row (by decide), mput_row (by decide)]
end CT
