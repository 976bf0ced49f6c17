/-! TELLING on the reference's row; the calls give, pass, tell -/
theorem upd_comm {f : Nat → Int32} {i j : Nat} {x y : Int32} (h : i ≠ j) : upd (upd f i x) j y = upd (upd f j y) i x := by
  funext k
  unfold upd
  split
  · split
    · exfalso; omega
    · rfl
  · rfl
section DU
variable {M N : Mem} {o m n t : Nat} {v : Nat → Int32}
theorem mr10 {N : Mem} {u : Nat → Int32} : (mrow N 10 u) 10 = u := mrow_at
theorem X6_meet (w : VV v m n t) {a b j : Nat} (ha : a < m) (hb : b < m) (hj : j < n) (x : Int32) : f_X6_tells_121 (nI a) (nI b) (nI j) x (mrow N 10 v) = some (x, mrow N 10 (sMe v a b j)) := by
  have h12 := w.m12
  have h8 := w.n8
  have e1 : f_X6_isSet (nI a) 3 (nI j) (mrow N 10 v) = some (b2 (mm (v (63 + 8 * a)) j)) := by
    have := X6_isSet (M := mrow N 10 v) mr10 (c := 3) (show a < 12 by omega) (by decide) (by rw [show 60 + 8 * a + 3 = 63 + 8 * a by omega]; exact w.wn ha) (show j < 8 by omega)
    rw [show 60 + 8 * a + 3 = 63 + 8 * a by omega] at this
    exact this
  have a1 : ∀ N : Mem, f_X6_mo (nI a) 1 N = some (nI (61 + 8 * a)) := fun N => ev_moc 1 (c := 1) rfl (by omega)
  have b1 : ∀ N : Mem, f_X6_mo (nI b) 1 N = some (nI (61 + 8 * b)) := fun N => ev_moc 1 (c := 1) rfl (by omega)
  have a3 : ∀ N : Mem, f_X6_mo (nI a) 3 N = some (nI (63 + 8 * a)) := fun N => ev_moc 3 (c := 3) rfl (by omega)
  have i1 : inB (nI (61 + 8 * a)) 156 = true := inB_nI (by omega) (by decide)
  have i2 : inB (nI (61 + 8 * b)) 156 = true := inB_nI (by omega) (by decide)
  have i3 : inB (nI (63 + 8 * a)) 156 = true := inB_nI (by omega) (by decide)
  unfold f_X6_tells_121 sMe
  rw [ev_bnd e1, ev_bnd (b1 _), ev_chk i2, ev_bnd (a1 _), ev_chk i1, ix_nI (by omega), ix_nI (by omega), mr10, ev_bnd (a3 _), ev_chk i3, ev_chk i3, letM_eq, ix_nI (by omega), mrow_mput, letM_eq, mr10, mrow_mput]
  cases mm (v (63 + 8 * a)) j with
  | false => rfl
  | true =>
    rw [if_neg (by decide), if_pos rfl]
    by_cases hr : v (61 + 8 * b) < v (61 + 8 * a)
    · rw [if_pos hr, if_pos hr]
    · rw [if_neg hr, if_neg hr]
theorem X6_tells53 (w : VV v m n t) {a b j way : Nat} (ha : a < m) (hb : b < m) (hj : j < n) (hw : way < 3) (x : Int32) : f_X6_tells_53 (nI a) (nI b) (nI j) (nI way) x (mrow N 10 v) = some (x, mrow N 10 (sMe (if way = 0 then upd v (6 + way) (v (6 + way) + 1) else sLe (upd v (6 + way) (v (6 + way) + 1)) a b j) a b j)) := by
  have h12 := w.m12
  have h8 := w.n8
  have w1 := w.updf (i := 6 + way) (v (6 + way) + 1) (by unfold frI; omega)
  have i0 : inB (nI (6 + way)) 156 = true := inB_nI (by omega) (by decide)
  unfold f_X6_tells_53
  rw [show (6 : Int32) = nI 6 from rfl, nI_add, ev_chk i0, ev_chk i0, letM_eq, ix_nI (by omega), mr10, mrow_mput]
  generalize upd v (6 + way) (v (6 + way) + 1) = u at w1 ⊢
  have e1 : f_X6_isSet (nI a) 2 (nI j) (mrow N 10 u) = some (b2 (mm (u (62 + 8 * a)) j)) := by
    have := X6_isSet (M := mrow N 10 u) mr10 (c := 2) (show a < 12 by omega) (by decide) (by rw [show 60 + 8 * a + 2 = 62 + 8 * a by omega]; exact w1.kn ha) (show j < 8 by omega)
    rw [show 60 + 8 * a + 2 = 62 + 8 * a by omega] at this
    exact this
  have e2 : f_X6_isSet (nI b) 2 (nI j) (mrow N 10 u) = some (b2 (mm (u (62 + 8 * b)) j)) := by
    have := X6_isSet (M := mrow N 10 u) mr10 (c := 2) (show b < 12 by omega) (by decide) (by rw [show 60 + 8 * b + 2 = 62 + 8 * b by omega]; exact w1.kn hb) (show j < 8 by omega)
    rw [show 60 + 8 * b + 2 = 62 + 8 * b by omega] at this
    exact this
  have b2' : f_X6_mo (nI b) 2 (mrow N 10 u) = some (nI (62 + 8 * b)) := ev_moc 2 (c := 2) rfl (by omega)
  have i2 : inB (nI (62 + 8 * b)) 156 = true := inB_nI (by omega) (by decide)
  by_cases h0 : way = 0
  · subst h0
    rw [if_pos (show nI 0 = 0 from rfl), if_pos rfl, X6_meet w1 ha hb hj]
  · rw [if_neg (show ¬ nI way = 0 from fun q => h0 (nI_inj (by omega) (by decide) q)), if_neg h0, ev_bnd e1, ev_bnd e2, ev_bnd b2', ev_chk i2, ev_chk i2, letM_eq, ix_nI (by omega), mr10, mrow_mput, letM_eq, mr10, mrow_mput]
    have wl := sLe_VV w1 (a := a) hb hj
    unfold sLe at wl ⊢
    revert wl
    cases mm (u (62 + 8 * a)) j with
    | false =>
      intro wl
      rw [if_pos b2_f, X6_meet w1 ha hb hj]
      rfl
    | true =>
      cases mm (u (62 + 8 * b)) j with
      | false =>
        intro wl
        rw [if_neg (by decide), if_pos b2_f]
        exact X6_meet wl ha hb hj x
      | true =>
        intro wl
        rw [if_neg (by decide), if_neg (by decide), X6_meet w1 ha hb hj]
        rfl
theorem X6_writesSlip (w : VV v m n t) {a j : Nat} (ha : a < m) (hj : j < n) : f_X6_writesSlip (nI a) (nI j) (mrow N 10 v) = some (sPg v a j, mrow N 10 (upd (upd v 2 (v 2 - sPg v a j)) 9 (v 9 + sPg v a j))) := by
  unfold f_X6_writesSlip
  rw [ev_bnd (X6_pagesOf mr10 w ha hj), letM_eq, mr10, mrow_mput, letM_eq, mr10, mrow_mput, upd_ne (show 9 ≠ 2 by decide)]
def sSpk (v : Nat → Int32) (a j : Nat) (sp : Bool) : Nat → Int32 :=
  let u := upd (upd (upd (upd (upd (upd (upd (upd v 5 (v 5 + v (45 + 2 * j))) 10 (v 10 + (v (45 + 2 * j) - sLv v a j sp - sRs v a j sp))) 11 (v 11 + sLv v a j sp)) 12 (v 12 + sRs v a j sp)) 13 (v 13 + (if sRs v a j sp ≤ 0 then 0 else 1))) 14 (v 14 + sDy v a j sp)) (64 + 8 * a) (v (64 + 8 * a) - sLv v a j sp)) (65 + 8 * a) (v (65 + 8 * a) + sDy v a j sp)
  if sRs v a j sp ≤ 0 then u else upd u (67 + 8 * a) 1
theorem X6_speaks (w : VV v m n t) {a j : Nat} (ha : a < m) (hj : j < n) : f_X6_speaks (nI a) (nI j) (mrow N 10 v) = some (sDy v a j (nowSp v t), mrow N 10 (sSpk v a j (nowSp v t))) := by
  have h12 := w.m12
  have h8 := w.n8
  have a4 : ∀ N : Mem, f_X6_mo (nI a) 4 N = some (nI (64 + 8 * a)) := fun N => ev_moc 4 (c := 4) rfl (by omega)
  have a5 : ∀ N : Mem, f_X6_mo (nI a) 5 N = some (nI (65 + 8 * a)) := fun N => ev_moc 5 (c := 5) rfl (by omega)
  have a7 : ∀ N : Mem, f_X6_mo (nI a) 7 N = some (nI (67 + 8 * a)) := fun N => ev_moc 7 (c := 7) rfl (by omega)
  have i4 : inB (nI (64 + 8 * a)) 156 = true := inB_nI (by omega) (by decide)
  have i5 : inB (nI (65 + 8 * a)) 156 = true := inB_nI (by omega) (by decide)
  have i7 : inB (nI (67 + 8 * a)) 156 = true := inB_nI (by omega) (by decide)
  have x4 : ix (nI (64 + 8 * a)) = 64 + 8 * a := ix_nI (by omega)
  have x5 : ix (nI (65 + 8 * a)) = 65 + 8 * a := ix_nI (by omega)
  have x7 : ix (nI (67 + 8 * a)) = 67 + 8 * a := ix_nI (by omega)
  unfold f_X6_speaks
  rw [ev_bnd (X6_daysOf mr10 w ha hj), ev_bnd (X6_byLeave mr10 w ha hj), ev_bnd (X6_restOf mr10 w ha hj), ev_bnd (X6_words mr10 (by omega)), letM_eq, mr10, mrow_mput, ev_bnd (X6_words mr10 (by omega)), upd_ne (show 45 + 2 * j ≠ 5 by omega)]
  generalize nowSp v t = sp
  rw [letM_eq, mr10, mrow_mput, upd_ne (show 10 ≠ 5 by decide), letM_eq, mr10, mrow_mput, upd_ne (show 11 ≠ 10 by decide), upd_ne (show 11 ≠ 5 by decide), letM_eq, mr10, mrow_mput, upd_ne (show 12 ≠ 11 by decide), upd_ne (show 12 ≠ 10 by decide), upd_ne (show 12 ≠ 5 by decide), mr10, upd_ne (show 13 ≠ 12 by decide), upd_ne (show 13 ≠ 11 by decide), upd_ne (show 13 ≠ 10 by decide), upd_ne (show 13 ≠ 5 by decide)]
  have e100 : f_X6_speaks_100 (nI a) (sDy v a j sp) (sLv v a j sp) (sRs v a j sp) 13 (v 13) (if sRs v a j sp ≤ 0 then 0 else 1) (mrow N 10 (upd (upd (upd (upd v 5 (v 5 + v (45 + 2 * j))) 10 (v 10 + (v (45 + 2 * j) - sLv v a j sp - sRs v a j sp))) 11 (v 11 + sLv v a j sp)) 12 (v 12 + sRs v a j sp))) = some (sDy v a j sp, mrow N 10 (sSpk v a j sp)) := by
    unfold f_X6_speaks_100 sSpk
    rw [ev_chk (by decide), letM_eq, show ix 13 = 13 from by decide, mrow_mput, letM_eq, mr10, mrow_mput, upd_ne (show 14 ≠ 13 by decide), upd_ne (show 14 ≠ 12 by decide), upd_ne (show 14 ≠ 11 by decide), upd_ne (show 14 ≠ 10 by decide), upd_ne (show 14 ≠ 5 by decide), ev_bnd (a4 _), ev_chk i4, ev_chk i4, letM_eq, x4, mr10, mrow_mput, upd_ne (show 64 + 8 * a ≠ 14 by omega), upd_ne (show 64 + 8 * a ≠ 13 by omega), upd_ne (show 64 + 8 * a ≠ 12 by omega), upd_ne (show 64 + 8 * a ≠ 11 by omega), upd_ne (show 64 + 8 * a ≠ 10 by omega), upd_ne (show 64 + 8 * a ≠ 5 by omega), ev_bnd (a5 _), ev_chk i5, ev_chk i5, letM_eq, x5, mr10, mrow_mput, upd_ne (show 65 + 8 * a ≠ 64 + 8 * a by omega), upd_ne (show 65 + 8 * a ≠ 14 by omega), upd_ne (show 65 + 8 * a ≠ 13 by omega), upd_ne (show 65 + 8 * a ≠ 12 by omega), upd_ne (show 65 + 8 * a ≠ 11 by omega), upd_ne (show 65 + 8 * a ≠ 10 by omega), upd_ne (show 65 + 8 * a ≠ 5 by omega), ev_bnd (a7 _), ev_chk i7, letM_eq, x7, mrow_mput]
    by_cases hr : sRs v a j sp ≤ 0
    · rw [if_pos hr, if_pos hr, if_pos hr]
    · rw [if_neg hr, if_neg hr, if_neg hr]
  by_cases hr : sRs v a j sp ≤ 0
  · rw [if_pos hr] at e100 ⊢
    exact e100
  · rw [if_neg hr] at e100 ⊢
    exact e100
theorem word_part (v : Nat → Int32) (a j : Nat) (sp : Bool) : v (45 + 2 * j) - sLv v a j sp - sRs v a j sp = if sp = true then v (45 + 2 * j) else 0 := by
  unfold sLv sRs
  cases sp with
  | true => rw [if_pos rfl, if_pos rfl, if_pos rfl, Int32.sub_zero, Int32.sub_zero]
  | false => rw [if_neg (by decide), if_neg (by decide), if_neg (by decide), Int32.sub_self]
theorem sVo_eq (v : Nat → Int32) (a j : Nat) (sp : Bool) : upd (sSpk v a j sp) 8 (sSpk v a j sp 8 + 1) = sVo v a j sp := by
  have e8 : sSpk v a j sp 8 = v 8 := by
    unfold sSpk
    split
    · rw [upd_ne (by omega), upd_ne (by omega), upd_ne (by decide), upd_ne (by decide), upd_ne (by decide), upd_ne (by decide), upd_ne (by decide), upd_ne (by decide)]
    · rw [upd_ne (by omega), upd_ne (by omega), upd_ne (by omega), upd_ne (by decide), upd_ne (by decide), upd_ne (by decide), upd_ne (by decide), upd_ne (by decide), upd_ne (by decide)]
  rw [e8]
  unfold sSpk sVo
  rw [word_part]
  by_cases hr : sRs v a j sp ≤ 0
  · rw [if_pos hr, if_pos hr, if_pos hr, Int32.add_zero]
    funext i
    by_cases h13 : i = 13
    · subst h13
      rw [upd_ne (by decide), upd_ne (by omega), upd_ne (by omega), upd_ne (by decide), upd_at, upd_ne (by decide), upd_ne (by decide), upd_ne (by decide), upd_ne (by decide), upd_ne (by decide), upd_ne (by decide), upd_ne (by omega), upd_ne (by omega)]
    · unfold upd
      repeat' split
      all_goals first | rfl | (exfalso; omega)
  · rw [if_neg hr, if_neg hr, if_neg hr]
    funext i
    unfold upd
    repeat' split
    all_goals first | rfl | (exfalso; omega)
theorem sSl_eq (v : Nat → Int32) (a j : Nat) : upd (upd (upd v 2 (v 2 - sPg v a j)) 9 (v 9 + sPg v a j)) 7 (upd (upd v 2 (v 2 - sPg v a j)) 9 (v 9 + sPg v a j) 7 + 1) = sSl v a j := by
  unfold sSl
  rw [upd_ne (show 7 ≠ 9 by decide), upd_ne (show 7 ≠ 2 by decide), upd_comm (show 9 ≠ 7 by decide)]
theorem X6_tells (w : VV v m n t) {a b j way : Nat} (ha : a < m) (hb : b < m) (hj : j < n) (hw : way < 3) : f_X6_tells (nI a) (nI b) (nI j) (nI way) (mrow N 10 v) = some (sTa v t a b j way, mrow N 10 (sTe v t a b j way)) := by
  have h12 := w.m12
  have h8 := w.n8
  unfold f_X6_tells sTe sTa sT1
  rcases (show way = 0 ∨ way = 1 ∨ way = 2 by omega) with rfl | rfl | rfl
  · have a2 : ∀ N : Mem, f_X6_mo (nI a) 2 N = some (nI (62 + 8 * a)) := fun N => ev_moc 2 (c := 2) rfl (by omega)
    have c2 : ∀ N : Mem, f_X6_mo (nI b) 2 N = some (nI (62 + 8 * b)) := fun N => ev_moc 2 (c := 2) rfl (by omega)
    rw [if_pos (show nI 0 = 0 from rfl), ev_bnd (a2 _), ev_chk (inB_nI (by omega) (by decide)), ev_bnd (c2 _), ev_chk (inB_nI (by omega) (by decide)), ix_nI (by omega), ix_nI (by omega), mr10, ev_bnd (bits_By (By_and (w.kn ha) (w.kn hb)) _), X6_tells53 w ha hb hj (by decide)]
    rfl
  · have w1 : VV (upd (upd v 2 (v 2 - sPg v a j)) 9 (v 9 + sPg v a j)) m n t := (w.updf _ (by unfold frI; omega)).updf _ (by unfold frI; omega)
    rw [if_neg (show ¬ nI 1 = 0 by decide), if_pos (show nI 1 = 1 from rfl), ev_bnd2 (X6_writesSlip w ha hj), X6_tells53 w1 ha hb hj (by decide), show 6 + 1 = 7 from rfl, sSl_eq]
    rfl
  · have w1 : VV (sSpk v a j (nowSp v t)) m n t := by
      have hu := fun z : Int32 => (((((((w.updf (i := 5) (v 5 + v (45 + 2 * j)) (by unfold frI; omega)).updf (i := 10) (v 10 + (v (45 + 2 * j) - sLv v a j (nowSp v t) - sRs v a j (nowSp v t))) (by unfold frI; omega)).updf (i := 11) (v 11 + sLv v a j (nowSp v t)) (by unfold frI; omega)).updf (i := 12) (v 12 + sRs v a j (nowSp v t)) (by unfold frI; omega)).updf (i := 13) (v 13 + z) (by unfold frI; omega)).updf (i := 14) (v 14 + sDy v a j (nowSp v t)) (by unfold frI; omega)).updl (a := a) (v (64 + 8 * a) - sLv v a j (nowSp v t)) (lv_Sm w ha hj _)).updf (i := 65 + 8 * a) (v (65 + 8 * a) + sDy v a j (nowSp v t)) (by unfold frI; omega)
      unfold sSpk
      dsimp only
      split
      · exact hu 0
      · exact (hu 1).updf (i := 67 + 8 * a) _ (by unfold frI; omega)
    rw [if_neg (show ¬ nI 2 = 0 by decide), if_neg (show ¬ nI 2 = 1 by decide), ev_bnd2 (X6_speaks w ha hj), X6_tells53 w1 ha hb hj (by decide), show 6 + 2 = 8 from rfl, sVo_eq]
    rfl
end DU
/-! the calls -/
theorem mrow_self (N : Mem) (k : Nat) : mrow N k (N k) = N := mrow_id rfl
theorem C_pass {M : Mem} (hI : Inv M) (p : Int32) : Agr (f_L_pass p M) (f_X6_pass p) := by
  obtain ⟨m, n, t, hm, h, w⟩ := hI.ow
  have hv : M 10 = M 10 := rfl
  cases hp : inR p 1 99 with
  | false =>
    have hc : f_X5_pass p M = some (2, 0, M) := by
      unfold f_X5_pass
      rw [X5_requireWithin, hp, bnd3_some]
      rfl
    refine agrk hI (b := 0) (by decide) (L2_pass hc) ?_
    unfold f_X6_pass f_X6_pass_16
    rw [X6_isIn, hp, bnd_some, if_pos b2_f, letM_eq, mput_at]
    rfl
  | true =>
    obtain ⟨hh, h1h, hx, rfl⟩ := inR_t (a := 1) (b := 99) (by decide) (by decide) hp
    cases hz : sPa (M 10) (nI hh) with
    | false =>
      have hc : f_X5_pass (nI hh) M = some (0, -21, M) := by
        unfold f_X5_pass
        rw [X5_requireWithin, hp, bnd3_some, ex_t, if_pos rfl, ev_bnd (X1_passRefusal h (nI hh)), hz]
        rfl
      refine agr0 hI (L0_pass hc) ?_
      unfold f_X6_pass f_X6_pass_16
      rw [X6_isIn, hp, bnd_some, if_neg (by decide), letM_eq, mput_at, if_pos le00, ev_bnd (X6_refusalOfHours (hv_thr (hv_out hv _) 0) (nI hh)), hz]
      rfl
    | true =>
      have ht := (sPa_le w hx).mp hz
      obtain ⟨M1, c1, hM1⟩ := rem_ex hI
      have h1 : HR M1 18 (M 10) m n := h.cong (fun i hi => hM1 _ (by omega) (by omega))
      obtain ⟨M2, e2, g2⟩ := X1_passHours h1 w hx ht
      have hM2 : ∀ k, ¬ (18 ≤ k ∧ k < 31) → M2 k = M1 k := fun k hk => g2.2 k (by omega)
      have hc : f_X5_pass (nI hh) M = some (0, nI (sPd hh t 0), M2) := by
        unfold f_X5_pass
        rw [X5_requireWithin, hp, bnd3_some, ex_t, if_pos rfl, ev_bnd (X1_passRefusal h (nI hh)), hz, if_pos rfl, if_pos rfl, ev_bnd c1, ev_bnd2 e2]
      obtain ⟨N1, d1, d4, d3⟩ := keep_ex (N := mput (mput M2 17 0 (nI (sPd hh t 0))) 9 6 0) hI (mid95 hM1 hM2) (Or.inl rfl)
      obtain ⟨n10, nmid, -, -⟩ := mid_N hM1 hM2 d4
      refine agrC (N2 := mrow N1 10 (sPv m hh t (M 10))) hI c1 (L0_pass hc) hM2 d1 ?_ (fun k hk => mrow_row hk) ?_
      · have hv2 : (mput M2 17 0 (nI (sPd hh t 0))) 10 = M 10 := by rw [mput_row (by decide), hM2 10 (by decide), hM1 10 (by decide) (by decide)]
        unfold f_X6_pass f_X6_pass_16
        rw [X6_isIn, hp, bnd_some, if_neg (by decide), letM_eq, mput_at, if_pos le00, ev_bnd (X6_refusalOfHours (hv_thr hv2 0) (nI hh)), hz, if_pos rfl, if_pos rfl, ev_bnd d1, ← mrow_self N1 10, n10, ev_bnd2 (X6_passes w hx ht)]
        congr 2
        rw [← n10, mrow_self]
      · exact fin_ok (t := t + hh) (fun k hk => mrow_row hk) nmid mrow_at hm g2.1 (sPv_VV hh t w ht)
theorem C_tell {M : Mem} (hI : Inv M) (p q r y : Int32) : Agr (f_L_tell p q r y M) (f_X6_tell p q r y) := by
  obtain ⟨m, n, t, hm, h, w⟩ := hI.ow
  have h12 := w.m12
  have h8 := w.n8
  have hv : M 10 = M 10 := rfl
  have bad : ∀ k : Nat, (k = 1 ∨ k = 2) → f_X5_tell p q r y M = some (k, 0, M) → f_X6_tell p q r y M = some (0, mput M 9 6 (nI k)) → Agr (f_L_tell p q r y M) (f_X6_tell p q r y) := fun k hk hc h6 => by
    rcases hk with rfl | rfl
    · exact agrk hI (b := 0) (k := nI 1) (by decide) (L1_tell hc) h6
    · exact agrk hI (b := 0) (k := nI 2) (by decide) (L2_tell hc) h6
  by_cases hw : sWt p q r m n = 0
  · cases hy : inR y 0 2 with
    | false =>
      refine bad 2 (Or.inr rfl) ?_ ?_
      · unfold f_X5_tell
        rw [X5_requireTelling h w, hw, bnd3_some, if_pos rfl, X5_requireWithin, hy, bnd3_some]
        rfl
      · unfold f_X6_tell f_X6_tell_33
        rw [X6_wrongTwo hv w, hw, bnd_some, letM_eq, mput_at, nI_0, if_pos rfl, X6_isIn, hy, bnd_some, if_pos b2_f, letM_eq, mput_at, mput_mput]
        rfl
    | true =>
      obtain ⟨a, b, j, ha, hb, hj, hab, rfl, rfl, rfl⟩ := sWt_0 h12 h8 hw
      obtain ⟨way, -, hway, rfl⟩ := inR_t (a := 0) (b := 2) (by decide) (by decide) hy
      by_cases hz : sRe (M 10) t a b j way = 0
      · obtain ⟨M1, c1, hM1⟩ := rem_ex hI
        have h1 : HR M1 18 (M 10) m n := h.cong (fun i hi => hM1 _ (by omega) (by omega))
        obtain ⟨M2, e2, g2⟩ := X1_tellNeed h1 w ha hb hj (show way < 3 by omega)
        have hM2 : ∀ k, ¬ (18 ≤ k ∧ k < 31) → M2 k = M1 k := fun k hk => g2.2 k (by omega)
        have hc : f_X5_tell (nI a) (nI b) (nI j) (nI way) M = some (0, sTa (M 10) t a b j way, M2) := by
          unfold f_X5_tell
          rw [X5_requireTelling h w, hw, bnd3_some, if_pos rfl, X5_requireWithin, hy, bnd3_some, ex_t, if_pos rfl, ev_bnd (X1_tellRefusal h w ha hb hj (by omega)), if_pos hz, ev_bnd c1, ev_bnd2 e2]
        obtain ⟨N1, d1, d4, d3⟩ := keep_ex (N := mput (mput M2 17 0 (sTa (M 10) t a b j way)) 9 6 0) hI (mid95 hM1 hM2) (Or.inl rfl)
        obtain ⟨n10, nmid, -, -⟩ := mid_N hM1 hM2 d4
        refine agrC (N2 := mrow N1 10 (sTe (M 10) t a b j way)) hI c1 (L0_tell hc) hM2 d1 ?_ (fun k hk => mrow_row hk) ?_
        · have hv2 : (mput M2 17 0 (sTa (M 10) t a b j way)) 10 = M 10 := by rw [mput_row (by decide), hM2 10 (by decide), hM1 10 (by decide) (by decide)]
          unfold f_X6_tell f_X6_tell_33
          rw [X6_wrongTwo hv2 w, hw, bnd_some, letM_eq, mput_at, nI_0, if_pos rfl, X6_isIn, hy, bnd_some, if_neg (by decide), if_pos le00, ev_bnd (X6_reason (hv_thr hv2 0) w ha hb hj (by omega)), if_pos hz, ev_bnd d1, ← mrow_self N1 10, n10, ev_bnd2 (X6_tells w ha hb hj (by omega))]
          congr 2
          rw [← n10, mrow_self]
        · exact fin_ok (fun k hk => mrow_row hk) nmid mrow_at hm g2.1 (sTe_VV w ha hb hj)
      · have hc : f_X5_tell (nI a) (nI b) (nI j) (nI way) M = some (0, -10 - sRe (M 10) t a b j way, M) := by
          unfold f_X5_tell f_X5_refusal
          rw [X5_requireTelling h w, hw, bnd3_some, if_pos rfl, X5_requireWithin, hy, bnd3_some, ex_t, if_pos rfl, ev_bnd (X1_tellRefusal h w ha hb hj (by omega)), if_neg hz]
          rfl
        refine agr0 hI (L0_tell hc) ?_
        unfold f_X6_tell f_X6_tell_33
        rw [X6_wrongTwo (hv_out hv _) w, hw, bnd_some, letM_eq, mput_at, nI_0, if_pos rfl, X6_isIn, hy, bnd_some, if_neg (by decide), if_pos le00, ev_bnd (X6_reason (hv_thr (hv_out hv _) 0) w ha hb hj (by omega)), if_neg hz]
  · have h3 := sWt_3 (m := m) (n := n) p q r
    refine bad (sWt p q r m n) (by omega) ?_ ?_
    · unfold f_X5_tell
      rw [X5_requireTelling h w, bnd3_some, if_neg hw]
    · unfold f_X6_tell f_X6_tell_33
      rw [X6_wrongTwo hv w, bnd_some, letM_eq, mput_at, if_neg (show ¬ nI (sWt p q r m n) = 0 from fun e => hw ((nI_02 _ h3).mp e)), if_neg (show ¬ nI (sWt p q r m n) ≤ 0 from nI_nle (by omega) (by omega))]
theorem C_give {M : Mem} (hI : Inv M) (p q x : Int32) : Agr (f_L_give p q x M) (f_X6_give p q x) := by
  obtain ⟨m, n, t, hm, h, w⟩ := hI.ow
  have h12 := w.m12
  have hv : M 10 = M 10 := rfl
  have e17 : ∀ N : Mem, f_X6_give_17 p q x N = some (0, mput N 9 6 1) := fun N => by
    unfold f_X6_give_17 f_X6_give_41
    rw [letM_eq, mput_at]
    rfl
  have e40 : ∀ N : Mem, f_X6_give_40 p q x N = some (0, mput N 9 6 2) := fun N => by
    unfold f_X6_give_40 f_X6_give_41
    rw [letM_eq, mput_at]
    rfl
  cases hp : inM p m with
  | false =>
    have hc : f_X5_give p q x M = some (1, 0, M) := by
      unfold f_X5_give
      rw [X5_requireMonk h w, hp, bnd3_some]
      rfl
    refine agrk hI (b := 0) (by decide) (L1_give hc) ?_
    unfold f_X6_give
    rw [X6_isMonk hv w, hp, bnd_some, if_pos b2_f, e17]
  | true =>
    cases hq : inM q m with
    | false =>
      have hc : f_X5_give p q x M = some (1, 0, M) := by
        unfold f_X5_give
        rw [X5_requireMonk h w, hp, bnd3_some, ex_t, if_pos rfl, X5_requireMonk h w, hq, bnd3_some]
        rfl
      refine agrk hI (b := 0) (by decide) (L1_give hc) ?_
      unfold f_X6_give
      rw [X6_isMonk hv w, hp, bnd_some, if_neg (by decide), X6_isMonk hv w, hq, bnd_some, if_pos b2_f, e17]
    | true =>
      by_cases hpq : p = q
      · have hc : f_X5_give p q x M = some (2, 0, M) := by
          unfold f_X5_give f_X5_requireTwo
          rw [X5_requireMonk h w, hp, bnd3_some, ex_t, if_pos rfl, X5_requireMonk h w, hq, bnd3_some, ex_t, if_pos rfl, if_pos hpq, bnd3_some]
          rfl
        refine agrk hI (b := 0) (by decide) (L2_give hc) ?_
        unfold f_X6_give
        rw [X6_isMonk hv w, hp, bnd_some, if_neg (by decide), X6_isMonk hv w, hq, bnd_some, if_neg (by decide), if_pos hpq, e40]
      · cases hx : inR x 1 50 with
        | false =>
          have hc : f_X5_give p q x M = some (2, 0, M) := by
            unfold f_X5_give f_X5_requireTwo
            rw [X5_requireMonk h w, hp, bnd3_some, ex_t, if_pos rfl, X5_requireMonk h w, hq, bnd3_some, ex_t, if_pos rfl, if_neg hpq, bnd3_some, if_pos rfl, X5_requireWithin, hx, bnd3_some]
            rfl
          refine agrk hI (b := 0) (by decide) (L2_give hc) ?_
          unfold f_X6_give
          rw [X6_isMonk hv w, hp, bnd_some, if_neg (by decide), X6_isMonk hv w, hq, bnd_some, if_neg (by decide), if_neg hpq, X6_isIn, hx, bnd_some, if_pos b2_f, e40]
        | true =>
          obtain ⟨a, ha, rfl⟩ := inM_t (by omega) hp
          obtain ⟨b, hb, rfl⟩ := inM_t (by omega) hq
          obtain ⟨g, hg1, hg, rfl⟩ := inR_t (a := 1) (b := 50) (by decide) (by decide) hx
          by_cases hz : sGi (M 10) a b (nI g) = 0
          · obtain ⟨M1, c1, hM1⟩ := rem_ex hI
            have h1 : HR M1 18 (M 10) m n := h.cong (fun i hi => hM1 _ (by omega) (by omega))
            obtain ⟨M2, e2, g2⟩ := X1_giveLeave h1 w ha hb (nI g)
            have hM2 : ∀ k, ¬ (18 ≤ k ∧ k < 31) → M2 k = M1 k := fun k hk => g2.2 k (by omega)
            have hle : M 10 (64 + 8 * b) + nI g ≤ 99 := by
              unfold sGi at hz
              split at hz
              · split at hz
                · split at hz
                  · split at hz
                    · split at hz
                      · rename_i hq; exact hq
                      · exact absurd hz (by decide)
                    · exact absurd hz (by decide)
                  · exact absurd hz (by decide)
                · exact absurd hz (by decide)
              · exact absurd hz (by decide)
            have hc : f_X5_give (nI a) (nI b) (nI g) M = some (0, sGv (M 10) a b (nI g) (64 + 8 * b), M2) := by
              unfold f_X5_give f_X5_requireTwo
              rw [X5_requireMonk h w, hp, bnd3_some, ex_t, if_pos rfl, X5_requireMonk h w, hq, bnd3_some, ex_t, if_pos rfl, if_neg hpq, bnd3_some, if_pos rfl, X5_requireWithin, hx, bnd3_some, ex_t, if_pos rfl, ev_bnd (X1_giveRefusal h w ha hb (nI g)), if_pos hz, ev_bnd c1, ev_bnd2 e2]
            obtain ⟨N1, d1, d4, d3⟩ := keep_ex (N := mput (mput M2 17 0 (sGv (M 10) a b (nI g) (64 + 8 * b))) 9 6 0) hI (mid95 hM1 hM2) (Or.inl rfl)
            obtain ⟨n10, nmid, -, -⟩ := mid_N hM1 hM2 d4
            refine agrC (N2 := mrow N1 10 (sGv (M 10) a b (nI g))) hI c1 (L0_give hc) hM2 d1 ?_ (fun k hk => mrow_row hk) ?_
            · have hv2 : (mput M2 17 0 (sGv (M 10) a b (nI g) (64 + 8 * b))) 10 = M 10 := by rw [mput_row (by decide), hM2 10 (by decide), hM1 10 (by decide) (by decide)]
              unfold f_X6_give f_X6_give_41
              rw [X6_isMonk hv2 w, hp, bnd_some, if_neg (by decide), X6_isMonk hv2 w, hq, bnd_some, if_neg (by decide), if_neg hpq, X6_isIn, hx, bnd_some, if_neg (by decide), letM_eq, mput_at, if_pos le00, ev_bnd (X6_refusalOfGift (hv_thr hv2 0) w ha hb (nI g)), if_pos hz, if_pos rfl, ev_bnd d1, ← mrow_self N1 10, n10, ev_bnd2 (X6_gives w ha hb (nI g))]
              congr 2
              rw [← n10, mrow_self]
            · exact fin_ok (fun k hk => mrow_row hk) nmid mrow_at hm g2.1 (sGv_VV w hb (by omega) hle)
          · have hne : ¬ (-10 - sGi (M 10) a b (nI g) : Int32) = 0 := by
              unfold sGi
              split
              · split
                · split
                  · split
                    · split <;> decide
                    · decide
                  · decide
                · decide
              · decide
            have hc : f_X5_give (nI a) (nI b) (nI g) M = some (0, -10 - sGi (M 10) a b (nI g), M) := by
              unfold f_X5_give f_X5_requireTwo f_X5_refusal
              rw [X5_requireMonk h w, hp, bnd3_some, ex_t, if_pos rfl, X5_requireMonk h w, hq, bnd3_some, ex_t, if_pos rfl, if_neg hpq, bnd3_some, if_pos rfl, X5_requireWithin, hx, bnd3_some, ex_t, if_pos rfl, ev_bnd (X1_giveRefusal h w ha hb (nI g)), if_neg hz]
              rfl
            refine agr0 hI (L0_give hc) ?_
            unfold f_X6_give f_X6_give_41
            rw [X6_isMonk (hv_out hv _) w, hp, bnd_some, if_neg (by decide), X6_isMonk (hv_out hv _) w, hq, bnd_some, if_neg (by decide), if_neg hpq, X6_isIn, hx, bnd_some, if_neg (by decide), letM_eq, mput_at, if_pos le00, ev_bnd (X6_refusalOfGift (hv_thr (hv_out hv _) 0) w ha hb (nI g)), if_neg hz, if_neg hne]
