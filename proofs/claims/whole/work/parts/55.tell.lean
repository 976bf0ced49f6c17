/-! TELLING, on a house and on the reference's row -/
section DT
variable {M N : Mem} {o m n t : Nat} {v : Nat → Int32}
/-! a sign is learned -/
def sLe (v : Nat → Int32) (a b j : Nat) : Nat → Int32 := if mm (v (62 + 8 * a)) j = true then (if mm (v (62 + 8 * b)) j = true then v else upd (upd v (62 + 8 * b) (v (62 + 8 * b) ||| (ishl 1 (nI j)))) 19 (upd v (62 + 8 * b) (v (62 + 8 * b) ||| (ishl 1 (nI j))) 19 + 1)) else v
theorem sLe_VV (w : VV v m n t) {a b j : Nat} (hb : b < m) (hj : j < n) : VV (sLe v a b j) m n t := by
  have h8 := w.n8
  unfold sLe
  split
  · split
    · exact w
    · exact (w.upds _ (Or.inl rfl) (By_or (w.kn hb) (by omega))).updf _ (by unfold frI; omega)
  · exact w
theorem X1_learnSign (h : HR M o v m n) (w : VV v m n t) {a b j : Nat} (ha : a < m) (hb : b < m) (hj : j < n) : ∃ M1, f_X1_learnSign o (nI a) (nI b) (nI j) M = some M1 ∧ HF M M1 o (sLe v a b j) m n := by
  have h12 := w.m12
  have h8 := w.n8
  have i1 : inB (nI a) 12 = true := inB_nI (by omega) (by decide)
  have i2 : inB (nI b) 12 = true := inB_nI (by omega) (by decide)
  unfold f_X1_learnSign sLe
  rw [ev_chk i1, ix_nI (by omega), h.kn ha, ev_bnd (X1_isMember (w.kn ha) (by omega) M), ev_chk i2, ix_nI (by omega), h.kn hb, ev_bnd (X1_isMember (w.kn hb) (by omega) M), ev_chk i2, ev_chk i2, letM_eq]
  have g1 := (HF.refl h).putm (a := b) h8 (c := 2) (by decide) (by decide) (v (62 + 8 * b) ||| (ishl 1 (nI j))) (R := o + 3) (I := 62 + 8 * b) rfl (by omega)
  generalize mput M (o + 3) b (v (62 + 8 * b) ||| (ishl 1 (nI j))) = M1 at g1 ⊢
  rw [letM_eq, g1.1.acc (k := 13) (by decide)]
  have g2 := g1.puta (c := 13) (by decide) (upd v (62 + 8 * b) (v (62 + 8 * b) ||| (ishl 1 (nI j))) (6 + 13) + 1) (R := o + 12) (I := 19) rfl rfl
  generalize mput M1 (o + 12) 13 (upd v (62 + 8 * b) (v (62 + 8 * b) ||| (ishl 1 (nI j))) (6 + 13) + 1) = M2 at g2 ⊢
  cases mm (v (62 + 8 * a)) j with
  | false => exact ⟨M, rfl, HF.refl h⟩
  | true =>
    cases mm (v (62 + 8 * b)) j with
    | false => exact ⟨M2, rfl, g2⟩
    | true => exact ⟨M, rfl, HF.refl h⟩
/-! a want is met -/
def sMe (v : Nat → Int32) (a b j : Nat) : Nat → Int32 := if mm (v (63 + 8 * a)) j = true then (if v (61 + 8 * b) < v (61 + 8 * a) then v else upd (upd v (63 + 8 * a) (v (63 + 8 * a) - (ishl 1 (nI j)))) 18 (upd v (63 + 8 * a) (v (63 + 8 * a) - (ishl 1 (nI j))) 18 + 1)) else v
theorem By_rm {x : Int32} (h : By x) {j : Nat} (hj : j < 8) (hm : mm x j = true) : x &&& ((ishl 1 (nI j)) ^^^ (-1)) = x - (ishl 1 (nI j)) ∧ By (x - (ishl 1 (nI j))) := by
  obtain ⟨s, hs, rfl⟩ := h
  unfold mm at hm
  rw [ix_nI (by omega)] at hm
  rw [rmc_nI hs hj hm, rmm_nI hs hj hm]
  exact ⟨rfl, _, Nat.lt_of_le_of_lt (Nat.sub_le _ _) hs, rfl⟩
theorem sMe_VV (w : VV v m n t) {a b j : Nat} (ha : a < m) (hj : j < n) : VV (sMe v a b j) m n t := by
  have h8 := w.n8
  unfold sMe
  split
  · rename_i hm
    split
    · exact w
    · exact (w.upds _ (Or.inr rfl) (By_rm (w.wn ha) (by omega) hm).2).updf _ (by unfold frI; omega)
  · exact w
theorem X1_meetWant (h : HR M o v m n) (w : VV v m n t) {a b j : Nat} (ha : a < m) (hb : b < m) (hj : j < n) : ∃ M1, f_X1_meetWant o (nI a) (nI b) (nI j) M = some M1 ∧ HF M M1 o (sMe v a b j) m n := by
  have h12 := w.m12
  have h8 := w.n8
  have i1 : inB (nI a) 12 = true := inB_nI (by omega) (by decide)
  have i2 : inB (nI b) 12 = true := inB_nI (by omega) (by decide)
  unfold f_X1_meetWant sMe
  rw [ev_chk i1, ix_nI (by omega), h.wn ha, ev_bnd (X1_isMember (w.wn ha) (by omega) M), ev_chk i2, ev_chk i1, ix_nI (by omega), h.rk ha, h.rk hb, ev_chk i1, ev_chk i1]
  cases hm : mm (v (63 + 8 * a)) j with
  | false => exact ⟨M, rfl, HF.refl h⟩
  | true =>
    rw [if_neg (by decide), if_pos rfl, (By_rm (w.wn ha) (by omega) hm).1, letM_eq]
    have g1 := (HF.refl h).putm (a := a) h8 (c := 3) (by decide) (by decide) (v (63 + 8 * a) - (ishl 1 (nI j))) (R := o + 4) (I := 63 + 8 * a) rfl (by omega)
    generalize mput M (o + 4) a (v (63 + 8 * a) - (ishl 1 (nI j))) = M1 at g1 ⊢
    rw [letM_eq, g1.1.acc (k := 12) (by decide)]
    have g2 := g1.puta (c := 12) (by decide) (upd v (63 + 8 * a) (v (63 + 8 * a) - (ishl 1 (nI j))) (6 + 12) + 1) (R := o + 12) (I := 18) rfl rfl
    generalize mput M1 (o + 12) 12 (upd v (63 + 8 * a) (v (63 + 8 * a) - (ishl 1 (nI j))) (6 + 12) + 1) = M2 at g2 ⊢
    by_cases hr : v (61 + 8 * b) < v (61 + 8 * a)
    · rw [if_pos hr, if_pos hr]
      exact ⟨M, rfl, HF.refl h⟩
    · rw [if_neg hr, if_neg hr]
      exact ⟨M2, rfl, g2⟩
/-! the count, the slip, the voice -/
def sSl (v : Nat → Int32) (a j : Nat) : Nat → Int32 := upd (upd (upd v 2 (v 2 - sPg v a j)) 7 (v 7 + 1)) 9 (v 9 + sPg v a j)
def sVo (v : Nat → Int32) (a j : Nat) (sp : Bool) : Nat → Int32 :=
  let u := upd (upd (upd (upd (upd (upd (upd (upd v (64 + 8 * a) (v (64 + 8 * a) - sLv v a j sp)) (65 + 8 * a) (v (65 + 8 * a) + sDy v a j sp)) 5 (v 5 + v (45 + 2 * j))) 8 (v 8 + 1)) 10 (v 10 + (if sp = true then v (45 + 2 * j) else 0))) 11 (v 11 + sLv v a j sp)) 12 (v 12 + sRs v a j sp)) 14 (v 14 + sDy v a j sp)
  if sRs v a j sp ≤ 0 then u else upd (upd u 13 (v 13 + 1)) (67 + 8 * a) 1
theorem lv_Sm (w : VV v m n t) {a j : Nat} (ha : a < m) (hj : j < n) (sp : Bool) : Sm 99 (v (64 + 8 * a) - sLv v a j sp) := by
  obtain ⟨x, h1, h2, e1⟩ := w.wd hj
  obtain ⟨y, h3, e2⟩ := w.lv ha
  unfold sLv
  cases sp with
  | true =>
    rw [if_pos rfl, Int32.sub_zero]
    exact ⟨y, h3, e2⟩
  | false =>
    rw [if_neg (by decide), e1, e2, imin_nI (by omega) (by omega), nI_sub (by omega)]
    exact ⟨_, by omega, rfl⟩
theorem sVo_VV (w : VV v m n t) {a j : Nat} (ha : a < m) (hj : j < n) (sp : Bool) : VV (sVo v a j sp) m n t := by
  have hu := (((((((w.updl (a := a) (v (64 + 8 * a) - sLv v a j sp) (lv_Sm w ha hj sp)).updf (i := 65 + 8 * a) (v (65 + 8 * a) + sDy v a j sp) (by unfold frI; omega)).updf (i := 5) (v 5 + v (45 + 2 * j)) (by unfold frI; omega)).updf (i := 8) (v 8 + 1) (by unfold frI; omega)).updf (i := 10) (v 10 + (if sp = true then v (45 + 2 * j) else 0)) (by unfold frI; omega)).updf (i := 11) (v 11 + sLv v a j sp) (by unfold frI; omega)).updf (i := 12) (v 12 + sRs v a j sp) (by unfold frI; omega)).updf (i := 14) (v 14 + sDy v a j sp) (by unfold frI; omega)
  unfold sVo
  dsimp only
  split
  · exact hu
  · exact (hu.updf _ (by unfold frI; omega)).updf _ (by unfold frI; omega)
theorem sSl_VV (w : VV v m n t) (a j : Nat) : VV (sSl v a j) m n t := ((w.updf _ (by unfold frI; omega)).updf _ (by unfold frI; omega)).updf _ (by unfold frI; omega)
theorem X1_writeSlip (h : HR M o v m n) (w : VV v m n t) {a j : Nat} (ha : a < m) (hj : j < n) : ∃ M1, f_X1_writeSlip o (nI a) (nI j) M = some (sPg v a j, M1) ∧ HF M M1 o (sSl v a j) m n := by
  have h12 := w.m12
  unfold f_X1_writeSlip sSl
  rw [ev_bnd (X1_pagesToTell h w ha hj), letM_eq, h.pap]
  have g1 := (HF.refl h).puts (c := 2) (by decide) (v 2 - sPg v a j) (C := 14) rfl
  generalize mput M o 14 (v 2 - sPg v a j) = M1 at g1 ⊢
  rw [letM_eq, g1.1.acc (k := 1) (by decide), upd_ne (show 6 + 1 ≠ 2 by decide)]
  have g2 := g1.puta (c := 1) (by decide) (v (6 + 1) + 1) (R := o + 12) (I := 7) rfl rfl
  generalize mput M1 (o + 12) 1 (v (6 + 1) + 1) = M2 at g2 ⊢
  rw [letM_eq, g2.1.acc (k := 3) (by decide), upd_ne (show 6 + 3 ≠ 7 by decide), upd_ne (show 6 + 3 ≠ 2 by decide)]
  have g3 := g2.puta (c := 3) (by decide) (v (6 + 3) + sPg v a j) (R := o + 12) (I := 9) rfl rfl
  generalize mput M2 (o + 12) 3 (v (6 + 3) + sPg v a j) = M3 at g3 ⊢
  exact ⟨M3, rfl, g3⟩
theorem X1_speak (h : HR M o v m n) (w : VV v m n t) {a j : Nat} (ha : a < m) (hj : j < n) (sp : Bool) : ∃ M1, f_X1_speak o (nI a) (nI j) (b2 sp) M = some (sDy v a j sp, M1) ∧ HF M M1 o (sVo v a j sp) m n := by
  have h12 := w.m12
  have h8 := w.n8
  have i1 : inB (nI a) 12 = true := inB_nI (by omega) (by decide)
  have i2 : inB (nI j) 8 = true := inB_nI (by omega) (by decide)
  have xa : ix (nI a) = a := ix_nI (by omega)
  have xj : ix (nI j) = j := ix_nI (by omega)
  have eD : f_X1_fastFor (M (o + 2) (ix (nI a))) (sRs v a j sp) M = some (sDy v a j sp) := by
    rw [xa, h.rk ha, X1_fastFor]
    rfl
  unfold f_X1_speak
  rw [ev_bnd (X1_leaveToTell h w ha hj sp), ev_bnd (X1_restToTell h w ha hj sp), ev_chk i1, ev_bnd eD, ev_chk i1, ev_chk i1, letM_eq, xa, h.lv ha]
  have g1 := (HF.refl h).putm (a := a) h8 (c := 4) (by decide) (by decide) (v (64 + 8 * a) - sLv v a j sp) (R := o + 5) (I := 64 + 8 * a) rfl (by omega)
  generalize mput M (o + 5) a (v (64 + 8 * a) - sLv v a j sp) = M1 at g1 ⊢
  rw [ev_chk i1, ev_chk i1, letM_eq, g1.1.fs ha, upd_ne (show 65 + 8 * a ≠ 64 + 8 * a by omega)]
  have g2 := g1.putm (a := a) h8 (c := 5) (by decide) (by decide) (v (65 + 8 * a) + sDy v a j sp) (R := o + 6) (I := 65 + 8 * a) rfl (by omega)
  generalize mput M1 (o + 6) a (v (65 + 8 * a) + sDy v a j sp) = M2 at g2 ⊢
  rw [ev_chk i2, letM_eq, xj, g2.1.voi, g2.1.w hj, upd_ne (show 5 ≠ 65 + 8 * a by omega), upd_ne (show 5 ≠ 64 + 8 * a by omega), upd_ne (show 45 + 2 * j ≠ 65 + 8 * a by omega), upd_ne (show 45 + 2 * j ≠ 64 + 8 * a by omega)]
  have g3 := g2.puts (c := 5) (by decide) (v 5 + v (45 + 2 * j)) (C := 17) rfl
  generalize mput M2 o 17 (v 5 + v (45 + 2 * j)) = M3 at g3 ⊢
  rw [letM_eq, g3.1.acc (k := 2) (by decide), upd_ne (show 6 + 2 ≠ 5 by decide), upd_ne (show 6 + 2 ≠ 65 + 8 * a by omega), upd_ne (show 6 + 2 ≠ 64 + 8 * a by omega)]
  have g4 := g3.puta (c := 2) (by decide) (v (6 + 2) + 1) (R := o + 12) (I := 8) rfl rfl
  generalize mput M3 (o + 12) 2 (v (6 + 2) + 1) = M4 at g4 ⊢
  have e4 : M4 (o + 12) 4 = v 10 := by rw [g4.1.acc (k := 4) (by decide), upd_ne (show 6 + 4 ≠ 8 by decide), upd_ne (show 6 + 4 ≠ 5 by decide), upd_ne (show 6 + 4 ≠ 65 + 8 * a by omega), upd_ne (show 6 + 4 ≠ 64 + 8 * a by omega)]
  have ew : M4 (o + 10) j = v (45 + 2 * j) := by rw [g4.1.w hj, upd_ne (show 45 + 2 * j ≠ 8 by omega), upd_ne (show 45 + 2 * j ≠ 5 by omega), upd_ne (show 45 + 2 * j ≠ 65 + 8 * a by omega), upd_ne (show 45 + 2 * j ≠ 64 + 8 * a by omega)]
  rw [ev_chk i2, e4, ew]
  have e99 : ∃ M1, f_X1_speak_99 o (nI a) (sLv v a j sp) (sRs v a j sp) (sDy v a j sp) 4 (v 10) (if sp = true then v (45 + 2 * j) else 0) M4 = some (sDy v a j sp, M1) ∧ HF M M1 o (sVo v a j sp) m n := by
    unfold f_X1_speak_99
    rw [ev_chk (by decide), letM_eq, show ix 4 = 4 from by decide]
    have g5 := g4.puta (c := 4) (by decide) (v 10 + (if sp = true then v (45 + 2 * j) else 0)) (R := o + 12) (I := 10) rfl rfl
    generalize mput M4 (o + 12) 4 (v 10 + (if sp = true then v (45 + 2 * j) else 0)) = M5 at g5 ⊢
    rw [letM_eq, show M5 (o + 12) 5 = v 11 by rw [g5.1.acc (k := 5) (by decide), upd_ne (show 6 + 5 ≠ 10 by decide), upd_ne (show 6 + 5 ≠ 8 by decide), upd_ne (show 6 + 5 ≠ 5 by decide), upd_ne (show 6 + 5 ≠ 65 + 8 * a by omega), upd_ne (show 6 + 5 ≠ 64 + 8 * a by omega)]]
    have g6 := g5.puta (c := 5) (by decide) (v 11 + sLv v a j sp) (R := o + 12) (I := 11) rfl rfl
    generalize mput M5 (o + 12) 5 (v 11 + sLv v a j sp) = M6 at g6 ⊢
    rw [letM_eq, show M6 (o + 12) 6 = v 12 by rw [g6.1.acc (k := 6) (by decide), upd_ne (show 6 + 6 ≠ 11 by decide), upd_ne (show 6 + 6 ≠ 10 by decide), upd_ne (show 6 + 6 ≠ 8 by decide), upd_ne (show 6 + 6 ≠ 5 by decide), upd_ne (show 6 + 6 ≠ 65 + 8 * a by omega), upd_ne (show 6 + 6 ≠ 64 + 8 * a by omega)]]
    have g7 := g6.puta (c := 6) (by decide) (v 12 + sRs v a j sp) (R := o + 12) (I := 12) rfl rfl
    generalize mput M6 (o + 12) 6 (v 12 + sRs v a j sp) = M7 at g7 ⊢
    rw [letM_eq, show M7 (o + 12) 8 = v 14 by rw [g7.1.acc (k := 8) (by decide), upd_ne (show 6 + 8 ≠ 12 by decide), upd_ne (show 6 + 8 ≠ 11 by decide), upd_ne (show 6 + 8 ≠ 10 by decide), upd_ne (show 6 + 8 ≠ 8 by decide), upd_ne (show 6 + 8 ≠ 5 by decide), upd_ne (show 6 + 8 ≠ 65 + 8 * a by omega), upd_ne (show 6 + 8 ≠ 64 + 8 * a by omega)]]
    have g8 := g7.puta (c := 8) (by decide) (v 14 + sDy v a j sp) (R := o + 12) (I := 14) rfl rfl
    generalize mput M7 (o + 12) 8 (v 14 + sDy v a j sp) = M8 at g8 ⊢
    unfold sVo
    by_cases hr : sRs v a j sp ≤ 0
    · rw [if_pos hr]
      refine ⟨M8, rfl, ?_⟩
      dsimp only
      rw [if_pos hr]
      exact g8
    · rw [if_neg hr, letM_eq, show M8 (o + 12) 7 = v 13 by rw [g8.1.acc (k := 7) (by decide), upd_ne (show 6 + 7 ≠ 14 by decide), upd_ne (show 6 + 7 ≠ 12 by decide), upd_ne (show 6 + 7 ≠ 11 by decide), upd_ne (show 6 + 7 ≠ 10 by decide), upd_ne (show 6 + 7 ≠ 8 by decide), upd_ne (show 6 + 7 ≠ 5 by decide), upd_ne (show 6 + 7 ≠ 65 + 8 * a by omega), upd_ne (show 6 + 7 ≠ 64 + 8 * a by omega)]]
      have g9 := g8.puta (c := 7) (by decide) (v 13 + 1) (R := o + 12) (I := 13) rfl rfl
      generalize mput M8 (o + 12) 7 (v 13 + 1) = M9 at g9 ⊢
      rw [ev_chk i1, letM_eq, xa]
      have g10 := g9.putm (a := a) h8 (c := 7) (by decide) (by decide) 1 (R := o + 8) (I := 67 + 8 * a) rfl (by omega)
      generalize mput M9 (o + 8) a 1 = M10 at g10 ⊢
      refine ⟨M10, rfl, ?_⟩
      dsimp only
      rw [if_neg hr]
      exact g10
  cases sp with
  | false =>
    rw [if_pos b2_f]
    exact e99
  | true =>
    rw [if_neg (by decide)]
    exact e99
/-! all of it -/
def sT1 (v : Nat → Int32) (t a j way : Nat) : Nat → Int32 := if way = 0 then upd v 6 (v 6 + 1) else if way = 1 then sSl v a j else sVo v a j (nowSp v t)
def sTe (v : Nat → Int32) (t a b j way : Nat) : Nat → Int32 := sMe (if way = 0 then sT1 v t a j way else sLe (sT1 v t a j way) a b j) a b j
def sTa (v : Nat → Int32) (t a b j way : Nat) : Int32 := if way = 0 then pcI (v (62 + 8 * a) &&& v (62 + 8 * b)) else if way = 1 then sPg v a j else sDy v a j (nowSp v t)
theorem sT1_VV (w : VV v m n t) {a j way : Nat} (ha : a < m) (hj : j < n) : VV (sT1 v t a j way) m n t := by
  unfold sT1
  split
  · exact w.updf _ (by unfold frI; omega)
  · split
    · exact sSl_VV w a j
    · exact sVo_VV w ha hj _
theorem sTe_VV (w : VV v m n t) {a b j way : Nat} (ha : a < m) (hb : b < m) (hj : j < n) : VV (sTe v t a b j way) m n t := by
  unfold sTe
  refine sMe_VV ?_ ha hj
  split
  · exact sT1_VV w ha hj
  · exact sLe_VV (sT1_VV w ha hj) hb hj
theorem X1_tellNeed (h : HR M o v m n) (w : VV v m n t) {a b j way : Nat} (ha : a < m) (hb : b < m) (hj : j < n) (hw : way < 3) : ∃ M1, f_X1_tellNeed o (nI a) (nI b) (nI j) (nI way) M = some (sTa v t a b j way, M1) ∧ HF M M1 o (sTe v t a b j way) m n := by
  have h12 := w.m12
  have h8 := w.n8
  have i1 : inB (nI a) 12 = true := inB_nI (by omega) (by decide)
  have i2 : inB (nI b) 12 = true := inB_nI (by omega) (by decide)
  have fin : ∀ (N : Mem) (u : Nat → Int32) (x : Int32), HF M N o u m n → VV u m n t → ∃ M1, f_X1_tellNeed_77 o (nI a) (nI b) (nI j) x N = some (x, M1) ∧ HF M M1 o (sMe u a b j) m n := fun N u x g wu => by
    obtain ⟨M1, e1, g1⟩ := X1_meetWant g.1 wu ha hb hj
    unfold f_X1_tellNeed_77
    rw [ev_bnd e1]
    exact ⟨M1, rfl, g.trans g1⟩
  have lrn : ∀ (N : Mem) (u : Nat → Int32) (x : Int32), HF M N o u m n → VV u m n t → ∃ M1, f_X1_tellNeed_68 o (nI a) (nI b) (nI j) x N = some (x, M1) ∧ HF M M1 o (sMe (sLe u a b j) a b j) m n := fun N u x g wu => by
    obtain ⟨M1, e1, g1⟩ := X1_learnSign g.1 wu ha hb hj
    unfold f_X1_tellNeed_68
    rw [ev_bnd e1]
    exact fin M1 _ x (g.trans g1) (sLe_VV wu hb hj)
  have wt := sT1_VV (way := way) w ha hj
  unfold f_X1_tellNeed sTe sTa
  rcases (show way = 0 ∨ way = 1 ∨ way = 2 by omega) with rfl | rfl | rfl
  · rw [if_pos (show nI 0 = 0 from rfl), letM_eq, h.acc (k := 0) (by decide)]
    have g1 := (HF.refl h).puta (c := 0) (by decide) (v (6 + 0) + 1) (R := o + 12) (I := 6) rfl rfl
    generalize mput M (o + 12) 0 (v (6 + 0) + 1) = M1 at g1 ⊢
    rw [ev_chk i1, ev_chk i2, ix_nI (by omega), ix_nI (by omega), g1.1.kn ha, g1.1.kn hb, upd_ne (show 62 + 8 * a ≠ 6 by omega), upd_ne (show 62 + 8 * b ≠ 6 by omega), ev_bnd (bc_By (By_and (w.kn ha) (w.kn hb)) _)]
    exact fin M1 _ _ g1 (w.updf _ (by unfold frI; omega))
  · obtain ⟨M1, e1, g1⟩ := X1_writeSlip h w ha hj
    rw [if_neg (show ¬ nI 1 = 0 by decide), if_pos (show nI 1 = 1 from rfl), ev_bnd2 e1]
    exact lrn M1 _ _ g1 (sSl_VV w a j)
  · obtain ⟨M1, e1, g1⟩ := X1_speak h w ha hj (nowSp v t)
    rw [if_neg (show ¬ nI 2 = 0 by decide), if_neg (show ¬ nI 2 = 1 by decide), ev_bnd (X1_now h w), ev_bnd2 e1]
    exact lrn M1 _ _ g1 (sVo_VV w ha hj _)
end DT
