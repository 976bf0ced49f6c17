/-! WHAT TELLING TAKES, REASONS, REFUSALS -/
theorem w00 : (nI 0 = 0) = True := eq_true rfl
theorem w01 : (nI 0 = 1) = False := eq_false (by decide)
theorem w02 : (nI 0 = 2) = False := eq_false (by decide)
theorem w10 : (nI 1 = 0) = False := eq_false (by decide)
theorem w11 : (nI 1 = 1) = True := eq_true rfl
theorem w12 : (nI 1 = 2) = False := eq_false (by decide)
theorem w20 : (nI 2 = 0) = False := eq_false (by decide)
theorem w21 : (nI 2 = 1) = False := eq_false (by decide)
theorem w22 : (nI 2 = 2) = True := eq_true rfl
theorem z10 : ((1 : Nat) = 0) = False := eq_false (by decide)
theorem z20 : ((2 : Nat) = 0) = False := eq_false (by decide)
theorem z21 : ((2 : Nat) = 1) = False := eq_false (by decide)
theorem z01 : ((0 : Nat) = 1) = False := eq_false (by decide)
theorem z02 : ((0 : Nat) = 2) = False := eq_false (by decide)
theorem z12 : ((1 : Nat) = 2) = False := eq_false (by decide)
theorem e_f : (b2 false = 0) = True := eq_true rfl
theorem e_t : (b2 true = 0) = False := eq_false (by decide)
section QT
variable {M : Mem} {o m n t : Nat} {v : Nat → Int32}
theorem HR.w (h : HR M o v m n) {j : Nat} (hj : j < n) : M (o + 10) j = v (45 + 2 * j) := (h.2.2.2.1 j hj).2
theorem HR.rk (h : HR M o v m n) {k : Nat} (hk : k < m) : M (o + 2) k = v (61 + 8 * k) := (h.2.2.2.2 k hk).2.1
theorem HR.kn (h : HR M o v m n) {k : Nat} (hk : k < m) : M (o + 3) k = v (62 + 8 * k) := (h.2.2.2.2 k hk).2.2.1
theorem HR.wn (h : HR M o v m n) {k : Nat} (hk : k < m) : M (o + 4) k = v (63 + 8 * k) := (h.2.2.2.2 k hk).2.2.2.1
theorem HR.lv (h : HR M o v m n) {k : Nat} (hk : k < m) : M (o + 5) k = v (64 + 8 * k) := (h.2.2.2.2 k hk).2.2.2.2.1
theorem HR.fs (h : HR M o v m n) {k : Nat} (hk : k < m) : M (o + 6) k = v (65 + 8 * k) := (h.2.2.2.2 k hk).2.2.2.2.2.1
theorem HR.gv (h : HR M o v m n) {k : Nat} (hk : k < m) : M (o + 7) k = v (66 + 8 * k) := (h.2.2.2.2 k hk).2.2.2.2.2.2.1
theorem HR.bk (h : HR M o v m n) {k : Nat} (hk : k < m) : M (o + 8) k = v (67 + 8 * k) := (h.2.2.2.2 k hk).2.2.2.2.2.2.2
theorem HR.pap (h : HR M o v m n) : M o 14 = v 2 := h.1.2.2.1
theorem HR.gra (h : HR M o v m n) : M o 15 = v 3 := h.1.2.2.2.1
theorem HR.tim (h : HR M o v m n) : M o 16 = v 4 := h.1.2.2.2.2.1
theorem HR.voi (h : HR M o v m n) : M o 17 = v 5 := h.1.2.2.2.2.2
theorem HR.acc (h : HR M o v m n) {k : Nat} (hk : k < 14) : M (o + 12) k = v (6 + k) := h.2.1 k hk
theorem HR.bel (h : HR M o v m n) {k : Nat} (hk : k < 24) : M (o + 11) k = v (20 + k) := h.2.2.1 k hk
theorem X6_words (hv : M 10 = v) {j : Nat} (hj : j < 8) : f_X6_words (nI j) M = some (v (45 + 2 * j)) := by
  unfold f_X6_words
  rw [show ((44 + (2 * nI j)) + 1 : Int32) = nI (45 + 2 * j) by
    rw [show (44 : Int32) = nI 44 from rfl, show (2 : Int32) = nI 2 from rfl, show (1 : Int32) = nI 1 from rfl, nI_mul, nI_add, nI_add]
    congr 1
    omega, ev_chk (inB_nI (by omega) (by decide)), ix_nI (by omega), hv]
theorem ev_moc {a : Nat} {c : Nat} {M : Mem} (z : Int32) (hz : z = nI c) {d : Nat} (hd : 60 + 8 * a + c = d) : f_X6_mo (nI a) z M = some (nI d) := by rw [hz, ev_mo, hd]
def sPg (v : Nat → Int32) (a j : Nat) : Int32 := if v (61 + 8 * a) = 0 then 2 * ((v (45 + 2 * j) + 9) / 10) else (v (45 + 2 * j) + 9) / 10
def sLv (v : Nat → Int32) (a j : Nat) (sp : Bool) : Int32 := if sp = true then 0 else imin (v (64 + 8 * a)) (v (45 + 2 * j))
def sRs (v : Nat → Int32) (a j : Nat) (sp : Bool) : Int32 := if sp = true then 0 else v (45 + 2 * j) - imin (v (64 + 8 * a)) (v (45 + 2 * j))
def sDy (v : Nat → Int32) (a j : Nat) (sp : Bool) : Int32 := if v (61 + 8 * a) = 2 then 2 * ((sRs v a j sp + 4) / 5) else (sRs v a j sp + 4) / 5
theorem X1_pagesToTell (h : HR M o v m n) (w : VV v m n t) {a j : Nat} (ha : a < m) (hj : j < n) : f_X1_pagesToTell o (nI a) (nI j) M = some (sPg v a j) := by
  have h12 := w.m12
  have h8 := w.n8
  unfold f_X1_pagesToTell f_X1_pagesFor sPg
  rw [ev_chk (inB_nI (by omega) (by decide)), ev_chk (inB_nI (by omega) (by decide)), ix_nI (by omega), ix_nI (by omega), h.rk ha, h.w hj]
  by_cases hz : v (61 + 8 * a) = 0
  · rw [if_pos hz, if_pos hz]; rfl
  · rw [if_neg hz, if_neg hz]; rfl
theorem X6_pagesOf (hv : M 10 = v) (w : VV v m n t) {a j : Nat} (ha : a < m) (hj : j < n) : f_X6_pagesOf (nI a) (nI j) M = some (sPg v a j) := by
  have h12 := w.m12
  have h8 := w.n8
  unfold f_X6_pagesOf f_X6_pagesOf_29 sPg
  rw [ev_bnd (X6_words hv (by omega)), ev_bnd (ev_moc 1 (c := 1) rfl rfl), ev_chk (inB_nI (by omega) (by decide)), ix_nI (by omega), hv, show 60 + 8 * a + 1 = 61 + 8 * a by omega]
  by_cases hz : v (61 + 8 * a) = 0
  · rw [if_pos hz, if_pos hz, Int32.mul_comm]
  · rw [if_neg hz, if_neg hz, Int32.mul_one]
theorem X1_leaveToTell (h : HR M o v m n) (w : VV v m n t) {a j : Nat} (ha : a < m) (hj : j < n) (sp : Bool) : f_X1_leaveToTell o (nI a) (nI j) (b2 sp) M = some (sLv v a j sp) := by
  have h12 := w.m12
  have h8 := w.n8
  unfold f_X1_leaveToTell sLv
  rw [ev_chk (inB_nI (by omega) (by decide)), ev_chk (inB_nI (by omega) (by decide)), ix_nI (by omega), ix_nI (by omega), h.lv ha, h.w hj]
  cases sp with
  | false => rw [if_pos b2_f, if_neg (by decide)]
  | true => rw [if_neg (by decide), if_pos rfl]
theorem X6_byLeave (hv : M 10 = v) (w : VV v m n t) {a j : Nat} (ha : a < m) (hj : j < n) : f_X6_byLeave (nI a) (nI j) M = some (sLv v a j (nowSp v t)) := by
  have h12 := w.m12
  have h8 := w.n8
  unfold f_X6_byLeave sLv
  rw [ev_bnd (X6_isSpeechNow hv w)]
  cases nowSp v t with
  | false => rw [if_pos b2_f, if_neg (by decide), ev_bnd (ev_moc 4 (c := 4) rfl rfl), ev_chk (inB_nI (by omega) (by decide)), ev_bnd (X6_words hv (by omega)), ix_nI (by omega), hv, show 60 + 8 * a + 4 = 64 + 8 * a by omega]
  | true => rw [if_neg (by decide), if_pos rfl]
theorem rest_eq (w : VV v m n t) {a j : Nat} (ha : a < m) (hj : j < n) : imax (v (45 + 2 * j) - v (64 + 8 * a)) 0 = v (45 + 2 * j) - imin (v (64 + 8 * a)) (v (45 + 2 * j)) := by
  obtain ⟨x, h1, h2, e1⟩ := w.wd hj
  obtain ⟨y, h3, e2⟩ := w.lv ha
  rw [e1, e2, imin_nI (by omega) (by omega)]
  by_cases hl : y ≤ x
  · rw [Nat.min_eq_left hl, nI_sub hl]
    unfold imax
    rw [if_neg (nI_pos (by omega))]
  · rw [Nat.min_eq_right (by omega)]
    unfold imax
    have hlt : nI x - nI y < 0 := by
      rw [i32_lt, Int32.toInt_sub, nI_tI (by omega), nI_tI (by omega)]
      have e : (0 : Int32).toInt = 0 := rfl
      rw [e, Int.bmod_eq_of_le (by omega) (by omega)]
      omega
    rw [if_pos hlt, nI_sub (Nat.le_refl x), Nat.sub_self]
    rfl
theorem X1_restToTell (h : HR M o v m n) (w : VV v m n t) {a j : Nat} (ha : a < m) (hj : j < n) (sp : Bool) : f_X1_restToTell o (nI a) (nI j) (b2 sp) M = some (sRs v a j sp) := by
  have h12 := w.m12
  have h8 := w.n8
  unfold f_X1_restToTell sRs
  rw [ev_chk (inB_nI (by omega) (by decide)), ev_chk (inB_nI (by omega) (by decide)), ix_nI (by omega), ix_nI (by omega), h.lv ha, h.w hj, rest_eq w ha hj]
  cases sp with
  | false => rw [if_pos b2_f, if_neg (by decide)]
  | true => rw [if_neg (by decide), if_pos rfl]
theorem X6_restOf (hv : M 10 = v) (w : VV v m n t) {a j : Nat} (ha : a < m) (hj : j < n) : f_X6_restOf (nI a) (nI j) M = some (sRs v a j (nowSp v t)) := by
  have h12 := w.m12
  have h8 := w.n8
  unfold f_X6_restOf sRs
  rw [ev_bnd (X6_isSpeechNow hv w), ev_bnd (X6_words hv (by omega)), ev_bnd (X6_byLeave hv w ha hj)]
  unfold sLv
  cases nowSp v t with
  | false => rw [if_pos b2_f, if_neg (by decide), if_neg (by decide)]
  | true => rw [if_neg (by decide), if_pos rfl]
theorem X1_fastFor (r x : Int32) : f_X1_fastFor r x M = some (if r = 2 then 2 * ((x + 4) / 5) else (x + 4) / 5) := by
  unfold f_X1_fastFor
  by_cases hz : r = 2
  · rw [if_pos hz, if_pos hz]
  · rw [if_neg hz, if_neg hz]
theorem X1_fastToTell (h : HR M o v m n) (w : VV v m n t) {a j : Nat} (ha : a < m) (hj : j < n) (sp : Bool) : f_X1_fastToTell o (nI a) (nI j) (b2 sp) M = some (sDy v a j sp) := by
  have h12 := w.m12
  unfold f_X1_fastToTell sDy
  rw [ev_chk (inB_nI (by omega) (by decide)), ev_bnd (X1_restToTell h w ha hj sp), ix_nI (by omega), h.rk ha, X1_fastFor]
  rfl
theorem X6_daysOf (hv : M 10 = v) (w : VV v m n t) {a j : Nat} (ha : a < m) (hj : j < n) : f_X6_daysOf (nI a) (nI j) M = some (sDy v a j (nowSp v t)) := by
  have h12 := w.m12
  unfold f_X6_daysOf f_X6_daysOf_29 sDy
  rw [ev_bnd (X6_restOf hv w ha hj), ev_bnd (ev_moc 1 (c := 1) rfl rfl), ev_chk (inB_nI (by omega) (by decide)), ix_nI (by omega), hv, show 60 + 8 * a + 1 = 61 + 8 * a by omega]
  by_cases hz : v (61 + 8 * a) = 2
  · rw [if_pos hz, if_pos hz, Int32.mul_comm]
  · rw [if_neg hz, if_neg hz, Int32.mul_one]
/-! reasons: way 0 sign, 1 slip, 2 voice -/
def sRe (v : Nat → Int32) (t a b j way : Nat) : Int32 :=
  if way = 0 then (if mm (v (62 + 8 * a)) j = true then (if mm (v (62 + 8 * b)) j = true then 0 else 3) else 2)
  else if way = 1 then (if sPg v a j ≤ v 2 then 0 else 4)
  else (if v (65 + 8 * a) + sDy v a j (nowSp v t) ≤ 99 then 0 else 5)
theorem X1_tellRefusal (h : HR M o v m n) (w : VV v m n t) {a b j way : Nat} (ha : a < m) (hb : b < m) (hj : j < n) (hw : way < 3) : f_X1_tellRefusal o (nI a) (nI b) (nI j) (nI way) M = some (sRe v t a b j way) := by
  have h12 := w.m12
  have h8 := w.n8
  have i1 : inB (nI a) 12 = true := inB_nI (by omega) (by decide)
  have i2 : inB (nI b) 12 = true := inB_nI (by omega) (by decide)
  unfold f_X1_tellRefusal f_X1_tellRefusal_20 f_X1_tellRefusal_40 f_X1_tellRefusal_61 sRe
  rw [ev_chk i1, ev_chk i2, ix_nI (by omega), ix_nI (by omega), h.kn ha, h.kn hb, ev_bnd (X1_isMember (w.kn ha) (by omega) M), ev_bnd (X1_isMember (w.kn hb) (by omega) M), ev_bnd (X1_pagesToTell h w ha hj), ev_chk i1, ev_bnd (X1_now h w), ev_bnd (X1_fastToTell h w ha hj _), h.fs ha, h.pap]
  rcases (show way = 0 ∨ way = 1 ∨ way = 2 by omega) with rfl | rfl | rfl
  · cases mm (v (62 + 8 * a)) j <;> cases mm (v (62 + 8 * b)) j <;> simp only [w00, w01, w02, w10, w11, w12, w20, w21, w22, z10, z20, z21, z01, z02, z12, e_f, e_t, if_true, if_false, eq_self, Bool.false_eq_true]
  · by_cases hp : sPg v a j ≤ v 2 <;> simp only [w00, w01, w02, w10, w11, w12, w20, w21, w22, z10, z20, z21, z01, z02, z12, e_f, e_t, if_true, if_false, eq_self, Bool.false_eq_true, hp]
  · by_cases hp : v (65 + 8 * a) + sDy v a j (nowSp v t) ≤ 99 <;> simp only [w00, w01, w02, w10, w11, w12, w20, w21, w22, z10, z20, z21, z01, z02, z12, e_f, e_t, if_true, if_false, eq_self, Bool.false_eq_true, hp]
theorem X6_reason (hv : M 10 = v) (w : VV v m n t) {a b j way : Nat} (ha : a < m) (hb : b < m) (hj : j < n) (hw : way < 3) : f_X6_reason (nI a) (nI b) (nI j) (nI way) M = some (sRe v t a b j way) := by
  have h12 := w.m12
  have h8 := w.n8
  have e1 : f_X6_isSet (nI a) 2 (nI j) M = some (b2 (mm (v (62 + 8 * a)) j)) := by
    have := X6_isSet hv (c := 2) (show a < 12 by omega) (by decide) (by rw [show 60 + 8 * a + 2 = 62 + 8 * a by omega]; exact w.kn ha) (show j < 8 by omega)
    rw [show 60 + 8 * a + 2 = 62 + 8 * a by omega] at this
    exact this
  have e2 : f_X6_isSet (nI b) 2 (nI j) M = some (b2 (mm (v (62 + 8 * b)) j)) := by
    have := X6_isSet hv (c := 2) (show b < 12 by omega) (by decide) (by rw [show 60 + 8 * b + 2 = 62 + 8 * b by omega]; exact w.kn hb) (show j < 8 by omega)
    rw [show 60 + 8 * b + 2 = 62 + 8 * b by omega] at this
    exact this
  unfold f_X6_reason sRe
  rw [ev_bnd e1, ev_bnd e2, ev_bnd (X6_pagesOf hv w ha hj), ev_bnd (ev_moc 5 (c := 5) rfl rfl), ev_chk (inB_nI (by omega) (by decide)), ix_nI (by omega), ev_bnd (X6_daysOf hv w ha hj), hv, show 60 + 8 * a + 5 = 65 + 8 * a by omega]
  rcases (show way = 0 ∨ way = 1 ∨ way = 2 by omega) with rfl | rfl | rfl
  · cases mm (v (62 + 8 * a)) j <;> cases mm (v (62 + 8 * b)) j <;> simp only [w00, w01, w02, w10, w11, w12, w20, w21, w22, z10, z20, z21, z01, z02, z12, e_f, e_t, if_true, if_false, eq_self, Bool.false_eq_true]
  · by_cases hp : sPg v a j ≤ v 2 <;> simp only [w00, w01, w02, w10, w11, w12, w20, w21, w22, z10, z20, z21, z01, z02, z12, e_f, e_t, if_true, if_false, eq_self, Bool.false_eq_true, hp]
  · by_cases hp : v (65 + 8 * a) + sDy v a j (nowSp v t) ≤ 99 <;> simp only [w00, w01, w02, w10, w11, w12, w20, w21, w22, z10, z20, z21, z01, z02, z12, e_f, e_t, if_true, if_false, eq_self, Bool.false_eq_true, hp]
def sHw (v : Nat → Int32) (t a j : Nat) : Int32 := if nowSp v t = true then 20 else if v (64 + 8 * a) < v (45 + 2 * j) then (if v (64 + 8 * a) ≤ 0 then 23 else 22) else 21
def sTr (v : Nat → Int32) (t a b j way : Nat) : Int32 := if sRe v t a b j way = 0 then (if way = 2 then sHw v t a j else 0) else sRe v t a b j way
theorem X1_tellingReason (h : HR M o v m n) (w : VV v m n t) {a b j way : Nat} (ha : a < m) (hb : b < m) (hj : j < n) (hw : way < 3) : f_X1_tellingReason o (nI a) (nI b) (nI j) (nI way) M = some (sTr v t a b j way) := by
  have h12 := w.m12
  have h8 := w.n8
  have i1 : inB (nI a) 12 = true := inB_nI (by omega) (by decide)
  have i2 : inB (nI j) 8 = true := inB_nI (by omega) (by decide)
  unfold f_X1_tellingReason sTr
  rw [ev_bnd (X1_tellRefusal h w ha hb hj hw), ev_bnd (X1_now h w)]
  rw [ev_chk i1, ev_chk i2, ev_chk i1, ix_nI (by omega), ix_nI (by omega), h.lv ha, h.w hj]
  by_cases hz : sRe v t a b j way = 0
  · simp only [hz, eq_self, if_true]
    by_cases h2 : way = 2
    · subst h2
      unfold sHw
      by_cases hl : v (64 + 8 * a) < v (45 + 2 * j) <;> by_cases h0 : v (64 + 8 * a) ≤ 0 <;> cases nowSp v t <;> simp only [w00, w01, w02, w10, w11, w12, w20, w21, w22, z10, z20, z21, z01, z02, z12, e_f, e_t, if_true, if_false, eq_self, Bool.false_eq_true, hl, h0]
    · rw [if_neg (show ¬ nI way = 2 from fun q => h2 (nI_inj (by omega) (by decide) q)), if_neg h2]
  · rw [if_neg hz, if_neg hz]
theorem rest_0 (w : VV v m n t) {a j : Nat} (ha : a < m) (hj : j < n) : v (45 + 2 * j) - imin (v (64 + 8 * a)) (v (45 + 2 * j)) = 0 ↔ ¬ v (64 + 8 * a) < v (45 + 2 * j) := by
  obtain ⟨x, h1, h2, e1⟩ := w.wd hj
  obtain ⟨y, h3, e2⟩ := w.lv ha
  rw [e1, e2, imin_nI (by omega) (by omega), nI_sub (by omega), nI_ltI (by omega) (by omega), show (0 : Int32) = nI 0 from rfl, nI_eq (by omega) (by omega)]
  omega
theorem X6_howSpoken (hv : M 10 = v) (w : VV v m n t) {a j : Nat} (ha : a < m) (hj : j < n) : f_X6_howSpoken (nI a) (nI j) M = some (sHw v t a j) := by
  have h12 := w.m12
  have h8 := w.n8
  unfold f_X6_howSpoken sHw
  rw [ev_bnd (X6_isSpeechNow hv w), ev_bnd (X6_restOf hv w ha hj), ev_bnd (ev_moc 4 (c := 4) rfl rfl), ev_chk (inB_nI (by omega) (by decide)), ix_nI (by omega), hv, show 60 + 8 * a + 4 = 64 + 8 * a by omega]
  unfold sRs
  have e0 := rest_0 w ha hj
  by_cases hl : v (64 + 8 * a) < v (45 + 2 * j) <;> by_cases h0 : v (64 + 8 * a) ≤ 0 <;> cases nowSp v t <;> simp only [w00, w01, w02, w10, w11, w12, w20, w21, w22, z10, z20, z21, z01, z02, z12, e_f, e_t, if_true, if_false, eq_self, Bool.false_eq_true, hl, h0, e0, not_true_eq_false, not_false_eq_true]
/-! causes -/
def sCa (v : Nat → Int32) (t a b j way : Nat) (y : Int32) : Int32 :=
  if y = 0 then (if way = 1 then sPg v a j else 0) else if y = 2 then nI a else if y = 3 then nI b else if y = 4 then v 2 else if y = 5 then v (65 + 8 * a) else if y = 20 then toI (lbs (bvo v) (t % 24) 24) else if y = 21 then v (64 + 8 * a) else if y = 22 then v (64 + 8 * a) else v (45 + 2 * j)
def sDp (v : Nat → Int32) (t a j : Nat) (y : Int32) : Int32 :=
  if y = 4 then sPg v a j else if y = 5 then sDy v a j (nowSp v t) else if y = 21 then v (64 + 8 * a) - v (45 + 2 * j) else if y = 22 then sDy v a j (nowSp v t) else if y = 23 then sDy v a j (nowSp v t) else -1
def okY (way : Nat) (y : Int32) : Prop := (y = 0 ∧ way ≠ 2) ∨ y = 2 ∨ y = 3 ∨ y = 4 ∨ y = 5 ∨ y = 20 ∨ y = 21 ∨ y = 22 ∨ y = 23
theorem sTr_ok {a b j way : Nat} (hw : way < 3) : okY way (sTr v t a b j way) := by
  unfold sTr
  by_cases hz : sRe v t a b j way = 0
  · rw [if_pos hz]
    by_cases h2 : way = 2
    · rw [if_pos h2]
      unfold sHw okY
      split
      · simp
      · split
        · split <;> simp
        · simp
    · rw [if_neg h2]
      exact Or.inl ⟨rfl, h2⟩
  · rw [if_neg hz]
    unfold sRe at hz ⊢
    unfold okY
    split
    · rename_i h0
      rw [if_pos h0] at hz
      split
      · rename_i h1
        rw [if_pos h1] at hz
        split
        · rename_i h3
          rw [if_pos h3] at hz
          exact absurd rfl hz
        · simp
      · simp
    · rename_i h0
      rw [if_neg h0] at hz
      split
      · rename_i h1
        rw [if_pos h1] at hz
        split
        · rename_i h3
          rw [if_pos h3] at hz
          exact absurd rfl hz
        · simp
      · rename_i h1
        rw [if_neg h1] at hz
        split
        · rename_i h3
          rw [if_pos h3] at hz
          exact absurd rfl hz
        · simp
theorem X1_causeOf (h : HR M o v m n) (w : VV v m n t) {a b j way : Nat} (ha : a < m) (hb : b < m) (hj : j < n) (hw : way < 3) {y : Int32} (hy : okY way y) : f_X1_causeOf o y (nI a) (nI b) (nI j) (nI way) M = some (sCa v t a b j way y) := by
  have h12 := w.m12
  have h8 := w.n8
  have i1 : inB (nI a) 12 = true := inB_nI (by omega) (by decide)
  have i2 : inB (nI j) 8 = true := inB_nI (by omega) (by decide)
  have hn : f_X1_latestBell o (irem (M o 16) 24) M = some (toI (lbs (bvo v) (t % 24) 24)) := by
    rw [h.tim, now_idx w]
    exact X1_latestBell h (Nat.mod_lt _ (by decide))
  unfold f_X1_causeOf f_X1_causeOf_158 sCa
  rw [letV_eq, ev_bnd (X1_pagesToTell h w ha hj), ev_chk i1, ev_chk i2, ev_chk i1, ev_bnd hn, ix_nI (by omega), ix_nI (by omega), h.lv ha, h.w hj, h.fs ha, h.pap]
  rcases hy with ⟨rfl, h2⟩ | rfl | rfl | rfl | rfl | rfl | rfl | rfl | rfl
  · rcases (show way = 0 ∨ way = 1 by omega) with rfl | rfl <;> rfl
  all_goals rfl
theorem X6_cause (hv : M 10 = v) (w : VV v m n t) {a b j way : Nat} (ha : a < m) (hb : b < m) (hj : j < n) (hw : way < 3) {y : Int32} (hy : okY way y) : f_X6_cause (nI a) (nI b) (nI j) (nI way) y M = some (sCa v t a b j way y) := by
  have h12 := w.m12
  have h8 := w.n8
  have hn : f_X6_hourOfBell (irem (v 4) 24) M = some (toI (lbs (bvo v) (t % 24) 24)) := by
    rw [now_idx w]
    exact X6_hourOfBell hv (Nat.mod_lt _ (by decide))
  have e5 : f_X6_mo (nI a) 5 M = some (nI (65 + 8 * a)) := ev_moc 5 (c := 5) rfl (by omega)
  have e4 : f_X6_mo (nI a) 4 M = some (nI (64 + 8 * a)) := ev_moc 4 (c := 4) rfl (by omega)
  unfold f_X6_cause f_X6_cause_157 f_X6_cause_140 sCa
  rw [letV_eq, hv, ev_bnd (X6_pagesOf hv w ha hj), ev_bnd e5, ev_chk (inB_nI (by omega) (by decide)), ix_nI (by omega), ev_bnd e4, ev_chk (inB_nI (by omega) (by decide)), ix_nI (by omega), ev_bnd hn, ev_bnd (X6_words hv (by omega))]
  rcases hy with ⟨rfl, h2⟩ | rfl | rfl | rfl | rfl | rfl | rfl | rfl | rfl
  · rcases (show way = 0 ∨ way = 1 by omega) with rfl | rfl <;> rfl
  all_goals rfl
theorem X1_causeBehind (h : HR M o v m n) (w : VV v m n t) {a j way : Nat} (ha : a < m) (hj : j < n) {y : Int32} (hy : okY way y) : f_X1_causeBehind o y (nI a) (nI j) M = some (sDp v t a j y) := by
  have h12 := w.m12
  have h8 := w.n8
  have i1 : inB (nI a) 12 = true := inB_nI (by omega) (by decide)
  have i2 : inB (nI j) 8 = true := inB_nI (by omega) (by decide)
  unfold f_X1_causeBehind f_X1_causeBehind_59 sDp
  rw [letV_eq, ev_bnd (X1_pagesToTell h w ha hj), ev_chk i1, ev_chk i2, ev_bnd (X1_now h w), ev_bnd (X1_fastToTell h w ha hj _), ix_nI (by omega), ix_nI (by omega), h.lv ha, h.w hj]
  rcases hy with ⟨rfl, h2⟩ | rfl | rfl | rfl | rfl | rfl | rfl | rfl | rfl
  all_goals rfl
theorem X6_deep (hv : M 10 = v) (w : VV v m n t) {a j way : Nat} (ha : a < m) (hj : j < n) {y : Int32} (hy : okY way y) : f_X6_deep (nI a) (nI j) y M = some (sDp v t a j y) := by
  have h12 := w.m12
  have h8 := w.n8
  have e4 : f_X6_mo (nI a) 4 M = some (nI (64 + 8 * a)) := ev_moc 4 (c := 4) rfl (by omega)
  unfold f_X6_deep f_X6_deep_59 sDp
  rw [letV_eq, hv, ev_bnd (X6_pagesOf hv w ha hj), ev_bnd e4, ev_chk (inB_nI (by omega) (by decide)), ix_nI (by omega), ev_bnd (X6_daysOf hv w ha hj), ev_bnd (X6_words hv (by omega))]
  rcases hy with ⟨rfl, h2⟩ | rfl | rfl | rfl | rfl | rfl | rfl | rfl | rfl
  all_goals rfl
/-! other refusals -/
def sGi (v : Nat → Int32) (a b : Nat) (x : Int32) : Int32 := if v (61 + 8 * a) = 2 then (if v (65 + 8 * a) ≤ 0 then (if v (65 + 8 * b) ≤ 0 then (if v (66 + 8 * a) + x ≤ v 3 then (if v (64 + 8 * b) + x ≤ 99 then 0 else 10) else 9) else 8) else 7) else 6
theorem X1_giveRefusal (h : HR M o v m n) (w : VV v m n t) {a b : Nat} (ha : a < m) (hb : b < m) (x : Int32) : f_X1_giveRefusal o (nI a) (nI b) x M = some (sGi v a b x) := by
  have h12 := w.m12
  have i1 : inB (nI a) 12 = true := inB_nI (by omega) (by decide)
  have i2 : inB (nI b) 12 = true := inB_nI (by omega) (by decide)
  unfold f_X1_giveRefusal sGi
  rw [ev_chk i1, ev_chk i1, ev_chk i2, ev_chk i1, ev_chk i2, ix_nI (by omega), ix_nI (by omega), h.rk ha, h.fs ha, h.fs hb, h.gv ha, h.lv hb, h.gra]
  split
  · split
    · split
      · split
        · split <;> rfl
        · rfl
      · rfl
    · rfl
  · rfl
theorem X6_refusalOfGift (hv : M 10 = v) (w : VV v m n t) {a b : Nat} (ha : a < m) (hb : b < m) (x : Int32) : f_X6_refusalOfGift (nI a) (nI b) x M = some (if sGi v a b x = 0 then 0 else -10 - sGi v a b x) := by
  have h12 := w.m12
  have e1 : f_X6_mo (nI a) 1 M = some (nI (61 + 8 * a)) := ev_moc 1 (c := 1) rfl (by omega)
  have e5 : f_X6_mo (nI a) 5 M = some (nI (65 + 8 * a)) := ev_moc 5 (c := 5) rfl (by omega)
  have f5 : f_X6_mo (nI b) 5 M = some (nI (65 + 8 * b)) := ev_moc 5 (c := 5) rfl (by omega)
  have e6 : f_X6_mo (nI a) 6 M = some (nI (66 + 8 * a)) := ev_moc 6 (c := 6) rfl (by omega)
  have f4 : f_X6_mo (nI b) 4 M = some (nI (64 + 8 * b)) := ev_moc 4 (c := 4) rfl (by omega)
  unfold f_X6_refusalOfGift sGi
  rw [ev_bnd e1, ev_chk (inB_nI (by omega) (by decide)), ix_nI (by omega), ev_bnd e5, ev_chk (inB_nI (by omega) (by decide)), ix_nI (by omega), ev_bnd f5, ev_chk (inB_nI (by omega) (by decide)), ix_nI (by omega), ev_bnd e6, ev_chk (inB_nI (by omega) (by decide)), ix_nI (by omega), ev_bnd f4, ev_chk (inB_nI (by omega) (by decide)), ix_nI (by omega), hv]
  split
  · split
    · split
      · split
        · split <;> rfl
        · rfl
      · rfl
    · rfl
  · rfl
def sPa (v : Nat → Int32) (x : Int32) : Bool := decide (v 4 + x ≤ 9999)
theorem X1_passRefusal (h : HR M o v m n) (x : Int32) : f_X1_passRefusal o x M = some (if sPa v x = true then 0 else 11) := by
  unfold f_X1_passRefusal sPa
  rw [h.tim]
  by_cases hz : v 4 + x ≤ 9999
  · rw [if_pos hz, if_pos (decide_eq_true hz)]
  · rw [if_neg hz, if_neg (by simp [hz])]
theorem X6_refusalOfHours (hv : M 10 = v) (x : Int32) : f_X6_refusalOfHours x M = some (if sPa v x = true then 0 else -21) := by
  unfold f_X6_refusalOfHours sPa
  rw [hv]
  by_cases hz : v 4 + x ≤ 9999
  · rw [if_pos hz, if_pos (decide_eq_true hz)]
  · rw [if_neg hz, if_neg (by simp [hz])]
theorem X1_wantRefusal (h : HR M o v m n) (w : VV v m n t) {a j : Nat} (ha : a < m) (hj : j < n) : f_X1_wantRefusal o (nI a) (nI j) M = some (b2 (mm (v (63 + 8 * a)) j)) := by
  have h12 := w.m12
  have h8 := w.n8
  unfold f_X1_wantRefusal
  rw [ev_chk (inB_nI (by omega) (by decide)), ix_nI (by omega), h.wn ha, ev_bnd (X1_isMember (w.wn ha) (by omega) M)]
  cases mm (v (63 + 8 * a)) j <;> rfl
/-! costs -/
def sCo (v : Nat → Int32) (t a j way : Nat) : Int32 := if way = 0 then 0 else if way = 1 then 3 * sPg v a j else 10 * sDy v a j (nowSp v t) + sLv v a j (nowSp v t)
theorem X1_costOf (h : HR M o v m n) (w : VV v m n t) {a j way : Nat} (ha : a < m) (hj : j < n) (hw : way < 3) : f_X1_costOf o (nI a) (nI j) (nI way) M = some (sCo v t a j way) := by
  unfold f_X1_costOf sCo
  rw [ev_bnd (X1_pagesToTell h w ha hj), ev_bnd (X1_now h w), ev_bnd (X1_fastToTell h w ha hj _), ev_bnd (X1_leaveToTell h w ha hj _), Int32.one_mul]
  rcases (show way = 0 ∨ way = 1 ∨ way = 2 by omega) with rfl | rfl | rfl <;> rfl
theorem X6_costOf (hv : M 10 = v) (w : VV v m n t) {a j way : Nat} (ha : a < m) (hj : j < n) (hw : way < 3) : f_X6_costOf (nI a) (nI j) (nI way) M = some (sCo v t a j way) := by
  unfold f_X6_costOf sCo
  rw [ev_bnd (X6_pagesOf hv w ha hj), ev_bnd (X6_daysOf hv w ha hj), ev_bnd (X6_byLeave hv w ha hj)]
  rcases (show way = 0 ∨ way = 1 ∨ way = 2 by omega) with rfl | rfl | rfl <;> rfl
end QT
