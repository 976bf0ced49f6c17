/-! THE CALLS THAT CHANGE NOTHING -/
theorem hv_thr {M : Mem} {v : Nat → Int32} (hv : M 10 = v) (x : Int32) : (mput M 9 6 x) 10 = v := by rw [mput_row (by decide)]; exact hv
theorem hv_out {M : Mem} {v : Nat → Int32} (hv : M 10 = v) (x : Int32) : (mput M 17 0 x) 10 = v := by rw [mput_row (by decide)]; exact hv
theorem le00 : (0 : Int32) ≤ 0 := Int32.le_refl 0
theorem inR_nI {x a b : Nat} (hx : x < 2 ^ 31) (ha : a < 2 ^ 31) (hb : b < 2 ^ 31) : inR (nI x) (nI a) (nI b) = (decide (a ≤ x) && decide (x ≤ b)) := by
  unfold inR
  congr 1
  · exact decide_eq_decide.mpr (nI_leI ha hx)
  · exact decide_eq_decide.mpr (nI_leI hx hb)
theorem inR_ne {p : Int32} {b : Nat} (hb : b < 2 ^ 31) (h : inR p 0 (nI b) = false) {x : Nat} (hx : x ≤ b) : ¬ p = nI x := fun e => by
  subst e
  rw [show (0 : Int32) = nI 0 from rfl, inR_nI (by omega) (by decide) hb] at h
  simp [hx] at h
section CQ
variable {M : Mem} {m n t : Nat} {v : Nat → Int32}
theorem Inv.ow (hI : Inv M) : ∃ m n t, 1 ≤ m ∧ HR M 18 (M 10) m n ∧ VV (M 10) m n t := hI.1
theorem kn_By (h : HR M 18 v m n) (w : VV v m n t) : ∀ k, k < m → By (M 21 k) := fun k hk => by
  have := w.kn hk
  rw [← h.kn hk] at this
  exact this
theorem wn_By (h : HR M 18 v m n) (w : VV v m n t) : ∀ k, k < m → By (M 22 k) := fun k hk => by
  have := w.wn hk
  rw [← h.wn hk] at this
  exact this
theorem X6_sum4 (hv : M 10 = v) (w : VV v m n t) : f_X6_sum 4 M = some (sumTo (fun k => v (64 + 8 * k)) m) := by
  rw [show (4 : Int32) = nI 4 from rfl, X6_sum hv w 4 (by decide), sumTo_congr (h := fun k => v (64 + 8 * k)) (fun k hk => by rw [show 60 + 8 * k + 4 = 64 + 8 * k by omega])]
theorem X6_sum5 (hv : M 10 = v) (w : VV v m n t) : f_X6_sum 5 M = some (sumTo (fun k => v (65 + 8 * k)) m) := by
  rw [show (5 : Int32) = nI 5 from rfl, X6_sum hv w 5 (by decide), sumTo_congr (h := fun k => v (65 + 8 * k)) (fun k hk => by rw [show 60 + 8 * k + 5 = 65 + 8 * k by omega])]
theorem X6_sumB2 (hv : M 10 = v) (w : VV v m n t) : f_X6_sumOfBits 2 M = some (sumTo (fun k => pcI (v (62 + 8 * k))) m) := by
  rw [show (2 : Int32) = nI 2 from rfl, X6_sumOfBits hv w 2 (by decide) (fun k hk => by rw [show 60 + 8 * k + 2 = 62 + 8 * k by omega]; exact w.kn hk), sumTo_congr (h := fun k => pcI (v (62 + 8 * k))) (fun k hk => by rw [show 60 + 8 * k + 2 = 62 + 8 * k by omega])]
theorem X6_sumB3 (hv : M 10 = v) (w : VV v m n t) : f_X6_sumOfBits 3 M = some (sumTo (fun k => pcI (v (63 + 8 * k))) m) := by
  rw [show (3 : Int32) = nI 3 from rfl, X6_sumOfBits hv w 3 (by decide) (fun k hk => by rw [show 60 + 8 * k + 3 = 63 + 8 * k by omega]; exact w.wn hk), sumTo_congr (h := fun k => pcI (v (63 + 8 * k))) (fun k hk => by rw [show 60 + 8 * k + 3 = 63 + 8 * k by omega])]
/-! the number of a house -/
def sCt (M : Mem) (v : Nat → Int32) (m t x : Nat) : Int32 :=
  if x = 0 then v 0 else if x = 1 then v 1 else if x = 2 then v 2 else if x = 3 then v 3 else if x = 4 then v 4 else if x = 5 then b2 (nowSp v t) else if x = 6 then sumTo (fun k => b2 (!(decide (v (20 + k) = 0)))) 24 else if x = 7 then sHr (bvo v) else if x = 8 then sumTo (fun k => pcI (v (63 + 8 * k))) m else if x = 9 then sumTo (fun k => v (64 + 8 * k)) m else if x = 10 then sumTo (fun k => v (65 + 8 * k)) m else if x = 11 then sumTo (fun k => pcI (v (62 + 8 * k))) m else M 9 5
theorem X5_count (h : HR M 18 v m n) (w : VV v m n t) (hh : M 3 2 = M 9 5) {x : Nat} (hx : x ≤ 12) : f_X5_count (nI x) M = some (0, sCt M v m t x, M) := by
  rcases (show x = 0 ∨ x = 1 ∨ x = 2 ∨ x = 3 ∨ x = 4 ∨ x = 5 ∨ x = 6 ∨ x = 7 ∨ x = 8 ∨ x = 9 ∨ x = 10 ∨ x = 11 ∨ x = 12 by omega) with rfl | rfl | rfl | rfl | rfl | rfl | rfl | rfl | rfl | rfl | rfl | rfl | rfl
  · exact congrArg (fun z => some (0, z, M)) h.1.1
  · exact congrArg (fun z => some (0, z, M)) h.1.2.1
  · exact congrArg (fun z => some (0, z, M)) h.1.2.2.1
  · exact congrArg (fun z => some (0, z, M)) h.1.2.2.2.1
  · exact congrArg (fun z => some (0, z, M)) h.1.2.2.2.2.1
  · refine (show f_X5_count (nI 5) M = bnd (f_X1_isSpeechAt 18 (irem (M 18 16) 24) M) (fun r10 => (if r10 = 0 then (some (0, 0, M)) else (some (0, 1, M)))) from rfl).trans ?_
    rw [ev_bnd (X1_now h w)]
    show _ = some (0, b2 (nowSp v t), M)
    cases nowSp v t <;> rfl
  · refine (show f_X5_count (nI 6) M = bnd (f_X1_bellCount 18 M) (fun r11 => (some (0, r11, M))) from rfl).trans ?_
    rw [ev_bnd (X1_bellCount h)]
    rfl
  · refine (show f_X5_count (nI 7) M = bnd (f_X1_speechHours 18 (-1) M) (fun r12 => (some (0, r12, M))) from rfl).trans ?_
    rw [ev_bnd (X1_speechHours_none h)]
    rfl
  · refine (show f_X5_count (nI 8) M = bnd (f_X1_membersOf 18 22 M) (fun r13 => (some (0, r13, M))) from rfl).trans ?_
    rw [ev_bnd (X1_membersOf h w 22 (wn_By h w)), sumTo_congr (h := fun k => pcI (v (63 + 8 * k))) (fun k hk => by rw [show M 22 k = _ from h.wn hk])]
    rfl
  · refine (show f_X5_count (nI 9) M = bnd (f_X1_sumOf 18 23 M) (fun r14 => (some (0, r14, M))) from rfl).trans ?_
    rw [ev_bnd (X1_sumOf h w 23), sumTo_congr (h := fun k => v (64 + 8 * k)) (fun k hk => h.lv hk)]
    rfl
  · refine (show f_X5_count (nI 10) M = bnd (f_X1_sumOf 18 24 M) (fun r14 => (some (0, r14, M))) from rfl).trans ?_
    rw [ev_bnd (X1_sumOf h w 24), sumTo_congr (h := fun k => v (65 + 8 * k)) (fun k hk => h.fs hk)]
    rfl
  · refine (show f_X5_count (nI 11) M = bnd (f_X1_membersOf 18 21 M) (fun r13 => (some (0, r13, M))) from rfl).trans ?_
    rw [ev_bnd (X1_membersOf h w 21 (kn_By h w)), sumTo_congr (h := fun k => pcI (v (62 + 8 * k))) (fun k hk => by rw [show M 21 k = _ from h.kn hk])]
    rfl
  · exact congrArg (fun z => some (0, z, M)) hh
theorem X6_count16 (hv : M 10 = v) (w : VV v m n t) {x : Nat} (hx : x ≤ 12) : f_X6_count_16 (nI x) 0 M = some (sCt M v m t x, mput M 9 6 0) := by
  have hv' := hv_thr hv 0
  have e5 : (mput M 9 6 0) 9 5 = M 9 5 := mput_col (by decide)
  unfold f_X6_count_16
  rw [letM_eq, mput_at, if_pos le00, letV_eq]
  rcases (show x = 0 ∨ x = 1 ∨ x = 2 ∨ x = 3 ∨ x = 4 ∨ x = 5 ∨ x = 6 ∨ x = 7 ∨ x = 8 ∨ x = 9 ∨ x = 10 ∨ x = 11 ∨ x = 12 by omega) with rfl | rfl | rfl | rfl | rfl | rfl | rfl | rfl | rfl | rfl | rfl | rfl | rfl
  · exact congrArg (fun z => some (z, mput M 9 6 0)) (congrFun hv' 0)
  · exact congrArg (fun z => some (z, mput M 9 6 0)) (congrFun hv' 1)
  · exact congrArg (fun z => some (z, mput M 9 6 0)) (congrFun hv' 2)
  · exact congrArg (fun z => some (z, mput M 9 6 0)) (congrFun hv' 3)
  · exact congrArg (fun z => some (z, mput M 9 6 0)) (congrFun hv' 4)
  · rw [if_pos (show nI 5 = 5 from rfl), ev_bnd (X6_isSpeechNow hv' w)]
    show _ = some (b2 (nowSp v t), _)
    cases nowSp v t <;> rfl
  · rw [if_neg (show ¬ nI 6 = 5 by decide), if_pos (show nI 6 = 6 from rfl), ev_bnd (X6_bells hv')]
    rfl
  · rw [if_neg (show ¬ nI 7 = 5 by decide), if_neg (show ¬ nI 7 = 6 by decide), if_pos (show nI 7 = 7 from rfl), ev_bnd (X6_hoursOfSpeech hv')]
    rfl
  · rw [if_neg (show ¬ nI 8 = 5 by decide), if_neg (show ¬ nI 8 = 6 by decide), if_neg (show ¬ nI 8 = 7 by decide), if_pos (show nI 8 = 8 from rfl), ev_bnd (X6_sumB3 hv' w)]
    rfl
  · rw [if_neg (show ¬ nI 9 = 5 by decide), if_neg (show ¬ nI 9 = 6 by decide), if_neg (show ¬ nI 9 = 7 by decide), if_neg (show ¬ nI 9 = 8 by decide), if_pos (show nI 9 = 9 from rfl), ev_bnd (X6_sum4 hv' w)]
    rfl
  · rw [if_neg (show ¬ nI 10 = 5 by decide), if_neg (show ¬ nI 10 = 6 by decide), if_neg (show ¬ nI 10 = 7 by decide), if_neg (show ¬ nI 10 = 8 by decide), if_neg (show ¬ nI 10 = 9 by decide), if_pos (show nI 10 = 10 from rfl), ev_bnd (X6_sum5 hv' w)]
    rfl
  · rw [if_neg (show ¬ nI 11 = 5 by decide), if_neg (show ¬ nI 11 = 6 by decide), if_neg (show ¬ nI 11 = 7 by decide), if_neg (show ¬ nI 11 = 8 by decide), if_neg (show ¬ nI 11 = 9 by decide), if_neg (show ¬ nI 11 = 10 by decide), if_pos (show nI 11 = 11 from rfl), ev_bnd (X6_sumB2 hv' w)]
    rfl
  · exact congrArg (fun z => some (z, mput M 9 6 0)) e5
theorem his_eq (hI : Inv M) : M 3 2 = M 9 5 := by
  obtain ⟨h, od, -, -, e1, e2, -⟩ := hI.2.2.2.1
  rw [e1, e2]
theorem C_count (hI : Inv M) (p : Int32) : Agr (f_L_count p M) (f_X6_count p) := by
  obtain ⟨m, n, t, hm, h, w⟩ := hI.ow
  cases hp : inR p 0 12 with
  | true =>
    obtain ⟨x, -, hx, rfl⟩ := inR_t (a := 0) (b := 12) (by decide) (by decide) hp
    refine agr0 hI (L0_count (X5_count h w (his_eq hI) hx)) ?_
    unfold f_X6_count
    rw [X6_isIn, hp, bnd_some, if_neg (by decide), X6_count16 (v := M 10) (hv_out rfl _) w hx]
    congr 2
  | false =>
    have hne : ∀ x, x ≤ 12 → ¬ p = nI x := fun x hx => inR_ne (b := 12) (by decide) hp hx
    have hc : f_X5_count p M = some (2, 0, M) := by
      unfold f_X5_count
      rw [letV_eq, if_neg (show ¬ p = 0 from hne 0 (by decide)), if_neg (show ¬ p = 1 from hne 1 (by decide)), if_neg (show ¬ p = 2 from hne 2 (by decide)), if_neg (show ¬ p = 3 from hne 3 (by decide)), if_neg (show ¬ p = 4 from hne 4 (by decide)), if_neg (show ¬ p = 5 from hne 5 (by decide)), if_neg (show ¬ p = 6 from hne 6 (by decide)), if_neg (show ¬ p = 7 from hne 7 (by decide)), if_neg (show ¬ p = 8 from hne 8 (by decide)), if_neg (show ¬ p = 9 from hne 9 (by decide)), if_neg (show ¬ p = 10 from hne 10 (by decide)), if_neg (show ¬ p = 11 from hne 11 (by decide)), if_neg (show ¬ p = 12 from hne 12 (by decide))]
    refine agrk hI (b := 0) (by decide) (L2_count hc) ?_
    unfold f_X6_count f_X6_count_16
    rw [X6_isIn, hp, bnd_some, if_pos b2_f, letM_eq, mput_at]
    rfl
end CQ
