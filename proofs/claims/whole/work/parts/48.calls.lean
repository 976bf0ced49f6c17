/-! MORE CALLS THAT CHANGE NOTHING -/
theorem out3 {α : Type} {p : Int32} {k : Nat} (h : inM p k = false) (a b : α) : (if p < 0 then a else if p < nI k then b else a) = a := by
  by_cases h1 : p < 0
  · rw [if_pos h1]
  · rw [if_neg h1]
    by_cases h2 : p < nI k
    · unfold inM at h
      rw [decide_eq_true (i32_nlt.mp h1), decide_eq_true h2] at h
      cases h
    · rw [if_neg h2]
theorem in3 {α : Type} {x k : Nat} (hx : x < k) (hk : k < 2 ^ 31) (a b : α) : (if nI x < 0 then a else if nI x < nI k then b else a) = b := by
  rw [if_neg (nI_pos (by omega)), if_pos ((nI_ltI (by omega) hk).mpr hx)]
section CR
variable {M : Mem} {m n t : Nat} {v : Nat → Int32}
theorem inR_13 (p : Int32) : inR p 0 13 = inM p 14 := by
  unfold inR inM
  congr 1
  apply decide_eq_decide.mpr
  rw [i32_le, i32_lt, nI_tI (by decide), show (13 : Int32).toInt = 13 from rfl]
  omega
theorem C_account (hI : Inv M) (p : Int32) : Agr (f_L_account p M) (f_X6_account p) := by
  obtain ⟨m, n, t, hm, h, w⟩ := hI.ow
  cases hp : inM p 14 with
  | true =>
    obtain ⟨x, hx, rfl⟩ := inM_t (by decide) hp
    have hc : f_X5_account (nI x) M = some (0, M 10 (6 + x), M) := by
      unfold f_X5_account
      rw [show (14 : Int32) = nI 14 from rfl, in3 hx (by decide), ev_chk (inB_nI hx (by decide)), ix_nI (by omega), show M 30 x = M 10 (6 + x) from h.acc hx]
    refine agr0 hI (L0_account hc) ?_
    unfold f_X6_account f_X6_account_16
    rw [X6_isIn, inR_13, hp, bnd_some, if_neg (by decide), letM_eq, mput_at, if_pos le00, show (6 : Int32) = nI 6 from rfl, nI_add, ev_chk (inB_nI (by omega) (by decide)), ix_nI (by omega), hv_thr (hv_out rfl _) 0]
  | false =>
    have hc : f_X5_account p M = some (2, 0, M) := by
      unfold f_X5_account f_X5_account_10
      rw [show (14 : Int32) = nI 14 from rfl, out3 hp]
    refine agrk hI (b := 0) (by decide) (L2_account hc) ?_
    unfold f_X6_account f_X6_account_16
    rw [X6_isIn, inR_13, hp, bnd_some, if_pos b2_f, letM_eq, mput_at]
    rfl
theorem C_bell (hI : Inv M) (p : Int32) : Agr (f_L_bell p M) (f_X6_bell p) := by
  obtain ⟨m, n, t, hm, h, w⟩ := hI.ow
  cases hp : inM p 24 with
  | true =>
    obtain ⟨x, hx, rfl⟩ := inM_t (by decide) hp
    have hc : f_X5_bell (nI x) M = some (0, M 10 (20 + x), M) := by
      unfold f_X5_bell
      rw [X5_requireHour, hp, bnd3_some, ex_t, if_pos rfl, ev_chk (inB_nI hx (by decide)), ix_nI (by omega), show M 29 x = M 10 (20 + x) from h.bel hx]
    refine agr0 hI (L0_bell hc) ?_
    unfold f_X6_bell f_X6_bell_16
    rw [X6_isIn, inR_hour, hp, bnd_some, if_neg (by decide), letM_eq, mput_at, if_pos le00, show (20 : Int32) = nI 20 from rfl, nI_add, ev_chk (inB_nI (by omega) (by decide)), ix_nI (by omega), hv_thr (hv_out rfl _) 0]
  | false =>
    have hc : f_X5_bell p M = some (1, 0, M) := by
      unfold f_X5_bell
      rw [X5_requireHour, hp, bnd3_some]
      rfl
    refine agrk hI (b := 0) (by decide) (L1_bell hc) ?_
    unfold f_X6_bell f_X6_bell_16
    rw [X6_isIn, inR_hour, hp, bnd_some, if_pos b2_f, letM_eq, mput_at]
    rfl
/-! a number of a monk -/
theorem X6_monk28 (hv : M 10 = v) (w : VV v m n t) {a x : Nat} (ha : a < m) (hx : x ≤ 8) {r : Int32}
    (hr : (x = 0 → r = v (61 + 8 * a)) ∧ (x = 1 → r = v (64 + 8 * a)) ∧ (x = 2 → r = v (65 + 8 * a)) ∧ (x = 3 → r = v (66 + 8 * a)) ∧ (x = 4 → r = v (67 + 8 * a)) ∧ (x = 5 → r = pcI (v (62 + 8 * a))) ∧ (x = 6 → r = pcI (v (63 + 8 * a))) ∧ (x = 7 → r = sumTo (fun k => b2 (sOth v a k)) m) ∧ (x = 8 → ∃ ls, nmOK ls ∧ v (60 + 8 * a) = nI (f27 ls) ∧ r = nI ls.length)) :
    f_X6_monk_28 (nI a) (nI x) 0 M = some (r, mput M 9 6 0) := by
  have h12 := w.m12
  have hv' := hv_thr hv 0
  obtain ⟨q0, q1, q2, q3, q4, q5, q6, q7, q8⟩ := hr
  have e99 : ∀ x, 1 ≤ x → x ≤ 4 → f_X6_monk_99 (nI a) (nI x) (mput M 9 6 0) = some (v (60 + 8 * a + (3 + x)), mput M 9 6 0) := fun x h1 h2 => by
    unfold f_X6_monk_99
    rw [show (4 + nI x) - 1 = nI (3 + x) by rw [show (4 : Int32) = nI 4 from rfl, show (1 : Int32) = nI 1 from rfl, nI_add, nI_sub (by omega)]; congr 1; omega, ev_bnd ev_mo, ev_chk (inB_nI (by omega) (by decide)), ix_nI (by omega), hv']
  unfold f_X6_monk_28
  rw [letM_eq, mput_at, if_pos le00, letV_eq]
  rcases (show x = 0 ∨ x = 1 ∨ x = 2 ∨ x = 3 ∨ x = 4 ∨ x = 5 ∨ x = 6 ∨ x = 7 ∨ x = 8 by omega) with rfl | rfl | rfl | rfl | rfl | rfl | rfl | rfl | rfl
  · rw [if_pos (show nI 0 = 0 from rfl), ev_bnd (ev_moc 1 (c := 1) rfl rfl), ev_chk (inB_nI (by omega) (by decide)), ix_nI (by omega), hv', q0 rfl, show 60 + 8 * a + 1 = 61 + 8 * a by omega]
  · refine (e99 1 (by decide) (by decide)).trans ?_
    rw [q1 rfl, show 60 + 8 * a + (3 + 1) = 64 + 8 * a by omega]
  · refine (e99 2 (by decide) (by decide)).trans ?_
    rw [q2 rfl, show 60 + 8 * a + (3 + 2) = 65 + 8 * a by omega]
  · refine (e99 3 (by decide) (by decide)).trans ?_
    rw [q3 rfl, show 60 + 8 * a + (3 + 3) = 66 + 8 * a by omega]
  · refine (e99 4 (by decide) (by decide)).trans ?_
    rw [q4 rfl, show 60 + 8 * a + (3 + 4) = 67 + 8 * a by omega]
  · refine (show _ = bnd (f_X6_mo (nI a) 2 (mput M 9 6 0)) (fun r41 => (chk (inB r41 156) (bnd (f_X6_bits ((mput M 9 6 0) 10 (ix r41)) (mput M 9 6 0)) (fun r43 => (some (r43, mput M 9 6 0)))))) from rfl).trans ?_
    rw [ev_bnd (ev_moc 2 (c := 2) rfl rfl), ev_chk (inB_nI (by omega) (by decide)), ix_nI (by omega), hv', show 60 + 8 * a + 2 = 62 + 8 * a by omega, ev_bnd (bits_By (w.kn ha) _), q5 rfl]
  · refine (show _ = bnd (f_X6_mo (nI a) 3 (mput M 9 6 0)) (fun r41 => (chk (inB r41 156) (bnd (f_X6_bits ((mput M 9 6 0) 10 (ix r41)) (mput M 9 6 0)) (fun r43 => (some (r43, mput M 9 6 0)))))) from rfl).trans ?_
    rw [ev_bnd (ev_moc 3 (c := 3) rfl rfl), ev_chk (inB_nI (by omega) (by decide)), ix_nI (by omega), hv', show 60 + 8 * a + 3 = 63 + 8 * a by omega, ev_bnd (bits_By (w.wn ha) _), q6 rfl]
  · refine (show _ = bnd (f_X6_whoKnowAll (nI a) (mput M 9 6 0)) (fun r47 => (some (r47, mput M 9 6 0))) from rfl).trans ?_
    rw [ev_bnd (X6_whoKnowAll hv' w ha), q7 rfl]
  · refine (show _ = bnd (f_X6_mo (nI a) 0 (mput M 9 6 0)) (fun r48 => (chk (inB r48 156) (bnd (f_X6_lengthOf ((mput M 9 6 0) 10 (ix r48)) (mput M 9 6 0)) (fun r50 => (some (r50, mput M 9 6 0)))))) from rfl).trans ?_
    obtain ⟨ls, g1, g2, g3⟩ := q8 rfl
    rw [ev_bnd (ev_moc 0 (c := 0) rfl rfl), ev_chk (inB_nI (by omega) (by decide)), ix_nI (by omega), hv', Nat.add_zero, g2, ev_bnd (X6_lengthOf g1 _), g3]
theorem C_monk (hI : Inv M) (p q : Int32) : Agr (f_L_monk p q M) (f_X6_monk p q) := by
  obtain ⟨m, n, t, hm, h, w⟩ := hI.ow
  have h12 := w.m12
  have hv : M 10 = M 10 := rfl
  cases hp : inM p m with
  | false =>
    have hc : f_X5_monk p q M = some (1, 0, M) := by
      unfold f_X5_monk
      rw [X5_requireMonk h w, hp, bnd3_some]
      rfl
    refine agrk hI (b := 0) (by decide) (L1_monk hc) ?_
    unfold f_X6_monk f_X6_monk_28
    rw [X6_isMonk hv w, hp, bnd_some, if_pos b2_f, letM_eq, mput_at]
    rfl
  | true =>
    obtain ⟨a, ha, rfl⟩ := inM_t (by omega) hp
    cases hq : inR q 0 8 with
    | false =>
      have hne : ∀ x, x ≤ 8 → ¬ q = nI x := fun x hx => inR_ne (b := 8) (by decide) hq hx
      have hc : f_X5_monk (nI a) q M = some (2, 0, M) := by
        unfold f_X5_monk
        rw [X5_requireMonk h w, hp, bnd3_some, ex_t, if_pos rfl, letV_eq, if_neg (show ¬ q = 0 from hne 0 (by decide)), if_neg (show ¬ q = 1 from hne 1 (by decide)), if_neg (show ¬ q = 2 from hne 2 (by decide)), if_neg (show ¬ q = 3 from hne 3 (by decide)), if_neg (show ¬ q = 4 from hne 4 (by decide)), if_neg (show ¬ q = 5 from hne 5 (by decide)), if_neg (show ¬ q = 6 from hne 6 (by decide)), if_neg (show ¬ q = 7 from hne 7 (by decide)), if_neg (show ¬ q = 8 from hne 8 (by decide))]
      refine agrk hI (b := 0) (by decide) (L2_monk hc) ?_
      unfold f_X6_monk f_X6_monk_28
      rw [X6_isMonk hv w, hp, bnd_some, if_neg (by decide), X6_isIn, hq, bnd_some, if_pos b2_f, letM_eq, mput_at]
      rfl
    | true =>
      obtain ⟨x, -, hx, rfl⟩ := inR_t (a := 0) (b := 8) (by decide) (by decide) hq
      have i1 : inB (nI a) 12 = true := inB_nI (by omega) (by decide)
      have key : ∀ r : Int32, f_X5_monk (nI a) (nI x) M = some (0, r, M) → f_X6_monk_28 (nI a) (nI x) 0 (mput M 17 0 r) = some (r, mput (mput M 17 0 r) 9 6 0) → Agr (f_L_monk (nI a) (nI x) M) (f_X6_monk (nI a) (nI x)) := fun r hc h6 => by
        refine agr0 hI (L0_monk hc) ?_
        unfold f_X6_monk
        rw [X6_isMonk (hv_out hv _) w, hp, bnd_some, if_neg (by decide), X6_isIn, hq, bnd_some, if_neg (by decide), h6]
      have hX : f_X5_monk (nI a) (nI x) M = letV (nI x) (fun y18 => (if y18 = 0 then (some (0, (M 20 a), M)) else (if y18 = 1 then (some (0, (M 23 a), M)) else (if y18 = 2 then (some (0, (M 24 a), M)) else (if y18 = 3 then (some (0, (M 25 a), M)) else (if y18 = 4 then (some (0, (M 26 a), M)) else (if y18 = 5 then (bnd (f_J6_bitCount_0f7a4 (M 21 a) M) (fun r25 => (some (0, r25, M)))) else (if y18 = 6 then (bnd (f_J6_bitCount_0f7a4 (M 22 a) M) (fun r27 => (some (0, r27, M)))) else (if y18 = 7 then (bnd (f_X1_othersWhoKnowAllOf 18 (nI a) M) (fun r28 => (some (0, r28, M)))) else (if y18 = 8 then (bnd (f_X2_lettersIn (M 19 a) M) (fun r30 => (some (0, r30, M)))) else (some (2, 0, M))))))))))))  := by
        unfold f_X5_monk
        rw [X5_requireMonk h w, hp, bnd3_some, ex_t, if_pos rfl]
        simp only [ev_chk i1, ix_nI (show a < 2 ^ 31 by omega)]
      have go : ∀ r : Int32, f_X5_monk (nI a) (nI x) M = some (0, r, M) → _ → Agr (f_L_monk (nI a) (nI x) M) (f_X6_monk (nI a) (nI x)) := fun r hc hr => key r hc (X6_monk28 (v := M 10) (hv_out hv _) w ha hx hr)
      rcases (show x = 0 ∨ x = 1 ∨ x = 2 ∨ x = 3 ∨ x = 4 ∨ x = 5 ∨ x = 6 ∨ x = 7 ∨ x = 8 by omega) with rfl | rfl | rfl | rfl | rfl | rfl | rfl | rfl | rfl
      · exact go _ (hX.trans (congrArg (fun z => some (0, z, M)) (h.rk ha))) ⟨fun _ => rfl, by simp, by simp, by simp, by simp, by simp, by simp, by simp, by simp⟩
      · exact go _ (hX.trans (congrArg (fun z => some (0, z, M)) (h.lv ha))) ⟨by simp, fun _ => rfl, by simp, by simp, by simp, by simp, by simp, by simp, by simp⟩
      · exact go _ (hX.trans (congrArg (fun z => some (0, z, M)) (h.fs ha))) ⟨by simp, by simp, fun _ => rfl, by simp, by simp, by simp, by simp, by simp, by simp⟩
      · exact go _ (hX.trans (congrArg (fun z => some (0, z, M)) (h.gv ha))) ⟨by simp, by simp, by simp, fun _ => rfl, by simp, by simp, by simp, by simp, by simp⟩
      · exact go _ (hX.trans (congrArg (fun z => some (0, z, M)) (h.bk ha))) ⟨by simp, by simp, by simp, by simp, fun _ => rfl, by simp, by simp, by simp, by simp⟩
      · refine go (pcI (M 10 (62 + 8 * a))) (hX.trans ?_) ⟨by simp, by simp, by simp, by simp, by simp, fun _ => rfl, by simp, by simp, by simp⟩
        refine (show _ = bnd (f_J6_bitCount_0f7a4 (M 21 a) M) (fun r25 => (some (0, r25, M))) from rfl).trans ?_
        rw [ev_bnd (bc_By (kn_By h w a ha) M), show M 21 a = _ from h.kn ha]
      · refine go (pcI (M 10 (63 + 8 * a))) (hX.trans ?_) ⟨by simp, by simp, by simp, by simp, by simp, by simp, fun _ => rfl, by simp, by simp⟩
        refine (show _ = bnd (f_J6_bitCount_0f7a4 (M 22 a) M) (fun r25 => (some (0, r25, M))) from rfl).trans ?_
        rw [ev_bnd (bc_By (wn_By h w a ha) M), show M 22 a = _ from h.wn ha]
      · refine go _ (hX.trans ?_) ⟨by simp, by simp, by simp, by simp, by simp, by simp, by simp, fun _ => rfl, by simp⟩
        refine (show _ = bnd (f_X1_othersWhoKnowAllOf 18 (nI a) M) (fun r28 => (some (0, r28, M))) from rfl).trans ?_
        rw [ev_bnd (X1_others h w ha)]
      · obtain ⟨ls, g1, g2, g3⟩ := (h.2.2.2.2 a ha).1
        refine go (nI ls.length) (hX.trans ?_) ⟨by simp, by simp, by simp, by simp, by simp, by simp, by simp, by simp, fun _ => ⟨ls, g1, g3, rfl⟩⟩
        refine (show _ = bnd (f_X2_lettersIn (M 19 a) M) (fun r30 => (some (0, r30, M))) from rfl).trans ?_
        rw [show M 19 a = nI (f32 ls) from g2, ev_bnd (X2_lettersIn g1 M)]
/-! a number of a need -/
theorem C_need (hI : Inv M) (p q : Int32) : Agr (f_L_need p q M) (f_X6_need p q) := by
  obtain ⟨m, n, t, hm, h, w⟩ := hI.ow
  have h8 := w.n8
  have hv : M 10 = M 10 := rfl
  cases hp : inM p n with
  | false =>
    have hc : f_X5_need p q M = some (1, 0, M) := by
      unfold f_X5_need
      rw [X5_requireNeed h w, hp, bnd3_some]
      rfl
    refine agrk hI (b := 0) (by decide) (L1_need hc) ?_
    unfold f_X6_need f_X6_need_27
    rw [X6_isNeed hv w, hp, bnd_some, if_pos b2_f, letM_eq, mput_at]
    rfl
  | true =>
    obtain ⟨a, ha, rfl⟩ := inM_t (by omega) hp
    cases hq : inR q 0 4 with
    | false =>
      have hne : ∀ x, x ≤ 4 → ¬ q = nI x := fun x hx => inR_ne (b := 4) (by decide) hq hx
      have hc : f_X5_need (nI a) q M = some (2, 0, M) := by
        unfold f_X5_need
        rw [X5_requireNeed h w, hp, bnd3_some, ex_t, if_pos rfl, letV_eq, if_neg (show ¬ q = 0 from hne 0 (by decide)), if_neg (show ¬ q = 1 from hne 1 (by decide)), if_neg (show ¬ q = 2 from hne 2 (by decide)), if_neg (show ¬ q = 3 from hne 3 (by decide)), if_neg (show ¬ q = 4 from hne 4 (by decide))]
      refine agrk hI (b := 0) (by decide) (L2_need hc) ?_
      unfold f_X6_need f_X6_need_27
      rw [X6_isNeed hv w, hp, bnd_some, if_neg (by decide), X6_isIn, hq, bnd_some, if_pos b2_f, letM_eq, mput_at]
      rfl
    | true =>
      obtain ⟨x, -, hx, rfl⟩ := inR_t (a := 0) (b := 4) (by decide) (by decide) hq
      have i1 : inB (nI a) 8 = true := inB_nI (by omega) (by decide)
      have hX : f_X5_need (nI a) (nI x) M = letV (nI x) (fun y13 => (if y13 = 0 then (some (0, (M 28 a), M)) else (if y13 = 1 then (bnd (f_X1_monksWith 18 21 (nI a) M) (fun r15 => (some (0, r15, M)))) else (if y13 = 2 then (bnd (f_X1_monksWith 18 22 (nI a) M) (fun r16 => (some (0, r16, M)))) else (if y13 = 3 then (bnd (f_X1_pagesFor 1 (M 28 a) M) (fun r18 => (some (0, r18, M)))) else (if y13 = 4 then (bnd (f_X1_fastFor 1 (M 28 a) M) (fun r20 => (some (0, r20, M)))) else (some (2, 0, M)))))))) := by
        unfold f_X5_need
        rw [X5_requireNeed h w, hp, bnd3_some, ex_t, if_pos rfl]
        simp only [ev_chk i1, ix_nI (show a < 2 ^ 31 by omega)]
      have key : ∀ r : Int32, f_X5_need (nI a) (nI x) M = some (0, r, M) → f_X6_need_27 (nI a) (nI x) 0 (mput M 17 0 r) = some (r, mput (mput M 17 0 r) 9 6 0) → Agr (f_L_need (nI a) (nI x) M) (f_X6_need (nI a) (nI x)) := fun r hc h6 => by
        refine agr0 hI (L0_need hc) ?_
        unfold f_X6_need
        rw [X6_isNeed (hv_out hv _) w, hp, bnd_some, if_neg (by decide), X6_isIn, hq, bnd_some, if_neg (by decide), h6]
      have hw : M 28 a = M 10 (45 + 2 * a) := h.w ha
      have go : ∀ r : Int32, f_X5_need (nI a) (nI x) M = some (0, r, M) → (∀ N : Mem, N 10 = M 10 → letV (nI x) (fun y20 => (if y20 = 0 then (bnd (f_X6_words (nI a) N) (fun r21 => (some (r21, N)))) else (if y20 = 1 then (bnd (f_X6_monksWith 2 (nI a) N) (fun r22 => (some (r22, N)))) else (if y20 = 2 then (bnd (f_X6_monksWith 3 (nI a) N) (fun r23 => (some (r23, N)))) else (if y20 = 3 then (bnd (f_X6_words (nI a) N) (fun r24 => (some (((r24 + 9) / 10), N)))) else (bnd (f_X6_words (nI a) N) (fun r25 => (some (((r25 + 4) / 5), N))))))))) = some (r, N)) → Agr (f_L_need (nI a) (nI x) M) (f_X6_need (nI a) (nI x)) := fun r hc hN => key r hc (by
        unfold f_X6_need_27
        rw [letM_eq, mput_at, if_pos le00]
        exact hN _ (hv_thr (hv_out hv _) 0))
      rcases (show x = 0 ∨ x = 1 ∨ x = 2 ∨ x = 3 ∨ x = 4 by omega) with rfl | rfl | rfl | rfl | rfl
      · refine go _ (hX.trans (congrArg (fun z => some (0, z, M)) hw)) (fun N hN => ?_)
        rw [letV_eq, if_pos (show nI 0 = 0 from rfl), ev_bnd (X6_words hN (by omega))]
      · refine go (sumTo (fun k => b2 (mm (M 10 (62 + 8 * k)) a)) m) (hX.trans ?_) (fun N hN => ?_)
        · refine (show _ = bnd (f_X1_monksWith 18 21 (nI a) M) (fun r15 => (some (0, r15, M))) from rfl).trans ?_
          rw [ev_bnd (X1_monksWith h w 21 (kn_By h w) (by omega)), sumTo_congr (h := fun k => b2 (mm (M 10 (62 + 8 * k)) a)) (fun k hk => by rw [show M 21 k = _ from h.kn hk])]
        · refine (show _ = bnd (f_X6_monksWith (nI 2) (nI a) N) (fun r22 => (some (r22, N))) from rfl).trans ?_
          rw [ev_bnd (X6_monksWith hN w 2 (by decide) (fun k hk => by rw [show 60 + 8 * k + 2 = 62 + 8 * k by omega]; exact w.kn hk) (by omega)), sumTo_congr (h := fun k => b2 (mm (M 10 (62 + 8 * k)) a)) (fun k hk => by rw [show 60 + 8 * k + 2 = 62 + 8 * k by omega])]
      · refine go (sumTo (fun k => b2 (mm (M 10 (63 + 8 * k)) a)) m) (hX.trans ?_) (fun N hN => ?_)
        · refine (show _ = bnd (f_X1_monksWith 18 22 (nI a) M) (fun r15 => (some (0, r15, M))) from rfl).trans ?_
          rw [ev_bnd (X1_monksWith h w 22 (wn_By h w) (by omega)), sumTo_congr (h := fun k => b2 (mm (M 10 (63 + 8 * k)) a)) (fun k hk => by rw [show M 22 k = _ from h.wn hk])]
        · refine (show _ = bnd (f_X6_monksWith (nI 3) (nI a) N) (fun r22 => (some (r22, N))) from rfl).trans ?_
          rw [ev_bnd (X6_monksWith hN w 3 (by decide) (fun k hk => by rw [show 60 + 8 * k + 3 = 63 + 8 * k by omega]; exact w.wn hk) (by omega)), sumTo_congr (h := fun k => b2 (mm (M 10 (63 + 8 * k)) a)) (fun k hk => by rw [show 60 + 8 * k + 3 = 63 + 8 * k by omega])]
      · refine go ((M 10 (45 + 2 * a) + 9) / 10) (hX.trans ?_) (fun N hN => ?_)
        · rw [← hw]; rfl
        · refine (show _ = bnd (f_X6_words (nI a) N) (fun r24 => (some (((r24 + 9) / 10), N))) from rfl).trans ?_
          rw [ev_bnd (X6_words hN (by omega))]
      · refine go ((M 10 (45 + 2 * a) + 4) / 5) (hX.trans ?_) (fun N hN => ?_)
        · rw [← hw]; rfl
        · refine (show _ = bnd (f_X6_words (nI a) N) (fun r24 => (some (((r24 + 4) / 5), N))) from rfl).trans ?_
          rw [ev_bnd (X6_words hN (by omega))]
theorem C_has (hI : Inv M) (p q : Int32) (z : Bool) : ∃ k M1 bb M2, f_L_has p q (b2 z) M = some (k, M1) ∧ f_X6_has p q (b2 z) M1 = some (b2 bb, M2) ∧ M2 9 6 = k ∧ (k = 0 → M2 17 0 = b2 bb) ∧ Inv M2 := by
  obtain ⟨m, n, t, hm, h, w⟩ := hI.ow
  have h12 := w.m12
  have h8 := w.n8
  have hv : M 10 = M 10 := rfl
  have bad : f_X5_has p q (b2 z) M = some (1, 0, M) → f_X6_has p q (b2 z) M = some (0, mput M 9 6 1) → ∃ k M1 bb M2, f_L_has p q (b2 z) M = some (k, M1) ∧ f_X6_has p q (b2 z) M1 = some (b2 bb, M2) ∧ M2 9 6 = k ∧ (k = 0 → M2 17 0 = b2 bb) ∧ Inv M2 := fun hc h6 =>
    ⟨1, M, false, _, L1_has hc, h6, mput_at, fun q => absurd q (by decide), hI.same (Same.thr _ 1)⟩
  cases hp : inM p m with
  | false =>
    refine bad ?_ ?_
    · unfold f_X5_has
      rw [X5_requireMonk h w, hp, bnd3_some]
      rfl
    · unfold f_X6_has f_X6_has_21 f_X6_has_22
      rw [X6_isMonk hv w, hp, bnd_some, if_pos b2_f, letM_eq, mput_at]
      rfl
  | true =>
    cases hq : inM q n with
    | false =>
      refine bad ?_ ?_
      · unfold f_X5_has
        rw [X5_requireMonk h w, hp, bnd3_some, ex_t, if_pos rfl, X5_requireNeed h w, hq, bnd3_some]
        rfl
      · unfold f_X6_has f_X6_has_21 f_X6_has_22
        rw [X6_isMonk hv w, hp, bnd_some, if_neg (by decide), X6_isNeed hv w, hq, bnd_some, if_pos b2_f, letM_eq, mput_at]
        rfl
    | true =>
      obtain ⟨a, ha, rfl⟩ := inM_t (by omega) hp
      obtain ⟨j, hj, rfl⟩ := inM_t (by omega) hq
      have i1 : inB (nI a) 12 = true := inB_nI (by omega) (by decide)
      have e1 : ∀ N : Mem, N 10 = M 10 → f_X6_isSet (nI a) 2 (nI j) N = some (b2 (mm (M 10 (62 + 8 * a)) j)) := fun N hN => by
        have := X6_isSet (v := M 10) hN (c := 2) (show a < 12 by omega) (by decide) (by rw [show 60 + 8 * a + 2 = 62 + 8 * a by omega]; exact w.kn ha) (show j < 8 by omega)
        rw [show 60 + 8 * a + 2 = 62 + 8 * a by omega] at this
        exact this
      have e2 : ∀ N : Mem, N 10 = M 10 → f_X6_isSet (nI a) 3 (nI j) N = some (b2 (mm (M 10 (63 + 8 * a)) j)) := fun N hN => by
        have := X6_isSet (v := M 10) hN (c := 3) (show a < 12 by omega) (by decide) (by rw [show 60 + 8 * a + 3 = 63 + 8 * a by omega]; exact w.wn ha) (show j < 8 by omega)
        rw [show 60 + 8 * a + 3 = 63 + 8 * a by omega] at this
        exact this
      have hX : f_X5_has (nI a) (nI j) (b2 z) M = if b2 z = 0 then f_X5_has_36 (nI j) (M 21 a) M else f_X5_has_36 (nI j) (M 22 a) M := by
        unfold f_X5_has
        rw [X5_requireMonk h w, hp, bnd3_some, ex_t, if_pos rfl, X5_requireNeed h w, hq, bnd3_some, ex_t, if_pos rfl, ev_chk i1, ev_chk i1, ix_nI (show a < 2 ^ 31 by omega)]
      have h6 : ∀ N : Mem, N 10 = M 10 → f_X6_has (nI a) (nI j) (b2 z) N = if b2 z = 0 then f_X6_has_43 (nI j) (nI a) 2 (mput N 9 6 0) else f_X6_has_43 (nI j) (nI a) 3 (mput N 9 6 0) := fun N hN => by
        unfold f_X6_has f_X6_has_22
        rw [X6_isMonk hN w, hp, bnd_some, if_neg (by decide), X6_isNeed hN w, hq, bnd_some, if_neg (by decide), letM_eq, mput_at, if_pos rfl]
      have gd : ∀ bb : Bool, f_X5_has (nI a) (nI j) (b2 z) M = some (0, b2 bb, M) → (∀ N : Mem, N 10 = M 10 → f_X6_has (nI a) (nI j) (b2 z) N = some (b2 bb, mput N 9 6 0)) → ∃ k M1 bb M2, f_L_has (nI a) (nI j) (b2 z) M = some (k, M1) ∧ f_X6_has (nI a) (nI j) (b2 z) M1 = some (b2 bb, M2) ∧ M2 9 6 = k ∧ (k = 0 → M2 17 0 = b2 bb) ∧ Inv M2 := fun bb hc h6 =>
        ⟨0, _, bb, _, L0_has hc, h6 _ (hv_out hv _), mput_at, fun _ => by rw [mput_row (by decide), mput_at], hI.same ((Same.out M _).trans (Same.thr _ 0))⟩
      cases z with
      | false =>
        refine gd (mm (M 10 (62 + 8 * a)) j) ?_ (fun N hN => ?_)
        · rw [hX, if_pos b2_f]
          unfold f_X5_has_36
          rw [ev_bnd (X1_isMember (kn_By h w a ha) (by omega) M), show M 21 a = _ from h.kn ha]
        · rw [h6 N hN, if_pos b2_f]
          unfold f_X6_has_43
          rw [ev_bnd (e1 _ (hv_thr hN 0))]
          cases mm (M 10 (62 + 8 * a)) j <;> rfl
      | true =>
        refine gd (mm (M 10 (63 + 8 * a)) j) ?_ (fun N hN => ?_)
        · rw [hX, if_neg (by decide)]
          unfold f_X5_has_36
          rw [ev_bnd (X1_isMember (wn_By h w a ha) (by omega) M), show M 22 a = _ from h.wn ha]
        · rw [h6 N hN, if_neg (by decide)]
          unfold f_X6_has_43
          rw [ev_bnd (e2 _ (hv_thr hN 0))]
          cases mm (M 10 (63 + 8 * a)) j <;> rfl
end CR
