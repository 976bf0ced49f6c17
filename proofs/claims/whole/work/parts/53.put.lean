/-! ONE NUMBER CHANGED ON BOTH SIDES -/
theorem upd_at {f : Nat → Int32} {k : Nat} {x : Int32} : upd f k x k = x := by simp [upd]
theorem upd_ne {f : Nat → Int32} {k j : Nat} {x : Int32} (h : j ≠ k) : upd f k x j = f j := by simp [upd, h]
theorem put_aux {M : Mem} {o c c' a k R I : Nat} {x : Int32} {v : Nat → Int32} (hc : c < 8) (hc' : c' < 8) (hR : R = o + 1 + c') (hI : I = 60 + 8 * k + c') (e : M R k = v I) : mput M (o + 1 + c) a x R k = upd v (60 + 8 * a + c) x I := by
  subst hR hI
  by_cases h1 : c' = c
  · subst h1
    by_cases h2 : k = a
    · subst h2
      rw [mput_at, upd_at]
    · rw [mput_col h2, upd_ne (by omega), e]
  · rw [mput_row (by omega), upd_ne (by omega), e]
theorem HR.putm {M : Mem} {o m n c a : Nat} {v : Nat → Int32} (h : HR M o v m n) (h8 : n ≤ 8) (c1 : 1 ≤ c) (c7 : c ≤ 7) (x : Int32) {R I : Nat} (eR : R = o + 1 + c) (eI : I = 60 + 8 * a + c) : HR (mput M R a x) o (upd v I x) m n := by
  subst eR eI
  refine ⟨?_, fun k hk => ?_, fun k hk => ?_, fun k hk => ?_, fun k hk => ?_⟩
  · rw [mput_row (by omega), upd_ne (by omega), upd_ne (by omega), upd_ne (by omega), upd_ne (by omega), upd_ne (by omega), upd_ne (by omega)]
    exact h.1
  · rw [mput_row (by omega), upd_ne (by omega)]
    exact h.2.1 k hk
  · rw [mput_row (by omega), upd_ne (by omega)]
    exact h.2.2.1 k hk
  · rw [mput_row (by omega), mput_row (by omega), upd_ne (by omega), upd_ne (by omega)]
    exact h.2.2.2.1 k hk
  · obtain ⟨g0, g1, g2, g3, g4, g5, g6, g7⟩ := h.2.2.2.2 k hk
    refine ⟨?_, put_aux (by omega) (by decide : 1 < 8) (by omega) (by omega) g1, put_aux (by omega) (by decide : 2 < 8) (by omega) (by omega) g2, put_aux (by omega) (by decide : 3 < 8) (by omega) (by omega) g3, put_aux (by omega) (by decide : 4 < 8) (by omega) (by omega) g4, put_aux (by omega) (by decide : 5 < 8) (by omega) (by omega) g5, put_aux (by omega) (by decide : 6 < 8) (by omega) (by omega) g6, put_aux (by omega) (by decide : 7 < 8) (by omega) (by omega) g7⟩
    rw [mput_row (by omega), upd_ne (by omega)]
    exact g0
theorem HR.puta {M : Mem} {o m n c : Nat} {v : Nat → Int32} (h : HR M o v m n) (hc : c < 14) (x : Int32) {R I : Nat} (eR : R = o + 12) (eI : I = 6 + c) : HR (mput M R c x) o (upd v I x) m n := by
  subst eR eI
  refine ⟨?_, fun k hk => ?_, fun k hk => ?_, fun k hk => ?_, fun k hk => ?_⟩
  · rw [mput_row (by omega), upd_ne (by omega), upd_ne (by omega), upd_ne (by omega), upd_ne (by omega), upd_ne (by omega), upd_ne (by omega)]
    exact h.1
  · by_cases hkc : k = c
    · subst hkc
      rw [mput_at, upd_at]
    · rw [mput_col hkc, upd_ne (by omega)]
      exact h.2.1 k hk
  · rw [mput_row (by omega), upd_ne (by omega)]
    exact h.2.2.1 k hk
  · rw [mput_row (by omega), mput_row (by omega), upd_ne (by omega), upd_ne (by omega)]
    exact h.2.2.2.1 k hk
  · rw [mput_row (by omega), mput_row (by omega), mput_row (by omega), mput_row (by omega), mput_row (by omega), mput_row (by omega), mput_row (by omega), mput_row (by omega), upd_ne (by omega), upd_ne (by omega), upd_ne (by omega), upd_ne (by omega), upd_ne (by omega), upd_ne (by omega), upd_ne (by omega), upd_ne (by omega)]
    exact h.2.2.2.2 k hk
theorem HR.putb {M : Mem} {o m n c : Nat} {v : Nat → Int32} (h : HR M o v m n) (hc : c < 24) (x : Int32) {R I : Nat} (eR : R = o + 11) (eI : I = 20 + c) : HR (mput M R c x) o (upd v I x) m n := by
  subst eR eI
  refine ⟨?_, fun k hk => ?_, fun k hk => ?_, fun k hk => ?_, fun k hk => ?_⟩
  · rw [mput_row (by omega), upd_ne (by omega), upd_ne (by omega), upd_ne (by omega), upd_ne (by omega), upd_ne (by omega), upd_ne (by omega)]
    exact h.1
  · rw [mput_row (by omega), upd_ne (by omega)]
    exact h.2.1 k hk
  · by_cases hkc : k = c
    · subst hkc
      rw [mput_at, upd_at]
    · rw [mput_col hkc, upd_ne (by omega)]
      exact h.2.2.1 k hk
  · rw [mput_row (by omega), mput_row (by omega), upd_ne (by omega), upd_ne (by omega)]
    exact h.2.2.2.1 k hk
  · rw [mput_row (by omega), mput_row (by omega), mput_row (by omega), mput_row (by omega), mput_row (by omega), mput_row (by omega), mput_row (by omega), mput_row (by omega), upd_ne (by omega), upd_ne (by omega), upd_ne (by omega), upd_ne (by omega), upd_ne (by omega), upd_ne (by omega), upd_ne (by omega), upd_ne (by omega)]
    exact h.2.2.2.2 k hk
theorem HR.puts {M : Mem} {o m n c : Nat} {v : Nat → Int32} (h : HR M o v m n) (hc : c < 6) (x : Int32) {C : Nat} (eC : C = 12 + c) : HR (mput M o C x) o (upd v c x) m n := by
  subst eC
  have aux : ∀ d, d < 6 → M o (12 + d) = v d → mput M o (12 + c) x o (12 + d) = upd v c x d := fun d hd e => by
    by_cases hdc : d = c
    · subst hdc
      rw [mput_at, upd_at]
    · rw [mput_col (by omega), upd_ne hdc, e]
  refine ⟨⟨aux 0 (by decide) h.1.1, aux 1 (by decide) h.1.2.1, aux 2 (by decide) h.1.2.2.1, aux 3 (by decide) h.1.2.2.2.1, aux 4 (by decide) h.1.2.2.2.2.1, aux 5 (by decide) h.1.2.2.2.2.2⟩, fun k hk => ?_, fun k hk => ?_, fun k hk => ?_, fun k hk => ?_⟩
  · rw [mput_row (by omega), upd_ne (by omega)]
    exact h.2.1 k hk
  · rw [mput_row (by omega), upd_ne (by omega)]
    exact h.2.2.1 k hk
  · rw [mput_row (by omega), mput_row (by omega), upd_ne (by omega), upd_ne (by omega)]
    exact h.2.2.2.1 k hk
  · rw [mput_row (by omega), mput_row (by omega), mput_row (by omega), mput_row (by omega), mput_row (by omega), mput_row (by omega), mput_row (by omega), mput_row (by omega), upd_ne (by omega), upd_ne (by omega), upd_ne (by omega), upd_ne (by omega), upd_ne (by omega), upd_ne (by omega), upd_ne (by omega), upd_ne (by omega)]
    exact h.2.2.2.2 k hk
theorem VV.upd' {v : Nat → Int32} {m n t i : Nat} (w : VV v m n t) (x : Int32) (h0 : i ≠ 0 ∧ i ≠ 1 ∧ i ≠ 4) (h1 : ∀ k, k < n → i = 45 + 2 * k → ∃ y, 1 ≤ y ∧ y ≤ 20 ∧ x = nI y) (h2 : ∀ k, k < m → (i = 62 + 8 * k ∨ i = 63 + 8 * k) → By x) (h3 : ∀ k, k < m → i = 64 + 8 * k → Sm 99 x) : VV (upd v i x) m n t := by
  refine ⟨w.1, w.2.1, w.2.2.1, by rw [upd_ne (Ne.symm h0.1)]; exact w.e0, by rw [upd_ne (Ne.symm h0.2.1)]; exact w.e1, by rw [upd_ne (Ne.symm h0.2.2)]; exact w.e4, fun k hk => ?_, fun k hk => ⟨?_, ?_, ?_⟩⟩
  · by_cases e : 45 + 2 * k = i
    · subst e
      rw [upd_at]
      exact h1 k hk rfl
    · rw [upd_ne e]
      exact w.wd hk
  · by_cases e : 62 + 8 * k = i
    · subst e
      rw [upd_at]
      exact h2 k hk (Or.inl rfl)
    · rw [upd_ne e]
      exact w.kn hk
  · by_cases e : 63 + 8 * k = i
    · subst e
      rw [upd_at]
      exact h2 k hk (Or.inr rfl)
    · rw [upd_ne e]
      exact w.wn hk
  · by_cases e : 64 + 8 * k = i
    · subst e
      rw [upd_at]
      exact h3 k hk rfl
    · rw [upd_ne e]
      exact w.lv hk
/-- a place that the invariant says nothing of -/
def frI (i : Nat) : Prop := i = 2 ∨ i = 3 ∨ (5 ≤ i ∧ i < 44) ∨ (60 ≤ i ∧ (i % 8 = 5 ∨ i % 8 = 1 ∨ i % 8 = 2 ∨ i % 8 = 3))
theorem VV.updf {v : Nat → Int32} {m n t i : Nat} (w : VV v m n t) (x : Int32) (h : frI i) : VV (upd v i x) m n t := by
  have h8 := w.n8
  unfold frI at h
  exact w.upd' x (by omega) (fun k hk e => by omega) (fun k hk e => by omega) (fun k hk e => by omega)
theorem VV.updl {v : Nat → Int32} {m n t a : Nat} (w : VV v m n t) (x : Int32) (hx : Sm 99 x) : VV (upd v (64 + 8 * a) x) m n t := by
  have h8 := w.n8
  exact w.upd' x (by omega) (fun k hk e => by omega) (fun k hk e => by omega) (fun k hk e => hx)
theorem VV.upds {v : Nat → Int32} {m n t i a : Nat} (w : VV v m n t) (x : Int32) (hi : i = 62 + 8 * a ∨ i = 63 + 8 * a) (hx : By x) : VV (upd v i x) m n t := by
  have h8 := w.n8
  exact w.upd' x (by omega) (fun k hk e => by omega) (fun k hk e => hx) (fun k hk e => by omega)
theorem VV.updt {v : Nat → Int32} {m n t t' : Nat} (w : VV v m n t) (h : t' ≤ 9999) : VV (upd v 4 (nI t')) m n t' := by
  refine ⟨w.1, w.2.1, h, by rw [upd_ne (by decide)]; exact w.e0, by rw [upd_ne (by decide)]; exact w.e1, upd_at, fun k hk => ?_, fun k hk => ?_⟩
  · rw [upd_ne (by omega)]
    exact w.wd hk
  · rw [upd_ne (by omega), upd_ne (by omega), upd_ne (by omega)]
    exact w.2.2.2.2.2.2.2 k hk
theorem fin_ok {M2 N1 N2 : Mem} {v' : Nat → Int32} {m n t : Nat} (hN2 : ∀ k, k ≠ 10 → N2 k = N1 k) (mid : ∀ k, 18 ≤ k → k < 31 → N1 k = M2 k) (hv : N2 10 = v') (hm : 1 ≤ m) (hr : HR M2 18 v' m n) (w : VV v' m n t) : HOK N2 18 (N2 10) :=
  ⟨m, n, t, hm, by rw [hv]; exact hr.cong (fun i hi => by rw [hN2 _ (by omega), mid _ (by omega) (by omega)]), by rw [hv]; exact w⟩
theorem By_or {x : Int32} (h : By x) {j : Nat} (hj : j < 8) : By (x ||| (ishl 1 (nI j))) := by
  obtain ⟨s, hs, rfl⟩ := h
  exact ⟨_, or_lt hs hj, or_nI hs hj⟩
/-! want -/
theorem X1_addWant {M : Mem} {o m n t a j : Nat} {v : Nat → Int32} (h : HR M o v m n) (w : VV v m n t) (ha : a < m) (hj : j < 8) : f_X1_addWant o (nI a) (nI j) M = some (pcI (v (63 + 8 * a) ||| (ishl 1 (nI j))), mput M (o + 4) a (v (63 + 8 * a) ||| (ishl 1 (nI j)))) := by
  have h12 := w.m12
  have i1 : inB (nI a) 12 = true := inB_nI (by omega) (by decide)
  unfold f_X1_addWant
  rw [ev_chk i1, ev_chk i1, letM_eq, ev_chk i1, ix_nI (by omega), h.wn ha, mput_at, ev_bnd (bc_By (By_or (w.wn ha) hj) _)]
theorem X6_wants {M : Mem} {m n t a j : Nat} {v : Nat → Int32} (hv : M 10 = v) (w : VV v m n t) (ha : a < m) (hj : j < 8) : f_X6_wants (nI a) (nI j) M = some (pcI (v (63 + 8 * a) ||| (ishl 1 (nI j))), mput M 10 (63 + 8 * a) (v (63 + 8 * a) ||| (ishl 1 (nI j)))) := by
  have h12 := w.m12
  have e : ∀ N : Mem, f_X6_mo (nI a) 3 N = some (nI (63 + 8 * a)) := fun N => ev_moc 3 (c := 3) rfl (by omega)
  unfold f_X6_wants
  rw [ev_bnd (e M), ev_chk (inB_nI (by omega) (by decide)), ev_chk (inB_nI (by omega) (by decide)), letM_eq, ev_bnd (e _), ev_chk (inB_nI (by omega) (by decide)), ix_nI (by omega), hv, mput_at, ev_bnd (bits_By (By_or (w.wn ha) hj) _)]
theorem C_want {M : Mem} (hI : Inv M) (p q : Int32) : Agr (f_L_want p q M) (f_X6_want p q) := by
  obtain ⟨m, n, t, hm, h, w⟩ := hI.ow
  have h12 := w.m12
  have h8 := w.n8
  have hv : M 10 = M 10 := rfl
  cases hp : inM p m with
  | false =>
    have hc : f_X5_want p q M = some (1, 0, M) := by
      unfold f_X5_want
      rw [X5_requireMonk h w, hp, bnd3_some]
      rfl
    refine agrk hI (b := 0) (by decide) (L1_want hc) ?_
    unfold f_X6_want f_X6_want_21 f_X6_want_22
    rw [X6_isMonk hv w, hp, bnd_some, if_pos b2_f, letM_eq, mput_at]
    rfl
  | true =>
    cases hq : inM q n with
    | false =>
      have hc : f_X5_want p q M = some (1, 0, M) := by
        unfold f_X5_want
        rw [X5_requireMonk h w, hp, bnd3_some, ex_t, if_pos rfl, X5_requireNeed h w, hq, bnd3_some]
        rfl
      refine agrk hI (b := 0) (by decide) (L1_want hc) ?_
      unfold f_X6_want f_X6_want_21 f_X6_want_22
      rw [X6_isMonk hv w, hp, bnd_some, if_neg (by decide), X6_isNeed hv w, hq, bnd_some, if_pos b2_f, letM_eq, mput_at]
      rfl
    | true =>
      obtain ⟨a, ha, rfl⟩ := inM_t (by omega) hp
      obtain ⟨j, hj, rfl⟩ := inM_t (by omega) hq
      have e1 : ∀ N : Mem, N 10 = M 10 → f_X6_isSet (nI a) 3 (nI j) N = some (b2 (mm (M 10 (63 + 8 * a)) j)) := fun N hN => by
        have := X6_isSet (v := M 10) hN (c := 3) (show a < 12 by omega) (by decide) (by rw [show 60 + 8 * a + 3 = 63 + 8 * a by omega]; exact w.wn ha) (show j < 8 by omega)
        rw [show 60 + 8 * a + 3 = 63 + 8 * a by omega] at this
        exact this
      cases hb : mm (M 10 (63 + 8 * a)) j with
      | true =>
        have hc : f_X5_want (nI a) (nI j) M = some (0, -11, M) := by
          unfold f_X5_want
          rw [X5_requireMonk h w, hp, bnd3_some, ex_t, if_pos rfl, X5_requireNeed h w, hq, bnd3_some, ex_t, if_pos rfl, ev_bnd (X1_wantRefusal h w ha hj), hb]
          rfl
        refine agr0 hI (L0_want hc) ?_
        unfold f_X6_want f_X6_want_22
        rw [X6_isMonk (hv_out hv _) w, hp, bnd_some, if_neg (by decide), X6_isNeed (hv_out hv _) w, hq, bnd_some, if_neg (by decide), letM_eq, mput_at, if_pos le00, ev_bnd (e1 _ (hv_thr (hv_out hv _) 0)), hb, if_neg (by decide)]
      | false =>
        obtain ⟨M1, c1, hM1⟩ := rem_ex hI
        have h1 : HR M1 18 (M 10) m n := h.cong (fun i hi => hM1 _ (by omega) (by omega))
        have ex := X1_addWant h1 w ha (show j < 8 by omega)
        generalize hx : M 10 (63 + 8 * a) ||| (ishl 1 (nI j)) = x at ex
        have hxB : By x := by rw [← hx]; exact By_or (w.wn ha) (by omega)
        have hM2 : ∀ k, ¬ (18 ≤ k ∧ k < 31) → mput M1 22 a x k = M1 k := fun k hk => mput_row (by omega)
        have hc : f_X5_want (nI a) (nI j) M = some (0, pcI x, mput M1 22 a x) := by
          unfold f_X5_want
          rw [X5_requireMonk h w, hp, bnd3_some, ex_t, if_pos rfl, X5_requireNeed h w, hq, bnd3_some, ex_t, if_pos rfl, ev_bnd (X1_wantRefusal h w ha hj), hb, if_pos b2_f, ev_bnd c1, ev_bnd2 ex]
        obtain ⟨N1, d1, d4, d3⟩ := keep_ex (N := mput (mput (mput M1 22 a x) 17 0 (pcI x)) 9 6 0) hI (mid95 hM1 hM2) (Or.inl rfl)
        obtain ⟨n10, nmid, -, -⟩ := mid_N hM1 hM2 d4
        refine agrC (N2 := mput N1 10 (63 + 8 * a) x) hI c1 (L0_want hc) hM2 d1 ?_ (fun k hk => mput_row hk) ?_
        · have hv2 : (mput (mput M1 22 a x) 17 0 (pcI x)) 10 = M 10 := by rw [mput_row (by decide), hM2 10 (by decide), hM1 10 (by decide) (by decide)]
          unfold f_X6_want f_X6_want_22
          rw [X6_isMonk hv2 w, hp, bnd_some, if_neg (by decide), X6_isNeed hv2 w, hq, bnd_some, if_neg (by decide), letM_eq, mput_at, if_pos le00, ev_bnd (e1 _ (hv_thr hv2 0)), hb, if_pos b2_f, ev_bnd d1, X6_wants n10 w ha (by omega), hx]
          rfl
        · refine fin_ok (v' := upd (M 10) (63 + 8 * a) x) (fun k hk => mput_row hk) nmid (by rw [mput_self, n10]) hm (h1.putm h8 (c := 3) (by decide) (by decide) x rfl (by omega)) (w.upds x (Or.inr rfl) hxB)
/-! setBell -/
theorem C_setBell {M : Mem} (hI : Inv M) (p q : Int32) : Agr (f_L_setBell p q M) (f_X6_setBell p q) := by
  obtain ⟨m, n, t, hm, h, w⟩ := hI.ow
  have h8 := w.n8
  cases hp : inM p 24 with
  | false =>
    have hc : f_X5_setBell p q M = some (1, 0, M) := by
      unfold f_X5_setBell
      rw [X5_requireHour, hp, bnd3_some]
      rfl
    refine agrk hI (b := 0) (by decide) (L1_setBell hc) ?_
    unfold f_X6_setBell f_X6_setBell_29
    rw [X6_isIn, inR_hour, hp, bnd_some, if_pos b2_f, letM_eq, mput_at]
    rfl
  | true =>
    cases hq : inR q 0 2 with
    | false =>
      have hc : f_X5_setBell p q M = some (2, 0, M) := by
        unfold f_X5_setBell
        rw [X5_requireHour, hp, bnd3_some, ex_t, if_pos rfl, X5_requireWithin, hq, bnd3_some]
        rfl
      refine agrk hI (b := 0) (by decide) (L2_setBell hc) ?_
      unfold f_X6_setBell f_X6_setBell_29
      rw [X6_isIn, inR_hour, hp, bnd_some, if_neg (by decide), X6_isIn, hq, bnd_some, if_pos b2_f, letM_eq, mput_at]
      rfl
    | true =>
      obtain ⟨a, ha, rfl⟩ := inM_t (by decide) hp
      obtain ⟨M1, c1, hM1⟩ := rem_ex hI
      have h1 : HR M1 18 (M 10) m n := h.cong (fun i hi => hM1 _ (by omega) (by omega))
      have hM2 : ∀ k, ¬ (18 ≤ k ∧ k < 31) → mput M1 29 a q k = M1 k := fun k hk => mput_row (by omega)
      have hc : f_X5_setBell (nI a) q M = some (0, M 10 (20 + a), mput M1 29 a q) := by
        unfold f_X5_setBell
        rw [X5_requireHour, hp, bnd3_some, ex_t, if_pos rfl, X5_requireWithin, hq, bnd3_some, ex_t, if_pos rfl, ev_bnd c1, ev_chk (inB_nI ha (by decide)), ev_chk (inB_nI ha (by decide)), letM_eq, ix_nI (by omega), show M1 29 a = _ from h1.bel ha]
      obtain ⟨N1, d1, d4, d3⟩ := keep_ex (N := mput (mput (mput M1 29 a q) 17 0 (M 10 (20 + a))) 9 6 0) hI (mid95 hM1 hM2) (Or.inl rfl)
      obtain ⟨n10, nmid, -, -⟩ := mid_N hM1 hM2 d4
      refine agrC (N2 := mput N1 10 (20 + a) q) hI c1 (L0_setBell hc) hM2 d1 ?_ (fun k hk => mput_row hk) ?_
      · unfold f_X6_setBell f_X6_setBell_29
        rw [X6_isIn, inR_hour, hp, bnd_some, if_neg (by decide), X6_isIn, hq, bnd_some, if_neg (by decide), letM_eq, mput_at, if_pos le00, ev_bnd d1, show (20 : Int32) = nI 20 from rfl, nI_add, ev_chk (inB_nI (by omega) (by decide)), ev_chk (inB_nI (by omega) (by decide)), letM_eq, ix_nI (by omega), n10]
      · exact fin_ok (v' := upd (M 10) (20 + a) q) (fun k hk => mput_row hk) nmid (by rw [mput_self, n10]) hm (h1.putb ha q rfl rfl) (w.updf q (by unfold frI; omega))
/-! set -/
theorem C_set {M : Mem} (hI : Inv M) (p q : Int32) : Agr (f_L_set p q M) (f_X6_set p q) := by
  obtain ⟨m, n, t, hm, h, w⟩ := hI.ow
  have h8 := w.n8
  have bad : f_X5_set p q M = some (2, 0, M) → f_X6_set_35 p q M = f_X6_set p q M → Agr (f_L_set p q M) (f_X6_set p q) := fun hc h6 => by
    refine agrk hI (b := 0) (by decide) (L2_set hc) ?_
    rw [← h6]
    unfold f_X6_set_35 f_X6_set_36
    rw [letM_eq, mput_at]
    rfl
  have go : ∀ c : Nat, (c = 2 ∨ c = 3) → ∀ M1, f_X0_remember 18 M = some M1 → f_X5_set p q M = some (0, M1 18 (12 + c), mput M1 18 (12 + c) q) → (∀ N, f_X6_set p q N = f_X6_set_36 (nI c) q 0 N) → Agr (f_L_set p q M) (f_X6_set p q) := fun c hc M1 c1 hX h6 => by
    obtain ⟨M1', c1', hM1⟩ := rem_ex hI
    rw [c1] at c1'
    cases c1'
    have h1 : HR M1 18 (M 10) m n := h.cong (fun i hi => hM1 _ (by omega) (by omega))
    have hM2 : ∀ k, ¬ (18 ≤ k ∧ k < 31) → mput M1 18 (12 + c) q k = M1 k := fun k hk => mput_row (by omega)
    have hval : M1 18 (12 + c) = M 10 c := by
      rcases hc with rfl | rfl
      · exact h1.pap
      · exact h1.gra
    rw [hval] at hX
    obtain ⟨N1, d1, d4, d3⟩ := keep_ex (N := mput (mput (mput M1 18 (12 + c) q) 17 0 (M 10 c)) 9 6 0) hI (mid95 hM1 hM2) (Or.inl rfl)
    obtain ⟨n10, nmid, -, -⟩ := mid_N hM1 hM2 d4
    refine agrC (N2 := mput N1 10 c q) hI c1 (L0_set hX) hM2 d1 ?_ (fun k hk => mput_row hk) ?_
    · rw [h6]
      unfold f_X6_set_36
      rw [letM_eq, mput_at, if_pos le00, ev_bnd d1, ev_chk (inB_nI (by omega) (by decide)), ev_chk (inB_nI (by omega) (by decide)), letM_eq, ix_nI (by omega), n10]
    · exact fin_ok (v' := upd (M 10) c q) (fun k hk => mput_row hk) nmid (by rw [mput_self, n10]) hm (h1.puts (by omega) q rfl) (w.updf q (by unfold frI; omega))
  obtain ⟨M1, c1, -⟩ := rem_ex hI
  cases hp : inR p 2 3 with
  | false =>
    have n2 : ¬ p = 2 := fun e => by subst e; revert hp; decide
    have n3 : ¬ p = 3 := fun e => by subst e; revert hp; decide
    refine bad ?_ ?_
    · unfold f_X5_set
      rw [X5_requireWithin, hp, bnd3_some]
      rfl
    · unfold f_X6_set f_X6_set_16
      rw [if_neg n2, if_neg n3]
  | true =>
    obtain ⟨c, hc1, hc2, rfl⟩ := inR_t (a := 2) (b := 3) (by decide) (by decide) hp
    rcases (show c = 2 ∨ c = 3 by omega) with rfl | rfl
    · cases hq : inR q 0 99 with
      | false =>
        refine bad ?_ ?_
        · unfold f_X5_set f_X5_set_16 f_X5_set_30
          rw [X5_requireWithin, hp, bnd3_some, ex_t, if_pos rfl, if_pos (show nI 2 = 2 from rfl), if_neg (by decide), X5_requireWithin, hq, bnd3_some]
          rfl
        · unfold f_X6_set f_X6_set_16
          rw [if_pos (show nI 2 = 2 from rfl), X6_isIn, hq, bnd_some, if_pos b2_f, if_neg (by decide)]
      | true =>
        refine go 2 (Or.inl rfl) M1 c1 ?_ (fun N => ?_)
        · unfold f_X5_set f_X5_set_16 f_X5_set_30 f_X5_set_65
          rw [X5_requireWithin, hp, bnd3_some, ex_t, if_pos rfl, if_pos (show nI 2 = 2 from rfl), if_neg (by decide), X5_requireWithin, hq, bnd3_some, ex_t, if_pos rfl, ev_bnd c1, if_neg (by decide), if_neg (by decide)]
          rfl
        · unfold f_X6_set f_X6_set_31
          rw [if_pos (show nI 2 = 2 from rfl), X6_isIn, hq, bnd_some, if_neg (by decide)]
    · cases hq : inR q 0 50 with
      | false =>
        refine bad ?_ ?_
        · unfold f_X5_set f_X5_set_16 f_X5_set_30
          rw [X5_requireWithin, hp, bnd3_some, ex_t, if_pos rfl, if_neg (by decide), if_pos rfl, X5_requireWithin, hq, bnd3_some]
          rfl
        · unfold f_X6_set f_X6_set_16
          rw [if_neg (by decide), if_pos (show nI 3 = 3 from rfl), X6_isIn, hq, bnd_some, if_pos b2_f]
      | true =>
        refine go 3 (Or.inr rfl) M1 c1 ?_ (fun N => ?_)
        · unfold f_X5_set f_X5_set_16 f_X5_set_30 f_X5_set_65
          rw [X5_requireWithin, hp, bnd3_some, ex_t, if_pos rfl, if_neg (by decide), if_pos rfl, X5_requireWithin, hq, bnd3_some, ex_t, if_pos rfl, ev_bnd c1, if_pos rfl, if_pos rfl]
          rfl
        · unfold f_X6_set f_X6_set_16 f_X6_set_31
          rw [if_neg (by decide), if_pos (show nI 3 = 3 from rfl), X6_isIn, hq, bnd_some, if_neg (by decide)]
