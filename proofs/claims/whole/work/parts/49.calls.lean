/-! STILL MORE CALLS THAT CHANGE NOTHING -/
theorem mput_mput (M : Mem) (k c : Nat) (x y : Int32) : mput (mput M k c x) k c y = mput M k c y := by
  funext i j
  by_cases hi : i = k
  · subst hi
    by_cases hj : j = c
    · subst hj; rw [mput_at, mput_at]
    · rw [mput_col hj, mput_col hj, mput_col hj]
  · rw [mput_row hi, mput_row hi, mput_row hi]
theorem mput_id (M : Mem) (k c : Nat) : mput M k c (M k c) = M := by
  funext i j
  by_cases hi : i = k
  · subst hi
    by_cases hj : j = c
    · subst hj; rw [mput_at]
    · rw [mput_col hj]
  · rw [mput_row hi]
theorem nI_02 (k : Nat) (hk : k < 3) : nI k = 0 ↔ k = 0 := nI_eq (by omega) (by decide)
section CS
variable {M : Mem} {m n t : Nat} {v : Nat → Int32}
def sWy (v : Nat → Int32) (t a b j way dep : Nat) : Int32 := if dep = 0 then sTr v t a b j way else if dep = 1 then sCa v t a b j way (sTr v t a b j way) else sDp v t a j (sTr v t a b j way)
theorem X6_why82 (hv : M 10 = v) (w : VV v m n t) {a b j way dep : Nat} (ha : a < m) (hb : b < m) (hj : j < n) (hw : way < 3) (hd : dep < 3) : f_X6_why_82 (nI a) (nI b) (nI j) (nI way) (nI dep) (sTr v t a b j way) M = some (sWy v t a b j way dep, M) := by
  have hok := sTr_ok (v := v) (t := t) (a := a) (b := b) (j := j) hw
  unfold f_X6_why_82 sWy
  rw [ev_bnd (X6_cause hv w ha hb hj hw hok), ev_bnd (X6_deep hv w ha hj hok)]
  rcases (show dep = 0 ∨ dep = 1 ∨ dep = 2 by omega) with rfl | rfl | rfl <;> rfl
theorem X6_why43 (hv : M 10 = v) (w : VV v m n t) (h0 : M 9 6 = 0) {a b j way dep : Nat} (ha : a < m) (hb : b < m) (hj : j < n) (hw : way < 3) (hd : dep < 3) : f_X6_why_43 (nI a) (nI b) (nI j) (nI way) (nI dep) M = some (sWy v t a b j way dep, M) := by
  have key := X6_why82 hv w ha hb hj hw hd
  unfold f_X6_why_43
  rw [h0, if_pos le00, ev_bnd (X6_reason hv w ha hb hj hw), ev_bnd (X6_howSpoken hv w ha hj)]
  unfold sTr at key
  by_cases hz : sRe v t a b j way = 0
  · rw [if_pos hz] at key ⊢
    by_cases h2 : way = 2
    · subst h2
      rw [if_pos rfl] at key
      rw [if_pos (show nI 2 = 2 from rfl)]
      exact key
    · rw [if_neg h2] at key
      rw [if_neg (show ¬ nI way = 2 from fun q => h2 (nI_inj (by omega) (by decide) q)), hz]
      exact key
  · rw [if_neg hz] at key ⊢
    exact key
theorem C_why (hI : Inv M) (p q r y d : Int32) : Agr (f_L_why p q r y d M) (f_X6_why p q r y d) := by
  obtain ⟨m, n, t, hm, h, w⟩ := hI.ow
  have h12 := w.m12
  have h8 := w.n8
  have hv : M 10 = M 10 := rfl
  have bad : ∀ k : Nat, (k = 1 ∨ k = 2) → f_X5_why p q r y d M = some (k, 0, M) → f_X6_why p q r y d M = some (0, mput M 9 6 (nI k)) → Agr (f_L_why p q r y d M) (f_X6_why p q r y d) := fun k hk hc h6 => by
    rcases hk with rfl | rfl
    · exact agrk hI (b := 0) (k := nI 1) (by decide) (L1_why hc) h6
    · exact agrk hI (b := 0) (k := nI 2) (by decide) (L2_why hc) h6
  by_cases hw : sWt p q r m n = 0
  · have e38 : ∀ N : Mem, f_X6_why_38 p q r y d N = some (0, mput N 9 6 2) := fun N => by
      unfold f_X6_why_38 f_X6_why_43
      rw [letM_eq, mput_at]
      rfl
    cases hy : inR y 0 2 with
    | false =>
      refine bad 2 (Or.inr rfl) ?_ ?_
      · unfold f_X5_why
        rw [X5_requireTelling h w, hw, bnd3_some, if_pos rfl, X5_requireWithin, hy, bnd3_some]
        rfl
      · unfold f_X6_why
        rw [X6_wrongTwo hv w, hw, bnd_some, letM_eq, mput_at, nI_0, if_pos rfl, X6_isIn, hy, bnd_some, if_pos b2_f, e38, mput_mput]
        rfl
    | true =>
      cases hd : inR d 0 2 with
      | false =>
        refine bad 2 (Or.inr rfl) ?_ ?_
        · unfold f_X5_why
          rw [X5_requireTelling h w, hw, bnd3_some, if_pos rfl, X5_requireWithin, hy, bnd3_some, ex_t, if_pos rfl, X5_requireWithin, hd, bnd3_some]
          rfl
        · unfold f_X6_why
          rw [X6_wrongTwo hv w, hw, bnd_some, letM_eq, mput_at, nI_0, if_pos rfl, X6_isIn, hy, bnd_some, if_neg (by decide), X6_isIn, hd, bnd_some, if_pos b2_f, e38, mput_mput]
          rfl
      | true =>
        obtain ⟨a, b, j, ha, hb, hj, hab, rfl, rfl, rfl⟩ := sWt_0 h12 h8 hw
        obtain ⟨way, -, hway, rfl⟩ := inR_t (a := 0) (b := 2) (by decide) (by decide) hy
        obtain ⟨dep, -, hdep, rfl⟩ := inR_t (a := 0) (b := 2) (by decide) (by decide) hd
        have hok := sTr_ok (v := M 10) (t := t) (a := a) (b := b) (j := j) (show way < 3 by omega)
        have hX : f_X5_why (nI a) (nI b) (nI j) (nI way) (nI dep) M = some (0, sWy (M 10) t a b j way dep, M) := by
          unfold f_X5_why sWy
          rw [X5_requireTelling h w, hw, bnd3_some, if_pos rfl, X5_requireWithin, hy, bnd3_some, ex_t, if_pos rfl, X5_requireWithin, hd, bnd3_some, ex_t, if_pos rfl, ev_bnd (X1_tellingReason h w ha hb hj (by omega)), ev_bnd (X1_causeOf h w ha hb hj (by omega) hok), ev_bnd (X1_causeBehind h w ha hj hok)]
          rcases (show dep = 0 ∨ dep = 1 ∨ dep = 2 by omega) with rfl | rfl | rfl <;> rfl
        refine agr0 hI (L0_why hX) ?_
        unfold f_X6_why
        rw [X6_wrongTwo (hv_out hv _) w, hw, bnd_some, letM_eq, mput_at, nI_0, if_pos rfl, X6_isIn, hy, bnd_some, if_neg (by decide), X6_isIn, hd, bnd_some, if_neg (by decide), X6_why43 (hv_thr (hv_out hv _) 0) w mput_at ha hb hj (by omega) (by omega)]
  · have h3 := sWt_3 (m := m) (n := n) p q r
    refine bad (sWt p q r m n) (by omega) ?_ ?_
    · unfold f_X5_why
      rw [X5_requireTelling h w, bnd3_some, if_neg hw]
    · unfold f_X6_why f_X6_why_43
      rw [X6_wrongTwo hv w, bnd_some, letM_eq, mput_at, if_neg (show ¬ nI (sWt p q r m n) = 0 from fun e => hw ((nI_02 _ h3).mp e)), if_neg (show ¬ nI (sWt p q r m n) ≤ 0 from nI_nle (by omega) (by omega))]
/-! those that throw nothing -/
def AgrN (c : Option Int32) (md : Option (Int32 × Mem)) : Prop := ∃ r M2, c = some r ∧ md = some (r, M2) ∧ Inv M2
theorem agrN {c : Option Int32} {md : Option (Int32 × Mem)} {r : Int32} (hI : Inv M) (hc : c = some r) (hm : md = some (r, mput M 9 6 0)) : AgrN c md := ⟨r, _, hc, hm, hI.same (Same.thr M 0)⟩
theorem C_errorPosition (hI : Inv M) : AgrN (f_X5_errorPosition M) (f_X6_errorPosition M) := by
  refine agrN (r := M 9 17) hI ?_ ?_
  · unfold f_X5_errorPosition
    rw [show M 1 4 = M 9 17 from hI.2.2.2.2.2]
  · unfold f_X6_errorPosition
    rw [letM_eq, mput_col (by decide)]
theorem gap_eq (a l o f g e s : Int32) : (a + f) + (((g - l) - e) - s) = ((((a + f) + g) - l) - e) - s := by
  simp only [Int32.sub_eq_add_neg, Int32.add_assoc]
theorem C_gap (hI : Inv M) : AgrN (f_X5_gap M) (f_X6_gap M) := by
  obtain ⟨m, n, t, hm, h, w⟩ := hI.ow
  have hv : M 10 = M 10 := rfl
  have hA : ∀ k, k < 14 → M 30 k = M 10 (6 + k) := fun k hk => h.acc hk
  refine agrN hI (r := (((M 10 10 + M 10 11 + M 10 12) - M 10 5) + ((M 10 14 - M 10 15) - sumTo (fun k => M 10 (65 + 8 * k)) m)) + (((M 10 16 - M 10 11) - M 10 17) - sumTo (fun k => M 10 (64 + 8 * k)) m)) ?_ ?_
  · unfold f_X5_gap
    rw [ev_bnd (X1_sumOf h w 24), ev_bnd (X1_sumOf h w 23), sumTo_congr (h := fun k => M 10 (65 + 8 * k)) (fun k hk => h.fs hk), sumTo_congr (g := fun k => M 23 k) (h := fun k => M 10 (64 + 8 * k)) (fun k hk => h.lv hk), hA 4 (by decide), hA 5 (by decide), hA 6 (by decide), hA 8 (by decide), hA 9 (by decide), hA 10 (by decide), hA 11 (by decide), show M 18 17 = M 10 5 from h.voi]
  · have hv' := hv_thr hv 0
    unfold f_X6_gap f_X6_spoken
    rw [letM_eq, bnd_some, ev_bnd (X6_sum5 hv' w), ev_bnd (X6_sum4 hv' w), hv', gap_eq _ _ 0]
/-! means: the doubles -/
theorem C_meanFast (hI : Inv M) : ∃ z, f_X5_meanFast M = some z ∧ f_X6_meanFast M = some (z, mput M 9 6 0) := by
  obtain ⟨m, n, t, hm, h, w⟩ := hI.ow
  have hv : M 10 = M 10 := rfl
  have h12 := w.m12
  have hv' := hv_thr hv 0
  refine ⟨FP.ddiv (FP.i2d (sumTo (fun k => M 10 (65 + 8 * k)) m)) (FP.i2d (nI m)), ?_, ?_⟩
  · unfold f_X5_meanFast
    rw [show M 18 12 = nI m from h.1.1.trans w.e0, if_neg (show ¬ nI m = 0 from nI_ne0 (by omega) (by omega)), ev_bnd (X1_sumOf h w 24), sumTo_congr (h := fun k => M 10 (65 + 8 * k)) (fun k hk => h.fs hk)]
  · unfold f_X6_meanFast
    rw [letM_eq, ev_bnd (X6_sum5 hv' w), hv', w.e0]
theorem C_breachShare (hI : Inv M) : ∃ z, f_X5_breachShare M = some z ∧ f_X6_breachShare M = some (z, mput M 9 6 0) := by
  obtain ⟨m, n, t, hm, h, w⟩ := hI.ow
  have hv : M 10 = M 10 := rfl
  have hv' := hv_thr hv 0
  have hA : ∀ k, k < 14 → M 30 k = M 10 (6 + k) := fun k hk => h.acc hk
  unfold f_X5_breachShare f_X6_breachShare f_X6_spoken
  rw [hA 4 (by decide), hA 5 (by decide), hA 6 (by decide), letM_eq, bnd_some, bnd_some, hv']
  by_cases hz : M 10 10 + M 10 11 + M 10 12 = 0
  · rw [if_pos hz, if_pos hz]
    exact ⟨_, rfl, rfl⟩
  · rw [if_neg hz, if_neg hz]
    exact ⟨_, rfl, rfl⟩
/-! searches -/
def srch (q : Nat → Bool) : Nat → Nat → Int32
  | 0, _ => -1
  | d + 1, k => if q k = true then nI k else srch q d (k + 1)
theorem C_speechIn (hI : Inv M) : AgrN (f_X5_speechIn M) (f_X6_speechIn M) := by
  obtain ⟨m, n, t, hm, h, w⟩ := hI.ow
  have hv : M 10 = M 10 := rfl
  have hv' := hv_thr hv 0
  have h9 := w.2.2.1
  have hidx : ∀ k, k < 24 → irem (nI t + nI k) 24 = nI ((t + k) % 24) := fun k hk => by
    rw [show (24 : Int32) = nI 24 from rfl, nI_add, nI_irem (by omega) (by decide)]
  refine agrN hI (r := srch (fun k => sSp (bvo (M 10)) ((t + k) % 24)) 24 0) ?_ ?_
  · refine lp_dn (z := fun _ => none) (b := f_X5_speechIn_2 M) (fun k r => r (nI k) = some (srch (fun k => sSp (bvo (M 10)) ((t + k) % 24)) (24 - k) k)) 24 (fun r => ?_) (fun k r hk ih => ?_) 0 FU (by omega) (by rw [FU_eq]; omega)
    · unfold f_X5_speechIn_2
      rw [show (24 : Int32) = nI 24 from rfl, if_pos (le_self_nI 24)]
      rfl
    · unfold f_X5_speechIn_2
      rw [show M 18 16 = nI t from h.tim.trans w.e4, hidx k hk, ev_bnd (X1_isSpeechAt h (Nat.mod_lt _ (by decide))), show (24 : Int32) = nI 24 from rfl, if_neg (not_le_nI hk (by decide)), show 24 - k = (24 - (k + 1)) + 1 by omega, ← nI_succ, ih]
      show _ = some (if sSp (bvo (M 10)) ((t + k) % 24) = true then nI k else srch _ (24 - (k + 1)) (k + 1))
      cases sSp (bvo (M 10)) ((t + k) % 24) <;> rfl
  · unfold f_X6_speechIn
    rw [letM_eq]
    refine lp_dn (z := fun _ _ => none) (b := f_X6_speechIn_7) (fun k r => r (nI k) (mput M 9 6 0) = some (srch (fun k => sSp (bvo (M 10)) ((t + k) % 24)) (24 - k) k, mput M 9 6 0)) 24 (fun r => ?_) (fun k r hk ih => ?_) 0 FU (by omega) (by rw [FU_eq]; omega)
    · unfold f_X6_speechIn_7
      rw [show (24 : Int32) = nI 24 from rfl, if_pos (le_self_nI 24)]
      rfl
    · unfold f_X6_speechIn_7
      rw [hv', w.e4, hidx k hk, ev_bnd (X6_isSpeech hv' (Nat.mod_lt _ (by decide))), show (24 : Int32) = nI 24 from rfl, if_neg (not_le_nI hk (by decide)), show 24 - k = (24 - (k + 1)) + 1 by omega, ← nI_succ, ih]
      show _ = some (if sSp (bvo (M 10)) ((t + k) % 24) = true then nI k else srch _ (24 - (k + 1)) (k + 1), mput M 9 6 0)
      cases sSp (bvo (M 10)) ((t + k) % 24) <;> rfl
theorem X1_monksAheadOf (h : HR M 18 v m n) (w : VV v m n t) {i : Nat} (hi : i < m) : f_X1_monksAheadOf 18 (nI i) M = some (sumTo (fun k => b2 (sAh v k i)) m) := by
  have hm : M 18 12 = nI m := h.1.1.trans w.e0
  have h12 := w.m12
  refine acc3 _ _ m (by omega) (fun r a k hk => ?_) (fun r a => ?_)
  · unfold f_X1_monksAheadOf_4 f_X1_monksAheadOf_24
    rw [hm, if_neg (not_le_nI hk (by omega)), ev_bnd (X1_isAhead h w hk hi)]
    cases sAh v k i with
    | false => rw [if_pos b2_f, add_b2f]
    | true => rw [if_neg (by decide), add_b2t]
  · unfold f_X1_monksAheadOf_4
    rw [hm, if_pos (le_self_nI m)]
theorem C_ranked (hI : Inv M) (p : Int32) : AgrN (f_X5_ranked p M) (f_X6_ranked p M) := by
  obtain ⟨m, n, t, hm, h, w⟩ := hI.ow
  have h12 := w.m12
  have hv : M 10 = M 10 := rfl
  have hv' := hv_thr hv 0
  have hm0 : M 18 12 = nI m := h.1.1.trans w.e0
  refine agrN hI (r := srch (fun i => decide (sumTo (fun k => b2 (sAh (M 10) k i)) m = p)) m 0) ?_ ?_
  · refine lp_dn (z := fun _ _ => none) (b := f_X5_ranked_2 M) (fun k r => r p (nI k) = some (srch (fun i => decide (sumTo (fun k => b2 (sAh (M 10) k i)) m = p)) (m - k) k)) m (fun r => ?_) (fun k r hk ih => ?_) 0 FU (by omega) (by rw [FU_eq]; omega)
    · unfold f_X5_ranked_2
      rw [hm0, if_pos (le_self_nI m), Nat.sub_self]
      rfl
    · unfold f_X5_ranked_2
      rw [hm0, if_neg (not_le_nI hk (by omega)), ev_bnd (X1_monksAheadOf h w hk), show m - k = (m - (k + 1)) + 1 by omega, ← nI_succ, ih]
      show _ = some (if decide (sumTo (fun k' => b2 (sAh (M 10) k' k)) m = p) = true then nI k else srch _ (m - (k + 1)) (k + 1))
      by_cases hz : sumTo (fun k' => b2 (sAh (M 10) k' k)) m = p
      · rw [if_pos hz, if_pos (decide_eq_true hz)]
      · rw [if_neg hz, if_neg (by simp [hz])]
  · unfold f_X6_ranked
    rw [letM_eq]
    refine lp_dn (z := fun _ _ _ => none) (b := f_X6_ranked_7) (fun k r => r p (nI k) (mput M 9 6 0) = some (srch (fun i => decide (sumTo (fun k => b2 (sAh (M 10) k i)) m = p)) (m - k) k, mput M 9 6 0)) m (fun r => ?_) (fun k r hk ih => ?_) 0 FU (by omega) (by rw [FU_eq]; omega)
    · unfold f_X6_ranked_7
      rw [hv', w.e0, if_pos (le_self_nI m), Nat.sub_self]
      rfl
    · unfold f_X6_ranked_7
      rw [hv', w.e0, if_neg (not_le_nI hk (by omega))]
      have inner := lp_dn (z := fun _ _ _ _ _ => none) (b := f_X6_ranked_22 r) (fun i q => q p (nI k) (sumTo (fun k' => b2 (sAh (M 10) k' k)) i) (nI i) (mput M 9 6 0) = if sumTo (fun k' => b2 (sAh (M 10) k' k)) m = p then some (nI k, mput M 9 6 0) else r p (nI k + 1) (mput M 9 6 0)) m (fun q => ?_) (fun i q hi ih2 => ?_) 0 FU (by omega) (by rw [FU_eq]; omega)
      · refine Eq.trans inner ?_
        rw [show m - k = (m - (k + 1)) + 1 by omega, ← nI_succ, ih]
        show _ = some (if decide (sumTo (fun k' => b2 (sAh (M 10) k' k)) m = p) = true then nI k else srch _ (m - (k + 1)) (k + 1), mput M 9 6 0)
        by_cases hz : sumTo (fun k' => b2 (sAh (M 10) k' k)) m = p
        · rw [if_pos hz, if_pos (decide_eq_true hz)]
        · rw [if_neg hz, if_neg (by simp [hz])]
      · unfold f_X6_ranked_22
        rw [hv', w.e0, if_pos (le_self_nI m)]
      · unfold f_X6_ranked_22 f_X6_ranked_49
        rw [hv', w.e0, if_neg (not_le_nI hi (by omega)), ev_bnd (X6_isAhead hv' w hi hk), ← ih2, nI_succ]
        show _ = q p (nI k) (sumTo (fun k' => b2 (sAh (M 10) k' k)) i + b2 (sAh (M 10) i k)) (nI i + 1) (mput M 9 6 0)
        cases sAh (M 10) i k <;> rfl
/-! the best of many -/
def mxOf (c : Nat → Int32) : Nat → Nat → Nat → Nat
  | 0, _, b => b
  | d + 1, k, b => if c k ≤ c b then mxOf c d (k + 1) b else mxOf c d (k + 1) k
theorem hWB (hv : M 10 = v) {k : Nat} (hk : k < 24) : f_X6_hoursWithBell (nI k) M = some (sHr (bvq v (nI k)), M) := by
  unfold f_X6_hoursWithBell
  have e1 : 20 + nI k = nI (20 + k) := by rw [show (20 : Int32) = nI 20 from rfl, nI_add]
  have e2 : (mput M 10 (20 + k) 2) 10 = upd v (20 + k) 2 := by rw [mput_self, hv]
  rw [e1, ev_chk (inB_nI (by omega) (by decide)), ev_chk (inB_nI (by omega) (by decide)), letM_eq, ix_nI (by omega), ev_bnd (X6_hoursOfSpeech e2), ev_chk (inB_nI (by omega) (by decide)), letM_eq, mput_mput, mput_id, sHr_congr (bw := bvq v (nI k)) (fun i hi => ?_)]
  unfold bvo bvq upd
  by_cases hik : i = k
  · subst hik; rw [if_pos rfl, if_pos rfl]
  · rw [if_neg (show ¬ 20 + i = 20 + k by omega), if_neg (fun q => hik (nI_inj (by omega) (by omega) q))]
theorem C_bestBell (hI : Inv M) : AgrN (f_X5_bestBell M) (f_X6_bestBell M) := by
  obtain ⟨m, n, t, hm, h, w⟩ := hI.ow
  have hv : M 10 = M 10 := rfl
  have hv' := hv_thr hv 0
  refine agrN hI (r := nI (mxOf (fun k => sHr (bvq (M 10) (nI k))) 23 1 0)) ?_ ?_
  · refine (lp_dn (z := fun _ _ => none) (b := f_X5_bestBell_4 M) (fun k r => ∀ b, b < 24 → r (nI b) (nI k) = some (nI (mxOf (fun k => sHr (bvq (M 10) (nI k))) (24 - k) k b))) 24 (fun r b hb => ?_) (fun k r hk ih b hb => ?_) 1 FU (by omega) (by rw [FU_eq]; omega)) 0 (by decide)
    · unfold f_X5_bestBell_4
      rw [show (24 : Int32) = nI 24 from rfl, if_pos (le_self_nI 24)]
      rfl
    · unfold f_X5_bestBell_4 f_X5_bestBell_31
      rw [show (24 : Int32) = nI 24 from rfl, if_neg (not_le_nI hk (by decide)), ev_bnd (X1_speechHours h (nI k)), ev_bnd (X1_speechHours h (nI b)), ← nI_succ, ih b hb, ih k hk, show 24 - k = (24 - (k + 1)) + 1 by omega]
      show _ = some (nI (if sHr (bvq (M 10) (nI k)) ≤ sHr (bvq (M 10) (nI b)) then mxOf _ (24 - (k + 1)) (k + 1) b else mxOf _ (24 - (k + 1)) (k + 1) k))
      by_cases hz : sHr (bvq (M 10) (nI k)) ≤ sHr (bvq (M 10) (nI b))
      · rw [if_pos hz, if_pos hz]
      · rw [if_neg hz, if_neg hz]
  · unfold f_X6_bestBell
    rw [letM_eq]
    refine (lp_dn (z := fun _ _ _ => none) (b := f_X6_bestBell_9) (fun k r => ∀ b, b < 24 → r (nI b) (nI k) (mput M 9 6 0) = some (nI (mxOf (fun k => sHr (bvq (M 10) (nI k))) (24 - k) k b), mput M 9 6 0)) 24 (fun r b hb => ?_) (fun k r hk ih b hb => ?_) 1 FU (by omega) (by rw [FU_eq]; omega)) 0 (by decide)
    · unfold f_X6_bestBell_9
      rw [show (24 : Int32) = nI 24 from rfl, if_pos (le_self_nI 24)]
      rfl
    · unfold f_X6_bestBell_9 f_X6_bestBell_30
      rw [show (24 : Int32) = nI 24 from rfl, if_neg (not_le_nI hk (by decide)), ev_bnd2 (hWB hv' hk), ev_bnd2 (hWB hv' hb), ← nI_succ, ih b hb, ih k hk, show 24 - k = (24 - (k + 1)) + 1 by omega]
      show _ = some (nI (if sHr (bvq (M 10) (nI k)) ≤ sHr (bvq (M 10) (nI b)) then mxOf _ (24 - (k + 1)) (k + 1) b else mxOf _ (24 - (k + 1)) (k + 1) k), mput M 9 6 0)
      by_cases hz : sHr (bvq (M 10) (nI k)) ≤ sHr (bvq (M 10) (nI b))
      · rw [if_pos hz, if_pos hz]
      · rw [if_neg hz, if_neg hz]
def gMet (v : Nat → Int32) (i k : Nat) : Int32 := if k = i then 0 else if v (61 + 8 * i) < v (61 + 8 * k) then 0 else pcI ((v (63 + 8 * k) &&& v (62 + 8 * k)) &&& v (62 + 8 * i))
theorem X1_wantsMetBy (h : HR M 18 v m n) (w : VV v m n t) {i : Nat} (hi : i < m) : f_X1_wantsMetBy 18 (nI i) M = some (sumTo (gMet v i) m) := by
  have hm : M 18 12 = nI m := h.1.1.trans w.e0
  have h12 := w.m12
  refine acc3 _ _ m (by omega) (fun r a k hk => ?_) (fun r a => ?_)
  · unfold f_X1_wantsMetBy_4 f_X1_wantsMetBy_58 gMet
    rw [hm, if_neg (not_le_nI hk (by omega))]
    by_cases hki : k = i
    · subst hki
      rw [if_pos rfl, if_pos rfl, Int32.add_zero]
    · rw [if_neg (fun q => hki ((nI_eq (by omega) (by omega)).mp q)), if_neg hki]
      simp only [ev_chk (inB_nI (show k < 12 by omega) (by decide)), ev_chk (inB_nI (show i < 12 by omega) (by decide)), ix_nI (show k < 2 ^ 31 by omega), ix_nI (show i < 2 ^ 31 by omega)]
      rw [h.rk hi, h.rk hk, h.wn hk, h.kn hk, h.kn hi, ev_bnd (bc_By (By_and (By_and (w.wn hk) (w.kn hk)) (w.kn hi)) M)]
      by_cases hr : v (61 + 8 * i) < v (61 + 8 * k)
      · rw [if_pos hr, if_pos hr, Int32.add_zero]
      · rw [if_neg hr, if_neg hr]
  · unfold f_X1_wantsMetBy_4
    rw [hm, if_pos (le_self_nI m)]
theorem X6_metBy (hv : M 10 = v) (w : VV v m n t) {i : Nat} (hi : i < m) : f_X6_metBy (nI i) M = some (sumTo (gMet v i) m) := by
  have h12 := w.m12
  refine acc3 _ _ m (by omega) (fun r a k hk => ?_) (fun r a => ?_)
  · have e1 : f_X6_mo (nI k) 1 M = some (nI (61 + 8 * k)) := ev_moc 1 (c := 1) rfl (by omega)
    have e2 : f_X6_mo (nI i) 1 M = some (nI (61 + 8 * i)) := ev_moc 1 (c := 1) rfl (by omega)
    have e3 : f_X6_mo (nI k) 3 M = some (nI (63 + 8 * k)) := ev_moc 3 (c := 3) rfl (by omega)
    have e4 : f_X6_mo (nI k) 2 M = some (nI (62 + 8 * k)) := ev_moc 2 (c := 2) rfl (by omega)
    have e5 : f_X6_mo (nI i) 2 M = some (nI (62 + 8 * i)) := ev_moc 2 (c := 2) rfl (by omega)
    unfold f_X6_metBy_4 f_X6_metBy_83 gMet
    rw [hv, w.e0, if_neg (not_le_nI hk (by omega))]
    by_cases hki : k = i
    · subst hki
      rw [if_pos rfl, if_pos rfl, Int32.add_zero]
    · rw [if_neg (fun q => hki ((nI_eq (by omega) (by omega)).mp q)), if_neg hki, ev_bnd e1, ev_chk (inB_nI (by omega) (by decide)), ev_bnd e2, ev_chk (inB_nI (by omega) (by decide)), ev_bnd e3, ev_chk (inB_nI (by omega) (by decide)), ev_bnd e4, ev_chk (inB_nI (by omega) (by decide)), ev_bnd e5, ev_chk (inB_nI (by omega) (by decide)), ix_nI (by omega), ix_nI (by omega), ix_nI (by omega), ix_nI (by omega), ix_nI (by omega), ev_bnd (bits_By (By_and (By_and (w.wn hk) (w.kn hk)) (w.kn hi)) M)]
      by_cases hr : v (61 + 8 * i) < v (61 + 8 * k)
      · rw [if_neg (i32_nle.mpr hr), if_pos hr, Int32.add_zero]
      · rw [if_pos (i32_nlt.mp hr), if_neg hr]
  · unfold f_X6_metBy_4
    rw [hv, w.e0, if_pos (le_self_nI m)]
theorem C_bestHearer (hI : Inv M) : AgrN (f_X5_bestHearer M) (f_X6_bestHearer M) := by
  obtain ⟨m, n, t, hm, h, w⟩ := hI.ow
  have h12 := w.m12
  have hv : M 10 = M 10 := rfl
  have hv' := hv_thr hv 0
  have hm0 : M 18 12 = nI m := h.1.1.trans w.e0
  refine agrN hI (r := nI (mxOf (fun k => sumTo (gMet (M 10) k) m) (m - 1) 1 0)) ?_ ?_
  · refine (lp_dn (z := fun _ _ => none) (b := f_X5_bestHearer_4 M) (fun k r => ∀ b, b < m → r (nI b) (nI k) = some (nI (mxOf (fun k => sumTo (gMet (M 10) k) m) (m - k) k b))) m (fun r b hb => ?_) (fun k r hk ih b hb => ?_) 1 FU (by omega) (by rw [FU_eq]; omega)) 0 (by omega)
    · unfold f_X5_bestHearer_4
      rw [hm0, if_pos (le_self_nI m), Nat.sub_self]
      rfl
    · unfold f_X5_bestHearer_4 f_X5_bestHearer_36
      rw [hm0, if_neg (not_le_nI hk (by omega)), ev_bnd (X1_wantsMetBy h w hk), ev_bnd (X1_wantsMetBy h w hb), ← nI_succ, ih b hb, ih k hk, show m - k = (m - (k + 1)) + 1 by omega]
      show _ = some (nI (if sumTo (gMet (M 10) k) m ≤ sumTo (gMet (M 10) b) m then mxOf _ (m - (k + 1)) (k + 1) b else mxOf _ (m - (k + 1)) (k + 1) k))
      by_cases hz : sumTo (gMet (M 10) k) m ≤ sumTo (gMet (M 10) b) m
      · rw [if_pos hz, if_pos hz]
      · rw [if_neg hz, if_neg hz]
  · unfold f_X6_bestHearer
    rw [letM_eq]
    refine (lp_dn (z := fun _ _ _ => none) (b := f_X6_bestHearer_9) (fun k r => ∀ b, b < m → r (nI b) (nI k) (mput M 9 6 0) = some (nI (mxOf (fun k => sumTo (gMet (M 10) k) m) (m - k) k b), mput M 9 6 0)) m (fun r b hb => ?_) (fun k r hk ih b hb => ?_) 1 FU (by omega) (by rw [FU_eq]; omega)) 0 (by omega)
    · unfold f_X6_bestHearer_9
      rw [hv', w.e0, if_pos (le_self_nI m), Nat.sub_self]
      rfl
    · unfold f_X6_bestHearer_9 f_X6_bestHearer_34
      rw [hv', w.e0, if_neg (not_le_nI hk (by omega)), ev_bnd (X6_metBy hv' w hk), ev_bnd (X6_metBy hv' w hb), ← nI_succ, ih b hb, ih k hk, show m - k = (m - (k + 1)) + 1 by omega]
      show _ = some (nI (if sumTo (gMet (M 10) k) m ≤ sumTo (gMet (M 10) b) m then mxOf _ (m - (k + 1)) (k + 1) b else mxOf _ (m - (k + 1)) (k + 1) k), mput M 9 6 0)
      by_cases hz : sumTo (gMet (M 10) k) m ≤ sumTo (gMet (M 10) b) m
      · rw [if_pos hz, if_pos hz]
      · rw [if_neg hz, if_neg hz]
end CS
