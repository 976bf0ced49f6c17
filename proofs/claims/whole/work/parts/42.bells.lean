/-! BELLS -/
def toI : Option Nat → Int32
  | none => -1
  | some k => nI k
def lbs (bv : Nat → Int32) (h : Nat) : Nat → Option Nat
  | 0 => none
  | d + 1 => if bv ((h + d + 1) % 24) = 0 then lbs bv h d else some ((h + d + 1) % 24)
def sSp (bv : Nat → Int32) (h : Nat) : Bool := match lbs bv h 24 with
  | none => false
  | some k => decide (bv k = 2)
def fl (bv : Nat → Int32) : Nat → Bool
  | 0 => false
  | i + 1 => if bv (i % 24) = 0 then fl bv i else decide (bv (i % 24) = 2)
theorem lbs_lt {bv : Nat → Int32} {h : Nat} : ∀ {d k : Nat}, lbs bv h d = some k → k < 24
  | 0, k, e => by cases e
  | d + 1, k, e => by
    unfold lbs at e
    by_cases hb : bv ((h + d + 1) % 24) = 0
    · rw [if_pos hb] at e
      exact lbs_lt e
    · rw [if_neg hb] at e
      cases e
      omega
def flo (bv : Nat → Int32) (h : Nat) : Option Nat → Bool
  | none => fl bv (h + 1)
  | some k => decide (bv k = 2)
theorem fl_lbs (bv : Nat → Int32) (h : Nat) (d : Nat) : fl bv (h + d + 1) = flo bv h (lbs bv h d) := by
  induction d with
  | zero => rfl
  | succ d ih =>
    show (if bv ((h + (d + 1)) % 24) = 0 then fl bv (h + (d + 1)) else decide (bv ((h + (d + 1)) % 24) = 2)) = _
    unfold lbs
    rw [show h + (d + 1) = h + d + 1 by omega]
    by_cases hb : bv ((h + d + 1) % 24) = 0
    · rw [if_pos hb, if_pos hb]
      exact ih
    · rw [if_neg hb, if_neg hb]
      rfl
theorem lbs_none {bv : Nat → Int32} {h : Nat} : ∀ {d : Nat}, lbs bv h d = none → ∀ j, 1 ≤ j → j ≤ d → bv ((h + j) % 24) = 0
  | 0, _, j, h1, h2 => by omega
  | d + 1, e, j, h1, h2 => by
    unfold lbs at e
    by_cases hb : bv ((h + d + 1) % 24) = 0
    · rw [if_pos hb] at e
      by_cases hj : j = d + 1
      · subst hj
        exact hb
      · exact lbs_none e j h1 (by omega)
    · rw [if_neg hb] at e
      cases e
theorem fl_zero {bv : Nat → Int32} (h : ∀ k, k < 24 → bv k = 0) : ∀ i, fl bv i = false
  | 0 => rfl
  | i + 1 => by
    show (if bv (i % 24) = 0 then fl bv i else _) = false
    rw [if_pos (h _ (Nat.mod_lt _ (by decide)))]
    exact fl_zero h i
theorem fl_sSp (bv : Nat → Int32) (h : Nat) : fl bv (h + 24 + 1) = sSp bv h := by
  rw [fl_lbs bv h 24]
  unfold sSp
  cases e : lbs bv h 24 with
  | some k => rfl
  | none =>
    refine fl_zero (fun k hk => ?_) (h + 1)
    have hz := lbs_none e (if h % 24 < k then k - h % 24 else k + 24 - h % 24) (by split <;> omega) (by split <;> omega)
    have ek : (h + (if h % 24 < k then k - h % 24 else k + 24 - h % 24)) % 24 = k := by split <;> omega
    rw [ek] at hz
    exact hz
theorem lbs_congr {bv bw : Nat → Int32} (h : ∀ k, k < 24 → bv k = bw k) (a : Nat) : ∀ d, lbs bv a d = lbs bw a d
  | 0 => rfl
  | d + 1 => by
    unfold lbs
    rw [h _ (Nat.mod_lt _ (by decide)), lbs_congr h a d]
theorem sSp_congr {bv bw : Nat → Int32} (h : ∀ k, k < 24 → bv k = bw k) (a : Nat) : sSp bv a = sSp bw a := by
  unfold sSp
  rw [lbs_congr h]
  cases e : lbs bw a 24 with
  | none => rfl
  | some k =>
    show decide (bv k = 2) = decide (bw k = 2)
    rw [h k (lbs_lt e)]
def bvo (v : Nat → Int32) : Nat → Int32 := fun k => v (20 + k)
section QB
variable {M : Mem} {o m n t : Nat} {v : Nat → Int32}
theorem back_idx {h k : Nat} (hh : h < 24) (hk : k < 24) : irem ((nI h + 24) - nI k) 24 = nI ((h + (23 - k) + 1) % 24) := by
  rw [show (24 : Int32) = nI 24 from rfl, nI_add, nI_sub (by omega), nI_irem (by omega) (by decide)]
  congr 1
  omega
theorem X1_latestBell' (hb : ∀ k, k < 24 → M (o + 11) k = v (20 + k)) {h : Nat} (hh : h < 24) : f_X1_latestBell o (nI h) M = some (toI (lbs (bvo v) h 24)) := by
  refine lp_dn (z := fun _ _ => none) (b := f_X1_latestBell_2 o M) (fun k r => r (nI h) (nI k) = some (toI (lbs (bvo v) h (24 - k)))) 24 (fun r => ?_) (fun k r hk ih => ?_) 0 FU (by omega) (by rw [FU_eq]; omega)
  · unfold f_X1_latestBell_2
    rw [show (24 : Int32) = nI 24 from rfl, if_pos (le_self_nI 24)]
    rfl
  · have hi : (h + (23 - k) + 1) % 24 < 24 := Nat.mod_lt _ (by decide)
    unfold f_X1_latestBell_2
    rw [back_idx hh hk, show (24 : Int32) = nI 24 from rfl, if_neg (not_le_nI hk (by decide)), ev_chk (inB_nI hi (by decide)), ix_nI (by omega), hb _ hi, show 24 - k = (23 - k) + 1 by omega]
    unfold lbs
    by_cases hz : bvo v ((h + (23 - k) + 1) % 24) = 0
    · rw [if_pos hz, if_pos (show v (20 + (h + (23 - k) + 1) % 24) = 0 from hz), ← nI_succ, ih, show 24 - (k + 1) = 23 - k by omega]
    · rw [if_neg hz, if_neg (show ¬ v (20 + (h + (23 - k) + 1) % 24) = 0 from hz)]
      rfl
theorem X6_hourOfBell (hv : M 10 = v) {h : Nat} (hh : h < 24) : f_X6_hourOfBell (nI h) M = some (toI (lbs (bvo v) h 24)) := by
  refine lp_dn (z := fun _ _ => none) (b := f_X6_hourOfBell_2 M) (fun k r => r (nI h) (nI k) = some (toI (lbs (bvo v) h (24 - k)))) 24 (fun r => ?_) (fun k r hk ih => ?_) 0 FU (by omega) (by rw [FU_eq]; omega)
  · unfold f_X6_hourOfBell_2
    rw [show (24 : Int32) = nI 24 from rfl, if_pos (le_self_nI 24)]
    rfl
  · have hi : (h + (23 - k) + 1) % 24 < 24 := Nat.mod_lt _ (by decide)
    unfold f_X6_hourOfBell_2
    rw [back_idx hh hk, show (24 : Int32) = nI 24 from rfl, if_neg (not_le_nI hk (by decide)), show (20 : Int32) = nI 20 from rfl, nI_add, ev_chk (inB_nI (by omega) (by decide)), ix_nI (by omega), hv, show 24 - k = (23 - k) + 1 by omega]
    unfold lbs
    by_cases hz : bvo v ((h + (23 - k) + 1) % 24) = 0
    · rw [if_pos hz, if_pos (show v (20 + (h + (23 - k) + 1) % 24) = 0 from hz), ← nI_succ, ih, show 24 - (k + 1) = 23 - k by omega]
    · rw [if_neg hz, if_neg (show ¬ v (20 + (h + (23 - k) + 1) % 24) = 0 from hz)]
      rfl
theorem X1_isSpeechAt' (hb : ∀ k, k < 24 → M (o + 11) k = v (20 + k)) {h : Nat} (hh : h < 24) : f_X1_isSpeechAt o (nI h) M = some (b2 (sSp (bvo v) h)) := by
  unfold f_X1_isSpeechAt
  rw [ev_bnd (X1_latestBell' hb hh)]
  unfold sSp
  cases e : lbs (bvo v) h 24 with
  | none => rw [show toI none = -1 from rfl, if_pos rfl]; rfl
  | some k =>
    have hk := lbs_lt e
    rw [show toI (some k) = nI k from rfl, if_neg (m1_ne (by omega)), ev_chk (inB_nI hk (by decide)), ix_nI (by omega), hb k hk]
    show _ = some (b2 (decide (v (20 + k) = 2)))
    by_cases h2 : v (20 + k) = 2
    · rw [if_pos h2, decide_eq_true h2]; rfl
    · rw [if_neg h2, decide_eq_false h2]; rfl
theorem X6_isSpeech (hv : M 10 = v) {h : Nat} (hh : h < 24) : f_X6_isSpeech (nI h) M = some (b2 (sSp (bvo v) h)) := by
  unfold f_X6_isSpeech
  rw [ev_bnd (X6_hourOfBell hv hh)]
  unfold sSp
  cases e : lbs (bvo v) h 24 with
  | none => rw [show toI none = -1 from rfl, if_pos rfl]; rfl
  | some k =>
    have hk := lbs_lt e
    rw [show toI (some k) = nI k from rfl, if_neg (m1_ne (by omega)), show (20 : Int32) = nI 20 from rfl, nI_add, ev_chk (inB_nI (by omega) (by decide)), ix_nI (by omega), hv]
    show _ = some (b2 (decide (v (20 + k) = 2)))
    by_cases h2 : v (20 + k) = 2
    · rw [if_pos h2, decide_eq_true h2]; rfl
    · rw [if_neg h2, decide_eq_false h2]; rfl
theorem X1_latestBell (h : HR M o v m n) {a : Nat} (ha : a < 24) : f_X1_latestBell o (nI a) M = some (toI (lbs (bvo v) a 24)) := X1_latestBell' h.2.2.1 ha
theorem X1_isSpeechAt (h : HR M o v m n) {a : Nat} (ha : a < 24) : f_X1_isSpeechAt o (nI a) M = some (b2 (sSp (bvo v) a)) := X1_isSpeechAt' h.2.2.1 ha
theorem now_idx (w : VV v m n t) : irem (v 4) 24 = nI (t % 24) := by
  rw [w.e4, show (24 : Int32) = nI 24 from rfl, nI_irem (by have := w.2.2.1; omega) (by decide)]
def nowSp (v : Nat → Int32) (t : Nat) : Bool := sSp (bvo v) (t % 24)
theorem X1_now (h : HR M o v m n) (w : VV v m n t) : f_X1_isSpeechAt o (irem (M o 16) 24) M = some (b2 (nowSp v t)) := by
  rw [h.1.2.2.2.2.1, now_idx w]
  exact X1_isSpeechAt h (Nat.mod_lt _ (by decide))
theorem X6_isSpeechNow (hv : M 10 = v) (w : VV v m n t) : f_X6_isSpeechNow M = some (b2 (nowSp v t)) := by
  unfold f_X6_isSpeechNow
  rw [hv, now_idx w, ev_bnd (X6_isSpeech hv (Nat.mod_lt _ (by decide)))]
  rfl
theorem X1_bellCount (h : HR M o v m n) : f_X1_bellCount o M = some (sumTo (fun k => b2 (!(decide (v (20 + k) = 0)))) 24) := by
  refine acc2 _ 24 (by omega) (fun r a k hk => ?_) (fun r a => ?_)
  · unfold f_X1_bellCount_4 f_X1_bellCount_22
    rw [show (24 : Int32) = nI 24 from rfl, if_neg (not_le_nI hk (by omega)), ev_chk (inB_nI (by omega) (by decide)), ix_nI (by omega), h.2.2.1 k hk]
    by_cases hz : v (20 + k) = 0
    · rw [if_pos hz, decide_eq_true hz]
      exact congrArg (fun z => r z (nI k + 1)) (add_b2f a).symm
    · rw [if_neg hz, decide_eq_false hz]
      rfl
  · unfold f_X1_bellCount_4
    rw [show (24 : Int32) = nI 24 from rfl, if_pos (le_self_nI 24)]
theorem X6_bells (hv : M 10 = v) : f_X6_bells M = some (sumTo (fun k => b2 (!(decide (v (20 + k) = 0)))) 24) := by
  refine acc2 _ 24 (by omega) (fun r a k hk => ?_) (fun r a => ?_)
  · unfold f_X6_bells_4 f_X6_bells_28
    rw [show (24 : Int32) = nI 24 from rfl, if_neg (not_le_nI hk (by omega)), show (20 : Int32) = nI 20 from rfl, nI_add, ev_chk (inB_nI (by omega) (by decide)), ix_nI (by omega), hv]
    by_cases hz : v (20 + k) = 0
    · rw [if_pos hz, decide_eq_true hz]
      rfl
    · rw [if_neg hz, decide_eq_false hz]
      rfl
  · unfold f_X6_bells_4
    rw [show (24 : Int32) = nI 24 from rfl, if_pos (le_self_nI 24)]
/-! hours of speech of a day -/
def sHr (bv : Nat → Int32) : Int32 := sumTo (fun k => b2 (sSp bv k)) 24
theorem sHr_congr {bv bw : Nat → Int32} (h : ∀ k, k < 24 → bv k = bw k) : sHr bv = sHr bw := sumTo_congr (fun k _ => by rw [sSp_congr h])
theorem X6_hoursOfSpeech (hv : M 10 = v) : f_X6_hoursOfSpeech M = some (sHr (bvo v)) := by
  refine acc2 _ 24 (by omega) (fun r a k hk => ?_) (fun r a => ?_)
  · unfold f_X6_hoursOfSpeech_4 f_X6_hoursOfSpeech_24
    rw [show (24 : Int32) = nI 24 from rfl, if_neg (not_le_nI hk (by omega)), ev_bnd (X6_isSpeech hv hk)]
    cases sSp (bvo v) k with
    | false => rw [if_pos b2_f]; rfl
    | true => rw [if_neg (by decide)]; rfl
  · unfold f_X6_hoursOfSpeech_4
    rw [show (24 : Int32) = nI 24 from rfl, if_pos (le_self_nI 24)]
theorem sumTo_shift (g : Nat → Int32) (a : Nat) (hz : ∀ k, k < a → g k = 0) : ∀ n, sumTo g (a + n) = sumTo (fun k => g (a + k)) n
  | 0 => by
    show sumTo g a = 0
    have : ∀ b, b ≤ a → sumTo g b = 0 := fun b => by
      induction b with
      | zero => intro _; rfl
      | succ b ih =>
        intro h
        show sumTo g b + g b = 0
        rw [ih (by omega), hz b (by omega)]
        rfl
    exact this a (Nat.le_refl _)
  | n + 1 => by
    show sumTo g (a + n) + g (a + n) = _ + _
    rw [sumTo_shift g a hz n]
def bvq (v : Nat → Int32) (p : Int32) : Nat → Int32 := fun k => if nI k = p then 2 else v (20 + k)
theorem X1_speechHours (h : HR M o v m n) (p : Int32) : f_X1_speechHours o p M = some (sHr (bvq v p)) := by
  have key := lp_dn (z := fun _ _ _ _ => none) (b := f_X1_speechHours_7 o M) (fun k r => r p (b2 (fl (bvq v p) k)) (sumTo (fun j => if j < 24 then 0 else b2 (fl (bvq v p) (j + 1))) k) (nI k) = some (sumTo (fun j => if j < 24 then 0 else b2 (fl (bvq v p) (j + 1))) 48)) 48 (fun r => ?_) (fun k r hk ih => ?_) 0 FU (by omega) (by rw [FU_eq]; omega)
  · refine Eq.trans key ?_
    rw [show (48 : Nat) = 24 + 24 from rfl, sumTo_shift _ 24 (fun k hk => if_pos hk)]
    refine congrArg some (sumTo_congr (fun k hk => ?_))
    rw [if_neg (by omega), show 24 + k + 1 = k + 24 + 1 by omega, fl_sSp]
  · unfold f_X1_speechHours_7
    rw [show (48 : Int32) = nI 48 from rfl, if_pos (le_self_nI 48)]
  · have hr : irem (nI k) 24 = nI (k % 24) := by rw [show (24 : Int32) = nI 24 from rfl, nI_irem (by omega) (by decide)]
    have hk24 : k % 24 < 24 := Nat.mod_lt _ (by decide)
    have step : ∀ x : Int32, x = bvq v p (k % 24) → f_X1_speechHours_38 o M r p (b2 (fl (bvq v p) k)) (sumTo (fun j => if j < 24 then 0 else b2 (fl (bvq v p) (j + 1))) k) (nI k) x = some (sumTo (fun j => if j < 24 then 0 else b2 (fl (bvq v p) (j + 1))) 48) := by
      intro x hx
      have e57 : f_X1_speechHours_57 o M r p (b2 (fl (bvq v p) (k + 1))) (sumTo (fun j => if j < 24 then 0 else b2 (fl (bvq v p) (j + 1))) k) (nI k) = some (sumTo (fun j => if j < 24 then 0 else b2 (fl (bvq v p) (j + 1))) 48) := by
        rw [← ih]
        unfold f_X1_speechHours_57 f_X1_speechHours_71
        rw [nI_succ]
        have es : sumTo (fun j => if j < 24 then 0 else b2 (fl (bvq v p) (j + 1))) (k + 1) = sumTo (fun j => if j < 24 then 0 else b2 (fl (bvq v p) (j + 1))) k + (if k < 24 then 0 else b2 (fl (bvq v p) (k + 1))) := rfl
        rw [es]
        by_cases h24 : k < 24
        · rw [if_pos h24, Int32.add_zero, if_pos (show nI k < 24 from (nI_ltI (by omega) (by decide : 24 < 2 ^ 31)).mpr h24)]
          split <;> rfl
        · rw [if_neg h24, if_neg (show ¬ nI k < 24 from fun q => h24 ((nI_ltI (by omega) (by decide : 24 < 2 ^ 31)).mp q))]
          cases fl (bvq v p) (k + 1) with
          | false => rw [if_pos b2_f, add_b2f]
          | true => rw [if_neg (by decide), add_b2t]
      rw [← e57]
      unfold f_X1_speechHours_38 f_X1_speechHours_56
      have ef : fl (bvq v p) (k + 1) = if bvq v p (k % 24) = 0 then fl (bvq v p) k else decide (bvq v p (k % 24) = 2) := rfl
      rw [ef, ← hx]
      by_cases hz : x = 0
      · rw [if_pos hz, if_pos hz]
      · rw [if_neg hz, if_neg hz]
        by_cases h2 : x = 2
        · rw [if_pos h2, decide_eq_true h2]; rfl
        · rw [if_neg h2, decide_eq_false h2]; rfl
    unfold f_X1_speechHours_7
    rw [hr, show (48 : Int32) = nI 48 from rfl, if_neg (not_le_nI hk (by omega))]
    by_cases hp : nI (k % 24) = p
    · rw [if_pos hp]
      exact step 2 (by unfold bvq; rw [if_pos hp])
    · rw [if_neg hp, ev_chk (inB_nI hk24 (by decide)), ix_nI (by omega), h.2.2.1 _ hk24]
      exact step _ (by unfold bvq; rw [if_neg hp])
theorem bvq_none (v : Nat → Int32) : ∀ k, k < 24 → bvq v (-1) k = bvo v k := fun k hk => by
  unfold bvq
  rw [if_neg (m1_ne (by omega))]
  rfl
theorem X1_speechHours_none (h : HR M o v m n) : f_X1_speechHours o (-1) M = some (sHr (bvo v)) := by
  rw [X1_speechHours h, sHr_congr (bvq_none v)]
end QB
