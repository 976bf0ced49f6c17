/-! WHAT THE TWO SIDES HOLD IN COMMON: the reference's row of numbers v, a house's 13 rows -/
def b2 (b : Bool) : Int32 := if b = true then 1 else 0
theorem b2_t : b2 true = 1 := rfl
theorem b2_f : b2 false = 0 := rfl
theorem b2_0 (b : Bool) : b2 b = 0 ↔ b = false := by cases b <;> decide
theorem ite_b2 (b : Bool) : (if b = true then (some (1 : Int32)) else some 0) = some (b2 b) := by cases b <;> rfl
def f32 (ls : List Nat) : Nat := ls.foldl (fun a l => 32 * a + l) 0
def f27 (ls : List Nat) : Nat := ls.foldl (fun a l => 27 * a + l) 0
def nmOK (ls : List Nat) : Prop := 1 ≤ ls.length ∧ ls.length ≤ 6 ∧ ∀ l, l ∈ ls → 1 ≤ l ∧ l ≤ 26
def HN (x y : Int32) : Prop := ∃ ls, nmOK ls ∧ x = nI (f32 ls) ∧ y = nI (f27 ls)
def By (x : Int32) : Prop := ∃ s, s < 256 ∧ x = nI s
def Sm (k : Nat) (x : Int32) : Prop := ∃ s, s ≤ k ∧ x = nI s
def VV (v : Nat → Int32) (m n t : Nat) : Prop := m ≤ 12 ∧ n ≤ 8 ∧ t ≤ 9999 ∧ v 0 = nI m ∧ v 1 = nI n ∧ v 4 = nI t ∧ (∀ k, k < n → ∃ w, 1 ≤ w ∧ w ≤ 20 ∧ v (45 + 2 * k) = nI w) ∧ (∀ k, k < m → By (v (62 + 8 * k)) ∧ By (v (63 + 8 * k)) ∧ Sm 99 (v (64 + 8 * k)))
def HR (M : Mem) (o : Nat) (v : Nat → Int32) (m n : Nat) : Prop :=
  (M o 12 = v 0 ∧ M o 13 = v 1 ∧ M o 14 = v 2 ∧ M o 15 = v 3 ∧ M o 16 = v 4 ∧ M o 17 = v 5) ∧ (∀ k, k < 14 → M (o + 12) k = v (6 + k)) ∧ (∀ k, k < 24 → M (o + 11) k = v (20 + k)) ∧
  (∀ k, k < n → HN (M (o + 9) k) (v (44 + 2 * k)) ∧ M (o + 10) k = v (45 + 2 * k)) ∧
  (∀ k, k < m → HN (M (o + 1) k) (v (60 + 8 * k)) ∧ M (o + 2) k = v (61 + 8 * k) ∧ M (o + 3) k = v (62 + 8 * k) ∧ M (o + 4) k = v (63 + 8 * k) ∧ M (o + 5) k = v (64 + 8 * k) ∧ M (o + 6) k = v (65 + 8 * k) ∧ M (o + 7) k = v (66 + 8 * k) ∧ M (o + 8) k = v (67 + 8 * k))
/-! loops that add up -/
def sumTo (g : Nat → Int32) : Nat → Int32
  | 0 => 0
  | k + 1 => sumTo g k + g k
theorem sumTo_congr {g h : Nat → Int32} : ∀ {n : Nat}, (∀ k, k < n → g k = h k) → sumTo g n = sumTo h n
  | 0, _ => rfl
  | n + 1, e => by
    show sumTo g n + g n = sumTo h n + h n
    rw [sumTo_congr (fun k hk => e k (by omega)), e n (by omega)]
theorem acc2 {b : (Int32 → Int32 → Option Int32) → Int32 → Int32 → Option Int32} (g : Nat → Int32) (n : Nat) (hn : n < 4096) (hstep : ∀ r a k, k < n → b r a (nI k) = r (a + g k) (nI k + 1)) (hexit : ∀ r a, b r a (nI n) = some a) : lp (fun _ _ => none) b FU 0 0 = some (sumTo g n) := by
  have h := lp_dn (z := fun _ _ => none) (b := b) (fun k r => r (sumTo g k) (nI k) = some (sumTo g n)) n (fun r => hexit r _) (fun k r hk ih => by
    rw [hstep _ _ _ hk, ← nI_succ]
    exact ih) 0 FU (by omega) (by rw [FU_eq]; omega)
  exact h
theorem acc3 {b : (Int32 → Int32 → Int32 → Option Int32) → Int32 → Int32 → Int32 → Option Int32} (p : Int32) (g : Nat → Int32) (n : Nat) (hn : n < 4096) (hstep : ∀ r a k, k < n → b r p a (nI k) = r p (a + g k) (nI k + 1)) (hexit : ∀ r a, b r p a (nI n) = some a) : lp (fun _ _ _ => none) b FU p 0 0 = some (sumTo g n) := by
  have h := lp_dn (z := fun _ _ _ => none) (b := b) (fun k r => r p (sumTo g k) (nI k) = some (sumTo g n)) n (fun r => hexit r _) (fun k r hk ih => by
    rw [hstep _ _ _ hk, ← nI_succ]
    exact ih) 0 FU (by omega) (by rw [FU_eq]; omega)
  exact h
theorem acc4 {b : (Int32 → Int32 → Int32 → Int32 → Option Int32) → Int32 → Int32 → Int32 → Int32 → Option Int32} (p q : Int32) (g : Nat → Int32) (n : Nat) (hn : n < 4096) (hstep : ∀ r a k, k < n → b r p q a (nI k) = r p q (a + g k) (nI k + 1)) (hexit : ∀ r a, b r p q a (nI n) = some a) : lp (fun _ _ _ _ => none) b FU p q 0 0 = some (sumTo g n) := by
  have h := lp_dn (z := fun _ _ _ _ => none) (b := b) (fun k r => r p q (sumTo g k) (nI k) = some (sumTo g n)) n (fun r => hexit r _) (fun k r hk ih => by
    rw [hstep _ _ _ hk, ← nI_succ]
    exact ih) 0 FU (by omega) (by rw [FU_eq]; omega)
  exact h
theorem add_b2f (a : Int32) : a + b2 false = a := Int32.add_zero a
theorem add_b2t (a : Int32) : a + b2 true = a + 1 := rfl
/-! the reference's places -/
theorem ev_mo {a c : Nat} {M : Mem} : f_X6_mo (nI a) (nI c) M = some (nI (60 + 8 * a + c)) := by
  show some ((nI 60 + nI 8 * nI a) + nI c) = _
  rw [nI_mul, nI_add, nI_add]
section QQ
variable {M : Mem} {o m n t : Nat} {v : Nat → Int32}
theorem VV.m12 (w : VV v m n t) : m ≤ 12 := w.1
theorem VV.n8 (w : VV v m n t) : n ≤ 8 := w.2.1
theorem VV.e0 (w : VV v m n t) : v 0 = nI m := w.2.2.2.1
theorem VV.e1 (w : VV v m n t) : v 1 = nI n := w.2.2.2.2.1
theorem VV.e4 (w : VV v m n t) : v 4 = nI t := w.2.2.2.2.2.1
theorem VV.wd (w : VV v m n t) {k : Nat} (hk : k < n) : ∃ x, 1 ≤ x ∧ x ≤ 20 ∧ v (45 + 2 * k) = nI x := w.2.2.2.2.2.2.1 k hk
theorem VV.kn (w : VV v m n t) {k : Nat} (hk : k < m) : ∃ s, s < 256 ∧ v (62 + 8 * k) = nI s := (w.2.2.2.2.2.2.2 k hk).1
theorem VV.wn (w : VV v m n t) {k : Nat} (hk : k < m) : ∃ s, s < 256 ∧ v (63 + 8 * k) = nI s := (w.2.2.2.2.2.2.2 k hk).2.1
theorem VV.lv (w : VV v m n t) {k : Nat} (hk : k < m) : ∃ s, s ≤ 99 ∧ v (64 + 8 * k) = nI s := (w.2.2.2.2.2.2.2 k hk).2.2
theorem not_le_nI {a b : Nat} (h : b < a) (ha : a < 2 ^ 31) : ¬ nI a ≤ nI b := fun q => by have := (nI_leI ha (by omega)).mp q; omega
theorem le_self_nI (a : Nat) : nI a ≤ nI a := Int32.le_refl _
/-! sums -/
theorem X1_sumOf (h : HR M o v m n) (w : VV v m n t) (q : Nat) : f_X1_sumOf o q M = some (sumTo (fun k => M q k) m) := by
  have hm : M o 12 = nI m := h.1.1.trans w.e0
  have h12 := w.m12
  refine acc2 _ m (by omega) (fun r a k hk => ?_) (fun r a => ?_)
  · unfold f_X1_sumOf_4
    rw [hm, if_neg (not_le_nI hk (by omega)), ev_chk (inB_nI (by omega) (by decide)), ix_nI (by omega)]
  · unfold f_X1_sumOf_4
    rw [hm, if_pos (le_self_nI m)]
theorem X6_sum (hv : M 10 = v) (w : VV v m n t) (c : Nat) (hc : c < 8) : f_X6_sum (nI c) M = some (sumTo (fun k => v (60 + 8 * k + c)) m) := by
  have h12 := w.m12
  refine acc3 _ _ m (by omega) (fun r a k hk => ?_) (fun r a => ?_)
  · unfold f_X6_sum_4
    rw [hv, w.e0, if_neg (not_le_nI hk (by omega)), ev_bnd ev_mo, ev_chk (inB_nI (by omega) (by decide)), ix_nI (by omega)]
  · unfold f_X6_sum_4
    rw [hv, w.e0, if_pos (le_self_nI m)]
def pcI (x : Int32) : Int32 := nI (pc8 (ix x))
theorem bc_By {x : Int32} (h : By x) (M : Mem) : f_J6_bitCount_0f7a4 x M = some (pcI x) := by
  obtain ⟨s, hs, rfl⟩ := h
  rw [bc_nI hs, pcI, ix_nI (by omega)]
theorem bits_By {x : Int32} (h : By x) (M : Mem) : f_X6_bits x M = some (pcI x) := by
  obtain ⟨s, hs, rfl⟩ := h
  rw [bits_nI hs, pcI, ix_nI (by omega)]
theorem By_and {x y : Int32} (h : By x) (h2 : By y) : By (x &&& y) := by
  obtain ⟨s, hs, rfl⟩ := h
  obtain ⟨u, hu, rfl⟩ := h2
  exact ⟨s &&& u, and_lt hs, and_nI s u⟩
theorem X1_membersOf (h : HR M o v m n) (w : VV v m n t) (q : Nat) (hq : ∀ k, k < m → By (M q k)) : f_X1_membersOf o q M = some (sumTo (fun k => pcI (M q k)) m) := by
  have hm : M o 12 = nI m := h.1.1.trans w.e0
  have h12 := w.m12
  refine acc2 _ m (by omega) (fun r a k hk => ?_) (fun r a => ?_)
  · unfold f_X1_membersOf_4
    rw [hm, if_neg (not_le_nI hk (by omega)), ev_chk (inB_nI (by omega) (by decide)), ix_nI (by omega), ev_bnd (bc_By (hq k hk) M)]
  · unfold f_X1_membersOf_4
    rw [hm, if_pos (le_self_nI m)]
theorem X6_sumOfBits (hv : M 10 = v) (w : VV v m n t) (c : Nat) (hc : c < 8) (hq : ∀ k, k < m → By (v (60 + 8 * k + c))) : f_X6_sumOfBits (nI c) M = some (sumTo (fun k => pcI (v (60 + 8 * k + c))) m) := by
  have h12 := w.m12
  refine acc3 _ _ m (by omega) (fun r a k hk => ?_) (fun r a => ?_)
  · unfold f_X6_sumOfBits_4
    rw [hv, w.e0, if_neg (not_le_nI hk (by omega)), ev_bnd ev_mo, ev_chk (inB_nI (by omega) (by decide)), ix_nI (by omega), ev_bnd (bits_By (hq k hk) M)]
  · unfold f_X6_sumOfBits_4
    rw [hv, w.e0, if_pos (le_self_nI m)]
/-! sets -/
def mm (x : Int32) (i : Nat) : Bool := mem8 (ix x) i
theorem X1_isMember {x : Int32} (hx : By x) {i : Nat} (hi : i < 8) (M : Mem) : f_X1_isMember (nI i) x M = some (b2 (mm x i)) := by
  obtain ⟨s, hs, rfl⟩ := hx
  unfold f_X1_isMember mm
  rw [ix_nI (by omega)]
  cases hb : mem8 s i with
  | false => rw [if_pos ((cm_nI hs hi).mpr hb)]; rfl
  | true => rw [if_neg (fun q => by rw [(cm_nI hs hi).mp q] at hb; cases hb)]; rfl
theorem X6_isSet (hv : M 10 = v) {a c i : Nat} (ha : a < 12) (hc : c < 8) (hx : By (v (60 + 8 * a + c))) (hi : i < 8) : f_X6_isSet (nI a) (nI c) (nI i) M = some (b2 (mm (v (60 + 8 * a + c)) i)) := by
  obtain ⟨s, hs, e⟩ := hx
  unfold f_X6_isSet mm
  rw [ev_bnd ev_mo, ev_chk (inB_nI (by omega) (by decide)), ix_nI (by omega), hv, e, ix_nI (by omega)]
  cases hb : mem8 s i with
  | false => rw [if_neg (fun q => by rw [(mm_nI hs hi).mp q] at hb; cases hb)]; rfl
  | true => rw [if_pos ((mm_nI hs hi).mpr hb)]; rfl
theorem X1_monksWith (h : HR M o v m n) (w : VV v m n t) (q : Nat) (hq : ∀ k, k < m → By (M q k)) {i : Nat} (hi : i < 8) : f_X1_monksWith o q (nI i) M = some (sumTo (fun k => b2 (mm (M q k) i)) m) := by
  have hm : M o 12 = nI m := h.1.1.trans w.e0
  have h12 := w.m12
  refine acc3 _ _ m (by omega) (fun r a k hk => ?_) (fun r a => ?_)
  · unfold f_X1_monksWith_5 f_X1_monksWith_28
    rw [hm, if_neg (not_le_nI hk (by omega)), ev_chk (inB_nI (by omega) (by decide)), ix_nI (by omega), ev_bnd (X1_isMember (hq k hk) hi M)]
    cases mm (M q k) i with
    | false => rw [if_pos b2_f, add_b2f]
    | true => rw [if_neg (by decide), add_b2t]
  · unfold f_X1_monksWith_5
    rw [hm, if_pos (le_self_nI m)]
theorem X6_monksWith (hv : M 10 = v) (w : VV v m n t) (c : Nat) (hc : c < 8) (hq : ∀ k, k < m → By (v (60 + 8 * k + c))) {i : Nat} (hi : i < 8) : f_X6_monksWith (nI c) (nI i) M = some (sumTo (fun k => b2 (mm (v (60 + 8 * k + c)) i)) m) := by
  have h12 := w.m12
  refine acc4 _ _ _ m (by omega) (fun r a k hk => ?_) (fun r a => ?_)
  · unfold f_X6_monksWith_5 f_X6_monksWith_33
    rw [hv, w.e0, if_neg (not_le_nI hk (by omega)), ev_bnd (X6_isSet hv (by omega) hc (hq k hk) hi)]
    cases mm (v (60 + 8 * k + c)) i with
    | false => rw [if_pos b2_f]; rfl
    | true => rw [if_neg (by decide)]; rfl
  · unfold f_X6_monksWith_5
    rw [hv, w.e0, if_pos (le_self_nI m)]
def sOth (v : Nat → Int32) (i k : Nat) : Bool := !(k == i) && decide ((v (62 + 8 * k) &&& v (62 + 8 * i)) = v (62 + 8 * i))
theorem X1_others (h : HR M o v m n) (w : VV v m n t) {i : Nat} (hi : i < m) : f_X1_othersWhoKnowAllOf o (nI i) M = some (sumTo (fun k => b2 (sOth v i k)) m) := by
  have hm : M o 12 = nI m := h.1.1.trans w.e0
  have h12 := w.m12
  refine acc3 _ _ m (by omega) (fun r a k hk => ?_) (fun r a => ?_)
  · unfold f_X1_othersWhoKnowAllOf_4 f_X1_othersWhoKnowAllOf_38
    rw [hm, if_neg (not_le_nI hk (by omega))]
    by_cases hki : k = i
    · subst hki
      rw [if_pos rfl]
      have e : sOth v k k = false := by simp [sOth]
      rw [e, add_b2f]
    · rw [if_neg (fun q => hki ((nI_eq (by omega) (by omega)).mp q)), ev_chk (inB_nI (by omega) (by decide)), ev_chk (inB_nI (by omega) (by decide)), ix_nI (by omega), ix_nI (by omega), (h.2.2.2.2 k hk).2.2.1, (h.2.2.2.2 i hi).2.2.1]
      by_cases hs : (v (62 + 8 * k) &&& v (62 + 8 * i)) = v (62 + 8 * i)
      · rw [if_pos ((sup_all _ _).mpr hs)]
        have e : sOth v i k = true := by simp [sOth, hki, hs]
        rw [e, add_b2t]
      · rw [if_neg (fun q => hs ((sup_all _ _).mp q))]
        have e : sOth v i k = false := by simp [sOth, hs]
        rw [e, add_b2f]
  · unfold f_X1_othersWhoKnowAllOf_4
    rw [hm, if_pos (le_self_nI m)]
theorem X6_whoKnowAll (hv : M 10 = v) (w : VV v m n t) {i : Nat} (hi : i < m) : f_X6_whoKnowAll (nI i) M = some (sumTo (fun k => b2 (sOth v i k)) m) := by
  have h12 := w.m12
  refine acc3 _ _ m (by omega) (fun r a k hk => ?_) (fun r a => ?_)
  · unfold f_X6_whoKnowAll_4 f_X6_whoKnowAll_58 f_X6_whoKnowAll_59
    rw [hv, w.e0, if_neg (not_le_nI hk (by omega))]
    by_cases hki : k = i
    · subst hki
      rw [if_pos rfl]
      have e : sOth v k k = false := by simp [sOth]
      rw [e]
      rfl
    · rw [if_neg (fun q => hki ((nI_eq (by omega) (by omega)).mp q)), show (2 : Int32) = nI 2 from rfl, ev_bnd ev_mo, ev_chk (inB_nI (by omega) (by decide)), ev_bnd ev_mo, ev_chk (inB_nI (by omega) (by decide)), ev_bnd ev_mo, ev_chk (inB_nI (by omega) (by decide)), ix_nI (by omega), ix_nI (by omega), show 60 + 8 * k + 2 = 62 + 8 * k by omega, show 60 + 8 * i + 2 = 62 + 8 * i by omega]
      by_cases hs : (v (62 + 8 * k) &&& v (62 + 8 * i)) = v (62 + 8 * i)
      · rw [if_pos hs]
        have e : sOth v i k = true := by simp [sOth, hki, hs]
        rw [e]
        rfl
      · rw [if_neg hs]
        have e : sOth v i k = false := by simp [sOth, hs]
        rw [e]
        rfl
  · unfold f_X6_whoKnowAll_4
    rw [hv, w.e0, if_pos (le_self_nI m)]
/-! who is ahead -/
def sAh (v : Nat → Int32) (a b : Nat) : Bool := if v (65 + 8 * a) = v (65 + 8 * b) then (if v (64 + 8 * a) = v (64 + 8 * b) then decide (a < b) else decide (¬ v (64 + 8 * a) ≤ v (64 + 8 * b))) else decide (¬ v (65 + 8 * a) ≤ v (65 + 8 * b))
theorem ite_not_b2 {c : Prop} [Decidable c] : (if c then (some (0 : Int32)) else some 1) = some (b2 (decide (¬ c))) := by
  by_cases h : c
  · rw [if_pos h, decide_eq_false (fun q => q h)]; rfl
  · rw [if_neg h, decide_eq_true h]; rfl
theorem X1_isAhead (h : HR M o v m n) (w : VV v m n t) {a b : Nat} (ha : a < m) (hb : b < m) : f_X1_isAhead o (nI a) (nI b) M = some (b2 (sAh v a b)) := by
  have h12 := w.m12
  unfold f_X1_isAhead sAh
  rw [ev_chk (inB_nI (by omega) (by decide)), ev_chk (inB_nI (by omega) (by decide)), ix_nI (by omega), ix_nI (by omega), (h.2.2.2.2 a ha).2.2.2.2.2.1, (h.2.2.2.2 b hb).2.2.2.2.2.1, (h.2.2.2.2 a ha).2.2.2.2.1, (h.2.2.2.2 b hb).2.2.2.2.1]
  rw [ev_chk (inB_nI (by omega) (by decide)), ev_chk (inB_nI (by omega) (by decide)), ev_chk (inB_nI (by omega) (by decide)), ev_chk (inB_nI (by omega) (by decide)), ev_chk (inB_nI (by omega) (by decide)), ev_chk (inB_nI (by omega) (by decide)), ite_not_b2, ite_not_b2, ite_not_b2]
  have e : (¬ nI b ≤ nI a) ↔ a < b := by rw [nI_leI (by omega) (by omega)]; omega
  by_cases h1 : v (65 + 8 * a) = v (65 + 8 * b)
  · rw [if_pos h1, if_pos h1]
    by_cases h2 : v (64 + 8 * a) = v (64 + 8 * b)
    · rw [if_pos h2, if_pos h2]
      simp only [e]
    · rw [if_neg h2, if_neg h2]
  · rw [if_neg h1, if_neg h1]
theorem X6_isAhead (hv : M 10 = v) (w : VV v m n t) {a b : Nat} (ha : a < m) (hb : b < m) : f_X6_isAhead (nI a) (nI b) M = some (b2 (sAh v a b)) := by
  have h12 := w.m12
  have e : (¬ nI b ≤ nI a) ↔ a < b := by rw [nI_leI (by omega) (by omega)]; omega
  unfold f_X6_isAhead sAh
  rw [show (5 : Int32) = nI 5 from rfl, show (4 : Int32) = nI 4 from rfl]
  simp only [ev_mo, bnd_some, hv]
  rw [ev_chk (inB_nI (by omega) (by decide)), ev_chk (inB_nI (by omega) (by decide)), ev_chk (inB_nI (by omega) (by decide)), ev_chk (inB_nI (by omega) (by decide)), ev_chk (inB_nI (by omega) (by decide)), ev_chk (inB_nI (by omega) (by decide)), ev_chk (inB_nI (by omega) (by decide)), ev_chk (inB_nI (by omega) (by decide)), ix_nI (by omega), ix_nI (by omega), ix_nI (by omega), ix_nI (by omega), ite_not_b2, ite_not_b2, ite_not_b2, show 60 + 8 * a + 5 = 65 + 8 * a by omega, show 60 + 8 * b + 5 = 65 + 8 * b by omega, show 60 + 8 * a + 4 = 64 + 8 * a by omega, show 60 + 8 * b + 4 = 64 + 8 * b by omega]
  by_cases h1 : v (65 + 8 * a) = v (65 + 8 * b)
  · rw [if_pos h1, if_pos h1]
    by_cases h2 : v (64 + 8 * a) = v (64 + 8 * b)
    · rw [if_pos h2, if_pos h2]
      simp only [e]
    · rw [if_neg h2, if_neg h2]
  · rw [if_neg h1, if_neg h1]
end QQ
