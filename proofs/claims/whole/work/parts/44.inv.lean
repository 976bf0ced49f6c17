/-! THE INVARIANT OF THE LAW'S LOOP -/
def HOK (M : Mem) (o : Nat) (v : Nat → Int32) : Prop := ∃ m n t, 1 ≤ m ∧ HR M o v m n ∧ VV v m n t
def iOw (M : Mem) : Prop := HOK M 18 (M 10)
def iBu (M : Mem) : Prop := ∃ nb, nb ≤ 800 ∧ M 1 2 = nI nb ∧ M 9 10 = nI nb ∧ ∀ k, k < nb → M 2 k = M 16 k ∧ ∃ x, 1 ≤ x ∧ x < 256 ∧ M 16 k = nI x
def iWr (M : Mem) : Prop := ∃ l, l ≤ 119 ∧ M 5 1 = nI l ∧ M 9 8 = nI l ∧ ∀ k, k < l → M 6 k = M 15 k
def iHi (M : Mem) : Prop := ∃ h od, h ≤ 8 ∧ od < 8 ∧ M 3 2 = nI h ∧ M 9 5 = nI h ∧ M 3 1 = nI od ∧ ∀ j, j < h → HOK M (44 + 13 * ((od + j) % 8)) (fun k => M 12 (156 * j + k))
def iSa (M : Mem) : Prop := ∀ j, j < 2 → (M 8 j = 0 ∧ M 14 j = 0) ∨ (M 8 j = 1 ∧ M 14 j = 1 ∧ HOK M (148 + 13 * j) (fun k => M 13 (156 * j + k)))
def iEr (M : Mem) : Prop := M 1 4 = M 9 17
def Inv (M : Mem) : Prop := iOw M ∧ iBu M ∧ iWr M ∧ iHi M ∧ iSa M ∧ iEr M
theorem HR.cong {M M' : Mem} {o m n : Nat} {v : Nat → Int32} (h : HR M o v m n) (e : ∀ j, j < 13 → M' (o + j) = M (o + j)) : HR M' o v m n := by
  have e0 : M' o = M o := e 0 (by decide)
  unfold HR
  rw [e0, e 1 (by decide), e 2 (by decide), e 3 (by decide), e 4 (by decide), e 5 (by decide), e 6 (by decide), e 7 (by decide), e 8 (by decide), e 9 (by decide), e 10 (by decide), e 11 (by decide), e 12 (by decide)]
  exact h
theorem HOK.cong {M M' : Mem} {o : Nat} {v v' : Nat → Int32} (h : HOK M o v) (e : ∀ j, j < 13 → M' (o + j) = M (o + j)) (hv : v' = v) : HOK M' o v' := by
  subst hv
  obtain ⟨m, n, t, h1, h2, h3⟩ := h
  exact ⟨m, n, t, h1, h2.cong e, h3⟩
def Same (M M' : Mem) : Prop := (∀ k, (k = 2 ∨ k = 3 ∨ k = 5 ∨ k = 6 ∨ k = 8 ∨ k = 10 ∨ (12 ≤ k ∧ k ≤ 16) ∨ (18 ≤ k ∧ k < 31) ∨ (44 ≤ k ∧ k < 174)) → M' k = M k) ∧ M' 1 2 = M 1 2 ∧ M' 1 4 = M 1 4 ∧ M' 9 5 = M 9 5 ∧ M' 9 8 = M 9 8 ∧ M' 9 10 = M 9 10 ∧ M' 9 17 = M 9 17
theorem Inv.same {M M' : Mem} (h : Inv M) (e : Same M M') : Inv M' := by
  obtain ⟨e0, e1, e2, e3, e4, e5, e6⟩ := e
  obtain ⟨h1, h2, h3, h4, h5, h6⟩ := h
  refine ⟨?_, ?_, ?_, ?_, ?_, ?_⟩
  · exact HOK.cong h1 (fun j hj => e0 _ (by omega)) (e0 10 (by decide))
  · unfold iBu at h2 ⊢
    rw [e1, e5, e0 2 (by decide), e0 16 (by decide)]
    exact h2
  · unfold iWr at h3 ⊢
    rw [e4, e0 5 (by decide), e0 6 (by decide), e0 15 (by decide)]
    exact h3
  · obtain ⟨h, od, g1, g2, g3, g4, g5, g6⟩ := h4
    refine ⟨h, od, g1, g2, by rw [e0 3 (by decide)]; exact g3, by rw [e3]; exact g4, by rw [e0 3 (by decide)]; exact g5, fun j hj => (g6 j hj).cong (fun i hi => e0 _ (by omega)) (by rw [e0 12 (by decide)])⟩
  · intro j hj
    rcases h5 j hj with g | ⟨g1, g2, g3⟩
    · left
      rw [e0 8 (by decide), e0 14 (by decide)]
      exact g
    · right
      rw [e0 8 (by decide), e0 14 (by decide)]
      exact ⟨g1, g2, g3.cong (fun i hi => e0 _ (by omega)) (by rw [e0 13 (by decide)])⟩
  · unfold iEr at h6 ⊢
    rw [e2, e6]
    exact h6
theorem Same.refl (M : Mem) : Same M M := ⟨fun _ _ => rfl, rfl, rfl, rfl, rfl, rfl, rfl⟩
theorem Same.thr (M : Mem) (x : Int32) : Same M (mput M 9 6 x) :=
  ⟨fun k hk => mput_row (by omega), by rw [mput_row (by decide)], by rw [mput_row (by decide)], mput_col (by decide), mput_col (by decide), mput_col (by decide), mput_col (by decide)⟩
theorem Same.out (M : Mem) (x : Int32) : Same M (mput M 17 0 x) :=
  ⟨fun k hk => mput_row (by omega), by rw [mput_row (by decide)], by rw [mput_row (by decide)], by rw [mput_row (by decide)], by rw [mput_row (by decide)], by rw [mput_row (by decide)], by rw [mput_row (by decide)]⟩
theorem Same.trans {M M' M'' : Mem} (a : Same M M') (b : Same M' M'') : Same M M'' :=
  ⟨fun k hk => (b.1 k hk).trans (a.1 k hk), b.2.1.trans a.2.1, b.2.2.1.trans a.2.2.1, b.2.2.2.1.trans a.2.2.2.1, b.2.2.2.2.1.trans a.2.2.2.2.1, b.2.2.2.2.2.1.trans a.2.2.2.2.2.1, b.2.2.2.2.2.2.trans a.2.2.2.2.2.2⟩
/-! what a call on both sides comes to -/
def Agr (c : Option (Int32 × Mem)) (md : Mem → Option (Int32 × Mem)) : Prop := ∃ k M1 b M2, c = some (k, M1) ∧ md M1 = some (b, M2) ∧ M2 9 6 = k ∧ (k = 0 → M2 17 0 = b) ∧ Inv M2
theorem agr0 {M : Mem} (hI : Inv M) {c : Option (Int32 × Mem)} {md : Mem → Option (Int32 × Mem)} {r : Int32} (hc : c = some (0, mput M 17 0 r)) (hm : md (mput M 17 0 r) = some (r, mput (mput M 17 0 r) 9 6 0)) : Agr c md :=
  ⟨0, _, r, _, hc, hm, mput_at, fun _ => by rw [mput_row (by decide), mput_at], hI.same ((Same.out M r).trans (Same.thr _ 0))⟩
theorem agrk {M : Mem} (hI : Inv M) {c : Option (Int32 × Mem)} {md : Mem → Option (Int32 × Mem)} {k b : Int32} (hk : ¬ k = 0) (hc : c = some (k, M)) (hm : md M = some (b, mput M 9 6 k)) : Agr c md :=
  ⟨k, M, b, _, hc, hm, mput_at, fun h => absurd h hk, hI.same (Same.thr _ k)⟩
/-! arguments -/
def inR (p lo hi : Int32) : Bool := decide (lo ≤ p) && decide (p ≤ hi)
def inM (p : Int32) (m : Nat) : Bool := decide (0 ≤ p) && decide (p < nI m)
theorem inM_t {p : Int32} {m : Nat} (hm : m < 2 ^ 31) (h : inM p m = true) : ∃ a, a < m ∧ p = nI a := by
  simp only [inM, Bool.and_eq_true, decide_eq_true_eq] at h
  obtain ⟨a, ha, rfl⟩ := nI_of (i32_nlt.mpr h.1)
  exact ⟨a, (nI_ltI ha hm).mp h.2, rfl⟩
theorem inR_t {p : Int32} {a b : Nat} (ha : a < 2 ^ 31) (hb : b < 2 ^ 31) (h : inR p (nI a) (nI b) = true) : ∃ x, a ≤ x ∧ x ≤ b ∧ p = nI x := by
  simp only [inR, Bool.and_eq_true, decide_eq_true_eq] at h
  have h0 : ¬ p < 0 := by
    intro q
    have h1 := h.1
    rw [i32_le, nI_tI ha] at h1
    rw [i32_lt] at q
    have e : (0 : Int32).toInt = 0 := rfl
    omega
  obtain ⟨x, hx, rfl⟩ := nI_of h0
  exact ⟨x, (nI_leI ha hx).mp h.1, (nI_leI hx hb).mp h.2, rfl⟩
theorem X6_isIn (p lo hi : Int32) (M : Mem) : f_X6_isIn p lo hi M = some (b2 (inR p lo hi)) := by
  unfold f_X6_isIn inR
  by_cases h1 : p < lo
  · rw [if_pos h1, decide_eq_false (i32_nle.mpr h1)]
    rfl
  · rw [if_neg h1, decide_eq_true (i32_nlt.mp h1)]
    by_cases h2 : hi < p
    · rw [if_pos h2, decide_eq_false (i32_nle.mpr h2)]
      rfl
    · rw [if_neg h2, decide_eq_true (i32_nlt.mp h2)]
      rfl
def ex (b : Bool) (k : Nat) : Nat := if b = true then 0 else k
theorem X5_requireWithin (p lo hi : Int32) (M : Mem) : f_X5_requireWithin p lo hi M = some (ex (inR p lo hi) 2, 0, M) := by
  unfold f_X5_requireWithin f_X5_requireWithin_10 inR
  by_cases h1 : p < lo
  · rw [if_pos h1, decide_eq_false (i32_nle.mpr h1)]
    rfl
  · rw [if_neg h1, decide_eq_true (i32_nlt.mp h1)]
    by_cases h2 : p ≤ hi
    · rw [if_pos h2, decide_eq_true h2]
      rfl
    · rw [if_neg h2, decide_eq_false h2]
      rfl
theorem require_any {p : Int32} {m k : Nat} {x : Int32} {M : Mem} (hx : x = nI m) {f : Option (Nat × Int32 × Mem)} (hf : f = if p < 0 then some (k, 0, M) else if p < x then some (0, 0, M) else some (k, 0, M)) : f = some (ex (inM p m) k, 0, M) := by
  rw [hf, hx]
  unfold inM
  by_cases h1 : p < 0
  · rw [if_pos h1, decide_eq_false (i32_nle.mpr h1)]
    rfl
  · rw [if_neg h1, decide_eq_true (i32_nlt.mp h1)]
    by_cases h2 : p < nI m
    · rw [if_pos h2, decide_eq_true h2]
      rfl
    · rw [if_neg h2, decide_eq_false h2]
      rfl
theorem isM_any {p : Int32} {m : Nat} (hm : m ≤ 12) {x : Int32} {M : Mem} (hx : x = nI m) : f_X6_isIn p 0 (x - 1) M = some (b2 (inM p m)) := by
  rw [X6_isIn, hx]
  congr 2
  unfold inR inM
  congr 1
  apply decide_eq_decide.mpr
  rw [i32_le, i32_lt, nI_tI (by omega)]
  have e : (nI m - 1).toInt = (m : Int) - 1 := by
    rw [Int32.toInt_sub, nI_tI (by omega), show (1 : Int32).toInt = 1 from rfl, Int.bmod_eq_of_le (by omega) (by omega)]
  rw [e]
  omega
section AR
variable {M : Mem} {m n t : Nat} {v : Nat → Int32}
theorem X5_requireMonk (h : HR M 18 v m n) (w : VV v m n t) (p : Int32) : f_X5_requireMonk p M = some (ex (inM p m) 1, 0, M) := require_any (h.1.1.trans w.e0) rfl
theorem X5_requireNeed (h : HR M 18 v m n) (w : VV v m n t) (p : Int32) : f_X5_requireNeed p M = some (ex (inM p n) 1, 0, M) := require_any (h.1.2.1.trans w.e1) rfl
theorem X5_requireHour (p : Int32) : f_X5_requireHour p M = some (ex (inM p 24) 1, 0, M) := require_any (x := 24) rfl rfl
theorem X5_requireSlot (p : Int32) : f_X5_requireSlot p M = some (ex (inM p 2) 1, 0, M) := require_any (x := 2) rfl rfl
theorem X6_isMonk (hv : M 10 = v) (w : VV v m n t) (p : Int32) : f_X6_isMonk p M = some (b2 (inM p m)) := by
  have h12 := w.m12
  unfold f_X6_isMonk
  rw [hv, isM_any h12 w.e0]
  rfl
theorem X6_isNeed (hv : M 10 = v) (w : VV v m n t) (p : Int32) : f_X6_isNeed p M = some (b2 (inM p n)) := by
  have h8 := w.n8
  unfold f_X6_isNeed
  rw [hv, isM_any (by omega) w.e1]
  rfl
theorem inR_hour (p : Int32) : inR p 0 23 = inM p 24 := by
  unfold inR inM
  congr 1
  apply decide_eq_decide.mpr
  rw [i32_le, i32_lt, nI_tI (by decide), show (23 : Int32).toInt = 23 from rfl]
  omega
theorem inR_slot (p : Int32) : inR p 0 1 = inM p 2 := by
  unfold inR inM
  congr 1
  apply decide_eq_decide.mpr
  rw [i32_le, i32_lt, nI_tI (by decide), show (1 : Int32).toInt = 1 from rfl]
  omega
theorem ex_t (k : Nat) : ex true k = 0 := rfl
theorem ex_f (k : Nat) : ex false k = k := rfl
/-! both monks, the need, and that they are two -/
def sWt (p q r : Int32) (m n : Nat) : Nat := if inM p m = true then (if inM q m = true then (if inM r n = true then (if p = q then 2 else 0) else 1) else 1) else 1
theorem X5_requireTelling (h : HR M 18 v m n) (w : VV v m n t) (p q r : Int32) : f_X5_requireTelling p q r M = some (sWt p q r m n, 0, M) := by
  unfold f_X5_requireTelling f_X5_requireTwo sWt
  simp only [X5_requireMonk h w, bnd3_some, X5_requireNeed h w]
  cases inM p m with
  | false => rfl
  | true =>
    rw [ex_t, if_pos rfl, if_pos rfl]
    cases inM q m with
    | false => rfl
    | true =>
      rw [ex_t, if_pos rfl, if_pos rfl]
      cases inM r n with
      | false => rfl
      | true =>
        rw [ex_t, if_pos rfl, if_pos rfl]
        by_cases hpq : p = q
        · rw [if_pos hpq, if_pos hpq]; rfl
        · rw [if_neg hpq, if_neg hpq]; rfl
theorem X6_wrongTwo (hv : M 10 = v) (w : VV v m n t) (p q r : Int32) : f_X6_wrongTwo p q r M = some (nI (sWt p q r m n)) := by
  unfold f_X6_wrongTwo f_X6_wrongTwo_24 sWt
  simp only [X6_isMonk hv w, bnd_some, X6_isNeed hv w]
  cases inM p m with
  | false => rfl
  | true =>
    rw [if_neg (by decide), if_pos rfl]
    cases inM q m with
    | false => rfl
    | true =>
      rw [if_neg (by decide), if_pos rfl]
      cases inM r n with
      | false => rfl
      | true =>
        rw [if_neg (by decide), if_pos rfl]
        by_cases hpq : p = q
        · rw [if_pos hpq, if_pos hpq]; rfl
        · rw [if_neg hpq, if_neg hpq]; rfl
theorem sWt_0 {p q r : Int32} (hm : m ≤ 12) (hn : n ≤ 8) (h : sWt p q r m n = 0) : ∃ a b j, a < m ∧ b < m ∧ j < n ∧ a ≠ b ∧ p = nI a ∧ q = nI b ∧ r = nI j := by
  unfold sWt at h
  split at h
  · rename_i h1
    split at h
    · rename_i h2
      split at h
      · rename_i h3
        split at h
        · cases h
        · rename_i h4
          obtain ⟨a, ha, rfl⟩ := inM_t (by omega) h1
          obtain ⟨b, hb, rfl⟩ := inM_t (by omega) h2
          obtain ⟨j, hj, rfl⟩ := inM_t (by omega) h3
          exact ⟨a, b, j, ha, hb, hj, fun e => h4 (by rw [e]), rfl, rfl, rfl⟩
      · cases h
    · cases h
  · cases h
theorem sWt_3 (p q r : Int32) : sWt p q r m n < 3 := by
  unfold sWt
  split
  · split
    · split
      · split <;> decide
      · decide
    · decide
  · decide
end AR
