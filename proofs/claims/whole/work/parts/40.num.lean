/-! NUMBERS: what the pure functions reckon with -/
theorem lit (n : Nat) : (OfNat.ofNat n : Int32) = nI n := rfl
theorem nI_mul (a b : Nat) : nI a * nI b = nI (a * b) := (Int32.ofNat_mul a b).symm
theorem nI_sub {a b : Nat} (h : b ≤ a) : nI a - nI b = nI (a - b) := (Int32.ofNat_sub a b h).symm
theorem nI_tI {n : Nat} (h : n < 2 ^ 31) : (nI n).toInt = (n : Int) := nI_toInt h
theorem i32_le {x y : Int32} : x ≤ y ↔ x.toInt ≤ y.toInt := Int32.le_iff_toInt_le
theorem i32_lt {x y : Int32} : x < y ↔ x.toInt < y.toInt := Int32.lt_iff_toInt_lt
theorem i32_eq {x y : Int32} : x = y ↔ x.toInt = y.toInt := Int32.toInt_inj.symm
theorem i32_nle {x y : Int32} : ¬ x ≤ y ↔ y < x := Int32.not_le
theorem i32_nlt {x y : Int32} : ¬ x < y ↔ y ≤ x := Int32.not_lt
theorem nI_div {a b : Nat} (ha : a < 2 ^ 31) (hb : b < 2 ^ 31) : nI a / nI b = nI (a / b) := by
  apply Int32.toInt.inj
  rw [Int32.toInt_div_of_ne_right _ _ (fun h => by
    have := congrArg Int32.toInt h
    rw [nI_tI hb] at this
    have e : (-1 : Int32).toInt = -1 := rfl
    omega), nI_tI ha, nI_tI hb, nI_tI (Nat.lt_of_le_of_lt (Nat.div_le_self a b) ha)]
  rw [Int.tdiv_eq_ediv_of_nonneg (by omega)]
  rfl
theorem nI_irem {a b : Nat} (ha : a < 2 ^ 31) (hb : b < 2 ^ 31) : irem (nI a) (nI b) = nI (a % b) := by
  unfold irem
  rw [nI_div ha hb, nI_mul, nI_sub (Nat.div_mul_le_self a b)]
  congr 1
  have := Nat.div_add_mod a b
  rw [Nat.mul_comm] at this
  omega
theorem m1_ne {n : Nat} (h : n < 2 ^ 31) : ¬ nI n = -1 := fun e => by
  have := congrArg Int32.toInt e
  rw [nI_tI h] at this
  have e : (-1 : Int32).toInt = -1 := rfl
  omega
theorem nI_lt0 {n : Nat} (h : n < 2 ^ 31) : ¬ nI n < 0 := nI_pos h
theorem nI_inj {a b : Nat} (ha : a < 2 ^ 31) (hb : b < 2 ^ 31) (h : nI a = nI b) : a = b := (nI_eq ha hb).mp h
theorem m1_lt {n : Nat} (h : n < 2 ^ 31) : (-1 : Int32) < nI n := by
  rw [i32_lt, nI_tI h]
  have e : (-1 : Int32).toInt = -1 := rfl
  omega
theorem imin_nI {a b : Nat} (ha : a < 2 ^ 31) (hb : b < 2 ^ 31) : imin (nI a) (nI b) = nI (min a b) := by
  unfold imin
  by_cases h : b < a
  · rw [if_pos ((nI_ltI hb ha).mpr h), Nat.min_eq_right (by omega)]
  · rw [if_neg (fun q => h ((nI_ltI hb ha).mp q)), Nat.min_eq_left (by omega)]
theorem imax_comm (x y : Int32) : imax x y = imax y x := by
  unfold imax
  by_cases h : x < y
  · rw [if_pos h, if_neg (fun q => by rw [i32_lt] at *; omega)]
  · by_cases h2 : y < x
    · rw [if_neg h, if_pos h2]
    · rw [if_neg h, if_neg h2]
      apply i32_eq.mpr
      rw [i32_lt] at *
      omega
/-! THE STEPS, evaluated -/
theorem ev_bnd {α β : Type} {o : Option α} {a : α} {k : α → Option β} (h : o = some a) : bnd o k = k a := by rw [h]; rfl
theorem ev_bnd2 {β : Type} {o : Option (Int32 × Mem)} {a : Int32} {M : Mem} {k : Int32 → Mem → Option β} (h : o = some (a, M)) : bnd2 o k = k a M := by rw [h]; rfl
theorem ev_bnd3 {β : Type} {o : Option (Nat × Int32 × Mem)} {e : Nat} {a : Int32} {M : Mem} {k : Nat → Int32 → Mem → Option β} (h : o = some (e, a, M)) : bnd3 o k = k e a M := by rw [h]; rfl
theorem ev_chk {α : Type} {b : Bool} {k : Option α} (h : b = true) : chk b k = k := by rw [h]; rfl
theorem bnd_some {α β : Type} (a : α) (k : α → Option β) : bnd (some a) k = k a := rfl
theorem bnd2_some {β : Type} (a : Int32) (M : Mem) (k : Int32 → Mem → Option β) : bnd2 (some (a, M)) k = k a M := rfl
theorem bnd3_some {β : Type} (e : Nat) (a : Int32) (M : Mem) (k : Nat → Int32 → Mem → Option β) : bnd3 (some (e, a, M)) k = k e a M := rfl
theorem letM_eq {β : Type} (M : Mem) (k : Mem → Option β) : letM M k = k M := rfl
theorem letV_eq {β : Type} (x : Int32) (k : Int32 → Option β) : letV x k = k x := rfl
theorem chk_true {α : Type} (k : Option α) : chk true k = k := rfl
/-- a loop that counts: what holds of its entry at each count -/
theorem lp_dn {σ : Type} {z : σ} {b : σ → σ} (P : Nat → σ → Prop) (n : Nat) (hexit : ∀ r, P n (b r)) (hstep : ∀ k r, k < n → P (k + 1) r → P k (b r)) : ∀ k f, k ≤ n → n - k < f → P k (lp z b f) := by
  intro k f hk hf
  induction f generalizing k with
  | zero => omega
  | succ f ih =>
    rw [lp_s]
    by_cases h : k = n
    · subst h
      exact hexit _
    · exact hstep k _ (by omega) (ih (k + 1) (by omega) (by omega))
/-- a loop under a measure -/
theorem lp_ms {σ : Type} {z : σ} {b : σ → σ} (P : Nat → σ → Prop) (hstep : ∀ k r, (∀ j, j < k → P j r) → P k (b r)) : ∀ f k, k < f → P k (lp z b f) := by
  intro f
  induction f with
  | zero => intro k h; omega
  | succ f ih =>
    intro k hk
    rw [lp_s]
    exact hstep k _ (fun j hj => ih j (by omega))
theorem FU_eq : FU = 4096 := rfl
/-! SETS OF NEEDS as bits of a small number -/
def M00 : Mem := fun _ _ => 0
def pc8 (s : Nat) : Nat := (s &&& 1) + (s >>> 1 &&& 1) + (s >>> 2 &&& 1) + (s >>> 3 &&& 1) + (s >>> 4 &&& 1) + (s >>> 5 &&& 1) + (s >>> 6 &&& 1) + (s >>> 7 &&& 1)
theorem bc_all : ∀ s : Fin 256, f_J6_bitCount_0f7a4 (nI s.val) M00 = some (nI (pc8 s.val)) := by decide +kernel
theorem bits_all : ∀ s : Fin 256, f_X6_bits (nI s.val) M00 = some (nI (pc8 s.val)) := by decide +kernel
theorem bc_nI {s : Nat} (h : s < 256) (M : Mem) : f_J6_bitCount_0f7a4 (nI s) M = some (nI (pc8 s)) := bc_all ⟨s, h⟩
theorem bits_nI {s : Nat} (h : s < 256) (M : Mem) : f_X6_bits (nI s) M = some (nI (pc8 s)) := bits_all ⟨s, h⟩
def mem8 (s i : Nat) : Bool := (s >>> i) % 2 == 1
theorem cm_all : ∀ s : Fin 256, ∀ i : Fin 8, decide ((nI s.val &&& (ishl 1 (nI i.val))) = 0) = !(mem8 s.val i.val) := by decide +kernel
theorem mm_all : ∀ s : Fin 256, ∀ i : Fin 8, decide ((ishr (nI s.val) (nI i.val) &&& 1) = 1) = mem8 s.val i.val := by decide +kernel
theorem or_all : ∀ s : Fin 256, ∀ i : Fin 8, nI s.val ||| (ishl 1 (nI i.val)) = nI (s.val ||| 2 ^ i.val) ∧ s.val ||| 2 ^ i.val < 256 := by decide +kernel
theorem rm_all : ∀ s : Fin 256, ∀ i : Fin 8, mem8 s.val i.val = true → nI s.val &&& ((ishl 1 (nI i.val)) ^^^ (-1)) = nI (s.val - 2 ^ i.val) ∧ nI s.val - (ishl 1 (nI i.val)) = nI (s.val - 2 ^ i.val) := by decide +kernel
theorem cm_nI {s i : Nat} (hs : s < 256) (hi : i < 8) : (nI s &&& (ishl 1 (nI i))) = 0 ↔ mem8 s i = false := by
  have h := cm_all ⟨s, hs⟩ ⟨i, hi⟩
  dsimp only at h
  constructor
  · intro q
    rw [decide_eq_true q] at h
    simpa using h.symm
  · intro q
    rw [q] at h
    exact of_decide_eq_true h
theorem mm_nI {s i : Nat} (hs : s < 256) (hi : i < 8) : (ishr (nI s) (nI i) &&& 1) = 1 ↔ mem8 s i = true := by
  have h := mm_all ⟨s, hs⟩ ⟨i, hi⟩
  dsimp only at h
  constructor
  · intro q
    rw [decide_eq_true q] at h
    exact h.symm
  · intro q
    rw [q] at h
    exact of_decide_eq_true h
theorem or_nI {s i : Nat} (hs : s < 256) (hi : i < 8) : nI s ||| (ishl 1 (nI i)) = nI (s ||| 2 ^ i) := (or_all ⟨s, hs⟩ ⟨i, hi⟩).1
theorem or_lt {s i : Nat} (hs : s < 256) (hi : i < 8) : s ||| 2 ^ i < 256 := (or_all ⟨s, hs⟩ ⟨i, hi⟩).2
theorem rmc_nI {s i : Nat} (hs : s < 256) (hi : i < 8) (h : mem8 s i = true) : nI s &&& ((ishl 1 (nI i)) ^^^ (-1)) = nI (s - 2 ^ i) := (rm_all ⟨s, hs⟩ ⟨i, hi⟩ h).1
theorem rmm_nI {s i : Nat} (hs : s < 256) (hi : i < 8) (h : mem8 s i = true) : nI s - (ishl 1 (nI i)) = nI (s - 2 ^ i) := (rm_all ⟨s, hs⟩ ⟨i, hi⟩ h).2
theorem and_nI (a b : Nat) : nI a &&& nI b = nI (a &&& b) := by
  apply Int32.toBitVec_inj.mp
  show BitVec.ofNat 32 a &&& BitVec.ofNat 32 b = BitVec.ofNat 32 (a &&& b)
  apply BitVec.eq_of_toNat_eq
  simp [Nat.and_mod_two_pow]
theorem and_lt {a b : Nat} (ha : a < 256) : a &&& b < 256 := Nat.lt_of_le_of_lt Nat.and_le_left ha
theorem sup_all (x y : Int32) : (x &&& (y ^^^ (-1))) = 0 ↔ (y &&& x) = x := by
  rw [← Int32.toBitVec_inj, ← Int32.toBitVec_inj]
  simp only [Int32.toBitVec_and, Int32.toBitVec_xor]
  generalize x.toBitVec = a
  generalize y.toBitVec = b
  have e1 : (-1 : Int32).toBitVec = BitVec.allOnes 32 := by decide
  have e0 : (0 : Int32).toBitVec = 0#32 := by decide
  rw [e1, e0]
  have hc : ∀ i, i < 32 → (BitVec.allOnes 32).getLsbD i = true := fun i hi => by rw [BitVec.getLsbD_allOnes]; simp [hi]
  generalize BitVec.allOnes 32 = c at hc
  constructor
  · intro h
    apply BitVec.eq_of_getLsbD_eq
    intro i hi
    have h2 := congrArg (fun z => z.getLsbD i) h
    simp only [BitVec.getLsbD_and, BitVec.getLsbD_xor, hc i hi, BitVec.getLsbD_zero] at h2
    simp only [BitVec.getLsbD_and]
    generalize a.getLsbD i = u at h2 ⊢
    generalize b.getLsbD i = w at h2 ⊢
    cases u <;> cases w <;> simp_all
  · intro h
    apply BitVec.eq_of_getLsbD_eq
    intro i hi
    have h2 := congrArg (fun z => z.getLsbD i) h
    simp only [BitVec.getLsbD_and] at h2
    simp only [BitVec.getLsbD_and, BitVec.getLsbD_xor, hc i hi, BitVec.getLsbD_zero]
    generalize a.getLsbD i = u at h2 ⊢
    generalize b.getLsbD i = w at h2 ⊢
    cases u <;> cases w <;> simp_all
