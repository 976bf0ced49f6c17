/-! NAMES: five bits a letter on the one side, base 27 on the other -/
theorem ishr_nI {x s : Nat} (hx : x < 2 ^ 31) (hs : s < 32) : ishr (nI x) (nI s) = nI (x / 2 ^ s) := by
  unfold ishr
  have e1 : nI s &&& 31 = nI s := by
    rw [show (31 : Int32) = nI 31 from rfl, and_nI]
    congr 1
    rw [show (31 : Nat) = 2 ^ 5 - 1 from rfl, Nat.and_two_pow_sub_one_eq_mod, Nat.mod_eq_of_lt hs]
  rw [e1]
  apply Int32.toInt.inj
  rw [nI_tI (Nat.lt_of_le_of_lt (Nat.div_le_self _ _) hx)]
  show (BitVec.sshiftRight' (nI x).toBitVec ((nI s).toBitVec.smod 32)).toInt = _
  have e2 : ((nI s).toBitVec.smod 32) = BitVec.ofNat 32 s := by
    have h : ∀ s : Fin 32, ((nI s.val).toBitVec.smod 32) = BitVec.ofNat 32 s.val := by decide +kernel
    exact h ⟨s, hs⟩
  rw [e2, BitVec.toInt_sshiftRight', BitVec.toNat_ofNat, Nat.mod_eq_of_lt (by omega)]
  show (nI x).toInt >>> s = _
  rw [nI_tI hx, Int.shiftRight_eq_div_pow]
  rfl
theorem and31_nI (x : Nat) : nI x &&& 31 = nI (x % 32) := by
  rw [show (31 : Int32) = nI 31 from rfl, and_nI]
  congr 1
  rw [show (31 : Nat) = 2 ^ 5 - 1 from rfl, Nat.and_two_pow_sub_one_eq_mod]
def fB (B : Nat) (ls : List Nat) : Nat := ls.foldl (fun a l => B * a + l) 0
theorem fB_snoc (B : Nat) (ls : List Nat) (l : Nat) : fB B (ls ++ [l]) = B * fB B ls + l := by
  unfold fB
  rw [List.foldl_append]
  rfl
def dgOK (ls : List Nat) : Prop := ∀ l, l ∈ ls → 1 ≤ l ∧ l ≤ 26
theorem dgOK.l {ls : List Nat} {l : Nat} (h : dgOK (ls ++ [l])) : dgOK ls ∧ 1 ≤ l ∧ l ≤ 26 := ⟨fun x hx => h x (List.mem_append_left _ hx), h l (List.mem_append_right _ (List.mem_singleton.mpr rfl))⟩
theorem dgOK.c {ls : List Nat} {l : Nat} (h : dgOK ls) (h1 : 1 ≤ l) (h2 : l ≤ 26) : dgOK (ls ++ [l]) := fun x hx => by
  rcases List.mem_append.mp hx with hx | hx
  · exact h x hx
  · rw [List.mem_singleton.mp hx]
    exact ⟨h1, h2⟩
theorem snoc_cases (ls : List Nat) : ls = [] ∨ ∃ l' b, ls = l' ++ [b] := by
  rcases List.eq_nil_or_concat ls with h | ⟨l', b, h⟩
  · exact Or.inl h
  · exact Or.inr ⟨l', b, by rw [h, List.concat_eq_append]⟩
theorem snoc_ind {P : List Nat → Prop} (h0 : P []) (hs : ∀ ls l, P ls → P (ls ++ [l])) : ∀ n ls, ls.length = n → P ls := by
  intro n
  induction n with
  | zero =>
    intro ls h
    rw [List.length_eq_zero_iff.mp h]
    exact h0
  | succ n ih =>
    intro ls h
    rcases snoc_cases ls with rfl | ⟨l', b, rfl⟩
    · exact h0
    · exact hs _ _ (ih l' (by simpa using h))
theorem fB_lt {B : Nat} (hB : 26 < B) {ls : List Nat} (h : dgOK ls) : fB B ls < B ^ ls.length := by
  refine snoc_ind (P := fun ls => dgOK ls → fB B ls < B ^ ls.length) (fun _ => by simp [fB]) (fun ls l ih hd => ?_) _ ls rfl h
  have hl := hd.l
  have h1 := ih hl.1
  rw [fB_snoc, List.length_append, List.length_singleton, Nat.pow_succ]
  have h2 : B * (fB B ls + 1) ≤ B * B ^ ls.length := Nat.mul_le_mul_left _ h1
  rw [Nat.mul_add, Nat.mul_one] at h2
  rw [Nat.mul_comm (B ^ ls.length)]
  omega
theorem fB_inj {B : Nat} (hB : 26 < B) : ∀ (n : Nat) (a b : List Nat), a.length = n → dgOK a → dgOK b → fB B a = fB B b → a = b := by
  intro n
  induction n with
  | zero =>
    intro a b ha h1 h2 h
    rw [List.length_eq_zero_iff.mp ha] at h ⊢
    rcases snoc_cases b with rfl | ⟨l', l, rfl⟩
    · rfl
    · rw [fB_snoc] at h
      have := h2.l.2
      have e : fB B [] = 0 := rfl
      omega
  | succ n ih =>
    intro a b ha h1 h2 h
    rcases snoc_cases a with rfl | ⟨a', x, rfl⟩
    · simp at ha
    · rcases snoc_cases b with rfl | ⟨b', y, rfl⟩
      · rw [fB_snoc] at h
        have := h1.l.2
        have e : fB B [] = 0 := rfl
        omega
      · rw [fB_snoc, fB_snoc] at h
        have hx := h1.l.2
        have hy := h2.l.2
        have e1 : (B * fB B a' + x) % B = x := by rw [Nat.mul_add_mod, Nat.mod_eq_of_lt (by omega)]
        have e2 : (B * fB B b' + y) % B = y := by rw [Nat.mul_add_mod, Nat.mod_eq_of_lt (by omega)]
        have exy : x = y := by rw [← e1, h, e2]
        subst exy
        have e3 : fB B a' = fB B b' := Nat.eq_of_mul_eq_mul_left (show 0 < B by omega) (by omega)
        rw [ih a' b' (by simpa using ha) h1.l.1 h2.l.1 e3]
theorem f32_lt {ls : List Nat} (h : nmOK ls) : f32 ls < 2 ^ 30 := by
  have h1 : fB 32 ls < 32 ^ ls.length := fB_lt (by decide) h.2.2
  have h2 : 32 ^ ls.length ≤ 32 ^ 6 := Nat.pow_le_pow_right (by decide) h.2.1
  exact Nat.lt_of_lt_of_le h1 h2
theorem f27_lt {ls : List Nat} (h : nmOK ls) : f27 ls < 2 ^ 30 := by
  have h1 : fB 27 ls < 27 ^ ls.length := fB_lt (by decide) h.2.2
  have h2 : 27 ^ ls.length ≤ 27 ^ 6 := Nat.pow_le_pow_right (by decide) h.2.1
  exact Nat.lt_of_lt_of_le h1 (Nat.le_trans h2 (by decide))
theorem HN.iff {x y x' y' : Int32} (h : HN x y) (h' : HN x' y') : x = x' ↔ y = y' := by
  obtain ⟨a, ha, rfl, rfl⟩ := h
  obtain ⟨b, hb, rfl, rfl⟩ := h'
  have h1 := f32_lt ha
  have h2 := f32_lt hb
  have h3 := f27_lt ha
  have h4 := f27_lt hb
  rw [nI_eq (by omega) (by omega), nI_eq (by omega) (by omega)]
  constructor
  · intro h
    rw [fB_inj (B := 32) (by decide) _ a b rfl ha.2.2 hb.2.2 h]
  · intro h
    rw [fB_inj (B := 27) (by decide) _ a b rfl ha.2.2 hb.2.2 h]
/-- the digits from the last on -/
def dg (ls : List Nat) (i : Nat) : Nat := ls.reverse.getD i 0
theorem dg_snoc0 (ls : List Nat) (l : Nat) : dg (ls ++ [l]) 0 = l := by simp [dg]
theorem dg_snocS (ls : List Nat) (l i : Nat) : dg (ls ++ [l]) (i + 1) = dg ls i := by simp [dg]
theorem dg_nil (i : Nat) : dg [] i = 0 := by simp [dg]
theorem dg_fB {B : Nat} (hB : 26 < B) : ∀ (i : Nat) (ls : List Nat), dgOK ls → fB B ls / B ^ i % B = dg ls i := by
  intro i
  induction i with
  | zero =>
    intro ls h
    rw [Nat.pow_zero, Nat.div_one]
    rcases snoc_cases ls with rfl | ⟨l', b, rfl⟩
    · rw [dg_nil]; show 0 % B = 0; exact Nat.zero_mod _
    · rw [fB_snoc, dg_snoc0, Nat.mul_add_mod, Nat.mod_eq_of_lt (by have := h.l.2; omega)]
  | succ i ih =>
    intro ls h
    rcases snoc_cases ls with rfl | ⟨l', b, rfl⟩
    · rw [dg_nil]; show 0 / B ^ (i + 1) % B = 0; rw [Nat.zero_div, Nat.zero_mod]
    · rw [dg_snocS, ← ih l' h.l.1, fB_snoc, Nat.pow_succ, Nat.mul_comm (B ^ i), ← Nat.div_div_eq_div_mul]
      congr 2
      rw [Nat.mul_add_div (by omega), Nat.div_eq_of_lt (by have := h.l.2; omega), Nat.add_zero]
theorem dg_ge : ∀ (i : Nat) (ls : List Nat), ls.length ≤ i → dg ls i = 0 := by
  intro i ls h
  unfold dg
  rw [List.getD_eq_getElem?_getD, List.getElem?_eq_none (by simpa using h)]
  rfl
theorem dg_lt {i : Nat} {ls : List Nat} (h : dgOK ls) (hi : i < ls.length) : 1 ≤ dg ls i ∧ dg ls i ≤ 26 := by
  unfold dg
  rw [List.getD_eq_getElem?_getD, List.getElem?_eq_getElem (by simpa using hi)]
  exact h _ (by
    have := List.getElem_mem (l := ls.reverse) (n := i) (by simpa using hi)
    simpa using this)
theorem dg_26 {i : Nat} {ls : List Nat} (h : dgOK ls) : dg ls i ≤ 26 := by
  by_cases hi : i < ls.length
  · exact (dg_lt h hi).2
  · rw [dg_ge i ls (by omega)]
    decide
def ltr (d : Nat) : Int32 := if d = 0 then 0 else nI (96 + d)
theorem X2_letterAt {ls : List Nat} (h : nmOK ls) {k : Nat} (hk : k < 6) (M : Mem) : f_X2_letterAt (nI (f32 ls)) (nI k) M = some (ltr (dg ls (5 - k))) := by
  unfold f_X2_letterAt ltr
  have e : (5 * (5 - nI k) : Int32) = nI (5 * (5 - k)) := by
    rw [show (5 : Int32) = nI 5 from rfl, nI_sub (by omega), nI_mul]
  have hl := f32_lt h
  have e2 : (ishr (nI (f32 ls)) (5 * (5 - nI k))) &&& 31 = nI (dg ls (5 - k)) := by
    rw [e, ishr_nI (by omega) (by omega), and31_nI]
    congr 1
    rw [← dg_fB (B := 32) (by decide) (5 - k) ls h.2.2, show (32 : Nat) ^ (5 - k) = 2 ^ (5 * (5 - k)) by rw [Nat.pow_mul]]
    rfl
  have h26 : dg ls (5 - k) ≤ 26 := dg_26 h.2.2
  rw [e2]
  by_cases hz : dg ls (5 - k) = 0
  · rw [hz, if_pos (show nI 0 = 0 from rfl), if_pos rfl]
  · rw [if_neg (show ¬ nI (dg ls (5 - k)) = 0 from fun q => hz (nI_inj (by omega) (by decide) q)), if_neg hz, show (96 : Int32) = nI 96 from rfl, nI_add, Nat.add_comm]
theorem X2_lettersIn {ls : List Nat} (h : nmOK ls) (M : Mem) : f_X2_lettersIn (nI (f32 ls)) M = some (nI ls.length) := by
  have key := acc3 (b := f_X2_lettersIn_4 M) (nI (f32 ls)) (fun k => b2 (decide (5 - k < ls.length))) 6 (by decide) (fun r a k hk => ?_) (fun r a => ?_)
  · refine Eq.trans key ?_
    have h1 := h.1
    have h2 := h.2.1
    rcases (show ls.length = 1 ∨ ls.length = 2 ∨ ls.length = 3 ∨ ls.length = 4 ∨ ls.length = 5 ∨ ls.length = 6 by omega) with e | e | e | e | e | e <;> rw [e] <;> decide
  · unfold f_X2_lettersIn_4 f_X2_lettersIn_21
    rw [show (6 : Int32) = nI 6 from rfl, if_neg (not_le_nI hk (by decide)), ev_bnd (X2_letterAt h hk M)]
    unfold ltr
    by_cases hl : 5 - k < ls.length
    · have hd := dg_lt h.2.2 hl
      rw [if_neg (show ¬ dg ls (5 - k) = 0 by omega), if_neg (fun q => by have := nI_inj (b := 0) (by omega) (by decide) q; omega), decide_eq_true hl, add_b2t]
    · rw [dg_ge _ _ (by omega), if_pos rfl, if_pos rfl, decide_eq_false hl, add_b2f]
  · unfold f_X2_lettersIn_4
    rw [show (6 : Int32) = nI 6 from rfl, if_pos (le_self_nI 6)]
theorem X6_lengthOf {ls : List Nat} (h : nmOK ls) (M : Mem) : f_X6_lengthOf (nI (f27 ls)) M = some (nI ls.length) := by
  have key := lp_ms (z := fun _ _ => none) (b := f_X6_lengthOf_4 M) (fun k r => ∀ ls : List Nat, ls.length = k → dgOK ls → k ≤ 6 → ∀ a : Nat, r (nI a) (nI (fB 27 ls)) = some (nI (a + k))) (fun k r ih ls hl hd hk a => ?_) FU ls.length (by rw [FU_eq]; have := h.2.1; omega) ls rfl h.2.2 h.2.1 0
  · rw [Nat.zero_add] at key
    exact key
  · unfold f_X6_lengthOf_4
    rcases snoc_cases ls with rfl | ⟨l', b, rfl⟩
    · rw [← hl]
      exact if_pos (le_self_nI 0)
    · have h1 := hd.l
      have hlen : l'.length + 1 = k := by simpa using hl
      have hlt : fB 27 (l' ++ [b]) < 2 ^ 31 := by
        have q1 : fB 27 (l' ++ [b]) < 27 ^ (l' ++ [b]).length := fB_lt (by decide) hd
        have q2 : 27 ^ (l' ++ [b]).length ≤ 27 ^ 6 := Nat.pow_le_pow_right (by decide) (by omega)
        exact Nat.lt_of_lt_of_le q1 (Nat.le_trans q2 (by decide))
      have hpos : 0 < fB 27 (l' ++ [b]) := by rw [fB_snoc]; omega
      rw [if_neg (show ¬ nI (fB 27 (l' ++ [b])) ≤ 0 from nI_nle hpos hlt), show (27 : Int32) = nI 27 from rfl, nI_div hlt (by decide), ← nI_succ]
      have e : fB 27 (l' ++ [b]) / 27 = fB 27 l' := by
        rw [fB_snoc, Nat.mul_add_div (by decide), Nat.div_eq_of_lt (by omega), Nat.add_zero]
      rw [e, ih l'.length (by omega) l' rfl h1.1 (by omega) (a + 1)]
      congr 2
      omega
