/-! WRITTEN TEXTS -/
def CW (M0 M : Mem) (bs : List Int32) : Prop := bs.length ≤ 119 ∧ M 5 1 = nI bs.length ∧ (∀ k, k < bs.length → M 6 k = bs.getD k 0) ∧ ∀ x, x ≠ 5 → x ≠ 6 → M x = M0 x
def NW (N0 N : Mem) (bs : List Int32) : Prop := bs.length ≤ 119 ∧ N 9 8 = nI bs.length ∧ (∀ k, k < bs.length → N 15 k = bs.getD k 0) ∧ (∀ c, c ≠ 8 → N 9 c = N0 9 c) ∧ ∀ x, x ≠ 9 → x ≠ 15 → N x = N0 x
theorem getD_l {bs cs : List Int32} {k : Nat} (h : k < bs.length) : (bs ++ cs).getD k 0 = bs.getD k 0 := by
  rw [List.getD_eq_getElem?_getD, List.getD_eq_getElem?_getD, List.getElem?_append_left h]
theorem getD_r {bs : List Int32} {b : Int32} : (bs ++ [b]).getD bs.length 0 = b := by
  rw [List.getD_eq_getElem?_getD, List.getElem?_append_right (Nat.le_refl _), Nat.sub_self]
  rfl
theorem CW.put {M0 M : Mem} {bs : List Int32} (h : CW M0 M bs) (hl : bs.length < 119) (b : Int32) : ∃ M1, f_X4_addByte b M = some M1 ∧ CW M0 M1 (bs ++ [b]) := by
  obtain ⟨h1, h2, h3, h4⟩ := h
  refine ⟨mput (mput M 6 bs.length b) 5 1 (nI (bs.length + 1)), ?_, by simp; omega, by rw [mput_at]; simp, fun k hk => ?_, fun x h5 h6 => by rw [mput_row h5, mput_row h6]; exact h4 x h5 h6⟩
  · unfold f_X4_addByte
    rw [h2, show (119 : Int32) = nI 119 from rfl, if_neg (not_le_nI hl (by decide)), ev_chk (inB_nI hl (by decide)), letM_eq, ix_nI (by omega), letM_eq, mput_row (by decide), h2, nI_succ]
  · rw [mput_row (by decide)]
    simp only [List.length_append, List.length_singleton] at hk
    by_cases hkl : k = bs.length
    · subst hkl
      rw [mput_at, getD_r]
    · rw [mput_col hkl, getD_l (by omega)]
      exact h3 k (by omega)
theorem NW.put {N0 N : Mem} {bs : List Int32} (h : NW N0 N bs) (hl : bs.length < 119) (b : Int32) : ∃ N1, f_X6_writes b N = some N1 ∧ NW N0 N1 (bs ++ [b]) := by
  obtain ⟨h1, h2, h3, h4, h5⟩ := h
  refine ⟨mput (mput N 15 bs.length b) 9 8 (nI (bs.length + 1)), ?_, by simp; omega, by rw [mput_at]; simp, fun k hk => ?_, fun c hc => by rw [mput_col hc, mput_row (by decide)]; exact h4 c hc, fun x h9 h15 => by rw [mput_row h9, mput_row h15]; exact h5 x h9 h15⟩
  · unfold f_X6_writes
    rw [h2, ev_chk (inB_nI (by omega) (by decide)), letM_eq, ix_nI (by omega), letM_eq, mput_row (by decide), h2, nI_succ]
  · rw [mput_row (by decide)]
    simp only [List.length_append, List.length_singleton] at hk
    by_cases hkl : k = bs.length
    · subst hkl
      rw [mput_at, getD_r]
    · rw [mput_col hkl, getD_l (by omega)]
      exact h3 k (by omega)
/-! a name -/
def nmB (ls : List Nat) : List Int32 := ls.map (fun l => nI (96 + l))
theorem nmB_len (ls : List Nat) : (nmB ls).length = ls.length := by simp [nmB]
theorem nmB_take {ls : List Nat} {i : Nat} (h : i < ls.length) : (nmB ls).take (i + 1) = (nmB ls).take i ++ [nI (96 + ls[i])] := by
  rw [List.take_succ]
  congr 1
  simp [nmB, h]
theorem dg_get {ls : List Nat} {i : Nat} (h : i < ls.length) : dg ls (ls.length - 1 - i) = ls[i] := by
  unfold dg
  rw [List.getD_eq_getElem?_getD, List.getElem?_reverse (by omega), show ls.length - 1 - (ls.length - 1 - i) = i by omega, List.getElem?_eq_getElem h]
  rfl
theorem X4_addName {M0 M : Mem} {bs : List Int32} {ls : List Nat} (hn : nmOK ls) (h : CW M0 M bs) (hl : bs.length + ls.length ≤ 119) : ∃ M1, f_X4_addName (nI (f32 ls)) M = some M1 ∧ CW M0 M1 (bs ++ nmB ls) := by
  have h6 := hn.2.1
  refine lp_dn (z := fun _ _ _ => none) (b := f_X4_addName_2) (fun k r => ∀ M, CW M0 M (bs ++ (nmB ls).take (k - (6 - ls.length))) → ∃ M1, r (nI (f32 ls)) (nI k) M = some M1 ∧ CW M0 M1 (bs ++ nmB ls)) 6 (fun r M h => ?_) (fun k r hk ih M h => ?_) 0 FU (by omega) (by rw [FU_eq]; omega) M (by rw [show 0 - (6 - ls.length) = 0 by omega]; simpa using h)
  · unfold f_X4_addName_2
    rw [show (6 : Int32) = nI 6 from rfl, if_pos (le_self_nI 6)]
    refine ⟨M, rfl, ?_⟩
    rw [show 6 - (6 - ls.length) = (nmB ls).length by rw [nmB_len]; omega, List.take_length] at h
    exact h
  · unfold f_X4_addName_2 f_X4_addName_23
    rw [show (6 : Int32) = nI 6 from rfl, if_neg (not_le_nI hk (by decide)), ev_bnd (X2_letterAt hn hk M), ← nI_succ]
    unfold ltr
    by_cases hp : 6 - ls.length ≤ k
    · have hi : k - (6 - ls.length) < ls.length := by omega
      have ed : dg ls (5 - k) = ls[k - (6 - ls.length)] := by
        rw [← dg_get hi]
        congr 1
        omega
      have hd := hn.2.2 _ (List.getElem_mem hi)
      rw [ed, if_neg (show ¬ ls[k - (6 - ls.length)] = 0 by omega), if_neg (show ¬ nI (96 + ls[k - (6 - ls.length)]) = 0 from fun q => by have := nI_inj (b := 0) (by omega) (by decide) q; omega)]
      have hlen : (bs ++ (nmB ls).take (k - (6 - ls.length))).length < 119 := by
        rw [List.length_append, List.length_take, nmB_len]
        omega
      obtain ⟨M1, e1, h1⟩ := h.put hlen (nI (96 + ls[k - (6 - ls.length)]))
      rw [ev_bnd e1]
      refine ih M1 ?_
      rw [show k + 1 - (6 - ls.length) = (k - (6 - ls.length)) + 1 by omega, nmB_take hi, ← List.append_assoc]
      exact h1
    · rw [dg_ge _ _ (by omega), if_pos rfl, if_pos rfl]
      refine ih M ?_
      rw [show k + 1 - (6 - ls.length) = k - (6 - ls.length) by omega]
      exact h
theorem X6_writesName {N0 N : Mem} {bs : List Int32} {ls : List Nat} (hn : nmOK ls) (h : NW N0 N bs) (hl : bs.length + ls.length ≤ 119) : ∃ N1, f_X6_writesName (nI (f27 ls)) N = some N1 ∧ NW N0 N1 (bs ++ nmB ls) := by
  have h6 := hn.2.1
  have h1 := hn.1
  have hf := f27_lt hn
  unfold f_X6_writesName
  rw [ev_bnd (X6_lengthOf hn N)]
  refine lp_dn (z := fun _ _ _ => none) (b := f_X6_writesName_7) (fun i r => ∀ N, NW N0 N (bs ++ (nmB ls).take i) → ∃ N1, r (nI (f27 ls)) (nI (ls.length - i) - 1) N = some N1 ∧ NW N0 N1 (bs ++ nmB ls)) ls.length (fun r N h => ?_) (fun i r hi ih N h => ?_) 0 FU (by omega) (by rw [FU_eq]; omega) N (by simpa using h)
  · unfold f_X6_writesName_7
    rw [Nat.sub_self, if_pos (show nI 0 - 1 < 0 by decide)]
    refine ⟨N, rfl, ?_⟩
    rw [show ls.length = (nmB ls).length by rw [nmB_len], List.take_length] at h
    exact h
  · unfold f_X6_writesName_7
    rw [show (1 : Int32) = nI 1 from rfl, nI_sub (by omega), if_neg (nI_pos (by omega))]
    have hk : ls.length - i - 1 < ls.length := by omega
    generalize hkk : ls.length - i - 1 = k at hk ⊢
    have hlen : (bs ++ (nmB ls).take i).length < 119 := by
      rw [List.length_append, List.length_take, nmB_len]
      omega
    obtain ⟨N1, e1, g1⟩ := h.put hlen (nI (96 + ls[i]))
    obtain ⟨N2, e2, g2⟩ := ih N1 (by
      rw [nmB_take hi, ← List.append_assoc]
      exact g1)
    refine ⟨N2, ?_, g2⟩
    have inner := lp_dn (z := fun _ _ _ _ _ => none) (b := f_X6_writesName_16 r) (fun s q => q (nI (f27 ls)) (nI k) (nI (f27 ls / 27 ^ s)) (nI s) N = some N2) k (fun q => ?_) (fun s q hs ih2 => ?_) 0 FU (by omega) (by rw [FU_eq]; omega)
    · rw [Nat.pow_zero, Nat.div_one] at inner
      exact inner
    · unfold f_X6_writesName_16
      have hdiv : f27 ls / 27 ^ k < 2 ^ 31 := Nat.lt_of_le_of_lt (Nat.div_le_self _ _) (by omega)
      have ed : f27 ls / 27 ^ k % 27 = ls[i] := by
        rw [show f27 ls / 27 ^ k % 27 = dg ls k from dg_fB (B := 27) (by decide) k ls hn.2.2, ← dg_get hi]
        congr 1
        omega
      have hd := hn.2.2 _ (List.getElem_mem hi)
      rw [if_pos (le_self_nI k), show (27 : Int32) = nI 27 from rfl, nI_irem hdiv (by decide), ed, show (1 : Int32) = nI 1 from rfl, nI_sub hd.1, show (97 : Int32) = nI 97 from rfl, nI_add, show ls[i] - 1 + 97 = 96 + ls[i] by omega, ev_bnd e1, ← e2]
      refine congrArg (fun z => r (nI (f27 ls)) z N1) ?_
      rw [← Int32.sub_eq_add_neg, show k = ls.length - (i + 1) by omega]
      exact (rfl : nI (ls.length - (i + 1)) - nI 1 = nI (ls.length - (i + 1)) - 1)
    · have hdiv : f27 ls / 27 ^ s < 2 ^ 31 := Nat.lt_of_le_of_lt (Nat.div_le_self _ _) (by omega)
      unfold f_X6_writesName_16
      rw [if_neg (not_le_nI hs (by omega)), show (27 : Int32) = nI 27 from rfl, nI_div hdiv (by decide), Nat.div_div_eq_div_mul, ← Nat.pow_succ, ← nI_succ]
      exact ih2
/-! a set of needs -/
theorem mz_all : ∀ s : Fin 256, ∀ i : Fin 8, decide ((ishr (nI s.val) (nI i.val) &&& 1) = 0) = !(mem8 s.val i.val) := by decide +kernel
theorem mz_By {x : Int32} (hx : By x) {i : Nat} (hi : i < 8) : (ishr x (nI i) &&& 1) = 0 ↔ mm x i = false := by
  obtain ⟨s, hs, rfl⟩ := hx
  have h := mz_all ⟨s, hs⟩ ⟨i, hi⟩
  dsimp only at h
  unfold mm
  rw [ix_nI (by omega)]
  constructor
  · intro q
    rw [decide_eq_true q] at h
    simpa using h.symm
  · intro q
    rw [q] at h
    exact of_decide_eq_true h
def ndB (nl : Nat → List Nat) (x : Int32) : Nat → Nat → Bool → List Int32
  | 0, _, _ => []
  | d + 1, k, f => if mm x k = true then ((if f = true then [] else [32]) ++ nmB (nl k)) ++ ndB nl x d (k + 1) false else ndB nl x d (k + 1) f
theorem ndB_len {nl : Nat → List Nat} {x : Int32} (h : ∀ k, (nl k).length ≤ 6) : ∀ (d k : Nat) (f : Bool), (ndB nl x d k f).length ≤ 7 * d
  | 0, _, _ => Nat.le_refl _
  | d + 1, k, f => by
    have h6 := h k
    unfold ndB
    split
    · have := ndB_len (x := x) h d (k + 1) false
      rw [List.length_append, List.length_append, nmB_len]
      split
      · simp only [List.length_nil]; omega
      · simp only [List.length_singleton]; omega
    · have := ndB_len (x := x) h d (k + 1) f
      omega
theorem ndB_first {nl : Nat → List Nat} {x : Int32} (h : ∀ k, (nl k).length ≤ 6) : ∀ (d k : Nat), (ndB nl x d k true).length ≤ 7 * d - 1
  | 0, _ => Nat.le_refl _
  | d + 1, k => by
    have h6 := h k
    unfold ndB
    split
    · have := ndB_len (x := x) h d (k + 1) false
      rw [List.length_append, List.length_append, nmB_len]
      rw [if_pos rfl, List.length_nil]
      omega
    · have := ndB_first (x := x) h d (k + 1)
      omega
theorem X4_addNeeds {M0 : Mem} {o n : Nat} {nl : Nat → List Nat} (ho : o ≠ 5 ∧ o ≠ 6 ∧ o + 9 ≠ 5 ∧ o + 9 ≠ 6) (hn8 : n ≤ 8) (hn : M0 o 13 = nI n) (hnl : ∀ k, k < n → nmOK (nl k) ∧ M0 (o + 9) k = nI (f32 (nl k))) (hl6 : ∀ k, (nl k).length ≤ 6) {x : Int32} (hx : By x) {M : Mem} {bs : List Int32} (h : CW M0 M bs) (hl : bs.length + (ndB nl x n 0 true).length ≤ 119) : ∃ M1, f_X4_addNeeds o x M = some M1 ∧ CW M0 M1 (bs ++ ndB nl x n 0 true) := by
  refine lp_dn (z := fun _ _ _ _ => none) (b := f_X4_addNeeds_5 o) (fun k r => ∀ (M : Mem) (bs : List Int32) (f : Bool), CW M0 M bs → bs.length + (ndB nl x (n - k) k f).length ≤ 119 → ∃ M1, r x (b2 f) (nI k) M = some M1 ∧ CW M0 M1 (bs ++ ndB nl x (n - k) k f)) n (fun r M bs f h hl => ?_) (fun k r hk ih M bs f h hl => ?_) 0 FU (by omega) (by rw [FU_eq]; omega) M bs true h hl
  · unfold f_X4_addNeeds_5
    rw [h.2.2.2 o ho.1 ho.2.1, hn, if_pos (le_self_nI n), Nat.sub_self]
    refine ⟨M, rfl, ?_⟩
    rw [show ndB nl x 0 n f = [] from rfl, List.append_nil]
    exact h
  · have ed : n - k = (n - (k + 1)) + 1 := by omega
    obtain ⟨hk1, hk2⟩ := hnl k hk
    unfold f_X4_addNeeds_5 f_X4_addNeeds_46
    rw [h.2.2.2 o ho.1 ho.2.1, hn, if_neg (not_le_nI hk (by omega)), ev_bnd (X1_isMember hx (by omega) M), ← nI_succ]
    rw [ed] at hl ⊢
    unfold ndB at hl ⊢
    cases hm : mm x k with
    | false =>
      rw [hm, if_neg (by decide)] at hl
      rw [if_pos b2_f, if_neg (by decide)]
      exact ih M bs f h hl
    | true =>
      rw [hm, if_pos rfl] at hl
      rw [if_neg (by decide), if_pos rfl]
      have go : ∀ (M : Mem) (cs : List Int32), CW M0 M cs → cs.length + ((nmB (nl k)) ++ ndB nl x (n - (k + 1)) (k + 1) false).length ≤ 119 → ∃ M1, f_X4_addNeeds_33 o r x (nI k) M = some M1 ∧ CW M0 M1 (cs ++ (nmB (nl k) ++ ndB nl x (n - (k + 1)) (k + 1) false)) := fun M cs hc hcl => by
        rw [List.length_append, nmB_len] at hcl
        obtain ⟨M1, e1, g1⟩ := X4_addName hk1 hc (by omega)
        obtain ⟨M2, e2, g2⟩ := ih M1 _ false g1 (by rw [List.length_append, nmB_len]; omega)
        unfold f_X4_addNeeds_33 f_X4_addNeeds_46
        rw [ev_chk (inB_nI (by omega) (by decide)), ix_nI (by omega), hc.2.2.2 (o + 9) ho.2.2.1 ho.2.2.2, hk2, ev_bnd e1, ← nI_succ]
        refine ⟨M2, e2, ?_⟩
        rw [← List.append_assoc]
        exact g2
      cases f with
      | true =>
        rw [if_neg (show ¬ b2 true = 0 by decide)]
        simp only [if_pos rfl, List.nil_append] at hl ⊢
        exact go M bs h hl
      | false =>
        rw [if_pos b2_f]
        rw [if_neg (by decide)] at hl ⊢
        have hl2 : bs.length + (([32] : List Int32).length + (nmB (nl k) ++ ndB nl x (n - (k + 1)) (k + 1) false).length) ≤ 119 := by
          rw [List.append_assoc, List.length_append] at hl
          exact hl
        simp only [List.length_singleton] at hl2
        obtain ⟨M1, e1, g1⟩ := h.put (by omega) 32
        rw [ev_bnd e1]
        obtain ⟨M2, e2, g2⟩ := go M1 _ g1 (by rw [List.length_append, List.length_singleton]; omega)
        refine ⟨M2, e2, ?_⟩
        rw [List.append_assoc] at g2
        rw [List.append_assoc]
        exact g2
theorem X6_writesNeeds {N0 : Mem} {n : Nat} {v : Nat → Int32} {nl : Nat → List Nat} (hv : N0 10 = v) (hn8 : n ≤ 8) (hn : v 1 = nI n) (hnl : ∀ k, k < n → nmOK (nl k) ∧ v (44 + 2 * k) = nI (f27 (nl k))) {x : Int32} (hx : By x) {N : Mem} {bs : List Int32} (h : NW N0 N bs) (hl : bs.length + (ndB nl x n 0 true).length ≤ 119) : ∃ N1, f_X6_writesNeeds x N = some N1 ∧ NW N0 N1 (bs ++ ndB nl x n 0 true) := by
  refine lp_dn (z := fun _ _ _ _ => none) (b := f_X6_writesNeeds_4) (fun k r => ∀ (N : Mem) (bs : List Int32) (c : Nat), c ≤ k → NW N0 N bs → bs.length + (ndB nl x (n - k) k (decide (c = 0))).length ≤ 119 → ∃ N1, r x (nI c) (nI k) N = some N1 ∧ NW N0 N1 (bs ++ ndB nl x (n - k) k (decide (c = 0)))) n (fun r N bs c hc h hl => ?_) (fun k r hk ih N bs c hc h hl => ?_) 0 FU (by omega) (by rw [FU_eq]; omega) N bs 0 (Nat.le_refl _) h hl
  · unfold f_X6_writesNeeds_4
    rw [h.2.2.2.2 10 (by decide) (by decide), hv, hn, if_pos (le_self_nI n), Nat.sub_self]
    refine ⟨N, rfl, ?_⟩
    rw [show ndB nl x 0 n (decide (c = 0)) = [] from rfl, List.append_nil]
    exact h
  · have ed : n - k = (n - (k + 1)) + 1 := by omega
    obtain ⟨hk1, hk2⟩ := hnl k hk
    unfold f_X6_writesNeeds_4 f_X6_writesNeeds_53
    rw [h.2.2.2.2 10 (by decide) (by decide), hv, hn, if_neg (not_le_nI hk (by omega)), ← nI_succ]
    rw [ed] at hl ⊢
    unfold ndB at hl ⊢
    cases hm : mm x k with
    | false =>
      rw [hm, if_neg (by decide)] at hl
      rw [if_pos ((mz_By hx (by omega)).mpr hm), if_neg (by decide)]
      exact ih N bs c (by omega) h hl
    | true =>
      rw [hm, if_pos rfl] at hl
      rw [if_neg (fun q => by rw [(mz_By hx (by omega)).mp q] at hm; cases hm), if_pos rfl]
      have go : ∀ (N : Mem) (cs : List Int32), NW N0 N cs → cs.length + ((nmB (nl k)) ++ ndB nl x (n - (k + 1)) (k + 1) false).length ≤ 119 → ∃ N1, f_X6_writesNeeds_35 r x (nI c) (nI k) N = some N1 ∧ NW N0 N1 (cs ++ (nmB (nl k) ++ ndB nl x (n - (k + 1)) (k + 1) false)) := fun N cs hc2 hcl => by
        rw [List.length_append, nmB_len] at hcl
        obtain ⟨N1, e1, g1⟩ := X6_writesName hk1 hc2 (by omega)
        obtain ⟨N2, e2, g2⟩ := ih N1 _ (c + 1) (by omega) g1 (by rw [show decide (c + 1 = 0) = false from decide_eq_false (by omega), List.length_append, nmB_len]; omega)
        rw [show decide (c + 1 = 0) = false from decide_eq_false (by omega)] at g2
        unfold f_X6_writesNeeds_35 f_X6_writesNeeds_53
        have e44 : (44 + (2 * nI k) : Int32) = nI (44 + 2 * k) := by
          rw [show (44 : Int32) = nI 44 from rfl, show (2 : Int32) = nI 2 from rfl, nI_mul, nI_add]
        rw [e44, ev_chk (inB_nI (by omega) (by decide)), ix_nI (by omega), hc2.2.2.2.2 10 (by decide) (by decide), hv, hk2, ev_bnd e1, ← nI_succ, ← nI_succ]
        refine ⟨N2, e2, ?_⟩
        rw [← List.append_assoc]
        exact g2
      by_cases hc0 : c = 0
      · subst hc0
        rw [if_pos (show nI 0 ≤ 0 from le00)]
        rw [if_pos (show decide (0 = 0) = true from rfl), List.nil_append] at hl
        rw [if_pos (show decide (0 = 0) = true from rfl), List.nil_append]
        exact go N bs h hl
      · rw [if_neg (nI_nle (by omega) (by omega))]
        rw [if_neg (show ¬ decide (c = 0) = true by simp [hc0])] at hl ⊢
        have hl2 : bs.length + (([32] : List Int32).length + (nmB (nl k) ++ ndB nl x (n - (k + 1)) (k + 1) false).length) ≤ 119 := by
          rw [List.append_assoc, List.length_append] at hl
          exact hl
        simp only [List.length_singleton] at hl2
        obtain ⟨N1, e1, g1⟩ := h.put (by omega) 32
        rw [ev_bnd e1]
        obtain ⟨N2, e2, g2⟩ := go N1 _ g1 (by rw [List.length_append, List.length_singleton]; omega)
        refine ⟨N2, e2, ?_⟩
        rw [List.append_assoc] at g2
        rw [List.append_assoc]
        exact g2
