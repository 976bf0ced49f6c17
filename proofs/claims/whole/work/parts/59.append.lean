/-! APPEND: the bytes of five numbers go to both buffers -/
theorem ush (x : Int32) {s : Nat} (hs : s < 32) : (iushr x (nI s)).toBitVec = x.toBitVec >>> s := by
  have h : ∀ s : Fin 32, (((nI s.val).toUInt32 &&& Int32.toUInt32 31).toBitVec % 32).toNat = s.val := by decide +kernel
  exact congrArg (fun k : Nat => x.toBitVec >>> k) (h ⟨s, hs⟩)
theorem ssh (x : Int32) {s : Nat} (hs : s < 32) : (ishr x (nI s)).toBitVec = x.toBitVec.sshiftRight s := by
  have h : ∀ s : Fin 32, ((nI s.val &&& 31 : Int32).toBitVec.smod 32).toNat = s.val := by decide +kernel
  exact congrArg (fun k : Nat => x.toBitVec.sshiftRight k) (h ⟨s, hs⟩)
theorem sh_eq (x : Int32) {s : Nat} (hs : s ≤ 24) : ishr x (nI s) &&& 255 = iushr x (nI s) &&& 255 := by
  apply Int32.toBitVec_inj.mp
  rw [Int32.toBitVec_and, Int32.toBitVec_and, ush x (by omega), ssh x (by omega)]
  apply BitVec.eq_of_getLsbD_eq
  intro i hi
  rw [BitVec.getLsbD_and, BitVec.getLsbD_and, BitVec.getLsbD_sshiftRight, BitVec.getLsbD_ushiftRight]
  by_cases h8 : i < 8
  · rw [if_pos (show s + i < 32 by omega), decide_eq_false (show ¬ 32 ≤ i by omega)]
    rfl
  · have k : ∀ i : Fin 32, 8 ≤ i.val → ((255 : Int32).toBitVec).getLsbD i.val = false := by decide
    have k2 : ((255 : Int32).toBitVec).getLsbD i = false := k ⟨i, hi⟩ (by show 8 ≤ i; omega)
    rw [k2, Bool.and_false, Bool.and_false]
theorem and255 (y : Int32) : ∃ k, k < 256 ∧ y &&& 255 = nI k := by
  refine ⟨y.toBitVec.toNat % 256, Nat.mod_lt _ (by decide), ?_⟩
  apply Int32.toBitVec_inj.mp
  rw [Int32.toBitVec_and]
  apply BitVec.eq_of_toNat_eq
  rw [BitVec.toNat_and]
  have hl : y.toBitVec.toNat % 256 < 2 ^ 32 := Nat.lt_of_lt_of_le (Nat.mod_lt _ (by decide)) (by decide)
  show y.toBitVec.toNat &&& 255 = (BitVec.ofNat 32 (y.toBitVec.toNat % 256)).toNat
  rw [BitVec.toNat_ofNat, Nat.mod_eq_of_lt hl]
  exact Nat.and_two_pow_sub_one_eq_mod y.toBitVec.toNat 8
def byt (p : Int32) (i : Nat) : Int32 := iushr p (nI (24 - 8 * i)) &&& 255
def oB (b : Int32) : Prop := ∃ x, 1 ≤ x ∧ x < 256 ∧ b = nI x
theorem byt_ok (p : Int32) (i : Nat) : byt p i = 0 ∨ oB (byt p i) := by
  obtain ⟨k, hk, e⟩ := and255 (iushr p (nI (24 - 8 * i)))
  unfold byt oB
  rw [e]
  by_cases h : k = 0
  · subst h
    exact Or.inl rfl
  · exact Or.inr ⟨k, by omega, hk, rfl⟩
def blF (g : Nat → Int32) : Nat → Nat → List Int32
  | 0, _ => []
  | d + 1, k => if g k = 0 then blF g d (k + 1) else g k :: blF g d (k + 1)
theorem blF_0 {g : Nat → Int32} {d k : Nat} (h : g k = 0) : blF g (d + 1) k = blF g d (k + 1) := if_pos h
theorem blF_1 {g : Nat → Int32} {d k : Nat} (h : ¬ g k = 0) : blF g (d + 1) k = g k :: blF g d (k + 1) := if_neg h
theorem blF_app (g : Nat → Int32) : ∀ (a b k : Nat), blF g (a + b) k = blF g a k ++ blF g b (k + a)
  | 0, b, k => by rw [Nat.zero_add]; rfl
  | a + 1, b, k => by
    have ih := blF_app g a b (k + 1)
    rw [show k + 1 + a = k + (a + 1) by omega] at ih
    rw [show a + 1 + b = (a + b) + 1 by omega]
    by_cases h : g k = 0
    · rw [blF_0 h, blF_0 h, ih]
    · rw [blF_1 h, blF_1 h, ih, List.cons_append]
theorem blF_congr {g g' : Nat → Int32} : ∀ (d k k' : Nat), (∀ j, j < d → g (k + j) = g' (k' + j)) → blF g d k = blF g' d k'
  | 0, _, _, _ => rfl
  | d + 1, k, k', h => by
    have h0 : g k = g' k' := h 0 (by omega)
    have ih := blF_congr d (k + 1) (k' + 1) (fun j hj => by
      have := h (j + 1) (by omega)
      rw [show k + 1 + j = k + (j + 1) by omega, show k' + 1 + j = k' + (j + 1) by omega]
      exact this)
    by_cases hz : g k = 0
    · rw [blF_0 hz, blF_0 (h0 ▸ hz), ih]
    · rw [blF_1 hz, blF_1 (h0 ▸ hz), ih, h0]
theorem blF_len (g : Nat → Int32) : ∀ (d k : Nat), (blF g d k).length ≤ d
  | 0, _ => Nat.le_refl _
  | d + 1, k => by
    have ih := blF_len g d (k + 1)
    by_cases hz : g k = 0
    · rw [blF_0 hz]; omega
    · rw [blF_1 hz, List.length_cons]; omega
theorem blF_oB {g : Nat → Int32} (h : ∀ k, g k = 0 ∨ oB (g k)) : ∀ (d k : Nat), ∀ b ∈ blF g d k, oB b
  | 0, _, b, hb => by cases hb
  | d + 1, k, b, hb => by
    have ih := blF_oB h d (k + 1) b
    by_cases hz : g k = 0
    · rw [blF_0 hz] at hb
      exact ih hb
    · rw [blF_1 hz] at hb
      rcases List.mem_cons.mp hb with rfl | hb
      · exact (h k).resolve_left hz
      · exact ih hb
/-! one byte behind the others, on both sides -/
def CB (M0 M : Mem) (bs : List Int32) : Prop := bs.length ≤ 800 ∧ M 1 2 = nI bs.length ∧ (∀ k, k < bs.length → M 2 k = bs.getD k 0) ∧ (∀ c, c ≠ 2 → M 1 c = M0 1 c) ∧ ∀ x, x ≠ 1 → x ≠ 2 → M x = M0 x
def NB (N0 N : Mem) (bs : List Int32) : Prop := bs.length ≤ 800 ∧ N 9 10 = nI bs.length ∧ (∀ k, k < bs.length → N 16 k = bs.getD k 0) ∧ (∀ c, c ≠ 10 → N 9 c = N0 9 c) ∧ ∀ x, x ≠ 9 → x ≠ 16 → N x = N0 x
theorem CB.put {M0 M : Mem} {bs : List Int32} (h : CB M0 M bs) (hl : bs.length < 800) (b : Int32) : CB M0 (mput (mput M 2 bs.length b) 1 2 (nI (bs.length + 1))) (bs ++ [b]) := by
  obtain ⟨h1, h2, h3, h4, h5⟩ := h
  refine ⟨by simp; omega, by rw [mput_at]; simp, fun k hk => ?_, fun c hc => by rw [mput_col hc, mput_row (by decide)]; exact h4 c hc, fun x h1 h2 => by rw [mput_row h1, mput_row h2]; exact h5 x h1 h2⟩
  rw [mput_row (by decide)]
  simp only [List.length_append, List.length_singleton] at hk
  by_cases hkl : k = bs.length
  · subst hkl
    rw [mput_at, getD_r]
  · rw [mput_col hkl, getD_l (by omega)]
    exact h3 k (by omega)
theorem NB.put {N0 N : Mem} {bs : List Int32} (h : NB N0 N bs) (hl : bs.length < 800) (b : Int32) : NB N0 (mput (mput N 16 bs.length b) 9 10 (nI (bs.length + 1))) (bs ++ [b]) := by
  obtain ⟨h1, h2, h3, h4, h5⟩ := h
  refine ⟨by simp; omega, by rw [mput_at]; simp, fun k hk => ?_, fun c hc => by rw [mput_col hc, mput_row (by decide)]; exact h4 c hc, fun x h1 h2 => by rw [mput_row h1, mput_row h2]; exact h5 x h1 h2⟩
  rw [mput_row (by decide)]
  simp only [List.length_append, List.length_singleton] at hk
  by_cases hkl : k = bs.length
  · subst hkl
    rw [mput_at, getD_r]
  · rw [mput_col hkl, getD_l (by omega)]
    exact h3 k (by omega)
/-! four bytes -/
def sv (k : Nat) : Int32 := if k < 4 then nI (24 - 8 * k) else -8
theorem sv_at {k : Nat} (h : k < 4) : sv k = nI (24 - 8 * k) := if_pos h
theorem sv_next {k : Nat} (h : k < 4) : sv k + (-8) = sv (k + 1) := by
  have h2 : ∀ k : Fin 4, sv k.val + (-8) = sv (k.val + 1) := by decide
  exact h2 ⟨k, h⟩
theorem sv_nn {k : Nat} (h : k < 4) : ¬ sv k < 0 := by
  rw [sv_at h]
  exact nI_pos (by omega)
theorem sv_byt {k : Nat} (h : k < 4) (p : Int32) : iushr p (sv k) &&& 255 = byt p k := by
  rw [sv_at h]
  rfl
def bl (p : Int32) : List Int32 := blF (byt p) 4 0
theorem bl_len (p : Int32) : (bl p).length ≤ 4 := blF_len _ 4 0
theorem X3_bytesIn (p : Int32) (M : Mem) : f_X3_bytesIn p M = some (nI (bl p).length) := by
  have key := lp_dn (z := fun _ _ _ => none) (b := f_X3_bytesIn_5 M) (fun k r => ∀ a : Nat, r p (nI a) (sv k) = some (nI (a + (blF (byt p) (4 - k) k).length))) 4 (fun r a => ?_) (fun k r hk ih a => ?_) 0 FU (by omega) (by rw [FU_eq]; omega) 0
  · rw [Nat.zero_add] at key
    exact key
  · unfold f_X3_bytesIn_5
    rw [if_pos (show sv 4 < 0 by decide), Nat.sub_self]
    rfl
  · have ed : 4 - k = (4 - (k + 1)) + 1 := by omega
    unfold f_X3_bytesIn_5 f_X3_bytesIn_22
    rw [if_neg (sv_nn hk), sv_byt hk, sv_next hk, ed]
    by_cases hz : byt p k = 0
    · rw [if_pos hz, ih a, blF_0 hz]
    · rw [if_neg hz, ← nI_succ, ih (a + 1), blF_1 hz, List.length_cons, show a + 1 + (blF (byt p) (4 - (k + 1)) (k + 1)).length = a + ((blF (byt p) (4 - (k + 1)) (k + 1)).length + 1) by omega]
theorem X3_addBytes {M0 M : Mem} {bs : List Int32} {p : Int32} (h : CB M0 M bs) (hl : bs.length + (bl p).length ≤ 800) : ∃ M1, f_X3_addBytes p M = some M1 ∧ CB M0 M1 (bs ++ bl p) := by
  refine lp_dn (z := fun _ _ _ => none) (b := f_X3_addBytes_3) (fun k r => ∀ (M : Mem) (bs : List Int32), CB M0 M bs → bs.length + (blF (byt p) (4 - k) k).length ≤ 800 → ∃ M1, r p (sv k) M = some M1 ∧ CB M0 M1 (bs ++ blF (byt p) (4 - k) k)) 4 (fun r M bs h hl => ?_) (fun k r hk ih M bs h hl => ?_) 0 FU (by omega) (by rw [FU_eq]; omega) M bs h hl
  · unfold f_X3_addBytes_3
    rw [if_pos (show sv 4 < 0 by decide), Nat.sub_self]
    refine ⟨M, rfl, ?_⟩
    rw [show blF (byt p) 0 4 = [] from rfl, List.append_nil]
    exact h
  · have ed : 4 - k = (4 - (k + 1)) + 1 := by omega
    unfold f_X3_addBytes_3 f_X3_addBytes_49
    rw [if_neg (sv_nn hk), sv_byt hk, sv_next hk]
    rw [ed] at hl ⊢
    by_cases hz : byt p k = 0
    · rw [blF_0 hz] at hl ⊢
      rw [if_pos hz]
      exact ih M bs h hl
    · rw [blF_1 hz] at hl ⊢
      rw [List.length_cons] at hl
      have h800 : ¬ (800 : Int32) ≤ M 1 2 := by
        rw [h.2.1]
        exact not_le_nI (show bs.length < 800 by omega) (by decide)
      rw [if_neg hz, if_neg h800, h.2.1, ev_chk (inB_nI (show bs.length < 800 by omega) (by decide)), letM_eq, ix_nI (by omega), letM_eq, mput_row (show (1 : Nat) ≠ 2 by decide), h.2.1, ← nI_succ]
      obtain ⟨M1, e1, g1⟩ := ih _ _ (h.put (by omega) (byt p k)) (by rw [List.length_append, List.length_singleton]; omega)
      refine ⟨M1, e1, ?_⟩
      rw [List.append_assoc] at g1
      exact g1
/-! the reference's twenty -/
def by5 (p1 p2 p3 p4 p5 : Int32) (k : Nat) : Int32 := byt (if k < 4 then p1 else if k < 8 then p2 else if k < 12 then p3 else if k < 16 then p4 else p5) (k % 4)
theorem X6_byte42 {k : Nat} (hk : k < 20) (p : Int32) (M : Mem) : f_X6_byteOf_42 M (nI k) p = some (byt p (k % 4)) := by
  unfold f_X6_byteOf_42 byt
  rw [show (4 : Int32) = nI 4 from rfl, nI_irem (by omega) (by decide), show (8 : Int32) = nI 8 from rfl, nI_mul, show (24 : Int32) = nI 24 from rfl, nI_sub (by omega), sh_eq _ (by omega)]
theorem X6_byteOf (p1 p2 p3 p4 p5 : Int32) {k : Nat} (hk : k < 20) (M : Mem) : f_X6_byteOf (nI k) p1 p2 p3 p4 p5 M = some (by5 p1 p2 p3 p4 p5 k) := by
  have c : ∀ a : Nat, a < 2 ^ 31 → a ≤ k → nI a ≤ nI k := fun a ha h => (nI_leI ha (by omega)).mpr h
  have c' : ∀ a : Nat, a < 2 ^ 31 → k < a → ¬ nI a ≤ nI k := fun a ha h => not_le_nI h ha
  unfold f_X6_byteOf by5
  rw [X6_byte42 hk, X6_byte42 hk, X6_byte42 hk, X6_byte42 hk, X6_byte42 hk]
  by_cases h4 : k < 4
  · rw [if_neg (show ¬ (4 : Int32) ≤ nI k from c' 4 (by decide) h4), if_pos h4]
  · rw [if_pos (show (4 : Int32) ≤ nI k from c 4 (by decide) (by omega)), if_neg h4]
    by_cases h8 : k < 8
    · rw [if_neg (show ¬ (8 : Int32) ≤ nI k from c' 8 (by decide) h8), if_pos h8]
    · rw [if_pos (show (8 : Int32) ≤ nI k from c 8 (by decide) (by omega)), if_neg h8]
      by_cases h12 : k < 12
      · rw [if_neg (show ¬ (12 : Int32) ≤ nI k from c' 12 (by decide) h12), if_pos h12]
      · rw [if_pos (show (12 : Int32) ≤ nI k from c 12 (by decide) (by omega)), if_neg h12]
        by_cases h16 : k < 16
        · rw [if_neg (show ¬ (16 : Int32) ≤ nI k from c' 16 (by decide) h16), if_pos h16]
        · rw [if_pos (show (16 : Int32) ≤ nI k from c 16 (by decide) (by omega)), if_neg h16]
def bl5 (p1 p2 p3 p4 p5 : Int32) : List Int32 := blF (by5 p1 p2 p3 p4 p5) 20 0
theorem bl5_eq (p1 p2 p3 p4 p5 : Int32) : bl5 p1 p2 p3 p4 p5 = bl p1 ++ (bl p2 ++ (bl p3 ++ (bl p4 ++ bl p5))) := by
  have s : ∀ (p : Int32) (q : Nat), (∀ j, j < 4 → by5 p1 p2 p3 p4 p5 (q + j) = byt p j) → blF (by5 p1 p2 p3 p4 p5) 4 q = bl p := fun p q h => blF_congr 4 q 0 (fun j hj => by rw [Nat.zero_add]; exact h j hj)
  have e1 := s p1 0 (fun j hj => by unfold by5; rw [if_pos (by omega), show (0 + j) % 4 = j by omega])
  have e2 := s p2 4 (fun j hj => by unfold by5; rw [if_neg (by omega), if_pos (by omega), show (4 + j) % 4 = j by omega])
  have e3 := s p3 8 (fun j hj => by unfold by5; rw [if_neg (by omega), if_neg (by omega), if_pos (by omega), show (8 + j) % 4 = j by omega])
  have e4 := s p4 12 (fun j hj => by unfold by5; rw [if_neg (by omega), if_neg (by omega), if_neg (by omega), if_pos (by omega), show (12 + j) % 4 = j by omega])
  have e5 := s p5 16 (fun j hj => by unfold by5; rw [if_neg (by omega), if_neg (by omega), if_neg (by omega), if_neg (by omega), show (16 + j) % 4 = j by omega])
  unfold bl5
  rw [show (20 : Nat) = 4 + 16 from rfl, blF_app, e1, show (16 : Nat) = 4 + 12 from rfl, blF_app, show 0 + 4 = 4 from rfl, e2, show (12 : Nat) = 4 + 8 from rfl, blF_app, show 4 + 4 = 8 from rfl, e3, show (8 : Nat) = 4 + 4 from rfl, blF_app, show 4 + 4 + 4 = 12 from rfl, e4, show 12 + 4 = 16 from rfl, e5]
theorem X6_append_c (p1 p2 p3 p4 p5 : Int32) (M : Mem) : f_X6_append p1 p2 p3 p4 p5 M = if M 9 10 + nI (bl5 p1 p2 p3 p4 p5).length ≤ 800 then f_X6_append_63 p1 p2 p3 p4 p5 0 M else f_X6_append_63 p1 p2 p3 p4 p5 1 M := by
  have key := lp_dn (z := fun _ _ _ _ _ _ _ _ => none) (b := f_X6_append_6) (fun k r => ∀ a : Nat, r p1 p2 p3 p4 p5 (nI a) (nI k) M = if M 9 10 + nI (a + (blF (by5 p1 p2 p3 p4 p5) (20 - k) k).length) ≤ 800 then f_X6_append_63 p1 p2 p3 p4 p5 0 M else f_X6_append_63 p1 p2 p3 p4 p5 1 M) 20 (fun r a => ?_) (fun k r hk ih a => ?_) 0 FU (by omega) (by rw [FU_eq]; omega) 0
  · rw [Nat.zero_add] at key
    exact key
  · unfold f_X6_append_6
    rw [if_pos (show (20 : Int32) ≤ nI 20 from le_self_nI 20), Nat.sub_self]
    rfl
  · have ed : 20 - k = (20 - (k + 1)) + 1 := by omega
    unfold f_X6_append_6 f_X6_append_35
    rw [if_neg (show ¬ (20 : Int32) ≤ nI k from not_le_nI hk (by decide)), ev_bnd (X6_byteOf p1 p2 p3 p4 p5 hk M), ← nI_succ k, ed]
    by_cases hz : by5 p1 p2 p3 p4 p5 k = 0
    · rw [if_pos hz, Int32.add_zero, ih a, blF_0 hz]
    · rw [if_neg hz, ← nI_succ a, ih (a + 1), blF_1 hz, List.length_cons, show a + 1 + (blF (by5 p1 p2 p3 p4 p5) (20 - (k + 1)) (k + 1)).length = a + ((blF (by5 p1 p2 p3 p4 p5) (20 - (k + 1)) (k + 1)).length + 1) by omega]
theorem X6_append_w {N0 N : Mem} {bs : List Int32} (p1 p2 p3 p4 p5 : Int32) (h : NB N0 N bs) (hl : bs.length + (bl5 p1 p2 p3 p4 p5).length ≤ 800) : ∃ N1, lp (fun _ _ _ _ _ _ _ => none) f_X6_append_78 FU p1 p2 p3 p4 p5 0 N = some (N1 9 10, N1) ∧ NB N0 N1 (bs ++ bl5 p1 p2 p3 p4 p5) := by
  refine lp_dn (z := fun _ _ _ _ _ _ _ => none) (b := f_X6_append_78) (fun k r => ∀ (N : Mem) (bs : List Int32), NB N0 N bs → bs.length + (blF (by5 p1 p2 p3 p4 p5) (20 - k) k).length ≤ 800 → ∃ N1, r p1 p2 p3 p4 p5 (nI k) N = some (N1 9 10, N1) ∧ NB N0 N1 (bs ++ blF (by5 p1 p2 p3 p4 p5) (20 - k) k)) 20 (fun r N bs h hl => ?_) (fun k r hk ih N bs h hl => ?_) 0 FU (by omega) (by rw [FU_eq]; omega) N bs h hl
  · unfold f_X6_append_78
    rw [if_pos (show (20 : Int32) ≤ nI 20 from le_self_nI 20), Nat.sub_self]
    refine ⟨N, rfl, ?_⟩
    rw [show blF (by5 p1 p2 p3 p4 p5) 0 20 = [] from rfl, List.append_nil]
    exact h
  · have ed : 20 - k = (20 - (k + 1)) + 1 := by omega
    unfold f_X6_append_78 f_X6_append_128
    rw [if_neg (show ¬ (20 : Int32) ≤ nI k from not_le_nI hk (by decide)), ev_bnd (X6_byteOf p1 p2 p3 p4 p5 hk N), ← nI_succ k]
    rw [ed] at hl ⊢
    by_cases hz : by5 p1 p2 p3 p4 p5 k = 0
    · rw [blF_0 hz] at hl ⊢
      rw [if_pos hz]
      exact ih N bs h hl
    · rw [blF_1 hz] at hl ⊢
      rw [List.length_cons] at hl
      rw [if_neg hz, h.2.1, ev_chk (inB_nI (show bs.length < 800 by omega) (by decide)), letM_eq, ix_nI (by omega), letM_eq, mput_row (show (9 : Nat) ≠ 16 by decide), h.2.1, ← nI_succ]
      obtain ⟨N1, e1, g1⟩ := ih _ _ (h.put (by omega) (by5 p1 p2 p3 p4 p5 k)) (by rw [List.length_append, List.length_singleton]; omega)
      refine ⟨N1, e1, ?_⟩
      rw [List.append_assoc] at g1
      exact g1
/-! both -/
theorem Inv.bu {M M' : Mem} (hI : Inv M) (hx : ∀ x, x ≠ 1 → x ≠ 2 → x ≠ 9 → x ≠ 16 → x ≠ 17 → M' x = M x) (h1 : ∀ c, c ≠ 2 → M' 1 c = M 1 c) (hc : ∀ c, c ≠ 6 → c ≠ 10 → M' 9 c = M 9 c) (hb : iBu M') : Inv M' := by
  obtain ⟨hOw, hBu, hWr, hHi, hSa, hEr⟩ := hI
  have e : ∀ x, x ≠ 1 → x ≠ 2 → x ≠ 9 → x ≠ 16 → x ≠ 17 → M' x = M x := hx
  refine ⟨?_, hb, ?_, ?_, ?_, ?_⟩
  · exact HOK.cong hOw (fun j hj => e _ (by omega) (by omega) (by omega) (by omega) (by omega)) (e 10 (by decide) (by decide) (by decide) (by decide) (by decide))
  · unfold iWr at hWr ⊢
    rw [e 5 (by decide) (by decide) (by decide) (by decide) (by decide), e 6 (by decide) (by decide) (by decide) (by decide) (by decide), e 15 (by decide) (by decide) (by decide) (by decide) (by decide), hc 8 (by decide) (by decide)]
    exact hWr
  · obtain ⟨h, od, g1, g2, g3, g4, g5, g6⟩ := hHi
    exact ⟨h, od, g1, g2, by rw [e 3 (by decide) (by decide) (by decide) (by decide) (by decide)]; exact g3, by rw [hc 5 (by decide) (by decide)]; exact g4, by rw [e 3 (by decide) (by decide) (by decide) (by decide) (by decide)]; exact g5, fun j hj => (g6 j hj).cong (fun i hi => e _ (by omega) (by omega) (by omega) (by omega) (by omega)) (by rw [e 12 (by decide) (by decide) (by decide) (by decide) (by decide)])⟩
  · intro j hj
    rw [e 8 (by decide) (by decide) (by decide) (by decide) (by decide), e 14 (by decide) (by decide) (by decide) (by decide) (by decide), e 13 (by decide) (by decide) (by decide) (by decide) (by decide)]
    rcases hSa j hj with g | ⟨q1, q2, q3⟩
    · exact Or.inl g
    · exact Or.inr ⟨q1, q2, q3.cong (fun i hi => e _ (by omega) (by omega) (by omega) (by omega) (by omega)) rfl⟩
  · unfold iEr at hEr ⊢
    rw [h1 4 (by decide), hc 17 (by decide) (by decide)]
    exact hEr
theorem getD_map {n k : Nat} (h : k < n) (f : Nat → Int32) : ((List.range n).map f).getD k 0 = f k := by
  rw [List.getD_eq_getElem?_getD, List.getElem?_map, List.getElem?_range h]
  rfl
theorem getD_mem {bs : List Int32} {k : Nat} (h : k < bs.length) : bs.getD k 0 ∈ bs := by
  rw [List.getD_eq_getElem?_getD, List.getElem?_eq_getElem h]
  exact List.getElem_mem h
theorem C_append {M : Mem} (hI : Inv M) (p1 p2 p3 p4 p5 : Int32) : Agr (f_L_append p1 p2 p3 p4 p5 M) (f_X6_append p1 p2 p3 p4 p5) := by
  obtain ⟨nb, c1, c2, c3, c4⟩ := hI.2.1
  have l1 := bl_len p1
  have l2 := bl_len p2
  have l3 := bl_len p3
  have l4 := bl_len p4
  have l5 := bl_len p5
  have lT : (bl5 p1 p2 p3 p4 p5).length = (bl p1).length + (bl p2).length + (bl p3).length + (bl p4).length + (bl p5).length := by
    rw [bl5_eq, List.length_append, List.length_append, List.length_append, List.length_append]
    omega
  have e0 : f_X5_append p1 p2 p3 p4 p5 M = if nI (nb + (bl5 p1 p2 p3 p4 p5).length) ≤ 800 then (bnd (f_X3_addBytes p1 M) (fun M22 => (bnd (f_X3_addBytes p2 M22) (fun M24 => (bnd (f_X3_addBytes p3 M24) (fun M26 => (bnd (f_X3_addBytes p4 M26) (fun M28 => (bnd (f_X3_addBytes p5 M28) (fun M30 => (some (0, (M30 1 2), M30)))))))))))) else (some (3, 0, M)) := by
    unfold f_X5_append
    rw [ev_bnd (X3_bytesIn p1 M), ev_bnd (X3_bytesIn p2 M), ev_bnd (X3_bytesIn p3 M), ev_bnd (X3_bytesIn p4 M), ev_bnd (X3_bytesIn p5 M), nI_add, nI_add, nI_add, nI_add, c2, nI_add, lT]
  have e9 : ∀ N : Mem, N 9 10 = nI nb → f_X6_append p1 p2 p3 p4 p5 N = if nI (nb + (bl5 p1 p2 p3 p4 p5).length) ≤ 800 then f_X6_append_63 p1 p2 p3 p4 p5 0 N else f_X6_append_63 p1 p2 p3 p4 p5 1 N := fun N hN => by
    rw [X6_append_c, hN, nI_add]
  by_cases hT : nb + (bl5 p1 p2 p3 p4 p5).length ≤ 800
  · have hle : nI (nb + (bl5 p1 p2 p3 p4 p5).length) ≤ 800 := (nI_leI (by omega) (by decide)).mpr hT
    have hb0 : ((List.range nb).map (M 2)).length = nb := by rw [List.length_map, List.length_range]
    have hC : CB M M ((List.range nb).map (M 2)) := ⟨by rw [hb0]; exact c1, by rw [hb0]; exact c2, fun k hk => by rw [hb0] at hk; exact (getD_map hk _).symm, fun _ _ => rfl, fun _ _ _ => rfl⟩
    obtain ⟨M1, e1, g1⟩ := X3_addBytes (p := p1) hC (by rw [hb0]; omega)
    obtain ⟨M2, e2, g2⟩ := X3_addBytes (p := p2) g1 (by rw [List.length_append, hb0]; omega)
    obtain ⟨M3, e3, g3⟩ := X3_addBytes (p := p3) g2 (by rw [List.length_append, List.length_append, hb0]; omega)
    obtain ⟨M4, e4, g4⟩ := X3_addBytes (p := p4) g3 (by rw [List.length_append, List.length_append, List.length_append, hb0]; omega)
    obtain ⟨M5, e5, g5⟩ := X3_addBytes (p := p5) g4 (by rw [List.length_append, List.length_append, List.length_append, List.length_append, hb0]; omega)
    rw [List.append_assoc, List.append_assoc, List.append_assoc, List.append_assoc, ← bl5_eq] at g5
    have hc : f_X5_append p1 p2 p3 p4 p5 M = some (0, M5 1 2, M5) := by
      rw [e0, if_pos hle, ev_bnd e1, ev_bnd e2, ev_bnd e3, ev_bnd e4, ev_bnd e5]
    obtain ⟨q1, q2, q3, q4, q5⟩ := g5
    have hN0 : NB (mput (mput M5 17 0 (M5 1 2)) 9 6 0) (mput (mput M5 17 0 (M5 1 2)) 9 6 0) ((List.range nb).map (M 2)) := by
      refine ⟨by rw [hb0]; exact c1, ?_, fun k hk => ?_, fun _ _ => rfl, fun _ _ _ => rfl⟩
      · rw [hb0, mput_col (by decide), mput_row (by decide), q5 9 (by decide) (by decide)]
        exact c3
      · rw [hb0] at hk
        rw [mput_row (by decide), mput_row (by decide), q5 16 (by decide) (by decide), getD_map hk]
        exact (c4 k hk).1.symm
    obtain ⟨N1, d1, d2⟩ := X6_append_w p1 p2 p3 p4 p5 hN0 (by rw [hb0]; exact hT)
    obtain ⟨r1, r2, r3, r4, r5⟩ := d2
    have hr : N1 9 10 = M5 1 2 := r2.trans q2.symm
    refine ⟨0, _, N1 9 10, N1, L0_append hc, ?_, ?_, fun _ => ?_, ?_⟩
    · rw [e9 _ (by rw [mput_row (by decide), q5 9 (by decide) (by decide)]; exact c3), if_pos hle]
      unfold f_X6_append_63
      rw [letM_eq, mput_at, if_pos le00]
      exact d1
    · rw [r4 6 (by decide), mput_at]
    · rw [r5 17 (by decide) (by decide), mput_row (by decide), mput_at, hr]
    · refine hI.bu (fun x h1 h2 h9 h16 h17 => ?_) (fun c hc => ?_) (fun c h6 h10 => ?_) ?_
      · rw [r5 x h9 h16, mput_row h9, mput_row h17, q5 x h1 h2]
      · rw [r5 1 (by decide) (by decide), mput_row (by decide), mput_row (by decide), q4 c hc]
      · rw [r4 c h10, mput_col h6, mput_row (by decide), q5 9 (by decide) (by decide)]
      · refine ⟨_, q1, ?_, r2, fun k hk => ?_⟩
        · rw [r5 1 (by decide) (by decide), mput_row (by decide), mput_row (by decide)]
          exact q2
        · have hv := r3 k hk
          refine ⟨?_, ?_⟩
          · rw [r5 2 (by decide) (by decide), mput_row (by decide), mput_row (by decide), q3 k hk, hv]
          · rw [hv]
            have hm := getD_mem hk
            generalize (List.map (M 2) (List.range nb) ++ bl5 p1 p2 p3 p4 p5).getD k 0 = b at hm ⊢
            rcases List.mem_append.mp hm with hm | hm
            · obtain ⟨i, hi, rfl⟩ := List.mem_map.mp hm
              have hi := List.mem_range.mp hi
              rw [(c4 i hi).1]
              exact (c4 i hi).2
            · exact blF_oB (fun j => byt_ok _ _) 20 0 b hm
  · have hle : ¬ nI (nb + (bl5 p1 p2 p3 p4 p5).length) ≤ 800 := not_le_nI (b := 800) (by omega) (by omega)
    have hc : f_X5_append p1 p2 p3 p4 p5 M = some (3, 0, M) := by
      rw [e0, if_neg hle]
    refine agrk hI (b := 0) (k := 1) (by decide) (L3_append hc) ?_
    rw [e9 M c3, if_neg hle]
    unfold f_X6_append_63
    rw [letM_eq, mput_at]
    rfl
