/-! LOAD: from the first token to the last -/
noncomputable def aftN (M : Mem) : Option (Int32 × Mem) := bnd (f_X6_rankHere M) (fun r332 => (if r332 = (-1) then (bnd (f_X6_errs (-2) M) (fun M334 => ((f_X6_load_111) M334))) else ((f_X6_load_111) M)))
noncomputable def clT (M45 : Mem) : Option (Int32 × Mem) := (bnd (f_X3_nextToken M45) (fun M47 => (bnd2 (f_X3_readPaper M47) (fun r48 M49 => (if r48 = 0 then (some (0, M49)) else (bnd2 (f_X3_readGrant M49) (fun r50 M51 => (if r50 = 0 then (some (0, M51)) else (bnd2 (f_X3_readNeeds M51) (fun r52 M53 => (if r52 = 0 then (some (0, M53)) else (bnd2 (f_X3_readMonks M53) (fun r54 M55 => (if r54 = 0 then (some (0, M55)) else (bnd2 (f_X3_readBells M55) (fun r56 M57 => (if r56 = 0 then (some (0, M57)) else ((lp (fun _ _ => none) (f_X3_readText_60) FU) 0 M57))))))))))))))))))
noncomputable def rfT (M343 : Mem) : Option (Int32 × Mem) := (bnd (f_X6_next M343) (fun M345 => (bnd (f_X6_readsSetting 16 2 99 M345) (fun M347 => (bnd (f_X6_readsSetting 17 3 50 M347) (fun M349 => (bnd (f_X6_isWord 18 M349) (fun r350 => (if r350 = 0 then (bnd (f_X6_errs (-2) M349) (fun M352 => ((f_X6_load_72) M352))) else ((f_X6_load_72) M349))))))))))
section LO
variable {A0 B0 A B : Mem} {nb : Nat} {tx : Nat → Nat} {s e m n t : Nat}
/-! the reference behind an error -/
theorem er_lp174 (hE : ¬ B 9 15 = 0) {g : Nat} (hg : 0 < g) : lp (fun _ _ => none) f_X6_load_174 g 0 B = f_X6_load_200 B := by
  obtain ⟨g', rfl⟩ : ∃ g', g = g' + 1 := ⟨g - 1, by omega⟩
  rw [lp_s]
  generalize lp (fun _ _ => none) f_X6_load_174 g' = rr
  unfold f_X6_load_174
  rw [if_pos rfl, er_errs hE, bnd_some]
  exact ite_self _
theorem er_l173 (hE : ¬ B 9 15 = 0) : f_X6_load_173 0 B = f_X6_load_200 B := er_lp174 hE (by rw [FU_eq]; decide)
theorem er_lp149 (hE : ¬ B 9 15 = 0) {g : Nat} (hg : 0 < g) : lp (fun _ _ => none) f_X6_load_149 g 0 B = f_X6_load_200 B := by
  obtain ⟨g', rfl⟩ : ∃ g', g = g' + 1 := ⟨g - 1, by omega⟩
  rw [lp_s]
  generalize lp (fun _ _ => none) f_X6_load_149 g' = rr
  unfold f_X6_load_149
  rw [if_pos rfl, if_neg hE, er_l173 hE]
theorem er_l148 (hE : ¬ B 9 15 = 0) : f_X6_load_148 0 B = f_X6_load_200 B := er_lp149 hE (by rw [FU_eq]; decide)
theorem er_lp124 (hE : ¬ B 9 15 = 0) {g : Nat} (hg : 0 < g) : lp (fun _ _ => none) f_X6_load_124 g 0 B = f_X6_load_200 B := by
  obtain ⟨g', rfl⟩ : ∃ g', g = g' + 1 := ⟨g - 1, by omega⟩
  rw [lp_s]
  generalize lp (fun _ _ => none) f_X6_load_124 g' = rr
  unfold f_X6_load_124
  rw [if_pos rfl, if_neg hE, er_l148 hE]
theorem er_l123 (hE : ¬ B 9 15 = 0) : f_X6_load_123 0 B = f_X6_load_200 B := er_lp124 hE (by rw [FU_eq]; decide)
theorem er_l111 (hE : ¬ B 9 15 = 0) : f_X6_load_111 B = f_X6_load_200 B := by
  unfold f_X6_load_111
  rw [if_neg hE, er_l123 hE]
theorem er_aftN (hE : ¬ B 9 15 = 0) : aftN B = f_X6_load_200 B := by
  unfold aftN
  rw [er_rank hE, bnd_some, if_pos rfl, er_errs hE, bnd_some, er_l111 hE]
theorem lp85_0 {g : Nat} (hg : 0 < g) : lp (fun _ _ => none) f_X6_load_85 g 0 B = aftN B := by
  obtain ⟨g', rfl⟩ : ∃ g', g = g' + 1 := ⟨g - 1, by omega⟩
  rw [lp_s]
  generalize lp (fun _ _ => none) f_X6_load_85 g' = rr
  unfold f_X6_load_85
  rw [if_pos rfl]
  rfl
theorem er_l72 (hE : ¬ B 9 15 = 0) : f_X6_load_72 B = f_X6_load_200 B := by
  unfold f_X6_load_72 f_X6_load_84
  rw [if_neg hE, lp85_0 (by rw [FU_eq]; decide), er_aftN hE]
theorem lp124_0 (h0 : B 9 15 = 0) {g : Nat} (hg : 0 < g) : lp (fun _ _ => none) f_X6_load_124 g 0 B = f_X6_load_148 1 B := by
  obtain ⟨g', rfl⟩ : ∃ g', g = g' + 1 := ⟨g - 1, by omega⟩
  rw [lp_s]
  generalize lp (fun _ _ => none) f_X6_load_124 g' = rr
  unfold f_X6_load_124
  rw [if_pos rfl, if_pos h0]
theorem lp149_0 (h0 : B 9 15 = 0) {g : Nat} (hg : 0 < g) : lp (fun _ _ => none) f_X6_load_149 g 0 B = f_X6_load_173 1 B := by
  obtain ⟨g', rfl⟩ : ∃ g', g = g' + 1 := ⟨g - 1, by omega⟩
  rw [lp_s]
  generalize lp (fun _ _ => none) f_X6_load_149 g' = rr
  unfold f_X6_load_149
  rw [if_pos rfl, if_pos h0]
/-! the needs -/
theorem S_needs (hT : TX A0 B0 nb tx) : ∀ (d k f g : Nat) (A B : Mem) (s e : Nat), 8 - k ≤ d → k ≤ 8 → d < f → d + 1 < g → LSt A0 B0 nb tx A B s e m k t → (0 < k ∨ f_X6_isWord 18 B = some 1) → (∃ A' B' s' e' n', lp (fun _ _ => none) f_X3_readNeeds_2 f (nI k) A = some (1, A') ∧ lp (fun _ _ => none) f_X6_load_85 g 1 B = aftN B' ∧ LSt A0 B0 nb tx A' B' s' e' m n' t) ∨ (∃ A' B', lp (fun _ _ => none) f_X3_readNeeds_2 f (nI k) A = some (0, A') ∧ lp (fun _ _ => none) f_X6_load_85 g 1 B = f_X6_load_200 B' ∧ ER A0 B0 A' B') := by
  intro d
  induction d with
  | zero =>
    intro k f g A B s e hd hk hf hg h hw
    have hk8 : k = 8 := by omega
    subst hk8
    obtain ⟨f', rfl⟩ : ∃ f', f = f' + 1 := ⟨f - 1, by omega⟩
    obtain ⟨g', rfl⟩ : ∃ g', g = g' + 1 := ⟨g - 1, by omega⟩
    have h0 : ∀ C, lp (fun _ _ => none) f_X6_load_85 g' 0 C = aftN C := fun C => lp85_0 (by omega)
    rw [lp_s, lp_s]
    generalize lp (fun _ _ => none) f_X3_readNeeds_2 f' = rf
    generalize lp (fun _ _ => none) f_X6_load_85 g' = rg at h0 ⊢
    obtain ⟨h1, hr, w⟩ := id h
    unfold f_X3_readNeeds_2 f_X3_readNeeds_69 f_X6_load_85 f_X6_readsNeed
    rw [if_pos (show (8 : Int32) ≤ nI 8 from le_self_nI 8), if_neg (show ¬ (1 : Int32) = 0 by decide)]
    rcases S_word hT h1 (w := 2) (w' := 18) (by decide) rfl with ⟨q1, -, q3⟩ | ⟨q1, q2, -⟩
    · left
      rw [ev_bnd q1, if_pos rfl, ev_bnd q3, if_pos rfl, bnd2_some, h0]
      exact ⟨A, B, s, e, 8, rfl, rfl, h⟩
    · right
      obtain ⟨A', B', k1, k2, k3, -, -⟩ := S_fail h1 (c := -6) (by decide)
      have hE := k3.2.2.2.2.1
      rw [ev_bnd q1, if_neg (by decide), ev_bnd2 k1, if_pos rfl, ev_bnd q2, if_neg (by decide), w.e1, if_pos (show nI 8 = (8 : Int32) from rfl), ev_bnd k2, er_need29 hE, bnd2_some, h0, er_aftN hE]
      exact ⟨A', B', rfl, rfl, k3⟩
  | succ d ih =>
    intro k f g A B s e hd hk hf hg h hw
    by_cases hk8 : k = 8
    · exact ih k f g A B s e (by omega) hk (by omega) (by omega) h hw
    · obtain ⟨f', rfl⟩ : ∃ f', f = f' + 1 := ⟨f - 1, by omega⟩
      obtain ⟨g', rfl⟩ : ∃ g', g = g' + 1 := ⟨g - 1, by omega⟩
      have h0 : ∀ C, lp (fun _ _ => none) f_X6_load_85 g' 0 C = aftN C := fun C => lp85_0 (by omega)
      have ih' := fun (A B : Mem) (s e : Nat) (hL : LSt A0 B0 nb tx A B s e m (k + 1) t) => ih (k + 1) f' g' A B s e (by omega) (by omega) (by omega) (by omega) hL (Or.inl (by omega))
      rw [lp_s, lp_s]
      generalize lp (fun _ _ => none) f_X3_readNeeds_2 f' = rf at ih' ⊢
      generalize lp (fun _ _ => none) f_X6_load_85 g' = rg at h0 ih' ⊢
      unfold f_X3_readNeeds_2 f_X3_readNeeds_30 f_X6_load_85
      rw [if_neg (show ¬ (8 : Int32) ≤ nI k from not_le_nI (show k < 8 by omega) (by decide)), if_neg (show ¬ (1 : Int32) = 0 by decide), ← nI_succ]
      rcases S_rneed hT h (by omega) with ⟨q1, q2, q3⟩ | ⟨A1, q1, -, ⟨A', B', s', e', k1, k2, k3⟩ | ⟨A', B', k1, k2, k3⟩⟩
      · left
        have hk0 : 0 < k := by
          rcases hw with hw | hw
          · exact hw
          · rw [q2] at hw
            exact absurd (Option.some.inj hw) (by decide)
        rw [ev_bnd2 q1, if_pos rfl, if_pos (show (0 : Int32) < nI k from nI_lt hk0 (by omega)), ev_bnd2 q3, h0]
        exact ⟨A, B, s, e, k, rfl, rfl, h⟩
      · rw [ev_bnd2 q1, if_neg (by decide), ev_bnd2 k1, if_neg (by decide), ev_bnd2 k2]
        exact ih' A' B' s' e' k3
      · right
        rw [ev_bnd2 q1, if_neg (by decide), ev_bnd2 k1, if_pos rfl, ev_bnd2 k2, h0, er_aftN k3.2.2.2.2.1]
        exact ⟨A', B', rfl, rfl, k3⟩
/-! the monks -/
theorem er_mon29 (hE : ¬ B 9 15 = 0) (rk : Int32) : f_X6_readsMonk_29 rk B = some (0, B) := by
  unfold f_X6_readsMonk_29 f_X6_readsMonk_61
  rw [er_must hE, bnd_some, er_name hE, bnd2_some, if_neg hE, er_must hE, bnd_some, er_mon68 hE rk 0 0 (by rw [FU_eq]; decide)]
theorem S_monks (hT : TX A0 B0 nb tx) : ∀ (d k f g : Nat) (A B : Mem) (s e : Nat), 12 - k ≤ d → k ≤ 12 → d < f → d + 1 < g → LSt A0 B0 nb tx A B s e k n t → (0 < k ∨ ∃ rk, f_X6_rankHere B = some rk ∧ ¬ rk = -1) → (∃ A' B' s' e' m', lp (fun _ _ => none) f_X3_readMonks_2 f (nI k) A = some (1, A') ∧ lp (fun _ _ => none) f_X6_load_124 g 1 B = f_X6_load_148 1 B' ∧ LSt A0 B0 nb tx A' B' s' e' m' n t ∧ 1 ≤ m') ∨ (∃ A' B', lp (fun _ _ => none) f_X3_readMonks_2 f (nI k) A = some (0, A') ∧ lp (fun _ _ => none) f_X6_load_124 g 1 B = f_X6_load_200 B' ∧ ER A0 B0 A' B') := by
  intro d
  induction d with
  | zero =>
    intro k f g A B s e hd hk hf hg h hw
    have hk8 : k = 12 := by omega
    subst hk8
    obtain ⟨f', rfl⟩ : ∃ f', f = f' + 1 := ⟨f - 1, by omega⟩
    obtain ⟨g', rfl⟩ : ∃ g', g = g' + 1 := ⟨g - 1, by omega⟩
    have h0 : ∀ C : Mem, C 9 15 = 0 → lp (fun _ _ => none) f_X6_load_124 g' 0 C = f_X6_load_148 1 C := fun C hC => lp124_0 hC (by omega)
    have hE0 : ∀ C : Mem, ¬ C 9 15 = 0 → lp (fun _ _ => none) f_X6_load_124 g' 0 C = f_X6_load_200 C := fun C hC => er_lp124 hC (by omega)
    rw [lp_s, lp_s]
    generalize lp (fun _ _ => none) f_X3_readMonks_2 f' = rf
    generalize lp (fun _ _ => none) f_X6_load_124 g' = rg at h0 hE0 ⊢
    obtain ⟨h1, hr, w⟩ := id h
    unfold f_X3_readMonks_2 f_X3_readMonks_74 f_X6_load_124 f_X6_readsMonk
    rw [if_pos (show (12 : Int32) ≤ nI 12 from le_self_nI 12), if_neg (show ¬ (1 : Int32) = 0 by decide)]
    rcases S_rank hT h1 with ⟨q1, q2⟩ | ⟨rk, A1, B1, s1, e1, q1, q2, q3, -⟩
    · left
      rw [ev_bnd q1, if_pos rfl, ev_bnd q2, if_pos rfl, bnd2_some, h0 B h1.w0]
      exact ⟨A, B, s, e, 12, rfl, rfl, h, by decide⟩
    · right
      obtain ⟨A', B', k1, k2, k3, -, -⟩ := S_fail h1 (c := -6) (by decide)
      have hE := k3.2.2.2.2.1
      rw [ev_bnd q1, if_neg q3, ev_bnd2 k1, if_pos rfl, ev_bnd q2, if_neg q3, w.e0, if_pos (show nI 12 = (12 : Int32) from rfl), ev_bnd k2, er_mon29 hE, bnd2_some, hE0 B' hE]
      exact ⟨A', B', rfl, rfl, k3⟩
  | succ d ih =>
    intro k f g A B s e hd hk hf hg h hw
    by_cases hk8 : k = 12
    · exact ih k f g A B s e (by omega) hk (by omega) (by omega) h hw
    · obtain ⟨f', rfl⟩ : ∃ f', f = f' + 1 := ⟨f - 1, by omega⟩
      obtain ⟨g', rfl⟩ : ∃ g', g = g' + 1 := ⟨g - 1, by omega⟩
      have h0 : ∀ C : Mem, C 9 15 = 0 → lp (fun _ _ => none) f_X6_load_124 g' 0 C = f_X6_load_148 1 C := fun C hC => lp124_0 hC (by omega)
      have hE0 : ∀ C : Mem, ¬ C 9 15 = 0 → lp (fun _ _ => none) f_X6_load_124 g' 0 C = f_X6_load_200 C := fun C hC => er_lp124 hC (by omega)
      have ih' := fun (A B : Mem) (s e : Nat) (hL : LSt A0 B0 nb tx A B s e (k + 1) n t) => ih (k + 1) f' g' A B s e (by omega) (by omega) (by omega) (by omega) hL (Or.inl (by omega))
      rw [lp_s, lp_s]
      generalize lp (fun _ _ => none) f_X3_readMonks_2 f' = rf at ih' ⊢
      generalize lp (fun _ _ => none) f_X6_load_124 g' = rg at h0 hE0 ih' ⊢
      unfold f_X3_readMonks_2 f_X3_readMonks_31 f_X6_load_124
      rw [if_neg (show ¬ (12 : Int32) ≤ nI k from not_le_nI (show k < 12 by omega) (by decide)), if_neg (show ¬ (1 : Int32) = 0 by decide), ← nI_succ]
      rcases S_rmonk hT h (by omega) with ⟨q1, q2, q3⟩ | ⟨rk, A1, q1, q2, q3, q4, ⟨A', B', s', e', k1, k2, k3⟩ | ⟨A', B', k1, k2, k3⟩⟩
      · left
        have hk0 : 0 < k := by
          rcases hw with hw | ⟨rk, hw, hw2⟩
          · exact hw
          · rw [q2] at hw
            exact absurd (Option.some.inj hw).symm hw2
        rw [ev_bnd q1, if_pos rfl, if_pos (show (0 : Int32) < nI k from nI_lt hk0 (by omega)), ev_bnd2 q3, h0 B h.1.w0]
        exact ⟨A, B, s, e, k, rfl, rfl, h, hk0⟩
      · rw [ev_bnd q1, if_neg q3, ev_bnd q4, ev_bnd2 k1, if_neg (by decide), ev_bnd2 k2]
        exact ih' A' B' s' e' k3
      · right
        rw [ev_bnd q1, if_neg q3, ev_bnd q4, ev_bnd2 k1, if_pos rfl, ev_bnd2 k2, hE0 B' k3.2.2.2.2.1]
        exact ⟨A', B', rfl, rfl, k3⟩
/-! the bells -/
theorem S_bells (hT : TX A0 B0 nb tx) : ∀ (d i f g : Nat) (A B : Mem) (s e : Nat), nb - s ≤ d → i ≤ s → d < f → d + 1 < g → LSt A0 B0 nb tx A B s e m n t → (∃ A' B' s' e', lp (fun _ _ => none) f_X3_readBells_2 f (nI i) A = some (1, A') ∧ lp (fun _ _ => none) f_X6_load_149 g 1 B = f_X6_load_173 1 B' ∧ LSt A0 B0 nb tx A' B' s' e' m n t) ∨ (∃ A' B', lp (fun _ _ => none) f_X3_readBells_2 f (nI i) A = some (0, A') ∧ lp (fun _ _ => none) f_X6_load_149 g 1 B = f_X6_load_200 B' ∧ ER A0 B0 A' B') := by
  intro d
  induction d with
  | zero =>
    intro i f g A B s e hd hi hf hg h
    obtain ⟨f', rfl⟩ : ∃ f', f = f' + 1 := ⟨f - 1, by omega⟩
    obtain ⟨g', rfl⟩ : ∃ g', g = g' + 1 := ⟨g - 1, by omega⟩
    have h0 : ∀ C : Mem, C 9 15 = 0 → lp (fun _ _ => none) f_X6_load_149 g' 0 C = f_X6_load_173 1 C := fun C hC => lp149_0 hC (by omega)
    rw [lp_s, lp_s]
    generalize lp (fun _ _ => none) f_X3_readBells_2 f' = rf
    generalize lp (fun _ _ => none) f_X6_load_149 g' = rg at h0 ⊢
    have le := h.1.le
    unfold f_X3_readBells_2 f_X6_load_149
    rw [if_neg (show ¬ (1 : Int32) = 0 by decide)]
    left
    rcases S_rbell hT h with ⟨q1, q2⟩ | ⟨A1, q1, q2, -⟩
    · rw [ev_bnd2 q1, if_pos rfl, ev_bnd2 q2, h0 B h.1.w0]
      exact ⟨A, B, s, e, ite_self _, rfl, h⟩
    · exact absurd q2 (by omega)
  | succ d ih =>
    intro i f g A B s e hd hi hf hg h
    obtain ⟨f', rfl⟩ : ∃ f', f = f' + 1 := ⟨f - 1, by omega⟩
    obtain ⟨g', rfl⟩ : ∃ g', g = g' + 1 := ⟨g - 1, by omega⟩
    have h0 : ∀ C : Mem, C 9 15 = 0 → lp (fun _ _ => none) f_X6_load_149 g' 0 C = f_X6_load_173 1 C := fun C hC => lp149_0 hC (by omega)
    have hE0 : ∀ C : Mem, ¬ C 9 15 = 0 → lp (fun _ _ => none) f_X6_load_149 g' 0 C = f_X6_load_200 C := fun C hC => er_lp149 hC (by omega)
    have ih' := fun (A B : Mem) (s' e' : Nat) (hs : s < s') (hL : LSt A0 B0 nb tx A B s' e' m n t) => ih (i + 1) f' g' A B s' e' (by omega) (by omega) (by omega) (by omega) hL
    rw [lp_s, lp_s]
    generalize lp (fun _ _ => none) f_X3_readBells_2 f' = rf at ih' ⊢
    generalize lp (fun _ _ => none) f_X6_load_149 g' = rg at h0 hE0 ih' ⊢
    have le := h.1.le
    have hn := hT.1
    unfold f_X3_readBells_2 f_X6_load_149
    rw [if_neg (show ¬ (1 : Int32) = 0 by decide), ← nI_succ]
    rcases S_rbell hT h with ⟨q1, q2⟩ | ⟨A1, q1, q2, ⟨A', B', s', e', k1, k2, k3, k4⟩ | ⟨A', B', k1, k2, k3⟩⟩
    · left
      rw [ev_bnd2 q1, if_pos rfl, ev_bnd2 q2, h0 B h.1.w0]
      exact ⟨A, B, s, e, ite_self _, rfl, h⟩
    · rw [if_neg (show ¬ (800 : Int32) ≤ nI i from not_le_nI (show i < 800 by omega) (by decide)), ev_bnd2 q1, if_neg (by decide), ev_bnd2 k1, if_neg (by decide), ev_bnd2 k2]
      exact ih' A' B' s' e' (by omega) k3
    · right
      rw [if_neg (show ¬ (800 : Int32) ≤ nI i from not_le_nI (show i < 800 by omega) (by decide)), ev_bnd2 q1, if_neg (by decide), ev_bnd2 k1, if_pos rfl, ev_bnd2 k2, hE0 B' k3.2.2.2.2.1]
      exact ⟨A', B', rfl, rfl, k3⟩
/-! the deeds -/
theorem TS.kd3 (h : TS A0 B0 nb tx A B s e) : B 9 13 = 3 ↔ s = nb := by
  obtain ⟨kd, hg, g2, -⟩ := h.2.2.2
  obtain ⟨-, -, k3, k4, -⟩ := hg.kind
  rw [g2, ← k3]
  constructor
  · intro q
    exact nI_inj (b := 3) (by omega) (by decide) q
  · intro q
    rw [q]
    rfl
theorem lp174_fin (h : TS A0 B0 nb tx A B s e) (hs : s = nb) {g : Nat} (hg : 0 < g) : lp (fun _ _ => none) f_X6_load_174 g 0 B = f_X6_load_200 B := by
  obtain ⟨g', rfl⟩ : ∃ g', g = g' + 1 := ⟨g - 1, by omega⟩
  rw [lp_s]
  generalize lp (fun _ _ => none) f_X6_load_174 g' = rr
  unfold f_X6_load_174
  rw [if_pos rfl, if_pos (h.kd3.mpr hs)]
theorem lp174_bad (h : TS A0 B0 nb tx A B s e) (hs : ¬ s = nb) {B' : Mem} (he : f_X6_errs (-2) B = some B') {g : Nat} (hg : 0 < g) : lp (fun _ _ => none) f_X6_load_174 g 0 B = f_X6_load_200 B' := by
  obtain ⟨g', rfl⟩ : ∃ g', g = g' + 1 := ⟨g - 1, by omega⟩
  rw [lp_s]
  generalize lp (fun _ _ => none) f_X6_load_174 g' = rr
  unfold f_X6_load_174
  rw [if_pos rfl, if_neg (fun q => hs (h.kd3.mp q)), ev_bnd he]
theorem S_deeds (hT : TX A0 B0 nb tx) : ∀ (d i f g : Nat) (A B : Mem) (s e t : Nat), nb - s ≤ d → i ≤ s → d < f → d + 1 < g → LSt A0 B0 nb tx A B s e m n t → (∃ A' B' s' e' t', lp (fun _ _ => none) f_X3_readText_60 f (nI i) A = some (1, A') ∧ lp (fun _ _ => none) f_X6_load_174 g 1 B = f_X6_load_200 B' ∧ LSt A0 B0 nb tx A' B' s' e' m n t') ∨ (∃ A' B', lp (fun _ _ => none) f_X3_readText_60 f (nI i) A = some (0, A') ∧ lp (fun _ _ => none) f_X6_load_174 g 1 B = f_X6_load_200 B' ∧ ER A0 B0 A' B') := by
  have fin : ∀ (i f g : Nat) (A B : Mem) (s e t : Nat), s = nb → 0 < f → 1 < g → LSt A0 B0 nb tx A B s e m n t → (∃ A' B' s' e' t', lp (fun _ _ => none) f_X3_readText_60 f (nI i) A = some (1, A') ∧ lp (fun _ _ => none) f_X6_load_174 g 1 B = f_X6_load_200 B' ∧ LSt A0 B0 nb tx A' B' s' e' m n t') := by
    intro i f g A B s e t hs hf hg h
    obtain ⟨f', rfl⟩ : ∃ f', f = f' + 1 := ⟨f - 1, by omega⟩
    obtain ⟨g', rfl⟩ : ∃ g', g = g' + 1 := ⟨g - 1, by omega⟩
    have h0 := lp174_fin h.1 hs (g := g') (by omega)
    rw [lp_s, lp_s]
    generalize lp (fun _ _ => none) f_X3_readText_60 f' = rf
    generalize lp (fun _ _ => none) f_X6_load_174 g' = rg at h0 ⊢
    have le := h.1.le
    unfold f_X3_readText_60 f_X6_load_174
    rw [if_neg (show ¬ (1 : Int32) = 0 by decide), h.1.1.n2 hT, h.1.2.1, hs, if_pos (le_self_nI nb)]
    rcases S_rdeed hT h with ⟨A', B', k1, k2, -⟩ | ⟨q, -⟩ | ⟨q, -⟩
    · rw [ev_bnd2 k2, h0]
      exact ⟨A, B, s, e, t, ite_self _, rfl, h⟩
    · exact absurd q (by omega)
    · exact absurd q (by omega)
  intro d
  induction d with
  | zero =>
    intro i f g A B s e t hd hi hf hg h
    have le := h.1.le
    exact Or.inl (fin i f g A B s e t (by omega) (by omega) (by omega) h)
  | succ d ih =>
    intro i f g A B s e t hd hi hf hg h
    have le := h.1.le
    have hn := hT.1
    by_cases hs : s = nb
    · exact Or.inl (fin i f g A B s e t hs (by omega) (by omega) h)
    · obtain ⟨f', rfl⟩ : ∃ f', f = f' + 1 := ⟨f - 1, by omega⟩
      obtain ⟨g', rfl⟩ : ∃ g', g = g' + 1 := ⟨g - 1, by omega⟩
      have hB0 : ∀ B', f_X6_errs (-2) B = some B' → lp (fun _ _ => none) f_X6_load_174 g' 0 B = f_X6_load_200 B' := fun B' hb => lp174_bad h.1 hs hb (by omega)
      have hE0 : ∀ C : Mem, ¬ C 9 15 = 0 → lp (fun _ _ => none) f_X6_load_174 g' 0 C = f_X6_load_200 C := fun C hC => er_lp174 hC (by omega)
      have ih' := fun (A B : Mem) (s' e' t' : Nat) (hs : s < s') (hL : LSt A0 B0 nb tx A B s' e' m n t') => ih (i + 1) f' g' A B s' e' t' (by omega) (by omega) (by omega) (by omega) hL
      rw [lp_s, lp_s]
      generalize lp (fun _ _ => none) f_X3_readText_60 f' = rf at ih' ⊢
      generalize lp (fun _ _ => none) f_X6_load_174 g' = rg at hB0 hE0 ih' ⊢
      unfold f_X3_readText_60 f_X6_load_174
      rw [if_neg (show ¬ (1 : Int32) = 0 by decide), if_neg (show ¬ (800 : Int32) ≤ nI i from not_le_nI (show i < 800 by omega) (by decide)), h.1.1.n2 hT, h.1.2.1, if_neg (not_le_nI (show s < nb by omega) (by omega)), ← nI_succ]
      rcases S_rdeed hT h with ⟨A', B', k1, k2, k3, k4⟩ | ⟨q, A', B', s', e', t', k1, k2, k3, k4⟩ | ⟨q, A', B', k1, k2, k3⟩
      · right
        rw [ev_bnd2 k1, if_pos rfl, ev_bnd2 k2, hB0 B' k3]
        exact ⟨A', B', rfl, rfl, k4⟩
      · rw [ev_bnd2 k1, if_neg (by decide), ev_bnd2 k2]
        exact ih' A' B' s' e' t' (by omega) k3
      · right
        rw [ev_bnd2 k1, if_pos rfl, ev_bnd2 k2, hE0 B' k3.2.2.2.2.1]
        exact ⟨A', B', rfl, rfl, k3⟩
/-! all of it -/
theorem er_rf18 (hE : ¬ B 9 15 = 0) : (bnd (f_X6_isWord 18 B) (fun r350 => (if r350 = 0 then (bnd (f_X6_errs (-2) B) (fun M352 => ((f_X6_load_72) M352))) else ((f_X6_load_72) B)))) = f_X6_load_200 B := by
  rw [er_isWord hE, bnd_some, if_pos rfl, er_errs hE, bnd_some, er_l72 hE]
theorem S_text (hT : TX A0 B0 nb tx) (h : PT A0 B0 nb A B 0) (hr : HR A 31 (B 10) 0 0) (w : VV (B 10) 0 0 0) : (∃ A' B' s' e' m' n' t', clT A = some (1, A') ∧ rfT B = f_X6_load_200 B' ∧ LSt A0 B0 nb tx A' B' s' e' m' n' t' ∧ 1 ≤ m') ∨ (∃ A' B', clT A = some (0, A') ∧ rfT B = f_X6_load_200 B' ∧ ER A0 B0 A' B') := by
  have hn := hT.1
  obtain ⟨A1, B1, s1, e1, q1, q2, q3, -, q5, q6⟩ := S_next0 hT h
  have hL1 : LSt A0 B0 nb tx A1 B1 s1 e1 0 0 0 := ⟨q3, by rw [q6 10 (by decide)]; exact hr.ra q5, by rw [q6 10 (by decide)]; exact w⟩
  unfold clT rfT
  rw [ev_bnd q1, ev_bnd q2]
  rcases S_paper hT hL1 with ⟨A2, B2, s2, e2, a1, a2, hL2⟩ | ⟨A2, B2, a1, a2, a3⟩
  · rw [ev_bnd2 a1, if_neg (by decide), ev_bnd a2]
    rcases S_grant hT hL2 with ⟨A3, B3, s3, e3, b1, b2', hL3⟩ | ⟨A3, B3, b1, b2', b3⟩
    · rw [ev_bnd2 b1, if_neg (by decide), ev_bnd b2']
      have hneeds : (∃ A' B' s' e' n', f_X3_readNeeds A3 = some (1, A') ∧ (bnd (f_X6_isWord 18 B3) (fun r350 => (if r350 = 0 then (bnd (f_X6_errs (-2) B3) (fun M352 => ((f_X6_load_72) M352))) else ((f_X6_load_72) B3)))) = aftN B' ∧ LSt A0 B0 nb tx A' B' s' e' 0 n' 0) ∨ (∃ A' B', f_X3_readNeeds A3 = some (0, A') ∧ (bnd (f_X6_isWord 18 B3) (fun r350 => (if r350 = 0 then (bnd (f_X6_errs (-2) B3) (fun M352 => ((f_X6_load_72) M352))) else ((f_X6_load_72) B3)))) = f_X6_load_200 B' ∧ ER A0 B0 A' B') := by
        rcases S_word hT hL3.1 (w := 2) (w' := 18) (by decide) rfl with ⟨-, c2, c3⟩ | ⟨-, c2, -⟩
        · right
          obtain ⟨A', B', k1, k2, k3, -, -⟩ := S_fail hL3.1 (c := -2) (by decide)
          rw [ev_bnd c3, if_pos rfl, ev_bnd k2, er_l72 k3.2.2.2.2.1]
          refine ⟨A', B', ?_, rfl, k3⟩
          unfold f_X3_readNeeds
          rw [show FU = 4095 + 1 from rfl, lp_s]
          generalize lp (fun _ _ => none) f_X3_readNeeds_2 4095 = rr
          unfold f_X3_readNeeds_2
          rw [if_neg (by decide), ev_bnd2 c2, if_pos rfl, if_neg (by decide), ev_bnd2 k1, if_pos rfl]
        · rw [ev_bnd c2, if_neg (by decide)]
          unfold f_X6_load_72 f_X6_load_84
          rw [if_pos hL3.1.w0]
          exact S_needs hT 8 0 FU FU A3 B3 s3 e3 (by decide) (by decide) (by rw [FU_eq]; decide) (by rw [FU_eq]; decide) hL3 (Or.inr c2)
      rcases hneeds with ⟨A4, B4, s4, e4, n4, c1, c2, hL4⟩ | ⟨A4, B4, c1, c2, c3⟩
      · rw [ev_bnd2 c1, if_neg (by decide), c2]
        have hmonks : (∃ A' B' s' e' m', f_X3_readMonks A4 = some (1, A') ∧ aftN B4 = f_X6_load_148 1 B' ∧ LSt A0 B0 nb tx A' B' s' e' m' n4 0 ∧ 1 ≤ m') ∨ (∃ A' B', f_X3_readMonks A4 = some (0, A') ∧ aftN B4 = f_X6_load_200 B' ∧ ER A0 B0 A' B') := by
          unfold aftN
          rcases S_rank hT hL4.1 with ⟨d1, d2⟩ | ⟨rk, -, -, -, -, d1, d2, d3, -⟩
          · right
            obtain ⟨A', B', k1, k2, k3, -, -⟩ := S_fail hL4.1 (c := -2) (by decide)
            rw [ev_bnd d2, if_pos rfl, ev_bnd k2, er_l111 k3.2.2.2.2.1]
            refine ⟨A', B', ?_, rfl, k3⟩
            unfold f_X3_readMonks
            rw [show FU = 4095 + 1 from rfl, lp_s]
            generalize lp (fun _ _ => none) f_X3_readMonks_2 4095 = rr
            unfold f_X3_readMonks_2
            rw [if_neg (by decide), ev_bnd d1, if_pos rfl, if_neg (by decide), ev_bnd2 k1, if_pos rfl]
          · rw [ev_bnd d2, if_neg d3]
            unfold f_X6_load_111 f_X6_load_123
            rw [if_pos hL4.1.w0]
            exact S_monks hT 12 0 FU FU A4 B4 s4 e4 (by decide) (by decide) (by rw [FU_eq]; decide) (by rw [FU_eq]; decide) hL4 (Or.inr ⟨rk, d2, d3⟩)
        rcases hmonks with ⟨A5, B5, s5, e5, m5, d1, d2, hL5, hm5⟩ | ⟨A5, B5, d1, d2, d3⟩
        · rw [ev_bnd2 d1, if_neg (by decide), d2]
          unfold f_X3_readBells f_X6_load_148
          rcases S_bells hT (nb - s5) 0 FU FU A5 B5 s5 e5 (Nat.le_refl _) (Nat.zero_le _) (by rw [FU_eq]; omega) (by rw [FU_eq]; omega) hL5 with ⟨A6, B6, s6, e6, f1, f2, hL6⟩ | ⟨A6, B6, f1, f2, f3⟩
          · have f1' : lp (fun _ _ => none) f_X3_readBells_2 FU 0 A5 = some (1, A6) := f1
            rw [ev_bnd2 f1', if_neg (by decide), f2]
            unfold f_X6_load_173
            rcases S_deeds hT (nb - s6) 0 FU FU A6 B6 s6 e6 0 (Nat.le_refl _) (Nat.zero_le _) (by rw [FU_eq]; omega) (by rw [FU_eq]; omega) hL6 with ⟨A7, B7, s7, e7, t7, g1, g2, hL7⟩ | ⟨A7, B7, g1, g2, g3⟩
            · left
              exact ⟨A7, B7, s7, e7, m5, n4, t7, g1, g2, hL7, hm5⟩
            · right
              exact ⟨A7, B7, g1, g2, g3⟩
          · right
            have f1' : lp (fun _ _ => none) f_X3_readBells_2 FU 0 A5 = some (0, A6) := f1
            rw [ev_bnd2 f1', if_pos rfl, f2]
            exact ⟨A6, B6, rfl, rfl, f3⟩
        · right
          rw [ev_bnd2 d1, if_pos rfl, d2]
          exact ⟨A5, B5, rfl, rfl, d3⟩
      · right
        rw [ev_bnd2 c1, if_pos rfl, c2]
        exact ⟨A4, B4, rfl, rfl, c3⟩
    · right
      rw [ev_bnd2 b1, if_pos rfl, ev_bnd b2', er_rf18 b3.2.2.2.2.1]
      exact ⟨A3, B3, rfl, rfl, b3⟩
  · right
    have hE := a3.2.2.2.2.1
    rw [ev_bnd2 a1, if_pos rfl, ev_bnd a2, er_setting hE, bnd_some, er_rf18 hE]
    exact ⟨A2, B2, rfl, rfl, a3⟩
end LO
