/-! LOAD: the text and its tokens -/
def lwr (x : Nat) : Bool := decide (97 ≤ x) && decide (x ≤ 122)
def dgt0 (x : Nat) : Bool := decide (48 ≤ x) && decide (x ≤ 57)
theorem lwr_t {x : Nat} : lwr x = true ↔ 97 ≤ x ∧ x ≤ 122 := by simp [lwr]
theorem dgt0_t {x : Nat} : dgt0 x = true ↔ 48 ≤ x ∧ x ≤ 57 := by simp [dgt0]
theorem lwr_f {x : Nat} : lwr x = false ↔ x < 97 ∨ 122 < x := by
  constructor
  · intro h
    by_cases a : x < 97
    · exact Or.inl a
    · by_cases b : 122 < x
      · exact Or.inr b
      · rw [lwr_t.mpr ⟨by omega, by omega⟩] at h
        cases h
  · intro h
    cases e : lwr x with
    | false => rfl
    | true => exact absurd (lwr_t.mp e) (by omega)
theorem dgt0_f {x : Nat} : dgt0 x = false ↔ x < 48 ∨ 57 < x := by
  constructor
  · intro h
    by_cases a : x < 48
    · exact Or.inl a
    · by_cases b : 57 < x
      · exact Or.inr b
      · rw [dgt0_t.mpr ⟨by omega, by omega⟩] at h
        cases h
  · intro h
    cases e : dgt0 x with
    | false => rfl
    | true => exact absurd (dgt0_t.mp e) (by omega)
theorem inR_L {x : Nat} (hx : x < 256) : inR (nI x) 97 122 = lwr x := by
  have h1 : (97 : Int32) ≤ nI x ↔ 97 ≤ x := nI_leI (a := 97) (by decide) (by omega)
  have h2 : nI x ≤ (122 : Int32) ↔ x ≤ 122 := nI_leI (b := 122) (by omega) (by decide)
  unfold inR lwr
  simp only [h1, h2]
theorem inR_D {x : Nat} (hx : x < 256) : inR (nI x) 48 57 = dgt0 x := by
  have h1 : (48 : Int32) ≤ nI x ↔ 48 ≤ x := nI_leI (a := 48) (by decide) (by omega)
  have h2 : nI x ≤ (57 : Int32) ↔ x ≤ 57 := nI_leI (b := 57) (by omega) (by decide)
  unfold inR dgt0
  simp only [h1, h2]
def dv (tx : Nat → Nat) (s : Nat) : Nat → Nat
  | 0 => 0
  | k + 1 => 10 * dv tx s k + (tx (s + k) - 48)
theorem run_ex (P : Nat → Bool) (nb : Nat) : ∀ (d p : Nat), nb - p = d → p ≤ nb → ∃ s, p ≤ s ∧ s ≤ nb ∧ (∀ k, p ≤ k → k < s → P k = true) ∧ (s = nb ∨ (s < nb ∧ P s = false))
  | 0, p, h1, h2 => ⟨nb, h2, Nat.le_refl _, fun k a b => absurd b (by omega), Or.inl rfl⟩
  | d + 1, p, h1, h2 => by
    cases hp : P p with
    | false => exact ⟨p, Nat.le_refl _, h2, fun k a b => absurd b (by omega), Or.inr ⟨by omega, hp⟩⟩
    | true =>
      obtain ⟨s, a, b, c, e⟩ := run_ex P nb d (p + 1) (by omega) (by omega)
      refine ⟨s, by omega, b, fun k h1 h2 => ?_, e⟩
      by_cases hk : k = p
      · rw [hk]; exact hp
      · exact c k (by omega) h2
theorem lp_run {σ : Type} {z : σ} {b : σ → σ} (P : Nat → σ → Prop) {p s : Nat} (hps : p ≤ s) (hexit : ∀ r, P s (b r)) (hstep : ∀ k r, p ≤ k → k < s → P (k + 1) r → P k (b r)) {f : Nat} (hf : s - p < f) : P p (lp z b f) := by
  have key := lp_dn (z := z) (b := b) (fun k r => P (p + k) r) (s - p) (fun r => by
    show P (p + (s - p)) (b r)
    rw [show p + (s - p) = s by omega]
    exact hexit r) (fun k r hk h => hstep (p + k) r (by omega) (by omega) h) 0 f (by omega) (by omega)
  exact key
/-- where a token stands, what it is -/
def Sg (nb : Nat) (tx : Nat → Nat) (s e kd : Nat) : Prop :=
  (kd = 3 ∧ s = nb ∧ e = nb) ∨
  (kd = 0 ∧ s < e ∧ e ≤ nb ∧ (∀ k, s ≤ k → k < e → lwr (tx k) = true) ∧ (e = nb ∨ (e < nb ∧ lwr (tx e) = false))) ∨
  (kd = 1 ∧ s < e ∧ e ≤ nb ∧ lwr (tx s) = false ∧ (∀ k, s ≤ k → k < e → dgt0 (tx k) = true) ∧ (e = nb ∨ (e < nb ∧ dgt0 (tx e) = false))) ∨
  (kd = 2 ∧ s < nb ∧ e = s + 1 ∧ lwr (tx s) = false ∧ dgt0 (tx s) = false)
theorem Sg.le {nb s e kd : Nat} {tx : Nat → Nat} (h : Sg nb tx s e kd) : s ≤ e ∧ e ≤ nb ∧ (s < nb → s < e) := by
  rcases h with h | h | h | h
  · omega
  · omega
  · omega
  · omega
theorem Sg_ex (nb : Nat) (tx : Nat → Nat) {s : Nat} (hs : s ≤ nb) : ∃ e kd, Sg nb tx s e kd := by
  by_cases hn : s = nb
  · exact ⟨nb, 3, Or.inl ⟨rfl, hn, rfl⟩⟩
  · cases hl : lwr (tx s) with
    | true =>
      obtain ⟨e, a, b, c, d⟩ := run_ex (fun k => lwr (tx k)) nb (nb - s) s rfl hs
      have hse : s < e := by
        rcases Nat.lt_or_eq_of_le a with h | h
        · exact h
        · subst h
          rcases d with d | ⟨_, d⟩
          · exact absurd d hn
          · have d : lwr (tx s) = false := d
            rw [hl] at d
            cases d
      exact ⟨e, 0, Or.inr (Or.inl ⟨rfl, hse, b, c, d⟩)⟩
    | false =>
      cases hd : dgt0 (tx s) with
      | true =>
        obtain ⟨e, a, b, c, d⟩ := run_ex (fun k => dgt0 (tx k)) nb (nb - s) s rfl hs
        have hse : s < e := by
          rcases Nat.lt_or_eq_of_le a with h | h
          · exact h
          · subst h
            rcases d with d | ⟨_, d⟩
            · exact absurd d hn
            · have d : dgt0 (tx s) = false := d
              rw [hd] at d
              cases d
        exact ⟨e, 1, Or.inr (Or.inr (Or.inl ⟨rfl, hse, b, hl, c, d⟩))⟩
      | false => exact ⟨s + 1, 2, Or.inr (Or.inr (Or.inr ⟨rfl, by omega, rfl, hl, hd⟩))⟩
/-! the reader's next token -/
section XT
variable {nb : Nat} {tx : Nat → Nat}
theorem X3_let {N : Mem} (hn : nb ≤ 800) (h2 : N 1 2 = nI nb) (ht : ∀ k, k < nb → N 2 k = nI (tx k) ∧ tx k < 256) {p e : Nat} (hp : p ≤ e) (he : e ≤ nb) (hr : ∀ k, p ≤ k → k < e → lwr (tx k) = true) (hx : e = nb ∨ (e < nb ∧ lwr (tx e) = false)) : lp (fun _ _ => none) f_X3_nextToken_35 FU (nI p) N = f_X3_nextToken_71 (nI e) N := by
  refine lp_run (z := fun _ _ => none) (b := f_X3_nextToken_35) (fun k r => r (nI k) N = f_X3_nextToken_71 (nI e) N) hp (fun r => ?_) (fun k r h1 h3 ih => ?_) (by rw [FU_eq]; omega)
  · unfold f_X3_nextToken_35
    rcases hx with rfl | ⟨hlt, hf⟩
    · rw [h2, if_pos (le_self_nI e)]
    · obtain ⟨t1, t2⟩ := ht e hlt
      rw [h2, if_neg (not_le_nI hlt (by omega)), ev_chk (inB_nI (show e < 800 by omega) (by decide)), ix_nI (by omega), t1]
      rcases lwr_f.mp hf with q | q
      · rw [if_pos (show nI (tx e) < (97 : Int32) from (nI_ltI (b := 97) (by omega) (by decide)).mpr q)]
      · rw [if_neg (show ¬ nI (tx e) < (97 : Int32) from nI_nlt (b := 97) (by omega) (by omega)), ev_chk (inB_nI (show e < 800 by omega) (by decide)), if_pos (show (122 : Int32) < nI (tx e) from (nI_ltI (a := 122) (by decide) (by omega)).mpr q)]
  · obtain ⟨t1, t2⟩ := ht k (by omega)
    obtain ⟨q1, q2⟩ := lwr_t.mp (hr k h1 h3)
    unfold f_X3_nextToken_35
    rw [h2, if_neg (not_le_nI (show k < nb by omega) (by omega)), ev_chk (inB_nI (show k < 800 by omega) (by decide)), ix_nI (by omega), t1, if_neg (show ¬ nI (tx k) < (97 : Int32) from nI_nlt (b := 97) q1 (by omega)), ev_chk (inB_nI (show k < 800 by omega) (by decide)), if_neg (show ¬ (122 : Int32) < nI (tx k) from nI_nlt (a := 122) q2 (by decide)), ← nI_succ]
    exact ih
theorem X3_dig {N : Mem} (hn : nb ≤ 800) (h2 : N 1 2 = nI nb) (ht : ∀ k, k < nb → N 2 k = nI (tx k) ∧ tx k < 256) {p e : Nat} (hp : p ≤ e) (he : e ≤ nb) (hr : ∀ k, p ≤ k → k < e → dgt0 (tx k) = true) (hx : e = nb ∨ (e < nb ∧ dgt0 (tx e) = false)) : lp (fun _ _ => none) f_X3_nextToken_79 FU (nI p) N = f_X3_nextToken_115 (nI e) N := by
  refine lp_run (z := fun _ _ => none) (b := f_X3_nextToken_79) (fun k r => r (nI k) N = f_X3_nextToken_115 (nI e) N) hp (fun r => ?_) (fun k r h1 h3 ih => ?_) (by rw [FU_eq]; omega)
  · unfold f_X3_nextToken_79
    rcases hx with rfl | ⟨hlt, hf⟩
    · rw [h2, if_pos (le_self_nI e)]
    · obtain ⟨t1, t2⟩ := ht e hlt
      rw [h2, if_neg (not_le_nI hlt (by omega)), ev_chk (inB_nI (show e < 800 by omega) (by decide)), ix_nI (by omega), t1]
      rcases dgt0_f.mp hf with q | q
      · rw [if_pos (show nI (tx e) < (48 : Int32) from (nI_ltI (b := 48) (by omega) (by decide)).mpr q)]
      · rw [if_neg (show ¬ nI (tx e) < (48 : Int32) from nI_nlt (b := 48) (by omega) (by omega)), ev_chk (inB_nI (show e < 800 by omega) (by decide)), if_pos (show (57 : Int32) < nI (tx e) from (nI_ltI (a := 57) (by decide) (by omega)).mpr q)]
  · obtain ⟨t1, t2⟩ := ht k (by omega)
    obtain ⟨q1, q2⟩ := dgt0_t.mp (hr k h1 h3)
    unfold f_X3_nextToken_79
    rw [h2, if_neg (not_le_nI (show k < nb by omega) (by omega)), ev_chk (inB_nI (show k < 800 by omega) (by decide)), ix_nI (by omega), t1, if_neg (show ¬ nI (tx k) < (48 : Int32) from nI_nlt (b := 48) q1 (by omega)), ev_chk (inB_nI (show k < 800 by omega) (by decide)), if_neg (show ¬ (57 : Int32) < nI (tx k) from nI_nlt (a := 57) q2 (by decide)), ← nI_succ]
    exact ih
theorem X3_tok {A : Mem} (hn : nb ≤ 800) (h2 : A 1 2 = nI nb) (ht : ∀ k, k < nb → A 2 k = nI (tx k) ∧ tx k < 256) {p s e kd : Nat} (h6 : A 1 6 = nI p) (hp : p ≤ s) (hr : ∀ k, p ≤ k → k < s → tx k = 32) (hx : s = nb ∨ (s < nb ∧ ¬ tx s = 32)) (hg : Sg nb tx s e kd) : f_X3_nextToken A = some (mput (mput A 1 5 (nI s)) 1 6 (nI e)) := by
  have hle := hg.le
  have hN2 : (mput A 1 5 (nI s)) 1 2 = nI nb := by rw [mput_col (by decide)]; exact h2
  have hNt : ∀ k, k < nb → (mput A 1 5 (nI s)) 2 k = nI (tx k) ∧ tx k < 256 := fun k hk => by rw [mput_row (by decide)]; exact ht k hk
  have e1 : f_X3_nextToken A = f_X3_nextToken_30 (nI s) A := by
    unfold f_X3_nextToken
    rw [h6]
    refine lp_run (z := fun _ _ => none) (b := f_X3_nextToken_5) (fun k r => r (nI k) A = f_X3_nextToken_30 (nI s) A) hp (fun r => ?_) (fun k r h1 h3 ih => ?_) (by rw [FU_eq]; omega)
    · unfold f_X3_nextToken_5
      rcases hx with rfl | ⟨hlt, hf⟩
      · rw [h2, if_pos (le_self_nI s)]
      · obtain ⟨t1, t2⟩ := ht s hlt
        rw [h2, if_neg (not_le_nI hlt (by omega)), ev_chk (inB_nI (show s < 800 by omega) (by decide)), ix_nI (by omega), t1, if_neg (show ¬ nI (tx s) = (32 : Int32) from fun q => hf (nI_inj (b := 32) (by omega) (by decide) q))]
    · obtain ⟨t1, t2⟩ := ht k (by omega)
      unfold f_X3_nextToken_5
      rw [h2, if_neg (not_le_nI (show k < nb by omega) (by omega)), ev_chk (inB_nI (show k < 800 by omega) (by decide)), ix_nI (by omega), t1, hr k h1 h3, if_pos (show nI 32 = (32 : Int32) from rfl), ← nI_succ]
      exact ih
  have e134 : ∀ (z : Nat) (N : Mem), f_X3_nextToken_134 (nI z) N = some (mput N 1 6 (nI z)) := fun z N => rfl
  have ne : ∀ z : Nat, z ≤ nb → ¬ z = s → ¬ nI z = nI s := fun z hz h q => h (nI_inj (by omega) (by omega) q)
  rw [e1]
  unfold f_X3_nextToken_30
  rw [letM_eq]
  rcases hg with ⟨-, g1, g2⟩ | ⟨-, g1, g2, g3, g4⟩ | ⟨-, g1, g2, g3, g4, g5⟩ | ⟨-, g1, g2, g3, g4⟩
  · rw [X3_let hn hN2 hNt (Nat.le_refl s) (by omega) (fun k a b => absurd b (by omega)) (Or.inl g1)]
    unfold f_X3_nextToken_71
    rw [mput_at, if_pos rfl, X3_dig hn hN2 hNt (Nat.le_refl s) (by omega) (fun k a b => absurd b (by omega)) (Or.inl g1)]
    unfold f_X3_nextToken_115
    rw [mput_at, if_pos rfl, hN2, g1, if_pos (le_self_nI nb), g2, e134]
  · rw [X3_let hn hN2 hNt (by omega) g2 g3 g4]
    unfold f_X3_nextToken_71 f_X3_nextToken_115
    rw [mput_at, if_neg (ne e g2 (by omega)), if_neg (ne e g2 (by omega)), e134]
  · rw [X3_let hn hN2 hNt (Nat.le_refl s) (by omega) (fun k a b => absurd b (by omega)) (Or.inr ⟨by omega, g3⟩)]
    unfold f_X3_nextToken_71
    rw [mput_at, if_pos rfl, X3_dig hn hN2 hNt (by omega) g2 g4 g5]
    unfold f_X3_nextToken_115
    rw [mput_at, if_neg (ne e g2 (by omega)), e134]
  · rw [X3_let hn hN2 hNt (Nat.le_refl s) (by omega) (fun k a b => absurd b (by omega)) (Or.inr ⟨g1, g3⟩)]
    unfold f_X3_nextToken_71
    rw [mput_at, if_pos rfl, X3_dig hn hN2 hNt (Nat.le_refl s) (by omega) (fun k a b => absurd b (by omega)) (Or.inr ⟨g1, g4⟩)]
    unfold f_X3_nextToken_115
    rw [mput_at, if_pos rfl, hN2, if_neg (not_le_nI g1 (by omega)), ← nI_succ, g2, e134]
/-! the reference's next token -/
theorem X6_look_in {N : Mem} (hn : nb ≤ 800) (h10 : N 9 10 = nI nb) (ht : ∀ k, k < nb → N 16 k = nI (tx k) ∧ tx k < 256) {k : Nat} (hk : k < nb) : f_X6_look (nI k) N = some (nI (tx k)) := by
  unfold f_X6_look
  rw [h10, if_neg (not_le_nI hk (by omega)), ev_chk (inB_nI (show k < 800 by omega) (by decide)), ix_nI (by omega), (ht k hk).1]
theorem X6_look_end {N : Mem} (h10 : N 9 10 = nI nb) : f_X6_look (nI nb) N = some (-1) := by
  unfold f_X6_look
  rw [h10, if_pos (le_self_nI nb)]
theorem X6_isLetter_in {N : Mem} (hn : nb ≤ 800) (h10 : N 9 10 = nI nb) (ht : ∀ k, k < nb → N 16 k = nI (tx k) ∧ tx k < 256) {k : Nat} (hk : k < nb) : f_X6_isLetter (nI k) N = some (b2 (lwr (tx k))) := by
  unfold f_X6_isLetter
  rw [ev_bnd (X6_look_in hn h10 ht hk), X6_isIn, inR_L (ht k hk).2, bnd_some]
theorem X6_isLetter_end {N : Mem} (h10 : N 9 10 = nI nb) : f_X6_isLetter (nI nb) N = some 0 := by
  unfold f_X6_isLetter
  rw [ev_bnd (X6_look_end h10), X6_isIn, show inR (-1) 97 122 = false from by decide]
  rfl
theorem X6_isDigit_in {N : Mem} (hn : nb ≤ 800) (h10 : N 9 10 = nI nb) (ht : ∀ k, k < nb → N 16 k = nI (tx k) ∧ tx k < 256) {k : Nat} (hk : k < nb) : f_X6_isDigit (nI k) N = some (b2 (dgt0 (tx k))) := by
  unfold f_X6_isDigit
  rw [ev_bnd (X6_look_in hn h10 ht hk), X6_isIn, inR_D (ht k hk).2, bnd_some]
theorem X6_isDigit_end {N : Mem} (h10 : N 9 10 = nI nb) : f_X6_isDigit (nI nb) N = some 0 := by
  unfold f_X6_isDigit
  rw [ev_bnd (X6_look_end h10), X6_isIn, show inR (-1) 48 57 = false from by decide]
  rfl
theorem X6_run_L {e : Nat} (hn : nb ≤ 800) {s : Nat} (hs : s ≤ e) (he : e ≤ nb) (hr : ∀ k, s ≤ k → k < e → lwr (tx k) = true) (hx : e = nb ∨ (e < nb ∧ lwr (tx e) = false)) {N : Mem} (h10 : N 9 10 = nI nb) (ht : ∀ k, k < nb → N 16 k = nI (tx k) ∧ tx k < 256) (h12 : N 9 12 = nI s) : ∃ B, lp (fun _ => none) f_X6_next_77 FU N = some B ∧ B 9 12 = nI e ∧ B 9 13 = 0 ∧ (∀ c, c ≠ 12 → c ≠ 13 → B 9 c = N 9 c) ∧ ∀ x, x ≠ 9 → B x = N x := by
  refine lp_run (z := fun _ => none) (b := f_X6_next_77) (fun k r => ∀ N : Mem, N 9 10 = nI nb → (∀ k, k < nb → N 16 k = nI (tx k) ∧ tx k < 256) → N 9 12 = nI k → ∃ B, r N = some B ∧ B 9 12 = nI e ∧ B 9 13 = 0 ∧ (∀ c, c ≠ 12 → c ≠ 13 → B 9 c = N 9 c) ∧ ∀ x, x ≠ 9 → B x = N x) hs (fun r N h10 ht h12 => ?_) (fun k r h1 h3 ih N h10 ht h12 => ?_) (by rw [FU_eq]; omega) N h10 ht h12
  · have hz : f_X6_isLetter (nI e) N = some 0 := by
      rcases hx with rfl | ⟨hlt, hf⟩
      · exact X6_isLetter_end h10
      · rw [X6_isLetter_in hn h10 ht hlt, hf]
        rfl
    refine ⟨mput N 9 13 0, ?_, by rw [mput_col (by decide)]; exact h12, mput_at, fun c _ h13 => mput_col h13, fun x hx => mput_row hx⟩
    unfold f_X6_next_77
    rw [h12, hz]
    rfl
  · obtain ⟨B, g1, g2, g3, g4, g5⟩ := ih (mput N 9 12 (nI (k + 1))) (by rw [mput_col (by decide)]; exact h10) (fun k hk => by rw [mput_row (by decide)]; exact ht k hk) mput_at
    refine ⟨B, ?_, g2, g3, fun c h12 h13 => by rw [g4 c h12 h13, mput_col h12], fun x hx => by rw [g5 x hx, mput_row hx]⟩
    unfold f_X6_next_77
    rw [h12, X6_isLetter_in hn h10 ht (show k < nb by omega), hr k h1 h3, bnd_some, if_neg (by decide), letM_eq, ← nI_succ]
    exact g1
theorem cap_step {a b : Nat} : min 10000 (10 * min 10000 a + b) = min 10000 (10 * a + b) := by omega
theorem X6_run_D {e : Nat} (hn : nb ≤ 800) {s : Nat} (hs : s ≤ e) (he : e ≤ nb) (hr : ∀ k, s ≤ k → k < e → dgt0 (tx k) = true) (hx : e = nb ∨ (e < nb ∧ dgt0 (tx e) = false)) {N : Mem} (h10 : N 9 10 = nI nb) (ht : ∀ k, k < nb → N 16 k = nI (tx k) ∧ tx k < 256) (h12 : N 9 12 = nI s) (h14 : N 9 14 = 0) : ∃ B, lp (fun _ => none) f_X6_next_120 FU N = some B ∧ B 9 12 = nI e ∧ B 9 13 = 1 ∧ B 9 14 = nI (min 10000 (dv tx s (e - s))) ∧ (∀ c, c ≠ 12 → c ≠ 13 → c ≠ 14 → B 9 c = N 9 c) ∧ ∀ x, x ≠ 9 → B x = N x := by
  refine lp_run (z := fun _ => none) (b := f_X6_next_120) (fun k r => ∀ N : Mem, N 9 10 = nI nb → (∀ k, k < nb → N 16 k = nI (tx k) ∧ tx k < 256) → N 9 12 = nI k → N 9 14 = nI (min 10000 (dv tx s (k - s))) → ∃ B, r N = some B ∧ B 9 12 = nI e ∧ B 9 13 = 1 ∧ B 9 14 = nI (min 10000 (dv tx s (e - s))) ∧ (∀ c, c ≠ 12 → c ≠ 13 → c ≠ 14 → B 9 c = N 9 c) ∧ ∀ x, x ≠ 9 → B x = N x) hs (fun r N h10 ht h12 h14 => ?_) (fun k r h1 h3 ih N h10 ht h12 h14 => ?_) (by rw [FU_eq]; omega) N h10 ht h12 (by rw [h14, Nat.sub_self]; rfl)
  · have hz : f_X6_isDigit (nI e) N = some 0 := by
      rcases hx with rfl | ⟨hlt, hf⟩
      · exact X6_isDigit_end h10
      · rw [X6_isDigit_in hn h10 ht hlt, hf]
        rfl
    refine ⟨mput N 9 13 1, ?_, by rw [mput_col (by decide)]; exact h12, mput_at, by rw [mput_col (by decide)]; exact h14, fun c _ h13 _ => mput_col h13, fun x hx => mput_row hx⟩
    unfold f_X6_next_120
    rw [h12, hz]
    rfl
  · obtain ⟨t1, t2⟩ := ht k (by omega)
    obtain ⟨q1, q2⟩ := dgt0_t.mp (hr k h1 h3)
    have ev : imin 10000 (10 * nI (min 10000 (dv tx s (k - s))) + nI (tx k) - 48) = nI (min 10000 (dv tx s (k + 1 - s))) := by
      rw [show (10 : Int32) = nI 10 from rfl, nI_mul, nI_add, show (48 : Int32) = nI 48 from rfl, nI_sub (by omega), show (10000 : Int32) = nI 10000 from rfl, imin_nI (by decide) (by omega), show k + 1 - s = (k - s) + 1 by omega]
      congr 1
      show _ = min 10000 (10 * dv tx s (k - s) + (tx (s + (k - s)) - 48))
      rw [show s + (k - s) = k by omega, ← cap_step (a := dv tx s (k - s))]
      congr 1
      omega
    obtain ⟨B, g1, g2, g3, g4, g5, g6⟩ := ih (mput (mput N 9 14 (nI (min 10000 (dv tx s (k + 1 - s))))) 9 12 (nI (k + 1))) (by rw [mput_col (by decide), mput_col (by decide)]; exact h10) (fun k hk => by rw [mput_row (by decide), mput_row (by decide)]; exact ht k hk) mput_at (by rw [mput_col (by decide), mput_at])
    refine ⟨B, ?_, g2, g3, g4, fun c h12 h13 h14 => by rw [g5 c h12 h13 h14, mput_col h12, mput_col h14], fun x hx => by rw [g6 x hx, mput_row hx, mput_row hx]⟩
    unfold f_X6_next_120
    rw [h12, X6_isDigit_in hn h10 ht (show k < nb by omega), hr k h1 h3, bnd_some, if_neg (by decide), X6_look_in hn h10 ht (show k < nb by omega), bnd_some, letM_eq, h14, ev, letM_eq, mput_col (by decide), h12, ← nI_succ]
    exact g1
/-- what the next token comes to on the reference's row -/
def NS (tx : Nat → Nat) (s e kd : Nat) (N B : Mem) : Prop := B 9 11 = nI s ∧ B 9 12 = nI e ∧ B 9 13 = nI kd ∧ (kd = 1 → B 9 14 = nI (min 10000 (dv tx s (e - s)))) ∧ (∀ c, (c < 11 ∨ 14 < c) → B 9 c = N 9 c) ∧ ∀ x, x ≠ 9 → B x = N x
theorem NS.via {s e kd : Nat} {N N1 B : Mem} (h : NS tx s e kd N1 B) (h9 : ∀ c, (c < 11 ∨ 14 < c) → N1 9 c = N 9 c) (hx : ∀ x, x ≠ 9 → N1 x = N x) : NS tx s e kd N B :=
  ⟨h.1, h.2.1, h.2.2.1, h.2.2.2.1, fun c hc => (h.2.2.2.2.1 c hc).trans (h9 c hc), fun x h9 => (h.2.2.2.2.2 x h9).trans (hx x h9)⟩
theorem X6_tok {B : Mem} (hn : nb ≤ 800) (h10 : B 9 10 = nI nb) (ht : ∀ k, k < nb → B 16 k = nI (tx k) ∧ tx k < 256) {p s e kd : Nat} (h12 : B 9 12 = nI p) (hp : p ≤ s) (hr : ∀ k, p ≤ k → k < s → tx k = 32) (hx : s = nb ∨ (s < nb ∧ ¬ tx s = 32)) (hg : Sg nb tx s e kd) : ∃ B1, f_X6_next B = some B1 ∧ NS tx s e kd B B1 := by
  have hle := hg.le
  unfold f_X6_next
  rw [letM_eq, h12]
  have key := lp_run (z := fun _ => none) (b := f_X6_next_8) (fun k r => ∀ N : Mem, N 9 10 = nI nb → (∀ k, k < nb → N 16 k = nI (tx k) ∧ tx k < 256) → N 9 11 = nI k → ∃ B1, r N = some B1 ∧ NS tx s e kd N B1) hp (f := FU) (fun r N h10 ht h11 => ?_) (fun k r h1 h3 ih N h10 ht h11 => ?_) (by rw [FU_eq]; omega) (mput B 9 11 (nI p)) (by rw [mput_col (by decide)]; exact h10) (fun k hk => by rw [mput_row (by decide)]; exact ht k hk) mput_at
  · obtain ⟨B1, e1, e2⟩ := key
    exact ⟨B1, e1, e2.via (fun c hc => mput_col (by omega)) (fun x h => mput_row h)⟩
  · have hlk : ∃ y, f_X6_look (nI s) N = some y ∧ ¬ y = 32 := by
      rcases hx with rfl | ⟨hlt, hf⟩
      · exact ⟨_, X6_look_end h10, by decide⟩
      · exact ⟨_, X6_look_in hn h10 ht hlt, fun q => hf (nI_inj (b := 32) (by have := (ht s hlt).2; omega) (by decide) q)⟩
    obtain ⟨y, hy1, hy2⟩ := hlk
    unfold f_X6_next_8
    rw [h11, hy1, bnd_some, if_neg hy2, letM_eq, letM_eq]
    generalize hM : mput (mput N 9 12 (nI s)) 9 14 0 = M
    have m10 : M 9 10 = nI nb := by rw [← hM, mput_col (by decide), mput_col (by decide)]; exact h10
    have m11 : M 9 11 = nI s := by rw [← hM, mput_col (by decide), mput_col (by decide)]; exact h11
    have m12 : M 9 12 = nI s := by rw [← hM, mput_col (by decide), mput_at]
    have m14 : M 9 14 = 0 := by rw [← hM, mput_at]
    have mt : ∀ k, k < nb → M 16 k = nI (tx k) ∧ tx k < 256 := fun k hk => by rw [← hM, mput_row (by decide), mput_row (by decide)]; exact ht k hk
    have m9 : ∀ c, (c < 11 ∨ 14 < c) → M 9 c = N 9 c := fun c hc => by rw [← hM, mput_col (by omega), mput_col (by omega)]
    have mx : ∀ x, x ≠ 9 → M x = N x := fun x h => by rw [← hM, mput_row h, mput_row h]
    rw [m11, m10]
    rcases hg with ⟨rfl, g1, g2⟩ | ⟨rfl, g1, g2, g3, g4⟩ | ⟨rfl, g1, g2, g3, g4, g5⟩ | ⟨rfl, g1, g2, g3, g4⟩
    · rw [if_neg (show ¬ nI s < nI nb from nI_nlt (by omega) (by omega)), letM_eq]
      refine ⟨_, rfl, NS.via (N1 := M) ⟨by rw [mput_col (by decide)]; exact m11, by rw [mput_col (by decide), m12, g1, g2], mput_at, fun h => absurd h (by decide), fun c hc => mput_col (by omega), fun x h => mput_row h⟩ m9 mx⟩
    · obtain ⟨B1, b1, b2', b3, b4, b5⟩ := X6_run_L hn (show s ≤ e by omega) g2 g3 g4 m10 mt m12
      rw [if_pos ((nI_ltI (by omega) (by omega)).mpr (show s < nb by omega)), X6_isLetter_in hn m10 mt (show s < nb by omega), g3 s (by omega) g1, bnd_some, if_neg (by decide)]
      exact ⟨B1, b1, NS.via (N1 := M) ⟨by rw [b4 11 (by decide) (by decide)]; exact m11, b2', b3, fun h => absurd h (by decide), fun c hc => b4 c (by omega) (by omega), b5⟩ m9 mx⟩
    · obtain ⟨B1, b1, b2', b3, b4, b5, b6⟩ := X6_run_D hn (show s ≤ e by omega) g2 g4 g5 m10 mt m12 m14
      rw [if_pos ((nI_ltI (by omega) (by omega)).mpr (show s < nb by omega)), X6_isLetter_in hn m10 mt (show s < nb by omega), g3, bnd_some, if_pos b2_f, X6_isDigit_in hn m10 mt (show s < nb by omega), g4 s (by omega) g1, bnd_some, if_neg (by decide)]
      exact ⟨B1, b1, NS.via (N1 := M) ⟨by rw [b5 11 (by decide) (by decide) (by decide)]; exact m11, b2', b3, fun _ => b4, fun c hc => b5 c (by omega) (by omega) (by omega), b6⟩ m9 mx⟩
    · rw [if_pos ((nI_ltI (by omega) (by omega)).mpr g1), X6_isLetter_in hn m10 mt g1, g3, bnd_some, if_pos b2_f, X6_isDigit_in hn m10 mt g1, g4, bnd_some, if_pos b2_f, letM_eq, letM_eq, m12, ← nI_succ]
      refine ⟨_, rfl, NS.via (N1 := M) ⟨by rw [mput_col (by decide), mput_col (by decide)]; exact m11, by rw [mput_col (by decide), mput_at, g2], mput_at, fun h => absurd h (by decide), fun c hc => by rw [mput_col (by omega), mput_col (by omega)], fun x h => by rw [mput_row h, mput_row h]⟩ m9 mx⟩
  · obtain ⟨t1, t2⟩ := ht k (by omega)
    obtain ⟨B1, g1, g2⟩ := ih (mput N 9 11 (nI (k + 1))) (by rw [mput_col (by decide)]; exact h10) (fun k hk => by rw [mput_row (by decide)]; exact ht k hk) mput_at
    refine ⟨B1, ?_, g2.via (fun c hc => mput_col (by omega)) (fun x h => mput_row h)⟩
    unfold f_X6_next_8
    rw [h11, X6_look_in hn h10 ht (show k < nb by omega), hr k h1 h3, bnd_some, if_pos (show nI 32 = (32 : Int32) from rfl), letM_eq, ← nI_succ]
    exact g1
end XT
