/-! LOAD: both readers stand at one token -/
def TX (A0 B0 : Mem) (nb : Nat) (tx : Nat → Nat) : Prop := nb ≤ 800 ∧ A0 1 2 = nI nb ∧ B0 9 10 = nI nb ∧ ∀ k, k < nb → A0 2 k = nI (tx k) ∧ B0 16 k = nI (tx k) ∧ tx k < 256
def FrA (A0 A : Mem) : Prop := (∀ x, x ≠ 1 → ¬ (31 ≤ x ∧ x < 44) → A x = A0 x) ∧ ∀ c, (c < 3 ∨ 6 < c) → A 1 c = A0 1 c
def FrB (B0 B : Mem) : Prop := (∀ x, x ≠ 9 → x ≠ 10 → B x = B0 x) ∧ ∀ c, (c < 11 ∨ c = 17 ∨ 18 < c) → B 9 c = B0 9 c
def okB (B : Mem) : Prop := ∃ m n t, VV (B 10) m n t
def PT (A0 B0 : Mem) (nb : Nat) (A B : Mem) (e : Nat) : Prop := FrA A0 A ∧ FrB B0 B ∧ okB B ∧ A 1 4 = -1 ∧ A 1 6 = nI e ∧ B 9 12 = nI e ∧ e ≤ nb ∧ B 9 15 = 0
def TS (A0 B0 : Mem) (nb : Nat) (tx : Nat → Nat) (A B : Mem) (s e : Nat) : Prop := PT A0 B0 nb A B e ∧ A 1 5 = nI s ∧ B 9 11 = nI s ∧ ∃ kd, Sg nb tx s e kd ∧ B 9 13 = nI kd ∧ (kd = 1 → B 9 14 = nI (min 10000 (dv tx s (e - s))))
def ER (A0 B0 A B : Mem) : Prop := FrA A0 A ∧ FrB B0 B ∧ okB B ∧ B 9 15 = A 1 3 ∧ ¬ B 9 15 = 0 ∧ B 9 16 = A 1 4
def RA (A A' : Mem) : Prop := ∀ x, x ≠ 1 → A' x = A x
def RB (B B' : Mem) : Prop := ∀ x, x ≠ 9 → B' x = B x
theorem RA.refl (A : Mem) : RA A A := fun _ _ => rfl
theorem RB.refl (B : Mem) : RB B B := fun _ _ => rfl
theorem RA.trans {A A' A'' : Mem} (h : RA A A') (h' : RA A' A'') : RA A A'' := fun x hx => (h' x hx).trans (h x hx)
theorem RB.trans {B B' B'' : Mem} (h : RB B B') (h' : RB B' B'') : RB B B'' := fun x hx => (h' x hx).trans (h x hx)
theorem okB.of {B B' : Mem} (h : okB B) (e : B' 10 = B 10) : okB B' := by
  unfold okB
  rw [e]
  exact h
section ST
variable {A0 B0 A B : Mem} {nb : Nat} {tx : Nat → Nat} {s e : Nat}
theorem PT.n2 (hT : TX A0 B0 nb tx) (h : PT A0 B0 nb A B e) : A 1 2 = nI nb := (h.1.2 2 (by omega)).trans hT.2.1
theorem PT.n10 (hT : TX A0 B0 nb tx) (h : PT A0 B0 nb A B e) : B 9 10 = nI nb := (h.2.1.2 10 (by omega)).trans hT.2.2.1
theorem PT.tA (hT : TX A0 B0 nb tx) (h : PT A0 B0 nb A B e) : ∀ k, k < nb → A 2 k = nI (tx k) ∧ tx k < 256 := fun k hk => by
  rw [h.1.1 2 (by decide) (by decide)]
  exact ⟨(hT.2.2.2 k hk).1, (hT.2.2.2 k hk).2.2⟩
theorem PT.tB (hT : TX A0 B0 nb tx) (h : PT A0 B0 nb A B e) : ∀ k, k < nb → B 16 k = nI (tx k) ∧ tx k < 256 := fun k hk => by
  rw [h.2.1.1 16 (by decide) (by decide)]
  exact ⟨(hT.2.2.2 k hk).2.1, (hT.2.2.2 k hk).2.2⟩
theorem TS.le (h : TS A0 B0 nb tx A B s e) : s ≤ e ∧ e ≤ nb ∧ (s < nb → s < e) := by
  obtain ⟨kd, g, -⟩ := h.2.2.2
  exact g.le
theorem TS.w0 (h : TS A0 B0 nb tx A B s e) : B 9 15 = 0 := h.1.2.2.2.2.2.2.2
theorem TS.a4 (h : TS A0 B0 nb tx A B s e) : A 1 4 = -1 := h.1.2.2.2.1
theorem TS.ok (h : TS A0 B0 nb tx A B s e) : okB B := h.1.2.2.1
theorem TS.put {A' B' : Mem} (h : TS A0 B0 nb tx A B s e) (hA : ∀ x, ¬ (31 ≤ x ∧ x < 44) → A' x = A x) (hB : ∀ x, x ≠ 10 → B' x = B x) (hok : okB B') : TS A0 B0 nb tx A' B' s e := by
  obtain ⟨⟨h1, h2, h3, h4, h5, h6, h7, h8⟩, h9, h10, h11⟩ := h
  have a1 : A' 1 = A 1 := hA 1 (by decide)
  have b9 : B' 9 = B 9 := hB 9 (by decide)
  refine ⟨⟨⟨fun x hx hx2 => (hA x hx2).trans (h1.1 x hx hx2), fun c hc => by rw [a1]; exact h1.2 c hc⟩, ⟨fun x hx hx2 => (hB x hx2).trans (h2.1 x hx hx2), fun c hc => by rw [b9]; exact h2.2 c hc⟩, hok, by rw [a1]; exact h4, by rw [a1]; exact h5, by rw [b9]; exact h6, h7, by rw [b9]; exact h8⟩, by rw [a1]; exact h9, by rw [b9]; exact h10, ?_⟩
  rw [b9]
  exact h11
theorem TS.done (h : TS A0 B0 nb tx A B s e) (y : Int32) : TS A0 B0 nb tx A (mput B 9 18 y) s e := by
  obtain ⟨⟨h1, h2, h3, h4, h5, h6, h7, h8⟩, h9, h10, kd, g1, g2, g3⟩ := h
  refine ⟨⟨h1, ⟨fun x hx hx2 => by rw [mput_row hx]; exact h2.1 x hx hx2, fun c hc => by rw [mput_col (by omega)]; exact h2.2 c hc⟩, h3.of (mput_row (by decide)), h4, h5, by rw [mput_col (by decide)]; exact h6, h7, by rw [mput_col (by decide)]; exact h8⟩, h9, by rw [mput_col (by decide)]; exact h10, kd, g1, by rw [mput_col (by decide)]; exact g2, fun hk => by rw [mput_col (by decide)]; exact g3 hk⟩
/-! the next token -/
theorem S_next0 (hT : TX A0 B0 nb tx) (h : PT A0 B0 nb A B e) : ∃ A' B' s' e', f_X3_nextToken A = some A' ∧ f_X6_next B = some B' ∧ TS A0 B0 nb tx A' B' s' e' ∧ e ≤ s' ∧ RA A A' ∧ RB B B' := by
  have n2 := h.n2 hT
  have n10 := h.n10 hT
  have tA := h.tA hT
  have tB := h.tB hT
  obtain ⟨h1, h2, h3, h4, h5, h6, h7, h8⟩ := h
  obtain ⟨s', a, b, c, d⟩ := run_ex (fun k => decide (tx k = 32)) nb (nb - e) e rfl h7
  obtain ⟨e', kd, hg⟩ := Sg_ex nb tx b
  have hr : ∀ k, e ≤ k → k < s' → tx k = 32 := fun k h1 h2 => of_decide_eq_true (c k h1 h2)
  have hx : s' = nb ∨ (s' < nb ∧ ¬ tx s' = 32) := by
    rcases d with d | ⟨d1, d2⟩
    · exact Or.inl d
    · exact Or.inr ⟨d1, of_decide_eq_false d2⟩
  have eA := X3_tok hT.1 n2 tA h5 a hr hx hg
  obtain ⟨B', eB, g1, g2, g3, g4, g5, g6⟩ := X6_tok hT.1 n10 tB h6 a hr hx hg
  refine ⟨_, B', s', e', eA, eB, ⟨⟨⟨fun x hx hx2 => by rw [mput_row hx, mput_row hx]; exact h1.1 x hx hx2, fun c hc => by rw [mput_col (by omega), mput_col (by omega)]; exact h1.2 c hc⟩, ⟨fun x hx hx2 => (g6 x hx).trans (h2.1 x hx hx2), fun c hc => ?_⟩, h3.of (g6 10 (by decide)), by rw [mput_col (by decide), mput_col (by decide)]; exact h4, mput_at, g2, hg.le.2.1, by rw [g5 15 (by decide)]; exact h8⟩, by rw [mput_col (by decide), mput_at], g1, kd, hg, g3, g4⟩, a, fun x hx => by rw [mput_row hx, mput_row hx], g6⟩
  rw [g5 c (by omega)]
  exact h2.2 c hc
theorem S_next (hT : TX A0 B0 nb tx) (h : TS A0 B0 nb tx A B s e) : ∃ A' B' s' e', f_X3_nextToken A = some A' ∧ f_X6_next B = some B' ∧ TS A0 B0 nb tx A' B' s' e' ∧ e ≤ s' ∧ RA A A' ∧ RB B B' := S_next0 hT h.1
theorem X6_must_1 (h : B 9 15 = 0) {B' : Mem} (e : f_X6_next B = some B') : f_X6_must 1 B = some B' := by
  unfold f_X6_must f_X6_must_10
  rw [if_neg (by decide), if_pos h, ev_bnd e]
/-! an error -/
theorem S_fail (h : TS A0 B0 nb tx A B s e) {c : Int32} (hc : ¬ c = 0) : ∃ A' B', f_X3_fail c A = some (0, A') ∧ f_X6_errs c B = some B' ∧ ER A0 B0 A' B' ∧ RA A A' ∧ RB B B' := by
  obtain ⟨⟨h1, h2, h3, h4, h5, h6, h7, h8⟩, h9, h10, h11⟩ := h
  refine ⟨mput (mput A 1 3 c) 1 4 (nI s), mput (mput B 9 15 c) 9 16 (nI s), ?_, ?_, ⟨⟨fun x hx hx2 => by rw [mput_row hx, mput_row hx]; exact h1.1 x hx hx2, fun k hk => by rw [mput_col (by omega), mput_col (by omega)]; exact h1.2 k hk⟩, ⟨fun x hx hx2 => by rw [mput_row hx, mput_row hx]; exact h2.1 x hx hx2, fun k hk => by rw [mput_col (by omega), mput_col (by omega)]; exact h2.2 k hk⟩, h3.of (by rw [mput_row (by decide), mput_row (by decide)]), ?_, ?_, ?_⟩, fun x hx => by rw [mput_row hx, mput_row hx], fun x hx => by rw [mput_row hx, mput_row hx]⟩
  · unfold f_X3_fail
    rw [letM_eq, letM_eq, mput_col (by decide), h9]
  · unfold f_X6_errs
    rw [if_pos h8, letM_eq, letM_eq, mput_col (by decide), h10]
  · rw [mput_col (by decide), mput_at, mput_col (by decide), mput_at]
  · rw [mput_col (by decide), mput_at]
    exact hc
  · rw [mput_at, mput_at]
theorem er_errs (hE : ¬ B 9 15 = 0) (c : Int32) : f_X6_errs c B = some B := by
  unfold f_X6_errs
  rw [if_neg hE]
theorem er_must (hE : ¬ B 9 15 = 0) (p : Int32) : f_X6_must p B = some B := by
  unfold f_X6_must f_X6_must_10
  rw [er_errs hE, bnd_some, if_neg hE]
  exact ite_self _
theorem er_isWord (hE : ¬ B 9 15 = 0) (w : Nat) : f_X6_isWord w B = some 0 := by
  unfold f_X6_isWord
  rw [if_neg hE]
theorem er_isEnd (hE : ¬ B 9 15 = 0) : f_X6_isEnd B = some 0 := by
  unfold f_X6_isEnd
  rw [if_neg hE]
theorem er_takes (hE : ¬ B 9 15 = 0) (p q : Int32) : f_X6_takes p q B = some (B 9 14, B) := by
  unfold f_X6_takes f_X6_takes_21 f_X6_takes_46
  rw [if_neg hE, if_neg hE, er_must hE, bnd_some]
theorem er_name34 (hE : ¬ B 9 15 = 0) : f_X6_nameHere_34 B = some (0, B) := by
  unfold f_X6_nameHere_34
  rw [show FU = 4095 + 1 from rfl, lp_s]
  generalize lp (fun _ _ _ => none) f_X6_nameHere_41 4095 = rr
  unfold f_X6_nameHere_41
  rw [if_neg hE]
  exact ite_self _
theorem er_name (hE : ¬ B 9 15 = 0) : f_X6_nameHere B = some (0, B) := by
  unfold f_X6_nameHere
  rw [if_neg hE, er_name34 hE]
theorem er_mayDo (hE : ¬ B 9 15 = 0) (y : Int32) : f_X6_mayDo y B = some (0, B) := by
  unfold f_X6_mayDo f_X6_mayDo_17
  rw [er_isEnd hE, bnd_some, if_pos rfl, bnd_some, er_must hE, bnd_some, if_neg hE]
theorem er_rank (hE : ¬ B 9 15 = 0) : f_X6_rankHere B = some (-1) := by
  unfold f_X6_rankHere
  rw [er_isWord hE, bnd_some, if_pos rfl, er_isWord hE, bnd_some, if_pos rfl, er_isWord hE, bnd_some, if_pos rfl]
/-! the first byte -/
def fb (nb : Nat) (tx : Nat → Nat) (s : Nat) : Nat := if s < nb then tx s else 0
theorem fb_lt (hT : TX A0 B0 nb tx) (s : Nat) : fb nb tx s < 256 := by
  unfold fb
  split
  · rename_i h
    exact (hT.2.2.2 s h).2.2
  · decide
theorem X3_fb (hT : TX A0 B0 nb tx) (h : TS A0 B0 nb tx A B s e) : f_X3_firstByte A = some (nI (fb nb tx s)) := by
  have hle := h.le
  have hn := hT.1
  unfold f_X3_firstByte fb
  rw [h.1.n2 hT, h.2.1]
  by_cases hs : s < nb
  · rw [if_neg (not_le_nI hs (by omega)), ev_chk (inB_nI (show s < 800 by omega) (by decide)), ix_nI (by omega), (h.1.tA hT s hs).1, if_pos hs]
  · rw [if_pos ((nI_leI (by omega) (by omega)).mpr (show nb ≤ s by omega)), if_neg hs]
    rfl
theorem Sg.kind {kd : Nat} (h : Sg nb tx s e kd) : lwr (fb nb tx s) = decide (kd = 0) ∧ dgt0 (fb nb tx s) = decide (kd = 1) ∧ (kd = 3 ↔ s = nb) ∧ kd ≤ 3 ∧ (kd = 2 → s < nb) ∧ (fb nb tx s = 59 → kd = 2) := by
  unfold fb
  rcases h with ⟨rfl, g1, g2⟩ | ⟨rfl, g1, g2, g3, g4⟩ | ⟨rfl, g1, g2, g3, g4, g5⟩ | ⟨rfl, g1, g2, g3, g4⟩
  · rw [if_neg (show ¬ s < nb by omega)]
    exact ⟨by decide, by decide, ⟨fun _ => g1, fun _ => rfl⟩, by decide, fun h => absurd h (by decide), fun h => absurd h (by decide)⟩
  · rw [if_pos (show s < nb by omega)]
    have q := lwr_t.mp (g3 s (by omega) g1)
    exact ⟨lwr_t.mpr q, dgt0_f.mpr (by omega), ⟨fun h => absurd h (by decide), fun h => absurd h (by omega)⟩, by decide, fun h => absurd h (by decide), fun h => absurd h (by omega)⟩
  · rw [if_pos (show s < nb by omega)]
    have q := dgt0_t.mp (g4 s (by omega) g1)
    exact ⟨g3, dgt0_t.mpr q, ⟨fun h => absurd h (by decide), fun h => absurd h (by omega)⟩, by decide, fun h => absurd h (by decide), fun h => absurd h (by omega)⟩
  · rw [if_pos g1]
    exact ⟨g3, g4, ⟨fun h => absurd h (by decide), fun h => absurd h (by omega)⟩, by decide, fun _ => g1, fun _ => rfl⟩
/-! the semicolon -/
theorem X6_isEnd_ok (hT : TX A0 B0 nb tx) (h : TS A0 B0 nb tx A B s e) : f_X6_isEnd B = some (b2 (decide (fb nb tx s = 59))) := by
  have n10 := h.1.n10 hT
  have tB := h.1.tB hT
  have w0 := h.w0
  obtain ⟨-, -, h10, kd, hg, g2, -⟩ := h
  obtain ⟨k1, k2, k3, k4, k5, k6⟩ := hg.kind
  unfold f_X6_isEnd
  rw [if_pos w0, g2, h10]
  by_cases h2 : kd = 2
  · have hs := k5 h2
    rw [if_pos (show nI kd = (2 : Int32) from by rw [h2]; rfl), X6_look_in hT.1 n10 tB hs, bnd_some]
    have hf : fb nb tx s = tx s := if_pos hs
    rw [hf]
    by_cases h59 : tx s = 59
    · rw [if_pos (show nI (tx s) = (59 : Int32) from by rw [h59]; rfl), decide_eq_true h59]
      rfl
    · rw [if_neg (show ¬ nI (tx s) = (59 : Int32) from fun q => h59 (nI_inj (b := 59) (by have := (tB s hs).2; omega) (by decide) q)), decide_eq_false h59]
      rfl
  · rw [if_neg (show ¬ nI kd = (2 : Int32) from fun q => h2 (nI_inj (b := 2) (by omega) (by decide) q)), decide_eq_false (fun q => h2 (k6 q))]
    rfl
theorem S_sem (hT : TX A0 B0 nb tx) (h : TS A0 B0 nb tx A B s e) : ∃ r, f_X6_isEnd B = some r ∧ ((r = 1 ∧ s < e ∧ ∃ A' B' s' e', f_X3_takeSemicolon A = some (1, A') ∧ f_X6_must r B = some B' ∧ TS A0 B0 nb tx A' B' s' e' ∧ e ≤ s' ∧ RA A A' ∧ RB B B') ∨ (r = 0 ∧ ∃ A' B', f_X3_takeSemicolon A = some (0, A') ∧ f_X6_must r B = some B' ∧ ER A0 B0 A' B' ∧ RA A A' ∧ RB B B')) := by
  refine ⟨_, X6_isEnd_ok hT h, ?_⟩
  have hfb := fb_lt hT s
  by_cases h59 : fb nb tx s = 59
  · left
    have hs : s < nb := by
      unfold fb at h59
      split at h59
      · assumption
      · cases h59
    obtain ⟨A', B', s', e', e1, e2, g1, g2, g3, g4⟩ := S_next hT h
    rw [decide_eq_true h59]
    refine ⟨rfl, h.le.2.2 hs, A', B', s', e', ?_, X6_must_1 h.w0 e2, g1, g2, g3, g4⟩
    unfold f_X3_takeSemicolon
    rw [ev_bnd (X3_fb hT h), h59, if_pos (show nI 59 = (59 : Int32) from rfl), ev_bnd e1]
  · right
    obtain ⟨A', B', e1, e2, g1, g2, g3⟩ := S_fail h (c := -2) (by decide)
    rw [decide_eq_false h59]
    refine ⟨rfl, A', B', ?_, ?_, g1, g2, g3⟩
    · unfold f_X3_takeSemicolon
      rw [ev_bnd (X3_fb hT h), if_neg (show ¬ nI (fb nb tx s) = (59 : Int32) from fun q => h59 (nI_inj (b := 59) (by omega) (by decide) q)), ev_bnd2 e1]
    · unfold f_X6_must f_X6_must_10
      rw [if_pos b2_f, ev_bnd e2, if_neg g1.2.2.2.2.1]
/-! the semicolon behind a deed -/
theorem S_end (hT : TX A0 B0 nb tx) (h : TS A0 B0 nb tx A B s e) {x y : Int32} (hxy : x = 0 ↔ y = 0) : (x = 0 ∧ ∃ A' B' s' e', f_X3_takeEndOfDeed x A = some (1, A') ∧ f_X6_mayDo y B = some (1, B') ∧ TS A0 B0 nb tx A' B' s' e' ∧ e ≤ s' ∧ RA A A' ∧ RB B B') ∨ (∃ A' B', f_X3_takeEndOfDeed x A = some (0, A') ∧ f_X6_mayDo y B = some (0, B') ∧ ER A0 B0 A' B' ∧ RA A A' ∧ RB B B') := by
  have hfb := fb_lt hT s
  obtain ⟨r, hr, hS⟩ := S_sem hT h
  unfold f_X3_takeEndOfDeed f_X3_takeEndOfDeed_20 f_X6_mayDo f_X6_mayDo_17
  rw [ev_bnd (X3_fb hT h), ev_bnd hr, ev_bnd hr]
  have hr2 := hr
  rw [X6_isEnd_ok hT h] at hr2
  have hr2 := Option.some.inj hr2
  by_cases h59 : fb nb tx s = 59
  · rw [decide_eq_true h59] at hr2
    rw [h59, if_pos (show nI 59 = (59 : Int32) from rfl), ← hr2, if_neg (show ¬ b2 true = 0 by decide)]
    by_cases hx : x = 0
    · left
      rcases hS with ⟨q1, q2, A', B', s', e', e1, e2, g1, g2, g3, g4⟩ | ⟨q1, -⟩
      · rw [q1] at e2
        rw [if_pos hx, if_pos (hxy.mp hx), ev_bnd2 e1, show b2 true = (1 : Int32) from rfl, ev_bnd e2, if_pos g1.w0]
        exact ⟨hx, A', B', s', e', rfl, rfl, g1, g2, g3, g4⟩
      · rw [q1] at hr2
        exact absurd hr2 (by decide)
    · right
      obtain ⟨A', B', e1, e2, g1, g2, g3⟩ := S_fail h (c := -7) (by decide)
      have hE := g1.2.2.2.2.1
      rw [if_neg hx, if_neg (fun q => hx (hxy.mpr q)), ev_bnd2 e1, ev_bnd e2, er_isEnd hE, bnd_some, er_must hE, bnd_some, if_neg hE]
      exact ⟨A', B', rfl, rfl, g1, g2, g3⟩
  · rw [decide_eq_false h59] at hr2
    rw [if_neg (show ¬ nI (fb nb tx s) = (59 : Int32) from fun q => h59 (nI_inj (b := 59) (by omega) (by decide) q)), ← hr2, if_pos b2_f]
    right
    rcases hS with ⟨q1, -⟩ | ⟨q1, A', B', e1, e2, g1, g2, g3⟩
    · rw [q1] at hr2
      exact absurd hr2 (by decide)
    · rw [q1] at e2
      rw [ev_bnd2 e1, show b2 false = (0 : Int32) from rfl, ev_bnd e2, if_neg g1.2.2.2.2.1]
      exact ⟨A', B', rfl, rfl, g1, g2, g3⟩
/-! words -/
def wmB (tx : Nat → Nat) (s w : Nat) : Nat → Nat → Bool
  | 0, _ => true
  | d + 1, i => if nI (tx (s + i)) = sCh w i then wmB tx s w d (i + 1) else false
theorem wmB_t {w d i : Nat} (h : nI (tx (s + i)) = sCh w i) : wmB tx s w (d + 1) i = wmB tx s w d (i + 1) := if_pos h
theorem wmB_f {w d i : Nat} (h : ¬ nI (tx (s + i)) = sCh w i) : wmB tx s w (d + 1) i = false := if_neg h
def wdB (tx : Nat → Nat) (s e w : Nat) : Bool := decide (e - s = sLen w) && wmB tx s w (sLen w) 0
theorem word_all : ∀ w : Fin 16, 1 ≤ sLen w.val ∧ sLen w.val ≤ 7 ∧ sLen (w.val + 16) = sLen w.val ∧ (∀ i : Fin 7, sCh (w.val + 16) i.val = sCh w.val i.val) ∧ lwr (ix (sCh w.val 0)) = true ∧ sCh w.val 0 = nI (ix (sCh w.val 0)) ∧ ix (sCh w.val 0) < 256 := by decide +kernel
theorem wdB_s (hT : TX A0 B0 nb tx) (h : TS A0 B0 nb tx A B s e) {w : Nat} (hw : w < 16) (ht : wdB tx s e w = true) : s < nb ∧ lwr (tx s) = true := by
  have hle := h.le
  obtain ⟨l1, l2, l3, l4, l5, l6, l7⟩ := word_all ⟨w, hw⟩
  dsimp only at l1 l2 l3 l4 l5 l6 l7
  unfold wdB at ht
  rw [Bool.and_eq_true, decide_eq_true_eq] at ht
  have hs : s < nb := by omega
  refine ⟨hs, ?_⟩
  have h2 := ht.2
  rw [show sLen w = (sLen w - 1) + 1 by omega] at h2
  by_cases hq : nI (tx (s + 0)) = sCh w 0
  · rw [l6, Nat.add_zero] at hq
    have := nI_inj (by have := (hT.2.2.2 s hs).2.2; omega) (by omega) hq
    rw [show tx s = ix (sCh w 0) from this]
    exact l5
  · rw [wmB_f hq] at h2
    cases h2
theorem X3_word (hT : TX A0 B0 nb tx) (h : TS A0 B0 nb tx A B s e) {w : Nat} (hw : w < 16) : f_X3_isWord w A = some (b2 (wdB tx s e w)) := by
  have hle := h.le
  have hn := hT.1
  have tA := h.1.tA hT
  obtain ⟨l1, l2, l3, l4, l5, l6, l7⟩ := word_all ⟨w, hw⟩
  dsimp only at l1 l2 l3 l4 l5 l6 l7
  unfold f_X3_isWord f_J0_length_8abf5 wdB
  rw [bnd_some, h.1.2.2.2.2.1, h.2.1, nI_sub hle.1]
  by_cases hl : e - s = sLen w
  · rw [if_pos (congrArg nI hl), decide_eq_true hl, Bool.true_and]
    refine lp_dn (z := fun _ => none) (b := f_X3_isWord_20 w A) (fun k r => r (nI k) = some (b2 (wmB tx s w (sLen w - k) k))) (sLen w) (fun r => ?_) (fun k r hk ih => ?_) 0 FU (by omega) (by rw [FU_eq]; omega)
    · unfold f_X3_isWord_20 f_J0_length_8abf5
      rw [bnd_some, if_pos (le_self_nI _), Nat.sub_self]
      rfl
    · unfold f_X3_isWord_20 f_J0_length_8abf5 f_J0_charAt_5068e
      rw [bnd_some, if_neg (not_le_nI hk (by omega)), h.2.1, nI_add, ev_chk (inB_nI (show s + k < 800 by omega) (by decide)), ev_chk (inB_nI hk (by omega)), bnd_some, ix_nI (by omega), ix_nI (by omega), (tA (s + k) (by omega)).1, ← nI_succ, ih, show sLen w - k = (sLen w - (k + 1)) + 1 by omega]
      by_cases hq : nI (tx (s + k)) = sCh w k
      · rw [if_pos hq, wmB_t hq]
      · rw [if_neg hq, wmB_f hq]
        rfl
  · rw [if_neg (fun q => hl (nI_inj (by omega) (by omega) q)), decide_eq_false hl]
    rfl
theorem X6_word (hT : TX A0 B0 nb tx) (h : TS A0 B0 nb tx A B s e) {w w' : Nat} (hw : w < 16) (ew : w' = w + 16) : f_X6_isWord w' B = some (b2 (wdB tx s e w)) := by
  have hle := h.le
  have hn := hT.1
  have tB := h.1.tB hT
  have hws := wdB_s hT h hw
  obtain ⟨l1, l2, l3, l4, l5, l6, l7⟩ := word_all ⟨w, hw⟩
  dsimp only at l1 l2 l3 l4 l5 l6 l7
  subst ew
  have h11 := h.2.2.1
  have h12 := h.1.2.2.2.2.2.1
  have w0 := h.w0
  obtain ⟨-, -, -, kd, hg, g2, -⟩ := h
  obtain ⟨k1, k2, k3, k4, k5, k6⟩ := hg.kind
  unfold f_X6_isWord
  rw [if_pos w0, g2]
  by_cases hk0 : kd = 0
  · rw [if_pos (show nI kd = (0 : Int32) from by rw [hk0]; rfl)]
    unfold f_J0_length_8abf5 wdB
    rw [bnd_some, h12, h11, nI_sub hle.1, l3]
    by_cases hl : e - s = sLen w
    · rw [if_pos (congrArg nI hl), decide_eq_true hl, Bool.true_and]
      refine lp_dn (z := fun _ => none) (b := f_X6_isWord_34 (w + 16) B) (fun k r => r (nI k) = some (b2 (wmB tx s w (sLen w - k) k))) (sLen w) (fun r => ?_) (fun k r hk ih => ?_) 0 FU (by omega) (by rw [FU_eq]; omega)
      · unfold f_X6_isWord_34 f_J0_length_8abf5
        rw [bnd_some, l3, if_pos (le_self_nI _), Nat.sub_self]
        rfl
      · have l4k : sCh (w + 16) k = sCh w k := l4 ⟨k, by omega⟩
        unfold f_X6_isWord_34 f_J0_length_8abf5 f_J0_charAt_5068e
        rw [bnd_some, l3, if_neg (not_le_nI hk (by omega)), h11, nI_add, ev_chk (inB_nI (show s + k < 800 by omega) (by decide)), ev_chk (inB_nI hk (by omega)), bnd_some, ix_nI (by omega), ix_nI (by omega), (tB (s + k) (by omega)).1, l4k, ← nI_succ, ih, show sLen w - k = (sLen w - (k + 1)) + 1 by omega]
        by_cases hq : nI (tx (s + k)) = sCh w k
        · rw [if_pos hq, wmB_t hq]
        · rw [if_neg hq, wmB_f hq]
          rfl
    · rw [if_neg (fun q => hl (nI_inj (by omega) (by omega) q)), decide_eq_false hl]
      rfl
  · rw [if_neg (show ¬ nI kd = (0 : Int32) from fun q => hk0 (nI_inj (b := 0) (by omega) (by decide) q))]
    cases hb : wdB tx s e w with
    | false => rfl
    | true =>
      obtain ⟨q1, q2⟩ := hws hb
      rw [decide_eq_false hk0] at k1
      unfold fb at k1
      rw [if_pos q1, q2] at k1
      cases k1
theorem S_word (hT : TX A0 B0 nb tx) (h : TS A0 B0 nb tx A B s e) {w w' : Nat} (hw : w < 16) (ew : w' = w + 16) : (f_X3_isWord w A = some 0 ∧ f_X3_takeWord w A = some (0, A) ∧ f_X6_isWord w' B = some 0) ∨ (f_X3_isWord w A = some 1 ∧ f_X6_isWord w' B = some 1 ∧ s < e ∧ ∃ A' B' s' e', f_X3_takeWord w A = some (1, A') ∧ f_X3_nextToken A = some A' ∧ f_X6_must 1 B = some B' ∧ TS A0 B0 nb tx A' B' s' e' ∧ e ≤ s' ∧ RA A A' ∧ RB B B') := by
  have e3 := X3_word hT h hw
  have e6 := X6_word hT h hw ew
  cases hb : wdB tx s e w with
  | false =>
    rw [hb] at e3 e6
    refine Or.inl ⟨e3, ?_, e6⟩
    unfold f_X3_takeWord
    rw [e3, bnd_some, if_pos b2_f]
  | true =>
    rw [hb] at e3 e6
    obtain ⟨A', B', s', e', e1, e2, g1, g2, g3, g4⟩ := S_next hT h
    refine Or.inr ⟨e3, e6, h.le.2.2 (wdB_s hT h hw hb).1, A', B', s', e', ?_, e1, X6_must_1 h.w0 e2, g1, g2, g3, g4⟩
    unfold f_X3_takeWord
    rw [e3, bnd_some, if_neg (by decide), ev_bnd e1]
/-! numbers -/
theorem inR_nIb {x lo hi : Nat} (hx : x < 2 ^ 31) (hl : lo < 2 ^ 31) (hh : hi < 2 ^ 31) : inR (nI x) (nI lo) (nI hi) = (decide (lo ≤ x) && decide (x ≤ hi)) := by
  have h1 : nI lo ≤ nI x ↔ lo ≤ x := nI_leI hl hx
  have h2 : nI x ≤ nI hi ↔ x ≤ hi := nI_leI hx hh
  unfold inR
  simp only [h1, h2]
theorem cap_any {c a b : Nat} : min (min c a * 10 + b) c = min c (10 * a + b) := by omega
theorem X3_value (hT : TX A0 B0 nb tx) (h : TS A0 B0 nb tx A B s e) {lo hi : Nat} (h9 : hi < 10000) (hd : ∀ k, s ≤ k → k < e → dgt0 (tx k) = true) : lp (fun _ _ _ _ _ => none) f_X3_takeNumber_35 FU (nI lo) (nI hi) 0 (nI s) A = (if nI (min (hi + 1) (dv tx s (e - s))) < nI lo then f_X3_takeNumber_82 A else if nI (min (hi + 1) (dv tx s (e - s))) ≤ nI hi then bnd (f_X3_nextToken A) (fun M22 => some (nI (min (hi + 1) (dv tx s (e - s))), M22)) else f_X3_takeNumber_82 A) := by
  have hle := h.le
  have hn := hT.1
  have tA := h.1.tA hT
  have key := lp_run (z := fun _ _ _ _ _ => none) (b := f_X3_takeNumber_35) (fun k r => r (nI lo) (nI hi) (nI (min (hi + 1) (dv tx s (k - s)))) (nI k) A = (if nI (min (hi + 1) (dv tx s (e - s))) < nI lo then f_X3_takeNumber_82 A else if nI (min (hi + 1) (dv tx s (e - s))) ≤ nI hi then bnd (f_X3_nextToken A) (fun M22 => some (nI (min (hi + 1) (dv tx s (e - s))), M22)) else f_X3_takeNumber_82 A)) hle.1 (f := FU) (fun r => ?_) (fun k r h1 h2 ih => ?_) (by rw [FU_eq]; omega)
  · rw [Nat.sub_self, show min (hi + 1) (dv tx s 0) = 0 from Nat.min_eq_right (Nat.zero_le _)] at key
    exact key
  · unfold f_X3_takeNumber_35
    rw [h.1.2.2.2.2.1, if_pos (le_self_nI e)]
  · obtain ⟨t1, t2⟩ := tA k (by omega)
    have q := dgt0_t.mp (hd k h1 h2)
    unfold f_X3_takeNumber_35
    rw [h.1.2.2.2.2.1, if_neg (not_le_nI h2 (by omega)), ev_chk (inB_nI (show k < 800 by omega) (by decide)), ix_nI (by omega), t1, show (10 : Int32) = nI 10 from rfl, nI_mul, nI_add, show (48 : Int32) = nI 48 from rfl, nI_sub (by omega), ← nI_succ hi, imin_nI (by omega) (by omega), ← nI_succ k]
    rw [← ih]
    congr 2
    rw [show k + 1 - s = (k - s) + 1 by omega]
    show _ = min (hi + 1) (10 * dv tx s (k - s) + (tx (s + (k - s)) - 48))
    rw [show s + (k - s) = k by omega, ← cap_any]
    congr 1
    omega
theorem S_num (hT : TX A0 B0 nb tx) (h : TS A0 B0 nb tx A B s e) {lo hi : Nat} {lo' hi' : Int32} (el : lo' = nI lo) (eh : hi' = nI hi) (hlh : lo ≤ hi) (h9 : hi < 10000) : (∃ v A' B' s' e', lo ≤ v ∧ v ≤ hi ∧ f_X3_takeNumber lo' hi' A = some (nI v, A') ∧ f_X6_takes lo' hi' B = some (nI v, B') ∧ TS A0 B0 nb tx A' B' s' e' ∧ e ≤ s' ∧ RA A A' ∧ RB B B') ∨ (∃ A' B' x, f_X3_takeNumber lo' hi' A = some (-1, A') ∧ f_X6_takes lo' hi' B = some (x, B') ∧ ER A0 B0 A' B' ∧ RA A A' ∧ RB B B') := by
  subst el eh
  have hfb := fb_lt hT s
  have w0 := h.w0
  obtain ⟨kd, hg, g2, g3⟩ := h.2.2.2
  obtain ⟨k1, k2, k3, k4, k5, k6⟩ := hg.kind
  unfold f_X3_takeNumber
  rw [ev_bnd (X3_fb hT h), ev_bnd (X3_fb hT h), h.2.1]
  unfold f_X6_takes
  rw [if_pos w0, g2]
  by_cases hk : kd = 1
  · rw [decide_eq_true hk] at k2
    have q := dgt0_t.mp k2
    have hd : ∀ k, s ≤ k → k < e → dgt0 (tx k) = true := by
      rcases hg with ⟨rfl, -⟩ | ⟨rfl, -⟩ | ⟨-, -, -, -, r, -⟩ | ⟨rfl, -⟩
      · cases hk
      · cases hk
      · exact r
      · cases hk
    rw [if_neg (show ¬ nI (fb nb tx s) < (48 : Int32) from nI_nlt (b := 48) q.1 (by omega)), if_pos (show nI (fb nb tx s) ≤ (57 : Int32) from (nI_leI (b := 57) (by omega) (by decide)).mpr q.2), X3_value hT h h9 hd, if_pos (show nI kd = (1 : Int32) from by rw [hk]; rfl)]
    unfold f_X6_takes_21 f_X6_takes_46
    rw [if_pos w0, g3 hk, X6_isIn, inR_nIb (by omega) (by omega) (by omega), bnd_some]
    by_cases hr : lo ≤ dv tx s (e - s) ∧ dv tx s (e - s) ≤ hi
    · left
      have e1 : min (hi + 1) (dv tx s (e - s)) = dv tx s (e - s) := by omega
      have e2 : min 10000 (dv tx s (e - s)) = dv tx s (e - s) := by omega
      obtain ⟨A', B', s', e', n1, n2, n3, n4, n5, n6⟩ := S_next hT h
      rw [e1, e2, if_neg (nI_nlt hr.1 (by omega)), if_pos ((nI_leI (by omega) (by omega)).mpr hr.2), ev_bnd n1, decide_eq_true hr.1, decide_eq_true hr.2, if_neg (by decide), X6_must_1 w0 n2, bnd_some]
      exact ⟨_, A', B', s', e', hr.1, hr.2, rfl, rfl, n3, n4, n5, n6⟩
    · right
      obtain ⟨A', B', n1, n2, n3, n4, n5⟩ := S_fail h (c := -3) (by decide)
      have hE := n3.2.2.2.2.1
      have hb : (decide (lo ≤ min 10000 (dv tx s (e - s))) && decide (min 10000 (dv tx s (e - s)) ≤ hi)) = false := by
        rw [Bool.and_eq_false_iff, decide_eq_false_iff_not, decide_eq_false_iff_not]
        omega
      have hcl : (if nI (min (hi + 1) (dv tx s (e - s))) < nI lo then f_X3_takeNumber_82 A else if nI (min (hi + 1) (dv tx s (e - s))) ≤ nI hi then bnd (f_X3_nextToken A) (fun M22 => some (nI (min (hi + 1) (dv tx s (e - s))), M22)) else f_X3_takeNumber_82 A) = some (-1, A') := by
        have e82 : f_X3_takeNumber_82 A = some (-1, A') := by
          unfold f_X3_takeNumber_82
          rw [ev_bnd2 n1]
        rw [e82]
        by_cases hlo : dv tx s (e - s) < lo
        · rw [if_pos ((nI_ltI (by omega) (by omega)).mpr (by omega))]
        · rw [if_neg (nI_nlt (by omega) (by omega)), if_neg (not_le_nI (by omega) (by omega))]
      rw [hcl, hb, if_pos b2_f, ev_bnd n2, er_must hE, bnd_some]
      exact ⟨A', B', _, rfl, rfl, n3, n4, n5⟩
  · right
    obtain ⟨A', B', n1, n2, n3, n4, n5⟩ := S_fail h (c := -2) (by decide)
    have hE := n3.2.2.2.2.1
    rw [decide_eq_false hk] at k2
    rw [if_neg (show ¬ nI kd = (1 : Int32) from fun q => hk (nI_inj (b := 1) (by omega) (by decide) q)), ev_bnd n2]
    have e18 : f_X3_takeNumber_18 A = some (-1, A') := by
      unfold f_X3_takeNumber_18
      rw [ev_bnd2 n1]
    unfold f_X6_takes_21 f_X6_takes_46
    rw [if_neg hE, er_must hE, bnd_some, e18]
    refine ⟨A', B', _, ?_, rfl, n3, n4, n5⟩
    rcases dgt0_f.mp k2 with q | q
    · rw [if_pos (show nI (fb nb tx s) < (48 : Int32) from (nI_ltI (b := 48) (by omega) (by decide)).mpr q)]
    · rw [if_neg (show ¬ nI (fb nb tx s) < (48 : Int32) from nI_nlt (b := 48) (by omega) (by omega)), if_neg (show ¬ nI (fb nb tx s) ≤ (57 : Int32) from not_le_nI (b := 57) q (by omega))]
end ST
