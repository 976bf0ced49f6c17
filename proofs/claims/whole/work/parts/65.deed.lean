/-! LOAD: deeds -/
theorem mm0 {j : Nat} (h : j < 8) : mm 0 j = false := by
  have k : ∀ j : Fin 8, mm 0 j.val = false := by decide
  exact k ⟨j, h⟩
theorem By0 : By 0 := ⟨0, by decide, rfl⟩
section DE
variable {A0 B0 A B : Mem} {nb : Nat} {tx : Nat → Nat} {s e m n t : Nat}
theorem LSt.deed {A' B' : Mem} {v' : Nat → Int32} (h : TS A0 B0 nb tx A B s e) (hA : ∀ x, ¬ (31 ≤ x ∧ x < 44) → A' x = A x) (hB : ∀ x, x ≠ 10 → B' x = B x) (hv : B' 10 = v') (hr : HR A' 31 v' m n) (w : VV v' m n t) (y : Int32) : LSt A0 B0 nb tx A' (mput B' 9 18 y) s e m n t := by
  subst hv
  refine ⟨(h.put hA hB ⟨m, n, t, w⟩).done y, ?_, ?_⟩
  · rw [mput_row (by decide)]
    exact hr
  · rw [mput_row (by decide)]
    exact w
/-! want -/
theorem S_rwant (hT : TX A0 B0 nb tx) (h : LSt A0 B0 nb tx A B s e m n t) : (∃ A' B' s' e', f_X3_readWant A = some (1, A') ∧ f_X6_readsWant B = some B' ∧ LSt A0 B0 nb tx A' B' s' e' m n t ∧ e ≤ s') ∨ (∃ A' B', f_X3_readWant A = some (0, A') ∧ f_X6_readsWant B = some B' ∧ ER A0 B0 A' B') := by
  obtain ⟨h1, hr, w⟩ := id h
  have h12 := w.m12
  have h8 := w.n8
  unfold f_X3_readWant f_X6_readsWant
  rcases S_tmonk hT h1 hr w rfl (-1) with ⟨a, A1, B1, s1, e1, ha, -, q1, q2, q3, q4, q5, q6⟩ | ⟨A1, B1, q, q1, q2, q3, -, -⟩
  · have hL1 := h.mov q3 q5 q6
    obtain ⟨-, hr1, w1⟩ := id hL1
    have le1 := q3.le
    rw [ev_bnd2 q1, if_neg (m1_ne (by omega)), ev_bnd2 q2]
    rcases S_tneed hT q3 hr1 w1 rfl By0 with ⟨j, hj, n1, -, -, ⟨-, A2, B2, s2, e2, n2, n3, n4, n5, n6, n7⟩ | ⟨hmt, -⟩⟩ | ⟨A2, B2, q, n1, n2, n3, -, -⟩
    · have hL2 := hL1.mov n4 n6 n7
      obtain ⟨-, hr2, w2⟩ := id hL2
      have le2 := n4.le
      have e1 : f_X6_isSet (nI a) 3 (nI j) B2 = some (b2 (mm (B2 10 (63 + 8 * a)) j)) := by
        have := X6_isSet (v := B2 10) (M := B2) rfl (c := 3) (show a < 12 by omega) (by decide) (by rw [show 60 + 8 * a + 3 = 63 + 8 * a by omega]; exact w2.wn ha) (show j < 8 by omega)
        rw [show 60 + 8 * a + 3 = 63 + 8 * a by omega] at this
        exact this
      rw [ev_bnd2 n2, if_neg (m1_ne (by omega)), ev_bnd (X1_wantRefusal hr2 w2 ha hj), ev_bnd2 n1, ev_bnd n3, if_pos n4.w0, ev_bnd e1]
      unfold f_X6_readsWant_41
      cases hb : mm (B2 10 (63 + 8 * a)) j with
      | false =>
        rw [if_pos b2_f]
        rcases S_end hT n4 (x := b2 false) (y := 0) ⟨fun _ => rfl, fun _ => rfl⟩ with ⟨-, A3, B3, s3, e3, k1, k2, k3, k4, k5, k6⟩ | ⟨A3, B3, k1, k2, k3, -, -⟩
        · left
          have hL3 := hL2.mov k3 k5 k6
          obtain ⟨-, hr3, w3⟩ := id hL3
          have x1 := X1_addWant hr3 w3 ha (show j < 8 by omega)
          have x6 := X6_wants (M := B3) rfl w3 ha (show j < 8 by omega)
          rw [ev_bnd2 k1, if_neg (by decide), ev_bnd2 x1, ev_bnd2 k2, if_neg (by decide), ev_bnd2 x6, letM_eq]
          exact ⟨_, _, s3, e3, rfl, rfl, LSt.deed k3 (fun x hx => mput_row (by omega)) (fun x hx => mput_row hx) mput_self (hr3.putm h8 (c := 3) (by decide) (by decide) _ rfl (by omega)) (w3.upds _ (Or.inr rfl) (By_or (w3.wn ha) (by omega))) _, by omega⟩
        · right
          rw [ev_bnd2 k1, if_pos rfl, ev_bnd2 k2, if_pos rfl]
          exact ⟨A3, B3, rfl, rfl, k3⟩
      | true =>
        rw [if_neg (show ¬ b2 true = 0 by decide)]
        rcases S_end hT n4 (x := b2 true) (y := -11) ⟨fun q => absurd q (by decide), fun q => absurd q (by decide)⟩ with ⟨k, -⟩ | ⟨A3, B3, k1, k2, k3, -, -⟩
        · exact absurd k (by decide)
        · right
          rw [ev_bnd2 k1, if_pos rfl, ev_bnd2 k2, if_pos rfl]
          exact ⟨A3, B3, rfl, rfl, k3⟩
    · rw [mm0 (show j < 8 by omega)] at hmt
      cases hmt
    · right
      have hE := n3.2.2.2.2.1
      rw [ev_bnd2 n1, if_pos rfl, ev_bnd2 n2, er_must hE, bnd_some, if_neg hE]
      exact ⟨A2, B2, rfl, rfl, n3⟩
  · right
    have hE := q3.2.2.2.2.1
    obtain ⟨z, hz⟩ := er_needHere q3
    rw [ev_bnd2 q1, if_pos rfl, ev_bnd2 q2, ev_bnd2 hz, er_must hE, bnd_some, if_neg hE]
    exact ⟨A1, B1, rfl, rfl, q3⟩
/-! give -/
theorem sGi_v (v : Nat → Int32) (a b : Nat) (x : Int32) : sGi v a b x = 0 ∨ sGi v a b x = 6 ∨ sGi v a b x = 7 ∨ sGi v a b x = 8 ∨ sGi v a b x = 9 ∨ sGi v a b x = 10 := by
  unfold sGi
  (repeat' split) <;> decide
theorem sGi_iff (v : Nat → Int32) (a b : Nat) (x : Int32) : sGi v a b x = 0 ↔ (if sGi v a b x = 0 then (0 : Int32) else -10 - sGi v a b x) = 0 := by
  rcases sGi_v v a b x with h | h | h | h | h | h <;> rw [h] <;> decide
theorem sGi_le {v : Nat → Int32} {a b : Nat} {x : Int32} (hz : sGi v a b x = 0) : v (64 + 8 * b) + x ≤ 99 := by
  unfold sGi at hz
  split at hz
  · split at hz
    · split at hz
      · split at hz
        · split at hz
          · rename_i hq; exact hq
          · exact absurd hz (by decide)
        · exact absurd hz (by decide)
      · exact absurd hz (by decide)
    · exact absurd hz (by decide)
  · exact absurd hz (by decide)
theorem S_rgive (hT : TX A0 B0 nb tx) (h : LSt A0 B0 nb tx A B s e m n t) : (∃ A' B' s' e', f_X3_readGive A = some (1, A') ∧ f_X6_readsGift B = some B' ∧ LSt A0 B0 nb tx A' B' s' e' m n t ∧ e ≤ s') ∨ (∃ A' B', f_X3_readGive A = some (0, A') ∧ f_X6_readsGift B = some B' ∧ ER A0 B0 A' B') := by
  obtain ⟨h1, hr, w⟩ := id h
  have h12 := w.m12
  unfold f_X3_readGive f_X6_readsGift
  rcases S_tmonk hT h1 hr w rfl (-1) with ⟨a, A1, B1, s1, e1, ha, -, q1, q2, q3, q4, q5, q6⟩ | ⟨A1, B1, q, q1, q2, q3, -, -⟩
  · have hL1 := h.mov q3 q5 q6
    obtain ⟨-, hr1, w1⟩ := id hL1
    have le1 := q3.le
    rw [ev_bnd2 q1, if_neg (m1_ne (by omega)), ev_bnd2 q2]
    rcases S_tmonk hT q3 hr1 w1 rfl (nI a) with ⟨b, A2, B2, s2, e2, hb, -, p1, p2, p3, p4, p5, p6⟩ | ⟨A2, B2, q, p1, p2, p3, -, -⟩
    · have hL2 := hL1.mov p3 p5 p6
      have le2 := p3.le
      rw [ev_bnd2 p1, if_neg (m1_ne (by omega)), ev_bnd2 p2]
      rcases S_num hT p3 (lo := 1) (hi := 50) (lo' := 1) (hi' := 50) rfl rfl (by decide) (by decide) with ⟨z, A3, B3, s3, e3, v1, v2, l1, l2, l3, l4, l5, l6⟩ | ⟨A3, B3, z, l1, l2, l3, -, -⟩
      · have hL3 := hL2.mov l3 l5 l6
        obtain ⟨-, hr3, w3⟩ := id hL3
        have le3 := l3.le
        rw [ev_bnd2 l1, if_neg (m1_ne (by omega)), ev_bnd (X1_giveRefusal hr3 w3 ha hb (nI z)), ev_bnd2 l2, if_pos l3.w0, ev_bnd (X6_refusalOfGift (M := B3) rfl w3 ha hb (nI z))]
        rcases S_end hT l3 (sGi_iff (B3 10) a b (nI z)) with ⟨k0, A4, B4, s4, e4, k1, k2, k3, k4, k5, k6⟩ | ⟨A4, B4, k1, k2, k3, -, -⟩
        · left
          have hL4 := hL3.mov k3 k5 k6
          obtain ⟨-, hr4, w4⟩ := id hL4
          have e10 : B4 10 = B3 10 := k6 10 (by decide)
          obtain ⟨A5, g1, g2⟩ := X1_giveLeave hr4 w4 ha hb (nI z)
          have g6 := X6_gives (N := B4) w4 ha hb (nI z)
          rw [mrow_self] at g6
          rw [ev_bnd2 k1, if_neg (by decide), ev_bnd2 g1, ev_bnd2 k2, if_neg (by decide), ev_bnd2 g6, letM_eq]
          exact ⟨_, _, s4, e4, rfl, rfl, LSt.deed k3 (fun x hx => g2.2 x (by omega)) (fun x hx => mrow_row hx) mrow_at g2.1 (sGv_VV w4 hb (by omega) (by rw [e10]; exact sGi_le k0)) _, by omega⟩
        · right
          rw [ev_bnd2 k1, if_pos rfl, ev_bnd2 k2, if_pos rfl]
          exact ⟨A4, B4, rfl, rfl, k3⟩
      · right
        have hE := l3.2.2.2.2.1
        rw [ev_bnd2 l1, if_pos rfl, ev_bnd2 l2, if_neg hE]
        exact ⟨A3, B3, rfl, rfl, l3⟩
    · right
      have hE := p3.2.2.2.2.1
      rw [ev_bnd2 p1, if_pos rfl, ev_bnd2 p2, er_takes hE, bnd2_some, if_neg hE]
      exact ⟨A2, B2, rfl, rfl, p3⟩
  · right
    have hE := q3.2.2.2.2.1
    obtain ⟨z, hz⟩ := er_takesMonk q3 q
    rw [ev_bnd2 q1, if_pos rfl, ev_bnd2 q2, ev_bnd2 hz, er_takes hE, bnd2_some, if_neg hE]
    exact ⟨A1, B1, rfl, rfl, q3⟩
/-! tell -/
noncomputable def wayT (p q r : Int32) (M47 : Mem) : Option Mem := bnd (f_X6_isWord 29 M47) (fun r48 => (if r48 = 0 then (bnd (f_X6_isWord 30 M47) (fun r49 => (if r49 = 0 then ((f_X6_readsTelling_51) p q r 2 M47) else ((f_X6_readsTelling_51) p q r 1 M47)))) else ((f_X6_readsTelling_51) p q r 0 M47)))
theorem er_tel75 (hE : ¬ B 9 15 = 0) (p q r y z : Int32) : f_X6_readsTelling_75 p q r y z B = some B := by
  unfold f_X6_readsTelling_75
  rw [er_must hE, bnd_some, if_neg hE]
theorem er_wayT (hE : ¬ B 9 15 = 0) (p q r : Int32) : wayT p q r B = some B := by
  unfold wayT f_X6_readsTelling_51
  rw [er_isWord hE, bnd_some, if_pos rfl, er_isWord hE, bnd_some, if_pos rfl, if_pos rfl, er_isWord hE, bnd_some, if_pos rfl, er_tel75 hE]
theorem S_way (hT : TX A0 B0 nb tx) (h : TS A0 B0 nb tx A B s e) : (f_X3_wayHere A = some (-1) ∧ ∀ p q r, wayT p q r B = f_X6_readsTelling_75 p q r 2 0 B) ∨ (∃ way A' B' s' e', way < 3 ∧ f_X3_wayHere A = some (nI way) ∧ f_X3_nextToken A = some A' ∧ f_X6_must 1 B = some B' ∧ TS A0 B0 nb tx A' B' s' e' ∧ e ≤ s' ∧ RA A A' ∧ RB B B' ∧ ∀ p q r, wayT p q r B = f_X6_readsTelling_75 p q r (nI way) 1 B) := by
  unfold f_X3_wayHere wayT f_X6_readsTelling_51 f_X6_readsTelling_70
  rcases S_word hT h (w := 13) (w' := 29) (by decide) rfl with ⟨a1, -, a3⟩ | ⟨a1, a2, hse, A', B', s', e', -, r2, r3, r4, r5, r6, r7⟩
  · rw [ev_bnd a1, if_pos rfl]
    rcases S_word hT h (w := 14) (w' := 30) (by decide) rfl with ⟨b1, -, b3⟩ | ⟨b1, b2', hse, A', B', s', e', -, r2, r3, r4, r5, r6, r7⟩
    · rw [ev_bnd b1, if_pos rfl]
      rcases S_word hT h (w := 15) (w' := 31) (by decide) rfl with ⟨c1, -, c3⟩ | ⟨c1, c2, hse, A', B', s', e', -, r2, r3, r4, r5, r6, r7⟩
      · left
        rw [ev_bnd c1, if_pos rfl]
        refine ⟨rfl, fun p q r => ?_⟩
        rw [ev_bnd a3, if_pos rfl, ev_bnd b3, if_pos rfl, if_pos rfl, ev_bnd c3, if_pos rfl]
      · right
        rw [ev_bnd c1, if_neg (by decide)]
        refine ⟨2, A', B', s', e', by decide, rfl, r2, r3, r4, r5, r6, r7, fun p q r => ?_⟩
        rw [ev_bnd a3, if_pos rfl, ev_bnd b3, if_pos rfl, if_pos rfl, ev_bnd c2, if_neg (by decide)]
        rfl
    · right
      rw [ev_bnd b1, if_neg (by decide)]
      refine ⟨1, A', B', s', e', by decide, rfl, r2, r3, r4, r5, r6, r7, fun p q r => ?_⟩
      rw [ev_bnd a3, if_pos rfl, ev_bnd b2', if_neg (by decide), if_neg (by decide)]
      rfl
  · right
    rw [ev_bnd a1, if_neg (by decide)]
    refine ⟨0, A', B', s', e', by decide, rfl, r2, r3, r4, r5, r6, r7, fun p q r => ?_⟩
    rw [ev_bnd a2, if_neg (by decide), if_neg (by decide)]
    rfl
theorem X6_readsTelling_eq (M : Mem) : f_X6_readsTelling M = bnd2 (f_X6_takesMonk (-1) M) (fun r40 M41 => bnd2 (f_X6_takesMonk r40 M41) (fun r42 M43 => bnd2 (f_X6_needHere M43) (fun r44 M45 => bnd (f_X6_must 1 M45) (fun M47 => wayT r40 r42 r44 M47)))) := rfl
theorem S_rtell (hT : TX A0 B0 nb tx) (h : LSt A0 B0 nb tx A B s e m n t) : (∃ A' B' s' e', f_X3_readTell A = some (1, A') ∧ f_X6_readsTelling B = some B' ∧ LSt A0 B0 nb tx A' B' s' e' m n t ∧ e ≤ s') ∨ (∃ A' B', f_X3_readTell A = some (0, A') ∧ f_X6_readsTelling B = some B' ∧ ER A0 B0 A' B') := by
  obtain ⟨h1, hr, w⟩ := id h
  have h12 := w.m12
  have h8 := w.n8
  rw [X6_readsTelling_eq]
  unfold f_X3_readTell
  rcases S_tmonk hT h1 hr w rfl (-1) with ⟨a, A1, B1, s1, e1, ha, -, q1, q2, q3, q4, q5, q6⟩ | ⟨A1, B1, q, q1, q2, q3, -, -⟩
  · have hL1 := h.mov q3 q5 q6
    obtain ⟨-, hr1, w1⟩ := id hL1
    have le1 := q3.le
    rw [ev_bnd2 q1, if_neg (m1_ne (by omega)), ev_bnd2 q2]
    rcases S_tmonk hT q3 hr1 w1 rfl (nI a) with ⟨b, A2, B2, s2, e2, hb, -, p1, p2, p3, p4, p5, p6⟩ | ⟨A2, B2, q, p1, p2, p3, -, -⟩
    · have hL2 := hL1.mov p3 p5 p6
      obtain ⟨-, hr2, w2⟩ := id hL2
      have le2 := p3.le
      rw [ev_bnd2 p1, if_neg (m1_ne (by omega)), ev_bnd2 p2]
      rcases S_tneed hT p3 hr2 w2 rfl By0 with ⟨j, hj, n1, -, -, ⟨-, A3, B3, s3, e3, n2, n3, n4, n5, n6, n7⟩ | ⟨hmt, -⟩⟩ | ⟨A3, B3, q, n1, n2, n3, -, -⟩
      · have hL3 := hL2.mov n4 n6 n7
        have le3 := n4.le
        rw [ev_bnd2 n2, if_neg (m1_ne (by omega)), ev_bnd2 n1, ev_bnd n3]
        rcases S_way hT n4 with ⟨c1, c2⟩ | ⟨way, A4, B4, s4, e4, hw, c1, c2, c3, c4, c5, c6, c7, c8⟩
        · right
          obtain ⟨A4, B4, k1, k2, k3, -, -⟩ := S_fail n4 (c := -2) (by decide)
          have hE := k3.2.2.2.2.1
          rw [ev_bnd c1, if_pos rfl, ev_bnd2 k1, c2]
          unfold f_X6_readsTelling_75 f_X6_must f_X6_must_10
          rw [if_pos rfl, ev_bnd k2, if_neg hE, bnd_some, if_neg hE]
          exact ⟨A4, B4, rfl, rfl, k3⟩
        · have hL4 := hL3.mov c4 c6 c7
          obtain ⟨-, hr4, w4⟩ := id hL4
          have le4 := c4.le
          rw [ev_bnd c1, if_neg (m1_ne (by omega)), ev_bnd c2, ev_bnd (X1_tellRefusal hr4 w4 ha hb hj hw), c8]
          unfold f_X6_readsTelling_75
          rw [ev_bnd c3, if_pos c4.w0, ev_bnd (X6_reason (M := B4) rfl w4 ha hb hj hw)]
          rcases S_end hT c4 (x := sRe (B4 10) t a b j way) (y := sRe (B4 10) t a b j way) Iff.rfl with ⟨-, A5, B5, s5, e5, k1, k2, k3, k4, k5, k6⟩ | ⟨A5, B5, k1, k2, k3, -, -⟩
          · left
            have hL5 := hL4.mov k3 k5 k6
            obtain ⟨-, hr5, w5⟩ := id hL5
            obtain ⟨A6, g1, g2⟩ := X1_tellNeed hr5 w5 ha hb hj hw
            have g6 := X6_tells (N := B5) w5 ha hb hj hw
            rw [mrow_self] at g6
            rw [ev_bnd2 k1, if_neg (by decide), ev_bnd2 g1, ev_bnd2 k2, if_neg (by decide), ev_bnd2 g6, letM_eq]
            exact ⟨_, _, s5, e5, rfl, rfl, LSt.deed k3 (fun x hx => g2.2 x (by omega)) (fun x hx => mrow_row hx) mrow_at g2.1 (sTe_VV w5 ha hb hj) _, by omega⟩
          · right
            rw [ev_bnd2 k1, if_pos rfl, ev_bnd2 k2, if_pos rfl]
            exact ⟨A5, B5, rfl, rfl, k3⟩
      · rw [mm0 (show j < 8 by omega)] at hmt
        cases hmt
      · right
        have hE := n3.2.2.2.2.1
        rw [ev_bnd2 n1, if_pos rfl, ev_bnd2 n2, er_must hE, bnd_some, er_wayT hE]
        exact ⟨A3, B3, rfl, rfl, n3⟩
    · right
      have hE := p3.2.2.2.2.1
      obtain ⟨z, hz⟩ := er_needHere p3
      rw [ev_bnd2 p1, if_pos rfl, ev_bnd2 p2, ev_bnd2 hz, er_must hE, bnd_some, er_wayT hE]
      exact ⟨A2, B2, rfl, rfl, p3⟩
  · right
    have hE := q3.2.2.2.2.1
    obtain ⟨z, hz⟩ := er_needHere q3
    obtain ⟨y, hy⟩ := er_takesMonk q3 q
    rw [ev_bnd2 q1, if_pos rfl, ev_bnd2 q2, ev_bnd2 hy, ev_bnd2 hz, er_must hE, bnd_some, er_wayT hE]
    exact ⟨A1, B1, rfl, rfl, q3⟩
/-! wait -/
noncomputable def waitT (M42 : Mem) : Option (Int32 × Mem) := bnd2 (f_X6_takes 1 99 M42) (fun r43 M44 => (bnd (f_X6_refusalOfHours r43 M44) (fun r45 => (bnd2 (f_X6_mayDo r45 M44) (fun r46 M47 => (if r46 = 0 then ((f_X6_readsDeed_118) M47) else (bnd2 (f_X6_passes r43 M47) (fun r48 M49 => (letM (mput M49 9 18 r48) (fun M50 => ((f_X6_readsDeed_118) M50)))))))))))
theorem dd118_0 (h : B 9 15 = 0) : f_X6_readsDeed_118 B = some (1, B) := by
  unfold f_X6_readsDeed_118
  rw [if_pos h]
theorem dd118_e (h : ¬ B 9 15 = 0) : f_X6_readsDeed_118 B = some (0, B) := by
  unfold f_X6_readsDeed_118
  rw [if_neg h]
theorem S_rwait (hT : TX A0 B0 nb tx) (h : LSt A0 B0 nb tx A B s e m n t) : (∃ A' B' s' e' t', f_X3_readWait A = some (1, A') ∧ waitT B = some (1, B') ∧ LSt A0 B0 nb tx A' B' s' e' m n t' ∧ e ≤ s') ∨ (∃ A' B', f_X3_readWait A = some (0, A') ∧ waitT B = some (0, B') ∧ ER A0 B0 A' B') := by
  obtain ⟨h1, hr, w⟩ := id h
  unfold f_X3_readWait waitT
  rcases S_num hT h1 (lo := 1) (hi := 99) (lo' := 1) (hi' := 99) rfl rfl (by decide) (by decide) with ⟨z, A3, B3, s3, e3, v1, v2, l1, l2, l3, l4, l5, l6⟩ | ⟨A3, B3, z, l1, l2, l3, -, -⟩
  · have hL3 := h.mov l3 l5 l6
    obtain ⟨-, hr3, w3⟩ := id hL3
    have le3 := l3.le
    rw [ev_bnd2 l1, if_neg (m1_ne (by omega)), ev_bnd (X1_passRefusal hr3 (nI z)), ev_bnd2 l2, ev_bnd (X6_refusalOfHours (M := B3) rfl (nI z))]
    cases hz : sPa (B3 10) (nI z) with
    | false =>
      rw [if_neg (by decide), if_neg (by decide)]
      rcases S_end hT l3 (x := 11) (y := -21) ⟨fun q => absurd q (by decide), fun q => absurd q (by decide)⟩ with ⟨k, -⟩ | ⟨A4, B4, k1, k2, k3, -, -⟩
      · exact absurd k (by decide)
      · right
        rw [ev_bnd2 k1, if_pos rfl, ev_bnd2 k2, if_pos rfl, dd118_e k3.2.2.2.2.1]
        exact ⟨A4, B4, rfl, rfl, k3⟩
    | true =>
      rw [if_pos rfl, if_pos rfl]
      have ht := (sPa_le w3 v2).mp hz
      rcases S_end hT l3 (x := 0) (y := 0) Iff.rfl with ⟨-, A4, B4, s4, e4, k1, k2, k3, k4, k5, k6⟩ | ⟨A4, B4, k1, k2, k3, -, -⟩
      · left
        have hL4 := hL3.mov k3 k5 k6
        obtain ⟨-, hr4, w4⟩ := id hL4
        obtain ⟨A5, g1, g2⟩ := X1_passHours hr4 w4 v2 ht
        have g6 := X6_passes (N := B4) w4 v2 ht
        rw [mrow_self] at g6
        have hL5 := LSt.deed (A' := A5) k3 (fun x hx => g2.2 x (by omega)) (fun x hx => mrow_row hx) (mrow_at (M := B4) (k := 10)) g2.1 (sPv_VV z t w4 ht) (nI (sPd z t 0))
        rw [ev_bnd2 k1, if_neg (by decide), ev_bnd2 g1, ev_bnd2 k2, if_neg (by decide), ev_bnd2 g6, letM_eq, dd118_0 hL5.1.w0]
        exact ⟨_, _, s4, e4, _, rfl, rfl, hL5, by omega⟩
      · right
        rw [ev_bnd2 k1, if_pos rfl, ev_bnd2 k2, if_pos rfl, dd118_e k3.2.2.2.2.1]
        exact ⟨A4, B4, rfl, rfl, k3⟩
  · right
    have hE := l3.2.2.2.2.1
    rw [ev_bnd2 l1, if_pos rfl, ev_bnd2 l2, ev_bnd (X6_refusalOfHours (M := B3) rfl z), er_mayDo hE, bnd2_some, if_pos rfl, dd118_e hE]
    exact ⟨A3, B3, rfl, rfl, l3⟩
/-! a deed -/
theorem X6_deed48 (p q r : Int32) (M : Mem) : f_X6_readsDeed_48 p q r M = bnd (f_X6_must 1 M) (fun M42 => if p = 0 then (if q = 0 then (if r = 0 then waitT M42 else bnd (f_X6_readsGift M42) (fun M52 => f_X6_readsDeed_118 M52)) else bnd (f_X6_readsTelling M42) (fun M54 => f_X6_readsDeed_118 M54)) else bnd (f_X6_readsWant M42) (fun M56 => f_X6_readsDeed_118 M56)) := rfl
theorem S_rdeed (hT : TX A0 B0 nb tx) (h : LSt A0 B0 nb tx A B s e m n t) : (∃ A' B', f_X3_readDeed A = some (0, A') ∧ f_X6_readsDeed B = some (0, B) ∧ f_X6_errs (-2) B = some B' ∧ ER A0 B0 A' B') ∨ (s < e ∧ ∃ A' B' s' e' t', f_X3_readDeed A = some (1, A') ∧ f_X6_readsDeed B = some (1, B') ∧ LSt A0 B0 nb tx A' B' s' e' m n t' ∧ e ≤ s') ∨ (s < e ∧ ∃ A' B', f_X3_readDeed A = some (0, A') ∧ f_X6_readsDeed B = some (0, B') ∧ ER A0 B0 A' B') := by
  obtain ⟨h1, hr, w⟩ := id h
  unfold f_X3_readDeed f_X6_readsDeed
  rcases S_word hT h1 (w := 9) (w' := 25) (by decide) rfl with ⟨-, a2, a3⟩ | ⟨-, a2, hse, A1, B1, s1, e1, r1, -, r3, r4, r5, r6, r7⟩
  · rw [ev_bnd2 a2, if_pos rfl]
    rcases S_word hT h1 (w := 10) (w' := 26) (by decide) rfl with ⟨-, b2', b3⟩ | ⟨-, b2', hse, A1, B1, s1, e1, r1, -, r3, r4, r5, r6, r7⟩
    · rw [ev_bnd2 b2', if_pos rfl]
      rcases S_word hT h1 (w := 11) (w' := 27) (by decide) rfl with ⟨-, c2, c3⟩ | ⟨-, c2, hse, A1, B1, s1, e1, r1, -, r3, r4, r5, r6, r7⟩
      · rw [ev_bnd2 c2, if_pos rfl]
        rcases S_word hT h1 (w := 12) (w' := 28) (by decide) rfl with ⟨-, d2, d3⟩ | ⟨-, d2, hse, A1, B1, s1, e1, r1, -, r3, r4, r5, r6, r7⟩
        · left
          obtain ⟨A', B', k1, k2, k3, -, -⟩ := S_fail h1 (c := -2) (by decide)
          rw [ev_bnd2 d2, if_pos rfl, ev_bnd2 k1, ev_bnd a3, ev_bnd b3, ev_bnd c3, if_pos rfl, if_pos rfl, if_pos rfl, ev_bnd d3, if_pos rfl]
          exact ⟨A', B', rfl, rfl, k2, k3⟩
        · right
          have le1 := r4.le
          rw [ev_bnd2 r1, if_neg (by decide), ev_bnd a3, ev_bnd b3, ev_bnd c3, if_pos rfl, if_pos rfl, if_pos rfl, ev_bnd d2, if_neg (by decide), X6_deed48, ev_bnd r3, if_pos rfl, if_pos rfl, if_pos rfl]
          rcases S_rwait hT (h.mov r4 r6 r7) with ⟨A2, B2, s2, e2, t2, k1, k2, k3, k4⟩ | ⟨A2, B2, k1, k2, k3⟩
          · left
            rw [ev_bnd2 k1, k2]
            exact ⟨hse, A2, B2, s2, e2, t2, rfl, rfl, k3, by omega⟩
          · right
            rw [ev_bnd2 k1, k2]
            exact ⟨hse, A2, B2, rfl, rfl, k3⟩
      · right
        have le1 := r4.le
        rw [ev_bnd2 r1, if_neg (by decide), ev_bnd a3, ev_bnd b3, ev_bnd c2, if_pos rfl, if_pos rfl, if_neg (by decide), X6_deed48, ev_bnd r3, if_pos rfl, if_pos rfl, if_neg (by decide)]
        rcases S_rgive hT (h.mov r4 r6 r7) with ⟨A2, B2, s2, e2, k1, k2, k3, k4⟩ | ⟨A2, B2, k1, k2, k3⟩
        · left
          rw [ev_bnd2 k1, ev_bnd k2, dd118_0 k3.1.w0]
          exact ⟨hse, A2, B2, s2, e2, t, rfl, rfl, k3, by omega⟩
        · right
          rw [ev_bnd2 k1, ev_bnd k2, dd118_e k3.2.2.2.2.1]
          exact ⟨hse, A2, B2, rfl, rfl, k3⟩
    · right
      have le1 := r4.le
      obtain ⟨y, hy⟩ : ∃ y, f_X6_isWord 27 B = some y := ⟨_, X6_word hT h1 (w := 11) (by decide) rfl⟩
      rw [ev_bnd2 r1, if_neg (by decide), ev_bnd a3, ev_bnd b2', ev_bnd hy, if_pos rfl, if_neg (by decide), X6_deed48, ev_bnd r3, if_pos rfl, if_neg (by decide)]
      rcases S_rtell hT (h.mov r4 r6 r7) with ⟨A2, B2, s2, e2, k1, k2, k3, k4⟩ | ⟨A2, B2, k1, k2, k3⟩
      · left
        rw [ev_bnd2 k1, ev_bnd k2, dd118_0 k3.1.w0]
        exact ⟨hse, A2, B2, s2, e2, t, rfl, rfl, k3, by omega⟩
      · right
        rw [ev_bnd2 k1, ev_bnd k2, dd118_e k3.2.2.2.2.1]
        exact ⟨hse, A2, B2, rfl, rfl, k3⟩
  · right
    have le1 := r4.le
    obtain ⟨y, hy⟩ : ∃ y, f_X6_isWord 27 B = some y := ⟨_, X6_word hT h1 (w := 11) (by decide) rfl⟩
    obtain ⟨z, hz⟩ : ∃ z, f_X6_isWord 26 B = some z := ⟨_, X6_word hT h1 (w := 10) (by decide) rfl⟩
    rw [ev_bnd2 r1, if_neg (by decide), ev_bnd a2, ev_bnd hz, ev_bnd hy, if_neg (by decide), X6_deed48, ev_bnd r3, if_neg (by decide)]
    rcases S_rwant hT (h.mov r4 r6 r7) with ⟨A2, B2, s2, e2, k1, k2, k3, k4⟩ | ⟨A2, B2, k1, k2, k3⟩
    · left
      rw [ev_bnd2 k1, ev_bnd k2, dd118_0 k3.1.w0]
      exact ⟨hse, A2, B2, s2, e2, t, rfl, rfl, k3, by omega⟩
    · right
      rw [ev_bnd2 k1, ev_bnd k2, dd118_e k3.2.2.2.2.1]
      exact ⟨hse, A2, B2, rfl, rfl, k3⟩
end DE
