/-! LOAD: settings, needs, bells -/
def LSt (A0 B0 : Mem) (nb : Nat) (tx : Nat → Nat) (A B : Mem) (s e m n t : Nat) : Prop := TS A0 B0 nb tx A B s e ∧ HR A 31 (B 10) m n ∧ VV (B 10) m n t
theorem HR.ra {A A' : Mem} {v : Nat → Int32} {m n : Nat} (h : HR A 31 v m n) (r : RA A A') : HR A' 31 v m n := h.cong (fun i hi => r _ (by omega))
/-! a need more -/
section AD
variable {M : Mem} {o m n t : Nat} {v : Nat → Int32}
theorem X1_addNeed (h : HR M o v m n) (w : VV v m n t) (hn : n < 8) (x z : Int32) : ∃ M', f_X1_addNeed o x z M = some M' ∧ (∀ y, y ≠ o → y ≠ o + 9 → y ≠ o + 10 → M' y = M y) ∧ (∀ c, c ≠ 13 → M' o c = M o c) ∧ M' o 13 = nI (n + 1) ∧ (∀ k, M' (o + 9) k = if k = n then x else M (o + 9) k) ∧ ∀ k, M' (o + 10) k = if k = n then z else M (o + 10) k := by
  have e13 : M o 13 = nI n := h.1.2.1.trans w.e1
  have i1 : inB (nI n) 8 = true := inB_nI hn (by decide)
  have q1 : o ≠ o + 9 := by omega
  have q2 : o ≠ o + 10 := by omega
  refine ⟨mput (mput (mput M (o + 9) n x) (o + 10) n z) o 13 (nI n + 1), ?_, fun y h1 h2 h3 => by rw [mput_row h1, mput_row h3, mput_row h2], fun c hc => by rw [mput_col hc, mput_row q2, mput_row q1], by rw [mput_at, nI_succ], fun k => ?_, fun k => ?_⟩
  · unfold f_X1_addNeed
    rw [e13, if_neg (show ¬ (8 : Int32) ≤ nI n from not_le_nI hn (by decide)), ev_chk i1, letM_eq, mput_row q1, e13, ev_chk i1, letM_eq, mput_row q2, mput_row q1, e13, letM_eq, ix_nI (by omega)]
  · rw [mput_row (by omega), mput_row (by omega)]
    by_cases hk : k = n
    · rw [if_pos hk, hk, mput_at]
    · rw [if_neg hk, mput_col hk]
  · rw [mput_row (by omega)]
    by_cases hk : k = n
    · rw [if_pos hk, hk, mput_at]
    · rw [if_neg hk, mput_col hk, mput_row (by omega)]
def vNd (v : Nat → Int32) (n : Nat) (y z : Int32) : Nat → Int32 := upd (upd (upd v (44 + 2 * n) y) (45 + 2 * n) z) 1 (nI (n + 1))
theorem vNd_ne {n i : Nat} {y z : Int32} (h1 : i ≠ 1) (h2 : i ≠ 44 + 2 * n) (h3 : i ≠ 45 + 2 * n) : vNd v n y z i = v i := by
  unfold vNd
  rw [upd_ne h1, upd_ne h3, upd_ne h2]
theorem HR.addn {M' : Mem} (h : HR M o v m n) (hn : n < 8) {x y z : Int32} (hx : HN x y) (g1 : ∀ y, y ≠ o → y ≠ o + 9 → y ≠ o + 10 → M' y = M y) (g2 : ∀ c, c ≠ 13 → M' o c = M o c) (g3 : M' o 13 = nI (n + 1)) (g4 : ∀ k, M' (o + 9) k = if k = n then x else M (o + 9) k) (g5 : ∀ k, M' (o + 10) k = if k = n then z else M (o + 10) k) : HR M' o (vNd v n y z) m (n + 1) := by
  obtain ⟨⟨h1, h2, h3, h4, h5, h6⟩, ha, hb, hc, hd⟩ := h
  refine ⟨⟨?_, ?_, ?_, ?_, ?_, ?_⟩, fun k hk => ?_, fun k hk => ?_, fun k hk => ?_, fun k hk => ?_⟩
  · rw [g2 12 (by decide), vNd_ne (by decide) (by omega) (by omega)]; exact h1
  · rw [g3]; unfold vNd; rw [upd_at]
  · rw [g2 14 (by decide), vNd_ne (by decide) (by omega) (by omega)]; exact h3
  · rw [g2 15 (by decide), vNd_ne (by decide) (by omega) (by omega)]; exact h4
  · rw [g2 16 (by decide), vNd_ne (by decide) (by omega) (by omega)]; exact h5
  · rw [g2 17 (by decide), vNd_ne (by decide) (by omega) (by omega)]; exact h6
  · rw [g1 _ (by omega) (by omega) (by omega), vNd_ne (by omega) (by omega) (by omega)]; exact ha k hk
  · rw [g1 _ (by omega) (by omega) (by omega), vNd_ne (by omega) (by omega) (by omega)]; exact hb k hk
  · rw [g4, g5]
    by_cases hkn : k = n
    · rw [if_pos hkn, if_pos hkn, hkn]
      unfold vNd
      rw [upd_ne (by omega), upd_ne (by omega), upd_at, upd_ne (by omega), upd_at]
      exact ⟨hx, rfl⟩
    · rw [if_neg hkn, if_neg hkn, vNd_ne (by omega) (by omega) (by omega), vNd_ne (by omega) (by omega) (by omega)]
      exact hc k (by omega)
  · rw [g1 _ (by omega) (by omega) (by omega), g1 _ (by omega) (by omega) (by omega), g1 _ (by omega) (by omega) (by omega), g1 _ (by omega) (by omega) (by omega), g1 _ (by omega) (by omega) (by omega), g1 _ (by omega) (by omega) (by omega), g1 _ (by omega) (by omega) (by omega), g1 _ (by omega) (by omega) (by omega), vNd_ne (by omega) (by omega) (by omega), vNd_ne (by omega) (by omega) (by omega), vNd_ne (by omega) (by omega) (by omega), vNd_ne (by omega) (by omega) (by omega), vNd_ne (by omega) (by omega) (by omega), vNd_ne (by omega) (by omega) (by omega), vNd_ne (by omega) (by omega) (by omega), vNd_ne (by omega) (by omega) (by omega)]
    exact hd k hk
theorem VV.addn (w : VV v m n t) (hn : n < 8) (y : Int32) {z : Nat} (h1 : 1 ≤ z) (h2 : z ≤ 20) : VV (vNd v n y (nI z)) m (n + 1) t := by
  refine ⟨w.1, by omega, w.2.2.1, ?_, ?_, ?_, fun k hk => ?_, fun k hk => ?_⟩
  · rw [vNd_ne (by decide) (by omega) (by omega)]; exact w.e0
  · unfold vNd; rw [upd_at]
  · rw [vNd_ne (by decide) (by omega) (by omega)]; exact w.e4
  · by_cases hkn : k = n
    · refine ⟨z, h1, h2, ?_⟩
      rw [hkn]
      unfold vNd
      rw [upd_ne (by omega), upd_at]
    · rw [vNd_ne (by omega) (by omega) (by omega)]
      exact w.wd (by omega)
  · rw [vNd_ne (by omega) (by omega) (by omega), vNd_ne (by omega) (by omega) (by omega), vNd_ne (by omega) (by omega) (by omega)]
    exact w.2.2.2.2.2.2.2 k hk
end AD
section IT
variable {A0 B0 A B : Mem} {nb : Nat} {tx : Nat → Nat} {s e m n t : Nat}
theorem LSt.fin {B' : Mem} {v' : Nat → Int32} (h : TS A0 B0 nb tx A B s e) (hB : ∀ x, x ≠ 10 → B' x = B x) (hv : B' 10 = v') (hr : HR A 31 v' m n) (w : VV v' m n t) : LSt A0 B0 nb tx A B' s e m n t := by
  subst hv
  exact ⟨h.put (fun _ _ => rfl) hB ⟨m, n, t, w⟩, hr, w⟩
theorem LSt.mov {A' B' : Mem} {s' e' : Nat} (h : LSt A0 B0 nb tx A B s e m n t) (h' : TS A0 B0 nb tx A' B' s' e') (ra : RA A A') (rb : RB B B') : LSt A0 B0 nb tx A' B' s' e' m n t := by
  refine ⟨h', ?_, ?_⟩
  · rw [rb 10 (by decide)]
    exact h.2.1.ra ra
  · rw [rb 10 (by decide)]
    exact h.2.2
/-! the two settings -/
theorem set_any (hT : TX A0 B0 nb tx) (h : LSt A0 B0 nb tx A B s e m n t) {wd wd' hi c C : Nat} (hw : wd < 16) (ew : wd' = wd + 16) (hh : hi < 10000) (hc : c < 6) (hf : frI c) (eC : C = 12 + c) {p q : Int32} (ep : p = nI c) (eq : q = nI hi) {f : Mem → Option (Int32 × Mem)}
    (ef : ∀ M, f M = bnd2 (f_X3_takeWord wd M) (fun r8 M9 => if r8 = 0 then some (1, M9) else bnd2 (f_X3_takeNumber 0 q M9) (fun r10 M11 => if r10 = -1 then some (0, M11) else letM (mput M11 31 C r10) (fun M12 => bnd2 (f_X3_takeSemicolon M12) (fun r13 M14 => some (r13, M14)))))) :
    (∃ A' B' s' e', f A = some (1, A') ∧ f_X6_readsSetting wd' p q B = some B' ∧ LSt A0 B0 nb tx A' B' s' e' m n t) ∨ (∃ A' B', f A = some (0, A') ∧ f_X6_readsSetting wd' p q B = some B' ∧ ER A0 B0 A' B') := by
  obtain ⟨h1, hr, w⟩ := id h
  rw [ef]
  unfold f_X6_readsSetting
  rcases S_word hT h1 hw ew with ⟨-, q2, q3⟩ | ⟨-, q2, -, A1, B1, s1, e1, r1, -, r3, r4, -, r6, r7⟩
  · left
    rw [ev_bnd2 q2, if_pos rfl, ev_bnd q3, if_pos rfl]
    exact ⟨A, B, s, e, rfl, rfl, h⟩
  · rw [ev_bnd2 r1, if_neg (by decide), ev_bnd q2, if_neg (by decide), ev_bnd r3]
    rcases S_num hT r4 (lo := 0) (lo' := 0) rfl eq (Nat.zero_le _) hh with ⟨x, A2, B2, s2, e2, v1, v2, n1, n2, n3, -, n5, n6⟩ | ⟨A2, B2, x, n1, n2, n3, -, -⟩
    · rw [ev_bnd2 n1, if_neg (m1_ne (by omega)), letM_eq, ev_bnd2 n2]
      have t3 := n3.put (A' := mput A2 31 C (nI x)) (B' := B2) (fun y hy => mput_row (by omega)) (fun _ _ => rfl) n3.ok
      have h3 : HR (mput A2 31 C (nI x)) 31 (upd (B 10) c (nI x)) m n := ((hr.ra r6).ra n5).puts hc (nI x) eC
      obtain ⟨r, hr', hS⟩ := S_sem hT t3
      rw [ev_bnd hr']
      rcases hS with ⟨-, -, A3, B3, s3, e3, m1, m2, m3, -, m5, m6⟩ | ⟨-, A3, B3, m1, m2, m3, -, -⟩
      · left
        rw [ev_bnd2 m1, ev_bnd m2, if_pos m3.w0, ep, ev_chk (inB_nI (show c < 156 by omega) (by decide)), letM_eq, ix_nI (by omega)]
        exact ⟨A3, _, s3, e3, rfl, rfl, LSt.fin m3 (fun y hy => mput_row hy) (by rw [mput_self, m6 10 (by decide), n6 10 (by decide), r7 10 (by decide)]) (h3.ra m5) (w.updf _ hf)⟩
      · right
        rw [ev_bnd2 m1, ev_bnd m2, if_neg m3.2.2.2.2.1]
        exact ⟨A3, B3, rfl, rfl, m3⟩
    · right
      have hE := n3.2.2.2.2.1
      rw [ev_bnd2 n1, if_pos rfl, ev_bnd2 n2, er_isEnd hE, bnd_some, er_must hE, bnd_some, if_neg hE]
      exact ⟨A2, B2, rfl, rfl, n3⟩
theorem S_paper (hT : TX A0 B0 nb tx) (h : LSt A0 B0 nb tx A B s e m n t) : (∃ A' B' s' e', f_X3_readPaper A = some (1, A') ∧ f_X6_readsSetting 16 2 99 B = some B' ∧ LSt A0 B0 nb tx A' B' s' e' m n t) ∨ (∃ A' B', f_X3_readPaper A = some (0, A') ∧ f_X6_readsSetting 16 2 99 B = some B' ∧ ER A0 B0 A' B') :=
  set_any hT h (wd := 0) (hi := 99) (c := 2) (C := 14) (by decide) rfl (by decide) (by decide) (by unfold frI; omega) rfl rfl rfl (fun _ => rfl)
theorem S_grant (hT : TX A0 B0 nb tx) (h : LSt A0 B0 nb tx A B s e m n t) : (∃ A' B' s' e', f_X3_readGrant A = some (1, A') ∧ f_X6_readsSetting 17 3 50 B = some B' ∧ LSt A0 B0 nb tx A' B' s' e' m n t) ∨ (∃ A' B', f_X3_readGrant A = some (0, A') ∧ f_X6_readsSetting 17 3 50 B = some B' ∧ ER A0 B0 A' B') :=
  set_any hT h (wd := 1) (hi := 50) (c := 3) (C := 15) (by decide) rfl (by decide) (by decide) (by unfold frI; omega) rfl rfl rfl (fun _ => rfl)
theorem er_setting (hE : ¬ B 9 15 = 0) (wd : Nat) (p q : Int32) : f_X6_readsSetting wd p q B = some B := by
  unfold f_X6_readsSetting
  rw [er_isWord hE, bnd_some, if_pos rfl]
/-! a need -/
theorem er_need61 (hE : ¬ B 9 15 = 0) (y : Int32) : f_X6_readsNeed_61 y B = some (0, B) := by
  unfold f_X6_readsNeed_61
  rw [er_must hE, bnd_some, er_takes hE, bnd2_some, er_isEnd hE, bnd_some, er_must hE, bnd_some, if_neg hE]
theorem er_need29 (hE : ¬ B 9 15 = 0) : f_X6_readsNeed_29 B = some (0, B) := by
  unfold f_X6_readsNeed_29
  rw [er_must hE, bnd_some, er_name hE, bnd2_some, if_neg hE, er_need61 hE]
theorem S_rneed (hT : TX A0 B0 nb tx) (h : LSt A0 B0 nb tx A B s e m n t) (hn : n < 8) : (f_X3_takeWord 2 A = some (0, A) ∧ f_X6_isWord 18 B = some 0 ∧ f_X6_readsNeed B = some (0, B)) ∨ (∃ A1, f_X3_takeWord 2 A = some (1, A1) ∧ f_X6_isWord 18 B = some 1 ∧ ((∃ A' B' s' e', f_X3_readNeed A1 = some (1, A') ∧ f_X6_readsNeed B = some (1, B') ∧ LSt A0 B0 nb tx A' B' s' e' m (n + 1) t) ∨ (∃ A' B', f_X3_readNeed A1 = some (0, A') ∧ f_X6_readsNeed B = some (0, B') ∧ ER A0 B0 A' B'))) := by
  obtain ⟨h1, hr, w⟩ := id h
  unfold f_X6_readsNeed
  rcases S_word hT h1 (w := 2) (w' := 18) (by decide) rfl with ⟨-, q2, q3⟩ | ⟨-, q2, -, A1, B1, s1, e1, r1, -, r3, r4, -, r6, r7⟩
  · left
    rw [ev_bnd q3, if_pos rfl]
    exact ⟨q2, q3, rfl⟩
  · right
    refine ⟨A1, r1, q2, ?_⟩
    have hL1 := h.mov r4 r6 r7
    obtain ⟨-, hr1, w1⟩ := id hL1
    unfold f_X6_readsNeed_29
    rw [ev_bnd q2, if_neg (by decide), w.e1, if_neg (show ¬ nI n = (8 : Int32) from fun z => by have := nI_inj (b := 8) (by omega) (by decide) z; omega), ev_bnd r3]
    unfold f_X3_readNeed
    rcases S_name hT r4 with ⟨ls, hl, n1, n2, -, -⟩ | ⟨A2, B2, x, n1, n2, n3, -, -⟩
    · obtain ⟨q, f1, f2, f3⟩ := S_fneed hr1 w1 rfl hl
      have hp := f32_pos hl
      have hlt := f32_lt hl
      have hz : ¬ nI (f32 ls) = 0 := nI_ne0 (by omega) (by omega)
      rw [ev_bnd2 n1, if_neg hz, ev_bnd f1, ev_bnd2 n2, if_pos r4.w0, ev_bnd f2]
      rcases f3 with rfl | ⟨j, hj, rfl⟩
      · obtain ⟨A2, B2, s2, e2, k1, k2, k3, -, k5, k6⟩ := S_next hT r4
        have hL2 := hL1.mov k3 k5 k6
        rw [if_pos rfl, ev_bnd k1, if_pos rfl]
        unfold f_X6_readsNeed_61
        rw [X6_must_1 r4.w0 k2, bnd_some]
        rcases S_num hT k3 (lo := 1) (hi := 20) (lo' := 1) (hi' := 20) rfl rfl (by decide) (by decide) with ⟨z, A3, B3, s3, e3, v1, v2, l1, l2, l3, -, l5, l6⟩ | ⟨A3, B3, z, l1, l2, l3, -, -⟩
        · have hL3 := hL2.mov l3 l5 l6
          obtain ⟨-, hr3, w3⟩ := id hL3
          obtain ⟨A4, g0, g1, g2, g3, g4, g5⟩ := X1_addNeed hr3 w3 hn (nI (f32 ls)) (nI z)
          have hN : HN (nI (f32 ls)) (nI (f27 ls)) := ⟨ls, hl, rfl, rfl⟩
          have hr4 := hr3.addn hn hN g1 g2 g3 g4 g5
          have w4 := w3.addn hn (nI (f27 ls)) v1 v2
          have t4 := l3.put (A' := A4) (B' := B3) (fun y hy => g1 y (by omega) (by omega) (by omega)) (fun _ _ => rfl) l3.ok
          obtain ⟨r, hr', hS⟩ := S_sem hT t4
          rw [ev_bnd2 l1, if_neg (m1_ne (by omega)), ev_bnd g0, ev_bnd2 l2, ev_bnd hr']
          rcases hS with ⟨-, -, A5, B5, s5, e5, m1, m2, m3, -, m5, m6⟩ | ⟨-, A5, B5, m1, m2, m3, -, -⟩
          · left
            have b1 : B5 10 1 = nI n := by rw [m6 10 (by decide)]; exact w3.e1
            rw [ev_bnd2 m1, ev_bnd m2, if_pos m3.w0, b1, show (2 : Int32) = nI 2 from rfl, nI_mul, show (44 : Int32) = nI 44 from rfl, nI_add, ev_chk (inB_nI (show 44 + 2 * n < 156 by omega) (by decide)), letM_eq, ix_nI (by omega), mput_col (show 1 ≠ 44 + 2 * n by omega), b1, nI_mul, nI_add, ← nI_succ, ev_chk (inB_nI (show 44 + 2 * n + 1 < 156 by omega) (by decide)), letM_eq, ix_nI (by omega), letM_eq, mput_col (show 1 ≠ 44 + 2 * n + 1 by omega), mput_col (show 1 ≠ 44 + 2 * n by omega), b1, ← nI_succ]
            refine ⟨A5, _, s5, e5, rfl, rfl, LSt.fin m3 (fun y hy => by rw [mput_row hy, mput_row hy, mput_row hy]) ?_ (hr4.ra m5) w4⟩
            rw [mput_self, mput_self, mput_self, m6 10 (by decide)]
            unfold vNd
            rw [show 44 + 2 * n + 1 = 45 + 2 * n by omega]
          · right
            rw [ev_bnd2 m1, ev_bnd m2, if_neg m3.2.2.2.2.1]
            exact ⟨A5, B5, rfl, rfl, m3⟩
        · right
          have hE := l3.2.2.2.2.1
          rw [ev_bnd2 l1, if_pos rfl, ev_bnd2 l2, er_isEnd hE, bnd_some, er_must hE, bnd_some, if_neg hE]
          exact ⟨A3, B3, rfl, rfl, l3⟩
      · right
        obtain ⟨A2, B2, k1, k2, k3, -, -⟩ := S_fail r4 (c := -5) (by decide)
        have hm1 : ¬ nI j = -1 := m1_ne (by have := w.n8; omega)
        rw [if_neg hm1, ev_bnd2 k1, if_neg hm1, ev_bnd k2, er_need61 k3.2.2.2.2.1]
        exact ⟨A2, B2, rfl, rfl, k3⟩
    · right
      have hE := n3.2.2.2.2.1
      rw [ev_bnd2 n1, if_pos rfl, ev_bnd2 n2, if_neg hE, er_need61 hE]
      exact ⟨A2, B2, rfl, rfl, n3⟩
/-! a bell -/
theorem er_bell62 (hE : ¬ B 9 15 = 0) (p q r : Int32) : f_X6_readsBell_62 p q r B = some (0, B) := by
  unfold f_X6_readsBell_62 f_X6_readsBell_90
  rw [er_must hE, bnd_some, er_isEnd hE, bnd_some, er_must hE, bnd_some, if_neg hE, if_neg hE]
theorem er_bell40 (hE : ¬ B 9 15 = 0) (p q : Int32) : f_X6_readsBell_40 p q B = some (0, B) := by
  unfold f_X6_readsBell_40 f_X6_readsBell_57
  rw [er_isWord hE, bnd_some, if_pos rfl, er_bell62 hE, er_bell62 hE]
  exact ite_self _
theorem S_bell66 (hT : TX A0 B0 nb tx) (h : LSt A0 B0 nb tx A B s e m n t) {c : Nat} (hc : c < 24) (x : Int32) : (∃ A' B' s' e', f_X3_readBell_66 (mput A 42 c x) = some (1, A') ∧ (bnd (f_X6_isEnd B) (fun r38 => bnd (f_X6_must r38 B) (fun M40 => if M40 9 15 = 0 then chk (inB (20 + nI c) 156) (letM (mput M40 10 (ix (20 + nI c)) x) (fun M41 => f_X6_readsBell_90 M41)) else f_X6_readsBell_90 M40))) = some (1, B') ∧ LSt A0 B0 nb tx A' B' s' e' m n t ∧ e ≤ s') ∨ (∃ A' B', f_X3_readBell_66 (mput A 42 c x) = some (0, A') ∧ (bnd (f_X6_isEnd B) (fun r38 => bnd (f_X6_must r38 B) (fun M40 => if M40 9 15 = 0 then chk (inB (20 + nI c) 156) (letM (mput M40 10 (ix (20 + nI c)) x) (fun M41 => f_X6_readsBell_90 M41)) else f_X6_readsBell_90 M40))) = some (0, B') ∧ ER A0 B0 A' B') := by
  obtain ⟨h1, hr, w⟩ := h
  have t1 := h1.put (A' := mput A 42 c x) (B' := B) (fun y hy => mput_row (by omega)) (fun _ _ => rfl) h1.ok
  have hr1 : HR (mput A 42 c x) 31 (upd (B 10) (20 + c) x) m n := hr.putb hc x rfl rfl
  have w1 := w.updf (i := 20 + c) x (by unfold frI; omega)
  obtain ⟨r, hr', hS⟩ := S_sem hT t1
  unfold f_X3_readBell_66
  rw [ev_bnd hr']
  rcases hS with ⟨-, -, A5, B5, s5, e5, m1, m2, m3, m4, m5, m6⟩ | ⟨-, A5, B5, m1, m2, m3, -, -⟩
  · left
    rw [ev_bnd2 m1, ev_bnd m2, if_pos m3.w0, show (20 : Int32) = nI 20 from rfl, nI_add, ev_chk (inB_nI (show 20 + c < 156 by omega) (by decide)), letM_eq, ix_nI (by omega)]
    have w9 : (mput B5 10 (20 + c) x) 9 15 = 0 := by rw [mput_row (by decide)]; exact m3.w0
    unfold f_X6_readsBell_90
    rw [if_pos w9]
    exact ⟨A5, _, s5, e5, rfl, rfl, LSt.fin m3 (fun y hy => mput_row hy) (by rw [mput_self, m6 10 (by decide)]) (hr1.ra m5) w1, m4⟩
  · right
    have hE := m3.2.2.2.2.1
    unfold f_X6_readsBell_90
    rw [ev_bnd2 m1, ev_bnd m2, if_neg hE, if_neg hE]
    exact ⟨A5, B5, rfl, rfl, m3⟩
theorem S_rbell (hT : TX A0 B0 nb tx) (h : LSt A0 B0 nb tx A B s e m n t) : (f_X3_takeWord 6 A = some (0, A) ∧ f_X6_readsBell B = some (0, B)) ∨ (∃ A1, f_X3_takeWord 6 A = some (1, A1) ∧ s < e ∧ ((∃ A' B' s' e', f_X3_readBell A1 = some (1, A') ∧ f_X6_readsBell B = some (1, B') ∧ LSt A0 B0 nb tx A' B' s' e' m n t ∧ e ≤ s') ∨ (∃ A' B', f_X3_readBell A1 = some (0, A') ∧ f_X6_readsBell B = some (0, B') ∧ ER A0 B0 A' B'))) := by
  obtain ⟨h1, hr, w⟩ := id h
  unfold f_X6_readsBell
  rcases S_word hT h1 (w := 6) (w' := 22) (by decide) rfl with ⟨-, q2, q3⟩ | ⟨-, q2, hse, A1, B1, s1, e1, r1, -, r3, r4, r5, r6, r7⟩
  · left
    rw [ev_bnd q3, if_pos rfl]
    exact ⟨q2, rfl⟩
  · right
    refine ⟨A1, r1, hse, ?_⟩
    have hL1 := h.mov r4 r6 r7
    rw [ev_bnd q2, if_neg (by decide), ev_bnd r3]
    unfold f_X3_readBell
    rcases S_num hT r4 (lo := 0) (hi := 23) (lo' := 0) (hi' := 23) rfl rfl (by decide) (by decide) with ⟨z, A3, B3, s3, e3, v1, v2, l1, l2, l3, l4, l5, l6⟩ | ⟨A3, B3, z, l1, l2, l3, -, -⟩
    · have hL3 := hL1.mov l3 l5 l6
      have le1 := r4.le
      have le3 := l3.le
      rw [ev_bnd2 l1, if_neg (m1_ne (by omega)), ev_bnd2 l2]
      rcases S_word hT l3 (w := 7) (w' := 23) (by decide) rfl with ⟨-, a2, a3⟩ | ⟨-, a2, -, A4, B4, s4, e4, k1, -, k3, k4, k5, k6, k7⟩
      · rw [ev_bnd2 a2, if_pos rfl, ev_bnd a3, if_pos rfl]
        unfold f_X6_readsBell_40
        rw [if_neg (show ¬ (1 : Int32) = 2 by decide)]
        rcases S_word hT l3 (w := 8) (w' := 24) (by decide) rfl with ⟨-, b2', b3⟩ | ⟨-, b2', -, A4, B4, s4, e4, k1, -, k3, k4, k5, k6, k7⟩
        · right
          obtain ⟨A4, B4, k1, k2, k3, -, -⟩ := S_fail l3 (c := -2) (by decide)
          have hE := k3.2.2.2.2.1
          rw [ev_bnd2 b2', if_pos rfl, ev_bnd2 k1, ev_bnd b3, if_pos rfl]
          unfold f_X6_readsBell_62 f_X6_must f_X6_must_10 f_X6_readsBell_90
          rw [if_pos rfl, ev_bnd k2, if_neg hE, bnd_some, er_isEnd hE, bnd_some, if_pos rfl, er_errs hE, bnd_some, if_neg hE, bnd_some, if_neg hE, if_neg hE]
          exact ⟨A4, B4, rfl, rfl, k3⟩
        · have hL4 := hL3.mov k4 k6 k7
          have le4 := k4.le
          rw [ev_bnd2 k1, if_neg (by decide), ev_chk (inB_nI (show z < 24 by omega) (by decide)), letM_eq, ix_nI (by omega), ev_bnd b2', if_neg (by decide)]
          unfold f_X6_readsBell_57 f_X6_readsBell_62
          rw [ev_bnd k3]
          rcases S_bell66 hT hL4 (show z < 24 by omega) 1 with ⟨A5, B5, s5, e5, c1, c2, c3, c4⟩ | ⟨A5, B5, c1, c2, c3⟩
          · left
            exact ⟨A5, B5, s5, e5, c1, c2, c3, by omega⟩
          · right
            exact ⟨A5, B5, c1, c2, c3⟩
      · have hL4 := hL3.mov k4 k6 k7
        have le4 := k4.le
        rw [ev_bnd2 k1, if_neg (by decide), ev_chk (inB_nI (show z < 24 by omega) (by decide)), letM_eq, ix_nI (by omega), ev_bnd a2, if_neg (by decide)]
        unfold f_X6_readsBell_40 f_X6_readsBell_57 f_X6_readsBell_62
        rw [if_pos rfl, ev_bnd k3]
        rcases S_bell66 hT hL4 (show z < 24 by omega) 2 with ⟨A5, B5, s5, e5, c1, c2, c3, c4⟩ | ⟨A5, B5, c1, c2, c3⟩
        · left
          exact ⟨A5, B5, s5, e5, c1, c2, c3, by omega⟩
        · right
          exact ⟨A5, B5, c1, c2, c3⟩
    · right
      have hE := l3.2.2.2.2.1
      rw [ev_bnd2 l1, if_pos rfl, ev_bnd2 l2, er_isWord hE, bnd_some, if_pos rfl, er_bell40 hE]
      exact ⟨A3, B3, rfl, rfl, l3⟩
end IT
