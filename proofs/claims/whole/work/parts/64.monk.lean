/-! LOAD: monks -/
section AM
variable {M : Mem} {o m n t : Nat} {v : Nat → Int32}
theorem X1_addMonk (h : HR M o v m n) (w : VV v m n t) (hm : m < 12) (x rk kn : Int32) : ∃ M', f_X1_addMonk o x rk kn M = some M' ∧ (∀ y, ¬ (o ≤ y ∧ y < o + 9) → M' y = M y) ∧ (∀ c, c ≠ 12 → M' o c = M o c) ∧ M' o 12 = nI (m + 1) ∧ (∀ k, M' (o + 1) k = if k = m then x else M (o + 1) k) ∧ (∀ k, M' (o + 2) k = if k = m then rk else M (o + 2) k) ∧ (∀ k, M' (o + 3) k = if k = m then kn else M (o + 3) k) ∧ (∀ k, M' (o + 4) k = if k = m then 0 else M (o + 4) k) ∧ (∀ k, M' (o + 5) k = if k = m then 0 else M (o + 5) k) ∧ (∀ k, M' (o + 6) k = if k = m then 0 else M (o + 6) k) ∧ (∀ k, M' (o + 7) k = if k = m then 0 else M (o + 7) k) ∧ ∀ k, M' (o + 8) k = if k = m then 0 else M (o + 8) k := by
  have e12 : M o 12 = nI m := h.1.1.trans w.e0
  have i1 : inB (nI m) 12 = true := inB_nI hm (by decide)
  have xm : ix (nI m) = m := ix_nI (by omega)
  have st : ∀ (N : Mem) (j : Nat) (z : Int32), 1 ≤ j → N o = M o → (mput N (o + j) m z) o = M o := fun N j z hj e => by
    rw [mput_row (by omega)]
    exact e
  have at1 : ∀ (N : Mem) (R : Nat) (z : Int32) (k : Nat), (mput N R m z) R k = if k = m then z else N R k := fun N R z k => by
    by_cases hk : k = m
    · rw [if_pos hk, hk, mput_at]
    · rw [if_neg hk, mput_col hk]
  unfold f_X1_addMonk
  rw [e12, if_neg (show ¬ (12 : Int32) ≤ nI m from not_le_nI hm (by decide)), ev_chk i1, letM_eq, xm]
  have r1 := st M 1 x (by decide) rfl
  generalize hN1 : mput M (o + 1) m x = N1 at r1 ⊢
  rw [r1, e12, ev_chk i1, letM_eq, xm]
  have r2 := st N1 2 rk (by decide) r1
  generalize hN2 : mput N1 (o + 2) m rk = N2 at r2 ⊢
  rw [r2, e12, ev_chk i1, letM_eq, xm]
  have r3 := st N2 3 kn (by decide) r2
  generalize hN3 : mput N2 (o + 3) m kn = N3 at r3 ⊢
  rw [r3, e12, ev_chk i1, letM_eq, xm]
  have r4 := st N3 4 0 (by decide) r3
  generalize hN4 : mput N3 (o + 4) m 0 = N4 at r4 ⊢
  rw [r4, e12, ev_chk i1, letM_eq, xm]
  have r5 := st N4 5 0 (by decide) r4
  generalize hN5 : mput N4 (o + 5) m 0 = N5 at r5 ⊢
  rw [r5, e12, ev_chk i1, letM_eq, xm]
  have r6 := st N5 6 0 (by decide) r5
  generalize hN6 : mput N5 (o + 6) m 0 = N6 at r6 ⊢
  rw [r6, e12, ev_chk i1, letM_eq, xm]
  have r7 := st N6 7 0 (by decide) r6
  generalize hN7 : mput N6 (o + 7) m 0 = N7 at r7 ⊢
  rw [r7, e12, ev_chk i1, letM_eq, xm]
  have r8 := st N7 8 0 (by decide) r7
  generalize hN8 : mput N7 (o + 8) m 0 = N8 at r8 ⊢
  rw [r8, e12, letM_eq]
  have k8 : ∀ y, y ≠ o + 8 → N8 y = N7 y := fun y hy => by rw [← hN8, mput_row hy]
  have k7 : ∀ y, y ≠ o + 7 → N7 y = N6 y := fun y hy => by rw [← hN7, mput_row hy]
  have k6 : ∀ y, y ≠ o + 6 → N6 y = N5 y := fun y hy => by rw [← hN6, mput_row hy]
  have k5 : ∀ y, y ≠ o + 5 → N5 y = N4 y := fun y hy => by rw [← hN5, mput_row hy]
  have k4 : ∀ y, y ≠ o + 4 → N4 y = N3 y := fun y hy => by rw [← hN4, mput_row hy]
  have k3 : ∀ y, y ≠ o + 3 → N3 y = N2 y := fun y hy => by rw [← hN3, mput_row hy]
  have k2 : ∀ y, y ≠ o + 2 → N2 y = N1 y := fun y hy => by rw [← hN2, mput_row hy]
  have k1 : ∀ y, y ≠ o + 1 → N1 y = M y := fun y hy => by rw [← hN1, mput_row hy]
  refine ⟨_, rfl, fun y hy => ?_, fun c hc => ?_, ?_, fun k => ?_, fun k => ?_, fun k => ?_, fun k => ?_, fun k => ?_, fun k => ?_, fun k => ?_, fun k => ?_⟩
  · rw [mput_row (by omega), k8 y (by omega), k7 y (by omega), k6 y (by omega), k5 y (by omega), k4 y (by omega), k3 y (by omega), k2 y (by omega), k1 y (by omega)]
  · rw [mput_col hc, r8]
  · rw [mput_at, nI_succ]
  · rw [mput_row (by omega), k8 _ (by omega), k7 _ (by omega), k6 _ (by omega), k5 _ (by omega), k4 _ (by omega), k3 _ (by omega), k2 _ (by omega), ← hN1, at1]
  · rw [mput_row (by omega), k8 _ (by omega), k7 _ (by omega), k6 _ (by omega), k5 _ (by omega), k4 _ (by omega), k3 _ (by omega), ← hN2, at1, k1 _ (by omega)]
  · rw [mput_row (by omega), k8 _ (by omega), k7 _ (by omega), k6 _ (by omega), k5 _ (by omega), k4 _ (by omega), ← hN3, at1, k2 _ (by omega), k1 _ (by omega)]
  · rw [mput_row (by omega), k8 _ (by omega), k7 _ (by omega), k6 _ (by omega), k5 _ (by omega), ← hN4, at1, k3 _ (by omega), k2 _ (by omega), k1 _ (by omega)]
  · rw [mput_row (by omega), k8 _ (by omega), k7 _ (by omega), k6 _ (by omega), ← hN5, at1, k4 _ (by omega), k3 _ (by omega), k2 _ (by omega), k1 _ (by omega)]
  · rw [mput_row (by omega), k8 _ (by omega), k7 _ (by omega), ← hN6, at1, k5 _ (by omega), k4 _ (by omega), k3 _ (by omega), k2 _ (by omega), k1 _ (by omega)]
  · rw [mput_row (by omega), k8 _ (by omega), ← hN7, at1, k6 _ (by omega), k5 _ (by omega), k4 _ (by omega), k3 _ (by omega), k2 _ (by omega), k1 _ (by omega)]
  · rw [mput_row (by omega), ← hN8, at1, k7 _ (by omega), k6 _ (by omega), k5 _ (by omega), k4 _ (by omega), k3 _ (by omega), k2 _ (by omega), k1 _ (by omega)]
/-- the reference's row with one monk more -/
def zr (v : Nat → Int32) (m k : Nat) : Nat → Int32 := fun i => if 60 + 8 * m ≤ i ∧ i < 60 + 8 * m + k then 0 else v i
def vMk (v : Nat → Int32) (m : Nat) (y rk kn : Int32) : Nat → Int32 := upd (upd (upd (zr (upd v 0 (nI (m + 1))) m 8) (60 + 8 * m) y) (61 + 8 * m) rk) (62 + 8 * m) kn
theorem zr_s (v : Nat → Int32) (m k : Nat) : upd (zr v m k) (60 + 8 * m + k) 0 = zr v m (k + 1) := by
  funext i
  unfold upd zr
  by_cases hi : i = 60 + 8 * m + k
  · rw [if_pos hi, if_pos (by omega)]
  · rw [if_neg hi]
    by_cases h2 : 60 + 8 * m ≤ i ∧ i < 60 + 8 * m + k
    · rw [if_pos h2, if_pos (by omega)]
    · rw [if_neg h2, if_neg (by omega)]
theorem vMk_0 {y rk kn : Int32} : vMk v m y rk kn 0 = nI (m + 1) := by
  unfold vMk
  rw [upd_ne (by omega), upd_ne (by omega), upd_ne (by omega)]
  unfold zr
  rw [if_neg (by omega), upd_at]
theorem vMk_lt {y rk kn : Int32} {i : Nat} (h0 : i ≠ 0) (h : i < 60 + 8 * m) : vMk v m y rk kn i = v i := by
  unfold vMk
  rw [upd_ne (by omega), upd_ne (by omega), upd_ne (by omega)]
  unfold zr
  rw [if_neg (by omega), upd_ne h0]
theorem vMk_60 {y rk kn : Int32} {i : Nat} (h : i = 60 + 8 * m) : vMk v m y rk kn i = y := by
  unfold vMk
  rw [h, upd_ne (by omega), upd_ne (by omega), upd_at]
theorem vMk_61 {y rk kn : Int32} {i : Nat} (h : i = 61 + 8 * m) : vMk v m y rk kn i = rk := by
  unfold vMk
  rw [h, upd_ne (by omega), upd_at]
theorem vMk_62 {y rk kn : Int32} {i : Nat} (h : i = 62 + 8 * m) : vMk v m y rk kn i = kn := by
  unfold vMk
  rw [h, upd_at]
theorem vMk_z {y rk kn : Int32} {i : Nat} (h : 63 + 8 * m ≤ i) (h2 : i < 68 + 8 * m) : vMk v m y rk kn i = 0 := by
  unfold vMk
  rw [upd_ne (by omega), upd_ne (by omega), upd_ne (by omega)]
  unfold zr
  rw [if_pos (by omega)]
theorem HR.addm {M' : Mem} (h : HR M o v m n) (h8 : n ≤ 8) {x y rk kn : Int32} (hx : HN x y) (g1 : ∀ y, ¬ (o ≤ y ∧ y < o + 9) → M' y = M y) (g2 : ∀ c, c ≠ 12 → M' o c = M o c) (g3 : M' o 12 = nI (m + 1)) (p1 : ∀ k, M' (o + 1) k = if k = m then x else M (o + 1) k) (p2 : ∀ k, M' (o + 2) k = if k = m then rk else M (o + 2) k) (p3 : ∀ k, M' (o + 3) k = if k = m then kn else M (o + 3) k) (p4 : ∀ k, M' (o + 4) k = if k = m then 0 else M (o + 4) k) (p5 : ∀ k, M' (o + 5) k = if k = m then 0 else M (o + 5) k) (p6 : ∀ k, M' (o + 6) k = if k = m then 0 else M (o + 6) k) (p7 : ∀ k, M' (o + 7) k = if k = m then 0 else M (o + 7) k) (p8 : ∀ k, M' (o + 8) k = if k = m then 0 else M (o + 8) k) : HR M' o (vMk v m y rk kn) (m + 1) n := by
  obtain ⟨⟨h1, h2, h3, h4, h5, h6⟩, ha, hb, hc, hd⟩ := h
  refine ⟨⟨?_, ?_, ?_, ?_, ?_, ?_⟩, fun k hk => ?_, fun k hk => ?_, fun k hk => ?_, fun k hk => ?_⟩
  · rw [g3, vMk_0]
  · rw [g2 13 (by decide), vMk_lt (by decide) (by omega)]; exact h2
  · rw [g2 14 (by decide), vMk_lt (by decide) (by omega)]; exact h3
  · rw [g2 15 (by decide), vMk_lt (by decide) (by omega)]; exact h4
  · rw [g2 16 (by decide), vMk_lt (by decide) (by omega)]; exact h5
  · rw [g2 17 (by decide), vMk_lt (by decide) (by omega)]; exact h6
  · rw [g1 _ (by omega), vMk_lt (by omega) (by omega)]; exact ha k hk
  · rw [g1 _ (by omega), vMk_lt (by omega) (by omega)]; exact hb k hk
  · rw [g1 _ (by omega), g1 _ (by omega), vMk_lt (by omega) (by omega), vMk_lt (by omega) (by omega)]; exact hc k hk
  · rw [p1, p2, p3, p4, p5, p6, p7, p8]
    by_cases hkm : k = m
    · subst hkm
      rw [if_pos rfl, if_pos rfl, if_pos rfl, if_pos rfl, if_pos rfl, if_pos rfl, if_pos rfl, if_pos rfl, vMk_60 rfl, vMk_61 rfl, vMk_62 rfl, vMk_z (by omega) (by omega), vMk_z (by omega) (by omega), vMk_z (by omega) (by omega), vMk_z (by omega) (by omega), vMk_z (by omega) (by omega)]
      exact ⟨hx, rfl, rfl, rfl, rfl, rfl, rfl, rfl⟩
    · rw [if_neg hkm, if_neg hkm, if_neg hkm, if_neg hkm, if_neg hkm, if_neg hkm, if_neg hkm, if_neg hkm, vMk_lt (by omega) (by omega), vMk_lt (by omega) (by omega), vMk_lt (by omega) (by omega), vMk_lt (by omega) (by omega), vMk_lt (by omega) (by omega), vMk_lt (by omega) (by omega), vMk_lt (by omega) (by omega), vMk_lt (by omega) (by omega)]
      exact hd k (by omega)
theorem VV.addm (w : VV v m n t) (hm : m < 12) (y rk : Int32) {kn : Int32} (hk : By kn) : VV (vMk v m y rk kn) (m + 1) n t := by
  have h8 := w.n8
  refine ⟨by omega, h8, w.2.2.1, vMk_0, ?_, ?_, fun k hk => ?_, fun k hk2 => ?_⟩
  · rw [vMk_lt (by decide) (by omega)]; exact w.e1
  · rw [vMk_lt (by decide) (by omega)]; exact w.e4
  · rw [vMk_lt (by omega) (by omega)]; exact w.wd hk
  · by_cases hkm : k = m
    · subst hkm
      rw [vMk_62 rfl, vMk_z (by omega) (by omega), vMk_z (by omega) (by omega)]
      exact ⟨hk, ⟨0, by decide, rfl⟩, ⟨0, by decide, rfl⟩⟩
    · rw [vMk_lt (by omega) (by omega), vMk_lt (by omega) (by omega), vMk_lt (by omega) (by omega)]
      exact w.2.2.2.2.2.2.2 k (by omega)
theorem X6_addsMonk {N : Mem} (w : VV v m n t) (hm : m < 12) (y rk : Int32) : f_X6_addsMonk y rk (mrow N 10 v) = some (nI m, mrow N 10 (upd (upd (zr (upd v 0 (nI (m + 1))) m 8) (60 + 8 * m) y) (61 + 8 * m) rk)) := by
  unfold f_X6_addsMonk
  rw [letM_eq, mrow_at, w.e0, mrow_mput, ← nI_succ]
  generalize upd v 0 (nI (m + 1)) = u
  have key := lp_dn (z := fun _ _ _ _ _ => none) (b := f_X6_addsMonk_20) (fun k r => r y rk (nI m) (nI k) (mrow N 10 (zr u m k)) = some (nI m, mrow N 10 (upd (upd (zr u m 8) (60 + 8 * m) y) (61 + 8 * m) rk))) 8 (fun r => ?_) (fun k r hk ih => ?_) 0 FU (by omega) (by rw [FU_eq]; omega)
  · rw [show zr u m 0 = u from by
      funext i
      unfold zr
      rw [if_neg (by omega)]] at key
    exact key
  · unfold f_X6_addsMonk_20
    rw [if_pos (show (8 : Int32) ≤ nI 8 from le_self_nI 8), ev_bnd (ev_moc 0 (c := 0) (d := 60 + 8 * m) rfl (by omega)), ev_chk (inB_nI (show 60 + 8 * m < 156 by omega) (by decide)), letM_eq, ix_nI (by omega), mrow_mput, ev_bnd (ev_moc 1 (c := 1) (d := 61 + 8 * m) rfl (by omega)), ev_chk (inB_nI (show 61 + 8 * m < 156 by omega) (by decide)), letM_eq, ix_nI (by omega), mrow_mput]
  · unfold f_X6_addsMonk_20
    rw [if_neg (show ¬ (8 : Int32) ≤ nI k from not_le_nI hk (by decide)), ev_bnd ev_mo, ev_chk (inB_nI (show 60 + 8 * m + k < 156 by omega) (by decide)), letM_eq, ix_nI (by omega), mrow_mput, zr_s, ← nI_succ]
    exact ih
end AM
/-! sets that grow -/
theorem pc8_all : ∀ s : Fin 256, pc8 s.val ≤ 8 ∧ ∀ j : Fin 8, mem8 s.val j.val = false → pc8 (s.val ||| 2 ^ j.val) = pc8 s.val + 1 := by decide +kernel
theorem pc8_le {s : Nat} (h : s < 256) : pc8 s ≤ 8 := (pc8_all ⟨s, h⟩).1
theorem pc8_or {s j : Nat} (h : s < 256) (hj : j < 8) (hm : mem8 s j = false) : pc8 (s ||| 2 ^ j) = pc8 s + 1 := (pc8_all ⟨s, h⟩).2 ⟨j, hj⟩ hm
section MO
variable {A0 B0 A B : Mem} {nb : Nat} {tx : Nat → Nat} {s e m n t : Nat}
/-! the rank -/
theorem S_rank (hT : TX A0 B0 nb tx) (h : TS A0 B0 nb tx A B s e) : (f_X3_rankHere A = some (-1) ∧ f_X6_rankHere B = some (-1)) ∨ (∃ rk A' B' s' e', f_X3_rankHere A = some rk ∧ f_X6_rankHere B = some rk ∧ ¬ rk = -1 ∧ s < e ∧ f_X3_nextToken A = some A' ∧ f_X6_must 1 B = some B' ∧ TS A0 B0 nb tx A' B' s' e' ∧ e ≤ s' ∧ RA A A' ∧ RB B B') := by
  unfold f_X3_rankHere f_X6_rankHere
  rcases S_word hT h (w := 3) (w' := 19) (by decide) rfl with ⟨a1, -, a3⟩ | ⟨a1, a2, hse, A', B', s', e', -, r2, r3, r4, r5, r6, r7⟩
  · rw [ev_bnd a1, if_pos rfl, ev_bnd a3, if_pos rfl]
    rcases S_word hT h (w := 4) (w' := 20) (by decide) rfl with ⟨a1, -, a3⟩ | ⟨a1, a2, hse, A', B', s', e', -, r2, r3, r4, r5, r6, r7⟩
    · rw [ev_bnd a1, if_pos rfl, ev_bnd a3, if_pos rfl]
      rcases S_word hT h (w := 5) (w' := 21) (by decide) rfl with ⟨a1, -, a3⟩ | ⟨a1, a2, hse, A', B', s', e', -, r2, r3, r4, r5, r6, r7⟩
      · left
        rw [ev_bnd a1, if_pos rfl, ev_bnd a3, if_pos rfl]
        exact ⟨rfl, rfl⟩
      · right
        rw [ev_bnd a1, if_neg (by decide), ev_bnd a2, if_neg (by decide)]
        exact ⟨2, A', B', s', e', rfl, rfl, by decide, hse, r2, r3, r4, r5, r6, r7⟩
    · right
      rw [ev_bnd a1, if_neg (by decide), ev_bnd a2, if_neg (by decide)]
      exact ⟨1, A', B', s', e', rfl, rfl, by decide, hse, r2, r3, r4, r5, r6, r7⟩
  · right
    rw [ev_bnd a1, if_neg (by decide), ev_bnd a2, if_neg (by decide)]
    exact ⟨0, A', B', s', e', rfl, rfl, by decide, hse, r2, r3, r4, r5, r6, r7⟩
/-! the end of a monk -/
theorem er_mon133 (hE : ¬ B 9 15 = 0) (p q r : Int32) : f_X6_readsMonk_133 p q r B = some (0, B) := by
  unfold f_X6_readsMonk_133
  rw [er_isEnd hE, bnd_some, er_must hE, bnd_some, if_neg hE]
theorem er_mon68 (hE : ¬ B 9 15 = 0) (p q r : Int32) {g : Nat} (hg : 0 < g) : lp (fun _ _ _ _ => none) f_X6_readsMonk_68 g p q r B = some (0, B) := by
  obtain ⟨g', rfl⟩ : ∃ g', g = g' + 1 := ⟨g - 1, by omega⟩
  rw [lp_s]
  generalize lp (fun _ _ _ _ => none) f_X6_readsMonk_68 g' = rr
  unfold f_X6_readsMonk_68
  rw [if_neg hE, er_mon133 hE]
theorem er_mon111 (hE : ¬ B 9 15 = 0) (p q r z : Int32) (rec68 : Int32 → Int32 → Int32 → Mem → Option (Int32 × Mem)) : f_X6_readsMonk_111 rec68 p q r z B = rec68 p q r B := by
  unfold f_X6_readsMonk_111 f_X6_readsMonk_125
  rw [if_neg hE, er_must hE, bnd_some]
theorem S_m133 (hT : TX A0 B0 nb tx) (h : LSt A0 B0 nb tx A B s e m n t) (hm : m < 12) {x y rk kn : Int32} (hx : HN x y) (hk : By kn) : (∃ A' B' s' e', f_X3_readMonk_83 rk x kn A = some (1, A') ∧ f_X6_readsMonk_133 rk y kn B = some (1, B') ∧ LSt A0 B0 nb tx A' B' s' e' (m + 1) n t) ∨ (∃ A' B', f_X3_readMonk_83 rk x kn A = some (0, A') ∧ f_X6_readsMonk_133 rk y kn B = some (0, B') ∧ ER A0 B0 A' B') := by
  obtain ⟨h1, hr, w⟩ := h
  have h8 := w.n8
  obtain ⟨A1, g0, g1, g2, g3, p1, p2, p3, p4, p5, p6, p7, p8⟩ := X1_addMonk hr w hm x rk kn
  have hr1 := hr.addm h8 (kn := kn) hx g1 g2 g3 p1 p2 p3 p4 p5 p6 p7 p8
  have w1 := w.addm hm y rk hk
  have t1 := h1.put (A' := A1) (B' := B) (fun z hz => g1 z (by omega)) (fun _ _ => rfl) h1.ok
  obtain ⟨r, hr', hS⟩ := S_sem hT t1
  unfold f_X3_readMonk_83 f_X6_readsMonk_133
  rw [ev_bnd g0, ev_bnd hr']
  rcases hS with ⟨-, -, A5, B5, s5, e5, m1, m2, m3, -, m5, m6⟩ | ⟨-, A5, B5, m1, m2, m3, -, -⟩
  · left
    have e10 : B5 10 = B 10 := m6 10 (by decide)
    have eA := X6_addsMonk (N := B5) w hm y rk
    rw [← e10, mrow_self] at eA
    rw [ev_bnd2 m1, ev_bnd m2, if_pos m3.w0, ev_bnd2 eA, ev_bnd (ev_moc 2 (c := 2) (d := 62 + 8 * m) rfl (by omega)), ev_chk (inB_nI (show 62 + 8 * m < 156 by omega) (by decide)), letM_eq, ix_nI (by omega), mrow_mput]
    refine ⟨A5, _, s5, e5, rfl, rfl, LSt.fin m3 (fun z hz => mrow_row hz) ?_ (hr1.ra m5) w1⟩
    rw [mrow_at, e10]
    rfl
  · right
    rw [ev_bnd2 m1, ev_bnd m2, if_neg m3.2.2.2.2.1]
    exact ⟨A5, B5, rfl, rfl, m3⟩
/-! what a monk knows -/
theorem X3_name_bad (hT : TX A0 B0 nb tx) (h : TS A0 B0 nb tx A B s e) (hk : ¬ B 9 13 = 0) : f_X3_nameHere A = f_X3_nameHere_32 A := by
  have hfb := fb_lt hT s
  obtain ⟨kd, hg, g2, g3⟩ := h.2.2.2
  obtain ⟨k1, -⟩ := hg.kind
  have hk0 : ¬ kd = 0 := fun q => hk (by rw [g2, q]; rfl)
  rw [decide_eq_false hk0] at k1
  unfold f_X3_nameHere
  rw [ev_bnd (X3_fb hT h), ev_bnd (X3_fb hT h)]
  rcases lwr_f.mp k1 with q | q
  · rw [if_pos (show nI (fb nb tx s) < (97 : Int32) from (nI_ltI (b := 97) (by omega) (by decide)).mpr q)]
  · rw [if_neg (show ¬ nI (fb nb tx s) < (97 : Int32) from nI_nlt (b := 97) (by omega) (by omega)), if_pos (show (122 : Int32) < nI (fb nb tx s) from (nI_ltI (a := 122) (by decide) (by omega)).mpr q)]
theorem S_knows_step (hT : TX A0 B0 nb tx) (hm : m < 12) {x y rk : Int32} (hx : HN x y) (i st f g : Nat) (A B : Mem) (s e : Nat) (hp : pc8 st = i) (hst : st < 256) (hf : 0 < f) (hg : 1 < g) (h : LSt A0 B0 nb tx A B s e m n t)
    (ih : i < 8 → ∀ (st' : Nat) (A B : Mem) (s e : Nat), pc8 st' = i + 1 → st' < 256 → LSt A0 B0 nb tx A B s e m n t → (∃ A' B' s' e', lp (fun _ _ _ _ _ => none) f_X3_readMonk_39 (f - 1) rk x (nI st') (nI (i + 1)) A = some (1, A') ∧ lp (fun _ _ _ _ => none) f_X6_readsMonk_68 (g - 1) rk y (nI st') B = some (1, B') ∧ LSt A0 B0 nb tx A' B' s' e' (m + 1) n t) ∨ (∃ A' B', lp (fun _ _ _ _ _ => none) f_X3_readMonk_39 (f - 1) rk x (nI st') (nI (i + 1)) A = some (0, A') ∧ lp (fun _ _ _ _ => none) f_X6_readsMonk_68 (g - 1) rk y (nI st') B = some (0, B') ∧ ER A0 B0 A' B')) :
    (∃ A' B' s' e', lp (fun _ _ _ _ _ => none) f_X3_readMonk_39 f rk x (nI st) (nI i) A = some (1, A') ∧ lp (fun _ _ _ _ => none) f_X6_readsMonk_68 g rk y (nI st) B = some (1, B') ∧ LSt A0 B0 nb tx A' B' s' e' (m + 1) n t) ∨ (∃ A' B', lp (fun _ _ _ _ _ => none) f_X3_readMonk_39 f rk x (nI st) (nI i) A = some (0, A') ∧ lp (fun _ _ _ _ => none) f_X6_readsMonk_68 g rk y (nI st) B = some (0, B') ∧ ER A0 B0 A' B') := by
  obtain ⟨f', rfl⟩ : ∃ f', f = f' + 1 := ⟨f - 1, by omega⟩
  obtain ⟨g', rfl⟩ : ∃ g', g = g' + 1 := ⟨g - 1, by omega⟩
  have hi8 : i ≤ 8 := by rw [← hp]; exact pc8_le hst
  have hE0 : ∀ (p q r : Int32) (C : Mem), ¬ C 9 15 = 0 → lp (fun _ _ _ _ => none) f_X6_readsMonk_68 g' p q r C = some (0, C) := fun p q r C hE => er_mon68 hE p q r (by omega)
  rw [show f' + 1 - 1 = f' from rfl, show g' + 1 - 1 = g' from rfl] at ih
  rw [lp_s, lp_s]
  generalize lp (fun _ _ _ _ _ => none) f_X3_readMonk_39 f' = rf at ih ⊢
  generalize lp (fun _ _ _ _ => none) f_X6_readsMonk_68 g' = rg at ih hE0 ⊢
  obtain ⟨h1, hr, w⟩ := id h
  have h8 := w.n8
  have hB : By (nI st) := ⟨st, hst, rfl⟩
  have hfb := fb_lt hT s
  have w0 := h1.w0
  have hend := X6_isEnd_ok hT h1
  unfold f_X3_readMonk_39 f_X6_readsMonk_68
  rw [if_neg (show ¬ (8 : Int32) < nI i from nI_nlt (a := 8) hi8 (by decide)), ev_bnd (X3_fb hT h1), if_pos w0]
  by_cases h59 : fb nb tx s = 59
  · have hk2 : ¬ B 9 13 = 0 := by
      obtain ⟨kd, hg, g2, g3⟩ := h1.2.2.2
      rw [g2, hg.kind.2.2.2.2.2 h59]
      decide
    rw [if_pos (show nI (fb nb tx s) = (59 : Int32) from by rw [h59]; rfl), if_neg hk2]
    exact S_m133 hT h hm hx hB
  · rw [if_neg (show ¬ nI (fb nb tx s) = (59 : Int32) from fun q => h59 (nI_inj (b := 59) (by omega) (by decide) q))]
    by_cases hk : B 9 13 = 0
    · rw [if_pos hk]
      rcases S_tneed hT h1 hr w rfl hB with ⟨j, hj, q1, hse, -, hq⟩ | ⟨A', B', q, q1, q2, q3, -, -⟩
      · rw [ev_bnd2 q1, if_pos w0]
        have hmm : (ishr (nI st) (nI j) &&& 1) = 1 ↔ mem8 st j = true := mm_nI hst (by omega)
        have e8 : mm (nI st) j = mem8 st j := by
          unfold mm
          rw [ix_nI (by omega)]
        rw [e8] at hq
        rcases hq with ⟨hmf, A', B', s', e', u1, u2, u3, -, u5, u6⟩ | ⟨hmt, A', B', u1, u2, u3, -, -⟩
        · have hp' := pc8_or hst (by omega) hmf
          have hlt' := or_lt hst (show j < 8 by omega)
          have hle' := pc8_le hlt'
          rw [ev_bnd2 u1, if_neg (m1_ne (by omega)), if_neg (fun z => by rw [hmm.mp z] at hmf; cases hmf)]
          unfold f_X6_readsMonk_111 f_X6_readsMonk_125
          rw [if_pos w0, ev_bnd u2, or_nI hst (by omega), ← nI_succ]
          exact ih (by omega) _ A' B' s' e' (by omega) hlt' (h.mov u3 u5 u6)
        · right
          have hE := u3.2.2.2.2.1
          rw [ev_bnd2 u1, if_pos rfl, if_pos (hmm.mpr hmt), ev_bnd u2, er_mon111 hE, hE0 _ _ _ _ hE]
          exact ⟨A', B', rfl, rfl, u3⟩
      · right
        have hE := q3.2.2.2.2.1
        rw [ev_bnd2 q1, if_pos rfl, ev_bnd2 q2, if_neg hE, er_mon111 hE, hE0 _ _ _ _ hE]
        exact ⟨A', B', rfl, rfl, q3⟩
    · right
      obtain ⟨A', B', k1, k2, k3, -, -⟩ := S_fail h1 (c := -2) (by decide)
      have hE := k3.2.2.2.2.1
      have e32 : f_X3_nameHere A = some (0, A') := by
        rw [X3_name_bad hT h1 hk]
        unfold f_X3_nameHere_32
        rw [ev_bnd2 k1]
      rw [decide_eq_false h59] at hend
      rw [if_neg hk]
      unfold f_X3_takeNeed f_X6_readsMonk_133 f_X6_must f_X6_must_10
      rw [ev_bnd2 e32, if_pos rfl, bnd2_some, if_pos rfl, ev_bnd hend, if_pos b2_f, ev_bnd k2, if_neg hE, bnd_some, if_neg hE]
      exact ⟨A', B', rfl, rfl, k3⟩
theorem S_knows (hT : TX A0 B0 nb tx) (hm : m < 12) {x y rk : Int32} (hx : HN x y) : ∀ (d i st f g : Nat) (A B : Mem) (s e : Nat), 8 - i ≤ d → pc8 st = i → st < 256 → d < f → d + 1 < g → LSt A0 B0 nb tx A B s e m n t → (∃ A' B' s' e', lp (fun _ _ _ _ _ => none) f_X3_readMonk_39 f rk x (nI st) (nI i) A = some (1, A') ∧ lp (fun _ _ _ _ => none) f_X6_readsMonk_68 g rk y (nI st) B = some (1, B') ∧ LSt A0 B0 nb tx A' B' s' e' (m + 1) n t) ∨ (∃ A' B', lp (fun _ _ _ _ _ => none) f_X3_readMonk_39 f rk x (nI st) (nI i) A = some (0, A') ∧ lp (fun _ _ _ _ => none) f_X6_readsMonk_68 g rk y (nI st) B = some (0, B') ∧ ER A0 B0 A' B') := by
  intro d
  induction d with
  | zero =>
    intro i st f g A B s e hd hp hst hf hg h
    exact S_knows_step hT hm hx i st f g A B s e hp hst (by omega) (by omega) h (fun hlt => absurd hlt (by omega))
  | succ d ih =>
    intro i st f g A B s e hd hp hst hf hg h
    exact S_knows_step hT hm hx i st f g A B s e hp hst (by omega) (by omega) h (fun hlt st' A' B' s' e' hp' hst' h' => ih (i + 1) st' (f - 1) (g - 1) A' B' s' e' (by omega) hp' hst' (by omega) (by omega) h')
theorem S_rmonk (hT : TX A0 B0 nb tx) (h : LSt A0 B0 nb tx A B s e m n t) (hm : m < 12) : (f_X3_rankHere A = some (-1) ∧ f_X6_rankHere B = some (-1) ∧ f_X6_readsMonk B = some (0, B)) ∨ (∃ rk A1, f_X3_rankHere A = some rk ∧ f_X6_rankHere B = some rk ∧ ¬ rk = -1 ∧ f_X3_nextToken A = some A1 ∧ ((∃ A' B' s' e', f_X3_readMonk rk A1 = some (1, A') ∧ f_X6_readsMonk B = some (1, B') ∧ LSt A0 B0 nb tx A' B' s' e' (m + 1) n t) ∨ (∃ A' B', f_X3_readMonk rk A1 = some (0, A') ∧ f_X6_readsMonk B = some (0, B') ∧ ER A0 B0 A' B'))) := by
  obtain ⟨h1, hr, w⟩ := id h
  unfold f_X6_readsMonk
  rcases S_rank hT h1 with ⟨a1, a2⟩ | ⟨rk, A1, B1, s1, e1, a1, a2, a3, -, r1, r3, r4, -, r6, r7⟩
  · left
    rw [ev_bnd a2, if_pos rfl]
    exact ⟨a1, a2, rfl⟩
  · right
    refine ⟨rk, A1, a1, a2, a3, r1, ?_⟩
    have hL1 := h.mov r4 r6 r7
    obtain ⟨-, hr1, w1⟩ := id hL1
    rw [ev_bnd a2, if_neg a3, w.e0, if_neg (show ¬ nI m = (12 : Int32) from fun z => by have := nI_inj (b := 12) (by omega) (by decide) z; omega)]
    unfold f_X6_readsMonk_29 f_X3_readMonk
    rw [ev_bnd r3]
    have er61 : ∀ (C : Mem) (z : Int32), ¬ C 9 15 = 0 → f_X6_readsMonk_61 rk z C = some (0, C) := fun C z hE => by
      unfold f_X6_readsMonk_61
      rw [er_must hE, bnd_some, er_mon68 hE rk z 0 (by rw [FU_eq]; decide)]
    rcases S_name hT r4 with ⟨ls, hl, n1, n2, -, -⟩ | ⟨A2, B2, z, n1, n2, n3, -, -⟩
    · obtain ⟨q, f1, f2, f3⟩ := S_fmonk hr1 w1 rfl hl
      have hp := f32_pos hl
      have hlt := f32_lt hl
      have hz : ¬ nI (f32 ls) = 0 := nI_ne0 (by omega) (by omega)
      rw [ev_bnd2 n1, if_neg hz, ev_bnd f1, ev_bnd2 n2, if_pos r4.w0, ev_bnd f2]
      rcases f3 with rfl | ⟨j, hj, rfl⟩
      · obtain ⟨A2, B2, s2, e2, k1, k2, k3, -, k5, k6⟩ := S_next hT r4
        have hL2 := hL1.mov k3 k5 k6
        rw [if_pos rfl, ev_bnd k1, if_pos rfl]
        unfold f_X6_readsMonk_61
        rw [X6_must_1 r4.w0 k2, bnd_some]
        exact S_knows hT hm ⟨ls, hl, rfl, rfl⟩ 8 0 0 FU FU A2 B2 s2 e2 (by decide) (by decide) (by decide) (by rw [FU_eq]; decide) (by rw [FU_eq]; decide) hL2
      · right
        obtain ⟨A2, B2, k1, k2, k3, -, -⟩ := S_fail r4 (c := -5) (by decide)
        have hm1 : ¬ nI j = -1 := m1_ne (by omega)
        rw [if_neg hm1, ev_bnd2 k1, if_neg hm1, ev_bnd k2, er61 B2 _ k3.2.2.2.2.1]
        exact ⟨A2, B2, rfl, rfl, k3⟩
    · right
      have hE := n3.2.2.2.2.1
      rw [ev_bnd2 n1, if_pos rfl, ev_bnd2 n2, if_neg hE, er61 B2 _ hE]
      exact ⟨A2, B2, rfl, rfl, n3⟩
end MO
