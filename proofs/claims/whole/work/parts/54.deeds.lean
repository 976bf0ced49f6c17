/-! THE DEEDS: give, pass, tell, on a house and on the reference's row -/
def HF (M0 M : Mem) (o : Nat) (v : Nat → Int32) (m n : Nat) : Prop := HR M o v m n ∧ ∀ x, ¬ (o ≤ x ∧ x < o + 13) → M x = M0 x
theorem HF.refl {M : Mem} {o m n : Nat} {v : Nat → Int32} (h : HR M o v m n) : HF M M o v m n := ⟨h, fun _ _ => rfl⟩
theorem HF.putm {M0 M : Mem} {o m n c a : Nat} {v : Nat → Int32} (h : HF M0 M o v m n) (h8 : n ≤ 8) (c1 : 1 ≤ c) (c7 : c ≤ 7) (x : Int32) {R I : Nat} (eR : R = o + 1 + c) (eI : I = 60 + 8 * a + c) : HF M0 (mput M R a x) o (upd v I x) m n := ⟨h.1.putm h8 c1 c7 x eR eI, fun y hy => by rw [mput_row (by omega)]; exact h.2 y hy⟩
theorem HF.puta {M0 M : Mem} {o m n c : Nat} {v : Nat → Int32} (h : HF M0 M o v m n) (hc : c < 14) (x : Int32) {R I : Nat} (eR : R = o + 12) (eI : I = 6 + c) : HF M0 (mput M R c x) o (upd v I x) m n := ⟨h.1.puta hc x eR eI, fun y hy => by rw [mput_row (by omega)]; exact h.2 y hy⟩
theorem HF.puts {M0 M : Mem} {o m n c : Nat} {v : Nat → Int32} (h : HF M0 M o v m n) (hc : c < 6) (x : Int32) {C : Nat} (eC : C = 12 + c) : HF M0 (mput M o C x) o (upd v c x) m n := ⟨h.1.puts hc x eC, fun y hy => by rw [mput_row (by omega)]; exact h.2 y hy⟩
theorem HF.trans {M0 M1 M : Mem} {o m n m' n' : Nat} {v v' : Nat → Int32} (h : HF M0 M1 o v m n) (h' : HF M1 M o v' m' n') : HF M0 M o v' m' n' := ⟨h'.1, fun x hx => (h'.2 x hx).trans (h.2 x hx)⟩
section DD
variable {M N : Mem} {o m n t : Nat} {v : Nat → Int32}
/-! give -/
def sGv (v : Nat → Int32) (a b : Nat) (x : Int32) : Nat → Int32 :=
  upd (upd (upd v (64 + 8 * b) (v (64 + 8 * b) + x)) (66 + 8 * a) (upd v (64 + 8 * b) (v (64 + 8 * b) + x) (66 + 8 * a) + x)) 16 (upd (upd v (64 + 8 * b) (v (64 + 8 * b) + x)) (66 + 8 * a) (upd v (64 + 8 * b) (v (64 + 8 * b) + x) (66 + 8 * a) + x) 16 + x)
theorem X1_giveLeave (h : HR M o v m n) (w : VV v m n t) {a b : Nat} (ha : a < m) (hb : b < m) (x : Int32) : ∃ M1, f_X1_giveLeave o (nI a) (nI b) x M = some (sGv v a b x (64 + 8 * b), M1) ∧ HF M M1 o (sGv v a b x) m n := by
  have h12 := w.m12
  have h8 := w.n8
  have i1 : inB (nI a) 12 = true := inB_nI (by omega) (by decide)
  have i2 : inB (nI b) 12 = true := inB_nI (by omega) (by decide)
  have g0 := HF.refl h
  unfold f_X1_giveLeave
  rw [ev_chk i2, ev_chk i2, letM_eq, ix_nI (by omega), ix_nI (by omega), g0.1.lv hb]
  have g1 := g0.putm (a := b) h8 (c := 4) (by decide) (by decide) (v (64 + 8 * b) + x) (R := o + 5) (I := 64 + 8 * b) rfl (by omega)
  generalize mput M (o + 5) b (v (64 + 8 * b) + x) = M1 at g1 ⊢
  rw [ev_chk i1, ev_chk i1, letM_eq, g1.1.gv ha]
  have g2 := g1.putm (a := a) h8 (c := 6) (by decide) (by decide) (upd v (64 + 8 * b) (v (64 + 8 * b) + x) (66 + 8 * a) + x) (R := o + 7) (I := 66 + 8 * a) rfl (by omega)
  generalize mput M1 (o + 7) a (upd v (64 + 8 * b) (v (64 + 8 * b) + x) (66 + 8 * a) + x) = M2 at g2 ⊢
  rw [letM_eq, g2.1.acc (k := 10) (by decide)]
  have g3 := g2.puta (c := 10) (by decide) (upd (upd v (64 + 8 * b) (v (64 + 8 * b) + x)) (66 + 8 * a) (upd v (64 + 8 * b) (v (64 + 8 * b) + x) (66 + 8 * a) + x) (6 + 10) + x) (R := o + 12) (I := 16) rfl rfl
  generalize mput M2 (o + 12) 10 (upd (upd v (64 + 8 * b) (v (64 + 8 * b) + x)) (66 + 8 * a) (upd v (64 + 8 * b) (v (64 + 8 * b) + x) (66 + 8 * a) + x) (6 + 10) + x) = M3 at g3 ⊢
  rw [ev_chk i2, g3.1.lv hb]
  exact ⟨M3, rfl, g3⟩
theorem X6_gives (w : VV v m n t) {a b : Nat} (ha : a < m) (hb : b < m) (x : Int32) : f_X6_gives (nI a) (nI b) x (mrow N 10 v) = some (sGv v a b x (64 + 8 * b), mrow N 10 (sGv v a b x)) := by
  have h12 := w.m12
  have e4 : ∀ N : Mem, f_X6_mo (nI b) 4 N = some (nI (64 + 8 * b)) := fun N => ev_moc 4 (c := 4) rfl (by omega)
  have e6 : ∀ N : Mem, f_X6_mo (nI a) 6 N = some (nI (66 + 8 * a)) := fun N => ev_moc 6 (c := 6) rfl (by omega)
  have i1 : inB (nI (64 + 8 * b)) 156 = true := inB_nI (by omega) (by decide)
  have i2 : inB (nI (66 + 8 * a)) 156 = true := inB_nI (by omega) (by decide)
  unfold f_X6_gives
  rw [ev_bnd (e4 _), ev_chk i1, ev_chk i1, letM_eq, ix_nI (by omega), mrow_at, mrow_mput, ev_bnd (e6 _), ev_chk i2, ev_chk i2, letM_eq, ix_nI (by omega), mrow_at, mrow_mput, letM_eq, mrow_at, mrow_mput, ev_bnd (e4 _), ev_chk i1, ix_nI (by omega), mrow_at]
  rfl
theorem sGv_VV (w : VV v m n t) {a b : Nat} (hb : b < m) {x : Nat} (hx : x ≤ 99) (hz : v (64 + 8 * b) + nI x ≤ 99) : VV (sGv v a b (nI x)) m n t := by
  obtain ⟨l, hl, e⟩ := w.lv hb
  have hs : Sm 99 (v (64 + 8 * b) + nI x) := by
    rw [e, nI_add] at hz ⊢
    exact ⟨l + x, (nI_leI (by omega) (by decide)).mp (show nI (l + x) ≤ nI 99 from hz), rfl⟩
  exact ((w.updl _ hs).updf _ (by unfold frI; omega)).updf _ (by unfold frI; omega)
/-! the end of a day -/
def sEk (v : Nat → Int32) (k : Nat) : Nat → Int32 :=
  let v1 := upd v 17 (v 17 + v (64 + 8 * k))
  let v2 := upd v1 (64 + 8 * k) 0
  let v4 := upd v2 (65 + 8 * k) (v2 (65 + 8 * k) - 1)
  let v3 := if v2 (67 + 8 * k) = 0 then (if v2 (65 + 8 * k) ≤ 0 then v2 else upd v4 15 (v4 15 + 1)) else v2
  upd (upd v3 (66 + 8 * k) 0) (67 + 8 * k) 0
theorem sEk_VV (w : VV v m n t) (k : Nat) : VV (sEk v k) m n t := by
  have w2 : VV (upd (upd v 17 (v 17 + v (64 + 8 * k))) (64 + 8 * k) 0) m n t := (w.updf _ (by unfold frI; omega)).updl _ ⟨0, by decide, rfl⟩
  unfold sEk
  dsimp only
  refine VV.updf (VV.updf ?_ _ (by unfold frI; omega)) _ (by unfold frI; omega)
  split
  · split
    · exact w2
    · exact (w2.updf _ (by unfold frI; omega)).updf _ (by unfold frI; omega)
  · exact w2
def sEd (m : Nat) : Nat → Nat → (Nat → Int32) → (Nat → Int32)
  | 0, _, v => v
  | d + 1, k, v => sEd m d (k + 1) (sEk v k)
theorem sEd_VV : ∀ (d k : Nat) {v : Nat → Int32}, VV v m n t → VV (sEd m d k v) m n t
  | 0, _, _, w => w
  | d + 1, k, _, w => sEd_VV d (k + 1) (sEk_VV w k)
theorem X1_endDay (h : HR M o v m n) (w : VV v m n t) : ∃ M1, f_X1_endDay o M = some M1 ∧ HF M M1 o (sEd m m 0 v) m n := by
  have h12 := w.m12
  have h8 := w.n8
  refine lp_dn (z := fun _ _ => none) (b := f_X1_endDay_2 o) (fun k r => ∀ (M : Mem) (v : Nat → Int32), HR M o v m n → VV v m n t → ∃ M1, r (nI k) M = some M1 ∧ HF M M1 o (sEd m (m - k) k v) m n) m (fun r M v h w => ?_) (fun k r hk ih M v h w => ?_) 0 FU (by omega) (by rw [FU_eq]; omega) M v h w
  · unfold f_X1_endDay_2
    rw [h.1.1, w.e0, if_pos (le_self_nI m), Nat.sub_self]
    exact ⟨M, rfl, HF.refl h⟩
  · have i1 : inB (nI k) 12 = true := inB_nI (by omega) (by decide)
    have g0 := HF.refl h
    have hdone : ∀ (N : Mem) (u : Nat → Int32), HF M N o u m n → VV u m n t → upd (upd u (66 + 8 * k) 0) (67 + 8 * k) 0 = sEk v k → ∃ M1, f_X1_endDay_72 o r (nI k) N = some M1 ∧ HF M M1 o (sEd m (m - k) k v) m n := fun N u g wu e => by
      unfold f_X1_endDay_72
      rw [ev_chk i1, letM_eq, ix_nI (by omega)]
      have g1 := g.putm (a := k) h8 (c := 6) (by decide) (by decide) 0 (R := o + 7) (I := 66 + 8 * k) rfl (by omega)
      generalize mput N (o + 7) k 0 = N1 at g1 ⊢
      rw [ev_chk i1, letM_eq]
      have g2 := g1.putm (a := k) h8 (c := 7) (by decide) (by decide) 0 (R := o + 8) (I := 67 + 8 * k) rfl (by omega)
      generalize mput N1 (o + 8) k 0 = N2 at g2 ⊢
      rw [e] at g2
      obtain ⟨M1, e1, e2⟩ := ih N2 _ g2.1 (sEk_VV w k)
      rw [← nI_succ, e1]
      refine ⟨M1, rfl, ?_⟩
      rw [show m - k = (m - (k + 1)) + 1 by omega]
      exact g2.trans e2
    unfold f_X1_endDay_2
    rw [h.1.1, w.e0, if_neg (not_le_nI hk (by omega)), ev_chk i1, letM_eq, ix_nI (by omega), h.lv hk, h.acc (k := 11) (by decide)]
    have g1 := g0.puta (c := 11) (by decide) (v (6 + 11) + v (64 + 8 * k)) (R := o + 12) (I := 17) rfl rfl
    generalize mput M (o + 12) 11 (v (6 + 11) + v (64 + 8 * k)) = N1 at g1 ⊢
    rw [ev_chk i1, letM_eq]
    have g2 := g1.putm (a := k) h8 (c := 4) (by decide) (by decide) 0 (R := o + 5) (I := 64 + 8 * k) rfl (by omega)
    generalize mput N1 (o + 5) k 0 = N2 at g2 ⊢
    have w2 : VV (upd (upd v 17 (v (6 + 11) + v (64 + 8 * k))) (64 + 8 * k) 0) m n t := (w.updf _ (by unfold frI; omega)).updl _ ⟨0, by decide, rfl⟩
    have eS : sEk v k = upd (upd (if (upd (upd v 17 (v (6 + 11) + v (64 + 8 * k))) (64 + 8 * k) 0) (67 + 8 * k) = 0 then (if (upd (upd v 17 (v (6 + 11) + v (64 + 8 * k))) (64 + 8 * k) 0) (65 + 8 * k) ≤ 0 then (upd (upd v 17 (v (6 + 11) + v (64 + 8 * k))) (64 + 8 * k) 0) else upd (upd (upd (upd v 17 (v (6 + 11) + v (64 + 8 * k))) (64 + 8 * k) 0) (65 + 8 * k) ((upd (upd v 17 (v (6 + 11) + v (64 + 8 * k))) (64 + 8 * k) 0) (65 + 8 * k) - 1)) 15 ((upd (upd (upd v 17 (v (6 + 11) + v (64 + 8 * k))) (64 + 8 * k) 0) (65 + 8 * k) ((upd (upd v 17 (v (6 + 11) + v (64 + 8 * k))) (64 + 8 * k) 0) (65 + 8 * k) - 1)) 15 + 1)) else (upd (upd v 17 (v (6 + 11) + v (64 + 8 * k))) (64 + 8 * k) 0)) (66 + 8 * k) 0) (67 + 8 * k) 0 := rfl
    generalize upd (upd v 17 (v (6 + 11) + v (64 + 8 * k))) (64 + 8 * k) 0 = u at g2 w2 eS
    rw [ev_chk i1, g2.1.bk hk]
    by_cases hb : u (67 + 8 * k) = 0
    · rw [if_pos hb] at eS ⊢
      rw [ev_chk i1, g2.1.fs hk]
      by_cases hf : u (65 + 8 * k) ≤ 0
      · rw [if_pos hf] at eS ⊢
        exact hdone N2 u g2 w2 eS.symm
      · rw [if_neg hf] at eS ⊢
        rw [ev_chk i1, ev_chk i1, letM_eq]
        have g3 := g2.putm (a := k) h8 (c := 5) (by decide) (by decide) (u (65 + 8 * k) - 1) (R := o + 6) (I := 65 + 8 * k) rfl (by omega)
        have w3 := w2.updf (i := 65 + 8 * k) (u (65 + 8 * k) - 1) (by unfold frI; omega)
        generalize mput N2 (o + 6) k (u (65 + 8 * k) - 1) = N3 at g3 ⊢
        rw [letM_eq, g3.1.acc (k := 9) (by decide)]
        have g4 := g3.puta (c := 9) (by decide) (upd u (65 + 8 * k) (u (65 + 8 * k) - 1) (6 + 9) + 1) (R := o + 12) (I := 15) rfl rfl
        have w4 := w3.updf (i := 15) (upd u (65 + 8 * k) (u (65 + 8 * k) - 1) (6 + 9) + 1) (by unfold frI; omega)
        generalize mput N3 (o + 12) 9 (upd u (65 + 8 * k) (u (65 + 8 * k) - 1) (6 + 9) + 1) = N4 at g4 ⊢
        exact hdone N4 _ g4 w4 eS.symm
    · rw [if_neg hb] at eS ⊢
      exact hdone N2 u g2 w2 eS.symm
theorem X6_endsDay (w : VV v m n t) : f_X6_endsDay (mrow N 10 v) = some (mrow N 10 (sEd m m 0 v)) := by
  have h12 := w.m12
  refine lp_dn (z := fun _ _ => none) (b := f_X6_endsDay_2) (fun k r => ∀ (v : Nat → Int32), VV v m n t → r (nI k) (mrow N 10 v) = some (mrow N 10 (sEd m (m - k) k v))) m (fun r v w => ?_) (fun k r hk ih v w => ?_) 0 FU (by omega) (by rw [FU_eq]; omega) v w
  · unfold f_X6_endsDay_2
    rw [mrow_at, w.e0, if_pos (le_self_nI m), Nat.sub_self]
    rfl
  · have e4 : ∀ N : Mem, f_X6_mo (nI k) 4 N = some (nI (64 + 8 * k)) := fun N => ev_moc 4 (c := 4) rfl (by omega)
    have e5 : ∀ N : Mem, f_X6_mo (nI k) 5 N = some (nI (65 + 8 * k)) := fun N => ev_moc 5 (c := 5) rfl (by omega)
    have e6 : ∀ N : Mem, f_X6_mo (nI k) 6 N = some (nI (66 + 8 * k)) := fun N => ev_moc 6 (c := 6) rfl (by omega)
    have e7 : ∀ N : Mem, f_X6_mo (nI k) 7 N = some (nI (67 + 8 * k)) := fun N => ev_moc 7 (c := 7) rfl (by omega)
    have i4 : inB (nI (64 + 8 * k)) 156 = true := inB_nI (by omega) (by decide)
    have i5 : inB (nI (65 + 8 * k)) 156 = true := inB_nI (by omega) (by decide)
    have i6 : inB (nI (66 + 8 * k)) 156 = true := inB_nI (by omega) (by decide)
    have i7 : inB (nI (67 + 8 * k)) 156 = true := inB_nI (by omega) (by decide)
    have x4 : ix (nI (64 + 8 * k)) = 64 + 8 * k := ix_nI (by omega)
    have x5 : ix (nI (65 + 8 * k)) = 65 + 8 * k := ix_nI (by omega)
    have x6 : ix (nI (66 + 8 * k)) = 66 + 8 * k := ix_nI (by omega)
    have x7 : ix (nI (67 + 8 * k)) = 67 + 8 * k := ix_nI (by omega)
    have hdone : ∀ u : Nat → Int32, upd (upd u (66 + 8 * k) 0) (67 + 8 * k) 0 = sEk v k → f_X6_endsDay_95 r (nI k) (mrow N 10 u) = some (mrow N 10 (sEd m (m - k) k v)) := fun u e => by
      unfold f_X6_endsDay_95
      rw [ev_bnd (e6 _), ev_chk i6, letM_eq, x6, mrow_mput, ev_bnd (e7 _), ev_chk i7, letM_eq, x7, mrow_mput, e, ← nI_succ, ih _ (sEk_VV w k), show m - k = (m - (k + 1)) + 1 by omega]
      rfl
    unfold f_X6_endsDay_2
    rw [mrow_at, w.e0, if_neg (not_le_nI hk (by omega)), ev_bnd (e4 _), ev_chk i4, letM_eq, x4, mrow_mput, ev_bnd (e4 _), ev_chk i4, letM_eq, x4, mrow_mput, ev_bnd (e7 _), ev_chk i7, x7, mrow_at, ev_bnd (e5 _), ev_chk i5, x5, ev_bnd (e5 _), ev_chk i5, ev_chk i5, letM_eq, x5, mrow_mput, letM_eq, mrow_at, mrow_mput]
    have eS : sEk v k = upd (upd (if (upd (upd v 17 (v 17 + v (64 + 8 * k))) (64 + 8 * k) 0) (67 + 8 * k) = 0 then (if (upd (upd v 17 (v 17 + v (64 + 8 * k))) (64 + 8 * k) 0) (65 + 8 * k) ≤ 0 then (upd (upd v 17 (v 17 + v (64 + 8 * k))) (64 + 8 * k) 0) else upd (upd (upd (upd v 17 (v 17 + v (64 + 8 * k))) (64 + 8 * k) 0) (65 + 8 * k) ((upd (upd v 17 (v 17 + v (64 + 8 * k))) (64 + 8 * k) 0) (65 + 8 * k) - 1)) 15 ((upd (upd (upd v 17 (v 17 + v (64 + 8 * k))) (64 + 8 * k) 0) (65 + 8 * k) ((upd (upd v 17 (v 17 + v (64 + 8 * k))) (64 + 8 * k) 0) (65 + 8 * k) - 1)) 15 + 1)) else (upd (upd v 17 (v 17 + v (64 + 8 * k))) (64 + 8 * k) 0)) (66 + 8 * k) 0) (67 + 8 * k) 0 := rfl
    generalize upd (upd v 17 (v 17 + v (64 + 8 * k))) (64 + 8 * k) 0 = u at eS ⊢
    by_cases hb : u (67 + 8 * k) = 0
    · rw [if_pos hb] at eS ⊢
      by_cases hf : u (65 + 8 * k) ≤ 0
      · rw [if_pos hf] at eS ⊢
        exact hdone u eS.symm
      · rw [if_neg hf] at eS ⊢
        exact hdone _ eS.symm
    · rw [if_neg hb] at eS ⊢
      exact hdone u eS.symm
/-! hours go by -/
def sPv (m : Nat) : Nat → Nat → (Nat → Int32) → (Nat → Int32)
  | 0, _, v => v
  | d + 1, t, v => if (t + 1) % 24 = 0 then sPv m d (t + 1) (sEd m m 0 (upd v 4 (nI (t + 1)))) else sPv m d (t + 1) (upd v 4 (nI (t + 1)))
def sPd : Nat → Nat → Nat → Nat
  | 0, _, c => c
  | d + 1, t, c => if (t + 1) % 24 = 0 then sPd d (t + 1) (c + 1) else sPd d (t + 1) c
theorem sPd_t {d t c : Nat} (h : (t + 1) % 24 = 0) : sPd (d + 1) t c = sPd d (t + 1) (c + 1) := if_pos h
theorem sPd_f {d t c : Nat} (h : ¬ (t + 1) % 24 = 0) : sPd (d + 1) t c = sPd d (t + 1) c := if_neg h
theorem sPv_t {m d t : Nat} {v : Nat → Int32} (h : (t + 1) % 24 = 0) : sPv m (d + 1) t v = sPv m d (t + 1) (sEd m m 0 (upd v 4 (nI (t + 1)))) := if_pos h
theorem sPv_f {m d t : Nat} {v : Nat → Int32} (h : ¬ (t + 1) % 24 = 0) : sPv m (d + 1) t v = sPv m d (t + 1) (upd v 4 (nI (t + 1))) := if_neg h
theorem sPv_VV : ∀ (d t : Nat) {v : Nat → Int32}, VV v m n t → t + d ≤ 9999 → VV (sPv m d t v) m n (t + d)
  | 0, _, _, w, _ => w
  | d + 1, t, v, w, h => by
    unfold sPv
    have w1 := w.updt (t' := t + 1) (by omega)
    split
    · have := sPv_VV d (t + 1) (sEd_VV m 0 w1) (by omega)
      rw [show t + (d + 1) = t + 1 + d by omega]
      exact this
    · have := sPv_VV d (t + 1) w1 (by omega)
      rw [show t + (d + 1) = t + 1 + d by omega]
      exact this
theorem tick {t : Nat} (h : t + 1 ≤ 9999) : irem (nI (t + 1)) 24 = 0 ↔ (t + 1) % 24 = 0 := by
  rw [show (24 : Int32) = nI 24 from rfl, nI_irem (by omega) (by decide), show (0 : Int32) = nI 0 from rfl, nI_eq (by omega) (by decide)]
theorem X1_passHours (h : HR M o v m n) (w : VV v m n t) {hh : Nat} (hx : hh ≤ 99) (ht : t + hh ≤ 9999) : ∃ M1, f_X1_passHours o (nI hh) M = some (nI (sPd hh t 0), M1) ∧ HF M M1 o (sPv m hh t v) m n := by
  have key := lp_dn (z := fun _ _ _ _ => none) (b := f_X1_passHours_4 o) (fun k r => ∀ (M : Mem) (v : Nat → Int32) (t c : Nat), HR M o v m n → VV v m n t → t + (hh - k) ≤ 9999 → ∃ M1, r (nI hh) (nI c) (nI k) M = some (nI (sPd (hh - k) t c), M1) ∧ HF M M1 o (sPv m (hh - k) t v) m n) hh (fun r M v t c h w ht => ?_) (fun k r hk ih M v t c h w ht => ?_) 0 FU (by omega) (by rw [FU_eq]; omega) M v t 0 h w ht
  · exact key
  · unfold f_X1_passHours_4
    rw [if_pos (le_self_nI hh), Nat.sub_self]
    exact ⟨M, rfl, HF.refl h⟩
  · unfold f_X1_passHours_4 f_X1_passHours_36
    rw [if_neg (not_le_nI hk (by omega)), letM_eq, h.tim, w.e4, ← nI_succ t]
    have g1 := (HF.refl h).puts (c := 4) (by decide) (nI (t + 1)) (C := 16) rfl
    have w1 := w.updt (t' := t + 1) (by omega)
    rw [mput_at]
    generalize mput M o 16 (nI (t + 1)) = M2 at g1 ⊢
    have ed : hh - k = (hh - (k + 1)) + 1 := by omega
    by_cases hz : (t + 1) % 24 = 0
    · obtain ⟨M3, e3, g3⟩ := X1_endDay g1.1 w1
      obtain ⟨M4, e4, g4⟩ := ih M3 _ (t + 1) (c + 1) g3.1 (sEd_VV m 0 w1) (by omega)
      rw [if_pos ((tick (by omega)).mpr hz), ev_bnd e3, ← nI_succ c, ← nI_succ k, e4, ed, sPd_t hz, sPv_t hz]
      exact ⟨M4, rfl, (g1.trans g3).trans g4⟩
    · obtain ⟨M4, e4, g4⟩ := ih M2 _ (t + 1) c g1.1 w1 (by omega)
      rw [if_neg (fun q => hz ((tick (by omega)).mp q)), ← nI_succ k, e4, ed, sPd_f hz, sPv_f hz]
      exact ⟨M4, rfl, g1.trans g4⟩
theorem X6_passes (w : VV v m n t) {hh : Nat} (hx : hh ≤ 99) (ht : t + hh ≤ 9999) : f_X6_passes (nI hh) (mrow N 10 v) = some (nI (sPd hh t 0), mrow N 10 (sPv m hh t v)) := by
  have key := lp_dn (z := fun _ _ _ _ => none) (b := f_X6_passes_4) (fun k r => ∀ (v : Nat → Int32) (t c : Nat), VV v m n t → t + (hh - k) ≤ 9999 → r (nI hh) (nI c) (nI k) (mrow N 10 v) = some (nI (sPd (hh - k) t c), mrow N 10 (sPv m (hh - k) t v))) hh (fun r v t c w ht => ?_) (fun k r hk ih v t c w ht => ?_) 0 FU (by omega) (by rw [FU_eq]; omega) v t 0 w ht
  · exact key
  · unfold f_X6_passes_4
    rw [if_pos (le_self_nI hh), Nat.sub_self]
    rfl
  · have w1 := w.updt (t' := t + 1) (by omega)
    have ed : hh - k = (hh - (k + 1)) + 1 := by omega
    unfold f_X6_passes_4 f_X6_passes_41
    rw [if_neg (not_le_nI hk (by omega)), letM_eq, mrow_at, mrow_mput, w.e4, ← nI_succ t, mrow_at, upd_at, ed]
    by_cases hz : (t + 1) % 24 = 0
    · rw [if_pos ((tick (by omega)).mpr hz), ev_bnd (X6_endsDay w1), ← nI_succ c, ← nI_succ k, ih _ _ _ (sEd_VV m 0 w1) (by omega), sPd_t hz, sPv_t hz]
    · rw [if_neg (fun q => hz ((tick (by omega)).mp q)), ← nI_succ k, ih _ _ _ w1 (by omega), sPd_f hz, sPv_f hz]
theorem sPa_le (w : VV v m n t) {hh : Nat} (hx : hh ≤ 99) : sPa v (nI hh) = true ↔ t + hh ≤ 9999 := by
  have := w.2.2.1
  unfold sPa
  rw [decide_eq_true_eq, w.e4, nI_add, show (9999 : Int32) = nI 9999 from rfl, nI_leI (by omega) (by decide)]
end DD
