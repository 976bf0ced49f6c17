/-! THE START: the object and the reference as they are made -/
theorem with_a (M : Mem) : f_X2_with 0 97 M = some 1 := by
  unfold f_X2_with
  exact congrArg some (show (ishl 0 5) ||| ((97 : Int32) - 96) = 1 by decide)
theorem with_b (M : Mem) : f_X2_with 0 98 M = some 2 := by
  unfold f_X2_with
  exact congrArg some (show (ishl 0 5) ||| ((98 : Int32) - 96) = 2 by decide)
theorem HN_a : HN 1 1 := ⟨[1], ⟨by decide, by decide, by decide⟩, by decide, by decide⟩
theorem HN_b : HN 2 2 := ⟨[2], ⟨by decide, by decide, by decide⟩, by decide, by decide⟩
def v0 : Nat → Int32 := vMk (vNd (begV (fun _ => 0)) 0 1 1) 0 2 2 0
theorem v0_VVn : VV (vNd (begV (fun _ => 0)) 0 1 1) 0 1 0 := (beg_VV _).addn (by decide) 1 (z := 1) (by decide) (by decide)
theorem v0_VV : VV v0 1 1 0 := v0_VVn.addm (by decide) 2 2 By0
theorem X1_first : ∃ M5, f_X1_becomeFirst 18 Mz = some M5 ∧ (∀ k, ¬ (18 ≤ k ∧ k < 31) → M5 k = Mz k) ∧ HR M5 18 v0 1 1 := by
  obtain ⟨M1, a1, a2, a3, a4, a5⟩ := X1_clear 18 Mz
  have h1 := beg_HR (v := fun _ => 0) a2 a3 a4
  obtain ⟨M2, c1, c2, c3, c4, c5, c6⟩ := X1_addNeed h1 (beg_VV _) (by decide) 1 1
  have h2 := h1.addn (by decide) HN_a c2 c3 c4 c5 c6
  obtain ⟨M3, d1, d2, d3, d4, p1, p2, p3, p4, p5, p6, p7, p8⟩ := X1_addMonk h2 v0_VVn (by decide) 2 2 0
  have h3 := h2.addm (by decide) HN_b d2 d3 d4 p1 p2 p3 p4 p5 p6 p7 p8
  refine ⟨M3, ?_, fun k hk => ?_, h3⟩
  · unfold f_X1_becomeFirst
    rw [ev_bnd a1, ev_bnd (with_a _), ev_bnd c1, ev_bnd (with_b _), ev_bnd d1]
  · rw [d2 k (by omega), c2 k (by omega) (by omega) (by omega), a5 k (by omega) (by omega) (by omega)]
theorem X6_first : f_X6_init = some (mrow Mz 10 v0) := by
  have e0 := X6_begins Mz (Mz 10)
  rw [mrow_self] at e0
  have ez : Mz 10 = fun _ => 0 := Mz_h (by decide)
  have ev : upd (upd (upd (begV (fun _ => 0)) 1 1) 44 1) 45 1 = vNd (begV (fun _ => 0)) 0 1 1 := by
    funext i
    unfold vNd
    show upd (upd (upd (begV (fun _ => 0)) 1 1) 44 1) 45 1 i = upd (upd (upd (begV (fun _ => 0)) 44 1) 45 1) 1 1 i
    by_cases h1 : i = 1
    · subst h1
      rw [upd_ne (by decide), upd_ne (by decide), upd_at, upd_at]
    · rw [upd_ne (f := upd (upd (begV (fun _ => 0)) 44 1) 45 1) h1]
      by_cases h45 : i = 45
      · subst h45
        rw [upd_at, upd_at]
      · rw [upd_ne h45, upd_ne h45]
        by_cases h44 : i = 44
        · subst h44
          rw [upd_at, upd_at]
        · rw [upd_ne h44, upd_ne h44, upd_ne h1]
  have eA := X6_addsMonk (N := Mz) v0_VVn (by decide) 2 2
  have e9 : upd (upd (zr (upd (vNd (begV (fun _ => 0)) 0 1 1) 0 (nI (0 + 1))) 0 8) (60 + 8 * 0) 2) (61 + 8 * 0) 2 = v0 := by
    funext i
    unfold v0 vMk
    by_cases h62 : i = 62 + 8 * 0
    · subst h62
      rw [upd_at, upd_ne (by decide), upd_ne (by decide)]
      unfold zr
      rw [if_pos (by decide)]
    · rw [upd_ne (f := upd (upd (zr (upd (vNd (begV (fun _ => 0)) 0 1 1) 0 (nI (0 + 1))) 0 8) (60 + 8 * 0) 2) (61 + 8 * 0) 2) h62]
  rw [e9] at eA
  unfold f_X6_init
  rw [ev_bnd e0, letM_eq, letM_eq, letM_eq, mrow_mput, mrow_mput, mrow_mput, ez, ev, ev_bnd2 eA]
theorem start_inv {M5 : Mem} (hM5 : ∀ k, ¬ (18 ≤ k ∧ k < 31) → M5 k = Mz k) (h : HR M5 18 v0 1 1) : Inv (Mst M5 (mrow Mz 10 v0)) := by
  have m6 : ∀ k, 9 ≤ k → k ≤ 16 → k ≠ 10 → Mst M5 (mrow Mz 10 v0) k = Mz k := fun k h1 h2 h3 => by
    unfold Mst
    rw [if_pos ⟨h1, h2⟩, mrow_row h3]
  have m10 : Mst M5 (mrow Mz 10 v0) 10 = v0 := by
    unfold Mst
    rw [if_pos (by decide), mrow_at]
  have m5 : ∀ k, ¬ (9 ≤ k ∧ k ≤ 16) → Mst M5 (mrow Mz 10 v0) k = M5 k := fun k h1 => by
    unfold Mst
    rw [if_neg h1]
  generalize Mst M5 (mrow Mz 10 v0) = M at m6 m10 m5
  have mz : ∀ k, ¬ (18 ≤ k ∧ k < 31) → k ≠ 10 → M k = Mz k := fun k h1 h2 => by
    by_cases h3 : 9 ≤ k ∧ k ≤ 16
    · exact m6 k h3.1 h3.2 h2
    · rw [m5 k h3, hM5 k h1]
  have z1 : ∀ c, c ≠ 4 → Mz 1 c = 0 := fun c hc => by
    unfold Mz
    rw [if_pos rfl]
    show (if c = 4 then (-1 : Int32) else 0) = 0
    rw [if_neg hc]
  have z9 : ∀ c, c ≠ 17 → Mz 9 c = 0 := fun c hc => by
    unfold Mz
    rw [if_neg (by decide), if_pos rfl]
    show (if c = 17 then (-1 : Int32) else 0) = 0
    rw [if_neg hc]
  have z0 : ∀ k c, k ≠ 1 → k ≠ 9 → Mz k c = 0 := fun k c h1 h9 => by
    unfold Mz
    rw [if_neg h1, if_neg h9]
  refine ⟨?_, ⟨0, by decide, ?_, ?_, fun k hk => absurd hk (Nat.not_lt_zero k)⟩, ⟨0, by decide, ?_, ?_, fun k hk => absurd hk (Nat.not_lt_zero k)⟩, ⟨0, 0, by decide, by decide, ?_, ?_, ?_, fun j hj => absurd hj (Nat.not_lt_zero j)⟩, fun j hj => Or.inl ⟨?_, ?_⟩, ?_⟩
  · unfold iOw
    rw [m10]
    exact HOK.cong ⟨1, 1, 0, by decide, h, v0_VV⟩ (fun i hi => m5 _ (by omega)) rfl
  · rw [mz 1 (by decide) (by decide)]
    exact z1 2 (by decide)
  · rw [mz 9 (by decide) (by decide)]
    exact z9 10 (by decide)
  · rw [mz 5 (by decide) (by decide)]
    exact z0 5 1 (by decide) (by decide)
  · rw [mz 9 (by decide) (by decide)]
    exact z9 8 (by decide)
  · rw [mz 3 (by decide) (by decide)]
    exact z0 3 2 (by decide) (by decide)
  · rw [mz 9 (by decide) (by decide)]
    exact z9 5 (by decide)
  · rw [mz 3 (by decide) (by decide)]
    exact z0 3 1 (by decide) (by decide)
  · rw [mz 8 (by decide) (by decide)]
    exact z0 8 j (by decide) (by decide)
  · rw [mz 14 (by decide) (by decide)]
    exact z0 14 j (by decide) (by decide)
  · unfold iEr
    rw [mz 1 (by decide) (by decide), mz 9 (by decide) (by decide)]
    rfl
theorem whole_start {p : Program} {e : Env} {s : State} {m : MethodId} {below : List Frame} {meth : Method} {c : Code} (l : Launch) (hflags : l.flags = flags0) {b L : Nat} {xs : Nat → Int32} (hL : L ≤ 3072) (C0 : lw_At p s m meth c b L xs) : W p l e room_1 s m #[Value.ref b] below meth c s.heap [] 0 0 (lw_Z below #[Value.ref b] s) (entryFrame m ([Value.ref b] : List Value).toArray 9) := by
  obtain ⟨M5, h5, hM5, hr⟩ := X1_first
  exact start_of M5 (mrow Mz 10 v0) h5 hM5 X6_first (fun xs L hL => law_all hL 512 0 _ (by omega) (by decide) (start_inv hM5 hr)) l hflags hL C0
