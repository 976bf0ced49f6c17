theorem Inv.wr {M M' : Mem} (hI : Inv M) (hx : ∀ x, x ≠ 5 → x ≠ 6 → x ≠ 9 → x ≠ 15 → x ≠ 17 → M' x = M x) (hc : ∀ c, c ≠ 6 → c ≠ 8 → M' 9 c = M 9 c) (hw : iWr M') : Inv M' := by
  obtain ⟨h1, h2, h3, h4, h5, h6⟩ := hI
  have e : ∀ x, x ≠ 5 → x ≠ 6 → x ≠ 9 → x ≠ 15 → x ≠ 17 → M' x = M x := hx
  refine ⟨?_, ?_, hw, ?_, ?_, ?_⟩
  · exact HOK.cong h1 (fun j hj => e _ (by omega) (by omega) (by omega) (by omega) (by omega)) (e 10 (by decide) (by decide) (by decide) (by decide) (by decide))
  · unfold iBu at h2 ⊢
    rw [e 1 (by decide) (by decide) (by decide) (by decide) (by decide), hc 10 (by decide) (by decide), e 2 (by decide) (by decide) (by decide) (by decide) (by decide), e 16 (by decide) (by decide) (by decide) (by decide) (by decide)]
    exact h2
  · obtain ⟨h, od, g1, g2, g3, g4, g5, g6⟩ := h4
    refine ⟨h, od, g1, g2, by rw [e 3 (by decide) (by decide) (by decide) (by decide) (by decide)]; exact g3, by rw [hc 5 (by decide) (by decide)]; exact g4, by rw [e 3 (by decide) (by decide) (by decide) (by decide) (by decide)]; exact g5, fun j hj => (g6 j hj).cong (fun i hi => e _ (by omega) (by omega) (by omega) (by omega) (by omega)) (by rw [e 12 (by decide) (by decide) (by decide) (by decide) (by decide)])⟩
  · intro j hj
    rcases h5 j hj with g | ⟨g1, g2, g3⟩
    · left
      rw [e 8 (by decide) (by decide) (by decide) (by decide) (by decide), e 14 (by decide) (by decide) (by decide) (by decide) (by decide)]
      exact g
    · right
      rw [e 8 (by decide) (by decide) (by decide) (by decide) (by decide), e 14 (by decide) (by decide) (by decide) (by decide) (by decide)]
      exact ⟨g1, g2, g3.cong (fun i hi => e _ (by omega) (by omega) (by omega) (by omega) (by omega)) (by rw [e 13 (by decide) (by decide) (by decide) (by decide) (by decide)])⟩
  · unfold iEr at h6 ⊢
    rw [e 1 (by decide) (by decide) (by decide) (by decide) (by decide), hc 17 (by decide) (by decide)]
    exact h6
/-- both sides have written the same bytes -/
theorem wr_end {M M0 Mc N0 N : Mem} {bs : List Int32} {r : Int32} (hI : Inv M) (hM0 : ∀ x, x ≠ 5 → M0 x = M x) (hC : CW M0 Mc bs) (hN0 : ∀ x, x ≠ 9 → N0 x = (mput Mc 17 0 r) x) (hN9 : ∀ c, c ≠ 6 → c ≠ 8 → N0 9 c = Mc 9 c) (hN : NW N0 N bs) : Inv N ∧ N 17 0 = r ∧ N 9 6 = N0 9 6 := by
  obtain ⟨c1, c2, c3, c4⟩ := hC
  obtain ⟨n1, n2, n3, n4, n5⟩ := hN
  refine ⟨hI.wr (fun x h5 h6 h9 h15 h17 => by rw [n5 x h9 h15, hN0 x h9, mput_row h17, c4 x h5 h6, hM0 x h5]) (fun c h6 h8 => by rw [n4 c h8, hN9 c h6 h8, c4 9 (by decide) (by decide), hM0 9 (by decide)]) ⟨bs.length, c1, ?_, n2, fun k hk => ?_⟩, ?_, n4 6 (by decide)⟩
  · rw [n5 5 (by decide) (by decide), hN0 5 (by decide), mput_row (by decide), c2]
  · rw [n5 6 (by decide) (by decide), hN0 6 (by decide), mput_row (by decide), c3 k hk, n3 k hk]
  · rw [n5 17 (by decide) (by decide), hN0 17 (by decide), mput_at]
theorem names_of {o n : Nat} {M : Mem} {v : Nat → Int32} (h : ∀ k, k < n → HN (M (o + 9) k) (v (44 + 2 * k)) ∧ M (o + 10) k = v (45 + 2 * k)) : ∃ nl : Nat → List Nat, ∀ k, (nl k).length ≤ 6 ∧ (k < n → nmOK (nl k) ∧ M (o + 9) k = nI (f32 (nl k)) ∧ v (44 + 2 * k) = nI (f27 (nl k))) := by
  have h0 : ∀ k, ∃ ls : List Nat, ls.length ≤ 6 ∧ (k < n → nmOK ls ∧ M (o + 9) k = nI (f32 ls) ∧ v (44 + 2 * k) = nI (f27 ls)) := fun k => by
    by_cases hk : k < n
    · obtain ⟨ls, a, b, c⟩ := (h k hk).1
      exact ⟨ls, a.2.1, fun _ => ⟨a, b, c⟩⟩
    · exact ⟨[], by decide, fun q => absurd q hk⟩
  exact ⟨fun k => Classical.choose (h0 k), fun k => Classical.choose_spec (h0 k)⟩
theorem C_writeMonk {M : Mem} (hI : Inv M) (p : Int32) : Agr (f_L_writeMonk p M) (f_X6_writeMonk p) := by
  obtain ⟨m, n, t, h1, h, w⟩ := hI.1
  generalize hv : M 10 = v at h w
  have h12 := w.m12
  have h8 := w.n8
  cases hp : inM p m with
  | false =>
    have hc : f_X5_writeMonk p M = some (1, 0, M) := by
      unfold f_X5_writeMonk
      rw [ev_bnd3 (X5_requireMonk h w p), hp, if_neg (by decide)]
      rfl
    refine agrk hI (b := 0) (by decide) (L1_writeMonk hc) ?_
    unfold f_X6_writeMonk f_X6_writeMonk_14
    rw [ev_bnd (X6_isMonk hv w p), hp, if_pos b2_f, letM_eq, mput_at]
    rfl
  | true =>
    obtain ⟨a, ha, rfl⟩ := inM_t (by omega) hp
    obtain ⟨nl, hnl⟩ := names_of (o := 18) h.2.2.2.1
    obtain ⟨⟨la, ha1, ha2, ha3⟩, -, hkn, hwn, -⟩ := h.2.2.2.2 a ha
    obtain ⟨bk, bw, -⟩ := w.2.2.2.2.2.2.2 a ha
    have l6 := ha1.2.1
    have hk1 := ndB_first (x := v (62 + 8 * a)) (fun k => (hnl k).1) n 0
    have hw1 := ndB_first (x := v (63 + 8 * a)) (fun k => (hnl k).1) n 0
    -- the class
    generalize hM0 : mput M 5 1 0 = M0
    have hM0r : ∀ x, x ≠ 5 → M0 x = M x := fun x hx => by rw [← hM0, mput_row hx]
    have c0 : CW M0 M0 [] := ⟨by decide, by rw [← hM0, mput_at]; rfl, fun k hk => absurd hk (Nat.not_lt_zero k), fun _ _ _ => rfl⟩
    obtain ⟨M1, e1, c1⟩ := X4_addName ha1 c0 (by rw [List.length_nil]; omega)
    obtain ⟨M2, e2, c2⟩ := c1.put (by rw [List.nil_append, nmB_len]; omega) 58
    obtain ⟨M3, e3, c3⟩ := X4_addNeeds (o := 18) (n := n) (by decide) h8 (by rw [hM0r 18 (by decide)]; exact h.1.2.1.trans w.e1) (fun k hk => ⟨((hnl k).2 hk).1, by rw [hM0r (18 + 9) (by decide)]; exact ((hnl k).2 hk).2.1⟩) (fun k => (hnl k).1) bk c2 (by rw [List.length_append, List.nil_append, nmB_len, List.length_singleton]; omega)
    have len3 : ([] ++ nmB la ++ [58] ++ ndB nl (v (62 + 8 * a)) n 0 true).length = la.length + 1 + (ndB nl (v (62 + 8 * a)) n 0 true).length := by
      rw [List.length_append, List.length_append, List.nil_append, nmB_len, List.length_singleton]
    obtain ⟨M4, e4, c4⟩ := c3.put (by rw [len3]; omega) 47
    obtain ⟨Mc, e5, c5⟩ := X4_addNeeds (o := 18) (n := n) (by decide) h8 (by rw [hM0r 18 (by decide)]; exact h.1.2.1.trans w.e1) (fun k hk => ⟨((hnl k).2 hk).1, by rw [hM0r (18 + 9) (by decide)]; exact ((hnl k).2 hk).2.1⟩) (fun k => (hnl k).1) bw c4 (by rw [List.length_append, len3, List.length_singleton]; omega)
    have hc : f_X5_writeMonk (nI a) M = some (0, Mc 5 1, Mc) := by
      unfold f_X5_writeMonk
      rw [ev_bnd3 (X5_requireMonk h w (nI a)), hp, ex_t, if_pos rfl, letM_eq, hM0, ev_chk (inB_nI (by omega) (by decide)), ix_nI (by omega), hM0r 19 (by decide), show M 19 a = nI (f32 la) from ha2, ev_bnd e1, ev_bnd e2, ev_chk (inB_nI (by omega) (by decide)), c2.2.2.2 21 (by decide) (by decide), hM0r 21 (by decide), show M 21 a = v (62 + 8 * a) from hkn, ev_bnd e3, ev_bnd e4, ev_chk (inB_nI (by omega) (by decide)), c4.2.2.2 22 (by decide) (by decide), hM0r 22 (by decide), show M 22 a = v (63 + 8 * a) from hwn, ev_bnd e5]
    -- the reference
    generalize hN0 : mput (mput (mput Mc 17 0 (Mc 5 1)) 9 6 0) 9 8 0 = N0
    have hN0r : ∀ x, x ≠ 9 → N0 x = (mput Mc 17 0 (Mc 5 1)) x := fun x hx => by rw [← hN0, mput_row hx, mput_row hx]
    have v10 : N0 10 = v := by rw [hN0r 10 (by decide), mput_row (by decide), c5.2.2.2 10 (by decide) (by decide), hM0r 10 (by decide), hv]
    have d0 : NW N0 N0 [] := ⟨by decide, by rw [← hN0, mput_at]; rfl, fun k hk => absurd hk (Nat.not_lt_zero k), fun _ _ => rfl, fun _ _ _ => rfl⟩
    obtain ⟨N1, g1, d1⟩ := X6_writesName ha1 d0 (by rw [List.length_nil]; omega)
    obtain ⟨N2, g2, d2⟩ := d1.put (by rw [List.nil_append, nmB_len]; omega) 58
    obtain ⟨N3, g3, d3⟩ := X6_writesNeeds v10 h8 w.e1 (fun k hk => ⟨((hnl k).2 hk).1, ((hnl k).2 hk).2.2⟩) bk d2 (by rw [List.length_append, List.nil_append, nmB_len, List.length_singleton]; omega)
    obtain ⟨N4, g4, d4⟩ := d3.put (by rw [len3]; omega) 47
    obtain ⟨N, g5, d5⟩ := X6_writesNeeds v10 h8 w.e1 (fun k hk => ⟨((hnl k).2 hk).1, ((hnl k).2 hk).2.2⟩) bw d4 (by rw [List.length_append, len3, List.length_singleton]; omega)
    have hm : f_X6_writeMonk (nI a) (mput Mc 17 0 (Mc 5 1)) = some (N 9 8, N) := by
      unfold f_X6_writeMonk f_X6_writeMonk_14
      rw [ev_bnd (X6_isMonk (v := v) (by rw [mput_row (by decide), c5.2.2.2 10 (by decide) (by decide), hM0r 10 (by decide), hv]) w (nI a)), hp, if_neg (by decide), letM_eq, mput_at, if_pos le00, letM_eq, hN0, ev_bnd (ev_moc 0 (c := 0) (d := 60 + 8 * a) rfl rfl), ev_chk (inB_nI (by omega) (by decide)), ix_nI (by omega), v10, ha3, ev_bnd g1, ev_bnd g2, ev_bnd (ev_moc 2 (c := 2) (d := 62 + 8 * a) rfl (by omega)), ev_chk (inB_nI (by omega) (by decide)), ix_nI (by omega), d2.2.2.2.2 10 (by decide) (by decide), v10, ev_bnd g3, ev_bnd g4, ev_bnd (ev_moc 3 (c := 3) (d := 63 + 8 * a) rfl (by omega)), ev_chk (inB_nI (by omega) (by decide)), ix_nI (by omega), d4.2.2.2.2 10 (by decide) (by decide), v10, ev_bnd g5]
    obtain ⟨q1, q2, q3⟩ := wr_end hI hM0r c5 hN0r (fun c h6 h8 => by rw [← hN0, mput_col h8, mput_col h6, mput_row (by decide)]) d5
    refine ⟨0, _, _, N, L0_writeMonk hc, hm, ?_, fun _ => ?_, q1⟩
    · rw [q3, ← hN0, mput_col (by decide), mput_at]
    · rw [q2, c5.2.1, d5.2.1]
/-! the day -/
theorem nz_nI {k : Nat} (h0 : 0 < k) (h : k < 2 ^ 31) : nz (nI k) = true := by
  unfold nz
  rw [decide_eq_false (nI_ne0 h0 h)]
  rfl
def tlD (t : Nat) : Nat → List Int32
  | 0 => [nI (48 + t % 10)]
  | j + 1 => nI (48 + t / 10 ^ (j + 1) % 10) :: tlD t j
theorem tlD_len (t : Nat) : ∀ j, (tlD t j).length = j + 1
  | 0 => rfl
  | j + 1 => by
    show (tlD t j).length + 1 = _
    rw [tlD_len t j]
theorem tlD_app (bs : List Int32) (t j : Nat) : bs ++ tlD t (j + 1) = (bs ++ [nI (48 + t / 10 ^ (j + 1) % 10)]) ++ tlD t j := by
  show bs ++ (nI (48 + t / 10 ^ (j + 1) % 10) :: tlD t j) = _
  rw [List.append_assoc]
  rfl
def szD (t : Nat) : Nat → Nat
  | 0 => 0
  | j + 1 => if 10 ^ (j + 1) ≤ t then j + 1 else szD t j
theorem szD_le (t : Nat) : ∀ j, szD t j ≤ j
  | 0 => Nat.le_refl _
  | j + 1 => by
    have := szD_le t j
    unfold szD
    split <;> omega
theorem p10_lt {j : Nat} (h : j ≤ 3) : 10 ^ j < 2 ^ 31 := Nat.lt_of_le_of_lt (Nat.pow_le_pow_right (by decide) h) (by decide)
theorem p10_pos (j : Nat) : 0 < 10 ^ j := Nat.pow_pos (by decide)
theorem dgt {t j : Nat} (ht : t ≤ 9999) (hj : j ≤ 3) : irem (nI t / nI (10 ^ j)) 10 = nI (t / 10 ^ j % 10) := by
  rw [nI_div (by omega) (p10_lt hj)]
  exact nI_irem (b := 10) (Nat.lt_of_le_of_lt (Nat.div_le_self _ _) (by omega)) (by decide)
theorem p10_div (j : Nat) (hj : j + 1 ≤ 3) : nI (10 ^ (j + 1)) / 10 = nI (10 ^ j) := by
  refine (nI_div (b := 10) (p10_lt hj) (by decide)).trans ?_
  rw [Nat.pow_succ, Nat.mul_div_cancel _ (by decide)]
theorem X4_digits {M0 : Mem} {t : Nat} (ht : t ≤ 9999) : ∀ (j f : Nat) (M : Mem) (bs : List Int32), j ≤ 3 → j + 1 < f → CW M0 M bs → bs.length + (j + 1) ≤ 119 → ∃ M1, bnd (f_X4_addByte (48 + nI (t / 10 ^ j % 10)) M) (fun M4 => lp (fun _ _ _ _ => none) f_X4_addNumber_6 f (nI t) 1 (nI (10 ^ j) / 10) M4) = some M1 ∧ CW M0 M1 (bs ++ tlD t j) := by
  intro j
  induction j with
  | zero =>
    intro f M bs hj hf h hl
    obtain ⟨M1, e1, h1⟩ := h.put (by omega) (nI (48 + t % 10))
    refine ⟨M1, ?_, h1⟩
    rw [show (48 : Int32) = nI 48 from rfl, nI_add, Nat.pow_zero, Nat.div_one, ev_bnd e1]
    obtain ⟨f', rfl⟩ : ∃ f', f = f' + 1 := ⟨f - 1, by omega⟩
    rw [lp_s]
    unfold f_X4_addNumber_6
    rw [if_pos (show nI 1 / 10 ≤ 0 by decide)]
  | succ j ih =>
    intro f M bs hj hf h hl
    obtain ⟨M1, e1, h1⟩ := h.put (by omega) (nI (48 + t / 10 ^ (j + 1) % 10))
    rw [show (48 : Int32) = nI 48 from rfl, nI_add, ev_bnd e1, p10_div j hj, tlD_app]
    obtain ⟨f', rfl⟩ : ∃ f', f = f' + 1 := ⟨f - 1, by omega⟩
    obtain ⟨M2, e2, h2⟩ := ih f' M1 _ (by omega) (by omega) h1 (by rw [List.length_append, List.length_singleton]; omega)
    refine ⟨M2, ?_, h2⟩
    rw [lp_s]
    unfold f_X4_addNumber_6 f_X4_addNumber_32 f_X4_addNumber_43
    rw [if_neg (nI_nle (p10_pos j) (p10_lt (by omega))), ev_chk (nz_nI (p10_pos j) (p10_lt (by omega))), if_neg (show ¬ (1 : Int32) = 0 by decide), dgt ht (by omega), ite_self]
    exact e2
theorem X4_addNumber {M0 M : Mem} {bs : List Int32} {t : Nat} (ht : t ≤ 9999) (h : CW M0 M bs) (hl : bs.length + 4 ≤ 119) : ∃ M1, f_X4_addNumber (nI t) M = some M1 ∧ CW M0 M1 (bs ++ tlD t (szD t 3)) := by
  have main : ∀ (j f : Nat), j ≤ 3 → j + 2 < f → t < 10 ^ (j + 1) → ∃ M1, lp (fun _ _ _ _ => none) f_X4_addNumber_6 f (nI t) 0 (nI (10 ^ j)) M = some M1 ∧ CW M0 M1 (bs ++ tlD t (szD t j)) := by
    intro j
    induction j with
    | zero =>
      intro f hj hf h10
      obtain ⟨f', rfl⟩ : ∃ f', f = f' + 1 := ⟨f - 1, by omega⟩
      obtain ⟨M2, e2, h2⟩ := X4_digits ht 0 f' M bs (by decide) (by omega) h (by omega)
      refine ⟨M2, ?_, h2⟩
      rw [lp_s]
      unfold f_X4_addNumber_6 f_X4_addNumber_32 f_X4_addNumber_43
      rw [if_neg (nI_nle (p10_pos 0) (p10_lt (by omega))), ev_chk (nz_nI (p10_pos 0) (p10_lt (by omega))), dgt ht (by omega), if_pos (show (0 : Int32) = 0 from rfl), if_pos (show nI (10 ^ 0) = 1 from rfl), ite_self]
      exact e2
    | succ j ih =>
      intro f hj hf h10
      obtain ⟨f', rfl⟩ : ∃ f', f = f' + 1 := ⟨f - 1, by omega⟩
      have hq : ¬ nI (10 ^ (j + 1)) ≤ 0 := nI_nle (p10_pos _) (p10_lt hj)
      have hz : nz (nI (10 ^ (j + 1))) = true := nz_nI (p10_pos _) (p10_lt hj)
      unfold szD
      by_cases hb : 10 ^ (j + 1) ≤ t
      · rw [if_pos hb]
        obtain ⟨M2, e2, h2⟩ := X4_digits ht (j + 1) f' M bs hj (by omega) h (by omega)
        refine ⟨M2, ?_, h2⟩
        rw [lp_s]
        have hd : t / 10 ^ (j + 1) % 10 ≠ 0 := by
          have h1 : 0 < t / 10 ^ (j + 1) := Nat.div_pos hb (p10_pos _)
          have h2 : t / 10 ^ (j + 1) < 10 := by
            rw [Nat.div_lt_iff_lt_mul (p10_pos _)]
            rw [Nat.pow_succ, Nat.mul_comm] at h10
            exact h10
          omega
        unfold f_X4_addNumber_6 f_X4_addNumber_32 f_X4_addNumber_43
        rw [if_neg hq, ev_chk hz, dgt ht hj, if_neg (fun q => by have := nI_inj (b := 0) (by omega) (by decide) q; omega)]
        exact e2
      · rw [if_neg hb]
        obtain ⟨M2, e2, h2⟩ := ih f' (by omega) (by omega) (by omega)
        refine ⟨M2, ?_, h2⟩
        rw [lp_s]
        unfold f_X4_addNumber_6 f_X4_addNumber_43
        have h1 : 10 ^ (j + 1) ≠ 1 := by
          have := Nat.one_lt_pow (n := j + 1) (by omega) (show 1 < 10 by decide)
          omega
        rw [if_neg hq, ev_chk hz, dgt ht hj, Nat.div_eq_of_lt (by omega), if_pos (show nI (0 % 10) = 0 from rfl), if_pos (show (0 : Int32) = 0 from rfl), if_neg (show ¬ nI (10 ^ (j + 1)) = (1 : Int32) from fun q => h1 (nI_inj (b := 1) (p10_lt hj) (by decide) q)), p10_div j hj]
        exact e2
  exact main 3 FU (by decide) (by rw [FU_eq]; decide) (by omega)
theorem X6_digits {N0 : Mem} {t : Nat} (ht : t ≤ 9999) (hN0 : N0 10 4 = nI t) : ∀ (j f : Nat) (N : Mem) (bs : List Int32), j ≤ 3 → j + 1 < f → NW N0 N bs → bs.length + (j + 1) ≤ 119 → ∃ N1, lp (fun _ _ => none) f_X6_writeDay_76 f (nI (10 ^ j)) N = some (N1 9 8, N1) ∧ NW N0 N1 (bs ++ tlD t j) := by
  intro j
  induction j with
  | zero =>
    intro f N bs hj hf h hl
    obtain ⟨f', rfl⟩ : ∃ f', f = f' + 2 := ⟨f - 2, by omega⟩
    obtain ⟨M1, e1, h1⟩ := h.put (by omega) (nI (48 + t % 10))
    refine ⟨M1, ?_, h1⟩
    rw [lp_s]
    unfold f_X6_writeDay_76
    rw [if_neg (nI_nle (p10_pos 0) (p10_lt (by omega))), ev_chk (nz_nI (p10_pos 0) (p10_lt (by omega))), h.2.2.2.2 10 (by decide) (by decide), hN0, dgt ht (by omega), show (48 : Int32) = nI 48 from rfl, nI_add, Nat.pow_zero, Nat.div_one, ev_bnd e1, lp_s]
    rw [if_pos (show nI 1 / 10 ≤ 0 by decide)]
  | succ j ih =>
    intro f N bs hj hf h hl
    obtain ⟨f', rfl⟩ : ∃ f', f = f' + 1 := ⟨f - 1, by omega⟩
    obtain ⟨M1, e1, h1⟩ := h.put (by omega) (nI (48 + t / 10 ^ (j + 1) % 10))
    obtain ⟨M2, e2, h2⟩ := ih f' M1 _ (by omega) (by omega) h1 (by rw [List.length_append, List.length_singleton]; omega)
    refine ⟨M2, ?_, ?_⟩
    · rw [lp_s]
      show f_X6_writeDay_76 (lp (fun _ _ => none) f_X6_writeDay_76 f') (nI (10 ^ (j + 1))) N = _
      generalize lp (fun _ _ => none) f_X6_writeDay_76 f' = rr at e2 ⊢
      unfold f_X6_writeDay_76
      rw [if_neg (nI_nle (p10_pos _) (p10_lt hj)), ev_chk (nz_nI (p10_pos _) (p10_lt hj)), h.2.2.2.2 10 (by decide) (by decide), hN0, dgt ht hj, show (48 : Int32) = nI 48 from rfl, nI_add, ev_bnd e1, p10_div j hj]
      exact e2
    · rw [tlD_app]
      exact h2
theorem X6_writeDay_n {N0 N : Mem} {bs : List Int32} {t : Nat} (ht : t ≤ 9999) (hN0 : N0 10 4 = nI t) (h : NW N0 N bs) (hl : bs.length + 4 ≤ 119) : ∃ N1, lp (fun _ _ => none) f_X6_writeDay_53 FU 1000 N = some (N1 9 8, N1) ∧ NW N0 N1 (bs ++ tlD t (szD t 3)) := by
  obtain ⟨N1, e1, h1⟩ := X6_digits ht hN0 (szD t 3) FU N bs (szD_le t 3) (by have := szD_le t 3; rw [FU_eq]; omega) h (by have := szD_le t 3; omega)
  refine ⟨N1, ?_, h1⟩
  rw [← e1]
  have ev : N 10 4 = nI t := by rw [h.2.2.2.2 10 (by decide) (by decide), hN0]
  have main : ∀ (j f : Nat), j ≤ 3 → j < f → lp (fun _ _ => none) f_X6_writeDay_53 f (nI (10 ^ j)) N = lp (fun _ _ => none) f_X6_writeDay_76 FU (nI (10 ^ (szD t j))) N := by
    intro j
    induction j with
    | zero =>
      intro f hj hf
      obtain ⟨f', rfl⟩ : ∃ f', f = f' + 1 := ⟨f - 1, by omega⟩
      rw [lp_s]
      generalize lp (fun _ _ => none) f_X6_writeDay_53 f' = rr
      unfold f_X6_writeDay_53
      rw [if_pos (show nI (10 ^ 0) ≤ 1 by decide)]
      rfl
    | succ j ih =>
      intro f hj hf
      obtain ⟨f', rfl⟩ : ∃ f', f = f' + 1 := ⟨f - 1, by omega⟩
      have i := ih f' (by omega) (by omega)
      rw [lp_s]
      generalize lp (fun _ _ => none) f_X6_writeDay_53 f' = rr at i ⊢
      unfold f_X6_writeDay_53 szD
      have h1 : 1 < 10 ^ (j + 1) := Nat.one_lt_pow (n := j + 1) (by omega) (show 1 < 10 by decide)
      rw [if_neg (show ¬ nI (10 ^ (j + 1)) ≤ (1 : Int32) from not_le_nI (b := 1) h1 (p10_lt hj)), ev]
      by_cases hb : 10 ^ (j + 1) ≤ t
      · rw [if_pos ((nI_leI (p10_lt hj) (by omega)).mpr hb), if_pos hb]
      · rw [if_neg (not_le_nI (by omega) (p10_lt hj)), if_neg hb, p10_div j hj]
        exact i
  exact main 3 FU (by decide) (by rw [FU_eq]; decide)
