noncomputable def f_X6_meanFast (M : Mem) : Option (UInt64 × Mem) := (letM (mput M 9 6 0) (fun M3 => (bnd (f_X6_sum 5 M3) (fun r4 => (some ((FP.ddiv (FP.i2d r4) (FP.i2d (M3 10 0))), M3))))))
set_option maxHeartbeats 4000000 in
set_option maxRecDepth 100000 in
theorem b_X6_meanFast {p : Program} {l : Launch} {e : Env} {R : Room} {s : State} {m : MethodId} {args : Array Value} {below : List Frame} {meth : Method} {c : Code} {Q : State → Prop} {D : va_G} {cy : Nat → ClassId} {ad : Nat → Nat} {x : SX} (fx : FX p s m args meth c cX6_meanFast 1 (some .double) RX6 D cy ad x) (hR : 2 ≤ R.frames ∧ 44 ≤ R.locals ∧ 0 ≤ R.cells ∧ 0 ≤ R.slots) (M : Mem) (z : UInt64) (M' : Mem) (hF : f_X6_meanFast M = some (z, M')) (E : ∀ (pc : Nat) (ls : Array Slot) (H : Heap) (locs : List Loc) (v : UInt64) (M1 : Mem), decode cX6_meanFast pc = .ok (.dreturn, 1) → WD D cy ad s M1 H locs → some (v, M1) = some (z, M') → W p l e R s m args below meth c H locs 0 0 Q (F0 m pc ls [.double v])) (ED : ∀ (pc : Nat) (ls : Array Slot) (H : Heap) (locs : List Loc) (a b : UInt64) (M1 : Mem), decode cX6_meanFast pc = .ok (.ddiv, 1) → decode cX6_meanFast (pc + 1) = .ok (.dreturn, 1) → WD D cy ad s M1 H locs → some (FP.ddiv a b, M1) = some (z, M') → W p l e R s m args below meth c H locs 0 0 Q (F0 m pc ls [.double b, .double a])) (H : Heap) (locs : List Loc) (ls : Array Slot) (hl : lv_has ls 1 [(0, .ref (ad 9))]) (hw : WD D cy ad s M H locs) : W p l e R s m args below meth c H locs 0 0 Q (F0 m 0 ls []) := by
  have hx := fx.1.1
  have hb := fx.1.2.1
  have hown := fx.1.2.2.2.1
  have hts := fx.1.2.2.2.2
  unfold f_X6_meanFast at hF
  refine lv_aload_n hx hb dX6_meanFast_0 rfl (lv_at hl 0 rfl) ?_
  refine lv_iconst (v := 0) hx hb dX6_meanFast_1 (by decide) ?_
  obtain ⟨M3, eM3, hF⟩ := st_letM hF
  refine gX6_put fx hw isO_9 6 (by decide) wd5_25 rfl eM3 rfl (Nat.le_of_ble_eq_true rfl) dX6_meanFast_2 (fun H locs hw => ?_)
  refine lv_aload_n hx hb dX6_meanFast_5 rfl (lv_at hl 0 rfl) ?_
  refine lv_iconst (v := 5) hx hb dX6_meanFast_6 (by decide) ?_
  obtain ⟨r4, hgr4, hF⟩ := st_bnd hF
  refine g_ci hw (g_runV (C := RX6) (As := [.int 5]) (rest := []) fx hw isO_9 rfl (c_X6_sum l x D cy ad 5 H.size M3 r4 hgr4) wd5_134 wd5_136 wd0_49 wd1_8 wd5_137 yd_X6_sum rfl rfl (Nat.le_of_ble_eq_true rfl) hl.1 ⟨Nat.le_trans (Nat.le_of_ble_eq_true rfl) hR.1, Nat.le_trans (Nat.le_of_ble_eq_true rfl) hR.2.1⟩ ⟨Nat.le_trans (Nat.le_of_ble_eq_true rfl) hR.2.2.1, Nat.le_trans (Nat.le_of_ble_eq_true rfl) hR.2.2.2⟩ dX6_meanFast_7) (fun H locs hw => ?_)
  refine lv_i2d hx hb dX6_meanFast_10 ?_
  refine lv_aload_n hx hb dX6_meanFast_11 rfl (lv_at hl 0 rfl) ?_
  refine gX6_get fx hw isO_9 0 (by decide) wd5_19 rfl dX6_meanFast_12 ?_
  refine lv_iconst (v := 0) hx hb dX6_meanFast_15 (by decide) ?_
  refine g_ialdc fx hw isA_10 (k := 0) rfl (by decide) dX6_meanFast_16 ?_
  refine lv_i2d hx hb dX6_meanFast_17 ?_
  exact ED _ _ _ _ _ _ _ dX6_meanFast_18 dX6_meanFast_19 hw hF
theorem c_X6_meanFast (l : Launch) (x : SX) (D : va_G) (cy : Nat → ClassId) (ad : Nat → Nat) (sz : Nat) (M : Mem) (z : UInt64) (M' : Mem) (hF : f_X6_meanFast M = some (z, M')) : MetD lw_cs l yX6_meanFast (.code yX6_meanFast cX6_meanFast 1 (some .double) :: GB) ({ frames := 2, cells := 0, slots := 0, locals := 44 } : Room) (PcW D cy ad x sz M [.ref (ad 9)]) (QdW D cy ad sz z M') 0 0 (AA ad sz) := by
  refine mk_d (own := RX6) (by decide) rfl (Nat.le_of_ble_eq_true rfl) ?_
  intro p e s m args below meth c ls fx hw hl hsz hd0
  subst hsz
  exact b_X6_meanFast (s := s.setDrawn s.drawn) (fx.drawn _) ⟨Nat.le_refl _, Nat.le_refl _, Nat.le_refl _, Nat.le_refl _⟩ M z M' hF (fun pc ls H locs v M1 hd hw h => by cases h; exact W.endD hd0 (g_dret (fx.drawn _) hw (al64 _) hd)) (fun pc ls H locs a b M1 hd hd2 hw h => by cases h; exact lv_ddiv_any hd0 lw_bits fx.1.1 fx.1.2.1 hd (fun r d1 hal hd1 => W.endD hd1 (g_dret (fx.drawn d1) hw hal hd2))) _ _ ls hl hw
noncomputable def f_X6_breachShare (M : Mem) : Option (UInt32 × Mem) := (letM (mput M 9 6 0) (fun M4 => (bnd (f_X6_spoken M4) (fun r5 => (if r5 = 0 then (some (FP.fconst0, M4)) else (bnd (f_X6_spoken M4) (fun r6 => (some ((FP.fdiv (FP.i2f (M4 10 12)) (FP.i2f r6)), M4)))))))))
set_option maxHeartbeats 4000000 in
set_option maxRecDepth 100000 in
theorem b_X6_breachShare {p : Program} {l : Launch} {e : Env} {R : Room} {s : State} {m : MethodId} {args : Array Value} {below : List Frame} {meth : Method} {c : Code} {Q : State → Prop} {D : va_G} {cy : Nat → ClassId} {ad : Nat → Nat} {x : SX} (fx : FX p s m args meth c cX6_breachShare 1 (some .float) RX6 D cy ad x) (hR : 1 ≤ R.frames ∧ 20 ≤ R.locals ∧ 0 ≤ R.cells ∧ 0 ≤ R.slots) (M : Mem) (z : UInt32) (M' : Mem) (hF : f_X6_breachShare M = some (z, M')) (E : ∀ (pc : Nat) (ls : Array Slot) (H : Heap) (locs : List Loc) (v : UInt32) (M1 : Mem), decode cX6_breachShare pc = .ok (.freturn, 1) → WD D cy ad s M1 H locs → some (v, M1) = some (z, M') → W p l e R s m args below meth c H locs 0 0 Q (F0 m pc ls [.float v])) (ED : ∀ (pc : Nat) (ls : Array Slot) (H : Heap) (locs : List Loc) (a b : UInt32) (M1 : Mem), decode cX6_breachShare pc = .ok (.fdiv, 1) → decode cX6_breachShare (pc + 1) = .ok (.freturn, 1) → WD D cy ad s M1 H locs → some (FP.fdiv a b, M1) = some (z, M') → W p l e R s m args below meth c H locs 0 0 Q (F0 m pc ls [.float b, .float a])) (H : Heap) (locs : List Loc) (ls : Array Slot) (hl : lv_has ls 1 [(0, .ref (ad 9))]) (hw : WD D cy ad s M H locs) : W p l e R s m args below meth c H locs 0 0 Q (F0 m 0 ls []) := by
  have hx := fx.1.1
  have hb := fx.1.2.1
  have hown := fx.1.2.2.2.1
  have hts := fx.1.2.2.2.2
  unfold f_X6_breachShare at hF
  refine lv_aload_n hx hb dX6_breachShare_0 rfl (lv_at hl 0 rfl) ?_
  refine lv_iconst (v := 0) hx hb dX6_breachShare_1 (by decide) ?_
  obtain ⟨M4, eM4, hF⟩ := st_letM hF
  refine gX6_put fx hw isO_9 6 (by decide) wd5_25 rfl eM4 rfl (Nat.le_of_ble_eq_true rfl) dX6_breachShare_2 (fun H locs hw => ?_)
  refine lv_aload_n hx hb dX6_breachShare_5 rfl (lv_at hl 0 rfl) ?_
  obtain ⟨r5, hgr5, hF⟩ := st_bnd hF
  refine g_ci hw (g_runV (C := RX6) (As := []) (rest := []) fx hw isO_9 rfl (c_X6_spoken l x D cy ad H.size M4 r5 hgr5) wd5_230 wd5_232 wd0_65 wd1_8 wd5_233 yd_X6_spoken rfl rfl (Nat.le_of_ble_eq_true rfl) hl.1 ⟨Nat.le_trans (Nat.le_of_ble_eq_true rfl) hR.1, Nat.le_trans (Nat.le_of_ble_eq_true rfl) hR.2.1⟩ ⟨Nat.le_trans (Nat.le_of_ble_eq_true rfl) hR.2.2.1, Nat.le_trans (Nat.le_of_ble_eq_true rfl) hR.2.2.2⟩ dX6_breachShare_6) (fun H locs hw => ?_)
  refine lv_if_ne (tgt := 16) hx hb dX6_breachShare_9 (by decide) (fun hc9 => ?_) (fun hc9 => ?_)
  · replace hF := st_f hc9 hF
    refine lv_aload_n hx hb dX6_breachShare_16 rfl (lv_at hl 0 rfl) ?_
    refine gX6_get fx hw isO_9 0 (by decide) wd5_19 rfl dX6_breachShare_17 ?_
    refine lv_bipush (v := 12) hx hb dX6_breachShare_20 (by decide) ?_
    refine g_ialdc fx hw isA_10 (k := 12) rfl (by decide) dX6_breachShare_22 ?_
    refine lv_i2f hx hb dX6_breachShare_23 ?_
    refine lv_aload_n hx hb dX6_breachShare_24 rfl (lv_at hl 0 rfl) ?_
    obtain ⟨r6, hgr6, hF⟩ := st_bnd hF
    refine g_ci hw (g_runV (C := RX6) (As := []) (rest := [.float (FP.i2f (M4 10 12))]) fx hw isO_9 rfl (c_X6_spoken l x D cy ad H.size M4 r6 hgr6) wd5_230 wd5_232 wd0_65 wd1_8 wd5_233 yd_X6_spoken rfl rfl (Nat.le_of_ble_eq_true rfl) hl.1 ⟨Nat.le_trans (Nat.le_of_ble_eq_true rfl) hR.1, Nat.le_trans (Nat.le_of_ble_eq_true rfl) hR.2.1⟩ ⟨Nat.le_trans (Nat.le_of_ble_eq_true rfl) hR.2.2.1, Nat.le_trans (Nat.le_of_ble_eq_true rfl) hR.2.2.2⟩ dX6_breachShare_25) (fun H locs hw => ?_)
    refine lv_i2f hx hb dX6_breachShare_28 ?_
    exact ED _ _ _ _ _ _ _ dX6_breachShare_29 dX6_breachShare_30 hw hF
  · replace hF := st_t hc9 hF
    refine lv_fconst0 hx hb dX6_breachShare_12 ?_
    refine lv_goto (tgt := 30) hx hb dX6_breachShare_13 (by decide) ?_
    exact E _ _ _ _ _ _ dX6_breachShare_30 hw hF
theorem c_X6_breachShare (l : Launch) (x : SX) (D : va_G) (cy : Nat → ClassId) (ad : Nat → Nat) (sz : Nat) (M : Mem) (z : UInt32) (M' : Mem) (hF : f_X6_breachShare M = some (z, M')) : MetD lw_cs l yX6_breachShare (.code yX6_breachShare cX6_breachShare 1 (some .float) :: GB) ({ frames := 1, cells := 0, slots := 0, locals := 20 } : Room) (PcW D cy ad x sz M [.ref (ad 9)]) (QfW D cy ad sz z M') 0 0 (AA ad sz) := by
  refine mk_d (own := RX6) (by decide) rfl (Nat.le_of_ble_eq_true rfl) ?_
  intro p e s m args below meth c ls fx hw hl hsz hd0
  subst hsz
  exact b_X6_breachShare (s := s.setDrawn s.drawn) (fx.drawn _) ⟨Nat.le_refl _, Nat.le_refl _, Nat.le_refl _, Nat.le_refl _⟩ M z M' hF (fun pc ls H locs v M1 hd hw h => by cases h; exact W.endD hd0 (g_fret (fx.drawn _) hw (al32 _) hd)) (fun pc ls H locs a b M1 hd hd2 hw h => by cases h; exact lv_fdiv_any hd0 lw_bits fx.1.1 fx.1.2.1 hd (fun r d1 hal hd1 => W.endD hd1 (g_fret (fx.drawn d1) hw hal hd2))) _ _ ls hl hw
noncomputable def f_X5_meanFast (M : Mem) : Option UInt64 := (if (M 18 12) = 0 then (some FP.dconst0) else (bnd (f_X1_sumOf 18 24 M) (fun r2 => (some (FP.ddiv (FP.i2d r2) (FP.i2d (M 18 12)))))))
set_option maxHeartbeats 4000000 in
set_option maxRecDepth 100000 in
theorem b_X5_meanFast {p : Program} {l : Launch} {e : Env} {R : Room} {s : State} {m : MethodId} {args : Array Value} {below : List Frame} {meth : Method} {c : Code} {Q : State → Prop} {D : va_G} {cy : Nat → ClassId} {ad : Nat → Nat} {x : SX} (fx : FX p s m args meth c cX5_meanFast 1 (some .double) RX5 D cy ad x) (hR : 1 ≤ R.frames ∧ 23 ≤ R.locals ∧ 0 ≤ R.cells ∧ 0 ≤ R.slots) (M : Mem) (z : UInt64) (hF : f_X5_meanFast M = some z) (E : ∀ (pc : Nat) (ls : Array Slot) (H : Heap) (locs : List Loc) (v : UInt64), decode cX5_meanFast pc = .ok (.dreturn, 1) → WD D cy ad s M H locs → some v = some z → W p l e R s m args below meth c H locs 0 0 Q (F0 m pc ls [.double v])) (ED : ∀ (pc : Nat) (ls : Array Slot) (H : Heap) (locs : List Loc) (a b : UInt64), decode cX5_meanFast pc = .ok (.ddiv, 1) → decode cX5_meanFast (pc + 1) = .ok (.dreturn, 1) → WD D cy ad s M H locs → some (FP.ddiv a b) = some z → W p l e R s m args below meth c H locs 0 0 Q (F0 m pc ls [.double b, .double a])) (H : Heap) (locs : List Loc) (ls : Array Slot) (hl : lv_has ls 1 [(0, .ref (ad 0))]) (hw : WD D cy ad s M H locs) : W p l e R s m args below meth c H locs 0 0 Q (F0 m 0 ls []) := by
  have hx := fx.1.1
  have hb := fx.1.2.1
  have hown := fx.1.2.2.2.1
  have hts := fx.1.2.2.2.2
  unfold f_X5_meanFast at hF
  refine lv_aload_n hx hb dX5_meanFast_0 rfl (lv_at hl 0 rfl) ?_
  refine gX5_get fx hw isO_0 0 (by decide) wd1_205 rfl dX5_meanFast_1 ?_
  refine gX1_get fx hw isH_18.O 12 (by decide) wd1_62 rfl dX5_meanFast_4 ?_
  refine lv_if_ne (tgt := 12) hx hb dX5_meanFast_7 (by decide) (fun hc7 => ?_) (fun hc7 => ?_)
  · replace hF := st_f hc7 hF
    refine lv_aload_n hx hb dX5_meanFast_12 rfl (lv_at hl 0 rfl) ?_
    refine gX5_get fx hw isO_0 0 (by decide) wd1_205 rfl dX5_meanFast_13 ?_
    refine lv_aload_n hx hb dX5_meanFast_16 rfl (lv_at hl 0 rfl) ?_
    refine gX5_get fx hw isO_0 0 (by decide) wd1_205 rfl dX5_meanFast_17 ?_
    refine gX1_get fx hw isH_18.O 5 (by decide) wd1_47 rfl dX5_meanFast_20 ?_
    obtain ⟨r2, hgr2, hF⟩ := st_bnd hF
    refine g_ci hw (g_runV (C := RX1) (As := [.ref (ad 24)]) (rest := []) fx hw isH_18.O rfl (c_X1_sumOf l x D cy ad 18 24 isH_18 isH_18.a6 H.size M r2 hgr2) wd3_53 wd3_54 wd3_55 wd1_2 wd3_56 yd_X1_sumOf rfl rfl (Nat.le_of_ble_eq_true rfl) hl.1 ⟨Nat.le_trans (Nat.le_of_ble_eq_true rfl) hR.1, Nat.le_trans (Nat.le_of_ble_eq_true rfl) hR.2.1⟩ ⟨Nat.le_trans (Nat.le_of_ble_eq_true rfl) hR.2.2.1, Nat.le_trans (Nat.le_of_ble_eq_true rfl) hR.2.2.2⟩ dX5_meanFast_23) (fun H locs hw => ?_)
    refine lv_i2d hx hb dX5_meanFast_26 ?_
    refine lv_aload_n hx hb dX5_meanFast_27 rfl (lv_at hl 0 rfl) ?_
    refine gX5_get fx hw isO_0 0 (by decide) wd1_205 rfl dX5_meanFast_28 ?_
    refine gX1_get fx hw isH_18.O 12 (by decide) wd1_62 rfl dX5_meanFast_31 ?_
    refine lv_i2d hx hb dX5_meanFast_34 ?_
    exact ED _ _ _ _ _ _ dX5_meanFast_35 dX5_meanFast_36 hw hF
  · replace hF := st_t hc7 hF
    refine lv_dconst0 hx hb dX5_meanFast_10 ?_
    exact E _ _ _ _ _ dX5_meanFast_11 hw hF
theorem c_X5_meanFast (l : Launch) (x : SX) (D : va_G) (cy : Nat → ClassId) (ad : Nat → Nat) (sz : Nat) (M : Mem) (z : UInt64) (hF : f_X5_meanFast M = some z) : MetD lw_cs l yX5_meanFast (.code yX5_meanFast cX5_meanFast 1 (some .double) :: GB) ({ frames := 1, cells := 0, slots := 0, locals := 23 } : Room) (PcW D cy ad x sz M [.ref (ad 0)]) (QdW D cy ad sz z M) 0 0 (AA ad sz) := by
  refine mk_d (own := RX5) (by decide) rfl (Nat.le_of_ble_eq_true rfl) ?_
  intro p e s m args below meth c ls fx hw hl hsz hd0
  subst hsz
  exact b_X5_meanFast (s := s.setDrawn s.drawn) (fx.drawn _) ⟨Nat.le_refl _, Nat.le_refl _, Nat.le_refl _, Nat.le_refl _⟩ M z hF (fun pc ls H locs v hd hw h => by cases h; exact W.endD hd0 (g_dret (fx.drawn _) hw (al64 _) hd)) (fun pc ls H locs a b hd hd2 hw h => by cases h; exact lv_ddiv_any hd0 lw_bits fx.1.1 fx.1.2.1 hd (fun r d1 hal hd1 => W.endD hd1 (g_dret (fx.drawn d1) hw hal hd2))) _ _ ls hl hw
noncomputable def f_X5_breachShare (M : Mem) : Option UInt32 := (if (((M 30 4) + (M 30 5)) + (M 30 6)) = 0 then (some FP.fconst0) else (some (FP.fdiv (FP.i2f (M 30 6)) (FP.i2f (((M 30 4) + (M 30 5)) + (M 30 6))))))
set_option maxHeartbeats 4000000 in
set_option maxRecDepth 100000 in
theorem b_X5_breachShare {p : Program} {l : Launch} {e : Env} {R : Room} {s : State} {m : MethodId} {args : Array Value} {below : List Frame} {meth : Method} {c : Code} {Q : State → Prop} {D : va_G} {cy : Nat → ClassId} {ad : Nat → Nat} {x : SX} (fx : FX p s m args meth c cX5_breachShare 3 (some .float) RX5 D cy ad x) (hR : 0 ≤ R.frames ∧ 0 ≤ R.locals ∧ 0 ≤ R.cells ∧ 0 ≤ R.slots) (M : Mem) (z : UInt32) (hF : f_X5_breachShare M = some z) (E : ∀ (pc : Nat) (ls : Array Slot) (H : Heap) (locs : List Loc) (v : UInt32), decode cX5_breachShare pc = .ok (.freturn, 1) → WD D cy ad s M H locs → some v = some z → W p l e R s m args below meth c H locs 0 0 Q (F0 m pc ls [.float v])) (ED : ∀ (pc : Nat) (ls : Array Slot) (H : Heap) (locs : List Loc) (a b : UInt32), decode cX5_breachShare pc = .ok (.fdiv, 1) → decode cX5_breachShare (pc + 1) = .ok (.freturn, 1) → WD D cy ad s M H locs → some (FP.fdiv a b) = some z → W p l e R s m args below meth c H locs 0 0 Q (F0 m pc ls [.float b, .float a])) (H : Heap) (locs : List Loc) (ls : Array Slot) (hl : lv_has ls 3 [(0, .ref (ad 0))]) (hw : WD D cy ad s M H locs) : W p l e R s m args below meth c H locs 0 0 Q (F0 m 0 ls []) := by
  have hx := fx.1.1
  have hb := fx.1.2.1
  have hown := fx.1.2.2.2.1
  have hts := fx.1.2.2.2.2
  unfold f_X5_breachShare at hF
  refine lv_aload_n hx hb dX5_breachShare_0 rfl (lv_at hl 0 rfl) ?_
  refine gX5_get fx hw isO_0 0 (by decide) wd1_205 rfl dX5_breachShare_1 ?_
  refine gX1_get fx hw isH_18.O 11 (by decide) wd1_60 rfl dX5_breachShare_4 ?_
  refine lv_astore_n (lv' := [(1, .ref (ad 30)), (0, .ref (ad 0))]) hx hb dX5_breachShare_7 rfl hl (by decide) rfl (fun ls hl => ?_)
  refine lv_aload_n hx hb dX5_breachShare_8 rfl (lv_at hl 0 rfl) ?_
  refine lv_iconst (v := 4) hx hb dX5_breachShare_9 (by decide) ?_
  refine g_ialdc fx hw isH_18.a12 (k := 4) rfl (by decide) dX5_breachShare_10 ?_
  refine lv_aload_n hx hb dX5_breachShare_11 rfl (lv_at hl 0 rfl) ?_
  refine lv_iconst (v := 5) hx hb dX5_breachShare_12 (by decide) ?_
  refine g_ialdc fx hw isH_18.a12 (k := 5) rfl (by decide) dX5_breachShare_13 ?_
  refine lv_iadd hx hb dX5_breachShare_14 ?_
  refine lv_aload_n hx hb dX5_breachShare_15 rfl (lv_at hl 0 rfl) ?_
  refine lv_bipush (v := 6) hx hb dX5_breachShare_16 (by decide) ?_
  refine g_ialdc fx hw isH_18.a12 (k := 6) rfl (by decide) dX5_breachShare_18 ?_
  refine lv_iadd hx hb dX5_breachShare_19 ?_
  refine lv_istore_n (lv' := [(2, .int (((M 30 4) + (M 30 5)) + (M 30 6))), (1, .ref (ad 30)), (0, .ref (ad 0))]) hx hb dX5_breachShare_20 rfl hl (by decide) rfl (fun ls hl => ?_)
  refine lv_iload_n hx hb dX5_breachShare_21 rfl (lv_at hl 0 rfl) ?_
  refine lv_if_ne (tgt := 27) hx hb dX5_breachShare_22 (by decide) (fun hc22 => ?_) (fun hc22 => ?_)
  · replace hF := st_f hc22 hF
    refine lv_aload_n hx hb dX5_breachShare_27 rfl (lv_at hl 1 rfl) ?_
    refine lv_bipush (v := 6) hx hb dX5_breachShare_28 (by decide) ?_
    refine g_ialdc fx hw isH_18.a12 (k := 6) rfl (by decide) dX5_breachShare_30 ?_
    refine lv_i2f hx hb dX5_breachShare_31 ?_
    refine lv_iload_n hx hb dX5_breachShare_32 rfl (lv_at hl 0 rfl) ?_
    refine lv_i2f hx hb dX5_breachShare_33 ?_
    exact ED _ _ _ _ _ _ dX5_breachShare_34 dX5_breachShare_35 hw hF
  · replace hF := st_t hc22 hF
    refine lv_fconst0 hx hb dX5_breachShare_25 ?_
    exact E _ _ _ _ _ dX5_breachShare_26 hw hF
theorem c_X5_breachShare (l : Launch) (x : SX) (D : va_G) (cy : Nat → ClassId) (ad : Nat → Nat) (sz : Nat) (M : Mem) (z : UInt32) (hF : f_X5_breachShare M = some z) : MetD lw_cs l yX5_breachShare (.code yX5_breachShare cX5_breachShare 3 (some .float) :: GB) ({ frames := 0, cells := 0, slots := 0, locals := 0 } : Room) (PcW D cy ad x sz M [.ref (ad 0)]) (QfW D cy ad sz z M) 0 0 (AA ad sz) := by
  refine mk_d (own := RX5) (by decide) rfl (Nat.le_of_ble_eq_true rfl) ?_
  intro p e s m args below meth c ls fx hw hl hsz hd0
  subst hsz
  exact b_X5_breachShare (s := s.setDrawn s.drawn) (fx.drawn _) ⟨Nat.le_refl _, Nat.le_refl _, Nat.le_refl _, Nat.le_refl _⟩ M z hF (fun pc ls H locs v hd hw h => by cases h; exact W.endD hd0 (g_fret (fx.drawn _) hw (al32 _) hd)) (fun pc ls H locs a b hd hd2 hw h => by cases h; exact lv_fdiv_any hd0 lw_bits fx.1.1 fx.1.2.1 hd (fun r d1 hal hd1 => W.endD hd1 (g_fret (fx.drawn d1) hw hal hd2))) _ _ ls hl hw
