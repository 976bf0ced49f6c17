theorem wd2_169 : Cond.constant RJ6 265 (1431655765) ∈ GB := gb_2 169 rfl rfl
theorem wd2_170 : Cond.constant RJ6 266 (858993459) ∈ GB := gb_2 170 rfl rfl
theorem wd2_171 : Cond.constant RJ6 267 (252645135) ∈ GB := gb_2 171 rfl rfl
noncomputable def f_J6_bitCount_0f7a4 (p1 : Int32) (M : Mem) : Option Int32 := (some ((((((((p1 - ((iushr p1 1) &&& 1431655765)) &&& 858993459) + ((iushr (p1 - ((iushr p1 1) &&& 1431655765)) 2) &&& 858993459)) + (iushr (((p1 - ((iushr p1 1) &&& 1431655765)) &&& 858993459) + ((iushr (p1 - ((iushr p1 1) &&& 1431655765)) 2) &&& 858993459)) 4)) &&& 252645135) + (iushr (((((p1 - ((iushr p1 1) &&& 1431655765)) &&& 858993459) + ((iushr (p1 - ((iushr p1 1) &&& 1431655765)) 2) &&& 858993459)) + (iushr (((p1 - ((iushr p1 1) &&& 1431655765)) &&& 858993459) + ((iushr (p1 - ((iushr p1 1) &&& 1431655765)) 2) &&& 858993459)) 4)) &&& 252645135) 8)) + (iushr ((((((p1 - ((iushr p1 1) &&& 1431655765)) &&& 858993459) + ((iushr (p1 - ((iushr p1 1) &&& 1431655765)) 2) &&& 858993459)) + (iushr (((p1 - ((iushr p1 1) &&& 1431655765)) &&& 858993459) + ((iushr (p1 - ((iushr p1 1) &&& 1431655765)) 2) &&& 858993459)) 4)) &&& 252645135) + (iushr (((((p1 - ((iushr p1 1) &&& 1431655765)) &&& 858993459) + ((iushr (p1 - ((iushr p1 1) &&& 1431655765)) 2) &&& 858993459)) + (iushr (((p1 - ((iushr p1 1) &&& 1431655765)) &&& 858993459) + ((iushr (p1 - ((iushr p1 1) &&& 1431655765)) 2) &&& 858993459)) 4)) &&& 252645135) 8)) 16)) &&& 63))
set_option maxHeartbeats 4000000 in
set_option maxRecDepth 100000 in
theorem b_J6_bitCount_0f7a4 {p : Program} {l : Launch} {e : Env} {R : Room} {s : State} {m : MethodId} {args : Array Value} {below : List Frame} {meth : Method} {c : Code} {Q : State → Prop} {D : va_G} {cy : Nat → ClassId} {ad : Nat → Nat} {x : SX} (fx : FX p s m args meth c cJ6_bitCount_0f7a4 1 (some .int) RJ6 D cy ad x) (hR : 0 ≤ R.frames ∧ 0 ≤ R.locals ∧ 0 ≤ R.cells ∧ 0 ≤ R.slots) (p1 : Int32) (M : Mem) (z : Int32) (hF : f_J6_bitCount_0f7a4 p1 M = some z) (E : ∀ (pc : Nat) (ls : Array Slot) (H : Heap) (locs : List Loc) (v : Int32), decode cJ6_bitCount_0f7a4 pc = .ok (.ireturn, 1) → WD D cy ad s M H locs → some v = some z → W p l e R s m args below meth c H locs 0 0 Q (F0 m pc ls [.int v])) (H : Heap) (locs : List Loc) (ls : Array Slot) (hl : lv_has ls 1 [(0, .int p1)]) (hw : WD D cy ad s M H locs) : W p l e R s m args below meth c H locs 0 0 Q (F0 m 0 ls []) := by
  have hx := fx.1.1
  have hb := fx.1.2.1
  have hown := fx.1.2.2.2.1
  have hts := fx.1.2.2.2.2
  unfold f_J6_bitCount_0f7a4 at hF
  refine lv_iload_n hx hb dJ6_bitCount_0f7a4_0 rfl (lv_at hl 0 rfl) ?_
  refine lv_iload_n hx hb dJ6_bitCount_0f7a4_1 rfl (lv_at hl 0 rfl) ?_
  refine lv_iconst (v := 1) hx hb dJ6_bitCount_0f7a4_2 (by decide) ?_
  refine g_iushr hx hb dJ6_bitCount_0f7a4_3 ?_
  refine lv_ldcw (v := 1431655765) hx hb hown (hts _ wd2_169) dJ6_bitCount_0f7a4_4 ?_
  refine lv_iand hx hb dJ6_bitCount_0f7a4_7 ?_
  refine lv_isub hx hb dJ6_bitCount_0f7a4_8 ?_
  refine lv_istore_n (lv' := [(0, .int (p1 - ((iushr p1 1) &&& 1431655765)))]) hx hb dJ6_bitCount_0f7a4_9 rfl hl (by decide) rfl (fun ls hl => ?_)
  refine lv_iload_n hx hb dJ6_bitCount_0f7a4_10 rfl (lv_at hl 0 rfl) ?_
  refine lv_ldcw (v := 858993459) hx hb hown (hts _ wd2_170) dJ6_bitCount_0f7a4_11 ?_
  refine lv_iand hx hb dJ6_bitCount_0f7a4_14 ?_
  refine lv_iload_n hx hb dJ6_bitCount_0f7a4_15 rfl (lv_at hl 0 rfl) ?_
  refine lv_iconst (v := 2) hx hb dJ6_bitCount_0f7a4_16 (by decide) ?_
  refine g_iushr hx hb dJ6_bitCount_0f7a4_17 ?_
  refine lv_ldcw (v := 858993459) hx hb hown (hts _ wd2_170) dJ6_bitCount_0f7a4_18 ?_
  refine lv_iand hx hb dJ6_bitCount_0f7a4_21 ?_
  refine lv_iadd hx hb dJ6_bitCount_0f7a4_22 ?_
  refine lv_istore_n (lv' := [(0, .int (((p1 - ((iushr p1 1) &&& 1431655765)) &&& 858993459) + ((iushr (p1 - ((iushr p1 1) &&& 1431655765)) 2) &&& 858993459)))]) hx hb dJ6_bitCount_0f7a4_23 rfl hl (by decide) rfl (fun ls hl => ?_)
  refine lv_iload_n hx hb dJ6_bitCount_0f7a4_24 rfl (lv_at hl 0 rfl) ?_
  refine lv_iload_n hx hb dJ6_bitCount_0f7a4_25 rfl (lv_at hl 0 rfl) ?_
  refine lv_iconst (v := 4) hx hb dJ6_bitCount_0f7a4_26 (by decide) ?_
  refine g_iushr hx hb dJ6_bitCount_0f7a4_27 ?_
  refine lv_iadd hx hb dJ6_bitCount_0f7a4_28 ?_
  refine lv_ldcw (v := 252645135) hx hb hown (hts _ wd2_171) dJ6_bitCount_0f7a4_29 ?_
  refine lv_iand hx hb dJ6_bitCount_0f7a4_32 ?_
  refine lv_istore_n (lv' := [(0, .int (((((p1 - ((iushr p1 1) &&& 1431655765)) &&& 858993459) + ((iushr (p1 - ((iushr p1 1) &&& 1431655765)) 2) &&& 858993459)) + (iushr (((p1 - ((iushr p1 1) &&& 1431655765)) &&& 858993459) + ((iushr (p1 - ((iushr p1 1) &&& 1431655765)) 2) &&& 858993459)) 4)) &&& 252645135))]) hx hb dJ6_bitCount_0f7a4_33 rfl hl (by decide) rfl (fun ls hl => ?_)
  refine lv_iload_n hx hb dJ6_bitCount_0f7a4_34 rfl (lv_at hl 0 rfl) ?_
  refine lv_iload_n hx hb dJ6_bitCount_0f7a4_35 rfl (lv_at hl 0 rfl) ?_
  refine lv_bipush (v := 8) hx hb dJ6_bitCount_0f7a4_36 (by decide) ?_
  refine g_iushr hx hb dJ6_bitCount_0f7a4_38 ?_
  refine lv_iadd hx hb dJ6_bitCount_0f7a4_39 ?_
  refine lv_istore_n (lv' := [(0, .int ((((((p1 - ((iushr p1 1) &&& 1431655765)) &&& 858993459) + ((iushr (p1 - ((iushr p1 1) &&& 1431655765)) 2) &&& 858993459)) + (iushr (((p1 - ((iushr p1 1) &&& 1431655765)) &&& 858993459) + ((iushr (p1 - ((iushr p1 1) &&& 1431655765)) 2) &&& 858993459)) 4)) &&& 252645135) + (iushr (((((p1 - ((iushr p1 1) &&& 1431655765)) &&& 858993459) + ((iushr (p1 - ((iushr p1 1) &&& 1431655765)) 2) &&& 858993459)) + (iushr (((p1 - ((iushr p1 1) &&& 1431655765)) &&& 858993459) + ((iushr (p1 - ((iushr p1 1) &&& 1431655765)) 2) &&& 858993459)) 4)) &&& 252645135) 8)))]) hx hb dJ6_bitCount_0f7a4_40 rfl hl (by decide) rfl (fun ls hl => ?_)
  refine lv_iload_n hx hb dJ6_bitCount_0f7a4_41 rfl (lv_at hl 0 rfl) ?_
  refine lv_iload_n hx hb dJ6_bitCount_0f7a4_42 rfl (lv_at hl 0 rfl) ?_
  refine lv_bipush (v := 16) hx hb dJ6_bitCount_0f7a4_43 (by decide) ?_
  refine g_iushr hx hb dJ6_bitCount_0f7a4_45 ?_
  refine lv_iadd hx hb dJ6_bitCount_0f7a4_46 ?_
  refine lv_istore_n (lv' := [(0, .int (((((((p1 - ((iushr p1 1) &&& 1431655765)) &&& 858993459) + ((iushr (p1 - ((iushr p1 1) &&& 1431655765)) 2) &&& 858993459)) + (iushr (((p1 - ((iushr p1 1) &&& 1431655765)) &&& 858993459) + ((iushr (p1 - ((iushr p1 1) &&& 1431655765)) 2) &&& 858993459)) 4)) &&& 252645135) + (iushr (((((p1 - ((iushr p1 1) &&& 1431655765)) &&& 858993459) + ((iushr (p1 - ((iushr p1 1) &&& 1431655765)) 2) &&& 858993459)) + (iushr (((p1 - ((iushr p1 1) &&& 1431655765)) &&& 858993459) + ((iushr (p1 - ((iushr p1 1) &&& 1431655765)) 2) &&& 858993459)) 4)) &&& 252645135) 8)) + (iushr ((((((p1 - ((iushr p1 1) &&& 1431655765)) &&& 858993459) + ((iushr (p1 - ((iushr p1 1) &&& 1431655765)) 2) &&& 858993459)) + (iushr (((p1 - ((iushr p1 1) &&& 1431655765)) &&& 858993459) + ((iushr (p1 - ((iushr p1 1) &&& 1431655765)) 2) &&& 858993459)) 4)) &&& 252645135) + (iushr (((((p1 - ((iushr p1 1) &&& 1431655765)) &&& 858993459) + ((iushr (p1 - ((iushr p1 1) &&& 1431655765)) 2) &&& 858993459)) + (iushr (((p1 - ((iushr p1 1) &&& 1431655765)) &&& 858993459) + ((iushr (p1 - ((iushr p1 1) &&& 1431655765)) 2) &&& 858993459)) 4)) &&& 252645135) 8)) 16)))]) hx hb dJ6_bitCount_0f7a4_47 rfl hl (by decide) rfl (fun ls hl => ?_)
  refine lv_iload_n hx hb dJ6_bitCount_0f7a4_48 rfl (lv_at hl 0 rfl) ?_
  refine lv_bipush (v := 63) hx hb dJ6_bitCount_0f7a4_49 (by decide) ?_
  refine lv_iand hx hb dJ6_bitCount_0f7a4_51 ?_
  exact E _ _ _ _ _ dJ6_bitCount_0f7a4_52 hw hF
theorem c_J6_bitCount_0f7a4 (l : Launch) (x : SX) (D : va_G) (cy : Nat → ClassId) (ad : Nat → Nat) (p1 : Int32) (sz : Nat) (M : Mem) (z : Int32) (hF : f_J6_bitCount_0f7a4 p1 M = some z) : Met l yJ6_bitCount_0f7a4 (.code yJ6_bitCount_0f7a4 cJ6_bitCount_0f7a4 1 (some .int) :: GB) ({ frames := 0, cells := 0, slots := 0, locals := 0 } : Room) (PcW D cy ad x sz M [.int p1]) (QiW D cy ad sz z M) 0 0 (AA ad sz) := by
  refine mk_m (own := RJ6) (by decide) rfl (Nat.le_of_ble_eq_true rfl) ?_
  intro p e s m args below meth c ls fx hw hl hsz
  subst hsz
  exact b_J6_bitCount_0f7a4 fx ⟨Nat.le_refl _, Nat.le_refl _, Nat.le_refl _, Nat.le_refl _⟩ p1 M z hF (fun pc ls H locs v hd hw h => by cases h; exact g_iret fx hw rfl hd) _ _ ls hl hw
noncomputable def f_J7_fill_53178_5 (n1 q1 : Nat) (rec5 : Int32 → Int32 → Int32 → Mem → Option Mem) : Int32 → Int32 → Int32 → Mem → Option Mem := fun a1 a2 a3 M => (if a3 ≤ a2 then (some M) else (chk (inB a2 n1) (letM (mput M q1 (ix a2) a1) (fun M5 => (rec5 a1 (a2 + 1) a3 M5)))))
noncomputable def f_J7_fill_53178 (n1 q1 : Nat) (p2 : Int32) (M : Mem) : Option Mem := ((lp (fun _ _ _ _ => none) (f_J7_fill_53178_5 n1 q1) FU) p2 0 (nI n1) M)
set_option maxHeartbeats 4000000 in
set_option maxRecDepth 100000 in
theorem b_J7_fill_53178 {p : Program} {l : Launch} {e : Env} {R : Room} {s : State} {m : MethodId} {args : Array Value} {below : List Frame} {meth : Method} {c : Code} {Q : State → Prop} {D : va_G} {cy : Nat → ClassId} {ad : Nat → Nat} {x : SX} (fx : FX p s m args meth c cJ7_fill_53178 4 none RJ7 D cy ad x) (hR : 0 ≤ R.frames ∧ 0 ≤ R.locals ∧ 0 ≤ R.cells ∧ 0 ≤ R.slots) (n1 q1 : Nat) (hq1 : isA q1 n1) (p2 : Int32) (M : Mem) (M' : Mem) (hF : f_J7_fill_53178 n1 q1 p2 M = some M') (E : ∀ (pc : Nat) (ls : Array Slot) (H : Heap) (locs : List Loc) (M1 : Mem), decode cJ7_fill_53178 pc = .ok (.return_, 1) → WD D cy ad s M1 H locs → some M1 = some M' → W p l e R s m args below meth c H locs 0 0 Q (F0 m pc ls [])) (H : Heap) (locs : List Loc) (ls : Array Slot) (hl : lv_has ls 4 [(0, .ref (ad q1)), (1, .int p2)]) (hw : WD D cy ad s M H locs) : W p l e R s m args below meth c H locs 0 0 Q (F0 m 0 ls []) := by
  have hx := fx.1.1
  have hb := fx.1.2.1
  have hown := fx.1.2.2.2.1
  have hts := fx.1.2.2.2.2
  have n_5 : ∀ (n9 : Nat), ∀ (a1 : Int32) (a2 : Int32) (a3 : Int32) (M : Mem) (H : Heap) (locs : List Loc) (ls : Array Slot), lv_has ls 4 [(0, .ref (ad q1)), (1, .int a1), (2, .int a2), (3, .int a3)] → WD D cy ad s M H locs → (lp (fun _ _ _ _ => none) (f_J7_fill_53178_5 n1 q1) n9) a1 a2 a3 M = some M' → W p l e R s m args below meth c H locs 0 0 Q (F0 m 5 ls []) := by
    intro n9
    refine lp_ind (fun (rec5 : Int32 → Int32 → Int32 → Mem → Option Mem) => ∀ (a1 : Int32) (a2 : Int32) (a3 : Int32) (M : Mem) (H : Heap) (locs : List Loc) (ls : Array Slot), lv_has ls 4 [(0, .ref (ad q1)), (1, .int a1), (2, .int a2), (3, .int a3)] → WD D cy ad s M H locs → rec5 a1 a2 a3 M = some M' → W p l e R s m args below meth c H locs 0 0 Q (F0 m 5 ls [])) ?_ ?_ n9
    · intro a1 a2 a3 M H locs ls hl hw hF
      exact nomatch hF
    · intro rec5 hr5 a1 a2 a3 M H locs ls hl hw hF
      unfold f_J7_fill_53178_5 at hF
      refine lv_iload_n hx hb dJ7_fill_53178_5 rfl (lv_at hl 2 rfl) ?_
      refine lv_iload_n hx hb dJ7_fill_53178_6 rfl (lv_at hl 3 rfl) ?_
      refine lv_icmp_ge (tgt := 20) hx hb dJ7_fill_53178_7 (by decide) (fun hc7 => ?_) (fun hc7 => ?_)
      · replace hF := st_t hc7 hF
        exact E _ _ _ _ _ dJ7_fill_53178_20 hw hF
      · replace hF := st_f hc7 hF
        refine lv_aload_n hx hb dJ7_fill_53178_10 rfl (lv_at hl 0 rfl) ?_
        refine lv_iload_n hx hb dJ7_fill_53178_11 rfl (lv_at hl 2 rfl) ?_
        refine lv_iload_n hx hb dJ7_fill_53178_12 rfl (lv_at hl 1 rfl) ?_
        obtain ⟨hi6, hF⟩ := st_chk hF
        obtain ⟨M5, eM5, hF⟩ := st_letM hF
        refine g_iast fx hw hq1 hi6 eM5 dJ7_fill_53178_13 (fun H locs hw => ?_)
        refine lv_iinc (v := (a2 + 1)) (lv' := [(2, .int (a2 + 1)), (0, .ref (ad q1)), (1, .int a1), (3, .int a3)]) hx hb dJ7_fill_53178_14 hl (k := 2) rfl rfl (by decide) rfl (fun ls hl => ?_)
        refine lv_goto (tgt := 5) hx hb dJ7_fill_53178_17 (by decide) ?_
        exact hr5 a1 (a2 + 1) a3 M5 H locs ls (lv_sub hl [1, 2, 0, 3] rfl) hw hF
  unfold f_J7_fill_53178 at hF
  refine lv_iconst (v := 0) hx hb dJ7_fill_53178_0 (by decide) ?_
  refine lv_istore_n (lv' := [(2, .int 0), (0, .ref (ad q1)), (1, .int p2)]) hx hb dJ7_fill_53178_1 rfl hl (by decide) rfl (fun ls hl => ?_)
  refine lv_aload_n hx hb dJ7_fill_53178_2 rfl (lv_at hl 1 rfl) ?_
  refine g_alen (v := (nI n1)) fx hw hq1 rfl dJ7_fill_53178_3 ?_
  refine lv_istore_n (lv' := [(3, .int (nI n1)), (2, .int 0), (0, .ref (ad q1)), (1, .int p2)]) hx hb dJ7_fill_53178_4 rfl hl (by decide) rfl (fun ls hl => ?_)
  exact n_5 FU p2 0 (nI n1) M H locs ls (lv_sub hl [2, 3, 1, 0] rfl) hw hF
theorem c_J7_fill_53178 (l : Launch) (x : SX) (D : va_G) (cy : Nat → ClassId) (ad : Nat → Nat) (n1 q1 : Nat) (hq1 : isA q1 n1) (p2 : Int32) (sz : Nat) (M : Mem) (M' : Mem) (hF : f_J7_fill_53178 n1 q1 p2 M = some M') : Met l yJ7_fill_53178 (.code yJ7_fill_53178 cJ7_fill_53178 4 none :: GB) ({ frames := 0, cells := 0, slots := 0, locals := 0 } : Room) (PcW D cy ad x sz M [.ref (ad q1), .int p2]) (QvW D cy ad sz M') 0 0 (AA ad sz) := by
  refine mk_m (own := RJ7) (by decide) rfl (Nat.le_of_ble_eq_true rfl) ?_
  intro p e s m args below meth c ls fx hw hl hsz
  subst hsz
  exact b_J7_fill_53178 fx ⟨Nat.le_refl _, Nat.le_refl _, Nat.le_refl _, Nat.le_refl _⟩ n1 q1 hq1 p2 M M' hF (fun pc ls H locs M1 hd hw h => by cases h; exact g_vret fx hw hd) _ _ ls hl hw
