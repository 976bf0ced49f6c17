/-! THE JDK'S OWN: length and charAt of a String constant -/
def sRow (w : Nat) : String × Nat × String × List Int32 := sTab.getD w ("", 0, "", [])
def sLen (w : Nat) : Nat := (sRow w).2.2.2.length
def sByt (w j : Nat) : Int32 := (sRow w).2.2.2.getD j 0
def sCh (w j : Nat) : Int32 := sByt w j &&& 255
theorem sRow_at {w : Nat} (h : w < 32) : sTab[w]? = some (sRow w) := by
  have h2 : w < sTab.length := h
  rw [sRow, List.getD_eq_getElem?_getD, List.getElem?_eq_getElem h2]
  rfl
theorem sLen_small {w : Nat} (h : w < 32) : sLen w < 2 ^ 31 := by
  have k : ∀ i, i < 32 → sLen i < 2 ^ 31 := by decide
  exact k w h
theorem SF.str {x : SX} {A : Nat → Prop} {U : State} {H : Heap} (h : SF x A U H) {w : Nat} (hw : w < 32) : vk_R (sRow w).1 (sRow w).2.1 (sRow w).2.2.1 (x.1 w) U ∧ va_O "java/lang/String" (x.1 w) A U H ∧ va_OF "java/lang/String" "coder" "B" (.int 0) (x.1 w) A U H ∧ va_OF "java/lang/String" "value" "[B" (.ref (x.2.1 w)) (x.1 w) A U H ∧ va_T .byte (x.2.1 w) (sLen w) (fun j => .int (sByt w j)) A U H := h.1 w _ (sRow_at hw)
theorem wd2_19 : Cond.fieldLink RJ0 38 "java/lang/String" "COMPACT_STRINGS" "Z" ∈ GB := gb_2 19 rfl rfl
theorem wd7_22 : Cond.fieldLink RJ0 9 "java/lang/String" "value" "[B" ∈ GB := gb_7 22 rfl rfl
theorem wd7_23 : Cond.fieldLink RJ0 15 "java/lang/String" "coder" "B" ∈ GB := gb_7 23 rfl rfl
theorem wd2_15 : Cond.methodLink RJ0 335 yJ0_coder_7d493 ∈ GB := gb_2 15 rfl rfl
theorem wd2_16 : Cond.instanceMethod yJ0_coder_7d493 ∈ GB := gb_2 16 rfl rfl
theorem wd2_17 : Cond.selects RJ0 yJ0_coder_7d493 yJ0_coder_7d493 ∈ GB := gb_2 17 rfl rfl
theorem wd2_18 : Cond.code yJ0_coder_7d493 cJ0_coder_7d493 1 (some .byte) ∈ GB := gb_2 18 rfl rfl
theorem wd2_25 : Cond.methodLink RJ0 492 yJ0_isLatin1_aae02 ∈ GB := gb_2 25 rfl rfl
theorem wd2_26 : Cond.instanceMethod yJ0_isLatin1_aae02 ∈ GB := gb_2 26 rfl rfl
theorem wd2_27 : Cond.selects RJ0 yJ0_isLatin1_aae02 yJ0_isLatin1_aae02 ∈ GB := gb_2 27 rfl rfl
theorem wd2_28 : Cond.code yJ0_isLatin1_aae02 cJ0_isLatin1_aae02 1 (some .boolean) ∈ GB := gb_2 28 rfl rfl
theorem wd2_29 : Cond.methodLink RJ0 495 yJ1_charAt_3b067 ∈ GB := gb_2 29 rfl rfl
theorem wd2_30 : Cond.static yJ1_charAt_3b067 ∈ GB := gb_2 30 rfl rfl
theorem wd2_31 : Cond.code yJ1_charAt_3b067 cJ1_charAt_3b067 2 (some .char) ∈ GB := gb_2 31 rfl rfl
theorem wd2_32 : Cond.methodLink RJ1 9 yJ0_checkIndex_df160 ∈ GB := gb_2 32 rfl rfl
theorem wd2_33 : Cond.static yJ0_checkIndex_df160 ∈ GB := gb_2 33 rfl rfl
theorem wd2_34 : Cond.code yJ0_checkIndex_df160 cJ0_checkIndex_df160 2 none ∈ GB := gb_2 34 rfl rfl
theorem wd2_35 : Cond.fieldLink RJ0 1053 "jdk/internal/util/Preconditions" "SIOOBE_FORMATTER" "Ljava/util/function/BiFunction;" ∈ GB := gb_2 35 rfl rfl
theorem wd2_37 : Cond.methodLink RJ0 1059 yJ3_checkIndex_8e157 ∈ GB := gb_2 37 rfl rfl
theorem wd2_38 : Cond.static yJ3_checkIndex_8e157 ∈ GB := gb_2 38 rfl rfl
theorem wd2_39 : Cond.code yJ3_checkIndex_8e157 cJ3_checkIndex_8e157 3 (some .int) ∈ GB := gb_2 39 rfl rfl
theorem wd1_13 : Cond.initialized RJ0 ∈ GB := gb_1 13 rfl rfl
theorem wd1_14 : Cond.initialized RJ1 ∈ GB := gb_1 14 rfl rfl
theorem wd1_15 : Cond.initialized RJ3 ∈ GB := gb_1 15 rfl rfl
section STR
variable {p : Program} {l : Launch} {e : Env} {R : Room} {s : State} {m : MethodId} {args : Array Value} {below : List Frame} {meth : Method} {c : Code} {H : Heap} {locs : List Loc} {cells slots : Nat} {Q : State → Prop}
variable {cc : ByteArray} {nL : Nat} {ret : Option FieldType} {own : String} {D : va_G} {cy : Nat → ClassId} {ad : Nat → Nat} {x : SX} {M : Mem} {pc : Nat} {ls : Array Slot} {rest st0 : List Value}
theorem g_nret {mc ms : Nat} {v z : Int32} {ty : FieldType} (fx : FX p s m args meth c cc nL (some ty) own D cy ad x) (hw : WD D cy ad s M H locs) (hz : v = z) (hn : narrow ty (.int v) = .int v) (hdg : decode cc pc = .ok (.ireturn, 1)) : W p l e R s m args below meth c H locs mc ms (MQ below (QiW D cy ad s.heap.size z M) args s mc ms (AA ad s.heap.size)) (F0 m pc ls [.int v]) := by
  obtain ⟨S, hr, hlk, hK, -⟩ := fx
  obtain ⟨hP, hD, hS⟩ := hw
  exact W.zret (hlocks := hlk) S.1 S.2.1 hr hn (fun t ht hW => ⟨⟨v, (), rfl, hz, by rw [ht]; exact hP, va_K.moved hW.alike hK, hD⟩, hS.F ht⟩) hS.2.2 hdg
theorem g_runT (fx : FX p s m args meth c cc nL ret own D cy ad x) (hw : WD D cy ad s M H locs) {w : Nat} (hw32 : w < 32)
    {y : MethodName} {bytes : ByteArray} {maxL fr lo mc ms n index : Nat} {rt : Option FieldType} {As : List Value} {Qc : Array Value → State → Outcome → State → Prop}
    (hM : Met l y (.code y bytes maxL rt :: GB) ({ frames := fr, cells := mc, slots := ms, locals := lo } : Room) (PcW D cy ad x H.size M (.ref (x.1 w) :: As)) Qc mc ms (AA ad H.size))
    (hl : Cond.methodLink own index y ∈ GB) (hi : Cond.instanceMethod y ∈ GB) (hs : Cond.selects "java/lang/String" y y ∈ GB) (hini : Cond.initialized y.cls ∈ GB) (hcode : Cond.code y bytes maxL rt ∈ GB) (hd : y.cls ≠ "java/lang/invoke/MethodHandle" ∧ y.cls ≠ "java/lang/invoke/VarHandle" ∧ (parseMethodDescriptor y.desc).map (fun d => d.parameters.length) = some n) (hn : As.length = n)
    (hst : st0 = As.reverse ++ .ref (x.1 w) :: rest) (hcat : (rest.map fun v => v.category).sum ≤ 8) (hsz : ls.size = nL) (hR : fr + 1 ≤ R.frames ∧ 8 + (maxL + 11) + lo ≤ R.locals) (hf : cells + mc ≤ R.cells ∧ slots + ms ≤ R.slots) (hdg : decode cc pc = .ok (.invokevirtual index, 3)) :
    va_Run p l e R s m args below meth c H locs cells slots mc ms (F0 m pc ls st0) rest (Qc (Value.ref (x.1 w) :: As).toArray) (AA ad H.size) := by
  have hpre := g_pre fx hw (av := .ref (x.1 w) :: As)
  obtain ⟨S, -, -, hK, hF⟩ := fx
  have hts := S.2.2.2.2
  obtain ⟨cell, h1, h2, h3, -⟩ := (hF.str hw32).2.1.kept hw.2.2.2.1
  exact va_runV (C := "java/lang/String") (As := As) (rest := rest) S hM ⟨cwG hts hl hini hcode hd hR, hts _ hi, hts _ hs⟩ ⟨PcW_blind, ⟨cell, h1, h2, h3⟩, hpre⟩ rfl hn hsz hst (lv_room hcat) hdg hf
end STR
theorem yd_J0_coder : yJ0_coder_7d493.cls ≠ "java/lang/invoke/MethodHandle" ∧ yJ0_coder_7d493.cls ≠ "java/lang/invoke/VarHandle" ∧ (parseMethodDescriptor yJ0_coder_7d493.desc).map (fun d => d.parameters.length) = some 0 := by decide +kernel
theorem yd_J0_isLatin1 : yJ0_isLatin1_aae02.cls ≠ "java/lang/invoke/MethodHandle" ∧ yJ0_isLatin1_aae02.cls ≠ "java/lang/invoke/VarHandle" ∧ (parseMethodDescriptor yJ0_isLatin1_aae02.desc).map (fun d => d.parameters.length) = some 0 := by decide +kernel
theorem yd_J1_charAt : yJ1_charAt_3b067.cls ≠ "java/lang/invoke/MethodHandle" ∧ yJ1_charAt_3b067.cls ≠ "java/lang/invoke/VarHandle" ∧ (parseMethodDescriptor yJ1_charAt_3b067.desc).map (fun d => d.parameters.length) = some 2 := by decide +kernel
theorem yd_J0_checkIndex : yJ0_checkIndex_df160.cls ≠ "java/lang/invoke/MethodHandle" ∧ yJ0_checkIndex_df160.cls ≠ "java/lang/invoke/VarHandle" ∧ (parseMethodDescriptor yJ0_checkIndex_df160.desc).map (fun d => d.parameters.length) = some 2 := by decide +kernel
theorem yd_J3_checkIndex : yJ3_checkIndex_8e157.cls ≠ "java/lang/invoke/MethodHandle" ∧ yJ3_checkIndex_8e157.cls ≠ "java/lang/invoke/VarHandle" ∧ (parseMethodDescriptor yJ3_checkIndex_8e157.desc).map (fun d => d.parameters.length) = some 3 := by decide +kernel
set_option maxHeartbeats 4000000 in
set_option maxRecDepth 100000 in
theorem c_J0_coder (l : Launch) (x : SX) (D : va_G) (cy : Nat → ClassId) (ad : Nat → Nat) (w : Nat) (hw : w < 32) (sz : Nat) (M : Mem) : Met l yJ0_coder_7d493 (.code yJ0_coder_7d493 cJ0_coder_7d493 1 (some .byte) :: GB) ({ frames := 0, cells := 0, slots := 0, locals := 0 } : Room) (PcW D cy ad x sz M [.ref (x.1 w)]) (QiW D cy ad sz 0 M) 0 0 (AA ad sz) := by
  refine mk_m (own := RJ0) (by decide) rfl (Nat.le_of_ble_eq_true rfl) ?_
  intro p e s m args below meth c ls fx hwd hl hsz
  subst hsz
  have hx := fx.1.1
  have hb := fx.1.2.1
  have hown := fx.1.2.2.2.1
  have hts := fx.1.2.2.2.2
  have hF := fx.2.2.2.2
  have hl : lv_has ls 1 [(0, .ref (x.1 w))] := hl
  refine va_gets hx hb hF.2.2.1 hwd.2.2 hown (hts _ wd2_19) (fun _ h => h) dJ0_coder_7d493_0 ?_
  refine lv_if_eq (tgt := 13) hx hb dJ0_coder_7d493_3 (by decide) (fun h => absurd h (by decide)) (fun _ => ?_)
  refine lv_aload_n hx hb dJ0_coder_7d493_6 rfl (lv_at hl 0 rfl) ?_
  refine vk_getf hx hb (hF.str hw).2.2.1 hwd.2.2 hown (hts _ wd7_23) (fun _ h => h) dJ0_coder_7d493_7 ?_
  refine lv_goto (tgt := 14) hx hb dJ0_coder_7d493_10 (by decide) ?_
  exact g_nret fx hwd rfl rfl dJ0_coder_7d493_14
set_option maxHeartbeats 4000000 in
set_option maxRecDepth 100000 in
theorem c_J0_isLatin1 (l : Launch) (x : SX) (D : va_G) (cy : Nat → ClassId) (ad : Nat → Nat) (w : Nat) (hw : w < 32) (sz : Nat) (M : Mem) : Met l yJ0_isLatin1_aae02 (.code yJ0_isLatin1_aae02 cJ0_isLatin1_aae02 1 (some .boolean) :: GB) ({ frames := 0, cells := 0, slots := 0, locals := 0 } : Room) (PcW D cy ad x sz M [.ref (x.1 w)]) (QiW D cy ad sz 1 M) 0 0 (AA ad sz) := by
  refine mk_m (own := RJ0) (by decide) rfl (Nat.le_of_ble_eq_true rfl) ?_
  intro p e s m args below meth c ls fx hwd hl hsz
  subst hsz
  have hx := fx.1.1
  have hb := fx.1.2.1
  have hown := fx.1.2.2.2.1
  have hts := fx.1.2.2.2.2
  have hF := fx.2.2.2.2
  have hl : lv_has ls 1 [(0, .ref (x.1 w))] := hl
  refine va_gets hx hb hF.2.2.1 hwd.2.2 hown (hts _ wd2_19) (fun _ h => h) dJ0_isLatin1_aae02_0 ?_
  refine lv_if_eq (tgt := 17) hx hb dJ0_isLatin1_aae02_3 (by decide) (fun h => absurd h (by decide)) (fun _ => ?_)
  refine lv_aload_n hx hb dJ0_isLatin1_aae02_6 rfl (lv_at hl 0 rfl) ?_
  refine vk_getf hx hb (hF.str hw).2.2.1 hwd.2.2 hown (hts _ wd7_23) (fun _ h => h) dJ0_isLatin1_aae02_7 ?_
  refine lv_if_ne (tgt := 17) hx hb dJ0_isLatin1_aae02_10 (by decide) (fun h => absurd rfl h) (fun _ => ?_)
  refine lv_iconst (v := 1) hx hb dJ0_isLatin1_aae02_13 (by decide) ?_
  refine lv_goto (tgt := 18) hx hb dJ0_isLatin1_aae02_14 (by decide) ?_
  exact g_nret fx hwd rfl rfl dJ0_isLatin1_aae02_18
noncomputable def f_J0_length_8abf5 (w : Nat) (_ : Mem) : Option Int32 := some (nI (sLen w))
set_option maxHeartbeats 4000000 in
set_option maxRecDepth 100000 in
theorem c_J0_length_8abf5 (l : Launch) (x : SX) (D : va_G) (cy : Nat → ClassId) (ad : Nat → Nat) (w : Nat) (hw : w < 32) (sz : Nat) (M : Mem) (z : Int32) (hf : f_J0_length_8abf5 w M = some z) : Met l yJ0_length_8abf5 (.code yJ0_length_8abf5 cJ0_length_8abf5 1 (some .int) :: GB) ({ frames := 1, cells := 0, slots := 0, locals := 20 } : Room) (PcW D cy ad x sz M [.ref (x.1 w)]) (QiW D cy ad sz z M) 0 0 (AA ad sz) := by
  cases hf
  refine mk_m (own := RJ0) (by decide) rfl (Nat.le_of_ble_eq_true rfl) ?_
  intro p e s m args below meth c ls fx hwd hl hsz
  subst hsz
  have hx := fx.1.1
  have hb := fx.1.2.1
  have hown := fx.1.2.2.2.1
  have hts := fx.1.2.2.2.2
  have hF := fx.2.2.2.2
  have hl : lv_has ls 1 [(0, .ref (x.1 w))] := hl
  refine lv_aload_n hx hb dJ0_length_8abf5_0 rfl (lv_at hl 0 rfl) ?_
  refine vk_getf hx hb (hF.str hw).2.2.2.1 hwd.2.2 hown (hts _ wd7_22) (fun _ h => h) dJ0_length_8abf5_1 ?_
  refine va_tlen hx hb (hF.str hw).2.2.2.2 hwd.2.2 rfl dJ0_length_8abf5_4 ?_
  refine lv_aload_n hx hb dJ0_length_8abf5_5 rfl (lv_at hl 0 rfl) ?_
  refine g_ci hwd (g_runT (As := []) (rest := [.int (Int32.ofNat (sLen w))]) fx hwd hw (c_J0_coder l x D cy ad w hw _ M) wd2_15 wd2_16 wd2_17 wd1_13 wd2_18 yd_J0_coder rfl rfl (Nat.le_of_ble_eq_true rfl) hl.1 ⟨Nat.le_of_ble_eq_true rfl, Nat.le_of_ble_eq_true rfl⟩ ⟨Nat.le_refl _, Nat.le_refl _⟩ dJ0_length_8abf5_6) (fun H locs hwd => ?_)
  refine lv_ishr hx hb dJ0_length_8abf5_9 ?_
  exact g_iret fx hwd (sc_shr0 (sLen_small hw)) dJ0_length_8abf5_10
theorem c_J3_checkIndex (l : Launch) (x : SX) (D : va_G) (cy : Nat → ClassId) (ad : Nat → Nat) (sz : Nat) (M : Mem) (fv : Value) (hfv : fv = .null ∨ ∃ t : Nat, fv = .ref t) (i n : Int32) (h0 : ¬ i < 0) (h1 : i < n) : Met l yJ3_checkIndex_8e157 (.code yJ3_checkIndex_8e157 cJ3_checkIndex_8e157 3 (some .int) :: GB) ({ frames := 0, cells := 0, slots := 0, locals := 0 } : Room) (PcW D cy ad x sz M [.int i, .int n, fv]) (QiW D cy ad sz i M) 0 0 (AA ad sz) := by
  have h2 : ∀ p e s m args below meth c ls, FX p s m args meth c cJ3_checkIndex_8e157 3 (some .int) RJ3 D cy ad x → WD D cy ad s M s.heap [] → lv_has ls 3 [(0, .int i), (1, .int n), (2, fv)] → s.heap.size = sz →
      W p l e ({ frames := 0, cells := 0, slots := 0, locals := 0 } : Room) s m args below meth c s.heap [] 0 0 (MQ below (QiW D cy ad sz i M) args s 0 0 (AA ad sz)) (F0 m 0 ls []) := by
    intro p e s m args below meth c ls fx hwd hl hsz
    subst hsz
    have hx := fx.1.1
    have hb := fx.1.2.1
    refine lv_iload_n hx hb dJ3_checkIndex_8e157_0 rfl (lv_at hl 0 rfl) ?_
    refine lv_if_lt (tgt := 9) hx hb dJ3_checkIndex_8e157_1 (by decide) (fun h => absurd h h0) (fun _ => ?_)
    refine lv_iload_n hx hb dJ3_checkIndex_8e157_4 rfl (lv_at hl 0 rfl) ?_
    refine lv_iload_n hx hb dJ3_checkIndex_8e157_5 rfl (lv_at hl 1 rfl) ?_
    refine lv_icmp_lt (tgt := 16) hx hb dJ3_checkIndex_8e157_6 (by decide) (fun _ => ?_) (fun h => absurd h1 h)
    refine lv_iload_n hx hb dJ3_checkIndex_8e157_16 rfl (lv_at hl 0 rfl) ?_
    exact g_iret fx hwd rfl dJ3_checkIndex_8e157_17
  rcases hfv with rfl | ⟨t, rfl⟩
  · refine mk_m (own := RJ3) (by decide) rfl (Nat.le_of_ble_eq_true rfl) ?_
    intro p e s m args below meth c ls fx hwd hl hsz
    exact h2 p e s m args below meth c ls fx hwd hl hsz
  · refine mk_m (own := RJ3) (by decide) rfl (Nat.le_of_ble_eq_true rfl) ?_
    intro p e s m args below meth c ls fx hwd hl hsz
    exact h2 p e s m args below meth c ls fx hwd hl hsz
set_option maxHeartbeats 4000000 in
set_option maxRecDepth 100000 in
theorem c_J0_checkIndex (l : Launch) (x : SX) (D : va_G) (cy : Nat → ClassId) (ad : Nat → Nat) (sz : Nat) (M : Mem) (i n : Int32) (h0 : ¬ i < 0) (h1 : i < n) : Met l yJ0_checkIndex_df160 (.code yJ0_checkIndex_df160 cJ0_checkIndex_df160 2 none :: GB) ({ frames := 1, cells := 0, slots := 0, locals := 22 } : Room) (PcW D cy ad x sz M [.int i, .int n]) (QvW D cy ad sz M) 0 0 (AA ad sz) := by
  refine mk_m (own := RJ0) (by decide) rfl (Nat.le_of_ble_eq_true rfl) ?_
  intro p e s m args below meth c ls fx hwd hl hsz
  subst hsz
  have hx := fx.1.1
  have hb := fx.1.2.1
  have hown := fx.1.2.2.2.1
  have hts := fx.1.2.2.2.2
  have hF := fx.2.2.2.2
  have hl : lv_has ls 2 [(0, .int i), (1, .int n)] := hl
  refine lv_iload_n hx hb dJ0_checkIndex_df160_0 rfl (lv_at hl 0 rfl) ?_
  refine lv_iload_n hx hb dJ0_checkIndex_df160_1 rfl (lv_at hl 1 rfl) ?_
  have go : ∀ fv : Value, (fv = .null ∨ ∃ t : Nat, fv = .ref t) → W p l e ({ frames := 1, cells := 0, slots := 0, locals := 22 } : Room) s m args below meth c s.heap [] 0 0 (MQ below (QvW D cy ad s.heap.size M) args s 0 0 (AA ad s.heap.size)) (F0 m 5 ls [fv, .int n, .int i]) := by
    intro fv hfv
    refine g_ci hwd (g_runS (As := [.int i, .int n, fv]) (rest := []) fx hwd (c_J3_checkIndex l x D cy ad _ M fv hfv i n h0 h1) wd2_37 wd2_38 wd1_15 wd2_39 yd_J3_checkIndex rfl rfl (Nat.le_of_ble_eq_true rfl) hl.1 ⟨Nat.le_of_ble_eq_true rfl, Nat.le_of_ble_eq_true rfl⟩ ⟨Nat.le_refl _, Nat.le_refl _⟩ dJ0_checkIndex_df160_5) (fun H locs hwd => ?_)
    refine lv_pop hx hb dJ0_checkIndex_df160_8 rfl ?_
    exact g_vret fx hwd dJ0_checkIndex_df160_9
  rcases hF.2.2.2.1 with h | ⟨t, h⟩
  · exact va_gets hx hb h hwd.2.2 hown (hts _ wd2_35) (fun _ h => h) dJ0_checkIndex_df160_2 (go _ (Or.inl rfl))
  · exact va_gets hx hb h hwd.2.2 hown (hts _ wd2_35) (fun _ h => h) dJ0_checkIndex_df160_2 (go _ (Or.inr ⟨t, rfl⟩))
set_option maxHeartbeats 4000000 in
set_option maxRecDepth 100000 in
theorem c_J1_charAt (l : Launch) (x : SX) (D : va_G) (cy : Nat → ClassId) (ad : Nat → Nat) (w : Nat) (hw : w < 32) (sz : Nat) (M : Mem) (i : Int32) (hi : inB i (sLen w) = true) : Met l yJ1_charAt_3b067 (.code yJ1_charAt_3b067 cJ1_charAt_3b067 2 (some .char) :: GB) ({ frames := 2, cells := 0, slots := 0, locals := 43 } : Room) (PcW D cy ad x sz M [.ref (x.2.1 w), .int i]) (QiW D cy ad sz (sCh w (ix i)) M) 0 0 (AA ad sz) := by
  obtain ⟨j, hj, rfl⟩ := vp_in_of (inB_in hi) (sLen_small hw)
  have hsm := sLen_small hw
  refine mk_m (own := RJ1) (by decide) rfl (Nat.le_of_ble_eq_true rfl) ?_
  intro p e s m args below meth c ls fx hwd hl hsz
  subst hsz
  have hx := fx.1.1
  have hb := fx.1.2.1
  have hF := fx.2.2.2.2
  have hl : lv_has ls 2 [(0, .ref (x.2.1 w)), (1, .int (nI j))] := hl
  refine lv_iload_n hx hb dJ1_charAt_3b067_0 rfl (lv_at hl 1 rfl) ?_
  refine lv_aload_n hx hb dJ1_charAt_3b067_1 rfl (lv_at hl 0 rfl) ?_
  refine va_tlen hx hb (hF.str hw).2.2.2.2 hwd.2.2 rfl dJ1_charAt_3b067_2 ?_
  refine g_cv hwd (g_runS (As := [.int (nI j), .int (Int32.ofNat (sLen w))]) (rest := []) fx hwd (c_J0_checkIndex l x D cy ad _ M _ _ (nI_pos (by omega)) (nI_lt hj hsm)) wd2_32 wd2_33 wd1_13 wd2_34 yd_J0_checkIndex rfl rfl (Nat.le_of_ble_eq_true rfl) hl.1 ⟨Nat.le_of_ble_eq_true rfl, Nat.le_of_ble_eq_true rfl⟩ ⟨Nat.le_refl _, Nat.le_refl _⟩ dJ1_charAt_3b067_3) (fun H locs hwd => ?_)
  refine lv_aload_n hx hb dJ1_charAt_3b067_6 rfl (lv_at hl 0 rfl) ?_
  refine lv_iload_n hx hb dJ1_charAt_3b067_7 rfl (lv_at hl 1 rfl) ?_
  refine va_tb hx hb (hF.str hw).2.2.2.2 hwd.2.2 (inB_in hi) rfl dJ1_charAt_3b067_8 ?_
  refine lv_sipush (v := 255) hx hb dJ1_charAt_3b067_9 (by decide) ?_
  refine lv_iand hx hb dJ1_charAt_3b067_12 ?_
  refine lv_i2c hx hb dJ1_charAt_3b067_13 (sc_c2 _) ?_
  exact g_nret fx hwd rfl (sc_nar _) dJ1_charAt_3b067_14
noncomputable def f_J0_charAt_5068e (w : Nat) (p1 : Int32) (_ : Mem) : Option Int32 := chk (inB p1 (sLen w)) (some (sCh w (ix p1)))
set_option maxHeartbeats 4000000 in
set_option maxRecDepth 100000 in
theorem c_J0_charAt_5068e (l : Launch) (x : SX) (D : va_G) (cy : Nat → ClassId) (ad : Nat → Nat) (w : Nat) (hw : w < 32) (p1 : Int32) (sz : Nat) (M : Mem) (z : Int32) (hf : f_J0_charAt_5068e w p1 M = some z) : Met l yJ0_charAt_5068e (.code yJ0_charAt_5068e cJ0_charAt_5068e 2 (some .char) :: GB) ({ frames := 3, cells := 0, slots := 0, locals := 64 } : Room) (PcW D cy ad x sz M [.ref (x.1 w), .int p1]) (QiW D cy ad sz z M) 0 0 (AA ad sz) := by
  obtain ⟨hi, hf⟩ := st_chk hf
  cases hf
  refine mk_m (own := RJ0) (by decide) rfl (Nat.le_of_ble_eq_true rfl) ?_
  intro p e s m args below meth c ls fx hwd hl hsz
  subst hsz
  have hx := fx.1.1
  have hb := fx.1.2.1
  have hown := fx.1.2.2.2.1
  have hts := fx.1.2.2.2.2
  have hF := fx.2.2.2.2
  have hl : lv_has ls 2 [(0, .ref (x.1 w)), (1, .int p1)] := hl
  refine lv_aload_n hx hb dJ0_charAt_5068e_0 rfl (lv_at hl 0 rfl) ?_
  refine g_ci hwd (g_runT (As := []) (rest := []) fx hwd hw (c_J0_isLatin1 l x D cy ad w hw _ M) wd2_25 wd2_26 wd2_27 wd1_13 wd2_28 yd_J0_isLatin1 rfl rfl (Nat.le_of_ble_eq_true rfl) hl.1 ⟨Nat.le_of_ble_eq_true rfl, Nat.le_of_ble_eq_true rfl⟩ ⟨Nat.le_refl _, Nat.le_refl _⟩ dJ0_charAt_5068e_1) (fun H locs hwd => ?_)
  refine lv_if_eq (tgt := 16) hx hb dJ0_charAt_5068e_4 (by decide) (fun h => absurd h (by decide)) (fun _ => ?_)
  refine lv_aload_n hx hb dJ0_charAt_5068e_7 rfl (lv_at hl 0 rfl) ?_
  refine vk_getf hx hb (hF.str hw).2.2.2.1 hwd.2.2 hown (hts _ wd7_22) (fun _ h => h) dJ0_charAt_5068e_8 ?_
  refine lv_iload_n hx hb dJ0_charAt_5068e_11 rfl (lv_at hl 1 rfl) ?_
  refine g_ci hwd (g_runS (As := [.ref (x.2.1 w), .int p1]) (rest := []) fx hwd (c_J1_charAt l x D cy ad w hw _ M p1 hi) wd2_29 wd2_30 wd1_14 wd2_31 yd_J1_charAt rfl rfl (Nat.le_of_ble_eq_true rfl) hl.1 ⟨Nat.le_of_ble_eq_true rfl, Nat.le_of_ble_eq_true rfl⟩ ⟨Nat.le_refl _, Nat.le_refl _⟩ dJ0_charAt_5068e_12) (fun H locs hwd => ?_)
  exact g_nret fx hwd rfl (sc_nar _) dJ0_charAt_5068e_15
theorem g_ldcSW {p : Program} {l : Launch} {e : Env} {R : Room} {s : State} {m : MethodId} {args : Array Value} {below : List Frame} {meth : Method} {c : Code} {H : Heap} {locs : List Loc} {cells slots : Nat} {Q : State → Prop} {cc : ByteArray} {pc : Nat} {ls : Array Slot} {rest : List Value} (hexec : p.tables.exec = Jvm.exec) (hb : c.code = cc) {own tx : String} {index q : Nat} (hown : s.vm.findClass own = some m.cls) (hZ : vk_R own index tx q s) (hdg : decode cc pc = .ok (.ldc_w index, 3))
    (k : W p l e R s m args below meth c H locs cells slots Q (F0 m (pc + 3) ls (.ref q :: rest))) : W p l e R s m args below meth c H locs cells slots Q (F0 m pc ls rest) := by
  intro T hT X
  obtain ⟨t, a1, b1⟩ := k T hT X
  exact ⟨t, X.ldcStringW hexec hown (text := tx) (a := q) hZ.1 hZ.2 (g := F0 m pc ls rest) rfl (by rw [hb]; exact hdg) t a1, b1⟩
