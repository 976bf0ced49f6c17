theorem wd3_115 : Cond.methodLink RL 7 yX5_append ∈ GB := gb_3 115 rfl rfl
theorem wd3_116 : Cond.instanceMethod yX5_append ∈ GB := gb_3 116 rfl rfl
theorem wd3_117 : Cond.selects RX5 yX5_append yX5_append ∈ GB := gb_3 117 rfl rfl
theorem wd3_118 : Cond.code yX5_append cX5_append 7 (some .int) ∈ GB := gb_3 118 rfl rfl
theorem yd_X5_append : yX5_append.cls ≠ "java/lang/invoke/MethodHandle" ∧ yX5_append.cls ≠ "java/lang/invoke/VarHandle" ∧ (parseMethodDescriptor yX5_append.desc).map (fun d => d.parameters.length) = some 5 := by decide +kernel
theorem wd3_114 : Cond.classLink RL 13 (exN 3) ∈ GB := gb_3 114 rfl rfl
theorem wd3_197 : Cond.methodLink RL 15 yX5_count ∈ GB := gb_3 197 rfl rfl
theorem wd3_198 : Cond.instanceMethod yX5_count ∈ GB := gb_3 198 rfl rfl
theorem wd3_199 : Cond.selects RX5 yX5_count yX5_count ∈ GB := gb_3 199 rfl rfl
theorem wd3_200 : Cond.code yX5_count cX5_count 2 (some .int) ∈ GB := gb_3 200 rfl rfl
theorem yd_X5_count : yX5_count.cls ≠ "java/lang/invoke/MethodHandle" ∧ yX5_count.cls ≠ "java/lang/invoke/VarHandle" ∧ (parseMethodDescriptor yX5_count.desc).map (fun d => d.parameters.length) = some 1 := by decide +kernel
theorem wd3_196 : Cond.classLink RL 19 (exN 2) ∈ GB := gb_3 196 rfl rfl
theorem wd3_228 : Cond.methodLink RL 21 yX5_account ∈ GB := gb_3 228 rfl rfl
theorem wd3_229 : Cond.instanceMethod yX5_account ∈ GB := gb_3 229 rfl rfl
theorem wd3_230 : Cond.selects RX5 yX5_account yX5_account ∈ GB := gb_3 230 rfl rfl
theorem wd3_231 : Cond.code yX5_account cX5_account 2 (some .int) ∈ GB := gb_3 231 rfl rfl
theorem yd_X5_account : yX5_account.cls ≠ "java/lang/invoke/MethodHandle" ∧ yX5_account.cls ≠ "java/lang/invoke/VarHandle" ∧ (parseMethodDescriptor yX5_account.desc).map (fun d => d.parameters.length) = some 1 := by decide +kernel
theorem wd3_237 : Cond.methodLink RL 24 yX5_monk ∈ GB := gb_3 237 rfl rfl
theorem wd3_238 : Cond.instanceMethod yX5_monk ∈ GB := gb_3 238 rfl rfl
theorem wd3_239 : Cond.selects RX5 yX5_monk yX5_monk ∈ GB := gb_3 239 rfl rfl
theorem wd4_0 : Cond.code yX5_monk cX5_monk 3 (some .int) ∈ GB := gb_4 0 rfl rfl
theorem yd_X5_monk : yX5_monk.cls ≠ "java/lang/invoke/MethodHandle" ∧ yX5_monk.cls ≠ "java/lang/invoke/VarHandle" ∧ (parseMethodDescriptor yX5_monk.desc).map (fun d => d.parameters.length) = some 2 := by decide +kernel
theorem wd3_236 : Cond.classLink RL 28 (exN 1) ∈ GB := gb_3 236 rfl rfl
theorem wd4_36 : Cond.methodLink RL 30 yX5_need ∈ GB := gb_4 36 rfl rfl
theorem wd4_37 : Cond.instanceMethod yX5_need ∈ GB := gb_4 37 rfl rfl
theorem wd4_38 : Cond.selects RX5 yX5_need yX5_need ∈ GB := gb_4 38 rfl rfl
theorem wd4_39 : Cond.code yX5_need cX5_need 3 (some .int) ∈ GB := gb_4 39 rfl rfl
theorem yd_X5_need : yX5_need.cls ≠ "java/lang/invoke/MethodHandle" ∧ yX5_need.cls ≠ "java/lang/invoke/VarHandle" ∧ (parseMethodDescriptor yX5_need.desc).map (fun d => d.parameters.length) = some 2 := by decide +kernel
theorem wd4_55 : Cond.methodLink RL 33 yX5_has ∈ GB := gb_4 55 rfl rfl
theorem wd4_56 : Cond.instanceMethod yX5_has ∈ GB := gb_4 56 rfl rfl
theorem wd4_57 : Cond.selects RX5 yX5_has yX5_has ∈ GB := gb_4 57 rfl rfl
theorem wd4_58 : Cond.code yX5_has cX5_has 4 (some .boolean) ∈ GB := gb_4 58 rfl rfl
theorem yd_X5_has : yX5_has.cls ≠ "java/lang/invoke/MethodHandle" ∧ yX5_has.cls ≠ "java/lang/invoke/VarHandle" ∧ (parseMethodDescriptor yX5_has.desc).map (fun d => d.parameters.length) = some 3 := by decide +kernel
theorem wd4_63 : Cond.methodLink RL 37 yX5_bell ∈ GB := gb_4 63 rfl rfl
theorem wd4_64 : Cond.instanceMethod yX5_bell ∈ GB := gb_4 64 rfl rfl
theorem wd4_65 : Cond.selects RX5 yX5_bell yX5_bell ∈ GB := gb_4 65 rfl rfl
theorem wd4_66 : Cond.code yX5_bell cX5_bell 2 (some .int) ∈ GB := gb_4 66 rfl rfl
theorem yd_X5_bell : yX5_bell.cls ≠ "java/lang/invoke/MethodHandle" ∧ yX5_bell.cls ≠ "java/lang/invoke/VarHandle" ∧ (parseMethodDescriptor yX5_bell.desc).map (fun d => d.parameters.length) = some 1 := by decide +kernel
theorem wd4_74 : Cond.methodLink RL 40 yX5_why ∈ GB := gb_4 74 rfl rfl
theorem wd4_75 : Cond.instanceMethod yX5_why ∈ GB := gb_4 75 rfl rfl
theorem wd4_76 : Cond.selects RX5 yX5_why yX5_why ∈ GB := gb_4 76 rfl rfl
theorem wd4_77 : Cond.code yX5_why cX5_why 7 (some .int) ∈ GB := gb_4 77 rfl rfl
theorem yd_X5_why : yX5_why.cls ≠ "java/lang/invoke/MethodHandle" ∧ yX5_why.cls ≠ "java/lang/invoke/VarHandle" ∧ (parseMethodDescriptor yX5_why.desc).map (fun d => d.parameters.length) = some 5 := by decide +kernel
theorem wd4_106 : Cond.methodLink RL 43 yX5_bestWay ∈ GB := gb_4 106 rfl rfl
theorem wd4_107 : Cond.instanceMethod yX5_bestWay ∈ GB := gb_4 107 rfl rfl
theorem wd4_108 : Cond.selects RX5 yX5_bestWay yX5_bestWay ∈ GB := gb_4 108 rfl rfl
theorem wd4_109 : Cond.code yX5_bestWay cX5_bestWay 8 (some .int) ∈ GB := gb_4 109 rfl rfl
theorem yd_X5_bestWay : yX5_bestWay.cls ≠ "java/lang/invoke/MethodHandle" ∧ yX5_bestWay.cls ≠ "java/lang/invoke/VarHandle" ∧ (parseMethodDescriptor yX5_bestWay.desc).map (fun d => d.parameters.length) = some 3 := by decide +kernel
theorem wd4_118 : Cond.methodLink RL 47 yX5_fastIn ∈ GB := gb_4 118 rfl rfl
theorem wd4_119 : Cond.instanceMethod yX5_fastIn ∈ GB := gb_4 119 rfl rfl
theorem wd4_120 : Cond.selects RX5 yX5_fastIn yX5_fastIn ∈ GB := gb_4 120 rfl rfl
theorem wd4_121 : Cond.code yX5_fastIn cX5_fastIn 2 (some .int) ∈ GB := gb_4 121 rfl rfl
theorem yd_X5_fastIn : yX5_fastIn.cls ≠ "java/lang/invoke/MethodHandle" ∧ yX5_fastIn.cls ≠ "java/lang/invoke/VarHandle" ∧ (parseMethodDescriptor yX5_fastIn.desc).map (fun d => d.parameters.length) = some 1 := by decide +kernel
theorem wd4_129 : Cond.methodLink RL 50 yX5_freeIn ∈ GB := gb_4 129 rfl rfl
theorem wd4_130 : Cond.instanceMethod yX5_freeIn ∈ GB := gb_4 130 rfl rfl
theorem wd4_131 : Cond.selects RX5 yX5_freeIn yX5_freeIn ∈ GB := gb_4 131 rfl rfl
theorem wd4_132 : Cond.code yX5_freeIn cX5_freeIn 3 (some .int) ∈ GB := gb_4 132 rfl rfl
theorem yd_X5_freeIn : yX5_freeIn.cls ≠ "java/lang/invoke/MethodHandle" ∧ yX5_freeIn.cls ≠ "java/lang/invoke/VarHandle" ∧ (parseMethodDescriptor yX5_freeIn.desc).map (fun d => d.parameters.length) = some 1 := by decide +kernel
theorem wd4_136 : Cond.methodLink RL 53 yX5_want ∈ GB := gb_4 136 rfl rfl
theorem wd4_137 : Cond.instanceMethod yX5_want ∈ GB := gb_4 137 rfl rfl
theorem wd4_138 : Cond.selects RX5 yX5_want yX5_want ∈ GB := gb_4 138 rfl rfl
theorem wd4_139 : Cond.code yX5_want cX5_want 4 (some .int) ∈ GB := gb_4 139 rfl rfl
theorem yd_X5_want : yX5_want.cls ≠ "java/lang/invoke/MethodHandle" ∧ yX5_want.cls ≠ "java/lang/invoke/VarHandle" ∧ (parseMethodDescriptor yX5_want.desc).map (fun d => d.parameters.length) = some 2 := by decide +kernel
theorem wd4_148 : Cond.methodLink RL 56 yX5_tell ∈ GB := gb_4 148 rfl rfl
theorem wd4_149 : Cond.instanceMethod yX5_tell ∈ GB := gb_4 149 rfl rfl
theorem wd4_150 : Cond.selects RX5 yX5_tell yX5_tell ∈ GB := gb_4 150 rfl rfl
theorem wd4_151 : Cond.code yX5_tell cX5_tell 6 (some .int) ∈ GB := gb_4 151 rfl rfl
theorem yd_X5_tell : yX5_tell.cls ≠ "java/lang/invoke/MethodHandle" ∧ yX5_tell.cls ≠ "java/lang/invoke/VarHandle" ∧ (parseMethodDescriptor yX5_tell.desc).map (fun d => d.parameters.length) = some 4 := by decide +kernel
theorem wd4_156 : Cond.methodLink RL 60 yX5_give ∈ GB := gb_4 156 rfl rfl
theorem wd4_157 : Cond.instanceMethod yX5_give ∈ GB := gb_4 157 rfl rfl
theorem wd4_158 : Cond.selects RX5 yX5_give yX5_give ∈ GB := gb_4 158 rfl rfl
theorem wd4_159 : Cond.code yX5_give cX5_give 5 (some .int) ∈ GB := gb_4 159 rfl rfl
theorem yd_X5_give : yX5_give.cls ≠ "java/lang/invoke/MethodHandle" ∧ yX5_give.cls ≠ "java/lang/invoke/VarHandle" ∧ (parseMethodDescriptor yX5_give.desc).map (fun d => d.parameters.length) = some 3 := by decide +kernel
theorem wd4_165 : Cond.methodLink RL 63 yX5_pass ∈ GB := gb_4 165 rfl rfl
theorem wd4_166 : Cond.instanceMethod yX5_pass ∈ GB := gb_4 166 rfl rfl
theorem wd4_167 : Cond.selects RX5 yX5_pass yX5_pass ∈ GB := gb_4 167 rfl rfl
theorem wd4_168 : Cond.code yX5_pass cX5_pass 3 (some .int) ∈ GB := gb_4 168 rfl rfl
theorem yd_X5_pass : yX5_pass.cls ≠ "java/lang/invoke/MethodHandle" ∧ yX5_pass.cls ≠ "java/lang/invoke/VarHandle" ∧ (parseMethodDescriptor yX5_pass.desc).map (fun d => d.parameters.length) = some 1 := by decide +kernel
theorem wd4_174 : Cond.methodLink RL 66 yX5_setBell ∈ GB := gb_4 174 rfl rfl
theorem wd4_175 : Cond.instanceMethod yX5_setBell ∈ GB := gb_4 175 rfl rfl
theorem wd4_176 : Cond.selects RX5 yX5_setBell yX5_setBell ∈ GB := gb_4 176 rfl rfl
theorem wd4_177 : Cond.code yX5_setBell cX5_setBell 4 (some .int) ∈ GB := gb_4 177 rfl rfl
theorem yd_X5_setBell : yX5_setBell.cls ≠ "java/lang/invoke/MethodHandle" ∧ yX5_setBell.cls ≠ "java/lang/invoke/VarHandle" ∧ (parseMethodDescriptor yX5_setBell.desc).map (fun d => d.parameters.length) = some 2 := by decide +kernel
theorem wd4_181 : Cond.methodLink RL 69 yX5_set ∈ GB := gb_4 181 rfl rfl
theorem wd4_182 : Cond.instanceMethod yX5_set ∈ GB := gb_4 182 rfl rfl
theorem wd4_183 : Cond.selects RX5 yX5_set yX5_set ∈ GB := gb_4 183 rfl rfl
theorem wd4_184 : Cond.code yX5_set cX5_set 5 (some .int) ∈ GB := gb_4 184 rfl rfl
theorem yd_X5_set : yX5_set.cls ≠ "java/lang/invoke/MethodHandle" ∧ yX5_set.cls ≠ "java/lang/invoke/VarHandle" ∧ (parseMethodDescriptor yX5_set.desc).map (fun d => d.parameters.length) = some 2 := by decide +kernel
theorem wd4_188 : Cond.methodLink RL 72 yX5_undo ∈ GB := gb_4 188 rfl rfl
theorem wd4_189 : Cond.instanceMethod yX5_undo ∈ GB := gb_4 189 rfl rfl
theorem wd4_190 : Cond.selects RX5 yX5_undo yX5_undo ∈ GB := gb_4 190 rfl rfl
theorem wd4_191 : Cond.code yX5_undo cX5_undo 1 (some .int) ∈ GB := gb_4 191 rfl rfl
theorem yd_X5_undo : yX5_undo.cls ≠ "java/lang/invoke/MethodHandle" ∧ yX5_undo.cls ≠ "java/lang/invoke/VarHandle" ∧ (parseMethodDescriptor yX5_undo.desc).map (fun d => d.parameters.length) = some 0 := by decide +kernel
theorem wd4_200 : Cond.methodLink RL 76 yX5_save ∈ GB := gb_4 200 rfl rfl
theorem wd4_201 : Cond.instanceMethod yX5_save ∈ GB := gb_4 201 rfl rfl
theorem wd4_202 : Cond.selects RX5 yX5_save yX5_save ∈ GB := gb_4 202 rfl rfl
theorem wd4_203 : Cond.code yX5_save cX5_save 2 none ∈ GB := gb_4 203 rfl rfl
theorem yd_X5_save : yX5_save.cls ≠ "java/lang/invoke/MethodHandle" ∧ yX5_save.cls ≠ "java/lang/invoke/VarHandle" ∧ (parseMethodDescriptor yX5_save.desc).map (fun d => d.parameters.length) = some 1 := by decide +kernel
theorem wd4_211 : Cond.methodLink RL 80 yX5_restore ∈ GB := gb_4 211 rfl rfl
theorem wd4_212 : Cond.instanceMethod yX5_restore ∈ GB := gb_4 212 rfl rfl
theorem wd4_213 : Cond.selects RX5 yX5_restore yX5_restore ∈ GB := gb_4 213 rfl rfl
theorem wd4_214 : Cond.code yX5_restore cX5_restore 2 (some .int) ∈ GB := gb_4 214 rfl rfl
theorem yd_X5_restore : yX5_restore.cls ≠ "java/lang/invoke/MethodHandle" ∧ yX5_restore.cls ≠ "java/lang/invoke/VarHandle" ∧ (parseMethodDescriptor yX5_restore.desc).map (fun d => d.parameters.length) = some 1 := by decide +kernel
theorem wd4_219 : Cond.methodLink RL 83 yX5_writeMonk ∈ GB := gb_4 219 rfl rfl
theorem wd4_220 : Cond.instanceMethod yX5_writeMonk ∈ GB := gb_4 220 rfl rfl
theorem wd4_221 : Cond.selects RX5 yX5_writeMonk yX5_writeMonk ∈ GB := gb_4 221 rfl rfl
theorem wd4_222 : Cond.code yX5_writeMonk cX5_writeMonk 2 (some .int) ∈ GB := gb_4 222 rfl rfl
theorem yd_X5_writeMonk : yX5_writeMonk.cls ≠ "java/lang/invoke/MethodHandle" ∧ yX5_writeMonk.cls ≠ "java/lang/invoke/VarHandle" ∧ (parseMethodDescriptor yX5_writeMonk.desc).map (fun d => d.parameters.length) = some 1 := by decide +kernel
theorem wd4_237 : Cond.methodLink RL 86 yX5_writtenByte ∈ GB := gb_4 237 rfl rfl
theorem wd4_238 : Cond.instanceMethod yX5_writtenByte ∈ GB := gb_4 238 rfl rfl
theorem wd4_239 : Cond.selects RX5 yX5_writtenByte yX5_writtenByte ∈ GB := gb_4 239 rfl rfl
theorem wd5_0 : Cond.code yX5_writtenByte cX5_writtenByte 2 (some .int) ∈ GB := gb_5 0 rfl rfl
theorem yd_X5_writtenByte : yX5_writtenByte.cls ≠ "java/lang/invoke/MethodHandle" ∧ yX5_writtenByte.cls ≠ "java/lang/invoke/VarHandle" ∧ (parseMethodDescriptor yX5_writtenByte.desc).map (fun d => d.parameters.length) = some 1 := by decide +kernel
noncomputable def f_L_append (p2 p3 p4 p5 p6 : Int32) (M : Mem) : Option (Int32 × Mem) := (bnd3 (f_X5_append p2 p3 p4 p5 p6 M) (fun er4 r4 M5 => (if er4 = 0 then (letM (mput M5 17 0 r4) (fun M6 => (some (0, M6)))) else (if er4 = 3 then (some (1, M5)) else none))))
set_option maxHeartbeats 4000000 in
set_option maxRecDepth 100000 in
theorem b_L_append {p : Program} {l : Launch} {e : Env} {R : Room} {s : State} {m : MethodId} {args : Array Value} {below : List Frame} {meth : Method} {c : Code} {Q : State → Prop} {D : va_G} {cy : Nat → ClassId} {ad : Nat → Nat} {x : SX} (fx : FX p s m args meth c cL_append 8 (some .int) RL D cy ad x) (hR : 7 ≤ R.frames ∧ 116 ≤ R.locals ∧ 1 ≤ R.cells ∧ 6 ≤ R.slots) (p2 p3 p4 p5 p6 : Int32) (M : Mem) (z : Int32) (M' : Mem) (hF : f_L_append p2 p3 p4 p5 p6 M = some (z, M')) (hl9 : l.stackTraces = false) (htab : c.exceptionTable.toList = tableOf [(0, 16, 19, 13)]) (E : ∀ (pc : Nat) (ls : Array Slot) (H : Heap) (locs : List Loc) (v : Int32) (M1 : Mem), decode cL_append pc = .ok (.ireturn, 1) → WD D cy ad s M1 H locs → some (v, M1) = some (z, M') → W p l e R s m args below meth c H locs 1 6 Q (F0 m pc ls [.int v])) (H : Heap) (locs : List Loc) (ls : Array Slot) (hl : lv_has ls 8 [(0, .ref (ad 0)), (1, .int p2), (2, .int p3), (3, .int p4), (4, .int p5), (5, .int p6), (6, .ref (ad 17))]) (hw : WD D cy ad s M H locs) : W p l e R s m args below meth c H locs 0 0 Q (F0 m 0 ls []) := by
  have hx := fx.1.1
  have hb := fx.1.2.1
  have hown := fx.1.2.2.2.1
  have hts := fx.1.2.2.2.2
  unfold f_L_append at hF
  refine lv_aload hx hb dL_append_0 (lv_at hl 6 rfl) ?_
  refine lv_iconst (v := 0) hx hb dL_append_2 (by decide) ?_
  refine lv_aload_n hx hb dL_append_3 rfl (lv_at hl 0 rfl) ?_
  refine lv_iload_n hx hb dL_append_4 rfl (lv_at hl 1 rfl) ?_
  refine lv_iload_n hx hb dL_append_5 rfl (lv_at hl 2 rfl) ?_
  refine lv_iload_n hx hb dL_append_6 rfl (lv_at hl 3 rfl) ?_
  refine lv_iload hx hb dL_append_7 (lv_at hl 4 rfl) ?_
  refine lv_iload hx hb dL_append_9 (lv_at hl 5 rfl) ?_
  obtain ⟨er4, r4, M5, hgr4, hF⟩ := st_bnd3 hF
  refine g_xci hw (g_xrunV (C := RX5) (As := [.int p2, .int p3, .int p4, .int p5, .int p6]) (rest := [.int 0, .ref (ad 17)]) fx hw isO_0 rfl (c_X5_append l x D cy ad p2 p3 p4 p5 p6 H.size M er4 r4 M5 hl9 hgr4) wd3_115 wd3_116 wd3_117 wd1_1 wd3_118 yd_X5_append rfl rfl (Nat.le_of_ble_eq_true rfl) hl.1 ⟨Nat.le_trans (Nat.le_of_ble_eq_true rfl) hR.1, Nat.le_trans (Nat.le_of_ble_eq_true rfl) hR.2.1⟩ ⟨Nat.le_trans (Nat.le_of_ble_eq_true rfl) hR.2.2.1, Nat.le_trans (Nat.le_of_ble_eq_true rfl) hR.2.2.2⟩ dL_append_11) (fun her4 ce q9 H locs hw hce hcv hcl => ?_) (fun her4 H locs hw => ?_)
  · replace hF := st_f her4 hF
    by_cases hkr4_0 : er4 = 3
    · replace hF := st_t hkr4_0 hF
      subst hkr4_0
      refine vx_catch (E := exN 3) (name := exN 3) hown [] ⟨0, 16, 19, 13⟩ [] htab (fun z hz => nomatch hz) (by decide) (by decide) (hts _ wd3_114) (va_Nw.use rfl (fx.2.2.2.2.2.2.2.2.2.2.1 _ (by decide))) hce hcv hcl ?_
      refine lv_astore (lv' := [(7, .ref q9), (0, .ref (ad 0)), (1, .int p2), (2, .int p3), (3, .int p4), (4, .int p5), (5, .int p6), (6, .ref (ad 17))]) hx hb dL_append_19 hl (by decide) rfl (fun ls hl => ?_)
      refine lv_iconst (v := 1) hx hb dL_append_21 (by decide) ?_
      exact E _ _ _ _ _ _ dL_append_22 hw hF
    · replace hF := st_f hkr4_0 hF
      exact nomatch hF
  · replace hF := st_t her4 hF
    refine lv_i2l hx hb dL_append_14 rfl ?_
    obtain ⟨M6, eM6, hF⟩ := st_letM hF
    refine g_last fx hw isL_17 (k := 0) rfl (by decide) eM6 dL_append_15 (fun H locs hw => ?_)
    refine lv_goto (tgt := 23) hx hb dL_append_16 (by decide) ?_
    refine lv_iconst (v := 0) hx hb dL_append_23 (by decide) ?_
    exact E _ _ _ _ _ _ dL_append_24 hw hF
theorem c_L_append (l : Launch) (x : SX) (D : va_G) (cy : Nat → ClassId) (ad : Nat → Nat) (p2 p3 p4 p5 p6 : Int32) (sz : Nat) (M : Mem) (z : Int32) (M' : Mem) (hl9 : l.stackTraces = false) (hF : f_L_append p2 p3 p4 p5 p6 M = some (z, M')) : Met l yL_append (.codeWith yL_append cL_append 8 (some .int) [(0, 16, 19, 13)] :: GB) ({ frames := 7, cells := 1, slots := 6, locals := 116 } : Room) (PcW D cy ad x sz M [.ref (ad 0), .int p2, .int p3, .int p4, .int p5, .int p6, .ref (ad 17)]) (QiW D cy ad sz z M') 1 6 (AA ad sz) := by
  refine mk_w (own := RL) (by decide) rfl (Nat.le_of_ble_eq_true rfl) ?_
  intro p e s m args below meth c ls fx htab hw hl hsz
  subst hsz
  exact b_L_append fx ⟨Nat.le_refl _, Nat.le_refl _, Nat.le_refl _, Nat.le_refl _⟩ p2 p3 p4 p5 p6 M z M' hF hl9 htab (fun pc ls H locs v M1 hd hw h => by cases h; exact g_iret fx hw rfl hd) _ _ ls hl hw
noncomputable def f_L_count (p2 : Int32) (M : Mem) : Option (Int32 × Mem) := (bnd3 (f_X5_count p2 M) (fun er4 r4 M5 => (if er4 = 0 then (letM (mput M5 17 0 r4) (fun M6 => (some (0, M6)))) else (if er4 = 2 then (some (1, M5)) else none))))
set_option maxHeartbeats 4000000 in
set_option maxRecDepth 100000 in
theorem b_L_count {p : Program} {l : Launch} {e : Env} {R : Room} {s : State} {m : MethodId} {args : Array Value} {below : List Frame} {meth : Method} {c : Code} {Q : State → Prop} {D : va_G} {cy : Nat → ClassId} {ad : Nat → Nat} {x : SX} (fx : FX p s m args meth c cL_count 4 (some .int) RL D cy ad x) (hR : 7 ≤ R.frames ∧ 111 ≤ R.locals ∧ 1 ≤ R.cells ∧ 6 ≤ R.slots) (p2 : Int32) (M : Mem) (z : Int32) (M' : Mem) (hF : f_L_count p2 M = some (z, M')) (hl9 : l.stackTraces = false) (htab : c.exceptionTable.toList = tableOf [(0, 9, 12, 19)]) (E : ∀ (pc : Nat) (ls : Array Slot) (H : Heap) (locs : List Loc) (v : Int32) (M1 : Mem), decode cL_count pc = .ok (.ireturn, 1) → WD D cy ad s M1 H locs → some (v, M1) = some (z, M') → W p l e R s m args below meth c H locs 1 6 Q (F0 m pc ls [.int v])) (H : Heap) (locs : List Loc) (ls : Array Slot) (hl : lv_has ls 4 [(0, .ref (ad 0)), (1, .int p2), (2, .ref (ad 17))]) (hw : WD D cy ad s M H locs) : W p l e R s m args below meth c H locs 0 0 Q (F0 m 0 ls []) := by
  have hx := fx.1.1
  have hb := fx.1.2.1
  have hown := fx.1.2.2.2.1
  have hts := fx.1.2.2.2.2
  unfold f_L_count at hF
  refine lv_aload_n hx hb dL_count_0 rfl (lv_at hl 2 rfl) ?_
  refine lv_iconst (v := 0) hx hb dL_count_1 (by decide) ?_
  refine lv_aload_n hx hb dL_count_2 rfl (lv_at hl 0 rfl) ?_
  refine lv_iload_n hx hb dL_count_3 rfl (lv_at hl 1 rfl) ?_
  obtain ⟨er4, r4, M5, hgr4, hF⟩ := st_bnd3 hF
  refine g_xci hw (g_xrunV (C := RX5) (As := [.int p2]) (rest := [.int 0, .ref (ad 17)]) fx hw isO_0 rfl (c_X5_count l x D cy ad p2 H.size M er4 r4 M5 hl9 hgr4) wd3_197 wd3_198 wd3_199 wd1_1 wd3_200 yd_X5_count rfl rfl (Nat.le_of_ble_eq_true rfl) hl.1 ⟨Nat.le_trans (Nat.le_of_ble_eq_true rfl) hR.1, Nat.le_trans (Nat.le_of_ble_eq_true rfl) hR.2.1⟩ ⟨Nat.le_trans (Nat.le_of_ble_eq_true rfl) hR.2.2.1, Nat.le_trans (Nat.le_of_ble_eq_true rfl) hR.2.2.2⟩ dL_count_4) (fun her4 ce q9 H locs hw hce hcv hcl => ?_) (fun her4 H locs hw => ?_)
  · replace hF := st_f her4 hF
    by_cases hkr4_0 : er4 = 2
    · replace hF := st_t hkr4_0 hF
      subst hkr4_0
      refine vx_catch (E := exN 2) (name := exN 2) hown [] ⟨0, 9, 12, 19⟩ [] htab (fun z hz => nomatch hz) (by decide) (by decide) (hts _ wd3_196) (va_Nw.use rfl (fx.2.2.2.2.2.2.2.2.2.2.1 _ (by decide))) hce hcv hcl ?_
      refine lv_astore_n (lv' := [(3, .ref q9), (0, .ref (ad 0)), (1, .int p2), (2, .ref (ad 17))]) hx hb dL_count_12 rfl hl (by decide) rfl (fun ls hl => ?_)
      refine lv_iconst (v := 1) hx hb dL_count_13 (by decide) ?_
      exact E _ _ _ _ _ _ dL_count_14 hw hF
    · replace hF := st_f hkr4_0 hF
      exact nomatch hF
  · replace hF := st_t her4 hF
    refine lv_i2l hx hb dL_count_7 rfl ?_
    obtain ⟨M6, eM6, hF⟩ := st_letM hF
    refine g_last fx hw isL_17 (k := 0) rfl (by decide) eM6 dL_count_8 (fun H locs hw => ?_)
    refine lv_goto (tgt := 15) hx hb dL_count_9 (by decide) ?_
    refine lv_iconst (v := 0) hx hb dL_count_15 (by decide) ?_
    exact E _ _ _ _ _ _ dL_count_16 hw hF
theorem c_L_count (l : Launch) (x : SX) (D : va_G) (cy : Nat → ClassId) (ad : Nat → Nat) (p2 : Int32) (sz : Nat) (M : Mem) (z : Int32) (M' : Mem) (hl9 : l.stackTraces = false) (hF : f_L_count p2 M = some (z, M')) : Met l yL_count (.codeWith yL_count cL_count 4 (some .int) [(0, 9, 12, 19)] :: GB) ({ frames := 7, cells := 1, slots := 6, locals := 111 } : Room) (PcW D cy ad x sz M [.ref (ad 0), .int p2, .ref (ad 17)]) (QiW D cy ad sz z M') 1 6 (AA ad sz) := by
  refine mk_w (own := RL) (by decide) rfl (Nat.le_of_ble_eq_true rfl) ?_
  intro p e s m args below meth c ls fx htab hw hl hsz
  subst hsz
  exact b_L_count fx ⟨Nat.le_refl _, Nat.le_refl _, Nat.le_refl _, Nat.le_refl _⟩ p2 M z M' hF hl9 htab (fun pc ls H locs v M1 hd hw h => by cases h; exact g_iret fx hw rfl hd) _ _ ls hl hw
noncomputable def f_L_account (p2 : Int32) (M : Mem) : Option (Int32 × Mem) := (bnd3 (f_X5_account p2 M) (fun er4 r4 M5 => (if er4 = 0 then (letM (mput M5 17 0 r4) (fun M6 => (some (0, M6)))) else (if er4 = 2 then (some (1, M5)) else none))))
set_option maxHeartbeats 4000000 in
set_option maxRecDepth 100000 in
theorem b_L_account {p : Program} {l : Launch} {e : Env} {R : Room} {s : State} {m : MethodId} {args : Array Value} {below : List Frame} {meth : Method} {c : Code} {Q : State → Prop} {D : va_G} {cy : Nat → ClassId} {ad : Nat → Nat} {x : SX} (fx : FX p s m args meth c cL_account 4 (some .int) RL D cy ad x) (hR : 7 ≤ R.frames ∧ 111 ≤ R.locals ∧ 1 ≤ R.cells ∧ 6 ≤ R.slots) (p2 : Int32) (M : Mem) (z : Int32) (M' : Mem) (hF : f_L_account p2 M = some (z, M')) (hl9 : l.stackTraces = false) (htab : c.exceptionTable.toList = tableOf [(0, 9, 12, 19)]) (E : ∀ (pc : Nat) (ls : Array Slot) (H : Heap) (locs : List Loc) (v : Int32) (M1 : Mem), decode cL_account pc = .ok (.ireturn, 1) → WD D cy ad s M1 H locs → some (v, M1) = some (z, M') → W p l e R s m args below meth c H locs 1 6 Q (F0 m pc ls [.int v])) (H : Heap) (locs : List Loc) (ls : Array Slot) (hl : lv_has ls 4 [(0, .ref (ad 0)), (1, .int p2), (2, .ref (ad 17))]) (hw : WD D cy ad s M H locs) : W p l e R s m args below meth c H locs 0 0 Q (F0 m 0 ls []) := by
  have hx := fx.1.1
  have hb := fx.1.2.1
  have hown := fx.1.2.2.2.1
  have hts := fx.1.2.2.2.2
  unfold f_L_account at hF
  refine lv_aload_n hx hb dL_account_0 rfl (lv_at hl 2 rfl) ?_
  refine lv_iconst (v := 0) hx hb dL_account_1 (by decide) ?_
  refine lv_aload_n hx hb dL_account_2 rfl (lv_at hl 0 rfl) ?_
  refine lv_iload_n hx hb dL_account_3 rfl (lv_at hl 1 rfl) ?_
  obtain ⟨er4, r4, M5, hgr4, hF⟩ := st_bnd3 hF
  refine g_xci hw (g_xrunV (C := RX5) (As := [.int p2]) (rest := [.int 0, .ref (ad 17)]) fx hw isO_0 rfl (c_X5_account l x D cy ad p2 H.size M er4 r4 M5 hl9 hgr4) wd3_228 wd3_229 wd3_230 wd1_1 wd3_231 yd_X5_account rfl rfl (Nat.le_of_ble_eq_true rfl) hl.1 ⟨Nat.le_trans (Nat.le_of_ble_eq_true rfl) hR.1, Nat.le_trans (Nat.le_of_ble_eq_true rfl) hR.2.1⟩ ⟨Nat.le_trans (Nat.le_of_ble_eq_true rfl) hR.2.2.1, Nat.le_trans (Nat.le_of_ble_eq_true rfl) hR.2.2.2⟩ dL_account_4) (fun her4 ce q9 H locs hw hce hcv hcl => ?_) (fun her4 H locs hw => ?_)
  · replace hF := st_f her4 hF
    by_cases hkr4_0 : er4 = 2
    · replace hF := st_t hkr4_0 hF
      subst hkr4_0
      refine vx_catch (E := exN 2) (name := exN 2) hown [] ⟨0, 9, 12, 19⟩ [] htab (fun z hz => nomatch hz) (by decide) (by decide) (hts _ wd3_196) (va_Nw.use rfl (fx.2.2.2.2.2.2.2.2.2.2.1 _ (by decide))) hce hcv hcl ?_
      refine lv_astore_n (lv' := [(3, .ref q9), (0, .ref (ad 0)), (1, .int p2), (2, .ref (ad 17))]) hx hb dL_account_12 rfl hl (by decide) rfl (fun ls hl => ?_)
      refine lv_iconst (v := 1) hx hb dL_account_13 (by decide) ?_
      exact E _ _ _ _ _ _ dL_account_14 hw hF
    · replace hF := st_f hkr4_0 hF
      exact nomatch hF
  · replace hF := st_t her4 hF
    refine lv_i2l hx hb dL_account_7 rfl ?_
    obtain ⟨M6, eM6, hF⟩ := st_letM hF
    refine g_last fx hw isL_17 (k := 0) rfl (by decide) eM6 dL_account_8 (fun H locs hw => ?_)
    refine lv_goto (tgt := 15) hx hb dL_account_9 (by decide) ?_
    refine lv_iconst (v := 0) hx hb dL_account_15 (by decide) ?_
    exact E _ _ _ _ _ _ dL_account_16 hw hF
theorem c_L_account (l : Launch) (x : SX) (D : va_G) (cy : Nat → ClassId) (ad : Nat → Nat) (p2 : Int32) (sz : Nat) (M : Mem) (z : Int32) (M' : Mem) (hl9 : l.stackTraces = false) (hF : f_L_account p2 M = some (z, M')) : Met l yL_account (.codeWith yL_account cL_account 4 (some .int) [(0, 9, 12, 19)] :: GB) ({ frames := 7, cells := 1, slots := 6, locals := 111 } : Room) (PcW D cy ad x sz M [.ref (ad 0), .int p2, .ref (ad 17)]) (QiW D cy ad sz z M') 1 6 (AA ad sz) := by
  refine mk_w (own := RL) (by decide) rfl (Nat.le_of_ble_eq_true rfl) ?_
  intro p e s m args below meth c ls fx htab hw hl hsz
  subst hsz
  exact b_L_account fx ⟨Nat.le_refl _, Nat.le_refl _, Nat.le_refl _, Nat.le_refl _⟩ p2 M z M' hF hl9 htab (fun pc ls H locs v M1 hd hw h => by cases h; exact g_iret fx hw rfl hd) _ _ ls hl hw
noncomputable def f_L_monk (p2 p3 : Int32) (M : Mem) : Option (Int32 × Mem) := (bnd3 (f_X5_monk p2 p3 M) (fun er4 r4 M5 => (if er4 = 0 then (letM (mput M5 17 0 r4) (fun M6 => (some (0, M6)))) else (if er4 = 1 then (some (1, M5)) else (if er4 = 2 then (some (2, M5)) else none)))))
set_option maxHeartbeats 4000000 in
set_option maxRecDepth 100000 in
theorem b_L_monk {p : Program} {l : Launch} {e : Env} {R : Room} {s : State} {m : MethodId} {args : Array Value} {below : List Frame} {meth : Method} {c : Code} {Q : State → Prop} {D : va_G} {cy : Nat → ClassId} {ad : Nat → Nat} {x : SX} (fx : FX p s m args meth c cL_monk 5 (some .int) RL D cy ad x) (hR : 8 ≤ R.frames ∧ 133 ≤ R.locals ∧ 2 ≤ R.cells ∧ 12 ≤ R.slots) (p2 p3 : Int32) (M : Mem) (z : Int32) (M' : Mem) (hF : f_L_monk p2 p3 M = some (z, M')) (hl9 : l.stackTraces = false) (htab : c.exceptionTable.toList = tableOf [(0, 10, 13, 28), (0, 10, 17, 19)]) (E : ∀ (pc : Nat) (ls : Array Slot) (H : Heap) (locs : List Loc) (v : Int32) (M1 : Mem), decode cL_monk pc = .ok (.ireturn, 1) → WD D cy ad s M1 H locs → some (v, M1) = some (z, M') → W p l e R s m args below meth c H locs 2 12 Q (F0 m pc ls [.int v])) (H : Heap) (locs : List Loc) (ls : Array Slot) (hl : lv_has ls 5 [(0, .ref (ad 0)), (1, .int p2), (2, .int p3), (3, .ref (ad 17))]) (hw : WD D cy ad s M H locs) : W p l e R s m args below meth c H locs 0 0 Q (F0 m 0 ls []) := by
  have hx := fx.1.1
  have hb := fx.1.2.1
  have hown := fx.1.2.2.2.1
  have hts := fx.1.2.2.2.2
  unfold f_L_monk at hF
  refine lv_aload_n hx hb dL_monk_0 rfl (lv_at hl 3 rfl) ?_
  refine lv_iconst (v := 0) hx hb dL_monk_1 (by decide) ?_
  refine lv_aload_n hx hb dL_monk_2 rfl (lv_at hl 0 rfl) ?_
  refine lv_iload_n hx hb dL_monk_3 rfl (lv_at hl 1 rfl) ?_
  refine lv_iload_n hx hb dL_monk_4 rfl (lv_at hl 2 rfl) ?_
  obtain ⟨er4, r4, M5, hgr4, hF⟩ := st_bnd3 hF
  refine g_xci hw (g_xrunV (C := RX5) (As := [.int p2, .int p3]) (rest := [.int 0, .ref (ad 17)]) fx hw isO_0 rfl (c_X5_monk l x D cy ad p2 p3 H.size M er4 r4 M5 hl9 hgr4) wd3_237 wd3_238 wd3_239 wd1_1 wd4_0 yd_X5_monk rfl rfl (Nat.le_of_ble_eq_true rfl) hl.1 ⟨Nat.le_trans (Nat.le_of_ble_eq_true rfl) hR.1, Nat.le_trans (Nat.le_of_ble_eq_true rfl) hR.2.1⟩ ⟨Nat.le_trans (Nat.le_of_ble_eq_true rfl) hR.2.2.1, Nat.le_trans (Nat.le_of_ble_eq_true rfl) hR.2.2.2⟩ dL_monk_5) (fun her4 ce q9 H locs hw hce hcv hcl => ?_) (fun her4 H locs hw => ?_)
  · replace hF := st_f her4 hF
    by_cases hkr4_0 : er4 = 1
    · replace hF := st_t hkr4_0 hF
      subst hkr4_0
      refine vx_catch (E := exN 1) (name := exN 1) hown [] ⟨0, 10, 13, 28⟩ [⟨0, 10, 17, 19⟩] htab (fun z hz => nomatch hz) (by decide) (by decide) (hts _ wd3_236) (va_Nw.use rfl (fx.2.2.2.2.2.2.2.2.2.2.1 _ (by decide))) hce hcv hcl ?_
      refine lv_astore (lv' := [(4, .ref q9), (0, .ref (ad 0)), (1, .int p2), (2, .int p3), (3, .ref (ad 17))]) hx hb dL_monk_13 hl (by decide) rfl (fun ls hl => ?_)
      refine lv_iconst (v := 1) hx hb dL_monk_15 (by decide) ?_
      exact E _ _ _ _ _ _ dL_monk_16 hw hF
    · replace hF := st_f hkr4_0 hF
      by_cases hkr4_1 : er4 = 2
      · replace hF := st_t hkr4_1 hF
        subst hkr4_1
        refine vx_catch (E := exN 2) (name := exN 2) hown [⟨0, 10, 13, 28⟩] ⟨0, 10, 17, 19⟩ [] htab (fun z hz => by rw [List.mem_singleton.mp hz]; exact Or.inr ⟨by decide, exN 1, hts _ wd3_236, fx.2.2.2.2.2.2.2.2.2.2.2.1 (exN 2, exN 1) (by decide)⟩) (by decide) (by decide) (hts _ wd3_196) (va_Nw.use rfl (fx.2.2.2.2.2.2.2.2.2.2.1 _ (by decide))) hce hcv hcl ?_
        refine lv_astore (lv' := [(4, .ref q9), (0, .ref (ad 0)), (1, .int p2), (2, .int p3), (3, .ref (ad 17))]) hx hb dL_monk_17 hl (by decide) rfl (fun ls hl => ?_)
        refine lv_iconst (v := 2) hx hb dL_monk_19 (by decide) ?_
        exact E _ _ _ _ _ _ dL_monk_20 hw hF
      · replace hF := st_f hkr4_1 hF
        exact nomatch hF
  · replace hF := st_t her4 hF
    refine lv_i2l hx hb dL_monk_8 rfl ?_
    obtain ⟨M6, eM6, hF⟩ := st_letM hF
    refine g_last fx hw isL_17 (k := 0) rfl (by decide) eM6 dL_monk_9 (fun H locs hw => ?_)
    refine lv_goto (tgt := 21) hx hb dL_monk_10 (by decide) ?_
    refine lv_iconst (v := 0) hx hb dL_monk_21 (by decide) ?_
    exact E _ _ _ _ _ _ dL_monk_22 hw hF
theorem c_L_monk (l : Launch) (x : SX) (D : va_G) (cy : Nat → ClassId) (ad : Nat → Nat) (p2 p3 : Int32) (sz : Nat) (M : Mem) (z : Int32) (M' : Mem) (hl9 : l.stackTraces = false) (hF : f_L_monk p2 p3 M = some (z, M')) : Met l yL_monk (.codeWith yL_monk cL_monk 5 (some .int) [(0, 10, 13, 28), (0, 10, 17, 19)] :: GB) ({ frames := 8, cells := 2, slots := 12, locals := 133 } : Room) (PcW D cy ad x sz M [.ref (ad 0), .int p2, .int p3, .ref (ad 17)]) (QiW D cy ad sz z M') 2 12 (AA ad sz) := by
  refine mk_w (own := RL) (by decide) rfl (Nat.le_of_ble_eq_true rfl) ?_
  intro p e s m args below meth c ls fx htab hw hl hsz
  subst hsz
  exact b_L_monk fx ⟨Nat.le_refl _, Nat.le_refl _, Nat.le_refl _, Nat.le_refl _⟩ p2 p3 M z M' hF hl9 htab (fun pc ls H locs v M1 hd hw h => by cases h; exact g_iret fx hw rfl hd) _ _ ls hl hw
noncomputable def f_L_need (p2 p3 : Int32) (M : Mem) : Option (Int32 × Mem) := (bnd3 (f_X5_need p2 p3 M) (fun er4 r4 M5 => (if er4 = 0 then (letM (mput M5 17 0 r4) (fun M6 => (some (0, M6)))) else (if er4 = 1 then (some (1, M5)) else (if er4 = 2 then (some (2, M5)) else none)))))
set_option maxHeartbeats 4000000 in
set_option maxRecDepth 100000 in
theorem b_L_need {p : Program} {l : Launch} {e : Env} {R : Room} {s : State} {m : MethodId} {args : Array Value} {below : List Frame} {meth : Method} {c : Code} {Q : State → Prop} {D : va_G} {cy : Nat → ClassId} {ad : Nat → Nat} {x : SX} (fx : FX p s m args meth c cL_need 5 (some .int) RL D cy ad x) (hR : 8 ≤ R.frames ∧ 133 ≤ R.locals ∧ 2 ≤ R.cells ∧ 12 ≤ R.slots) (p2 p3 : Int32) (M : Mem) (z : Int32) (M' : Mem) (hF : f_L_need p2 p3 M = some (z, M')) (hl9 : l.stackTraces = false) (htab : c.exceptionTable.toList = tableOf [(0, 10, 13, 28), (0, 10, 17, 19)]) (E : ∀ (pc : Nat) (ls : Array Slot) (H : Heap) (locs : List Loc) (v : Int32) (M1 : Mem), decode cL_need pc = .ok (.ireturn, 1) → WD D cy ad s M1 H locs → some (v, M1) = some (z, M') → W p l e R s m args below meth c H locs 2 12 Q (F0 m pc ls [.int v])) (H : Heap) (locs : List Loc) (ls : Array Slot) (hl : lv_has ls 5 [(0, .ref (ad 0)), (1, .int p2), (2, .int p3), (3, .ref (ad 17))]) (hw : WD D cy ad s M H locs) : W p l e R s m args below meth c H locs 0 0 Q (F0 m 0 ls []) := by
  have hx := fx.1.1
  have hb := fx.1.2.1
  have hown := fx.1.2.2.2.1
  have hts := fx.1.2.2.2.2
  unfold f_L_need at hF
  refine lv_aload_n hx hb dL_need_0 rfl (lv_at hl 3 rfl) ?_
  refine lv_iconst (v := 0) hx hb dL_need_1 (by decide) ?_
  refine lv_aload_n hx hb dL_need_2 rfl (lv_at hl 0 rfl) ?_
  refine lv_iload_n hx hb dL_need_3 rfl (lv_at hl 1 rfl) ?_
  refine lv_iload_n hx hb dL_need_4 rfl (lv_at hl 2 rfl) ?_
  obtain ⟨er4, r4, M5, hgr4, hF⟩ := st_bnd3 hF
  refine g_xci hw (g_xrunV (C := RX5) (As := [.int p2, .int p3]) (rest := [.int 0, .ref (ad 17)]) fx hw isO_0 rfl (c_X5_need l x D cy ad p2 p3 H.size M er4 r4 M5 hl9 hgr4) wd4_36 wd4_37 wd4_38 wd1_1 wd4_39 yd_X5_need rfl rfl (Nat.le_of_ble_eq_true rfl) hl.1 ⟨Nat.le_trans (Nat.le_of_ble_eq_true rfl) hR.1, Nat.le_trans (Nat.le_of_ble_eq_true rfl) hR.2.1⟩ ⟨Nat.le_trans (Nat.le_of_ble_eq_true rfl) hR.2.2.1, Nat.le_trans (Nat.le_of_ble_eq_true rfl) hR.2.2.2⟩ dL_need_5) (fun her4 ce q9 H locs hw hce hcv hcl => ?_) (fun her4 H locs hw => ?_)
  · replace hF := st_f her4 hF
    by_cases hkr4_0 : er4 = 1
    · replace hF := st_t hkr4_0 hF
      subst hkr4_0
      refine vx_catch (E := exN 1) (name := exN 1) hown [] ⟨0, 10, 13, 28⟩ [⟨0, 10, 17, 19⟩] htab (fun z hz => nomatch hz) (by decide) (by decide) (hts _ wd3_236) (va_Nw.use rfl (fx.2.2.2.2.2.2.2.2.2.2.1 _ (by decide))) hce hcv hcl ?_
      refine lv_astore (lv' := [(4, .ref q9), (0, .ref (ad 0)), (1, .int p2), (2, .int p3), (3, .ref (ad 17))]) hx hb dL_need_13 hl (by decide) rfl (fun ls hl => ?_)
      refine lv_iconst (v := 1) hx hb dL_need_15 (by decide) ?_
      exact E _ _ _ _ _ _ dL_need_16 hw hF
    · replace hF := st_f hkr4_0 hF
      by_cases hkr4_1 : er4 = 2
      · replace hF := st_t hkr4_1 hF
        subst hkr4_1
        refine vx_catch (E := exN 2) (name := exN 2) hown [⟨0, 10, 13, 28⟩] ⟨0, 10, 17, 19⟩ [] htab (fun z hz => by rw [List.mem_singleton.mp hz]; exact Or.inr ⟨by decide, exN 1, hts _ wd3_236, fx.2.2.2.2.2.2.2.2.2.2.2.1 (exN 2, exN 1) (by decide)⟩) (by decide) (by decide) (hts _ wd3_196) (va_Nw.use rfl (fx.2.2.2.2.2.2.2.2.2.2.1 _ (by decide))) hce hcv hcl ?_
        refine lv_astore (lv' := [(4, .ref q9), (0, .ref (ad 0)), (1, .int p2), (2, .int p3), (3, .ref (ad 17))]) hx hb dL_need_17 hl (by decide) rfl (fun ls hl => ?_)
        refine lv_iconst (v := 2) hx hb dL_need_19 (by decide) ?_
        exact E _ _ _ _ _ _ dL_need_20 hw hF
      · replace hF := st_f hkr4_1 hF
        exact nomatch hF
  · replace hF := st_t her4 hF
    refine lv_i2l hx hb dL_need_8 rfl ?_
    obtain ⟨M6, eM6, hF⟩ := st_letM hF
    refine g_last fx hw isL_17 (k := 0) rfl (by decide) eM6 dL_need_9 (fun H locs hw => ?_)
    refine lv_goto (tgt := 21) hx hb dL_need_10 (by decide) ?_
    refine lv_iconst (v := 0) hx hb dL_need_21 (by decide) ?_
    exact E _ _ _ _ _ _ dL_need_22 hw hF
theorem c_L_need (l : Launch) (x : SX) (D : va_G) (cy : Nat → ClassId) (ad : Nat → Nat) (p2 p3 : Int32) (sz : Nat) (M : Mem) (z : Int32) (M' : Mem) (hl9 : l.stackTraces = false) (hF : f_L_need p2 p3 M = some (z, M')) : Met l yL_need (.codeWith yL_need cL_need 5 (some .int) [(0, 10, 13, 28), (0, 10, 17, 19)] :: GB) ({ frames := 8, cells := 2, slots := 12, locals := 133 } : Room) (PcW D cy ad x sz M [.ref (ad 0), .int p2, .int p3, .ref (ad 17)]) (QiW D cy ad sz z M') 2 12 (AA ad sz) := by
  refine mk_w (own := RL) (by decide) rfl (Nat.le_of_ble_eq_true rfl) ?_
  intro p e s m args below meth c ls fx htab hw hl hsz
  subst hsz
  exact b_L_need fx ⟨Nat.le_refl _, Nat.le_refl _, Nat.le_refl _, Nat.le_refl _⟩ p2 p3 M z M' hF hl9 htab (fun pc ls H locs v M1 hd hw h => by cases h; exact g_iret fx hw rfl hd) _ _ ls hl hw
noncomputable def f_L_has_18 : Int32 → Mem → Option (Int32 × Mem) := fun t2 M => (letM (mput M 17 0 t2) (fun M7 => (some (0, M7))))
noncomputable def f_L_has (p2 p3 p4 : Int32) (M : Mem) : Option (Int32 × Mem) := (bnd3 (f_X5_has p2 p3 p4 M) (fun er8 r8 M9 => (if er8 = 0 then (if r8 = 0 then ((f_L_has_18) 0 M9) else ((f_L_has_18) 1 M9)) else (if er8 = 1 then (some (1, M9)) else none))))
set_option maxHeartbeats 4000000 in
set_option maxRecDepth 100000 in
theorem b_L_has {p : Program} {l : Launch} {e : Env} {R : Room} {s : State} {m : MethodId} {args : Array Value} {below : List Frame} {meth : Method} {c : Code} {Q : State → Prop} {D : va_G} {cy : Nat → ClassId} {ad : Nat → Nat} {x : SX} (fx : FX p s m args meth c cL_has 6 (some .int) RL D cy ad x) (hR : 8 ≤ R.frames ∧ 134 ≤ R.locals ∧ 2 ≤ R.cells ∧ 12 ≤ R.slots) (p2 p3 p4 : Int32) (M : Mem) (z : Int32) (M' : Mem) (hF : f_L_has p2 p3 p4 M = some (z, M')) (hl9 : l.stackTraces = false) (htab : c.exceptionTable.toList = tableOf [(0, 19, 22, 28)]) (E : ∀ (pc : Nat) (ls : Array Slot) (H : Heap) (locs : List Loc) (v : Int32) (M1 : Mem), decode cL_has pc = .ok (.ireturn, 1) → WD D cy ad s M1 H locs → some (v, M1) = some (z, M') → W p l e R s m args below meth c H locs 2 12 Q (F0 m pc ls [.int v])) (H : Heap) (locs : List Loc) (ls : Array Slot) (hl : lv_has ls 6 [(0, .ref (ad 0)), (1, .int p2), (2, .int p3), (3, .int p4), (4, .ref (ad 17))]) (hw : WD D cy ad s M H locs) : W p l e R s m args below meth c H locs 0 0 Q (F0 m 0 ls []) := by
  have hx := fx.1.1
  have hb := fx.1.2.1
  have hown := fx.1.2.2.2.1
  have hts := fx.1.2.2.2.2
  have n_18 : ∀ (t2 : Int32) (M : Mem) (H : Heap) (locs : List Loc) (ls : Array Slot), lv_has ls 6 [] → WD D cy ad s M H locs → f_L_has_18 t2 M = some (z, M') → W p l e R s m args below meth c H locs 2 12 Q (F0 m 18 ls [.long (t2 : Int32).toInt64, .int 0, .ref (ad 17)]) := by
    intro t2 M H locs ls hl hw hF
    unfold f_L_has_18 at hF
    obtain ⟨M7, eM7, hF⟩ := st_letM hF
    refine g_last fx hw isL_17 (k := 0) rfl (by decide) eM7 dL_has_18 (fun H locs hw => ?_)
    refine lv_goto (tgt := 26) hx hb dL_has_19 (by decide) ?_
    refine lv_iconst (v := 0) hx hb dL_has_26 (by decide) ?_
    exact E _ _ _ _ _ _ dL_has_27 hw hF
  unfold f_L_has at hF
  refine lv_aload hx hb dL_has_0 (lv_at hl 4 rfl) ?_
  refine lv_iconst (v := 0) hx hb dL_has_2 (by decide) ?_
  refine lv_aload_n hx hb dL_has_3 rfl (lv_at hl 0 rfl) ?_
  refine lv_iload_n hx hb dL_has_4 rfl (lv_at hl 1 rfl) ?_
  refine lv_iload_n hx hb dL_has_5 rfl (lv_at hl 2 rfl) ?_
  refine lv_iload_n hx hb dL_has_6 rfl (lv_at hl 3 rfl) ?_
  obtain ⟨er8, r8, M9, hgr8, hF⟩ := st_bnd3 hF
  refine g_xcz hw (g_xrunV (C := RX5) (As := [.int p2, .int p3, .int p4]) (rest := [.int 0, .ref (ad 17)]) fx hw isO_0 rfl (c_X5_has l x D cy ad p2 p3 p4 H.size M er8 r8 M9 hl9 hgr8) wd4_55 wd4_56 wd4_57 wd1_1 wd4_58 yd_X5_has rfl rfl (Nat.le_of_ble_eq_true rfl) hl.1 ⟨Nat.le_trans (Nat.le_of_ble_eq_true rfl) hR.1, Nat.le_trans (Nat.le_of_ble_eq_true rfl) hR.2.1⟩ ⟨Nat.le_trans (Nat.le_of_ble_eq_true rfl) hR.2.2.1, Nat.le_trans (Nat.le_of_ble_eq_true rfl) hR.2.2.2⟩ dL_has_7) (fun her8 ce q9 H locs hw hce hcv hcl => ?_) (fun her8 H locs hbr8 hw => ?_)
  · replace hF := st_f her8 hF
    by_cases hkr8_0 : er8 = 1
    · replace hF := st_t hkr8_0 hF
      subst hkr8_0
      refine vx_catch (E := exN 1) (name := exN 1) hown [] ⟨0, 19, 22, 28⟩ [] htab (fun z hz => nomatch hz) (by decide) (by decide) (hts _ wd3_236) (va_Nw.use rfl (fx.2.2.2.2.2.2.2.2.2.2.1 _ (by decide))) hce hcv hcl ?_
      refine lv_astore (lv' := [(5, .ref q9), (0, .ref (ad 0)), (1, .int p2), (2, .int p3), (3, .int p4), (4, .ref (ad 17))]) hx hb dL_has_22 hl (by decide) rfl (fun ls hl => ?_)
      refine lv_iconst (v := 1) hx hb dL_has_24 (by decide) ?_
      exact E _ _ _ _ _ _ dL_has_25 hw hF
    · replace hF := st_f hkr8_0 hF
      exact nomatch hF
  · replace hF := st_t her8 hF
    refine lv_if_eq (tgt := 17) hx hb dL_has_10 (by decide) (fun hc10 => ?_) (fun hc10 => ?_)
    · replace hF := st_t hc10 hF
      refine lv_lconst (v := (0 : Int32).toInt64) hx hb dL_has_17 (by decide) ?_
      exact n_18 0 M9 H locs ls (lv_sub hl [] rfl) hw hF
    · replace hF := st_f hc10 hF
      refine lv_lconst (v := (1 : Int32).toInt64) hx hb dL_has_13 (by decide) ?_
      refine lv_goto (tgt := 18) hx hb dL_has_14 (by decide) ?_
      exact n_18 1 M9 H locs ls (lv_sub hl [] rfl) hw hF
theorem c_L_has (l : Launch) (x : SX) (D : va_G) (cy : Nat → ClassId) (ad : Nat → Nat) (p2 p3 p4 : Int32) (sz : Nat) (M : Mem) (z : Int32) (M' : Mem) (hl9 : l.stackTraces = false) (hF : f_L_has p2 p3 p4 M = some (z, M')) : Met l yL_has (.codeWith yL_has cL_has 6 (some .int) [(0, 19, 22, 28)] :: GB) ({ frames := 8, cells := 2, slots := 12, locals := 134 } : Room) (PcW D cy ad x sz M [.ref (ad 0), .int p2, .int p3, .int p4, .ref (ad 17)]) (QiW D cy ad sz z M') 2 12 (AA ad sz) := by
  refine mk_w (own := RL) (by decide) rfl (Nat.le_of_ble_eq_true rfl) ?_
  intro p e s m args below meth c ls fx htab hw hl hsz
  subst hsz
  exact b_L_has fx ⟨Nat.le_refl _, Nat.le_refl _, Nat.le_refl _, Nat.le_refl _⟩ p2 p3 p4 M z M' hF hl9 htab (fun pc ls H locs v M1 hd hw h => by cases h; exact g_iret fx hw rfl hd) _ _ ls hl hw
noncomputable def f_L_bell (p2 : Int32) (M : Mem) : Option (Int32 × Mem) := (bnd3 (f_X5_bell p2 M) (fun er4 r4 M5 => (if er4 = 0 then (letM (mput M5 17 0 r4) (fun M6 => (some (0, M6)))) else (if er4 = 1 then (some (1, M5)) else none))))
set_option maxHeartbeats 4000000 in
set_option maxRecDepth 100000 in
theorem b_L_bell {p : Program} {l : Launch} {e : Env} {R : Room} {s : State} {m : MethodId} {args : Array Value} {below : List Frame} {meth : Method} {c : Code} {Q : State → Prop} {D : va_G} {cy : Nat → ClassId} {ad : Nat → Nat} {x : SX} (fx : FX p s m args meth c cL_bell 4 (some .int) RL D cy ad x) (hR : 8 ≤ R.frames ∧ 131 ≤ R.locals ∧ 1 ≤ R.cells ∧ 6 ≤ R.slots) (p2 : Int32) (M : Mem) (z : Int32) (M' : Mem) (hF : f_L_bell p2 M = some (z, M')) (hl9 : l.stackTraces = false) (htab : c.exceptionTable.toList = tableOf [(0, 9, 12, 28)]) (E : ∀ (pc : Nat) (ls : Array Slot) (H : Heap) (locs : List Loc) (v : Int32) (M1 : Mem), decode cL_bell pc = .ok (.ireturn, 1) → WD D cy ad s M1 H locs → some (v, M1) = some (z, M') → W p l e R s m args below meth c H locs 1 6 Q (F0 m pc ls [.int v])) (H : Heap) (locs : List Loc) (ls : Array Slot) (hl : lv_has ls 4 [(0, .ref (ad 0)), (1, .int p2), (2, .ref (ad 17))]) (hw : WD D cy ad s M H locs) : W p l e R s m args below meth c H locs 0 0 Q (F0 m 0 ls []) := by
  have hx := fx.1.1
  have hb := fx.1.2.1
  have hown := fx.1.2.2.2.1
  have hts := fx.1.2.2.2.2
  unfold f_L_bell at hF
  refine lv_aload_n hx hb dL_bell_0 rfl (lv_at hl 2 rfl) ?_
  refine lv_iconst (v := 0) hx hb dL_bell_1 (by decide) ?_
  refine lv_aload_n hx hb dL_bell_2 rfl (lv_at hl 0 rfl) ?_
  refine lv_iload_n hx hb dL_bell_3 rfl (lv_at hl 1 rfl) ?_
  obtain ⟨er4, r4, M5, hgr4, hF⟩ := st_bnd3 hF
  refine g_xci hw (g_xrunV (C := RX5) (As := [.int p2]) (rest := [.int 0, .ref (ad 17)]) fx hw isO_0 rfl (c_X5_bell l x D cy ad p2 H.size M er4 r4 M5 hl9 hgr4) wd4_63 wd4_64 wd4_65 wd1_1 wd4_66 yd_X5_bell rfl rfl (Nat.le_of_ble_eq_true rfl) hl.1 ⟨Nat.le_trans (Nat.le_of_ble_eq_true rfl) hR.1, Nat.le_trans (Nat.le_of_ble_eq_true rfl) hR.2.1⟩ ⟨Nat.le_trans (Nat.le_of_ble_eq_true rfl) hR.2.2.1, Nat.le_trans (Nat.le_of_ble_eq_true rfl) hR.2.2.2⟩ dL_bell_4) (fun her4 ce q9 H locs hw hce hcv hcl => ?_) (fun her4 H locs hw => ?_)
  · replace hF := st_f her4 hF
    by_cases hkr4_0 : er4 = 1
    · replace hF := st_t hkr4_0 hF
      subst hkr4_0
      refine vx_catch (E := exN 1) (name := exN 1) hown [] ⟨0, 9, 12, 28⟩ [] htab (fun z hz => nomatch hz) (by decide) (by decide) (hts _ wd3_236) (va_Nw.use rfl (fx.2.2.2.2.2.2.2.2.2.2.1 _ (by decide))) hce hcv hcl ?_
      refine lv_astore_n (lv' := [(3, .ref q9), (0, .ref (ad 0)), (1, .int p2), (2, .ref (ad 17))]) hx hb dL_bell_12 rfl hl (by decide) rfl (fun ls hl => ?_)
      refine lv_iconst (v := 1) hx hb dL_bell_13 (by decide) ?_
      exact E _ _ _ _ _ _ dL_bell_14 hw hF
    · replace hF := st_f hkr4_0 hF
      exact nomatch hF
  · replace hF := st_t her4 hF
    refine lv_i2l hx hb dL_bell_7 rfl ?_
    obtain ⟨M6, eM6, hF⟩ := st_letM hF
    refine g_last fx hw isL_17 (k := 0) rfl (by decide) eM6 dL_bell_8 (fun H locs hw => ?_)
    refine lv_goto (tgt := 15) hx hb dL_bell_9 (by decide) ?_
    refine lv_iconst (v := 0) hx hb dL_bell_15 (by decide) ?_
    exact E _ _ _ _ _ _ dL_bell_16 hw hF
theorem c_L_bell (l : Launch) (x : SX) (D : va_G) (cy : Nat → ClassId) (ad : Nat → Nat) (p2 : Int32) (sz : Nat) (M : Mem) (z : Int32) (M' : Mem) (hl9 : l.stackTraces = false) (hF : f_L_bell p2 M = some (z, M')) : Met l yL_bell (.codeWith yL_bell cL_bell 4 (some .int) [(0, 9, 12, 28)] :: GB) ({ frames := 8, cells := 1, slots := 6, locals := 131 } : Room) (PcW D cy ad x sz M [.ref (ad 0), .int p2, .ref (ad 17)]) (QiW D cy ad sz z M') 1 6 (AA ad sz) := by
  refine mk_w (own := RL) (by decide) rfl (Nat.le_of_ble_eq_true rfl) ?_
  intro p e s m args below meth c ls fx htab hw hl hsz
  subst hsz
  exact b_L_bell fx ⟨Nat.le_refl _, Nat.le_refl _, Nat.le_refl _, Nat.le_refl _⟩ p2 M z M' hF hl9 htab (fun pc ls H locs v M1 hd hw h => by cases h; exact g_iret fx hw rfl hd) _ _ ls hl hw
noncomputable def f_L_why (p2 p3 p4 p5 p6 : Int32) (M : Mem) : Option (Int32 × Mem) := (bnd3 (f_X5_why p2 p3 p4 p5 p6 M) (fun er4 r4 M5 => (if er4 = 0 then (letM (mput M5 17 0 r4) (fun M6 => (some (0, M6)))) else (if er4 = 1 then (some (1, M5)) else (if er4 = 2 then (some (2, M5)) else none)))))
set_option maxHeartbeats 4000000 in
set_option maxRecDepth 100000 in
theorem b_L_why {p : Program} {l : Launch} {e : Env} {R : Room} {s : State} {m : MethodId} {args : Array Value} {below : List Frame} {meth : Method} {c : Code} {Q : State → Prop} {D : va_G} {cy : Nat → ClassId} {ad : Nat → Nat} {x : SX} (fx : FX p s m args meth c cL_why 8 (some .int) RL D cy ad x) (hR : 9 ≤ R.frames ∧ 160 ≤ R.locals ∧ 6 ≤ R.cells ∧ 36 ≤ R.slots) (p2 p3 p4 p5 p6 : Int32) (M : Mem) (z : Int32) (M' : Mem) (hF : f_L_why p2 p3 p4 p5 p6 M = some (z, M')) (hl9 : l.stackTraces = false) (htab : c.exceptionTable.toList = tableOf [(0, 16, 19, 28), (0, 16, 23, 19)]) (E : ∀ (pc : Nat) (ls : Array Slot) (H : Heap) (locs : List Loc) (v : Int32) (M1 : Mem), decode cL_why pc = .ok (.ireturn, 1) → WD D cy ad s M1 H locs → some (v, M1) = some (z, M') → W p l e R s m args below meth c H locs 6 36 Q (F0 m pc ls [.int v])) (H : Heap) (locs : List Loc) (ls : Array Slot) (hl : lv_has ls 8 [(0, .ref (ad 0)), (1, .int p2), (2, .int p3), (3, .int p4), (4, .int p5), (5, .int p6), (6, .ref (ad 17))]) (hw : WD D cy ad s M H locs) : W p l e R s m args below meth c H locs 0 0 Q (F0 m 0 ls []) := by
  have hx := fx.1.1
  have hb := fx.1.2.1
  have hown := fx.1.2.2.2.1
  have hts := fx.1.2.2.2.2
  unfold f_L_why at hF
  refine lv_aload hx hb dL_why_0 (lv_at hl 6 rfl) ?_
  refine lv_iconst (v := 0) hx hb dL_why_2 (by decide) ?_
  refine lv_aload_n hx hb dL_why_3 rfl (lv_at hl 0 rfl) ?_
  refine lv_iload_n hx hb dL_why_4 rfl (lv_at hl 1 rfl) ?_
  refine lv_iload_n hx hb dL_why_5 rfl (lv_at hl 2 rfl) ?_
  refine lv_iload_n hx hb dL_why_6 rfl (lv_at hl 3 rfl) ?_
  refine lv_iload hx hb dL_why_7 (lv_at hl 4 rfl) ?_
  refine lv_iload hx hb dL_why_9 (lv_at hl 5 rfl) ?_
  obtain ⟨er4, r4, M5, hgr4, hF⟩ := st_bnd3 hF
  refine g_xci hw (g_xrunV (C := RX5) (As := [.int p2, .int p3, .int p4, .int p5, .int p6]) (rest := [.int 0, .ref (ad 17)]) fx hw isO_0 rfl (c_X5_why l x D cy ad p2 p3 p4 p5 p6 H.size M er4 r4 M5 hl9 hgr4) wd4_74 wd4_75 wd4_76 wd1_1 wd4_77 yd_X5_why rfl rfl (Nat.le_of_ble_eq_true rfl) hl.1 ⟨Nat.le_trans (Nat.le_of_ble_eq_true rfl) hR.1, Nat.le_trans (Nat.le_of_ble_eq_true rfl) hR.2.1⟩ ⟨Nat.le_trans (Nat.le_of_ble_eq_true rfl) hR.2.2.1, Nat.le_trans (Nat.le_of_ble_eq_true rfl) hR.2.2.2⟩ dL_why_11) (fun her4 ce q9 H locs hw hce hcv hcl => ?_) (fun her4 H locs hw => ?_)
  · replace hF := st_f her4 hF
    by_cases hkr4_0 : er4 = 1
    · replace hF := st_t hkr4_0 hF
      subst hkr4_0
      refine vx_catch (E := exN 1) (name := exN 1) hown [] ⟨0, 16, 19, 28⟩ [⟨0, 16, 23, 19⟩] htab (fun z hz => nomatch hz) (by decide) (by decide) (hts _ wd3_236) (va_Nw.use rfl (fx.2.2.2.2.2.2.2.2.2.2.1 _ (by decide))) hce hcv hcl ?_
      refine lv_astore (lv' := [(7, .ref q9), (0, .ref (ad 0)), (1, .int p2), (2, .int p3), (3, .int p4), (4, .int p5), (5, .int p6), (6, .ref (ad 17))]) hx hb dL_why_19 hl (by decide) rfl (fun ls hl => ?_)
      refine lv_iconst (v := 1) hx hb dL_why_21 (by decide) ?_
      exact E _ _ _ _ _ _ dL_why_22 hw hF
    · replace hF := st_f hkr4_0 hF
      by_cases hkr4_1 : er4 = 2
      · replace hF := st_t hkr4_1 hF
        subst hkr4_1
        refine vx_catch (E := exN 2) (name := exN 2) hown [⟨0, 16, 19, 28⟩] ⟨0, 16, 23, 19⟩ [] htab (fun z hz => by rw [List.mem_singleton.mp hz]; exact Or.inr ⟨by decide, exN 1, hts _ wd3_236, fx.2.2.2.2.2.2.2.2.2.2.2.1 (exN 2, exN 1) (by decide)⟩) (by decide) (by decide) (hts _ wd3_196) (va_Nw.use rfl (fx.2.2.2.2.2.2.2.2.2.2.1 _ (by decide))) hce hcv hcl ?_
        refine lv_astore (lv' := [(7, .ref q9), (0, .ref (ad 0)), (1, .int p2), (2, .int p3), (3, .int p4), (4, .int p5), (5, .int p6), (6, .ref (ad 17))]) hx hb dL_why_23 hl (by decide) rfl (fun ls hl => ?_)
        refine lv_iconst (v := 2) hx hb dL_why_25 (by decide) ?_
        exact E _ _ _ _ _ _ dL_why_26 hw hF
      · replace hF := st_f hkr4_1 hF
        exact nomatch hF
  · replace hF := st_t her4 hF
    refine lv_i2l hx hb dL_why_14 rfl ?_
    obtain ⟨M6, eM6, hF⟩ := st_letM hF
    refine g_last fx hw isL_17 (k := 0) rfl (by decide) eM6 dL_why_15 (fun H locs hw => ?_)
    refine lv_goto (tgt := 27) hx hb dL_why_16 (by decide) ?_
    refine lv_iconst (v := 0) hx hb dL_why_27 (by decide) ?_
    exact E _ _ _ _ _ _ dL_why_28 hw hF
theorem c_L_why (l : Launch) (x : SX) (D : va_G) (cy : Nat → ClassId) (ad : Nat → Nat) (p2 p3 p4 p5 p6 : Int32) (sz : Nat) (M : Mem) (z : Int32) (M' : Mem) (hl9 : l.stackTraces = false) (hF : f_L_why p2 p3 p4 p5 p6 M = some (z, M')) : Met l yL_why (.codeWith yL_why cL_why 8 (some .int) [(0, 16, 19, 28), (0, 16, 23, 19)] :: GB) ({ frames := 9, cells := 6, slots := 36, locals := 160 } : Room) (PcW D cy ad x sz M [.ref (ad 0), .int p2, .int p3, .int p4, .int p5, .int p6, .ref (ad 17)]) (QiW D cy ad sz z M') 6 36 (AA ad sz) := by
  refine mk_w (own := RL) (by decide) rfl (Nat.le_of_ble_eq_true rfl) ?_
  intro p e s m args below meth c ls fx htab hw hl hsz
  subst hsz
  exact b_L_why fx ⟨Nat.le_refl _, Nat.le_refl _, Nat.le_refl _, Nat.le_refl _⟩ p2 p3 p4 p5 p6 M z M' hF hl9 htab (fun pc ls H locs v M1 hd hw h => by cases h; exact g_iret fx hw rfl hd) _ _ ls hl hw
noncomputable def f_L_bestWay (p2 p3 p4 : Int32) (M : Mem) : Option (Int32 × Mem) := (bnd3 (f_X5_bestWay p2 p3 p4 M) (fun er4 r4 M5 => (if er4 = 0 then (letM (mput M5 17 0 r4) (fun M6 => (some (0, M6)))) else (if er4 = 1 then (some (1, M5)) else (if er4 = 2 then (some (2, M5)) else none)))))
set_option maxHeartbeats 4000000 in
set_option maxRecDepth 100000 in
theorem b_L_bestWay {p : Program} {l : Launch} {e : Env} {R : Room} {s : State} {m : MethodId} {args : Array Value} {below : List Frame} {meth : Method} {c : Code} {Q : State → Prop} {D : va_G} {cy : Nat → ClassId} {ad : Nat → Nat} {x : SX} (fx : FX p s m args meth c cL_bestWay 6 (some .int) RL D cy ad x) (hR : 9 ≤ R.frames ∧ 161 ≤ R.locals ∧ 4 ≤ R.cells ∧ 24 ≤ R.slots) (p2 p3 p4 : Int32) (M : Mem) (z : Int32) (M' : Mem) (hF : f_L_bestWay p2 p3 p4 M = some (z, M')) (hl9 : l.stackTraces = false) (htab : c.exceptionTable.toList = tableOf [(0, 12, 15, 28), (0, 12, 19, 19)]) (E : ∀ (pc : Nat) (ls : Array Slot) (H : Heap) (locs : List Loc) (v : Int32) (M1 : Mem), decode cL_bestWay pc = .ok (.ireturn, 1) → WD D cy ad s M1 H locs → some (v, M1) = some (z, M') → W p l e R s m args below meth c H locs 4 24 Q (F0 m pc ls [.int v])) (H : Heap) (locs : List Loc) (ls : Array Slot) (hl : lv_has ls 6 [(0, .ref (ad 0)), (1, .int p2), (2, .int p3), (3, .int p4), (4, .ref (ad 17))]) (hw : WD D cy ad s M H locs) : W p l e R s m args below meth c H locs 0 0 Q (F0 m 0 ls []) := by
  have hx := fx.1.1
  have hb := fx.1.2.1
  have hown := fx.1.2.2.2.1
  have hts := fx.1.2.2.2.2
  unfold f_L_bestWay at hF
  refine lv_aload hx hb dL_bestWay_0 (lv_at hl 4 rfl) ?_
  refine lv_iconst (v := 0) hx hb dL_bestWay_2 (by decide) ?_
  refine lv_aload_n hx hb dL_bestWay_3 rfl (lv_at hl 0 rfl) ?_
  refine lv_iload_n hx hb dL_bestWay_4 rfl (lv_at hl 1 rfl) ?_
  refine lv_iload_n hx hb dL_bestWay_5 rfl (lv_at hl 2 rfl) ?_
  refine lv_iload_n hx hb dL_bestWay_6 rfl (lv_at hl 3 rfl) ?_
  obtain ⟨er4, r4, M5, hgr4, hF⟩ := st_bnd3 hF
  refine g_xci hw (g_xrunV (C := RX5) (As := [.int p2, .int p3, .int p4]) (rest := [.int 0, .ref (ad 17)]) fx hw isO_0 rfl (c_X5_bestWay l x D cy ad p2 p3 p4 H.size M er4 r4 M5 hl9 hgr4) wd4_106 wd4_107 wd4_108 wd1_1 wd4_109 yd_X5_bestWay rfl rfl (Nat.le_of_ble_eq_true rfl) hl.1 ⟨Nat.le_trans (Nat.le_of_ble_eq_true rfl) hR.1, Nat.le_trans (Nat.le_of_ble_eq_true rfl) hR.2.1⟩ ⟨Nat.le_trans (Nat.le_of_ble_eq_true rfl) hR.2.2.1, Nat.le_trans (Nat.le_of_ble_eq_true rfl) hR.2.2.2⟩ dL_bestWay_7) (fun her4 ce q9 H locs hw hce hcv hcl => ?_) (fun her4 H locs hw => ?_)
  · replace hF := st_f her4 hF
    by_cases hkr4_0 : er4 = 1
    · replace hF := st_t hkr4_0 hF
      subst hkr4_0
      refine vx_catch (E := exN 1) (name := exN 1) hown [] ⟨0, 12, 15, 28⟩ [⟨0, 12, 19, 19⟩] htab (fun z hz => nomatch hz) (by decide) (by decide) (hts _ wd3_236) (va_Nw.use rfl (fx.2.2.2.2.2.2.2.2.2.2.1 _ (by decide))) hce hcv hcl ?_
      refine lv_astore (lv' := [(5, .ref q9), (0, .ref (ad 0)), (1, .int p2), (2, .int p3), (3, .int p4), (4, .ref (ad 17))]) hx hb dL_bestWay_15 hl (by decide) rfl (fun ls hl => ?_)
      refine lv_iconst (v := 1) hx hb dL_bestWay_17 (by decide) ?_
      exact E _ _ _ _ _ _ dL_bestWay_18 hw hF
    · replace hF := st_f hkr4_0 hF
      by_cases hkr4_1 : er4 = 2
      · replace hF := st_t hkr4_1 hF
        subst hkr4_1
        refine vx_catch (E := exN 2) (name := exN 2) hown [⟨0, 12, 15, 28⟩] ⟨0, 12, 19, 19⟩ [] htab (fun z hz => by rw [List.mem_singleton.mp hz]; exact Or.inr ⟨by decide, exN 1, hts _ wd3_236, fx.2.2.2.2.2.2.2.2.2.2.2.1 (exN 2, exN 1) (by decide)⟩) (by decide) (by decide) (hts _ wd3_196) (va_Nw.use rfl (fx.2.2.2.2.2.2.2.2.2.2.1 _ (by decide))) hce hcv hcl ?_
        refine lv_astore (lv' := [(5, .ref q9), (0, .ref (ad 0)), (1, .int p2), (2, .int p3), (3, .int p4), (4, .ref (ad 17))]) hx hb dL_bestWay_19 hl (by decide) rfl (fun ls hl => ?_)
        refine lv_iconst (v := 2) hx hb dL_bestWay_21 (by decide) ?_
        exact E _ _ _ _ _ _ dL_bestWay_22 hw hF
      · replace hF := st_f hkr4_1 hF
        exact nomatch hF
  · replace hF := st_t her4 hF
    refine lv_i2l hx hb dL_bestWay_10 rfl ?_
    obtain ⟨M6, eM6, hF⟩ := st_letM hF
    refine g_last fx hw isL_17 (k := 0) rfl (by decide) eM6 dL_bestWay_11 (fun H locs hw => ?_)
    refine lv_goto (tgt := 23) hx hb dL_bestWay_12 (by decide) ?_
    refine lv_iconst (v := 0) hx hb dL_bestWay_23 (by decide) ?_
    exact E _ _ _ _ _ _ dL_bestWay_24 hw hF
theorem c_L_bestWay (l : Launch) (x : SX) (D : va_G) (cy : Nat → ClassId) (ad : Nat → Nat) (p2 p3 p4 : Int32) (sz : Nat) (M : Mem) (z : Int32) (M' : Mem) (hl9 : l.stackTraces = false) (hF : f_L_bestWay p2 p3 p4 M = some (z, M')) : Met l yL_bestWay (.codeWith yL_bestWay cL_bestWay 6 (some .int) [(0, 12, 15, 28), (0, 12, 19, 19)] :: GB) ({ frames := 9, cells := 4, slots := 24, locals := 161 } : Room) (PcW D cy ad x sz M [.ref (ad 0), .int p2, .int p3, .int p4, .ref (ad 17)]) (QiW D cy ad sz z M') 4 24 (AA ad sz) := by
  refine mk_w (own := RL) (by decide) rfl (Nat.le_of_ble_eq_true rfl) ?_
  intro p e s m args below meth c ls fx htab hw hl hsz
  subst hsz
  exact b_L_bestWay fx ⟨Nat.le_refl _, Nat.le_refl _, Nat.le_refl _, Nat.le_refl _⟩ p2 p3 p4 M z M' hF hl9 htab (fun pc ls H locs v M1 hd hw h => by cases h; exact g_iret fx hw rfl hd) _ _ ls hl hw
noncomputable def f_L_fastIn (p2 : Int32) (M : Mem) : Option (Int32 × Mem) := (bnd3 (f_X5_fastIn p2 M) (fun er4 r4 M5 => (if er4 = 0 then (letM (mput M5 17 0 r4) (fun M6 => (some (0, M6)))) else (if er4 = 2 then (some (1, M5)) else none))))
set_option maxHeartbeats 4000000 in
set_option maxRecDepth 100000 in
theorem b_L_fastIn {p : Program} {l : Launch} {e : Env} {R : Room} {s : State} {m : MethodId} {args : Array Value} {below : List Frame} {meth : Method} {c : Code} {Q : State → Prop} {D : va_G} {cy : Nat → ClassId} {ad : Nat → Nat} {x : SX} (fx : FX p s m args meth c cL_fastIn 4 (some .int) RL D cy ad x) (hR : 8 ≤ R.frames ∧ 133 ≤ R.locals ∧ 1 ≤ R.cells ∧ 6 ≤ R.slots) (p2 : Int32) (M : Mem) (z : Int32) (M' : Mem) (hF : f_L_fastIn p2 M = some (z, M')) (hl9 : l.stackTraces = false) (htab : c.exceptionTable.toList = tableOf [(0, 9, 12, 19)]) (E : ∀ (pc : Nat) (ls : Array Slot) (H : Heap) (locs : List Loc) (v : Int32) (M1 : Mem), decode cL_fastIn pc = .ok (.ireturn, 1) → WD D cy ad s M1 H locs → some (v, M1) = some (z, M') → W p l e R s m args below meth c H locs 1 6 Q (F0 m pc ls [.int v])) (H : Heap) (locs : List Loc) (ls : Array Slot) (hl : lv_has ls 4 [(0, .ref (ad 0)), (1, .int p2), (2, .ref (ad 17))]) (hw : WD D cy ad s M H locs) : W p l e R s m args below meth c H locs 0 0 Q (F0 m 0 ls []) := by
  have hx := fx.1.1
  have hb := fx.1.2.1
  have hown := fx.1.2.2.2.1
  have hts := fx.1.2.2.2.2
  unfold f_L_fastIn at hF
  refine lv_aload_n hx hb dL_fastIn_0 rfl (lv_at hl 2 rfl) ?_
  refine lv_iconst (v := 0) hx hb dL_fastIn_1 (by decide) ?_
  refine lv_aload_n hx hb dL_fastIn_2 rfl (lv_at hl 0 rfl) ?_
  refine lv_iload_n hx hb dL_fastIn_3 rfl (lv_at hl 1 rfl) ?_
  obtain ⟨er4, r4, M5, hgr4, hF⟩ := st_bnd3 hF
  refine g_xci hw (g_xrunV (C := RX5) (As := [.int p2]) (rest := [.int 0, .ref (ad 17)]) fx hw isO_0 rfl (c_X5_fastIn l x D cy ad p2 H.size M er4 r4 M5 hl9 hgr4) wd4_118 wd4_119 wd4_120 wd1_1 wd4_121 yd_X5_fastIn rfl rfl (Nat.le_of_ble_eq_true rfl) hl.1 ⟨Nat.le_trans (Nat.le_of_ble_eq_true rfl) hR.1, Nat.le_trans (Nat.le_of_ble_eq_true rfl) hR.2.1⟩ ⟨Nat.le_trans (Nat.le_of_ble_eq_true rfl) hR.2.2.1, Nat.le_trans (Nat.le_of_ble_eq_true rfl) hR.2.2.2⟩ dL_fastIn_4) (fun her4 ce q9 H locs hw hce hcv hcl => ?_) (fun her4 H locs hw => ?_)
  · replace hF := st_f her4 hF
    by_cases hkr4_0 : er4 = 2
    · replace hF := st_t hkr4_0 hF
      subst hkr4_0
      refine vx_catch (E := exN 2) (name := exN 2) hown [] ⟨0, 9, 12, 19⟩ [] htab (fun z hz => nomatch hz) (by decide) (by decide) (hts _ wd3_196) (va_Nw.use rfl (fx.2.2.2.2.2.2.2.2.2.2.1 _ (by decide))) hce hcv hcl ?_
      refine lv_astore_n (lv' := [(3, .ref q9), (0, .ref (ad 0)), (1, .int p2), (2, .ref (ad 17))]) hx hb dL_fastIn_12 rfl hl (by decide) rfl (fun ls hl => ?_)
      refine lv_iconst (v := 1) hx hb dL_fastIn_13 (by decide) ?_
      exact E _ _ _ _ _ _ dL_fastIn_14 hw hF
    · replace hF := st_f hkr4_0 hF
      exact nomatch hF
  · replace hF := st_t her4 hF
    refine lv_i2l hx hb dL_fastIn_7 rfl ?_
    obtain ⟨M6, eM6, hF⟩ := st_letM hF
    refine g_last fx hw isL_17 (k := 0) rfl (by decide) eM6 dL_fastIn_8 (fun H locs hw => ?_)
    refine lv_goto (tgt := 15) hx hb dL_fastIn_9 (by decide) ?_
    refine lv_iconst (v := 0) hx hb dL_fastIn_15 (by decide) ?_
    exact E _ _ _ _ _ _ dL_fastIn_16 hw hF
theorem c_L_fastIn (l : Launch) (x : SX) (D : va_G) (cy : Nat → ClassId) (ad : Nat → Nat) (p2 : Int32) (sz : Nat) (M : Mem) (z : Int32) (M' : Mem) (hl9 : l.stackTraces = false) (hF : f_L_fastIn p2 M = some (z, M')) : Met l yL_fastIn (.codeWith yL_fastIn cL_fastIn 4 (some .int) [(0, 9, 12, 19)] :: GB) ({ frames := 8, cells := 1, slots := 6, locals := 133 } : Room) (PcW D cy ad x sz M [.ref (ad 0), .int p2, .ref (ad 17)]) (QiW D cy ad sz z M') 1 6 (AA ad sz) := by
  refine mk_w (own := RL) (by decide) rfl (Nat.le_of_ble_eq_true rfl) ?_
  intro p e s m args below meth c ls fx htab hw hl hsz
  subst hsz
  exact b_L_fastIn fx ⟨Nat.le_refl _, Nat.le_refl _, Nat.le_refl _, Nat.le_refl _⟩ p2 M z M' hF hl9 htab (fun pc ls H locs v M1 hd hw h => by cases h; exact g_iret fx hw rfl hd) _ _ ls hl hw
noncomputable def f_L_freeIn (p2 : Int32) (M : Mem) : Option (Int32 × Mem) := (bnd3 (f_X5_freeIn p2 M) (fun er4 r4 M5 => (if er4 = 0 then (letM (mput M5 17 0 r4) (fun M6 => (some (0, M6)))) else (if er4 = 1 then (some (1, M5)) else none))))
set_option maxHeartbeats 4000000 in
set_option maxRecDepth 100000 in
theorem b_L_freeIn {p : Program} {l : Launch} {e : Env} {R : Room} {s : State} {m : MethodId} {args : Array Value} {below : List Frame} {meth : Method} {c : Code} {Q : State → Prop} {D : va_G} {cy : Nat → ClassId} {ad : Nat → Nat} {x : SX} (fx : FX p s m args meth c cL_freeIn 4 (some .int) RL D cy ad x) (hR : 8 ≤ R.frames ∧ 133 ≤ R.locals ∧ 1 ≤ R.cells ∧ 6 ≤ R.slots) (p2 : Int32) (M : Mem) (z : Int32) (M' : Mem) (hF : f_L_freeIn p2 M = some (z, M')) (hl9 : l.stackTraces = false) (htab : c.exceptionTable.toList = tableOf [(0, 9, 12, 28)]) (E : ∀ (pc : Nat) (ls : Array Slot) (H : Heap) (locs : List Loc) (v : Int32) (M1 : Mem), decode cL_freeIn pc = .ok (.ireturn, 1) → WD D cy ad s M1 H locs → some (v, M1) = some (z, M') → W p l e R s m args below meth c H locs 1 6 Q (F0 m pc ls [.int v])) (H : Heap) (locs : List Loc) (ls : Array Slot) (hl : lv_has ls 4 [(0, .ref (ad 0)), (1, .int p2), (2, .ref (ad 17))]) (hw : WD D cy ad s M H locs) : W p l e R s m args below meth c H locs 0 0 Q (F0 m 0 ls []) := by
  have hx := fx.1.1
  have hb := fx.1.2.1
  have hown := fx.1.2.2.2.1
  have hts := fx.1.2.2.2.2
  unfold f_L_freeIn at hF
  refine lv_aload_n hx hb dL_freeIn_0 rfl (lv_at hl 2 rfl) ?_
  refine lv_iconst (v := 0) hx hb dL_freeIn_1 (by decide) ?_
  refine lv_aload_n hx hb dL_freeIn_2 rfl (lv_at hl 0 rfl) ?_
  refine lv_iload_n hx hb dL_freeIn_3 rfl (lv_at hl 1 rfl) ?_
  obtain ⟨er4, r4, M5, hgr4, hF⟩ := st_bnd3 hF
  refine g_xci hw (g_xrunV (C := RX5) (As := [.int p2]) (rest := [.int 0, .ref (ad 17)]) fx hw isO_0 rfl (c_X5_freeIn l x D cy ad p2 H.size M er4 r4 M5 hl9 hgr4) wd4_129 wd4_130 wd4_131 wd1_1 wd4_132 yd_X5_freeIn rfl rfl (Nat.le_of_ble_eq_true rfl) hl.1 ⟨Nat.le_trans (Nat.le_of_ble_eq_true rfl) hR.1, Nat.le_trans (Nat.le_of_ble_eq_true rfl) hR.2.1⟩ ⟨Nat.le_trans (Nat.le_of_ble_eq_true rfl) hR.2.2.1, Nat.le_trans (Nat.le_of_ble_eq_true rfl) hR.2.2.2⟩ dL_freeIn_4) (fun her4 ce q9 H locs hw hce hcv hcl => ?_) (fun her4 H locs hw => ?_)
  · replace hF := st_f her4 hF
    by_cases hkr4_0 : er4 = 1
    · replace hF := st_t hkr4_0 hF
      subst hkr4_0
      refine vx_catch (E := exN 1) (name := exN 1) hown [] ⟨0, 9, 12, 28⟩ [] htab (fun z hz => nomatch hz) (by decide) (by decide) (hts _ wd3_236) (va_Nw.use rfl (fx.2.2.2.2.2.2.2.2.2.2.1 _ (by decide))) hce hcv hcl ?_
      refine lv_astore_n (lv' := [(3, .ref q9), (0, .ref (ad 0)), (1, .int p2), (2, .ref (ad 17))]) hx hb dL_freeIn_12 rfl hl (by decide) rfl (fun ls hl => ?_)
      refine lv_iconst (v := 1) hx hb dL_freeIn_13 (by decide) ?_
      exact E _ _ _ _ _ _ dL_freeIn_14 hw hF
    · replace hF := st_f hkr4_0 hF
      exact nomatch hF
  · replace hF := st_t her4 hF
    refine lv_i2l hx hb dL_freeIn_7 rfl ?_
    obtain ⟨M6, eM6, hF⟩ := st_letM hF
    refine g_last fx hw isL_17 (k := 0) rfl (by decide) eM6 dL_freeIn_8 (fun H locs hw => ?_)
    refine lv_goto (tgt := 15) hx hb dL_freeIn_9 (by decide) ?_
    refine lv_iconst (v := 0) hx hb dL_freeIn_15 (by decide) ?_
    exact E _ _ _ _ _ _ dL_freeIn_16 hw hF
theorem c_L_freeIn (l : Launch) (x : SX) (D : va_G) (cy : Nat → ClassId) (ad : Nat → Nat) (p2 : Int32) (sz : Nat) (M : Mem) (z : Int32) (M' : Mem) (hl9 : l.stackTraces = false) (hF : f_L_freeIn p2 M = some (z, M')) : Met l yL_freeIn (.codeWith yL_freeIn cL_freeIn 4 (some .int) [(0, 9, 12, 28)] :: GB) ({ frames := 8, cells := 1, slots := 6, locals := 133 } : Room) (PcW D cy ad x sz M [.ref (ad 0), .int p2, .ref (ad 17)]) (QiW D cy ad sz z M') 1 6 (AA ad sz) := by
  refine mk_w (own := RL) (by decide) rfl (Nat.le_of_ble_eq_true rfl) ?_
  intro p e s m args below meth c ls fx htab hw hl hsz
  subst hsz
  exact b_L_freeIn fx ⟨Nat.le_refl _, Nat.le_refl _, Nat.le_refl _, Nat.le_refl _⟩ p2 M z M' hF hl9 htab (fun pc ls H locs v M1 hd hw h => by cases h; exact g_iret fx hw rfl hd) _ _ ls hl hw
noncomputable def f_L_want (p2 p3 : Int32) (M : Mem) : Option (Int32 × Mem) := (bnd3 (f_X5_want p2 p3 M) (fun er4 r4 M5 => (if er4 = 0 then (letM (mput M5 17 0 r4) (fun M6 => (some (0, M6)))) else (if er4 = 1 then (some (1, M5)) else none))))
set_option maxHeartbeats 4000000 in
set_option maxRecDepth 100000 in
theorem b_L_want {p : Program} {l : Launch} {e : Env} {R : Room} {s : State} {m : MethodId} {args : Array Value} {below : List Frame} {meth : Method} {c : Code} {Q : State → Prop} {D : va_G} {cy : Nat → ClassId} {ad : Nat → Nat} {x : SX} (fx : FX p s m args meth c cL_want 5 (some .int) RL D cy ad x) (hR : 8 ≤ R.frames ∧ 134 ≤ R.locals ∧ 2 ≤ R.cells ∧ 12 ≤ R.slots) (p2 p3 : Int32) (M : Mem) (z : Int32) (M' : Mem) (hF : f_L_want p2 p3 M = some (z, M')) (hl9 : l.stackTraces = false) (htab : c.exceptionTable.toList = tableOf [(0, 10, 13, 28)]) (E : ∀ (pc : Nat) (ls : Array Slot) (H : Heap) (locs : List Loc) (v : Int32) (M1 : Mem), decode cL_want pc = .ok (.ireturn, 1) → WD D cy ad s M1 H locs → some (v, M1) = some (z, M') → W p l e R s m args below meth c H locs 2 12 Q (F0 m pc ls [.int v])) (H : Heap) (locs : List Loc) (ls : Array Slot) (hl : lv_has ls 5 [(0, .ref (ad 0)), (1, .int p2), (2, .int p3), (3, .ref (ad 17))]) (hw : WD D cy ad s M H locs) : W p l e R s m args below meth c H locs 0 0 Q (F0 m 0 ls []) := by
  have hx := fx.1.1
  have hb := fx.1.2.1
  have hown := fx.1.2.2.2.1
  have hts := fx.1.2.2.2.2
  unfold f_L_want at hF
  refine lv_aload_n hx hb dL_want_0 rfl (lv_at hl 3 rfl) ?_
  refine lv_iconst (v := 0) hx hb dL_want_1 (by decide) ?_
  refine lv_aload_n hx hb dL_want_2 rfl (lv_at hl 0 rfl) ?_
  refine lv_iload_n hx hb dL_want_3 rfl (lv_at hl 1 rfl) ?_
  refine lv_iload_n hx hb dL_want_4 rfl (lv_at hl 2 rfl) ?_
  obtain ⟨er4, r4, M5, hgr4, hF⟩ := st_bnd3 hF
  refine g_xci hw (g_xrunV (C := RX5) (As := [.int p2, .int p3]) (rest := [.int 0, .ref (ad 17)]) fx hw isO_0 rfl (c_X5_want l x D cy ad p2 p3 H.size M er4 r4 M5 hl9 hgr4) wd4_136 wd4_137 wd4_138 wd1_1 wd4_139 yd_X5_want rfl rfl (Nat.le_of_ble_eq_true rfl) hl.1 ⟨Nat.le_trans (Nat.le_of_ble_eq_true rfl) hR.1, Nat.le_trans (Nat.le_of_ble_eq_true rfl) hR.2.1⟩ ⟨Nat.le_trans (Nat.le_of_ble_eq_true rfl) hR.2.2.1, Nat.le_trans (Nat.le_of_ble_eq_true rfl) hR.2.2.2⟩ dL_want_5) (fun her4 ce q9 H locs hw hce hcv hcl => ?_) (fun her4 H locs hw => ?_)
  · replace hF := st_f her4 hF
    by_cases hkr4_0 : er4 = 1
    · replace hF := st_t hkr4_0 hF
      subst hkr4_0
      refine vx_catch (E := exN 1) (name := exN 1) hown [] ⟨0, 10, 13, 28⟩ [] htab (fun z hz => nomatch hz) (by decide) (by decide) (hts _ wd3_236) (va_Nw.use rfl (fx.2.2.2.2.2.2.2.2.2.2.1 _ (by decide))) hce hcv hcl ?_
      refine lv_astore (lv' := [(4, .ref q9), (0, .ref (ad 0)), (1, .int p2), (2, .int p3), (3, .ref (ad 17))]) hx hb dL_want_13 hl (by decide) rfl (fun ls hl => ?_)
      refine lv_iconst (v := 1) hx hb dL_want_15 (by decide) ?_
      exact E _ _ _ _ _ _ dL_want_16 hw hF
    · replace hF := st_f hkr4_0 hF
      exact nomatch hF
  · replace hF := st_t her4 hF
    refine lv_i2l hx hb dL_want_8 rfl ?_
    obtain ⟨M6, eM6, hF⟩ := st_letM hF
    refine g_last fx hw isL_17 (k := 0) rfl (by decide) eM6 dL_want_9 (fun H locs hw => ?_)
    refine lv_goto (tgt := 17) hx hb dL_want_10 (by decide) ?_
    refine lv_iconst (v := 0) hx hb dL_want_17 (by decide) ?_
    exact E _ _ _ _ _ _ dL_want_18 hw hF
theorem c_L_want (l : Launch) (x : SX) (D : va_G) (cy : Nat → ClassId) (ad : Nat → Nat) (p2 p3 : Int32) (sz : Nat) (M : Mem) (z : Int32) (M' : Mem) (hl9 : l.stackTraces = false) (hF : f_L_want p2 p3 M = some (z, M')) : Met l yL_want (.codeWith yL_want cL_want 5 (some .int) [(0, 10, 13, 28)] :: GB) ({ frames := 8, cells := 2, slots := 12, locals := 134 } : Room) (PcW D cy ad x sz M [.ref (ad 0), .int p2, .int p3, .ref (ad 17)]) (QiW D cy ad sz z M') 2 12 (AA ad sz) := by
  refine mk_w (own := RL) (by decide) rfl (Nat.le_of_ble_eq_true rfl) ?_
  intro p e s m args below meth c ls fx htab hw hl hsz
  subst hsz
  exact b_L_want fx ⟨Nat.le_refl _, Nat.le_refl _, Nat.le_refl _, Nat.le_refl _⟩ p2 p3 M z M' hF hl9 htab (fun pc ls H locs v M1 hd hw h => by cases h; exact g_iret fx hw rfl hd) _ _ ls hl hw
noncomputable def f_L_tell (p2 p3 p4 p5 : Int32) (M : Mem) : Option (Int32 × Mem) := (bnd3 (f_X5_tell p2 p3 p4 p5 M) (fun er4 r4 M5 => (if er4 = 0 then (letM (mput M5 17 0 r4) (fun M6 => (some (0, M6)))) else (if er4 = 1 then (some (1, M5)) else (if er4 = 2 then (some (2, M5)) else none)))))
set_option maxHeartbeats 4000000 in
set_option maxRecDepth 100000 in
theorem b_L_tell {p : Program} {l : Launch} {e : Env} {R : Room} {s : State} {m : MethodId} {args : Array Value} {below : List Frame} {meth : Method} {c : Code} {Q : State → Prop} {D : va_G} {cy : Nat → ClassId} {ad : Nat → Nat} {x : SX} (fx : FX p s m args meth c cL_tell 7 (some .int) RL D cy ad x) (hR : 9 ≤ R.frames ∧ 159 ≤ R.locals ∧ 5 ≤ R.cells ∧ 30 ≤ R.slots) (p2 p3 p4 p5 : Int32) (M : Mem) (z : Int32) (M' : Mem) (hF : f_L_tell p2 p3 p4 p5 M = some (z, M')) (hl9 : l.stackTraces = false) (htab : c.exceptionTable.toList = tableOf [(0, 14, 17, 28), (0, 14, 21, 19)]) (E : ∀ (pc : Nat) (ls : Array Slot) (H : Heap) (locs : List Loc) (v : Int32) (M1 : Mem), decode cL_tell pc = .ok (.ireturn, 1) → WD D cy ad s M1 H locs → some (v, M1) = some (z, M') → W p l e R s m args below meth c H locs 5 30 Q (F0 m pc ls [.int v])) (H : Heap) (locs : List Loc) (ls : Array Slot) (hl : lv_has ls 7 [(0, .ref (ad 0)), (1, .int p2), (2, .int p3), (3, .int p4), (4, .int p5), (5, .ref (ad 17))]) (hw : WD D cy ad s M H locs) : W p l e R s m args below meth c H locs 0 0 Q (F0 m 0 ls []) := by
  have hx := fx.1.1
  have hb := fx.1.2.1
  have hown := fx.1.2.2.2.1
  have hts := fx.1.2.2.2.2
  unfold f_L_tell at hF
  refine lv_aload hx hb dL_tell_0 (lv_at hl 5 rfl) ?_
  refine lv_iconst (v := 0) hx hb dL_tell_2 (by decide) ?_
  refine lv_aload_n hx hb dL_tell_3 rfl (lv_at hl 0 rfl) ?_
  refine lv_iload_n hx hb dL_tell_4 rfl (lv_at hl 1 rfl) ?_
  refine lv_iload_n hx hb dL_tell_5 rfl (lv_at hl 2 rfl) ?_
  refine lv_iload_n hx hb dL_tell_6 rfl (lv_at hl 3 rfl) ?_
  refine lv_iload hx hb dL_tell_7 (lv_at hl 4 rfl) ?_
  obtain ⟨er4, r4, M5, hgr4, hF⟩ := st_bnd3 hF
  refine g_xci hw (g_xrunV (C := RX5) (As := [.int p2, .int p3, .int p4, .int p5]) (rest := [.int 0, .ref (ad 17)]) fx hw isO_0 rfl (c_X5_tell l x D cy ad p2 p3 p4 p5 H.size M er4 r4 M5 hl9 hgr4) wd4_148 wd4_149 wd4_150 wd1_1 wd4_151 yd_X5_tell rfl rfl (Nat.le_of_ble_eq_true rfl) hl.1 ⟨Nat.le_trans (Nat.le_of_ble_eq_true rfl) hR.1, Nat.le_trans (Nat.le_of_ble_eq_true rfl) hR.2.1⟩ ⟨Nat.le_trans (Nat.le_of_ble_eq_true rfl) hR.2.2.1, Nat.le_trans (Nat.le_of_ble_eq_true rfl) hR.2.2.2⟩ dL_tell_9) (fun her4 ce q9 H locs hw hce hcv hcl => ?_) (fun her4 H locs hw => ?_)
  · replace hF := st_f her4 hF
    by_cases hkr4_0 : er4 = 1
    · replace hF := st_t hkr4_0 hF
      subst hkr4_0
      refine vx_catch (E := exN 1) (name := exN 1) hown [] ⟨0, 14, 17, 28⟩ [⟨0, 14, 21, 19⟩] htab (fun z hz => nomatch hz) (by decide) (by decide) (hts _ wd3_236) (va_Nw.use rfl (fx.2.2.2.2.2.2.2.2.2.2.1 _ (by decide))) hce hcv hcl ?_
      refine lv_astore (lv' := [(6, .ref q9), (0, .ref (ad 0)), (1, .int p2), (2, .int p3), (3, .int p4), (4, .int p5), (5, .ref (ad 17))]) hx hb dL_tell_17 hl (by decide) rfl (fun ls hl => ?_)
      refine lv_iconst (v := 1) hx hb dL_tell_19 (by decide) ?_
      exact E _ _ _ _ _ _ dL_tell_20 hw hF
    · replace hF := st_f hkr4_0 hF
      by_cases hkr4_1 : er4 = 2
      · replace hF := st_t hkr4_1 hF
        subst hkr4_1
        refine vx_catch (E := exN 2) (name := exN 2) hown [⟨0, 14, 17, 28⟩] ⟨0, 14, 21, 19⟩ [] htab (fun z hz => by rw [List.mem_singleton.mp hz]; exact Or.inr ⟨by decide, exN 1, hts _ wd3_236, fx.2.2.2.2.2.2.2.2.2.2.2.1 (exN 2, exN 1) (by decide)⟩) (by decide) (by decide) (hts _ wd3_196) (va_Nw.use rfl (fx.2.2.2.2.2.2.2.2.2.2.1 _ (by decide))) hce hcv hcl ?_
        refine lv_astore (lv' := [(6, .ref q9), (0, .ref (ad 0)), (1, .int p2), (2, .int p3), (3, .int p4), (4, .int p5), (5, .ref (ad 17))]) hx hb dL_tell_21 hl (by decide) rfl (fun ls hl => ?_)
        refine lv_iconst (v := 2) hx hb dL_tell_23 (by decide) ?_
        exact E _ _ _ _ _ _ dL_tell_24 hw hF
      · replace hF := st_f hkr4_1 hF
        exact nomatch hF
  · replace hF := st_t her4 hF
    refine lv_i2l hx hb dL_tell_12 rfl ?_
    obtain ⟨M6, eM6, hF⟩ := st_letM hF
    refine g_last fx hw isL_17 (k := 0) rfl (by decide) eM6 dL_tell_13 (fun H locs hw => ?_)
    refine lv_goto (tgt := 25) hx hb dL_tell_14 (by decide) ?_
    refine lv_iconst (v := 0) hx hb dL_tell_25 (by decide) ?_
    exact E _ _ _ _ _ _ dL_tell_26 hw hF
theorem c_L_tell (l : Launch) (x : SX) (D : va_G) (cy : Nat → ClassId) (ad : Nat → Nat) (p2 p3 p4 p5 : Int32) (sz : Nat) (M : Mem) (z : Int32) (M' : Mem) (hl9 : l.stackTraces = false) (hF : f_L_tell p2 p3 p4 p5 M = some (z, M')) : Met l yL_tell (.codeWith yL_tell cL_tell 7 (some .int) [(0, 14, 17, 28), (0, 14, 21, 19)] :: GB) ({ frames := 9, cells := 5, slots := 30, locals := 159 } : Room) (PcW D cy ad x sz M [.ref (ad 0), .int p2, .int p3, .int p4, .int p5, .ref (ad 17)]) (QiW D cy ad sz z M') 5 30 (AA ad sz) := by
  refine mk_w (own := RL) (by decide) rfl (Nat.le_of_ble_eq_true rfl) ?_
  intro p e s m args below meth c ls fx htab hw hl hsz
  subst hsz
  exact b_L_tell fx ⟨Nat.le_refl _, Nat.le_refl _, Nat.le_refl _, Nat.le_refl _⟩ p2 p3 p4 p5 M z M' hF hl9 htab (fun pc ls H locs v M1 hd hw h => by cases h; exact g_iret fx hw rfl hd) _ _ ls hl hw
noncomputable def f_L_give (p2 p3 p4 : Int32) (M : Mem) : Option (Int32 × Mem) := (bnd3 (f_X5_give p2 p3 p4 M) (fun er4 r4 M5 => (if er4 = 0 then (letM (mput M5 17 0 r4) (fun M6 => (some (0, M6)))) else (if er4 = 1 then (some (1, M5)) else (if er4 = 2 then (some (2, M5)) else none)))))
set_option maxHeartbeats 4000000 in
set_option maxRecDepth 100000 in
theorem b_L_give {p : Program} {l : Launch} {e : Env} {R : Room} {s : State} {m : MethodId} {args : Array Value} {below : List Frame} {meth : Method} {c : Code} {Q : State → Prop} {D : va_G} {cy : Nat → ClassId} {ad : Nat → Nat} {x : SX} (fx : FX p s m args meth c cL_give 6 (some .int) RL D cy ad x) (hR : 8 ≤ R.frames ∧ 136 ≤ R.locals ∧ 4 ≤ R.cells ∧ 24 ≤ R.slots) (p2 p3 p4 : Int32) (M : Mem) (z : Int32) (M' : Mem) (hF : f_L_give p2 p3 p4 M = some (z, M')) (hl9 : l.stackTraces = false) (htab : c.exceptionTable.toList = tableOf [(0, 12, 15, 28), (0, 12, 19, 19)]) (E : ∀ (pc : Nat) (ls : Array Slot) (H : Heap) (locs : List Loc) (v : Int32) (M1 : Mem), decode cL_give pc = .ok (.ireturn, 1) → WD D cy ad s M1 H locs → some (v, M1) = some (z, M') → W p l e R s m args below meth c H locs 4 24 Q (F0 m pc ls [.int v])) (H : Heap) (locs : List Loc) (ls : Array Slot) (hl : lv_has ls 6 [(0, .ref (ad 0)), (1, .int p2), (2, .int p3), (3, .int p4), (4, .ref (ad 17))]) (hw : WD D cy ad s M H locs) : W p l e R s m args below meth c H locs 0 0 Q (F0 m 0 ls []) := by
  have hx := fx.1.1
  have hb := fx.1.2.1
  have hown := fx.1.2.2.2.1
  have hts := fx.1.2.2.2.2
  unfold f_L_give at hF
  refine lv_aload hx hb dL_give_0 (lv_at hl 4 rfl) ?_
  refine lv_iconst (v := 0) hx hb dL_give_2 (by decide) ?_
  refine lv_aload_n hx hb dL_give_3 rfl (lv_at hl 0 rfl) ?_
  refine lv_iload_n hx hb dL_give_4 rfl (lv_at hl 1 rfl) ?_
  refine lv_iload_n hx hb dL_give_5 rfl (lv_at hl 2 rfl) ?_
  refine lv_iload_n hx hb dL_give_6 rfl (lv_at hl 3 rfl) ?_
  obtain ⟨er4, r4, M5, hgr4, hF⟩ := st_bnd3 hF
  refine g_xci hw (g_xrunV (C := RX5) (As := [.int p2, .int p3, .int p4]) (rest := [.int 0, .ref (ad 17)]) fx hw isO_0 rfl (c_X5_give l x D cy ad p2 p3 p4 H.size M er4 r4 M5 hl9 hgr4) wd4_156 wd4_157 wd4_158 wd1_1 wd4_159 yd_X5_give rfl rfl (Nat.le_of_ble_eq_true rfl) hl.1 ⟨Nat.le_trans (Nat.le_of_ble_eq_true rfl) hR.1, Nat.le_trans (Nat.le_of_ble_eq_true rfl) hR.2.1⟩ ⟨Nat.le_trans (Nat.le_of_ble_eq_true rfl) hR.2.2.1, Nat.le_trans (Nat.le_of_ble_eq_true rfl) hR.2.2.2⟩ dL_give_7) (fun her4 ce q9 H locs hw hce hcv hcl => ?_) (fun her4 H locs hw => ?_)
  · replace hF := st_f her4 hF
    by_cases hkr4_0 : er4 = 1
    · replace hF := st_t hkr4_0 hF
      subst hkr4_0
      refine vx_catch (E := exN 1) (name := exN 1) hown [] ⟨0, 12, 15, 28⟩ [⟨0, 12, 19, 19⟩] htab (fun z hz => nomatch hz) (by decide) (by decide) (hts _ wd3_236) (va_Nw.use rfl (fx.2.2.2.2.2.2.2.2.2.2.1 _ (by decide))) hce hcv hcl ?_
      refine lv_astore (lv' := [(5, .ref q9), (0, .ref (ad 0)), (1, .int p2), (2, .int p3), (3, .int p4), (4, .ref (ad 17))]) hx hb dL_give_15 hl (by decide) rfl (fun ls hl => ?_)
      refine lv_iconst (v := 1) hx hb dL_give_17 (by decide) ?_
      exact E _ _ _ _ _ _ dL_give_18 hw hF
    · replace hF := st_f hkr4_0 hF
      by_cases hkr4_1 : er4 = 2
      · replace hF := st_t hkr4_1 hF
        subst hkr4_1
        refine vx_catch (E := exN 2) (name := exN 2) hown [⟨0, 12, 15, 28⟩] ⟨0, 12, 19, 19⟩ [] htab (fun z hz => by rw [List.mem_singleton.mp hz]; exact Or.inr ⟨by decide, exN 1, hts _ wd3_236, fx.2.2.2.2.2.2.2.2.2.2.2.1 (exN 2, exN 1) (by decide)⟩) (by decide) (by decide) (hts _ wd3_196) (va_Nw.use rfl (fx.2.2.2.2.2.2.2.2.2.2.1 _ (by decide))) hce hcv hcl ?_
        refine lv_astore (lv' := [(5, .ref q9), (0, .ref (ad 0)), (1, .int p2), (2, .int p3), (3, .int p4), (4, .ref (ad 17))]) hx hb dL_give_19 hl (by decide) rfl (fun ls hl => ?_)
        refine lv_iconst (v := 2) hx hb dL_give_21 (by decide) ?_
        exact E _ _ _ _ _ _ dL_give_22 hw hF
      · replace hF := st_f hkr4_1 hF
        exact nomatch hF
  · replace hF := st_t her4 hF
    refine lv_i2l hx hb dL_give_10 rfl ?_
    obtain ⟨M6, eM6, hF⟩ := st_letM hF
    refine g_last fx hw isL_17 (k := 0) rfl (by decide) eM6 dL_give_11 (fun H locs hw => ?_)
    refine lv_goto (tgt := 23) hx hb dL_give_12 (by decide) ?_
    refine lv_iconst (v := 0) hx hb dL_give_23 (by decide) ?_
    exact E _ _ _ _ _ _ dL_give_24 hw hF
theorem c_L_give (l : Launch) (x : SX) (D : va_G) (cy : Nat → ClassId) (ad : Nat → Nat) (p2 p3 p4 : Int32) (sz : Nat) (M : Mem) (z : Int32) (M' : Mem) (hl9 : l.stackTraces = false) (hF : f_L_give p2 p3 p4 M = some (z, M')) : Met l yL_give (.codeWith yL_give cL_give 6 (some .int) [(0, 12, 15, 28), (0, 12, 19, 19)] :: GB) ({ frames := 8, cells := 4, slots := 24, locals := 136 } : Room) (PcW D cy ad x sz M [.ref (ad 0), .int p2, .int p3, .int p4, .ref (ad 17)]) (QiW D cy ad sz z M') 4 24 (AA ad sz) := by
  refine mk_w (own := RL) (by decide) rfl (Nat.le_of_ble_eq_true rfl) ?_
  intro p e s m args below meth c ls fx htab hw hl hsz
  subst hsz
  exact b_L_give fx ⟨Nat.le_refl _, Nat.le_refl _, Nat.le_refl _, Nat.le_refl _⟩ p2 p3 p4 M z M' hF hl9 htab (fun pc ls H locs v M1 hd hw h => by cases h; exact g_iret fx hw rfl hd) _ _ ls hl hw
noncomputable def f_L_pass (p2 : Int32) (M : Mem) : Option (Int32 × Mem) := (bnd3 (f_X5_pass p2 M) (fun er4 r4 M5 => (if er4 = 0 then (letM (mput M5 17 0 r4) (fun M6 => (some (0, M6)))) else (if er4 = 2 then (some (1, M5)) else none))))
set_option maxHeartbeats 4000000 in
set_option maxRecDepth 100000 in
theorem b_L_pass {p : Program} {l : Launch} {e : Env} {R : Room} {s : State} {m : MethodId} {args : Array Value} {below : List Frame} {meth : Method} {c : Code} {Q : State → Prop} {D : va_G} {cy : Nat → ClassId} {ad : Nat → Nat} {x : SX} (fx : FX p s m args meth c cL_pass 4 (some .int) RL D cy ad x) (hR : 8 ≤ R.frames ∧ 134 ≤ R.locals ∧ 1 ≤ R.cells ∧ 6 ≤ R.slots) (p2 : Int32) (M : Mem) (z : Int32) (M' : Mem) (hF : f_L_pass p2 M = some (z, M')) (hl9 : l.stackTraces = false) (htab : c.exceptionTable.toList = tableOf [(0, 9, 12, 19)]) (E : ∀ (pc : Nat) (ls : Array Slot) (H : Heap) (locs : List Loc) (v : Int32) (M1 : Mem), decode cL_pass pc = .ok (.ireturn, 1) → WD D cy ad s M1 H locs → some (v, M1) = some (z, M') → W p l e R s m args below meth c H locs 1 6 Q (F0 m pc ls [.int v])) (H : Heap) (locs : List Loc) (ls : Array Slot) (hl : lv_has ls 4 [(0, .ref (ad 0)), (1, .int p2), (2, .ref (ad 17))]) (hw : WD D cy ad s M H locs) : W p l e R s m args below meth c H locs 0 0 Q (F0 m 0 ls []) := by
  have hx := fx.1.1
  have hb := fx.1.2.1
  have hown := fx.1.2.2.2.1
  have hts := fx.1.2.2.2.2
  unfold f_L_pass at hF
  refine lv_aload_n hx hb dL_pass_0 rfl (lv_at hl 2 rfl) ?_
  refine lv_iconst (v := 0) hx hb dL_pass_1 (by decide) ?_
  refine lv_aload_n hx hb dL_pass_2 rfl (lv_at hl 0 rfl) ?_
  refine lv_iload_n hx hb dL_pass_3 rfl (lv_at hl 1 rfl) ?_
  obtain ⟨er4, r4, M5, hgr4, hF⟩ := st_bnd3 hF
  refine g_xci hw (g_xrunV (C := RX5) (As := [.int p2]) (rest := [.int 0, .ref (ad 17)]) fx hw isO_0 rfl (c_X5_pass l x D cy ad p2 H.size M er4 r4 M5 hl9 hgr4) wd4_165 wd4_166 wd4_167 wd1_1 wd4_168 yd_X5_pass rfl rfl (Nat.le_of_ble_eq_true rfl) hl.1 ⟨Nat.le_trans (Nat.le_of_ble_eq_true rfl) hR.1, Nat.le_trans (Nat.le_of_ble_eq_true rfl) hR.2.1⟩ ⟨Nat.le_trans (Nat.le_of_ble_eq_true rfl) hR.2.2.1, Nat.le_trans (Nat.le_of_ble_eq_true rfl) hR.2.2.2⟩ dL_pass_4) (fun her4 ce q9 H locs hw hce hcv hcl => ?_) (fun her4 H locs hw => ?_)
  · replace hF := st_f her4 hF
    by_cases hkr4_0 : er4 = 2
    · replace hF := st_t hkr4_0 hF
      subst hkr4_0
      refine vx_catch (E := exN 2) (name := exN 2) hown [] ⟨0, 9, 12, 19⟩ [] htab (fun z hz => nomatch hz) (by decide) (by decide) (hts _ wd3_196) (va_Nw.use rfl (fx.2.2.2.2.2.2.2.2.2.2.1 _ (by decide))) hce hcv hcl ?_
      refine lv_astore_n (lv' := [(3, .ref q9), (0, .ref (ad 0)), (1, .int p2), (2, .ref (ad 17))]) hx hb dL_pass_12 rfl hl (by decide) rfl (fun ls hl => ?_)
      refine lv_iconst (v := 1) hx hb dL_pass_13 (by decide) ?_
      exact E _ _ _ _ _ _ dL_pass_14 hw hF
    · replace hF := st_f hkr4_0 hF
      exact nomatch hF
  · replace hF := st_t her4 hF
    refine lv_i2l hx hb dL_pass_7 rfl ?_
    obtain ⟨M6, eM6, hF⟩ := st_letM hF
    refine g_last fx hw isL_17 (k := 0) rfl (by decide) eM6 dL_pass_8 (fun H locs hw => ?_)
    refine lv_goto (tgt := 15) hx hb dL_pass_9 (by decide) ?_
    refine lv_iconst (v := 0) hx hb dL_pass_15 (by decide) ?_
    exact E _ _ _ _ _ _ dL_pass_16 hw hF
theorem c_L_pass (l : Launch) (x : SX) (D : va_G) (cy : Nat → ClassId) (ad : Nat → Nat) (p2 : Int32) (sz : Nat) (M : Mem) (z : Int32) (M' : Mem) (hl9 : l.stackTraces = false) (hF : f_L_pass p2 M = some (z, M')) : Met l yL_pass (.codeWith yL_pass cL_pass 4 (some .int) [(0, 9, 12, 19)] :: GB) ({ frames := 8, cells := 1, slots := 6, locals := 134 } : Room) (PcW D cy ad x sz M [.ref (ad 0), .int p2, .ref (ad 17)]) (QiW D cy ad sz z M') 1 6 (AA ad sz) := by
  refine mk_w (own := RL) (by decide) rfl (Nat.le_of_ble_eq_true rfl) ?_
  intro p e s m args below meth c ls fx htab hw hl hsz
  subst hsz
  exact b_L_pass fx ⟨Nat.le_refl _, Nat.le_refl _, Nat.le_refl _, Nat.le_refl _⟩ p2 M z M' hF hl9 htab (fun pc ls H locs v M1 hd hw h => by cases h; exact g_iret fx hw rfl hd) _ _ ls hl hw
noncomputable def f_L_setBell (p2 p3 : Int32) (M : Mem) : Option (Int32 × Mem) := (bnd3 (f_X5_setBell p2 p3 M) (fun er4 r4 M5 => (if er4 = 0 then (letM (mput M5 17 0 r4) (fun M6 => (some (0, M6)))) else (if er4 = 1 then (some (1, M5)) else (if er4 = 2 then (some (2, M5)) else none)))))
set_option maxHeartbeats 4000000 in
set_option maxRecDepth 100000 in
theorem b_L_setBell {p : Program} {l : Launch} {e : Env} {R : Room} {s : State} {m : MethodId} {args : Array Value} {below : List Frame} {meth : Method} {c : Code} {Q : State → Prop} {D : va_G} {cy : Nat → ClassId} {ad : Nat → Nat} {x : SX} (fx : FX p s m args meth c cL_setBell 5 (some .int) RL D cy ad x) (hR : 8 ≤ R.frames ∧ 135 ≤ R.locals ∧ 2 ≤ R.cells ∧ 12 ≤ R.slots) (p2 p3 : Int32) (M : Mem) (z : Int32) (M' : Mem) (hF : f_L_setBell p2 p3 M = some (z, M')) (hl9 : l.stackTraces = false) (htab : c.exceptionTable.toList = tableOf [(0, 10, 13, 28), (0, 10, 17, 19)]) (E : ∀ (pc : Nat) (ls : Array Slot) (H : Heap) (locs : List Loc) (v : Int32) (M1 : Mem), decode cL_setBell pc = .ok (.ireturn, 1) → WD D cy ad s M1 H locs → some (v, M1) = some (z, M') → W p l e R s m args below meth c H locs 2 12 Q (F0 m pc ls [.int v])) (H : Heap) (locs : List Loc) (ls : Array Slot) (hl : lv_has ls 5 [(0, .ref (ad 0)), (1, .int p2), (2, .int p3), (3, .ref (ad 17))]) (hw : WD D cy ad s M H locs) : W p l e R s m args below meth c H locs 0 0 Q (F0 m 0 ls []) := by
  have hx := fx.1.1
  have hb := fx.1.2.1
  have hown := fx.1.2.2.2.1
  have hts := fx.1.2.2.2.2
  unfold f_L_setBell at hF
  refine lv_aload_n hx hb dL_setBell_0 rfl (lv_at hl 3 rfl) ?_
  refine lv_iconst (v := 0) hx hb dL_setBell_1 (by decide) ?_
  refine lv_aload_n hx hb dL_setBell_2 rfl (lv_at hl 0 rfl) ?_
  refine lv_iload_n hx hb dL_setBell_3 rfl (lv_at hl 1 rfl) ?_
  refine lv_iload_n hx hb dL_setBell_4 rfl (lv_at hl 2 rfl) ?_
  obtain ⟨er4, r4, M5, hgr4, hF⟩ := st_bnd3 hF
  refine g_xci hw (g_xrunV (C := RX5) (As := [.int p2, .int p3]) (rest := [.int 0, .ref (ad 17)]) fx hw isO_0 rfl (c_X5_setBell l x D cy ad p2 p3 H.size M er4 r4 M5 hl9 hgr4) wd4_174 wd4_175 wd4_176 wd1_1 wd4_177 yd_X5_setBell rfl rfl (Nat.le_of_ble_eq_true rfl) hl.1 ⟨Nat.le_trans (Nat.le_of_ble_eq_true rfl) hR.1, Nat.le_trans (Nat.le_of_ble_eq_true rfl) hR.2.1⟩ ⟨Nat.le_trans (Nat.le_of_ble_eq_true rfl) hR.2.2.1, Nat.le_trans (Nat.le_of_ble_eq_true rfl) hR.2.2.2⟩ dL_setBell_5) (fun her4 ce q9 H locs hw hce hcv hcl => ?_) (fun her4 H locs hw => ?_)
  · replace hF := st_f her4 hF
    by_cases hkr4_0 : er4 = 1
    · replace hF := st_t hkr4_0 hF
      subst hkr4_0
      refine vx_catch (E := exN 1) (name := exN 1) hown [] ⟨0, 10, 13, 28⟩ [⟨0, 10, 17, 19⟩] htab (fun z hz => nomatch hz) (by decide) (by decide) (hts _ wd3_236) (va_Nw.use rfl (fx.2.2.2.2.2.2.2.2.2.2.1 _ (by decide))) hce hcv hcl ?_
      refine lv_astore (lv' := [(4, .ref q9), (0, .ref (ad 0)), (1, .int p2), (2, .int p3), (3, .ref (ad 17))]) hx hb dL_setBell_13 hl (by decide) rfl (fun ls hl => ?_)
      refine lv_iconst (v := 1) hx hb dL_setBell_15 (by decide) ?_
      exact E _ _ _ _ _ _ dL_setBell_16 hw hF
    · replace hF := st_f hkr4_0 hF
      by_cases hkr4_1 : er4 = 2
      · replace hF := st_t hkr4_1 hF
        subst hkr4_1
        refine vx_catch (E := exN 2) (name := exN 2) hown [⟨0, 10, 13, 28⟩] ⟨0, 10, 17, 19⟩ [] htab (fun z hz => by rw [List.mem_singleton.mp hz]; exact Or.inr ⟨by decide, exN 1, hts _ wd3_236, fx.2.2.2.2.2.2.2.2.2.2.2.1 (exN 2, exN 1) (by decide)⟩) (by decide) (by decide) (hts _ wd3_196) (va_Nw.use rfl (fx.2.2.2.2.2.2.2.2.2.2.1 _ (by decide))) hce hcv hcl ?_
        refine lv_astore (lv' := [(4, .ref q9), (0, .ref (ad 0)), (1, .int p2), (2, .int p3), (3, .ref (ad 17))]) hx hb dL_setBell_17 hl (by decide) rfl (fun ls hl => ?_)
        refine lv_iconst (v := 2) hx hb dL_setBell_19 (by decide) ?_
        exact E _ _ _ _ _ _ dL_setBell_20 hw hF
      · replace hF := st_f hkr4_1 hF
        exact nomatch hF
  · replace hF := st_t her4 hF
    refine lv_i2l hx hb dL_setBell_8 rfl ?_
    obtain ⟨M6, eM6, hF⟩ := st_letM hF
    refine g_last fx hw isL_17 (k := 0) rfl (by decide) eM6 dL_setBell_9 (fun H locs hw => ?_)
    refine lv_goto (tgt := 21) hx hb dL_setBell_10 (by decide) ?_
    refine lv_iconst (v := 0) hx hb dL_setBell_21 (by decide) ?_
    exact E _ _ _ _ _ _ dL_setBell_22 hw hF
theorem c_L_setBell (l : Launch) (x : SX) (D : va_G) (cy : Nat → ClassId) (ad : Nat → Nat) (p2 p3 : Int32) (sz : Nat) (M : Mem) (z : Int32) (M' : Mem) (hl9 : l.stackTraces = false) (hF : f_L_setBell p2 p3 M = some (z, M')) : Met l yL_setBell (.codeWith yL_setBell cL_setBell 5 (some .int) [(0, 10, 13, 28), (0, 10, 17, 19)] :: GB) ({ frames := 8, cells := 2, slots := 12, locals := 135 } : Room) (PcW D cy ad x sz M [.ref (ad 0), .int p2, .int p3, .ref (ad 17)]) (QiW D cy ad sz z M') 2 12 (AA ad sz) := by
  refine mk_w (own := RL) (by decide) rfl (Nat.le_of_ble_eq_true rfl) ?_
  intro p e s m args below meth c ls fx htab hw hl hsz
  subst hsz
  exact b_L_setBell fx ⟨Nat.le_refl _, Nat.le_refl _, Nat.le_refl _, Nat.le_refl _⟩ p2 p3 M z M' hF hl9 htab (fun pc ls H locs v M1 hd hw h => by cases h; exact g_iret fx hw rfl hd) _ _ ls hl hw
noncomputable def f_L_set (p2 p3 : Int32) (M : Mem) : Option (Int32 × Mem) := (bnd3 (f_X5_set p2 p3 M) (fun er4 r4 M5 => (if er4 = 0 then (letM (mput M5 17 0 r4) (fun M6 => (some (0, M6)))) else (if er4 = 2 then (some (1, M5)) else none))))
set_option maxHeartbeats 4000000 in
set_option maxRecDepth 100000 in
theorem b_L_set {p : Program} {l : Launch} {e : Env} {R : Room} {s : State} {m : MethodId} {args : Array Value} {below : List Frame} {meth : Method} {c : Code} {Q : State → Prop} {D : va_G} {cy : Nat → ClassId} {ad : Nat → Nat} {x : SX} (fx : FX p s m args meth c cL_set 5 (some .int) RL D cy ad x) (hR : 8 ≤ R.frames ∧ 136 ≤ R.locals ∧ 2 ≤ R.cells ∧ 12 ≤ R.slots) (p2 p3 : Int32) (M : Mem) (z : Int32) (M' : Mem) (hF : f_L_set p2 p3 M = some (z, M')) (hl9 : l.stackTraces = false) (htab : c.exceptionTable.toList = tableOf [(0, 10, 13, 19)]) (E : ∀ (pc : Nat) (ls : Array Slot) (H : Heap) (locs : List Loc) (v : Int32) (M1 : Mem), decode cL_set pc = .ok (.ireturn, 1) → WD D cy ad s M1 H locs → some (v, M1) = some (z, M') → W p l e R s m args below meth c H locs 2 12 Q (F0 m pc ls [.int v])) (H : Heap) (locs : List Loc) (ls : Array Slot) (hl : lv_has ls 5 [(0, .ref (ad 0)), (1, .int p2), (2, .int p3), (3, .ref (ad 17))]) (hw : WD D cy ad s M H locs) : W p l e R s m args below meth c H locs 0 0 Q (F0 m 0 ls []) := by
  have hx := fx.1.1
  have hb := fx.1.2.1
  have hown := fx.1.2.2.2.1
  have hts := fx.1.2.2.2.2
  unfold f_L_set at hF
  refine lv_aload_n hx hb dL_set_0 rfl (lv_at hl 3 rfl) ?_
  refine lv_iconst (v := 0) hx hb dL_set_1 (by decide) ?_
  refine lv_aload_n hx hb dL_set_2 rfl (lv_at hl 0 rfl) ?_
  refine lv_iload_n hx hb dL_set_3 rfl (lv_at hl 1 rfl) ?_
  refine lv_iload_n hx hb dL_set_4 rfl (lv_at hl 2 rfl) ?_
  obtain ⟨er4, r4, M5, hgr4, hF⟩ := st_bnd3 hF
  refine g_xci hw (g_xrunV (C := RX5) (As := [.int p2, .int p3]) (rest := [.int 0, .ref (ad 17)]) fx hw isO_0 rfl (c_X5_set l x D cy ad p2 p3 H.size M er4 r4 M5 hl9 hgr4) wd4_181 wd4_182 wd4_183 wd1_1 wd4_184 yd_X5_set rfl rfl (Nat.le_of_ble_eq_true rfl) hl.1 ⟨Nat.le_trans (Nat.le_of_ble_eq_true rfl) hR.1, Nat.le_trans (Nat.le_of_ble_eq_true rfl) hR.2.1⟩ ⟨Nat.le_trans (Nat.le_of_ble_eq_true rfl) hR.2.2.1, Nat.le_trans (Nat.le_of_ble_eq_true rfl) hR.2.2.2⟩ dL_set_5) (fun her4 ce q9 H locs hw hce hcv hcl => ?_) (fun her4 H locs hw => ?_)
  · replace hF := st_f her4 hF
    by_cases hkr4_0 : er4 = 2
    · replace hF := st_t hkr4_0 hF
      subst hkr4_0
      refine vx_catch (E := exN 2) (name := exN 2) hown [] ⟨0, 10, 13, 19⟩ [] htab (fun z hz => nomatch hz) (by decide) (by decide) (hts _ wd3_196) (va_Nw.use rfl (fx.2.2.2.2.2.2.2.2.2.2.1 _ (by decide))) hce hcv hcl ?_
      refine lv_astore (lv' := [(4, .ref q9), (0, .ref (ad 0)), (1, .int p2), (2, .int p3), (3, .ref (ad 17))]) hx hb dL_set_13 hl (by decide) rfl (fun ls hl => ?_)
      refine lv_iconst (v := 1) hx hb dL_set_15 (by decide) ?_
      exact E _ _ _ _ _ _ dL_set_16 hw hF
    · replace hF := st_f hkr4_0 hF
      exact nomatch hF
  · replace hF := st_t her4 hF
    refine lv_i2l hx hb dL_set_8 rfl ?_
    obtain ⟨M6, eM6, hF⟩ := st_letM hF
    refine g_last fx hw isL_17 (k := 0) rfl (by decide) eM6 dL_set_9 (fun H locs hw => ?_)
    refine lv_goto (tgt := 17) hx hb dL_set_10 (by decide) ?_
    refine lv_iconst (v := 0) hx hb dL_set_17 (by decide) ?_
    exact E _ _ _ _ _ _ dL_set_18 hw hF
theorem c_L_set (l : Launch) (x : SX) (D : va_G) (cy : Nat → ClassId) (ad : Nat → Nat) (p2 p3 : Int32) (sz : Nat) (M : Mem) (z : Int32) (M' : Mem) (hl9 : l.stackTraces = false) (hF : f_L_set p2 p3 M = some (z, M')) : Met l yL_set (.codeWith yL_set cL_set 5 (some .int) [(0, 10, 13, 19)] :: GB) ({ frames := 8, cells := 2, slots := 12, locals := 136 } : Room) (PcW D cy ad x sz M [.ref (ad 0), .int p2, .int p3, .ref (ad 17)]) (QiW D cy ad sz z M') 2 12 (AA ad sz) := by
  refine mk_w (own := RL) (by decide) rfl (Nat.le_of_ble_eq_true rfl) ?_
  intro p e s m args below meth c ls fx htab hw hl hsz
  subst hsz
  exact b_L_set fx ⟨Nat.le_refl _, Nat.le_refl _, Nat.le_refl _, Nat.le_refl _⟩ p2 p3 M z M' hF hl9 htab (fun pc ls H locs v M1 hd hw h => by cases h; exact g_iret fx hw rfl hd) _ _ ls hl hw
noncomputable def f_L_undo (M : Mem) : Option (Int32 × Mem) := (bnd3 (f_X5_undo M) (fun er4 r4 M5 => (if er4 = 0 then (letM (mput M5 17 0 r4) (fun M6 => (some (0, M6)))) else (if er4 = 3 then (some (1, M5)) else none))))
set_option maxHeartbeats 4000000 in
set_option maxRecDepth 100000 in
theorem b_L_undo {p : Program} {l : Launch} {e : Env} {R : Room} {s : State} {m : MethodId} {args : Array Value} {below : List Frame} {meth : Method} {c : Code} {Q : State → Prop} {D : va_G} {cy : Nat → ClassId} {ad : Nat → Nat} {x : SX} (fx : FX p s m args meth c cL_undo 3 (some .int) RL D cy ad x) (hR : 7 ≤ R.frames ∧ 122 ≤ R.locals ∧ 1 ≤ R.cells ∧ 6 ≤ R.slots) (M : Mem) (z : Int32) (M' : Mem) (hF : f_L_undo M = some (z, M')) (hl9 : l.stackTraces = false) (htab : c.exceptionTable.toList = tableOf [(0, 8, 11, 13)]) (E : ∀ (pc : Nat) (ls : Array Slot) (H : Heap) (locs : List Loc) (v : Int32) (M1 : Mem), decode cL_undo pc = .ok (.ireturn, 1) → WD D cy ad s M1 H locs → some (v, M1) = some (z, M') → W p l e R s m args below meth c H locs 1 6 Q (F0 m pc ls [.int v])) (H : Heap) (locs : List Loc) (ls : Array Slot) (hl : lv_has ls 3 [(0, .ref (ad 0)), (1, .ref (ad 17))]) (hw : WD D cy ad s M H locs) : W p l e R s m args below meth c H locs 0 0 Q (F0 m 0 ls []) := by
  have hx := fx.1.1
  have hb := fx.1.2.1
  have hown := fx.1.2.2.2.1
  have hts := fx.1.2.2.2.2
  unfold f_L_undo at hF
  refine lv_aload_n hx hb dL_undo_0 rfl (lv_at hl 1 rfl) ?_
  refine lv_iconst (v := 0) hx hb dL_undo_1 (by decide) ?_
  refine lv_aload_n hx hb dL_undo_2 rfl (lv_at hl 0 rfl) ?_
  obtain ⟨er4, r4, M5, hgr4, hF⟩ := st_bnd3 hF
  refine g_xci hw (g_xrunV (C := RX5) (As := []) (rest := [.int 0, .ref (ad 17)]) fx hw isO_0 rfl (c_X5_undo l x D cy ad H.size M er4 r4 M5 hl9 hgr4) wd4_188 wd4_189 wd4_190 wd1_1 wd4_191 yd_X5_undo rfl rfl (Nat.le_of_ble_eq_true rfl) hl.1 ⟨Nat.le_trans (Nat.le_of_ble_eq_true rfl) hR.1, Nat.le_trans (Nat.le_of_ble_eq_true rfl) hR.2.1⟩ ⟨Nat.le_trans (Nat.le_of_ble_eq_true rfl) hR.2.2.1, Nat.le_trans (Nat.le_of_ble_eq_true rfl) hR.2.2.2⟩ dL_undo_3) (fun her4 ce q9 H locs hw hce hcv hcl => ?_) (fun her4 H locs hw => ?_)
  · replace hF := st_f her4 hF
    by_cases hkr4_0 : er4 = 3
    · replace hF := st_t hkr4_0 hF
      subst hkr4_0
      refine vx_catch (E := exN 3) (name := exN 3) hown [] ⟨0, 8, 11, 13⟩ [] htab (fun z hz => nomatch hz) (by decide) (by decide) (hts _ wd3_114) (va_Nw.use rfl (fx.2.2.2.2.2.2.2.2.2.2.1 _ (by decide))) hce hcv hcl ?_
      refine lv_astore_n (lv' := [(2, .ref q9), (0, .ref (ad 0)), (1, .ref (ad 17))]) hx hb dL_undo_11 rfl hl (by decide) rfl (fun ls hl => ?_)
      refine lv_iconst (v := 1) hx hb dL_undo_12 (by decide) ?_
      exact E _ _ _ _ _ _ dL_undo_13 hw hF
    · replace hF := st_f hkr4_0 hF
      exact nomatch hF
  · replace hF := st_t her4 hF
    refine lv_i2l hx hb dL_undo_6 rfl ?_
    obtain ⟨M6, eM6, hF⟩ := st_letM hF
    refine g_last fx hw isL_17 (k := 0) rfl (by decide) eM6 dL_undo_7 (fun H locs hw => ?_)
    refine lv_goto (tgt := 14) hx hb dL_undo_8 (by decide) ?_
    refine lv_iconst (v := 0) hx hb dL_undo_14 (by decide) ?_
    exact E _ _ _ _ _ _ dL_undo_15 hw hF
theorem c_L_undo (l : Launch) (x : SX) (D : va_G) (cy : Nat → ClassId) (ad : Nat → Nat) (sz : Nat) (M : Mem) (z : Int32) (M' : Mem) (hl9 : l.stackTraces = false) (hF : f_L_undo M = some (z, M')) : Met l yL_undo (.codeWith yL_undo cL_undo 3 (some .int) [(0, 8, 11, 13)] :: GB) ({ frames := 7, cells := 1, slots := 6, locals := 122 } : Room) (PcW D cy ad x sz M [.ref (ad 0), .ref (ad 17)]) (QiW D cy ad sz z M') 1 6 (AA ad sz) := by
  refine mk_w (own := RL) (by decide) rfl (Nat.le_of_ble_eq_true rfl) ?_
  intro p e s m args below meth c ls fx htab hw hl hsz
  subst hsz
  exact b_L_undo fx ⟨Nat.le_refl _, Nat.le_refl _, Nat.le_refl _, Nat.le_refl _⟩ M z M' hF hl9 htab (fun pc ls H locs v M1 hd hw h => by cases h; exact g_iret fx hw rfl hd) _ _ ls hl hw
noncomputable def f_L_save (p2 : Int32) (M : Mem) : Option (Int32 × Mem) := (bnd3 (f_X5_save p2 M) (fun er3 r3 M4 => (if er3 = 0 then (some (0, M4)) else (if er3 = 1 then (some (1, M4)) else none))))
set_option maxHeartbeats 4000000 in
set_option maxRecDepth 100000 in
theorem b_L_save {p : Program} {l : Launch} {e : Env} {R : Room} {s : State} {m : MethodId} {args : Array Value} {below : List Frame} {meth : Method} {c : Code} {Q : State → Prop} {D : va_G} {cy : Nat → ClassId} {ad : Nat → Nat} {x : SX} (fx : FX p s m args meth c cL_save 3 (some .int) RL D cy ad x) (hR : 8 ≤ R.frames ∧ 131 ≤ R.locals ∧ 1 ≤ R.cells ∧ 6 ≤ R.slots) (p2 : Int32) (M : Mem) (z : Int32) (M' : Mem) (hF : f_L_save p2 M = some (z, M')) (hl9 : l.stackTraces = false) (htab : c.exceptionTable.toList = tableOf [(0, 5, 8, 28)]) (E : ∀ (pc : Nat) (ls : Array Slot) (H : Heap) (locs : List Loc) (v : Int32) (M1 : Mem), decode cL_save pc = .ok (.ireturn, 1) → WD D cy ad s M1 H locs → some (v, M1) = some (z, M') → W p l e R s m args below meth c H locs 1 6 Q (F0 m pc ls [.int v])) (H : Heap) (locs : List Loc) (ls : Array Slot) (hl : lv_has ls 3 [(0, .ref (ad 0)), (1, .int p2)]) (hw : WD D cy ad s M H locs) : W p l e R s m args below meth c H locs 0 0 Q (F0 m 0 ls []) := by
  have hx := fx.1.1
  have hb := fx.1.2.1
  have hown := fx.1.2.2.2.1
  have hts := fx.1.2.2.2.2
  unfold f_L_save at hF
  refine lv_aload_n hx hb dL_save_0 rfl (lv_at hl 0 rfl) ?_
  refine lv_iload_n hx hb dL_save_1 rfl (lv_at hl 1 rfl) ?_
  obtain ⟨er3, r3, M4, hgr3, hF⟩ := st_bnd3 hF
  refine g_xcv hw (g_xrunV (C := RX5) (As := [.int p2]) (rest := []) fx hw isO_0 rfl (c_X5_save l x D cy ad p2 H.size M er3 r3 M4 hl9 hgr3) wd4_200 wd4_201 wd4_202 wd1_1 wd4_203 yd_X5_save rfl rfl (Nat.le_of_ble_eq_true rfl) hl.1 ⟨Nat.le_trans (Nat.le_of_ble_eq_true rfl) hR.1, Nat.le_trans (Nat.le_of_ble_eq_true rfl) hR.2.1⟩ ⟨Nat.le_trans (Nat.le_of_ble_eq_true rfl) hR.2.2.1, Nat.le_trans (Nat.le_of_ble_eq_true rfl) hR.2.2.2⟩ dL_save_2) (fun her3 ce q9 H locs hw hce hcv hcl => ?_) (fun her3 H locs hw => ?_)
  · replace hF := st_f her3 hF
    by_cases hkr3_0 : er3 = 1
    · replace hF := st_t hkr3_0 hF
      subst hkr3_0
      refine vx_catch (E := exN 1) (name := exN 1) hown [] ⟨0, 5, 8, 28⟩ [] htab (fun z hz => nomatch hz) (by decide) (by decide) (hts _ wd3_236) (va_Nw.use rfl (fx.2.2.2.2.2.2.2.2.2.2.1 _ (by decide))) hce hcv hcl ?_
      refine lv_astore_n (lv' := [(2, .ref q9), (0, .ref (ad 0)), (1, .int p2)]) hx hb dL_save_8 rfl hl (by decide) rfl (fun ls hl => ?_)
      refine lv_iconst (v := 1) hx hb dL_save_9 (by decide) ?_
      exact E _ _ _ _ _ _ dL_save_10 hw hF
    · replace hF := st_f hkr3_0 hF
      exact nomatch hF
  · replace hF := st_t her3 hF
    refine lv_goto (tgt := 11) hx hb dL_save_5 (by decide) ?_
    refine lv_iconst (v := 0) hx hb dL_save_11 (by decide) ?_
    exact E _ _ _ _ _ _ dL_save_12 hw hF
theorem c_L_save (l : Launch) (x : SX) (D : va_G) (cy : Nat → ClassId) (ad : Nat → Nat) (p2 : Int32) (sz : Nat) (M : Mem) (z : Int32) (M' : Mem) (hl9 : l.stackTraces = false) (hF : f_L_save p2 M = some (z, M')) : Met l yL_save (.codeWith yL_save cL_save 3 (some .int) [(0, 5, 8, 28)] :: GB) ({ frames := 8, cells := 1, slots := 6, locals := 131 } : Room) (PcW D cy ad x sz M [.ref (ad 0), .int p2]) (QiW D cy ad sz z M') 1 6 (AA ad sz) := by
  refine mk_w (own := RL) (by decide) rfl (Nat.le_of_ble_eq_true rfl) ?_
  intro p e s m args below meth c ls fx htab hw hl hsz
  subst hsz
  exact b_L_save fx ⟨Nat.le_refl _, Nat.le_refl _, Nat.le_refl _, Nat.le_refl _⟩ p2 M z M' hF hl9 htab (fun pc ls H locs v M1 hd hw h => by cases h; exact g_iret fx hw rfl hd) _ _ ls hl hw
noncomputable def f_L_restore (p2 : Int32) (M : Mem) : Option (Int32 × Mem) := (bnd3 (f_X5_restore p2 M) (fun er4 r4 M5 => (if er4 = 0 then (letM (mput M5 17 0 r4) (fun M6 => (some (0, M6)))) else (if er4 = 1 then (some (1, M5)) else (if er4 = 3 then (some (2, M5)) else none)))))
set_option maxHeartbeats 4000000 in
set_option maxRecDepth 100000 in
theorem b_L_restore {p : Program} {l : Launch} {e : Env} {R : Room} {s : State} {m : MethodId} {args : Array Value} {below : List Frame} {meth : Method} {c : Code} {Q : State → Prop} {D : va_G} {cy : Nat → ClassId} {ad : Nat → Nat} {x : SX} (fx : FX p s m args meth c cL_restore 4 (some .int) RL D cy ad x) (hR : 8 ≤ R.frames ∧ 131 ≤ R.locals ∧ 2 ≤ R.cells ∧ 12 ≤ R.slots) (p2 : Int32) (M : Mem) (z : Int32) (M' : Mem) (hF : f_L_restore p2 M = some (z, M')) (hl9 : l.stackTraces = false) (htab : c.exceptionTable.toList = tableOf [(0, 9, 12, 28), (0, 9, 15, 13)]) (E : ∀ (pc : Nat) (ls : Array Slot) (H : Heap) (locs : List Loc) (v : Int32) (M1 : Mem), decode cL_restore pc = .ok (.ireturn, 1) → WD D cy ad s M1 H locs → some (v, M1) = some (z, M') → W p l e R s m args below meth c H locs 2 12 Q (F0 m pc ls [.int v])) (H : Heap) (locs : List Loc) (ls : Array Slot) (hl : lv_has ls 4 [(0, .ref (ad 0)), (1, .int p2), (2, .ref (ad 17))]) (hw : WD D cy ad s M H locs) : W p l e R s m args below meth c H locs 0 0 Q (F0 m 0 ls []) := by
  have hx := fx.1.1
  have hb := fx.1.2.1
  have hown := fx.1.2.2.2.1
  have hts := fx.1.2.2.2.2
  unfold f_L_restore at hF
  refine lv_aload_n hx hb dL_restore_0 rfl (lv_at hl 2 rfl) ?_
  refine lv_iconst (v := 0) hx hb dL_restore_1 (by decide) ?_
  refine lv_aload_n hx hb dL_restore_2 rfl (lv_at hl 0 rfl) ?_
  refine lv_iload_n hx hb dL_restore_3 rfl (lv_at hl 1 rfl) ?_
  obtain ⟨er4, r4, M5, hgr4, hF⟩ := st_bnd3 hF
  refine g_xci hw (g_xrunV (C := RX5) (As := [.int p2]) (rest := [.int 0, .ref (ad 17)]) fx hw isO_0 rfl (c_X5_restore l x D cy ad p2 H.size M er4 r4 M5 hl9 hgr4) wd4_211 wd4_212 wd4_213 wd1_1 wd4_214 yd_X5_restore rfl rfl (Nat.le_of_ble_eq_true rfl) hl.1 ⟨Nat.le_trans (Nat.le_of_ble_eq_true rfl) hR.1, Nat.le_trans (Nat.le_of_ble_eq_true rfl) hR.2.1⟩ ⟨Nat.le_trans (Nat.le_of_ble_eq_true rfl) hR.2.2.1, Nat.le_trans (Nat.le_of_ble_eq_true rfl) hR.2.2.2⟩ dL_restore_4) (fun her4 ce q9 H locs hw hce hcv hcl => ?_) (fun her4 H locs hw => ?_)
  · replace hF := st_f her4 hF
    by_cases hkr4_0 : er4 = 1
    · replace hF := st_t hkr4_0 hF
      subst hkr4_0
      refine vx_catch (E := exN 1) (name := exN 1) hown [] ⟨0, 9, 12, 28⟩ [⟨0, 9, 15, 13⟩] htab (fun z hz => nomatch hz) (by decide) (by decide) (hts _ wd3_236) (va_Nw.use rfl (fx.2.2.2.2.2.2.2.2.2.2.1 _ (by decide))) hce hcv hcl ?_
      refine lv_astore_n (lv' := [(3, .ref q9), (0, .ref (ad 0)), (1, .int p2), (2, .ref (ad 17))]) hx hb dL_restore_12 rfl hl (by decide) rfl (fun ls hl => ?_)
      refine lv_iconst (v := 1) hx hb dL_restore_13 (by decide) ?_
      exact E _ _ _ _ _ _ dL_restore_14 hw hF
    · replace hF := st_f hkr4_0 hF
      by_cases hkr4_1 : er4 = 3
      · replace hF := st_t hkr4_1 hF
        subst hkr4_1
        refine vx_catch (E := exN 3) (name := exN 3) hown [⟨0, 9, 12, 28⟩] ⟨0, 9, 15, 13⟩ [] htab (fun z hz => by rw [List.mem_singleton.mp hz]; exact Or.inr ⟨by decide, exN 1, hts _ wd3_236, fx.2.2.2.2.2.2.2.2.2.2.2.1 (exN 3, exN 1) (by decide)⟩) (by decide) (by decide) (hts _ wd3_114) (va_Nw.use rfl (fx.2.2.2.2.2.2.2.2.2.2.1 _ (by decide))) hce hcv hcl ?_
        refine lv_astore_n (lv' := [(3, .ref q9), (0, .ref (ad 0)), (1, .int p2), (2, .ref (ad 17))]) hx hb dL_restore_15 rfl hl (by decide) rfl (fun ls hl => ?_)
        refine lv_iconst (v := 2) hx hb dL_restore_16 (by decide) ?_
        exact E _ _ _ _ _ _ dL_restore_17 hw hF
      · replace hF := st_f hkr4_1 hF
        exact nomatch hF
  · replace hF := st_t her4 hF
    refine lv_i2l hx hb dL_restore_7 rfl ?_
    obtain ⟨M6, eM6, hF⟩ := st_letM hF
    refine g_last fx hw isL_17 (k := 0) rfl (by decide) eM6 dL_restore_8 (fun H locs hw => ?_)
    refine lv_goto (tgt := 18) hx hb dL_restore_9 (by decide) ?_
    refine lv_iconst (v := 0) hx hb dL_restore_18 (by decide) ?_
    exact E _ _ _ _ _ _ dL_restore_19 hw hF
theorem c_L_restore (l : Launch) (x : SX) (D : va_G) (cy : Nat → ClassId) (ad : Nat → Nat) (p2 : Int32) (sz : Nat) (M : Mem) (z : Int32) (M' : Mem) (hl9 : l.stackTraces = false) (hF : f_L_restore p2 M = some (z, M')) : Met l yL_restore (.codeWith yL_restore cL_restore 4 (some .int) [(0, 9, 12, 28), (0, 9, 15, 13)] :: GB) ({ frames := 8, cells := 2, slots := 12, locals := 131 } : Room) (PcW D cy ad x sz M [.ref (ad 0), .int p2, .ref (ad 17)]) (QiW D cy ad sz z M') 2 12 (AA ad sz) := by
  refine mk_w (own := RL) (by decide) rfl (Nat.le_of_ble_eq_true rfl) ?_
  intro p e s m args below meth c ls fx htab hw hl hsz
  subst hsz
  exact b_L_restore fx ⟨Nat.le_refl _, Nat.le_refl _, Nat.le_refl _, Nat.le_refl _⟩ p2 M z M' hF hl9 htab (fun pc ls H locs v M1 hd hw h => by cases h; exact g_iret fx hw rfl hd) _ _ ls hl hw
noncomputable def f_L_writeMonk (p2 : Int32) (M : Mem) : Option (Int32 × Mem) := (bnd3 (f_X5_writeMonk p2 M) (fun er4 r4 M5 => (if er4 = 0 then (letM (mput M5 17 0 r4) (fun M6 => (some (0, M6)))) else (if er4 = 1 then (some (1, M5)) else none))))
set_option maxHeartbeats 4000000 in
set_option maxRecDepth 100000 in
theorem b_L_writeMonk {p : Program} {l : Launch} {e : Env} {R : Room} {s : State} {m : MethodId} {args : Array Value} {below : List Frame} {meth : Method} {c : Code} {Q : State → Prop} {D : va_G} {cy : Nat → ClassId} {ad : Nat → Nat} {x : SX} (fx : FX p s m args meth c cL_writeMonk 4 (some .int) RL D cy ad x) (hR : 8 ≤ R.frames ∧ 132 ≤ R.locals ∧ 1 ≤ R.cells ∧ 6 ≤ R.slots) (p2 : Int32) (M : Mem) (z : Int32) (M' : Mem) (hF : f_L_writeMonk p2 M = some (z, M')) (hl9 : l.stackTraces = false) (htab : c.exceptionTable.toList = tableOf [(0, 9, 12, 28)]) (E : ∀ (pc : Nat) (ls : Array Slot) (H : Heap) (locs : List Loc) (v : Int32) (M1 : Mem), decode cL_writeMonk pc = .ok (.ireturn, 1) → WD D cy ad s M1 H locs → some (v, M1) = some (z, M') → W p l e R s m args below meth c H locs 1 6 Q (F0 m pc ls [.int v])) (H : Heap) (locs : List Loc) (ls : Array Slot) (hl : lv_has ls 4 [(0, .ref (ad 0)), (1, .int p2), (2, .ref (ad 17))]) (hw : WD D cy ad s M H locs) : W p l e R s m args below meth c H locs 0 0 Q (F0 m 0 ls []) := by
  have hx := fx.1.1
  have hb := fx.1.2.1
  have hown := fx.1.2.2.2.1
  have hts := fx.1.2.2.2.2
  unfold f_L_writeMonk at hF
  refine lv_aload_n hx hb dL_writeMonk_0 rfl (lv_at hl 2 rfl) ?_
  refine lv_iconst (v := 0) hx hb dL_writeMonk_1 (by decide) ?_
  refine lv_aload_n hx hb dL_writeMonk_2 rfl (lv_at hl 0 rfl) ?_
  refine lv_iload_n hx hb dL_writeMonk_3 rfl (lv_at hl 1 rfl) ?_
  obtain ⟨er4, r4, M5, hgr4, hF⟩ := st_bnd3 hF
  refine g_xci hw (g_xrunV (C := RX5) (As := [.int p2]) (rest := [.int 0, .ref (ad 17)]) fx hw isO_0 rfl (c_X5_writeMonk l x D cy ad p2 H.size M er4 r4 M5 hl9 hgr4) wd4_219 wd4_220 wd4_221 wd1_1 wd4_222 yd_X5_writeMonk rfl rfl (Nat.le_of_ble_eq_true rfl) hl.1 ⟨Nat.le_trans (Nat.le_of_ble_eq_true rfl) hR.1, Nat.le_trans (Nat.le_of_ble_eq_true rfl) hR.2.1⟩ ⟨Nat.le_trans (Nat.le_of_ble_eq_true rfl) hR.2.2.1, Nat.le_trans (Nat.le_of_ble_eq_true rfl) hR.2.2.2⟩ dL_writeMonk_4) (fun her4 ce q9 H locs hw hce hcv hcl => ?_) (fun her4 H locs hw => ?_)
  · replace hF := st_f her4 hF
    by_cases hkr4_0 : er4 = 1
    · replace hF := st_t hkr4_0 hF
      subst hkr4_0
      refine vx_catch (E := exN 1) (name := exN 1) hown [] ⟨0, 9, 12, 28⟩ [] htab (fun z hz => nomatch hz) (by decide) (by decide) (hts _ wd3_236) (va_Nw.use rfl (fx.2.2.2.2.2.2.2.2.2.2.1 _ (by decide))) hce hcv hcl ?_
      refine lv_astore_n (lv' := [(3, .ref q9), (0, .ref (ad 0)), (1, .int p2), (2, .ref (ad 17))]) hx hb dL_writeMonk_12 rfl hl (by decide) rfl (fun ls hl => ?_)
      refine lv_iconst (v := 1) hx hb dL_writeMonk_13 (by decide) ?_
      exact E _ _ _ _ _ _ dL_writeMonk_14 hw hF
    · replace hF := st_f hkr4_0 hF
      exact nomatch hF
  · replace hF := st_t her4 hF
    refine lv_i2l hx hb dL_writeMonk_7 rfl ?_
    obtain ⟨M6, eM6, hF⟩ := st_letM hF
    refine g_last fx hw isL_17 (k := 0) rfl (by decide) eM6 dL_writeMonk_8 (fun H locs hw => ?_)
    refine lv_goto (tgt := 15) hx hb dL_writeMonk_9 (by decide) ?_
    refine lv_iconst (v := 0) hx hb dL_writeMonk_15 (by decide) ?_
    exact E _ _ _ _ _ _ dL_writeMonk_16 hw hF
theorem c_L_writeMonk (l : Launch) (x : SX) (D : va_G) (cy : Nat → ClassId) (ad : Nat → Nat) (p2 : Int32) (sz : Nat) (M : Mem) (z : Int32) (M' : Mem) (hl9 : l.stackTraces = false) (hF : f_L_writeMonk p2 M = some (z, M')) : Met l yL_writeMonk (.codeWith yL_writeMonk cL_writeMonk 4 (some .int) [(0, 9, 12, 28)] :: GB) ({ frames := 8, cells := 1, slots := 6, locals := 132 } : Room) (PcW D cy ad x sz M [.ref (ad 0), .int p2, .ref (ad 17)]) (QiW D cy ad sz z M') 1 6 (AA ad sz) := by
  refine mk_w (own := RL) (by decide) rfl (Nat.le_of_ble_eq_true rfl) ?_
  intro p e s m args below meth c ls fx htab hw hl hsz
  subst hsz
  exact b_L_writeMonk fx ⟨Nat.le_refl _, Nat.le_refl _, Nat.le_refl _, Nat.le_refl _⟩ p2 M z M' hF hl9 htab (fun pc ls H locs v M1 hd hw h => by cases h; exact g_iret fx hw rfl hd) _ _ ls hl hw
noncomputable def f_L_writtenByte (p2 : Int32) (M : Mem) : Option (Int32 × Mem) := (bnd3 (f_X5_writtenByte p2 M) (fun er4 r4 M5 => (if er4 = 0 then (letM (mput M5 17 0 r4) (fun M6 => (some (0, M6)))) else (if er4 = 1 then (some (1, M5)) else none))))
set_option maxHeartbeats 4000000 in
set_option maxRecDepth 100000 in
theorem b_L_writtenByte {p : Program} {l : Launch} {e : Env} {R : Room} {s : State} {m : MethodId} {args : Array Value} {below : List Frame} {meth : Method} {c : Code} {Q : State → Prop} {D : va_G} {cy : Nat → ClassId} {ad : Nat → Nat} {x : SX} (fx : FX p s m args meth c cL_writtenByte 4 (some .int) RL D cy ad x) (hR : 7 ≤ R.frames ∧ 111 ≤ R.locals ∧ 1 ≤ R.cells ∧ 6 ≤ R.slots) (p2 : Int32) (M : Mem) (z : Int32) (M' : Mem) (hF : f_L_writtenByte p2 M = some (z, M')) (hl9 : l.stackTraces = false) (htab : c.exceptionTable.toList = tableOf [(0, 9, 12, 28)]) (E : ∀ (pc : Nat) (ls : Array Slot) (H : Heap) (locs : List Loc) (v : Int32) (M1 : Mem), decode cL_writtenByte pc = .ok (.ireturn, 1) → WD D cy ad s M1 H locs → some (v, M1) = some (z, M') → W p l e R s m args below meth c H locs 1 6 Q (F0 m pc ls [.int v])) (H : Heap) (locs : List Loc) (ls : Array Slot) (hl : lv_has ls 4 [(0, .ref (ad 0)), (1, .int p2), (2, .ref (ad 17))]) (hw : WD D cy ad s M H locs) : W p l e R s m args below meth c H locs 0 0 Q (F0 m 0 ls []) := by
  have hx := fx.1.1
  have hb := fx.1.2.1
  have hown := fx.1.2.2.2.1
  have hts := fx.1.2.2.2.2
  unfold f_L_writtenByte at hF
  refine lv_aload_n hx hb dL_writtenByte_0 rfl (lv_at hl 2 rfl) ?_
  refine lv_iconst (v := 0) hx hb dL_writtenByte_1 (by decide) ?_
  refine lv_aload_n hx hb dL_writtenByte_2 rfl (lv_at hl 0 rfl) ?_
  refine lv_iload_n hx hb dL_writtenByte_3 rfl (lv_at hl 1 rfl) ?_
  obtain ⟨er4, r4, M5, hgr4, hF⟩ := st_bnd3 hF
  refine g_xci hw (g_xrunV (C := RX5) (As := [.int p2]) (rest := [.int 0, .ref (ad 17)]) fx hw isO_0 rfl (c_X5_writtenByte l x D cy ad p2 H.size M er4 r4 M5 hl9 hgr4) wd4_237 wd4_238 wd4_239 wd1_1 wd5_0 yd_X5_writtenByte rfl rfl (Nat.le_of_ble_eq_true rfl) hl.1 ⟨Nat.le_trans (Nat.le_of_ble_eq_true rfl) hR.1, Nat.le_trans (Nat.le_of_ble_eq_true rfl) hR.2.1⟩ ⟨Nat.le_trans (Nat.le_of_ble_eq_true rfl) hR.2.2.1, Nat.le_trans (Nat.le_of_ble_eq_true rfl) hR.2.2.2⟩ dL_writtenByte_4) (fun her4 ce q9 H locs hw hce hcv hcl => ?_) (fun her4 H locs hw => ?_)
  · replace hF := st_f her4 hF
    by_cases hkr4_0 : er4 = 1
    · replace hF := st_t hkr4_0 hF
      subst hkr4_0
      refine vx_catch (E := exN 1) (name := exN 1) hown [] ⟨0, 9, 12, 28⟩ [] htab (fun z hz => nomatch hz) (by decide) (by decide) (hts _ wd3_236) (va_Nw.use rfl (fx.2.2.2.2.2.2.2.2.2.2.1 _ (by decide))) hce hcv hcl ?_
      refine lv_astore_n (lv' := [(3, .ref q9), (0, .ref (ad 0)), (1, .int p2), (2, .ref (ad 17))]) hx hb dL_writtenByte_12 rfl hl (by decide) rfl (fun ls hl => ?_)
      refine lv_iconst (v := 1) hx hb dL_writtenByte_13 (by decide) ?_
      exact E _ _ _ _ _ _ dL_writtenByte_14 hw hF
    · replace hF := st_f hkr4_0 hF
      exact nomatch hF
  · replace hF := st_t her4 hF
    refine lv_i2l hx hb dL_writtenByte_7 rfl ?_
    obtain ⟨M6, eM6, hF⟩ := st_letM hF
    refine g_last fx hw isL_17 (k := 0) rfl (by decide) eM6 dL_writtenByte_8 (fun H locs hw => ?_)
    refine lv_goto (tgt := 15) hx hb dL_writtenByte_9 (by decide) ?_
    refine lv_iconst (v := 0) hx hb dL_writtenByte_15 (by decide) ?_
    exact E _ _ _ _ _ _ dL_writtenByte_16 hw hF
theorem c_L_writtenByte (l : Launch) (x : SX) (D : va_G) (cy : Nat → ClassId) (ad : Nat → Nat) (p2 : Int32) (sz : Nat) (M : Mem) (z : Int32) (M' : Mem) (hl9 : l.stackTraces = false) (hF : f_L_writtenByte p2 M = some (z, M')) : Met l yL_writtenByte (.codeWith yL_writtenByte cL_writtenByte 4 (some .int) [(0, 9, 12, 28)] :: GB) ({ frames := 7, cells := 1, slots := 6, locals := 111 } : Room) (PcW D cy ad x sz M [.ref (ad 0), .int p2, .ref (ad 17)]) (QiW D cy ad sz z M') 1 6 (AA ad sz) := by
  refine mk_w (own := RL) (by decide) rfl (Nat.le_of_ble_eq_true rfl) ?_
  intro p e s m args below meth c ls fx htab hw hl hsz
  subst hsz
  exact b_L_writtenByte fx ⟨Nat.le_refl _, Nat.le_refl _, Nat.le_refl _, Nat.le_refl _⟩ p2 M z M' hF hl9 htab (fun pc ls H locs v M1 hd hw h => by cases h; exact g_iret fx hw rfl hd) _ _ ls hl hw
