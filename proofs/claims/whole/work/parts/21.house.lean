theorem wd4_29 : Cond.methodLink RX2 11 yX2_letterAt ∈ GB := gb_4 29 rfl rfl
theorem wd4_30 : Cond.static yX2_letterAt ∈ GB := gb_4 30 rfl rfl
theorem wd1_4 : Cond.initialized RX2 ∈ GB := gb_1 4 rfl rfl
theorem wd4_31 : Cond.code yX2_letterAt cX2_letterAt 3 (some .int) ∈ GB := gb_4 31 rfl rfl
theorem yd_X2_letterAt : yX2_letterAt.cls ≠ "java/lang/invoke/MethodHandle" ∧ yX2_letterAt.cls ≠ "java/lang/invoke/VarHandle" ∧ (parseMethodDescriptor yX2_letterAt.desc).map (fun d => d.parameters.length) = some 2 := by decide +kernel
theorem wd1_36 : Cond.fieldLink RX1 9 RX1 (TX1 0).2.1 (TX1 0).2.2.1 ∈ GB := gb_1 36 rfl rfl
theorem wd3_40 : Cond.methodLink RX1 48 arraycopyName ∈ GB := gb_3 40 rfl rfl
theorem wd3_42 : Cond.native arraycopyName ∈ GB := gb_3 42 rfl rfl
theorem wd3_41 : Cond.static arraycopyName ∈ GB := gb_3 41 rfl rfl
theorem wd1_19 : Cond.initialized "java/lang/System" ∈ GB := gb_1 19 rfl rfl
theorem wd1_38 : Cond.fieldLink RX1 15 RX1 (TX1 1).2.1 (TX1 1).2.2.1 ∈ GB := gb_1 38 rfl rfl
theorem wd1_40 : Cond.fieldLink RX1 18 RX1 (TX1 2).2.1 (TX1 2).2.2.1 ∈ GB := gb_1 40 rfl rfl
theorem wd1_42 : Cond.fieldLink RX1 21 RX1 (TX1 3).2.1 (TX1 3).2.2.1 ∈ GB := gb_1 42 rfl rfl
theorem wd1_44 : Cond.fieldLink RX1 24 RX1 (TX1 4).2.1 (TX1 4).2.2.1 ∈ GB := gb_1 44 rfl rfl
theorem wd1_46 : Cond.fieldLink RX1 27 RX1 (TX1 5).2.1 (TX1 5).2.2.1 ∈ GB := gb_1 46 rfl rfl
theorem wd1_48 : Cond.fieldLink RX1 30 RX1 (TX1 6).2.1 (TX1 6).2.2.1 ∈ GB := gb_1 48 rfl rfl
theorem wd1_50 : Cond.fieldLink RX1 33 RX1 (TX1 7).2.1 (TX1 7).2.2.1 ∈ GB := gb_1 50 rfl rfl
theorem wd1_52 : Cond.fieldLink RX1 36 RX1 (TX1 8).2.1 (TX1 8).2.2.1 ∈ GB := gb_1 52 rfl rfl
theorem wd1_54 : Cond.fieldLink RX1 39 RX1 (TX1 9).2.1 (TX1 9).2.2.1 ∈ GB := gb_1 54 rfl rfl
theorem wd1_56 : Cond.fieldLink RX1 42 RX1 (TX1 10).2.1 (TX1 10).2.2.1 ∈ GB := gb_1 56 rfl rfl
theorem wd1_59 : Cond.fieldLink RX1 45 RX1 (TX1 11).2.1 (TX1 11).2.2.1 ∈ GB := gb_1 59 rfl rfl
theorem wd1_61 : Cond.fieldLink RX1 54 RX1 (TX1 12).2.1 (TX1 12).2.2.1 ∈ GB := gb_1 61 rfl rfl
theorem wd1_63 : Cond.fieldLink RX1 58 RX1 (TX1 13).2.1 (TX1 13).2.2.1 ∈ GB := gb_1 63 rfl rfl
theorem wd1_66 : Cond.fieldLink RX1 61 RX1 (TX1 14).2.1 (TX1 14).2.2.1 ∈ GB := gb_1 66 rfl rfl
theorem wd1_69 : Cond.fieldLink RX1 64 RX1 (TX1 15).2.1 (TX1 15).2.2.1 ∈ GB := gb_1 69 rfl rfl
theorem wd1_72 : Cond.fieldLink RX1 67 RX1 (TX1 16).2.1 (TX1 16).2.2.1 ∈ GB := gb_1 72 rfl rfl
theorem wd1_74 : Cond.fieldLink RX1 70 RX1 (TX1 17).2.1 (TX1 17).2.2.1 ∈ GB := gb_1 74 rfl rfl
theorem wd1_122 : Cond.methodLink RX1 73 yJ7_fill_53178 ∈ GB := gb_1 122 rfl rfl
theorem wd1_123 : Cond.static yJ7_fill_53178 ∈ GB := gb_1 123 rfl rfl
theorem wd1_3 : Cond.initialized "java/util/Arrays" ∈ GB := gb_1 3 rfl rfl
theorem wd1_124 : Cond.code yJ7_fill_53178 cJ7_fill_53178 4 none ∈ GB := gb_1 124 rfl rfl
theorem yd_J7_fill_53178 : yJ7_fill_53178.cls ≠ "java/lang/invoke/MethodHandle" ∧ yJ7_fill_53178.cls ≠ "java/lang/invoke/VarHandle" ∧ (parseMethodDescriptor yJ7_fill_53178.desc).map (fun d => d.parameters.length) = some 2 := by decide +kernel
theorem wd1_118 : Cond.methodLink RX1 79 yX1_clear ∈ GB := gb_1 118 rfl rfl
theorem wd1_119 : Cond.instanceMethod yX1_clear ∈ GB := gb_1 119 rfl rfl
theorem wd1_120 : Cond.selects RX1 yX1_clear yX1_clear ∈ GB := gb_1 120 rfl rfl
theorem wd1_2 : Cond.initialized RX1 ∈ GB := gb_1 2 rfl rfl
theorem wd1_121 : Cond.code yX1_clear cX1_clear 1 none ∈ GB := gb_1 121 rfl rfl
theorem yd_X1_clear : yX1_clear.cls ≠ "java/lang/invoke/MethodHandle" ∧ yX1_clear.cls ≠ "java/lang/invoke/VarHandle" ∧ (parseMethodDescriptor yX1_clear.desc).map (fun d => d.parameters.length) = some 0 := by decide +kernel
theorem wd1_125 : Cond.methodLink RX1 84 yX2_with ∈ GB := gb_1 125 rfl rfl
theorem wd1_126 : Cond.static yX2_with ∈ GB := gb_1 126 rfl rfl
theorem wd1_127 : Cond.code yX2_with cX2_with 2 (some .int) ∈ GB := gb_1 127 rfl rfl
theorem yd_X2_with : yX2_with.cls ≠ "java/lang/invoke/MethodHandle" ∧ yX2_with.cls ≠ "java/lang/invoke/VarHandle" ∧ (parseMethodDescriptor yX2_with.desc).map (fun d => d.parameters.length) = some 2 := by decide +kernel
theorem wd1_128 : Cond.methodLink RX1 88 yX1_addNeed ∈ GB := gb_1 128 rfl rfl
theorem wd1_129 : Cond.instanceMethod yX1_addNeed ∈ GB := gb_1 129 rfl rfl
theorem wd1_130 : Cond.selects RX1 yX1_addNeed yX1_addNeed ∈ GB := gb_1 130 rfl rfl
theorem wd1_131 : Cond.code yX1_addNeed cX1_addNeed 3 none ∈ GB := gb_1 131 rfl rfl
theorem yd_X1_addNeed : yX1_addNeed.cls ≠ "java/lang/invoke/MethodHandle" ∧ yX1_addNeed.cls ≠ "java/lang/invoke/VarHandle" ∧ (parseMethodDescriptor yX1_addNeed.desc).map (fun d => d.parameters.length) = some 2 := by decide +kernel
theorem wd1_132 : Cond.methodLink RX1 92 yX1_addMonk ∈ GB := gb_1 132 rfl rfl
theorem wd1_133 : Cond.instanceMethod yX1_addMonk ∈ GB := gb_1 133 rfl rfl
theorem wd1_134 : Cond.selects RX1 yX1_addMonk yX1_addMonk ∈ GB := gb_1 134 rfl rfl
theorem wd1_135 : Cond.code yX1_addMonk cX1_addMonk 4 none ∈ GB := gb_1 135 rfl rfl
theorem yd_X1_addMonk : yX1_addMonk.cls ≠ "java/lang/invoke/MethodHandle" ∧ yX1_addMonk.cls ≠ "java/lang/invoke/VarHandle" ∧ (parseMethodDescriptor yX1_addMonk.desc).map (fun d => d.parameters.length) = some 3 := by decide +kernel
theorem wd2_166 : Cond.methodLink RX1 96 yJ6_bitCount_0f7a4 ∈ GB := gb_2 166 rfl rfl
theorem wd2_167 : Cond.static yJ6_bitCount_0f7a4 ∈ GB := gb_2 167 rfl rfl
theorem wd1_18 : Cond.initialized "java/lang/Integer" ∈ GB := gb_1 18 rfl rfl
theorem wd2_168 : Cond.code yJ6_bitCount_0f7a4 cJ6_bitCount_0f7a4 1 (some .int) ∈ GB := gb_2 168 rfl rfl
theorem yd_J6_bitCount_0f7a4 : yJ6_bitCount_0f7a4.cls ≠ "java/lang/invoke/MethodHandle" ∧ yJ6_bitCount_0f7a4.cls ≠ "java/lang/invoke/VarHandle" ∧ (parseMethodDescriptor yJ6_bitCount_0f7a4.desc).map (fun d => d.parameters.length) = some 1 := by decide +kernel
theorem wd2_157 : Cond.methodLink RX1 102 yX1_isMember ∈ GB := gb_2 157 rfl rfl
theorem wd2_126 : Cond.static yX1_isMember ∈ GB := gb_2 126 rfl rfl
theorem wd2_127 : Cond.code yX1_isMember cX1_isMember 2 (some .boolean) ∈ GB := gb_2 127 rfl rfl
theorem yd_X1_isMember : yX1_isMember.cls ≠ "java/lang/invoke/MethodHandle" ∧ yX1_isMember.cls ≠ "java/lang/invoke/VarHandle" ∧ (parseMethodDescriptor yX1_isMember.desc).map (fun d => d.parameters.length) = some 2 := by decide +kernel
theorem wd3_73 : Cond.methodLink RX1 106 yX1_isAhead ∈ GB := gb_3 73 rfl rfl
theorem wd3_75 : Cond.instanceMethod yX1_isAhead ∈ GB := gb_3 75 rfl rfl
theorem wd0_35 : Cond.selects RX1 yX1_isAhead yX1_isAhead ∈ GB := gb_0 35 rfl rfl
theorem wd3_76 : Cond.code yX1_isAhead cX1_isAhead 3 (some .boolean) ∈ GB := gb_3 76 rfl rfl
theorem yd_X1_isAhead : yX1_isAhead.cls ≠ "java/lang/invoke/MethodHandle" ∧ yX1_isAhead.cls ≠ "java/lang/invoke/VarHandle" ∧ (parseMethodDescriptor yX1_isAhead.desc).map (fun d => d.parameters.length) = some 2 := by decide +kernel
theorem wd2_199 : Cond.methodLink RX1 109 yX1_latestBell ∈ GB := gb_2 199 rfl rfl
theorem wd2_200 : Cond.instanceMethod yX1_latestBell ∈ GB := gb_2 200 rfl rfl
theorem wd2_201 : Cond.selects RX1 yX1_latestBell yX1_latestBell ∈ GB := gb_2 201 rfl rfl
theorem wd2_202 : Cond.code yX1_latestBell cX1_latestBell 4 (some .int) ∈ GB := gb_2 202 rfl rfl
theorem yd_X1_latestBell : yX1_latestBell.cls ≠ "java/lang/invoke/MethodHandle" ∧ yX1_latestBell.cls ≠ "java/lang/invoke/VarHandle" ∧ (parseMethodDescriptor yX1_latestBell.desc).map (fun d => d.parameters.length) = some 1 := by decide +kernel
theorem wd2_192 : Cond.methodLink RX1 112 yX1_pagesFor ∈ GB := gb_2 192 rfl rfl
theorem wd2_193 : Cond.static yX1_pagesFor ∈ GB := gb_2 193 rfl rfl
theorem wd2_194 : Cond.code yX1_pagesFor cX1_pagesFor 3 (some .int) ∈ GB := gb_2 194 rfl rfl
theorem yd_X1_pagesFor : yX1_pagesFor.cls ≠ "java/lang/invoke/MethodHandle" ∧ yX1_pagesFor.cls ≠ "java/lang/invoke/VarHandle" ∧ (parseMethodDescriptor yX1_pagesFor.desc).map (fun d => d.parameters.length) = some 2 := by decide +kernel
theorem wd2_233 : Cond.methodLink RX1 115 Lib.Math.min.name ∈ GB := gb_2 233 rfl rfl
theorem wd2_72 : Cond.static Lib.Math.min.name ∈ GB := gb_2 72 rfl rfl
theorem wd1_17 : Cond.initialized "java/lang/Math" ∈ GB := gb_1 17 rfl rfl
theorem wd2_73 : Cond.code Lib.Math.min.name Lib.Math.min.code 2 (some .int) ∈ GB := gb_2 73 rfl rfl
theorem wd2_211 : Cond.methodLink RX1 120 Lib.Math.max.name ∈ GB := gb_2 211 rfl rfl
theorem wd2_212 : Cond.static Lib.Math.max.name ∈ GB := gb_2 212 rfl rfl
theorem wd2_213 : Cond.code Lib.Math.max.name Lib.Math.max.code 2 (some .int) ∈ GB := gb_2 213 rfl rfl
theorem wd2_207 : Cond.methodLink RX1 123 yX1_restToTell ∈ GB := gb_2 207 rfl rfl
theorem wd2_209 : Cond.instanceMethod yX1_restToTell ∈ GB := gb_2 209 rfl rfl
theorem wd0_26 : Cond.selects RX1 yX1_restToTell yX1_restToTell ∈ GB := gb_0 26 rfl rfl
theorem wd2_210 : Cond.code yX1_restToTell cX1_restToTell 4 (some .int) ∈ GB := gb_2 210 rfl rfl
theorem yd_X1_restToTell : yX1_restToTell.cls ≠ "java/lang/invoke/MethodHandle" ∧ yX1_restToTell.cls ≠ "java/lang/invoke/VarHandle" ∧ (parseMethodDescriptor yX1_restToTell.desc).map (fun d => d.parameters.length) = some 3 := by decide +kernel
theorem wd2_214 : Cond.methodLink RX1 127 yX1_fastFor ∈ GB := gb_2 214 rfl rfl
theorem wd2_215 : Cond.static yX1_fastFor ∈ GB := gb_2 215 rfl rfl
theorem wd2_216 : Cond.code yX1_fastFor cX1_fastFor 3 (some .int) ∈ GB := gb_2 216 rfl rfl
theorem yd_X1_fastFor : yX1_fastFor.cls ≠ "java/lang/invoke/MethodHandle" ∧ yX1_fastFor.cls ≠ "java/lang/invoke/VarHandle" ∧ (parseMethodDescriptor yX1_fastFor.desc).map (fun d => d.parameters.length) = some 2 := by decide +kernel
theorem wd2_195 : Cond.methodLink RX1 133 yX1_isSpeechAt ∈ GB := gb_2 195 rfl rfl
theorem wd2_196 : Cond.instanceMethod yX1_isSpeechAt ∈ GB := gb_2 196 rfl rfl
theorem wd2_197 : Cond.selects RX1 yX1_isSpeechAt yX1_isSpeechAt ∈ GB := gb_2 197 rfl rfl
theorem wd2_198 : Cond.code yX1_isSpeechAt cX1_isSpeechAt 3 (some .boolean) ∈ GB := gb_2 198 rfl rfl
theorem yd_X1_isSpeechAt : yX1_isSpeechAt.cls ≠ "java/lang/invoke/MethodHandle" ∧ yX1_isSpeechAt.cls ≠ "java/lang/invoke/VarHandle" ∧ (parseMethodDescriptor yX1_isSpeechAt.desc).map (fun d => d.parameters.length) = some 1 := by decide +kernel
theorem wd2_203 : Cond.methodLink RX1 137 yX1_fastToTell ∈ GB := gb_2 203 rfl rfl
theorem wd2_205 : Cond.instanceMethod yX1_fastToTell ∈ GB := gb_2 205 rfl rfl
theorem wd0_25 : Cond.selects RX1 yX1_fastToTell yX1_fastToTell ∈ GB := gb_0 25 rfl rfl
theorem wd2_206 : Cond.code yX1_fastToTell cX1_fastToTell 4 (some .int) ∈ GB := gb_2 206 rfl rfl
theorem yd_X1_fastToTell : yX1_fastToTell.cls ≠ "java/lang/invoke/MethodHandle" ∧ yX1_fastToTell.cls ≠ "java/lang/invoke/VarHandle" ∧ (parseMethodDescriptor yX1_fastToTell.desc).map (fun d => d.parameters.length) = some 3 := by decide +kernel
theorem wd2_229 : Cond.methodLink RX1 140 yX1_leaveToTell ∈ GB := gb_2 229 rfl rfl
theorem wd2_231 : Cond.instanceMethod yX1_leaveToTell ∈ GB := gb_2 231 rfl rfl
theorem wd0_29 : Cond.selects RX1 yX1_leaveToTell yX1_leaveToTell ∈ GB := gb_0 29 rfl rfl
theorem wd2_232 : Cond.code yX1_leaveToTell cX1_leaveToTell 4 (some .int) ∈ GB := gb_2 232 rfl rfl
theorem yd_X1_leaveToTell : yX1_leaveToTell.cls ≠ "java/lang/invoke/MethodHandle" ∧ yX1_leaveToTell.cls ≠ "java/lang/invoke/VarHandle" ∧ (parseMethodDescriptor yX1_leaveToTell.desc).map (fun d => d.parameters.length) = some 3 := by decide +kernel
theorem wd2_188 : Cond.methodLink RX1 130 yX1_pagesToTell ∈ GB := gb_2 188 rfl rfl
theorem wd2_190 : Cond.instanceMethod yX1_pagesToTell ∈ GB := gb_2 190 rfl rfl
theorem wd0_24 : Cond.selects RX1 yX1_pagesToTell yX1_pagesToTell ∈ GB := gb_0 24 rfl rfl
theorem wd2_191 : Cond.code yX1_pagesToTell cX1_pagesToTell 3 (some .int) ∈ GB := gb_2 191 rfl rfl
theorem yd_X1_pagesToTell : yX1_pagesToTell.cls ≠ "java/lang/invoke/MethodHandle" ∧ yX1_pagesToTell.cls ≠ "java/lang/invoke/VarHandle" ∧ (parseMethodDescriptor yX1_pagesToTell.desc).map (fun d => d.parameters.length) = some 2 := by decide +kernel
theorem wd4_94 : Cond.methodLink RX1 143 yX1_tellRefusal ∈ GB := gb_4 94 rfl rfl
theorem wd2_185 : Cond.instanceMethod yX1_tellRefusal ∈ GB := gb_2 185 rfl rfl
theorem wd2_186 : Cond.selects RX1 yX1_tellRefusal yX1_tellRefusal ∈ GB := gb_2 186 rfl rfl
theorem wd2_187 : Cond.code yX1_tellRefusal cX1_tellRefusal 5 (some .int) ∈ GB := gb_2 187 rfl rfl
theorem yd_X1_tellRefusal : yX1_tellRefusal.cls ≠ "java/lang/invoke/MethodHandle" ∧ yX1_tellRefusal.cls ≠ "java/lang/invoke/VarHandle" ∧ (parseMethodDescriptor yX1_tellRefusal.desc).map (fun d => d.parameters.length) = some 4 := by decide +kernel
theorem wd2_225 : Cond.methodLink RX1 150 yX1_speak ∈ GB := gb_2 225 rfl rfl
theorem wd2_227 : Cond.instanceMethod yX1_speak ∈ GB := gb_2 227 rfl rfl
theorem wd0_28 : Cond.selects RX1 yX1_speak yX1_speak ∈ GB := gb_0 28 rfl rfl
theorem wd2_228 : Cond.code yX1_speak cX1_speak 7 (some .int) ∈ GB := gb_2 228 rfl rfl
theorem yd_X1_speak : yX1_speak.cls ≠ "java/lang/invoke/MethodHandle" ∧ yX1_speak.cls ≠ "java/lang/invoke/VarHandle" ∧ (parseMethodDescriptor yX1_speak.desc).map (fun d => d.parameters.length) = some 3 := by decide +kernel
theorem wd2_221 : Cond.methodLink RX1 147 yX1_writeSlip ∈ GB := gb_2 221 rfl rfl
theorem wd2_223 : Cond.instanceMethod yX1_writeSlip ∈ GB := gb_2 223 rfl rfl
theorem wd0_27 : Cond.selects RX1 yX1_writeSlip yX1_writeSlip ∈ GB := gb_0 27 rfl rfl
theorem wd2_224 : Cond.code yX1_writeSlip cX1_writeSlip 4 (some .int) ∈ GB := gb_2 224 rfl rfl
theorem yd_X1_writeSlip : yX1_writeSlip.cls ≠ "java/lang/invoke/MethodHandle" ∧ yX1_writeSlip.cls ≠ "java/lang/invoke/VarHandle" ∧ (parseMethodDescriptor yX1_writeSlip.desc).map (fun d => d.parameters.length) = some 2 := by decide +kernel
theorem wd2_234 : Cond.methodLink RX1 153 yX1_learnSign ∈ GB := gb_2 234 rfl rfl
theorem wd2_236 : Cond.instanceMethod yX1_learnSign ∈ GB := gb_2 236 rfl rfl
theorem wd0_30 : Cond.selects RX1 yX1_learnSign yX1_learnSign ∈ GB := gb_0 30 rfl rfl
theorem wd2_237 : Cond.code yX1_learnSign cX1_learnSign 4 none ∈ GB := gb_2 237 rfl rfl
theorem yd_X1_learnSign : yX1_learnSign.cls ≠ "java/lang/invoke/MethodHandle" ∧ yX1_learnSign.cls ≠ "java/lang/invoke/VarHandle" ∧ (parseMethodDescriptor yX1_learnSign.desc).map (fun d => d.parameters.length) = some 3 := by decide +kernel
theorem wd2_238 : Cond.methodLink RX1 156 yX1_meetWant ∈ GB := gb_2 238 rfl rfl
theorem wd3_0 : Cond.instanceMethod yX1_meetWant ∈ GB := gb_3 0 rfl rfl
theorem wd0_31 : Cond.selects RX1 yX1_meetWant yX1_meetWant ∈ GB := gb_0 31 rfl rfl
theorem wd3_1 : Cond.code yX1_meetWant cX1_meetWant 4 none ∈ GB := gb_3 1 rfl rfl
theorem yd_X1_meetWant : yX1_meetWant.cls ≠ "java/lang/invoke/MethodHandle" ∧ yX1_meetWant.cls ≠ "java/lang/invoke/VarHandle" ∧ (parseMethodDescriptor yX1_meetWant.desc).map (fun d => d.parameters.length) = some 3 := by decide +kernel
theorem wd3_28 : Cond.methodLink RX1 159 yX1_endDay ∈ GB := gb_3 28 rfl rfl
theorem wd3_30 : Cond.instanceMethod yX1_endDay ∈ GB := gb_3 30 rfl rfl
theorem wd0_34 : Cond.selects RX1 yX1_endDay yX1_endDay ∈ GB := gb_0 34 rfl rfl
theorem wd3_31 : Cond.code yX1_endDay cX1_endDay 2 none ∈ GB := gb_3 31 rfl rfl
theorem yd_X1_endDay : yX1_endDay.cls ≠ "java/lang/invoke/MethodHandle" ∧ yX1_endDay.cls ≠ "java/lang/invoke/VarHandle" ∧ (parseMethodDescriptor yX1_endDay.desc).map (fun d => d.parameters.length) = some 0 := by decide +kernel
noncomputable def f_X2_with (p1 p2 : Int32) (M : Mem) : Option Int32 := (some ((ishl p1 5) ||| (p2 - 96)))
set_option maxHeartbeats 4000000 in
set_option maxRecDepth 100000 in
theorem b_X2_with {p : Program} {l : Launch} {e : Env} {R : Room} {s : State} {m : MethodId} {args : Array Value} {below : List Frame} {meth : Method} {c : Code} {Q : State → Prop} {D : va_G} {cy : Nat → ClassId} {ad : Nat → Nat} {x : SX} (fx : FX p s m args meth c cX2_with 2 (some .int) RX2 D cy ad x) (hR : 0 ≤ R.frames ∧ 0 ≤ R.locals ∧ 0 ≤ R.cells ∧ 0 ≤ R.slots) (p1 p2 : Int32) (M : Mem) (z : Int32) (hF : f_X2_with p1 p2 M = some z) (E : ∀ (pc : Nat) (ls : Array Slot) (H : Heap) (locs : List Loc) (v : Int32), decode cX2_with pc = .ok (.ireturn, 1) → WD D cy ad s M H locs → some v = some z → W p l e R s m args below meth c H locs 0 0 Q (F0 m pc ls [.int v])) (H : Heap) (locs : List Loc) (ls : Array Slot) (hl : lv_has ls 2 [(0, .int p1), (1, .int p2)]) (hw : WD D cy ad s M H locs) : W p l e R s m args below meth c H locs 0 0 Q (F0 m 0 ls []) := by
  have hx := fx.1.1
  have hb := fx.1.2.1
  have hown := fx.1.2.2.2.1
  have hts := fx.1.2.2.2.2
  unfold f_X2_with at hF
  refine lv_iload_n hx hb dX2_with_0 rfl (lv_at hl 0 rfl) ?_
  refine lv_iconst (v := 5) hx hb dX2_with_1 (by decide) ?_
  refine g_ishl hx hb dX2_with_2 ?_
  refine lv_iload_n hx hb dX2_with_3 rfl (lv_at hl 1 rfl) ?_
  refine lv_bipush (v := 96) hx hb dX2_with_4 (by decide) ?_
  refine lv_isub hx hb dX2_with_6 ?_
  refine lv_ior hx hb dX2_with_7 ?_
  exact E _ _ _ _ _ dX2_with_8 hw hF
theorem c_X2_with (l : Launch) (x : SX) (D : va_G) (cy : Nat → ClassId) (ad : Nat → Nat) (p1 p2 : Int32) (sz : Nat) (M : Mem) (z : Int32) (hF : f_X2_with p1 p2 M = some z) : Met l yX2_with (.code yX2_with cX2_with 2 (some .int) :: GB) ({ frames := 0, cells := 0, slots := 0, locals := 0 } : Room) (PcW D cy ad x sz M [.int p1, .int p2]) (QiW D cy ad sz z M) 0 0 (AA ad sz) := by
  refine mk_m (own := RX2) (by decide) rfl (Nat.le_of_ble_eq_true rfl) ?_
  intro p e s m args below meth c ls fx hw hl hsz
  subst hsz
  exact b_X2_with fx ⟨Nat.le_refl _, Nat.le_refl _, Nat.le_refl _, Nat.le_refl _⟩ p1 p2 M z hF (fun pc ls H locs v hd hw h => by cases h; exact g_iret fx hw rfl hd) _ _ ls hl hw
noncomputable def f_X2_letterAt (p1 p2 : Int32) (M : Mem) : Option Int32 := (if ((ishr p1 (5 * (5 - p2))) &&& 31) = 0 then (some 0) else (some (((ishr p1 (5 * (5 - p2))) &&& 31) + 96)))
set_option maxHeartbeats 4000000 in
set_option maxRecDepth 100000 in
theorem b_X2_letterAt {p : Program} {l : Launch} {e : Env} {R : Room} {s : State} {m : MethodId} {args : Array Value} {below : List Frame} {meth : Method} {c : Code} {Q : State → Prop} {D : va_G} {cy : Nat → ClassId} {ad : Nat → Nat} {x : SX} (fx : FX p s m args meth c cX2_letterAt 3 (some .int) RX2 D cy ad x) (hR : 0 ≤ R.frames ∧ 0 ≤ R.locals ∧ 0 ≤ R.cells ∧ 0 ≤ R.slots) (p1 p2 : Int32) (M : Mem) (z : Int32) (hF : f_X2_letterAt p1 p2 M = some z) (E : ∀ (pc : Nat) (ls : Array Slot) (H : Heap) (locs : List Loc) (v : Int32), decode cX2_letterAt pc = .ok (.ireturn, 1) → WD D cy ad s M H locs → some v = some z → W p l e R s m args below meth c H locs 0 0 Q (F0 m pc ls [.int v])) (H : Heap) (locs : List Loc) (ls : Array Slot) (hl : lv_has ls 3 [(0, .int p1), (1, .int p2)]) (hw : WD D cy ad s M H locs) : W p l e R s m args below meth c H locs 0 0 Q (F0 m 0 ls []) := by
  have hx := fx.1.1
  have hb := fx.1.2.1
  have hown := fx.1.2.2.2.1
  have hts := fx.1.2.2.2.2
  unfold f_X2_letterAt at hF
  refine lv_iload_n hx hb dX2_letterAt_0 rfl (lv_at hl 0 rfl) ?_
  refine lv_iconst (v := 5) hx hb dX2_letterAt_1 (by decide) ?_
  refine lv_iconst (v := 5) hx hb dX2_letterAt_2 (by decide) ?_
  refine lv_iload_n hx hb dX2_letterAt_3 rfl (lv_at hl 1 rfl) ?_
  refine lv_isub hx hb dX2_letterAt_4 ?_
  refine lv_imul hx hb dX2_letterAt_5 ?_
  refine g_ishr hx hb dX2_letterAt_6 ?_
  refine lv_bipush (v := 31) hx hb dX2_letterAt_7 (by decide) ?_
  refine lv_iand hx hb dX2_letterAt_9 ?_
  refine lv_istore_n (lv' := [(2, .int ((ishr p1 (5 * (5 - p2))) &&& 31)), (0, .int p1), (1, .int p2)]) hx hb dX2_letterAt_10 rfl hl (by decide) rfl (fun ls hl => ?_)
  refine lv_iload_n hx hb dX2_letterAt_11 rfl (lv_at hl 0 rfl) ?_
  refine lv_if_ne (tgt := 19) hx hb dX2_letterAt_12 (by decide) (fun hc12 => ?_) (fun hc12 => ?_)
  · replace hF := st_f hc12 hF
    refine lv_iload_n hx hb dX2_letterAt_19 rfl (lv_at hl 0 rfl) ?_
    refine lv_bipush (v := 96) hx hb dX2_letterAt_20 (by decide) ?_
    refine lv_iadd hx hb dX2_letterAt_22 ?_
    exact E _ _ _ _ _ dX2_letterAt_23 hw hF
  · replace hF := st_t hc12 hF
    refine lv_iconst (v := 0) hx hb dX2_letterAt_15 (by decide) ?_
    refine lv_goto (tgt := 23) hx hb dX2_letterAt_16 (by decide) ?_
    exact E _ _ _ _ _ dX2_letterAt_23 hw hF
theorem c_X2_letterAt (l : Launch) (x : SX) (D : va_G) (cy : Nat → ClassId) (ad : Nat → Nat) (p1 p2 : Int32) (sz : Nat) (M : Mem) (z : Int32) (hF : f_X2_letterAt p1 p2 M = some z) : Met l yX2_letterAt (.code yX2_letterAt cX2_letterAt 3 (some .int) :: GB) ({ frames := 0, cells := 0, slots := 0, locals := 0 } : Room) (PcW D cy ad x sz M [.int p1, .int p2]) (QiW D cy ad sz z M) 0 0 (AA ad sz) := by
  refine mk_m (own := RX2) (by decide) rfl (Nat.le_of_ble_eq_true rfl) ?_
  intro p e s m args below meth c ls fx hw hl hsz
  subst hsz
  exact b_X2_letterAt fx ⟨Nat.le_refl _, Nat.le_refl _, Nat.le_refl _, Nat.le_refl _⟩ p1 p2 M z hF (fun pc ls H locs v hd hw h => by cases h; exact g_iret fx hw rfl hd) _ _ ls hl hw
noncomputable def f_X2_lettersIn_21 (M : Mem) (rec4 : Int32 → Int32 → Int32 → Option Int32) : Int32 → Int32 → Int32 → Option Int32 := fun a0 a1 a2 => (rec4 a0 a1 (a2 + 1))
noncomputable def f_X2_lettersIn_4 (M : Mem) (rec4 : Int32 → Int32 → Int32 → Option Int32) : Int32 → Int32 → Int32 → Option Int32 := fun a0 a1 a2 => (if 6 ≤ a2 then (some a1) else (bnd (f_X2_letterAt a0 a2 M) (fun r3 => (if r3 = 0 then ((f_X2_lettersIn_21 M rec4) a0 a1 a2) else ((f_X2_lettersIn_21 M rec4) a0 (a1 + 1) a2)))))
noncomputable def f_X2_lettersIn (p1 : Int32) (M : Mem) : Option Int32 := ((lp (fun _ _ _ => none) (f_X2_lettersIn_4 M) FU) p1 0 0)
set_option maxHeartbeats 4000000 in
set_option maxRecDepth 100000 in
theorem b_X2_lettersIn {p : Program} {l : Launch} {e : Env} {R : Room} {s : State} {m : MethodId} {args : Array Value} {below : List Frame} {meth : Method} {c : Code} {Q : State → Prop} {D : va_G} {cy : Nat → ClassId} {ad : Nat → Nat} {x : SX} (fx : FX p s m args meth c cX2_lettersIn 3 (some .int) RX2 D cy ad x) (hR : 1 ≤ R.frames ∧ 22 ≤ R.locals ∧ 0 ≤ R.cells ∧ 0 ≤ R.slots) (p1 : Int32) (M : Mem) (z : Int32) (hF : f_X2_lettersIn p1 M = some z) (E : ∀ (pc : Nat) (ls : Array Slot) (H : Heap) (locs : List Loc) (v : Int32), decode cX2_lettersIn pc = .ok (.ireturn, 1) → WD D cy ad s M H locs → some v = some z → W p l e R s m args below meth c H locs 0 0 Q (F0 m pc ls [.int v])) (H : Heap) (locs : List Loc) (ls : Array Slot) (hl : lv_has ls 3 [(0, .int p1)]) (hw : WD D cy ad s M H locs) : W p l e R s m args below meth c H locs 0 0 Q (F0 m 0 ls []) := by
  have hx := fx.1.1
  have hb := fx.1.2.1
  have hown := fx.1.2.2.2.1
  have hts := fx.1.2.2.2.2
  have n_21 : ∀ (rec4 : Int32 → Int32 → Int32 → Option Int32) (_ : ∀ (a0 : Int32) (a1 : Int32) (a2 : Int32) (H : Heap) (locs : List Loc) (ls : Array Slot), lv_has ls 3 [(0, .int a0), (1, .int a1), (2, .int a2)] → WD D cy ad s M H locs → rec4 a0 a1 a2 = some z → W p l e R s m args below meth c H locs 0 0 Q (F0 m 4 ls [])) , ∀ (a0 : Int32) (a1 : Int32) (a2 : Int32) (H : Heap) (locs : List Loc) (ls : Array Slot), lv_has ls 3 [(0, .int a0), (1, .int a1), (2, .int a2)] → WD D cy ad s M H locs → f_X2_lettersIn_21 M rec4 a0 a1 a2 = some z → W p l e R s m args below meth c H locs 0 0 Q (F0 m 21 ls []) := by
    intro rec4 hr4 a0 a1 a2 H locs ls hl hw hF
    unfold f_X2_lettersIn_21 at hF
    refine lv_iinc (v := (a2 + 1)) (lv' := [(2, .int (a2 + 1)), (0, .int a0), (1, .int a1)]) hx hb dX2_lettersIn_21 hl (k := 2) rfl rfl (by decide) rfl (fun ls hl => ?_)
    refine lv_goto (tgt := 4) hx hb dX2_lettersIn_24 (by decide) ?_
    exact hr4 a0 a1 (a2 + 1) H locs ls (lv_sub hl [1, 2, 0] rfl) hw hF
  have n_4 : ∀ (n9 : Nat), ∀ (a0 : Int32) (a1 : Int32) (a2 : Int32) (H : Heap) (locs : List Loc) (ls : Array Slot), lv_has ls 3 [(0, .int a0), (1, .int a1), (2, .int a2)] → WD D cy ad s M H locs → (lp (fun _ _ _ => none) (f_X2_lettersIn_4 M) n9) a0 a1 a2 = some z → W p l e R s m args below meth c H locs 0 0 Q (F0 m 4 ls []) := by
    intro n9
    refine lp_ind (fun (rec4 : Int32 → Int32 → Int32 → Option Int32) => ∀ (a0 : Int32) (a1 : Int32) (a2 : Int32) (H : Heap) (locs : List Loc) (ls : Array Slot), lv_has ls 3 [(0, .int a0), (1, .int a1), (2, .int a2)] → WD D cy ad s M H locs → rec4 a0 a1 a2 = some z → W p l e R s m args below meth c H locs 0 0 Q (F0 m 4 ls [])) ?_ ?_ n9
    · intro a0 a1 a2 H locs ls hl hw hF
      exact nomatch hF
    · intro rec4 hr4 a0 a1 a2 H locs ls hl hw hF
      unfold f_X2_lettersIn_4 at hF
      refine lv_iload_n hx hb dX2_lettersIn_4 rfl (lv_at hl 2 rfl) ?_
      refine lv_bipush (v := 6) hx hb dX2_lettersIn_5 (by decide) ?_
      refine lv_icmp_ge (tgt := 27) hx hb dX2_lettersIn_7 (by decide) (fun hc7 => ?_) (fun hc7 => ?_)
      · replace hF := st_t hc7 hF
        refine lv_iload_n hx hb dX2_lettersIn_27 rfl (lv_at hl 1 rfl) ?_
        exact E _ _ _ _ _ dX2_lettersIn_28 hw hF
      · replace hF := st_f hc7 hF
        refine lv_iload_n hx hb dX2_lettersIn_10 rfl (lv_at hl 0 rfl) ?_
        refine lv_iload_n hx hb dX2_lettersIn_11 rfl (lv_at hl 2 rfl) ?_
        obtain ⟨r3, hgr3, hF⟩ := st_bnd hF
        refine g_ci hw (g_runS (As := [.int a0, .int a2]) (rest := []) fx hw (c_X2_letterAt l x D cy ad a0 a2 H.size M r3 hgr3) wd4_29 wd4_30 wd1_4 wd4_31 yd_X2_letterAt rfl rfl (Nat.le_of_ble_eq_true rfl) hl.1 ⟨Nat.le_trans (Nat.le_of_ble_eq_true rfl) hR.1, Nat.le_trans (Nat.le_of_ble_eq_true rfl) hR.2.1⟩ ⟨Nat.le_trans (Nat.le_of_ble_eq_true rfl) hR.2.2.1, Nat.le_trans (Nat.le_of_ble_eq_true rfl) hR.2.2.2⟩ dX2_lettersIn_12) (fun H locs hw => ?_)
        refine lv_if_eq (tgt := 21) hx hb dX2_lettersIn_15 (by decide) (fun hc15 => ?_) (fun hc15 => ?_)
        · replace hF := st_t hc15 hF
          exact n_21 rec4 hr4 a0 a1 a2 H locs ls (lv_sub hl [0, 1, 2] rfl) hw hF
        · replace hF := st_f hc15 hF
          refine lv_iinc (v := (a1 + 1)) (lv' := [(1, .int (a1 + 1)), (0, .int a0), (2, .int a2)]) hx hb dX2_lettersIn_18 hl (k := 1) rfl rfl (by decide) rfl (fun ls hl => ?_)
          exact n_21 rec4 hr4 a0 (a1 + 1) a2 H locs ls (lv_sub hl [1, 0, 2] rfl) hw hF
  unfold f_X2_lettersIn at hF
  refine lv_iconst (v := 0) hx hb dX2_lettersIn_0 (by decide) ?_
  refine lv_istore_n (lv' := [(1, .int 0), (0, .int p1)]) hx hb dX2_lettersIn_1 rfl hl (by decide) rfl (fun ls hl => ?_)
  refine lv_iconst (v := 0) hx hb dX2_lettersIn_2 (by decide) ?_
  refine lv_istore_n (lv' := [(2, .int 0), (1, .int 0), (0, .int p1)]) hx hb dX2_lettersIn_3 rfl hl (by decide) rfl (fun ls hl => ?_)
  exact n_4 FU p1 0 0 H locs ls (lv_sub hl [2, 1, 0] rfl) hw hF
theorem c_X2_lettersIn (l : Launch) (x : SX) (D : va_G) (cy : Nat → ClassId) (ad : Nat → Nat) (p1 : Int32) (sz : Nat) (M : Mem) (z : Int32) (hF : f_X2_lettersIn p1 M = some z) : Met l yX2_lettersIn (.code yX2_lettersIn cX2_lettersIn 3 (some .int) :: GB) ({ frames := 1, cells := 0, slots := 0, locals := 22 } : Room) (PcW D cy ad x sz M [.int p1]) (QiW D cy ad sz z M) 0 0 (AA ad sz) := by
  refine mk_m (own := RX2) (by decide) rfl (Nat.le_of_ble_eq_true rfl) ?_
  intro p e s m args below meth c ls fx hw hl hsz
  subst hsz
  exact b_X2_lettersIn fx ⟨Nat.le_refl _, Nat.le_refl _, Nat.le_refl _, Nat.le_refl _⟩ p1 M z hF (fun pc ls H locs v hd hw h => by cases h; exact g_iret fx hw rfl hd) _ _ ls hl hw
noncomputable def f_X1_copyFrom (o q1 : Nat) (M : Mem) : Option Mem := (letM (mcpy M (o + 1) (q1 + 1) (ix 0) (ix 0) (ix 12)) (fun M19 => (letM (mcpy M19 (o + 2) (q1 + 2) (ix 0) (ix 0) (ix 12)) (fun M20 => (letM (mcpy M20 (o + 3) (q1 + 3) (ix 0) (ix 0) (ix 12)) (fun M21 => (letM (mcpy M21 (o + 4) (q1 + 4) (ix 0) (ix 0) (ix 12)) (fun M22 => (letM (mcpy M22 (o + 5) (q1 + 5) (ix 0) (ix 0) (ix 12)) (fun M23 => (letM (mcpy M23 (o + 6) (q1 + 6) (ix 0) (ix 0) (ix 12)) (fun M24 => (letM (mcpy M24 (o + 7) (q1 + 7) (ix 0) (ix 0) (ix 12)) (fun M25 => (letM (mcpy M25 (o + 8) (q1 + 8) (ix 0) (ix 0) (ix 12)) (fun M26 => (letM (mcpy M26 (o + 9) (q1 + 9) (ix 0) (ix 0) (ix 8)) (fun M27 => (letM (mcpy M27 (o + 10) (q1 + 10) (ix 0) (ix 0) (ix 8)) (fun M28 => (letM (mcpy M28 (o + 11) (q1 + 11) (ix 0) (ix 0) (ix 24)) (fun M29 => (letM (mcpy M29 (o + 12) (q1 + 12) (ix 0) (ix 0) (ix 14)) (fun M30 => (letM (mput M30 o 12 (M30 q1 12)) (fun M31 => (letM (mput M31 o 13 (M31 q1 13)) (fun M32 => (letM (mput M32 o 14 (M32 q1 14)) (fun M33 => (letM (mput M33 o 15 (M33 q1 15)) (fun M34 => (letM (mput M34 o 16 (M34 q1 16)) (fun M35 => (letM (mput M35 o 17 (M35 q1 17)) (fun M36 => (some M36)))))))))))))))))))))))))))))))))))))
set_option maxHeartbeats 4000000 in
set_option maxRecDepth 100000 in
theorem b_X1_copyFrom {p : Program} {l : Launch} {e : Env} {R : Room} {s : State} {m : MethodId} {args : Array Value} {below : List Frame} {meth : Method} {c : Code} {Q : State → Prop} {D : va_G} {cy : Nat → ClassId} {ad : Nat → Nat} {x : SX} (fx : FX p s m args meth c cX1_copyFrom 2 none RX1 D cy ad x) (hR : 1 ≤ R.frames ∧ 60 ≤ R.locals ∧ 0 ≤ R.cells ∧ 0 ≤ R.slots) (o q1 : Nat) (ho : isH o) (hq1 : isH q1) (M : Mem) (M' : Mem) (hF : f_X1_copyFrom o q1 M = some M') (E : ∀ (pc : Nat) (ls : Array Slot) (H : Heap) (locs : List Loc) (M1 : Mem), decode cX1_copyFrom pc = .ok (.return_, 1) → WD D cy ad s M1 H locs → some M1 = some M' → W p l e R s m args below meth c H locs 0 0 Q (F0 m pc ls [])) (H : Heap) (locs : List Loc) (ls : Array Slot) (hl : lv_has ls 2 [(0, .ref (ad o)), (1, .ref (ad q1))]) (hw : WD D cy ad s M H locs) : W p l e R s m args below meth c H locs 0 0 Q (F0 m 0 ls []) := by
  have hx := fx.1.1
  have hb := fx.1.2.1
  have hown := fx.1.2.2.2.1
  have hts := fx.1.2.2.2.2
  unfold f_X1_copyFrom at hF
  refine lv_aload_n hx hb dX1_copyFrom_0 rfl (lv_at hl 1 rfl) ?_
  refine gX1_get fx hw hq1.O 0 (by decide) wd1_36 rfl dX1_copyFrom_1 ?_
  refine lv_iconst (v := 0) hx hb dX1_copyFrom_4 (by decide) ?_
  refine lv_aload_n hx hb dX1_copyFrom_5 rfl (lv_at hl 0 rfl) ?_
  refine gX1_get fx hw ho.O 0 (by decide) wd1_36 rfl dX1_copyFrom_6 ?_
  refine lv_iconst (v := 0) hx hb dX1_copyFrom_9 (by decide) ?_
  refine lv_bipush (v := 12) hx hb dX1_copyFrom_10 (by decide) ?_
  obtain ⟨M19, eM19, hF⟩ := st_letM hF
  refine g_copy fx hw hq1.a1 ho.a1 wd3_40 wd3_42 wd3_41 wd1_19 (by decide) (by decide) (by decide) (by decide) (by decide) eM19 hl.1 (Nat.le_trans (Nat.le_of_ble_eq_true rfl) hR.1) (Nat.le_trans (by decide) hR.2.1) dX1_copyFrom_12 (fun H locs hw => ?_)
  refine lv_aload_n hx hb dX1_copyFrom_15 rfl (lv_at hl 1 rfl) ?_
  refine gX1_get fx hw hq1.O 1 (by decide) wd1_38 rfl dX1_copyFrom_16 ?_
  refine lv_iconst (v := 0) hx hb dX1_copyFrom_19 (by decide) ?_
  refine lv_aload_n hx hb dX1_copyFrom_20 rfl (lv_at hl 0 rfl) ?_
  refine gX1_get fx hw ho.O 1 (by decide) wd1_38 rfl dX1_copyFrom_21 ?_
  refine lv_iconst (v := 0) hx hb dX1_copyFrom_24 (by decide) ?_
  refine lv_bipush (v := 12) hx hb dX1_copyFrom_25 (by decide) ?_
  obtain ⟨M20, eM20, hF⟩ := st_letM hF
  refine g_copy fx hw hq1.a2 ho.a2 wd3_40 wd3_42 wd3_41 wd1_19 (by decide) (by decide) (by decide) (by decide) (by decide) eM20 hl.1 (Nat.le_trans (Nat.le_of_ble_eq_true rfl) hR.1) (Nat.le_trans (by decide) hR.2.1) dX1_copyFrom_27 (fun H locs hw => ?_)
  refine lv_aload_n hx hb dX1_copyFrom_30 rfl (lv_at hl 1 rfl) ?_
  refine gX1_get fx hw hq1.O 2 (by decide) wd1_40 rfl dX1_copyFrom_31 ?_
  refine lv_iconst (v := 0) hx hb dX1_copyFrom_34 (by decide) ?_
  refine lv_aload_n hx hb dX1_copyFrom_35 rfl (lv_at hl 0 rfl) ?_
  refine gX1_get fx hw ho.O 2 (by decide) wd1_40 rfl dX1_copyFrom_36 ?_
  refine lv_iconst (v := 0) hx hb dX1_copyFrom_39 (by decide) ?_
  refine lv_bipush (v := 12) hx hb dX1_copyFrom_40 (by decide) ?_
  obtain ⟨M21, eM21, hF⟩ := st_letM hF
  refine g_copy fx hw hq1.a3 ho.a3 wd3_40 wd3_42 wd3_41 wd1_19 (by decide) (by decide) (by decide) (by decide) (by decide) eM21 hl.1 (Nat.le_trans (Nat.le_of_ble_eq_true rfl) hR.1) (Nat.le_trans (by decide) hR.2.1) dX1_copyFrom_42 (fun H locs hw => ?_)
  refine lv_aload_n hx hb dX1_copyFrom_45 rfl (lv_at hl 1 rfl) ?_
  refine gX1_get fx hw hq1.O 3 (by decide) wd1_42 rfl dX1_copyFrom_46 ?_
  refine lv_iconst (v := 0) hx hb dX1_copyFrom_49 (by decide) ?_
  refine lv_aload_n hx hb dX1_copyFrom_50 rfl (lv_at hl 0 rfl) ?_
  refine gX1_get fx hw ho.O 3 (by decide) wd1_42 rfl dX1_copyFrom_51 ?_
  refine lv_iconst (v := 0) hx hb dX1_copyFrom_54 (by decide) ?_
  refine lv_bipush (v := 12) hx hb dX1_copyFrom_55 (by decide) ?_
  obtain ⟨M22, eM22, hF⟩ := st_letM hF
  refine g_copy fx hw hq1.a4 ho.a4 wd3_40 wd3_42 wd3_41 wd1_19 (by decide) (by decide) (by decide) (by decide) (by decide) eM22 hl.1 (Nat.le_trans (Nat.le_of_ble_eq_true rfl) hR.1) (Nat.le_trans (by decide) hR.2.1) dX1_copyFrom_57 (fun H locs hw => ?_)
  refine lv_aload_n hx hb dX1_copyFrom_60 rfl (lv_at hl 1 rfl) ?_
  refine gX1_get fx hw hq1.O 4 (by decide) wd1_44 rfl dX1_copyFrom_61 ?_
  refine lv_iconst (v := 0) hx hb dX1_copyFrom_64 (by decide) ?_
  refine lv_aload_n hx hb dX1_copyFrom_65 rfl (lv_at hl 0 rfl) ?_
  refine gX1_get fx hw ho.O 4 (by decide) wd1_44 rfl dX1_copyFrom_66 ?_
  refine lv_iconst (v := 0) hx hb dX1_copyFrom_69 (by decide) ?_
  refine lv_bipush (v := 12) hx hb dX1_copyFrom_70 (by decide) ?_
  obtain ⟨M23, eM23, hF⟩ := st_letM hF
  refine g_copy fx hw hq1.a5 ho.a5 wd3_40 wd3_42 wd3_41 wd1_19 (by decide) (by decide) (by decide) (by decide) (by decide) eM23 hl.1 (Nat.le_trans (Nat.le_of_ble_eq_true rfl) hR.1) (Nat.le_trans (by decide) hR.2.1) dX1_copyFrom_72 (fun H locs hw => ?_)
  refine lv_aload_n hx hb dX1_copyFrom_75 rfl (lv_at hl 1 rfl) ?_
  refine gX1_get fx hw hq1.O 5 (by decide) wd1_46 rfl dX1_copyFrom_76 ?_
  refine lv_iconst (v := 0) hx hb dX1_copyFrom_79 (by decide) ?_
  refine lv_aload_n hx hb dX1_copyFrom_80 rfl (lv_at hl 0 rfl) ?_
  refine gX1_get fx hw ho.O 5 (by decide) wd1_46 rfl dX1_copyFrom_81 ?_
  refine lv_iconst (v := 0) hx hb dX1_copyFrom_84 (by decide) ?_
  refine lv_bipush (v := 12) hx hb dX1_copyFrom_85 (by decide) ?_
  obtain ⟨M24, eM24, hF⟩ := st_letM hF
  refine g_copy fx hw hq1.a6 ho.a6 wd3_40 wd3_42 wd3_41 wd1_19 (by decide) (by decide) (by decide) (by decide) (by decide) eM24 hl.1 (Nat.le_trans (Nat.le_of_ble_eq_true rfl) hR.1) (Nat.le_trans (by decide) hR.2.1) dX1_copyFrom_87 (fun H locs hw => ?_)
  refine lv_aload_n hx hb dX1_copyFrom_90 rfl (lv_at hl 1 rfl) ?_
  refine gX1_get fx hw hq1.O 6 (by decide) wd1_48 rfl dX1_copyFrom_91 ?_
  refine lv_iconst (v := 0) hx hb dX1_copyFrom_94 (by decide) ?_
  refine lv_aload_n hx hb dX1_copyFrom_95 rfl (lv_at hl 0 rfl) ?_
  refine gX1_get fx hw ho.O 6 (by decide) wd1_48 rfl dX1_copyFrom_96 ?_
  refine lv_iconst (v := 0) hx hb dX1_copyFrom_99 (by decide) ?_
  refine lv_bipush (v := 12) hx hb dX1_copyFrom_100 (by decide) ?_
  obtain ⟨M25, eM25, hF⟩ := st_letM hF
  refine g_copy fx hw hq1.a7 ho.a7 wd3_40 wd3_42 wd3_41 wd1_19 (by decide) (by decide) (by decide) (by decide) (by decide) eM25 hl.1 (Nat.le_trans (Nat.le_of_ble_eq_true rfl) hR.1) (Nat.le_trans (by decide) hR.2.1) dX1_copyFrom_102 (fun H locs hw => ?_)
  refine lv_aload_n hx hb dX1_copyFrom_105 rfl (lv_at hl 1 rfl) ?_
  refine gX1_get fx hw hq1.O 7 (by decide) wd1_50 rfl dX1_copyFrom_106 ?_
  refine lv_iconst (v := 0) hx hb dX1_copyFrom_109 (by decide) ?_
  refine lv_aload_n hx hb dX1_copyFrom_110 rfl (lv_at hl 0 rfl) ?_
  refine gX1_get fx hw ho.O 7 (by decide) wd1_50 rfl dX1_copyFrom_111 ?_
  refine lv_iconst (v := 0) hx hb dX1_copyFrom_114 (by decide) ?_
  refine lv_bipush (v := 12) hx hb dX1_copyFrom_115 (by decide) ?_
  obtain ⟨M26, eM26, hF⟩ := st_letM hF
  refine g_copy fx hw hq1.a8 ho.a8 wd3_40 wd3_42 wd3_41 wd1_19 (by decide) (by decide) (by decide) (by decide) (by decide) eM26 hl.1 (Nat.le_trans (Nat.le_of_ble_eq_true rfl) hR.1) (Nat.le_trans (by decide) hR.2.1) dX1_copyFrom_117 (fun H locs hw => ?_)
  refine lv_aload_n hx hb dX1_copyFrom_120 rfl (lv_at hl 1 rfl) ?_
  refine gX1_get fx hw hq1.O 8 (by decide) wd1_52 rfl dX1_copyFrom_121 ?_
  refine lv_iconst (v := 0) hx hb dX1_copyFrom_124 (by decide) ?_
  refine lv_aload_n hx hb dX1_copyFrom_125 rfl (lv_at hl 0 rfl) ?_
  refine gX1_get fx hw ho.O 8 (by decide) wd1_52 rfl dX1_copyFrom_126 ?_
  refine lv_iconst (v := 0) hx hb dX1_copyFrom_129 (by decide) ?_
  refine lv_bipush (v := 8) hx hb dX1_copyFrom_130 (by decide) ?_
  obtain ⟨M27, eM27, hF⟩ := st_letM hF
  refine g_copy fx hw hq1.a9 ho.a9 wd3_40 wd3_42 wd3_41 wd1_19 (by decide) (by decide) (by decide) (by decide) (by decide) eM27 hl.1 (Nat.le_trans (Nat.le_of_ble_eq_true rfl) hR.1) (Nat.le_trans (by decide) hR.2.1) dX1_copyFrom_132 (fun H locs hw => ?_)
  refine lv_aload_n hx hb dX1_copyFrom_135 rfl (lv_at hl 1 rfl) ?_
  refine gX1_get fx hw hq1.O 9 (by decide) wd1_54 rfl dX1_copyFrom_136 ?_
  refine lv_iconst (v := 0) hx hb dX1_copyFrom_139 (by decide) ?_
  refine lv_aload_n hx hb dX1_copyFrom_140 rfl (lv_at hl 0 rfl) ?_
  refine gX1_get fx hw ho.O 9 (by decide) wd1_54 rfl dX1_copyFrom_141 ?_
  refine lv_iconst (v := 0) hx hb dX1_copyFrom_144 (by decide) ?_
  refine lv_bipush (v := 8) hx hb dX1_copyFrom_145 (by decide) ?_
  obtain ⟨M28, eM28, hF⟩ := st_letM hF
  refine g_copy fx hw hq1.a10 ho.a10 wd3_40 wd3_42 wd3_41 wd1_19 (by decide) (by decide) (by decide) (by decide) (by decide) eM28 hl.1 (Nat.le_trans (Nat.le_of_ble_eq_true rfl) hR.1) (Nat.le_trans (by decide) hR.2.1) dX1_copyFrom_147 (fun H locs hw => ?_)
  refine lv_aload_n hx hb dX1_copyFrom_150 rfl (lv_at hl 1 rfl) ?_
  refine gX1_get fx hw hq1.O 10 (by decide) wd1_56 rfl dX1_copyFrom_151 ?_
  refine lv_iconst (v := 0) hx hb dX1_copyFrom_154 (by decide) ?_
  refine lv_aload_n hx hb dX1_copyFrom_155 rfl (lv_at hl 0 rfl) ?_
  refine gX1_get fx hw ho.O 10 (by decide) wd1_56 rfl dX1_copyFrom_156 ?_
  refine lv_iconst (v := 0) hx hb dX1_copyFrom_159 (by decide) ?_
  refine lv_bipush (v := 24) hx hb dX1_copyFrom_160 (by decide) ?_
  obtain ⟨M29, eM29, hF⟩ := st_letM hF
  refine g_copy fx hw hq1.a11 ho.a11 wd3_40 wd3_42 wd3_41 wd1_19 (by decide) (by decide) (by decide) (by decide) (by decide) eM29 hl.1 (Nat.le_trans (Nat.le_of_ble_eq_true rfl) hR.1) (Nat.le_trans (by decide) hR.2.1) dX1_copyFrom_162 (fun H locs hw => ?_)
  refine lv_aload_n hx hb dX1_copyFrom_165 rfl (lv_at hl 1 rfl) ?_
  refine gX1_get fx hw hq1.O 11 (by decide) wd1_59 rfl dX1_copyFrom_166 ?_
  refine lv_iconst (v := 0) hx hb dX1_copyFrom_169 (by decide) ?_
  refine lv_aload_n hx hb dX1_copyFrom_170 rfl (lv_at hl 0 rfl) ?_
  refine gX1_get fx hw ho.O 11 (by decide) wd1_59 rfl dX1_copyFrom_171 ?_
  refine lv_iconst (v := 0) hx hb dX1_copyFrom_174 (by decide) ?_
  refine lv_bipush (v := 14) hx hb dX1_copyFrom_175 (by decide) ?_
  obtain ⟨M30, eM30, hF⟩ := st_letM hF
  refine g_copy fx hw hq1.a12 ho.a12 wd3_40 wd3_42 wd3_41 wd1_19 (by decide) (by decide) (by decide) (by decide) (by decide) eM30 hl.1 (Nat.le_trans (Nat.le_of_ble_eq_true rfl) hR.1) (Nat.le_trans (by decide) hR.2.1) dX1_copyFrom_177 (fun H locs hw => ?_)
  refine lv_aload_n hx hb dX1_copyFrom_180 rfl (lv_at hl 0 rfl) ?_
  refine lv_aload_n hx hb dX1_copyFrom_181 rfl (lv_at hl 1 rfl) ?_
  refine gX1_get fx hw hq1.O 12 (by decide) wd1_61 rfl dX1_copyFrom_182 ?_
  obtain ⟨M31, eM31, hF⟩ := st_letM hF
  refine gX1_put fx hw ho.O 12 (by decide) wd1_61 rfl eM31 rfl (Nat.le_of_ble_eq_true rfl) dX1_copyFrom_185 (fun H locs hw => ?_)
  refine lv_aload_n hx hb dX1_copyFrom_188 rfl (lv_at hl 0 rfl) ?_
  refine lv_aload_n hx hb dX1_copyFrom_189 rfl (lv_at hl 1 rfl) ?_
  refine gX1_get fx hw hq1.O 13 (by decide) wd1_63 rfl dX1_copyFrom_190 ?_
  obtain ⟨M32, eM32, hF⟩ := st_letM hF
  refine gX1_put fx hw ho.O 13 (by decide) wd1_63 rfl eM32 rfl (Nat.le_of_ble_eq_true rfl) dX1_copyFrom_193 (fun H locs hw => ?_)
  refine lv_aload_n hx hb dX1_copyFrom_196 rfl (lv_at hl 0 rfl) ?_
  refine lv_aload_n hx hb dX1_copyFrom_197 rfl (lv_at hl 1 rfl) ?_
  refine gX1_get fx hw hq1.O 14 (by decide) wd1_66 rfl dX1_copyFrom_198 ?_
  obtain ⟨M33, eM33, hF⟩ := st_letM hF
  refine gX1_put fx hw ho.O 14 (by decide) wd1_66 rfl eM33 rfl (Nat.le_of_ble_eq_true rfl) dX1_copyFrom_201 (fun H locs hw => ?_)
  refine lv_aload_n hx hb dX1_copyFrom_204 rfl (lv_at hl 0 rfl) ?_
  refine lv_aload_n hx hb dX1_copyFrom_205 rfl (lv_at hl 1 rfl) ?_
  refine gX1_get fx hw hq1.O 15 (by decide) wd1_69 rfl dX1_copyFrom_206 ?_
  obtain ⟨M34, eM34, hF⟩ := st_letM hF
  refine gX1_put fx hw ho.O 15 (by decide) wd1_69 rfl eM34 rfl (Nat.le_of_ble_eq_true rfl) dX1_copyFrom_209 (fun H locs hw => ?_)
  refine lv_aload_n hx hb dX1_copyFrom_212 rfl (lv_at hl 0 rfl) ?_
  refine lv_aload_n hx hb dX1_copyFrom_213 rfl (lv_at hl 1 rfl) ?_
  refine gX1_get fx hw hq1.O 16 (by decide) wd1_72 rfl dX1_copyFrom_214 ?_
  obtain ⟨M35, eM35, hF⟩ := st_letM hF
  refine gX1_put fx hw ho.O 16 (by decide) wd1_72 rfl eM35 rfl (Nat.le_of_ble_eq_true rfl) dX1_copyFrom_217 (fun H locs hw => ?_)
  refine lv_aload_n hx hb dX1_copyFrom_220 rfl (lv_at hl 0 rfl) ?_
  refine lv_aload_n hx hb dX1_copyFrom_221 rfl (lv_at hl 1 rfl) ?_
  refine gX1_get fx hw hq1.O 17 (by decide) wd1_74 rfl dX1_copyFrom_222 ?_
  obtain ⟨M36, eM36, hF⟩ := st_letM hF
  refine gX1_put fx hw ho.O 17 (by decide) wd1_74 rfl eM36 rfl (Nat.le_of_ble_eq_true rfl) dX1_copyFrom_225 (fun H locs hw => ?_)
  exact E _ _ _ _ _ dX1_copyFrom_228 hw hF
theorem c_X1_copyFrom (l : Launch) (x : SX) (D : va_G) (cy : Nat → ClassId) (ad : Nat → Nat) (o q1 : Nat) (ho : isH o) (hq1 : isH q1) (sz : Nat) (M : Mem) (M' : Mem) (hF : f_X1_copyFrom o q1 M = some M') : Met l yX1_copyFrom (.code yX1_copyFrom cX1_copyFrom 2 none :: GB) ({ frames := 1, cells := 0, slots := 0, locals := 60 } : Room) (PcW D cy ad x sz M [.ref (ad o), .ref (ad q1)]) (QvW D cy ad sz M') 0 0 (AA ad sz) := by
  refine mk_m (own := RX1) (by decide) rfl (Nat.le_of_ble_eq_true rfl) ?_
  intro p e s m args below meth c ls fx hw hl hsz
  subst hsz
  exact b_X1_copyFrom fx ⟨Nat.le_refl _, Nat.le_refl _, Nat.le_refl _, Nat.le_refl _⟩ o q1 ho hq1 M M' hF (fun pc ls H locs M1 hd hw h => by cases h; exact g_vret fx hw hd) _ _ ls hl hw
noncomputable def f_X1_clear (o : Nat) (M : Mem) : Option Mem := (letM (mput M o 12 0) (fun M11 => (letM (mput M11 o 13 0) (fun M12 => (letM (mput M12 o 14 20) (fun M13 => (letM (mput M13 o 15 10) (fun M14 => (letM (mput M14 o 16 0) (fun M15 => (letM (mput M15 o 17 0) (fun M16 => (bnd (f_J7_fill_53178 24 (o + 11) 0 M16) (fun M18 => (bnd (f_J7_fill_53178 14 (o + 12) 0 M18) (fun M20 => (some M20)))))))))))))))))
set_option maxHeartbeats 4000000 in
set_option maxRecDepth 100000 in
theorem b_X1_clear {p : Program} {l : Launch} {e : Env} {R : Room} {s : State} {m : MethodId} {args : Array Value} {below : List Frame} {meth : Method} {c : Code} {Q : State → Prop} {D : va_G} {cy : Nat → ClassId} {ad : Nat → Nat} {x : SX} (fx : FX p s m args meth c cX1_clear 1 none RX1 D cy ad x) (hR : 1 ≤ R.frames ∧ 23 ≤ R.locals ∧ 0 ≤ R.cells ∧ 0 ≤ R.slots) (o : Nat) (ho : isH o) (M : Mem) (M' : Mem) (hF : f_X1_clear o M = some M') (E : ∀ (pc : Nat) (ls : Array Slot) (H : Heap) (locs : List Loc) (M1 : Mem), decode cX1_clear pc = .ok (.return_, 1) → WD D cy ad s M1 H locs → some M1 = some M' → W p l e R s m args below meth c H locs 0 0 Q (F0 m pc ls [])) (H : Heap) (locs : List Loc) (ls : Array Slot) (hl : lv_has ls 1 [(0, .ref (ad o))]) (hw : WD D cy ad s M H locs) : W p l e R s m args below meth c H locs 0 0 Q (F0 m 0 ls []) := by
  have hx := fx.1.1
  have hb := fx.1.2.1
  have hown := fx.1.2.2.2.1
  have hts := fx.1.2.2.2.2
  unfold f_X1_clear at hF
  refine lv_aload_n hx hb dX1_clear_0 rfl (lv_at hl 0 rfl) ?_
  refine lv_iconst (v := 0) hx hb dX1_clear_1 (by decide) ?_
  obtain ⟨M11, eM11, hF⟩ := st_letM hF
  refine gX1_put fx hw ho.O 12 (by decide) wd1_61 rfl eM11 rfl (Nat.le_of_ble_eq_true rfl) dX1_clear_2 (fun H locs hw => ?_)
  refine lv_aload_n hx hb dX1_clear_5 rfl (lv_at hl 0 rfl) ?_
  refine lv_iconst (v := 0) hx hb dX1_clear_6 (by decide) ?_
  obtain ⟨M12, eM12, hF⟩ := st_letM hF
  refine gX1_put fx hw ho.O 13 (by decide) wd1_63 rfl eM12 rfl (Nat.le_of_ble_eq_true rfl) dX1_clear_7 (fun H locs hw => ?_)
  refine lv_aload_n hx hb dX1_clear_10 rfl (lv_at hl 0 rfl) ?_
  refine lv_bipush (v := 20) hx hb dX1_clear_11 (by decide) ?_
  obtain ⟨M13, eM13, hF⟩ := st_letM hF
  refine gX1_put fx hw ho.O 14 (by decide) wd1_66 rfl eM13 rfl (Nat.le_of_ble_eq_true rfl) dX1_clear_13 (fun H locs hw => ?_)
  refine lv_aload_n hx hb dX1_clear_16 rfl (lv_at hl 0 rfl) ?_
  refine lv_bipush (v := 10) hx hb dX1_clear_17 (by decide) ?_
  obtain ⟨M14, eM14, hF⟩ := st_letM hF
  refine gX1_put fx hw ho.O 15 (by decide) wd1_69 rfl eM14 rfl (Nat.le_of_ble_eq_true rfl) dX1_clear_19 (fun H locs hw => ?_)
  refine lv_aload_n hx hb dX1_clear_22 rfl (lv_at hl 0 rfl) ?_
  refine lv_iconst (v := 0) hx hb dX1_clear_23 (by decide) ?_
  obtain ⟨M15, eM15, hF⟩ := st_letM hF
  refine gX1_put fx hw ho.O 16 (by decide) wd1_72 rfl eM15 rfl (Nat.le_of_ble_eq_true rfl) dX1_clear_24 (fun H locs hw => ?_)
  refine lv_aload_n hx hb dX1_clear_27 rfl (lv_at hl 0 rfl) ?_
  refine lv_iconst (v := 0) hx hb dX1_clear_28 (by decide) ?_
  obtain ⟨M16, eM16, hF⟩ := st_letM hF
  refine gX1_put fx hw ho.O 17 (by decide) wd1_74 rfl eM16 rfl (Nat.le_of_ble_eq_true rfl) dX1_clear_29 (fun H locs hw => ?_)
  refine lv_aload_n hx hb dX1_clear_32 rfl (lv_at hl 0 rfl) ?_
  refine gX1_get fx hw ho.O 10 (by decide) wd1_56 rfl dX1_clear_33 ?_
  refine lv_iconst (v := 0) hx hb dX1_clear_36 (by decide) ?_
  obtain ⟨M18, hgr17, hF⟩ := st_bnd hF
  refine g_cv hw (g_runS (As := [.ref (ad (o + 11)), .int 0]) (rest := []) fx hw (c_J7_fill_53178 l x D cy ad 24 (o + 11) ho.a11 0 H.size M16 M18 hgr17) wd1_122 wd1_123 wd1_3 wd1_124 yd_J7_fill_53178 rfl rfl (Nat.le_of_ble_eq_true rfl) hl.1 ⟨Nat.le_trans (Nat.le_of_ble_eq_true rfl) hR.1, Nat.le_trans (Nat.le_of_ble_eq_true rfl) hR.2.1⟩ ⟨Nat.le_trans (Nat.le_of_ble_eq_true rfl) hR.2.2.1, Nat.le_trans (Nat.le_of_ble_eq_true rfl) hR.2.2.2⟩ dX1_clear_37) (fun H locs hw => ?_)
  refine lv_aload_n hx hb dX1_clear_40 rfl (lv_at hl 0 rfl) ?_
  refine gX1_get fx hw ho.O 11 (by decide) wd1_59 rfl dX1_clear_41 ?_
  refine lv_iconst (v := 0) hx hb dX1_clear_44 (by decide) ?_
  obtain ⟨M20, hgr19, hF⟩ := st_bnd hF
  refine g_cv hw (g_runS (As := [.ref (ad (o + 12)), .int 0]) (rest := []) fx hw (c_J7_fill_53178 l x D cy ad 14 (o + 12) ho.a12 0 H.size M18 M20 hgr19) wd1_122 wd1_123 wd1_3 wd1_124 yd_J7_fill_53178 rfl rfl (Nat.le_of_ble_eq_true rfl) hl.1 ⟨Nat.le_trans (Nat.le_of_ble_eq_true rfl) hR.1, Nat.le_trans (Nat.le_of_ble_eq_true rfl) hR.2.1⟩ ⟨Nat.le_trans (Nat.le_of_ble_eq_true rfl) hR.2.2.1, Nat.le_trans (Nat.le_of_ble_eq_true rfl) hR.2.2.2⟩ dX1_clear_45) (fun H locs hw => ?_)
  exact E _ _ _ _ _ dX1_clear_48 hw hF
theorem c_X1_clear (l : Launch) (x : SX) (D : va_G) (cy : Nat → ClassId) (ad : Nat → Nat) (o : Nat) (ho : isH o) (sz : Nat) (M : Mem) (M' : Mem) (hF : f_X1_clear o M = some M') : Met l yX1_clear (.code yX1_clear cX1_clear 1 none :: GB) ({ frames := 1, cells := 0, slots := 0, locals := 23 } : Room) (PcW D cy ad x sz M [.ref (ad o)]) (QvW D cy ad sz M') 0 0 (AA ad sz) := by
  refine mk_m (own := RX1) (by decide) rfl (Nat.le_of_ble_eq_true rfl) ?_
  intro p e s m args below meth c ls fx hw hl hsz
  subst hsz
  exact b_X1_clear fx ⟨Nat.le_refl _, Nat.le_refl _, Nat.le_refl _, Nat.le_refl _⟩ o ho M M' hF (fun pc ls H locs M1 hd hw h => by cases h; exact g_vret fx hw hd) _ _ ls hl hw
noncomputable def f_X1_addNeed (o : Nat) (p1 p2 : Int32) (M : Mem) : Option Mem := (if 8 ≤ (M o 13) then (some M) else (chk (inB (M o 13) 8) (letM (mput M (o + 9) (ix (M o 13)) p1) (fun M6 => (chk (inB (M6 o 13) 8) (letM (mput M6 (o + 10) (ix (M6 o 13)) p2) (fun M8 => (letM (mput M8 o 13 ((M8 o 13) + 1)) (fun M10 => (some M10))))))))))
set_option maxHeartbeats 4000000 in
set_option maxRecDepth 100000 in
theorem b_X1_addNeed {p : Program} {l : Launch} {e : Env} {R : Room} {s : State} {m : MethodId} {args : Array Value} {below : List Frame} {meth : Method} {c : Code} {Q : State → Prop} {D : va_G} {cy : Nat → ClassId} {ad : Nat → Nat} {x : SX} (fx : FX p s m args meth c cX1_addNeed 3 none RX1 D cy ad x) (hR : 0 ≤ R.frames ∧ 0 ≤ R.locals ∧ 0 ≤ R.cells ∧ 0 ≤ R.slots) (o : Nat) (ho : isH o) (p1 p2 : Int32) (M : Mem) (M' : Mem) (hF : f_X1_addNeed o p1 p2 M = some M') (E : ∀ (pc : Nat) (ls : Array Slot) (H : Heap) (locs : List Loc) (M1 : Mem), decode cX1_addNeed pc = .ok (.return_, 1) → WD D cy ad s M1 H locs → some M1 = some M' → W p l e R s m args below meth c H locs 0 0 Q (F0 m pc ls [])) (H : Heap) (locs : List Loc) (ls : Array Slot) (hl : lv_has ls 3 [(0, .ref (ad o)), (1, .int p1), (2, .int p2)]) (hw : WD D cy ad s M H locs) : W p l e R s m args below meth c H locs 0 0 Q (F0 m 0 ls []) := by
  have hx := fx.1.1
  have hb := fx.1.2.1
  have hown := fx.1.2.2.2.1
  have hts := fx.1.2.2.2.2
  unfold f_X1_addNeed at hF
  refine lv_aload_n hx hb dX1_addNeed_0 rfl (lv_at hl 0 rfl) ?_
  refine gX1_get fx hw ho.O 13 (by decide) wd1_63 rfl dX1_addNeed_1 ?_
  refine lv_bipush (v := 8) hx hb dX1_addNeed_4 (by decide) ?_
  refine lv_icmp_ge (tgt := 39) hx hb dX1_addNeed_6 (by decide) (fun hc6 => ?_) (fun hc6 => ?_)
  · replace hF := st_t hc6 hF
    exact E _ _ _ _ _ dX1_addNeed_39 hw hF
  · replace hF := st_f hc6 hF
    refine lv_aload_n hx hb dX1_addNeed_9 rfl (lv_at hl 0 rfl) ?_
    refine gX1_get fx hw ho.O 8 (by decide) wd1_52 rfl dX1_addNeed_10 ?_
    refine lv_aload_n hx hb dX1_addNeed_13 rfl (lv_at hl 0 rfl) ?_
    refine gX1_get fx hw ho.O 13 (by decide) wd1_63 rfl dX1_addNeed_14 ?_
    refine lv_iload_n hx hb dX1_addNeed_17 rfl (lv_at hl 1 rfl) ?_
    obtain ⟨hi7, hF⟩ := st_chk hF
    obtain ⟨M6, eM6, hF⟩ := st_letM hF
    refine g_iast fx hw ho.a9 hi7 eM6 dX1_addNeed_18 (fun H locs hw => ?_)
    refine lv_aload_n hx hb dX1_addNeed_19 rfl (lv_at hl 0 rfl) ?_
    refine gX1_get fx hw ho.O 9 (by decide) wd1_54 rfl dX1_addNeed_20 ?_
    refine lv_aload_n hx hb dX1_addNeed_23 rfl (lv_at hl 0 rfl) ?_
    refine gX1_get fx hw ho.O 13 (by decide) wd1_63 rfl dX1_addNeed_24 ?_
    refine lv_iload_n hx hb dX1_addNeed_27 rfl (lv_at hl 2 rfl) ?_
    obtain ⟨hi9, hF⟩ := st_chk hF
    obtain ⟨M8, eM8, hF⟩ := st_letM hF
    refine g_iast fx hw ho.a10 hi9 eM8 dX1_addNeed_28 (fun H locs hw => ?_)
    refine lv_aload_n hx hb dX1_addNeed_29 rfl (lv_at hl 0 rfl) ?_
    refine lv_dup hx hb dX1_addNeed_30 rfl ?_
    refine gX1_get fx hw ho.O 13 (by decide) wd1_63 rfl dX1_addNeed_31 ?_
    refine lv_iconst (v := 1) hx hb dX1_addNeed_34 (by decide) ?_
    refine lv_iadd hx hb dX1_addNeed_35 ?_
    obtain ⟨M10, eM10, hF⟩ := st_letM hF
    refine gX1_put fx hw ho.O 13 (by decide) wd1_63 rfl eM10 rfl (Nat.le_of_ble_eq_true rfl) dX1_addNeed_36 (fun H locs hw => ?_)
    exact E _ _ _ _ _ dX1_addNeed_39 hw hF
theorem c_X1_addNeed (l : Launch) (x : SX) (D : va_G) (cy : Nat → ClassId) (ad : Nat → Nat) (o : Nat) (ho : isH o) (p1 p2 : Int32) (sz : Nat) (M : Mem) (M' : Mem) (hF : f_X1_addNeed o p1 p2 M = some M') : Met l yX1_addNeed (.code yX1_addNeed cX1_addNeed 3 none :: GB) ({ frames := 0, cells := 0, slots := 0, locals := 0 } : Room) (PcW D cy ad x sz M [.ref (ad o), .int p1, .int p2]) (QvW D cy ad sz M') 0 0 (AA ad sz) := by
  refine mk_m (own := RX1) (by decide) rfl (Nat.le_of_ble_eq_true rfl) ?_
  intro p e s m args below meth c ls fx hw hl hsz
  subst hsz
  exact b_X1_addNeed fx ⟨Nat.le_refl _, Nat.le_refl _, Nat.le_refl _, Nat.le_refl _⟩ o ho p1 p2 M M' hF (fun pc ls H locs M1 hd hw h => by cases h; exact g_vret fx hw hd) _ _ ls hl hw
noncomputable def f_X1_addMonk (o : Nat) (p1 p2 p3 : Int32) (M : Mem) : Option Mem := (if 12 ≤ (M o 12) then (some M) else (chk (inB (M o 12) 12) (letM (mput M (o + 1) (ix (M o 12)) p1) (fun M18 => (chk (inB (M18 o 12) 12) (letM (mput M18 (o + 2) (ix (M18 o 12)) p2) (fun M20 => (chk (inB (M20 o 12) 12) (letM (mput M20 (o + 3) (ix (M20 o 12)) p3) (fun M22 => (chk (inB (M22 o 12) 12) (letM (mput M22 (o + 4) (ix (M22 o 12)) 0) (fun M24 => (chk (inB (M24 o 12) 12) (letM (mput M24 (o + 5) (ix (M24 o 12)) 0) (fun M26 => (chk (inB (M26 o 12) 12) (letM (mput M26 (o + 6) (ix (M26 o 12)) 0) (fun M28 => (chk (inB (M28 o 12) 12) (letM (mput M28 (o + 7) (ix (M28 o 12)) 0) (fun M30 => (chk (inB (M30 o 12) 12) (letM (mput M30 (o + 8) (ix (M30 o 12)) 0) (fun M32 => (letM (mput M32 o 12 ((M32 o 12) + 1)) (fun M34 => (some M34))))))))))))))))))))))))))))
set_option maxHeartbeats 4000000 in
set_option maxRecDepth 100000 in
theorem b_X1_addMonk {p : Program} {l : Launch} {e : Env} {R : Room} {s : State} {m : MethodId} {args : Array Value} {below : List Frame} {meth : Method} {c : Code} {Q : State → Prop} {D : va_G} {cy : Nat → ClassId} {ad : Nat → Nat} {x : SX} (fx : FX p s m args meth c cX1_addMonk 4 none RX1 D cy ad x) (hR : 0 ≤ R.frames ∧ 0 ≤ R.locals ∧ 0 ≤ R.cells ∧ 0 ≤ R.slots) (o : Nat) (ho : isH o) (p1 p2 p3 : Int32) (M : Mem) (M' : Mem) (hF : f_X1_addMonk o p1 p2 p3 M = some M') (E : ∀ (pc : Nat) (ls : Array Slot) (H : Heap) (locs : List Loc) (M1 : Mem), decode cX1_addMonk pc = .ok (.return_, 1) → WD D cy ad s M1 H locs → some M1 = some M' → W p l e R s m args below meth c H locs 0 0 Q (F0 m pc ls [])) (H : Heap) (locs : List Loc) (ls : Array Slot) (hl : lv_has ls 4 [(0, .ref (ad o)), (1, .int p1), (2, .int p2), (3, .int p3)]) (hw : WD D cy ad s M H locs) : W p l e R s m args below meth c H locs 0 0 Q (F0 m 0 ls []) := by
  have hx := fx.1.1
  have hb := fx.1.2.1
  have hown := fx.1.2.2.2.1
  have hts := fx.1.2.2.2.2
  unfold f_X1_addMonk at hF
  refine lv_aload_n hx hb dX1_addMonk_0 rfl (lv_at hl 0 rfl) ?_
  refine gX1_get fx hw ho.O 12 (by decide) wd1_61 rfl dX1_addMonk_1 ?_
  refine lv_bipush (v := 12) hx hb dX1_addMonk_4 (by decide) ?_
  refine lv_icmp_ge (tgt := 99) hx hb dX1_addMonk_6 (by decide) (fun hc6 => ?_) (fun hc6 => ?_)
  · replace hF := st_t hc6 hF
    exact E _ _ _ _ _ dX1_addMonk_99 hw hF
  · replace hF := st_f hc6 hF
    refine lv_aload_n hx hb dX1_addMonk_9 rfl (lv_at hl 0 rfl) ?_
    refine gX1_get fx hw ho.O 0 (by decide) wd1_36 rfl dX1_addMonk_10 ?_
    refine lv_aload_n hx hb dX1_addMonk_13 rfl (lv_at hl 0 rfl) ?_
    refine gX1_get fx hw ho.O 12 (by decide) wd1_61 rfl dX1_addMonk_14 ?_
    refine lv_iload_n hx hb dX1_addMonk_17 rfl (lv_at hl 1 rfl) ?_
    obtain ⟨hi19, hF⟩ := st_chk hF
    obtain ⟨M18, eM18, hF⟩ := st_letM hF
    refine g_iast fx hw ho.a1 hi19 eM18 dX1_addMonk_18 (fun H locs hw => ?_)
    refine lv_aload_n hx hb dX1_addMonk_19 rfl (lv_at hl 0 rfl) ?_
    refine gX1_get fx hw ho.O 1 (by decide) wd1_38 rfl dX1_addMonk_20 ?_
    refine lv_aload_n hx hb dX1_addMonk_23 rfl (lv_at hl 0 rfl) ?_
    refine gX1_get fx hw ho.O 12 (by decide) wd1_61 rfl dX1_addMonk_24 ?_
    refine lv_iload_n hx hb dX1_addMonk_27 rfl (lv_at hl 2 rfl) ?_
    obtain ⟨hi21, hF⟩ := st_chk hF
    obtain ⟨M20, eM20, hF⟩ := st_letM hF
    refine g_iast fx hw ho.a2 hi21 eM20 dX1_addMonk_28 (fun H locs hw => ?_)
    refine lv_aload_n hx hb dX1_addMonk_29 rfl (lv_at hl 0 rfl) ?_
    refine gX1_get fx hw ho.O 2 (by decide) wd1_40 rfl dX1_addMonk_30 ?_
    refine lv_aload_n hx hb dX1_addMonk_33 rfl (lv_at hl 0 rfl) ?_
    refine gX1_get fx hw ho.O 12 (by decide) wd1_61 rfl dX1_addMonk_34 ?_
    refine lv_iload_n hx hb dX1_addMonk_37 rfl (lv_at hl 3 rfl) ?_
    obtain ⟨hi23, hF⟩ := st_chk hF
    obtain ⟨M22, eM22, hF⟩ := st_letM hF
    refine g_iast fx hw ho.a3 hi23 eM22 dX1_addMonk_38 (fun H locs hw => ?_)
    refine lv_aload_n hx hb dX1_addMonk_39 rfl (lv_at hl 0 rfl) ?_
    refine gX1_get fx hw ho.O 3 (by decide) wd1_42 rfl dX1_addMonk_40 ?_
    refine lv_aload_n hx hb dX1_addMonk_43 rfl (lv_at hl 0 rfl) ?_
    refine gX1_get fx hw ho.O 12 (by decide) wd1_61 rfl dX1_addMonk_44 ?_
    refine lv_iconst (v := 0) hx hb dX1_addMonk_47 (by decide) ?_
    obtain ⟨hi25, hF⟩ := st_chk hF
    obtain ⟨M24, eM24, hF⟩ := st_letM hF
    refine g_iast fx hw ho.a4 hi25 eM24 dX1_addMonk_48 (fun H locs hw => ?_)
    refine lv_aload_n hx hb dX1_addMonk_49 rfl (lv_at hl 0 rfl) ?_
    refine gX1_get fx hw ho.O 4 (by decide) wd1_44 rfl dX1_addMonk_50 ?_
    refine lv_aload_n hx hb dX1_addMonk_53 rfl (lv_at hl 0 rfl) ?_
    refine gX1_get fx hw ho.O 12 (by decide) wd1_61 rfl dX1_addMonk_54 ?_
    refine lv_iconst (v := 0) hx hb dX1_addMonk_57 (by decide) ?_
    obtain ⟨hi27, hF⟩ := st_chk hF
    obtain ⟨M26, eM26, hF⟩ := st_letM hF
    refine g_iast fx hw ho.a5 hi27 eM26 dX1_addMonk_58 (fun H locs hw => ?_)
    refine lv_aload_n hx hb dX1_addMonk_59 rfl (lv_at hl 0 rfl) ?_
    refine gX1_get fx hw ho.O 5 (by decide) wd1_46 rfl dX1_addMonk_60 ?_
    refine lv_aload_n hx hb dX1_addMonk_63 rfl (lv_at hl 0 rfl) ?_
    refine gX1_get fx hw ho.O 12 (by decide) wd1_61 rfl dX1_addMonk_64 ?_
    refine lv_iconst (v := 0) hx hb dX1_addMonk_67 (by decide) ?_
    obtain ⟨hi29, hF⟩ := st_chk hF
    obtain ⟨M28, eM28, hF⟩ := st_letM hF
    refine g_iast fx hw ho.a6 hi29 eM28 dX1_addMonk_68 (fun H locs hw => ?_)
    refine lv_aload_n hx hb dX1_addMonk_69 rfl (lv_at hl 0 rfl) ?_
    refine gX1_get fx hw ho.O 6 (by decide) wd1_48 rfl dX1_addMonk_70 ?_
    refine lv_aload_n hx hb dX1_addMonk_73 rfl (lv_at hl 0 rfl) ?_
    refine gX1_get fx hw ho.O 12 (by decide) wd1_61 rfl dX1_addMonk_74 ?_
    refine lv_iconst (v := 0) hx hb dX1_addMonk_77 (by decide) ?_
    obtain ⟨hi31, hF⟩ := st_chk hF
    obtain ⟨M30, eM30, hF⟩ := st_letM hF
    refine g_iast fx hw ho.a7 hi31 eM30 dX1_addMonk_78 (fun H locs hw => ?_)
    refine lv_aload_n hx hb dX1_addMonk_79 rfl (lv_at hl 0 rfl) ?_
    refine gX1_get fx hw ho.O 7 (by decide) wd1_50 rfl dX1_addMonk_80 ?_
    refine lv_aload_n hx hb dX1_addMonk_83 rfl (lv_at hl 0 rfl) ?_
    refine gX1_get fx hw ho.O 12 (by decide) wd1_61 rfl dX1_addMonk_84 ?_
    refine lv_iconst (v := 0) hx hb dX1_addMonk_87 (by decide) ?_
    obtain ⟨hi33, hF⟩ := st_chk hF
    obtain ⟨M32, eM32, hF⟩ := st_letM hF
    refine g_iast fx hw ho.a8 hi33 eM32 dX1_addMonk_88 (fun H locs hw => ?_)
    refine lv_aload_n hx hb dX1_addMonk_89 rfl (lv_at hl 0 rfl) ?_
    refine lv_dup hx hb dX1_addMonk_90 rfl ?_
    refine gX1_get fx hw ho.O 12 (by decide) wd1_61 rfl dX1_addMonk_91 ?_
    refine lv_iconst (v := 1) hx hb dX1_addMonk_94 (by decide) ?_
    refine lv_iadd hx hb dX1_addMonk_95 ?_
    obtain ⟨M34, eM34, hF⟩ := st_letM hF
    refine gX1_put fx hw ho.O 12 (by decide) wd1_61 rfl eM34 rfl (Nat.le_of_ble_eq_true rfl) dX1_addMonk_96 (fun H locs hw => ?_)
    exact E _ _ _ _ _ dX1_addMonk_99 hw hF
theorem c_X1_addMonk (l : Launch) (x : SX) (D : va_G) (cy : Nat → ClassId) (ad : Nat → Nat) (o : Nat) (ho : isH o) (p1 p2 p3 : Int32) (sz : Nat) (M : Mem) (M' : Mem) (hF : f_X1_addMonk o p1 p2 p3 M = some M') : Met l yX1_addMonk (.code yX1_addMonk cX1_addMonk 4 none :: GB) ({ frames := 0, cells := 0, slots := 0, locals := 0 } : Room) (PcW D cy ad x sz M [.ref (ad o), .int p1, .int p2, .int p3]) (QvW D cy ad sz M') 0 0 (AA ad sz) := by
  refine mk_m (own := RX1) (by decide) rfl (Nat.le_of_ble_eq_true rfl) ?_
  intro p e s m args below meth c ls fx hw hl hsz
  subst hsz
  exact b_X1_addMonk fx ⟨Nat.le_refl _, Nat.le_refl _, Nat.le_refl _, Nat.le_refl _⟩ o ho p1 p2 p3 M M' hF (fun pc ls H locs M1 hd hw h => by cases h; exact g_vret fx hw hd) _ _ ls hl hw
noncomputable def f_X1_becomeFirst (o : Nat) (M : Mem) : Option Mem := (bnd (f_X1_clear o M) (fun M10 => (bnd (f_X2_with 0 97 M10) (fun r11 => (bnd (f_X1_addNeed o r11 1 M10) (fun M13 => (bnd (f_X2_with 0 98 M13) (fun r14 => (bnd (f_X1_addMonk o r14 2 0 M13) (fun M16 => (some M16)))))))))))
set_option maxHeartbeats 4000000 in
set_option maxRecDepth 100000 in
theorem b_X1_becomeFirst {p : Program} {l : Launch} {e : Env} {R : Room} {s : State} {m : MethodId} {args : Array Value} {below : List Frame} {meth : Method} {c : Code} {Q : State → Prop} {D : va_G} {cy : Nat → ClassId} {ad : Nat → Nat} {x : SX} (fx : FX p s m args meth c cX1_becomeFirst 1 none RX1 D cy ad x) (hR : 2 ≤ R.frames ∧ 43 ≤ R.locals ∧ 0 ≤ R.cells ∧ 0 ≤ R.slots) (o : Nat) (ho : isH o) (M : Mem) (M' : Mem) (hF : f_X1_becomeFirst o M = some M') (E : ∀ (pc : Nat) (ls : Array Slot) (H : Heap) (locs : List Loc) (M1 : Mem), decode cX1_becomeFirst pc = .ok (.return_, 1) → WD D cy ad s M1 H locs → some M1 = some M' → W p l e R s m args below meth c H locs 0 0 Q (F0 m pc ls [])) (H : Heap) (locs : List Loc) (ls : Array Slot) (hl : lv_has ls 1 [(0, .ref (ad o))]) (hw : WD D cy ad s M H locs) : W p l e R s m args below meth c H locs 0 0 Q (F0 m 0 ls []) := by
  have hx := fx.1.1
  have hb := fx.1.2.1
  have hown := fx.1.2.2.2.1
  have hts := fx.1.2.2.2.2
  unfold f_X1_becomeFirst at hF
  refine lv_aload_n hx hb dX1_becomeFirst_0 rfl (lv_at hl 0 rfl) ?_
  obtain ⟨M10, hgr9, hF⟩ := st_bnd hF
  refine g_cv hw (g_runV (C := RX1) (As := []) (rest := []) fx hw ho.O rfl (c_X1_clear l x D cy ad o ho H.size M M10 hgr9) wd1_118 wd1_119 wd1_120 wd1_2 wd1_121 yd_X1_clear rfl rfl (Nat.le_of_ble_eq_true rfl) hl.1 ⟨Nat.le_trans (Nat.le_of_ble_eq_true rfl) hR.1, Nat.le_trans (Nat.le_of_ble_eq_true rfl) hR.2.1⟩ ⟨Nat.le_trans (Nat.le_of_ble_eq_true rfl) hR.2.2.1, Nat.le_trans (Nat.le_of_ble_eq_true rfl) hR.2.2.2⟩ dX1_becomeFirst_1) (fun H locs hw => ?_)
  refine lv_aload_n hx hb dX1_becomeFirst_4 rfl (lv_at hl 0 rfl) ?_
  refine lv_iconst (v := 0) hx hb dX1_becomeFirst_5 (by decide) ?_
  refine lv_bipush (v := 97) hx hb dX1_becomeFirst_6 (by decide) ?_
  obtain ⟨r11, hgr11, hF⟩ := st_bnd hF
  refine g_ci hw (g_runS (As := [.int 0, .int 97]) (rest := [.ref (ad o)]) fx hw (c_X2_with l x D cy ad 0 97 H.size M10 r11 hgr11) wd1_125 wd1_126 wd1_4 wd1_127 yd_X2_with rfl rfl (Nat.le_of_ble_eq_true rfl) hl.1 ⟨Nat.le_trans (Nat.le_of_ble_eq_true rfl) hR.1, Nat.le_trans (Nat.le_of_ble_eq_true rfl) hR.2.1⟩ ⟨Nat.le_trans (Nat.le_of_ble_eq_true rfl) hR.2.2.1, Nat.le_trans (Nat.le_of_ble_eq_true rfl) hR.2.2.2⟩ dX1_becomeFirst_8) (fun H locs hw => ?_)
  refine lv_iconst (v := 1) hx hb dX1_becomeFirst_11 (by decide) ?_
  obtain ⟨M13, hgr12, hF⟩ := st_bnd hF
  refine g_cv hw (g_runV (C := RX1) (As := [.int r11, .int 1]) (rest := []) fx hw ho.O rfl (c_X1_addNeed l x D cy ad o ho r11 1 H.size M10 M13 hgr12) wd1_128 wd1_129 wd1_130 wd1_2 wd1_131 yd_X1_addNeed rfl rfl (Nat.le_of_ble_eq_true rfl) hl.1 ⟨Nat.le_trans (Nat.le_of_ble_eq_true rfl) hR.1, Nat.le_trans (Nat.le_of_ble_eq_true rfl) hR.2.1⟩ ⟨Nat.le_trans (Nat.le_of_ble_eq_true rfl) hR.2.2.1, Nat.le_trans (Nat.le_of_ble_eq_true rfl) hR.2.2.2⟩ dX1_becomeFirst_12) (fun H locs hw => ?_)
  refine lv_aload_n hx hb dX1_becomeFirst_15 rfl (lv_at hl 0 rfl) ?_
  refine lv_iconst (v := 0) hx hb dX1_becomeFirst_16 (by decide) ?_
  refine lv_bipush (v := 98) hx hb dX1_becomeFirst_17 (by decide) ?_
  obtain ⟨r14, hgr14, hF⟩ := st_bnd hF
  refine g_ci hw (g_runS (As := [.int 0, .int 98]) (rest := [.ref (ad o)]) fx hw (c_X2_with l x D cy ad 0 98 H.size M13 r14 hgr14) wd1_125 wd1_126 wd1_4 wd1_127 yd_X2_with rfl rfl (Nat.le_of_ble_eq_true rfl) hl.1 ⟨Nat.le_trans (Nat.le_of_ble_eq_true rfl) hR.1, Nat.le_trans (Nat.le_of_ble_eq_true rfl) hR.2.1⟩ ⟨Nat.le_trans (Nat.le_of_ble_eq_true rfl) hR.2.2.1, Nat.le_trans (Nat.le_of_ble_eq_true rfl) hR.2.2.2⟩ dX1_becomeFirst_19) (fun H locs hw => ?_)
  refine lv_iconst (v := 2) hx hb dX1_becomeFirst_22 (by decide) ?_
  refine lv_iconst (v := 0) hx hb dX1_becomeFirst_23 (by decide) ?_
  obtain ⟨M16, hgr15, hF⟩ := st_bnd hF
  refine g_cv hw (g_runV (C := RX1) (As := [.int r14, .int 2, .int 0]) (rest := []) fx hw ho.O rfl (c_X1_addMonk l x D cy ad o ho r14 2 0 H.size M13 M16 hgr15) wd1_132 wd1_133 wd1_134 wd1_2 wd1_135 yd_X1_addMonk rfl rfl (Nat.le_of_ble_eq_true rfl) hl.1 ⟨Nat.le_trans (Nat.le_of_ble_eq_true rfl) hR.1, Nat.le_trans (Nat.le_of_ble_eq_true rfl) hR.2.1⟩ ⟨Nat.le_trans (Nat.le_of_ble_eq_true rfl) hR.2.2.1, Nat.le_trans (Nat.le_of_ble_eq_true rfl) hR.2.2.2⟩ dX1_becomeFirst_24) (fun H locs hw => ?_)
  exact E _ _ _ _ _ dX1_becomeFirst_27 hw hF
theorem c_X1_becomeFirst (l : Launch) (x : SX) (D : va_G) (cy : Nat → ClassId) (ad : Nat → Nat) (o : Nat) (ho : isH o) (sz : Nat) (M : Mem) (M' : Mem) (hF : f_X1_becomeFirst o M = some M') : Met l yX1_becomeFirst (.code yX1_becomeFirst cX1_becomeFirst 1 none :: GB) ({ frames := 2, cells := 0, slots := 0, locals := 43 } : Room) (PcW D cy ad x sz M [.ref (ad o)]) (QvW D cy ad sz M') 0 0 (AA ad sz) := by
  refine mk_m (own := RX1) (by decide) rfl (Nat.le_of_ble_eq_true rfl) ?_
  intro p e s m args below meth c ls fx hw hl hsz
  subst hsz
  exact b_X1_becomeFirst fx ⟨Nat.le_refl _, Nat.le_refl _, Nat.le_refl _, Nat.le_refl _⟩ o ho M M' hF (fun pc ls H locs M1 hd hw h => by cases h; exact g_vret fx hw hd) _ _ ls hl hw
noncomputable def f_X1_monkNamed_2 (o : Nat) (M : Mem) (rec2 : Int32 → Int32 → Option Int32) : Int32 → Int32 → Option Int32 := fun a1 a2 => (if (M o 12) ≤ a2 then (some (-1)) else (chk (inB a2 12) (if (M (o + 1) (ix a2)) = a1 then (some a2) else (rec2 a1 (a2 + 1)))))
noncomputable def f_X1_monkNamed (o : Nat) (p1 : Int32) (M : Mem) : Option Int32 := ((lp (fun _ _ => none) (f_X1_monkNamed_2 o M) FU) p1 0)
set_option maxHeartbeats 4000000 in
set_option maxRecDepth 100000 in
theorem b_X1_monkNamed {p : Program} {l : Launch} {e : Env} {R : Room} {s : State} {m : MethodId} {args : Array Value} {below : List Frame} {meth : Method} {c : Code} {Q : State → Prop} {D : va_G} {cy : Nat → ClassId} {ad : Nat → Nat} {x : SX} (fx : FX p s m args meth c cX1_monkNamed 3 (some .int) RX1 D cy ad x) (hR : 0 ≤ R.frames ∧ 0 ≤ R.locals ∧ 0 ≤ R.cells ∧ 0 ≤ R.slots) (o : Nat) (ho : isH o) (p1 : Int32) (M : Mem) (z : Int32) (hF : f_X1_monkNamed o p1 M = some z) (E : ∀ (pc : Nat) (ls : Array Slot) (H : Heap) (locs : List Loc) (v : Int32), decode cX1_monkNamed pc = .ok (.ireturn, 1) → WD D cy ad s M H locs → some v = some z → W p l e R s m args below meth c H locs 0 0 Q (F0 m pc ls [.int v])) (H : Heap) (locs : List Loc) (ls : Array Slot) (hl : lv_has ls 3 [(0, .ref (ad o)), (1, .int p1)]) (hw : WD D cy ad s M H locs) : W p l e R s m args below meth c H locs 0 0 Q (F0 m 0 ls []) := by
  have hx := fx.1.1
  have hb := fx.1.2.1
  have hown := fx.1.2.2.2.1
  have hts := fx.1.2.2.2.2
  have n_2 : ∀ (n9 : Nat), ∀ (a1 : Int32) (a2 : Int32) (H : Heap) (locs : List Loc) (ls : Array Slot), lv_has ls 3 [(0, .ref (ad o)), (1, .int a1), (2, .int a2)] → WD D cy ad s M H locs → (lp (fun _ _ => none) (f_X1_monkNamed_2 o M) n9) a1 a2 = some z → W p l e R s m args below meth c H locs 0 0 Q (F0 m 2 ls []) := by
    intro n9
    refine lp_ind (fun (rec2 : Int32 → Int32 → Option Int32) => ∀ (a1 : Int32) (a2 : Int32) (H : Heap) (locs : List Loc) (ls : Array Slot), lv_has ls 3 [(0, .ref (ad o)), (1, .int a1), (2, .int a2)] → WD D cy ad s M H locs → rec2 a1 a2 = some z → W p l e R s m args below meth c H locs 0 0 Q (F0 m 2 ls [])) ?_ ?_ n9
    · intro a1 a2 H locs ls hl hw hF
      exact nomatch hF
    · intro rec2 hr2 a1 a2 H locs ls hl hw hF
      unfold f_X1_monkNamed_2 at hF
      refine lv_iload_n hx hb dX1_monkNamed_2 rfl (lv_at hl 2 rfl) ?_
      refine lv_aload_n hx hb dX1_monkNamed_3 rfl (lv_at hl 0 rfl) ?_
      refine gX1_get fx hw ho.O 12 (by decide) wd1_61 rfl dX1_monkNamed_4 ?_
      refine lv_icmp_ge (tgt := 28) hx hb dX1_monkNamed_7 (by decide) (fun hc7 => ?_) (fun hc7 => ?_)
      · replace hF := st_t hc7 hF
        refine lv_iconst (v := (-1)) hx hb dX1_monkNamed_28 (by decide) ?_
        exact E _ _ _ _ _ dX1_monkNamed_29 hw hF
      · replace hF := st_f hc7 hF
        refine lv_aload_n hx hb dX1_monkNamed_10 rfl (lv_at hl 0 rfl) ?_
        refine gX1_get fx hw ho.O 0 (by decide) wd1_36 rfl dX1_monkNamed_11 ?_
        refine lv_iload_n hx hb dX1_monkNamed_14 rfl (lv_at hl 2 rfl) ?_
        obtain ⟨hi3, hF⟩ := st_chk hF
        refine g_iald fx hw ho.a1 hi3 dX1_monkNamed_15 ?_
        refine lv_iload_n hx hb dX1_monkNamed_16 rfl (lv_at hl 1 rfl) ?_
        refine lv_icmp_ne (tgt := 22) hx hb dX1_monkNamed_17 (by decide) (fun hc17 => ?_) (fun hc17 => ?_)
        · replace hF := st_f hc17 hF
          refine lv_iinc (v := (a2 + 1)) (lv' := [(2, .int (a2 + 1)), (0, .ref (ad o)), (1, .int a1)]) hx hb dX1_monkNamed_22 hl (k := 2) rfl rfl (by decide) rfl (fun ls hl => ?_)
          refine lv_goto (tgt := 2) hx hb dX1_monkNamed_25 (by decide) ?_
          exact hr2 a1 (a2 + 1) H locs ls (lv_sub hl [1, 2, 0] rfl) hw hF
        · replace hF := st_t hc17 hF
          refine lv_iload_n hx hb dX1_monkNamed_20 rfl (lv_at hl 2 rfl) ?_
          exact E _ _ _ _ _ dX1_monkNamed_21 hw hF
  unfold f_X1_monkNamed at hF
  refine lv_iconst (v := 0) hx hb dX1_monkNamed_0 (by decide) ?_
  refine lv_istore_n (lv' := [(2, .int 0), (0, .ref (ad o)), (1, .int p1)]) hx hb dX1_monkNamed_1 rfl hl (by decide) rfl (fun ls hl => ?_)
  exact n_2 FU p1 0 H locs ls (lv_sub hl [1, 2, 0] rfl) hw hF
theorem c_X1_monkNamed (l : Launch) (x : SX) (D : va_G) (cy : Nat → ClassId) (ad : Nat → Nat) (o : Nat) (ho : isH o) (p1 : Int32) (sz : Nat) (M : Mem) (z : Int32) (hF : f_X1_monkNamed o p1 M = some z) : Met l yX1_monkNamed (.code yX1_monkNamed cX1_monkNamed 3 (some .int) :: GB) ({ frames := 0, cells := 0, slots := 0, locals := 0 } : Room) (PcW D cy ad x sz M [.ref (ad o), .int p1]) (QiW D cy ad sz z M) 0 0 (AA ad sz) := by
  refine mk_m (own := RX1) (by decide) rfl (Nat.le_of_ble_eq_true rfl) ?_
  intro p e s m args below meth c ls fx hw hl hsz
  subst hsz
  exact b_X1_monkNamed fx ⟨Nat.le_refl _, Nat.le_refl _, Nat.le_refl _, Nat.le_refl _⟩ o ho p1 M z hF (fun pc ls H locs v hd hw h => by cases h; exact g_iret fx hw rfl hd) _ _ ls hl hw
noncomputable def f_X1_needNamed_2 (o : Nat) (M : Mem) (rec2 : Int32 → Int32 → Option Int32) : Int32 → Int32 → Option Int32 := fun a1 a2 => (if (M o 13) ≤ a2 then (some (-1)) else (chk (inB a2 8) (if (M (o + 9) (ix a2)) = a1 then (some a2) else (rec2 a1 (a2 + 1)))))
noncomputable def f_X1_needNamed (o : Nat) (p1 : Int32) (M : Mem) : Option Int32 := ((lp (fun _ _ => none) (f_X1_needNamed_2 o M) FU) p1 0)
set_option maxHeartbeats 4000000 in
set_option maxRecDepth 100000 in
theorem b_X1_needNamed {p : Program} {l : Launch} {e : Env} {R : Room} {s : State} {m : MethodId} {args : Array Value} {below : List Frame} {meth : Method} {c : Code} {Q : State → Prop} {D : va_G} {cy : Nat → ClassId} {ad : Nat → Nat} {x : SX} (fx : FX p s m args meth c cX1_needNamed 3 (some .int) RX1 D cy ad x) (hR : 0 ≤ R.frames ∧ 0 ≤ R.locals ∧ 0 ≤ R.cells ∧ 0 ≤ R.slots) (o : Nat) (ho : isH o) (p1 : Int32) (M : Mem) (z : Int32) (hF : f_X1_needNamed o p1 M = some z) (E : ∀ (pc : Nat) (ls : Array Slot) (H : Heap) (locs : List Loc) (v : Int32), decode cX1_needNamed pc = .ok (.ireturn, 1) → WD D cy ad s M H locs → some v = some z → W p l e R s m args below meth c H locs 0 0 Q (F0 m pc ls [.int v])) (H : Heap) (locs : List Loc) (ls : Array Slot) (hl : lv_has ls 3 [(0, .ref (ad o)), (1, .int p1)]) (hw : WD D cy ad s M H locs) : W p l e R s m args below meth c H locs 0 0 Q (F0 m 0 ls []) := by
  have hx := fx.1.1
  have hb := fx.1.2.1
  have hown := fx.1.2.2.2.1
  have hts := fx.1.2.2.2.2
  have n_2 : ∀ (n9 : Nat), ∀ (a1 : Int32) (a2 : Int32) (H : Heap) (locs : List Loc) (ls : Array Slot), lv_has ls 3 [(0, .ref (ad o)), (1, .int a1), (2, .int a2)] → WD D cy ad s M H locs → (lp (fun _ _ => none) (f_X1_needNamed_2 o M) n9) a1 a2 = some z → W p l e R s m args below meth c H locs 0 0 Q (F0 m 2 ls []) := by
    intro n9
    refine lp_ind (fun (rec2 : Int32 → Int32 → Option Int32) => ∀ (a1 : Int32) (a2 : Int32) (H : Heap) (locs : List Loc) (ls : Array Slot), lv_has ls 3 [(0, .ref (ad o)), (1, .int a1), (2, .int a2)] → WD D cy ad s M H locs → rec2 a1 a2 = some z → W p l e R s m args below meth c H locs 0 0 Q (F0 m 2 ls [])) ?_ ?_ n9
    · intro a1 a2 H locs ls hl hw hF
      exact nomatch hF
    · intro rec2 hr2 a1 a2 H locs ls hl hw hF
      unfold f_X1_needNamed_2 at hF
      refine lv_iload_n hx hb dX1_needNamed_2 rfl (lv_at hl 2 rfl) ?_
      refine lv_aload_n hx hb dX1_needNamed_3 rfl (lv_at hl 0 rfl) ?_
      refine gX1_get fx hw ho.O 13 (by decide) wd1_63 rfl dX1_needNamed_4 ?_
      refine lv_icmp_ge (tgt := 28) hx hb dX1_needNamed_7 (by decide) (fun hc7 => ?_) (fun hc7 => ?_)
      · replace hF := st_t hc7 hF
        refine lv_iconst (v := (-1)) hx hb dX1_needNamed_28 (by decide) ?_
        exact E _ _ _ _ _ dX1_needNamed_29 hw hF
      · replace hF := st_f hc7 hF
        refine lv_aload_n hx hb dX1_needNamed_10 rfl (lv_at hl 0 rfl) ?_
        refine gX1_get fx hw ho.O 8 (by decide) wd1_52 rfl dX1_needNamed_11 ?_
        refine lv_iload_n hx hb dX1_needNamed_14 rfl (lv_at hl 2 rfl) ?_
        obtain ⟨hi3, hF⟩ := st_chk hF
        refine g_iald fx hw ho.a9 hi3 dX1_needNamed_15 ?_
        refine lv_iload_n hx hb dX1_needNamed_16 rfl (lv_at hl 1 rfl) ?_
        refine lv_icmp_ne (tgt := 22) hx hb dX1_needNamed_17 (by decide) (fun hc17 => ?_) (fun hc17 => ?_)
        · replace hF := st_f hc17 hF
          refine lv_iinc (v := (a2 + 1)) (lv' := [(2, .int (a2 + 1)), (0, .ref (ad o)), (1, .int a1)]) hx hb dX1_needNamed_22 hl (k := 2) rfl rfl (by decide) rfl (fun ls hl => ?_)
          refine lv_goto (tgt := 2) hx hb dX1_needNamed_25 (by decide) ?_
          exact hr2 a1 (a2 + 1) H locs ls (lv_sub hl [1, 2, 0] rfl) hw hF
        · replace hF := st_t hc17 hF
          refine lv_iload_n hx hb dX1_needNamed_20 rfl (lv_at hl 2 rfl) ?_
          exact E _ _ _ _ _ dX1_needNamed_21 hw hF
  unfold f_X1_needNamed at hF
  refine lv_iconst (v := 0) hx hb dX1_needNamed_0 (by decide) ?_
  refine lv_istore_n (lv' := [(2, .int 0), (0, .ref (ad o)), (1, .int p1)]) hx hb dX1_needNamed_1 rfl hl (by decide) rfl (fun ls hl => ?_)
  exact n_2 FU p1 0 H locs ls (lv_sub hl [1, 2, 0] rfl) hw hF
theorem c_X1_needNamed (l : Launch) (x : SX) (D : va_G) (cy : Nat → ClassId) (ad : Nat → Nat) (o : Nat) (ho : isH o) (p1 : Int32) (sz : Nat) (M : Mem) (z : Int32) (hF : f_X1_needNamed o p1 M = some z) : Met l yX1_needNamed (.code yX1_needNamed cX1_needNamed 3 (some .int) :: GB) ({ frames := 0, cells := 0, slots := 0, locals := 0 } : Room) (PcW D cy ad x sz M [.ref (ad o), .int p1]) (QiW D cy ad sz z M) 0 0 (AA ad sz) := by
  refine mk_m (own := RX1) (by decide) rfl (Nat.le_of_ble_eq_true rfl) ?_
  intro p e s m args below meth c ls fx hw hl hsz
  subst hsz
  exact b_X1_needNamed fx ⟨Nat.le_refl _, Nat.le_refl _, Nat.le_refl _, Nat.le_refl _⟩ o ho p1 M z hF (fun pc ls H locs v hd hw h => by cases h; exact g_iret fx hw rfl hd) _ _ ls hl hw
noncomputable def f_X1_isMember (p1 p2 : Int32) (M : Mem) : Option Int32 := (if (p2 &&& (ishl 1 p1)) = 0 then (some 0) else (some 1))
set_option maxHeartbeats 4000000 in
set_option maxRecDepth 100000 in
theorem b_X1_isMember {p : Program} {l : Launch} {e : Env} {R : Room} {s : State} {m : MethodId} {args : Array Value} {below : List Frame} {meth : Method} {c : Code} {Q : State → Prop} {D : va_G} {cy : Nat → ClassId} {ad : Nat → Nat} {x : SX} (fx : FX p s m args meth c cX1_isMember 2 (some .boolean) RX1 D cy ad x) (hR : 0 ≤ R.frames ∧ 0 ≤ R.locals ∧ 0 ≤ R.cells ∧ 0 ≤ R.slots) (p1 p2 : Int32) (M : Mem) (z : Int32) (hF : f_X1_isMember p1 p2 M = some z) (E : ∀ (pc : Nat) (ls : Array Slot) (H : Heap) (locs : List Loc) (v : Int32), decode cX1_isMember pc = .ok (.ireturn, 1) → (v = 0 ∨ v = 1) → WD D cy ad s M H locs → some v = some z → W p l e R s m args below meth c H locs 0 0 Q (F0 m pc ls [.int v])) (H : Heap) (locs : List Loc) (ls : Array Slot) (hl : lv_has ls 2 [(0, .int p1), (1, .int p2)]) (hw : WD D cy ad s M H locs) : W p l e R s m args below meth c H locs 0 0 Q (F0 m 0 ls []) := by
  have hx := fx.1.1
  have hb := fx.1.2.1
  have hown := fx.1.2.2.2.1
  have hts := fx.1.2.2.2.2
  unfold f_X1_isMember at hF
  refine lv_iload_n hx hb dX1_isMember_0 rfl (lv_at hl 1 rfl) ?_
  refine lv_iconst (v := 1) hx hb dX1_isMember_1 (by decide) ?_
  refine lv_iload_n hx hb dX1_isMember_2 rfl (lv_at hl 0 rfl) ?_
  refine g_ishl hx hb dX1_isMember_3 ?_
  refine lv_iand hx hb dX1_isMember_4 ?_
  refine lv_if_eq (tgt := 12) hx hb dX1_isMember_5 (by decide) (fun hc5 => ?_) (fun hc5 => ?_)
  · replace hF := st_t hc5 hF
    refine lv_iconst (v := 0) hx hb dX1_isMember_12 (by decide) ?_
    exact E _ _ _ _ _ dX1_isMember_13 (Or.inl rfl) hw hF
  · replace hF := st_f hc5 hF
    refine lv_iconst (v := 1) hx hb dX1_isMember_8 (by decide) ?_
    refine lv_goto (tgt := 13) hx hb dX1_isMember_9 (by decide) ?_
    exact E _ _ _ _ _ dX1_isMember_13 (Or.inr rfl) hw hF
theorem c_X1_isMember (l : Launch) (x : SX) (D : va_G) (cy : Nat → ClassId) (ad : Nat → Nat) (p1 p2 : Int32) (sz : Nat) (M : Mem) (z : Int32) (hF : f_X1_isMember p1 p2 M = some z) : Met l yX1_isMember (.code yX1_isMember cX1_isMember 2 (some .boolean) :: GB) ({ frames := 0, cells := 0, slots := 0, locals := 0 } : Room) (PcW D cy ad x sz M [.int p1, .int p2]) (QzW D cy ad sz z M) 0 0 (AA ad sz) := by
  refine mk_m (own := RX1) (by decide) rfl (Nat.le_of_ble_eq_true rfl) ?_
  intro p e s m args below meth c ls fx hw hl hsz
  subst hsz
  exact b_X1_isMember fx ⟨Nat.le_refl _, Nat.le_refl _, Nat.le_refl _, Nat.le_refl _⟩ p1 p2 M z hF (fun pc ls H locs v hd hb hw h => by cases h; exact g_zret fx hw rfl hb hd) _ _ ls hl hw
noncomputable def f_X1_sumOf_4 (o q1 : Nat) (M : Mem) (rec4 : Int32 → Int32 → Option Int32) : Int32 → Int32 → Option Int32 := fun a2 a3 => (if (M o 12) ≤ a3 then (some a2) else (chk (inB a3 12) (rec4 (a2 + (M q1 (ix a3))) (a3 + 1))))
noncomputable def f_X1_sumOf (o q1 : Nat) (M : Mem) : Option Int32 := ((lp (fun _ _ => none) (f_X1_sumOf_4 o q1 M) FU) 0 0)
set_option maxHeartbeats 4000000 in
set_option maxRecDepth 100000 in
theorem b_X1_sumOf {p : Program} {l : Launch} {e : Env} {R : Room} {s : State} {m : MethodId} {args : Array Value} {below : List Frame} {meth : Method} {c : Code} {Q : State → Prop} {D : va_G} {cy : Nat → ClassId} {ad : Nat → Nat} {x : SX} (fx : FX p s m args meth c cX1_sumOf 4 (some .int) RX1 D cy ad x) (hR : 0 ≤ R.frames ∧ 0 ≤ R.locals ∧ 0 ≤ R.cells ∧ 0 ≤ R.slots) (o q1 : Nat) (ho : isH o) (hq1 : isA q1 12) (M : Mem) (z : Int32) (hF : f_X1_sumOf o q1 M = some z) (E : ∀ (pc : Nat) (ls : Array Slot) (H : Heap) (locs : List Loc) (v : Int32), decode cX1_sumOf pc = .ok (.ireturn, 1) → WD D cy ad s M H locs → some v = some z → W p l e R s m args below meth c H locs 0 0 Q (F0 m pc ls [.int v])) (H : Heap) (locs : List Loc) (ls : Array Slot) (hl : lv_has ls 4 [(0, .ref (ad o)), (1, .ref (ad q1))]) (hw : WD D cy ad s M H locs) : W p l e R s m args below meth c H locs 0 0 Q (F0 m 0 ls []) := by
  have hx := fx.1.1
  have hb := fx.1.2.1
  have hown := fx.1.2.2.2.1
  have hts := fx.1.2.2.2.2
  have n_4 : ∀ (n9 : Nat), ∀ (a2 : Int32) (a3 : Int32) (H : Heap) (locs : List Loc) (ls : Array Slot), lv_has ls 4 [(0, .ref (ad o)), (1, .ref (ad q1)), (2, .int a2), (3, .int a3)] → WD D cy ad s M H locs → (lp (fun _ _ => none) (f_X1_sumOf_4 o q1 M) n9) a2 a3 = some z → W p l e R s m args below meth c H locs 0 0 Q (F0 m 4 ls []) := by
    intro n9
    refine lp_ind (fun (rec4 : Int32 → Int32 → Option Int32) => ∀ (a2 : Int32) (a3 : Int32) (H : Heap) (locs : List Loc) (ls : Array Slot), lv_has ls 4 [(0, .ref (ad o)), (1, .ref (ad q1)), (2, .int a2), (3, .int a3)] → WD D cy ad s M H locs → rec4 a2 a3 = some z → W p l e R s m args below meth c H locs 0 0 Q (F0 m 4 ls [])) ?_ ?_ n9
    · intro a2 a3 H locs ls hl hw hF
      exact nomatch hF
    · intro rec4 hr4 a2 a3 H locs ls hl hw hF
      unfold f_X1_sumOf_4 at hF
      refine lv_iload_n hx hb dX1_sumOf_4 rfl (lv_at hl 3 rfl) ?_
      refine lv_aload_n hx hb dX1_sumOf_5 rfl (lv_at hl 0 rfl) ?_
      refine gX1_get fx hw ho.O 12 (by decide) wd1_61 rfl dX1_sumOf_6 ?_
      refine lv_icmp_ge (tgt := 24) hx hb dX1_sumOf_9 (by decide) (fun hc9 => ?_) (fun hc9 => ?_)
      · replace hF := st_t hc9 hF
        refine lv_iload_n hx hb dX1_sumOf_24 rfl (lv_at hl 2 rfl) ?_
        exact E _ _ _ _ _ dX1_sumOf_25 hw hF
      · replace hF := st_f hc9 hF
        refine lv_iload_n hx hb dX1_sumOf_12 rfl (lv_at hl 2 rfl) ?_
        refine lv_aload_n hx hb dX1_sumOf_13 rfl (lv_at hl 1 rfl) ?_
        refine lv_iload_n hx hb dX1_sumOf_14 rfl (lv_at hl 3 rfl) ?_
        obtain ⟨hi3, hF⟩ := st_chk hF
        refine g_iald fx hw hq1 hi3 dX1_sumOf_15 ?_
        refine lv_iadd hx hb dX1_sumOf_16 ?_
        refine lv_istore_n (lv' := [(2, .int (a2 + (M q1 (ix a3)))), (0, .ref (ad o)), (1, .ref (ad q1)), (3, .int a3)]) hx hb dX1_sumOf_17 rfl hl (by decide) rfl (fun ls hl => ?_)
        refine lv_iinc (v := (a3 + 1)) (lv' := [(3, .int (a3 + 1)), (2, .int (a2 + (M q1 (ix a3)))), (0, .ref (ad o)), (1, .ref (ad q1))]) hx hb dX1_sumOf_18 hl (k := 3) rfl rfl (by decide) rfl (fun ls hl => ?_)
        refine lv_goto (tgt := 4) hx hb dX1_sumOf_21 (by decide) ?_
        exact hr4 (a2 + (M q1 (ix a3))) (a3 + 1) H locs ls (lv_sub hl [2, 3, 1, 0] rfl) hw hF
  unfold f_X1_sumOf at hF
  refine lv_iconst (v := 0) hx hb dX1_sumOf_0 (by decide) ?_
  refine lv_istore_n (lv' := [(2, .int 0), (0, .ref (ad o)), (1, .ref (ad q1))]) hx hb dX1_sumOf_1 rfl hl (by decide) rfl (fun ls hl => ?_)
  refine lv_iconst (v := 0) hx hb dX1_sumOf_2 (by decide) ?_
  refine lv_istore_n (lv' := [(3, .int 0), (2, .int 0), (0, .ref (ad o)), (1, .ref (ad q1))]) hx hb dX1_sumOf_3 rfl hl (by decide) rfl (fun ls hl => ?_)
  exact n_4 FU 0 0 H locs ls (lv_sub hl [2, 3, 1, 0] rfl) hw hF
theorem c_X1_sumOf (l : Launch) (x : SX) (D : va_G) (cy : Nat → ClassId) (ad : Nat → Nat) (o q1 : Nat) (ho : isH o) (hq1 : isA q1 12) (sz : Nat) (M : Mem) (z : Int32) (hF : f_X1_sumOf o q1 M = some z) : Met l yX1_sumOf (.code yX1_sumOf cX1_sumOf 4 (some .int) :: GB) ({ frames := 0, cells := 0, slots := 0, locals := 0 } : Room) (PcW D cy ad x sz M [.ref (ad o), .ref (ad q1)]) (QiW D cy ad sz z M) 0 0 (AA ad sz) := by
  refine mk_m (own := RX1) (by decide) rfl (Nat.le_of_ble_eq_true rfl) ?_
  intro p e s m args below meth c ls fx hw hl hsz
  subst hsz
  exact b_X1_sumOf fx ⟨Nat.le_refl _, Nat.le_refl _, Nat.le_refl _, Nat.le_refl _⟩ o q1 ho hq1 M z hF (fun pc ls H locs v hd hw h => by cases h; exact g_iret fx hw rfl hd) _ _ ls hl hw
noncomputable def f_X1_membersOf_4 (o q1 : Nat) (M : Mem) (rec4 : Int32 → Int32 → Option Int32) : Int32 → Int32 → Option Int32 := fun a2 a3 => (if (M o 12) ≤ a3 then (some a2) else (chk (inB a3 12) (bnd (f_J6_bitCount_0f7a4 (M q1 (ix a3)) M) (fun r6 => (rec4 (a2 + r6) (a3 + 1))))))
noncomputable def f_X1_membersOf (o q1 : Nat) (M : Mem) : Option Int32 := ((lp (fun _ _ => none) (f_X1_membersOf_4 o q1 M) FU) 0 0)
set_option maxHeartbeats 4000000 in
set_option maxRecDepth 100000 in
theorem b_X1_membersOf {p : Program} {l : Launch} {e : Env} {R : Room} {s : State} {m : MethodId} {args : Array Value} {below : List Frame} {meth : Method} {c : Code} {Q : State → Prop} {D : va_G} {cy : Nat → ClassId} {ad : Nat → Nat} {x : SX} (fx : FX p s m args meth c cX1_membersOf 4 (some .int) RX1 D cy ad x) (hR : 1 ≤ R.frames ∧ 20 ≤ R.locals ∧ 0 ≤ R.cells ∧ 0 ≤ R.slots) (o q1 : Nat) (ho : isH o) (hq1 : isA q1 12) (M : Mem) (z : Int32) (hF : f_X1_membersOf o q1 M = some z) (E : ∀ (pc : Nat) (ls : Array Slot) (H : Heap) (locs : List Loc) (v : Int32), decode cX1_membersOf pc = .ok (.ireturn, 1) → WD D cy ad s M H locs → some v = some z → W p l e R s m args below meth c H locs 0 0 Q (F0 m pc ls [.int v])) (H : Heap) (locs : List Loc) (ls : Array Slot) (hl : lv_has ls 4 [(0, .ref (ad o)), (1, .ref (ad q1))]) (hw : WD D cy ad s M H locs) : W p l e R s m args below meth c H locs 0 0 Q (F0 m 0 ls []) := by
  have hx := fx.1.1
  have hb := fx.1.2.1
  have hown := fx.1.2.2.2.1
  have hts := fx.1.2.2.2.2
  have n_4 : ∀ (n9 : Nat), ∀ (a2 : Int32) (a3 : Int32) (H : Heap) (locs : List Loc) (ls : Array Slot), lv_has ls 4 [(0, .ref (ad o)), (1, .ref (ad q1)), (2, .int a2), (3, .int a3)] → WD D cy ad s M H locs → (lp (fun _ _ => none) (f_X1_membersOf_4 o q1 M) n9) a2 a3 = some z → W p l e R s m args below meth c H locs 0 0 Q (F0 m 4 ls []) := by
    intro n9
    refine lp_ind (fun (rec4 : Int32 → Int32 → Option Int32) => ∀ (a2 : Int32) (a3 : Int32) (H : Heap) (locs : List Loc) (ls : Array Slot), lv_has ls 4 [(0, .ref (ad o)), (1, .ref (ad q1)), (2, .int a2), (3, .int a3)] → WD D cy ad s M H locs → rec4 a2 a3 = some z → W p l e R s m args below meth c H locs 0 0 Q (F0 m 4 ls [])) ?_ ?_ n9
    · intro a2 a3 H locs ls hl hw hF
      exact nomatch hF
    · intro rec4 hr4 a2 a3 H locs ls hl hw hF
      unfold f_X1_membersOf_4 at hF
      refine lv_iload_n hx hb dX1_membersOf_4 rfl (lv_at hl 3 rfl) ?_
      refine lv_aload_n hx hb dX1_membersOf_5 rfl (lv_at hl 0 rfl) ?_
      refine gX1_get fx hw ho.O 12 (by decide) wd1_61 rfl dX1_membersOf_6 ?_
      refine lv_icmp_ge (tgt := 27) hx hb dX1_membersOf_9 (by decide) (fun hc9 => ?_) (fun hc9 => ?_)
      · replace hF := st_t hc9 hF
        refine lv_iload_n hx hb dX1_membersOf_27 rfl (lv_at hl 2 rfl) ?_
        exact E _ _ _ _ _ dX1_membersOf_28 hw hF
      · replace hF := st_f hc9 hF
        refine lv_iload_n hx hb dX1_membersOf_12 rfl (lv_at hl 2 rfl) ?_
        refine lv_aload_n hx hb dX1_membersOf_13 rfl (lv_at hl 1 rfl) ?_
        refine lv_iload_n hx hb dX1_membersOf_14 rfl (lv_at hl 3 rfl) ?_
        obtain ⟨hi5, hF⟩ := st_chk hF
        refine g_iald fx hw hq1 hi5 dX1_membersOf_15 ?_
        obtain ⟨r6, hgr6, hF⟩ := st_bnd hF
        refine g_ci hw (g_runS (As := [.int (M q1 (ix a3))]) (rest := [.int a2]) fx hw (c_J6_bitCount_0f7a4 l x D cy ad (M q1 (ix a3)) H.size M r6 hgr6) wd2_166 wd2_167 wd1_18 wd2_168 yd_J6_bitCount_0f7a4 rfl rfl (Nat.le_of_ble_eq_true rfl) hl.1 ⟨Nat.le_trans (Nat.le_of_ble_eq_true rfl) hR.1, Nat.le_trans (Nat.le_of_ble_eq_true rfl) hR.2.1⟩ ⟨Nat.le_trans (Nat.le_of_ble_eq_true rfl) hR.2.2.1, Nat.le_trans (Nat.le_of_ble_eq_true rfl) hR.2.2.2⟩ dX1_membersOf_16) (fun H locs hw => ?_)
        refine lv_iadd hx hb dX1_membersOf_19 ?_
        refine lv_istore_n (lv' := [(2, .int (a2 + r6)), (0, .ref (ad o)), (1, .ref (ad q1)), (3, .int a3)]) hx hb dX1_membersOf_20 rfl hl (by decide) rfl (fun ls hl => ?_)
        refine lv_iinc (v := (a3 + 1)) (lv' := [(3, .int (a3 + 1)), (2, .int (a2 + r6)), (0, .ref (ad o)), (1, .ref (ad q1))]) hx hb dX1_membersOf_21 hl (k := 3) rfl rfl (by decide) rfl (fun ls hl => ?_)
        refine lv_goto (tgt := 4) hx hb dX1_membersOf_24 (by decide) ?_
        exact hr4 (a2 + r6) (a3 + 1) H locs ls (lv_sub hl [2, 3, 1, 0] rfl) hw hF
  unfold f_X1_membersOf at hF
  refine lv_iconst (v := 0) hx hb dX1_membersOf_0 (by decide) ?_
  refine lv_istore_n (lv' := [(2, .int 0), (0, .ref (ad o)), (1, .ref (ad q1))]) hx hb dX1_membersOf_1 rfl hl (by decide) rfl (fun ls hl => ?_)
  refine lv_iconst (v := 0) hx hb dX1_membersOf_2 (by decide) ?_
  refine lv_istore_n (lv' := [(3, .int 0), (2, .int 0), (0, .ref (ad o)), (1, .ref (ad q1))]) hx hb dX1_membersOf_3 rfl hl (by decide) rfl (fun ls hl => ?_)
  exact n_4 FU 0 0 H locs ls (lv_sub hl [2, 3, 1, 0] rfl) hw hF
theorem c_X1_membersOf (l : Launch) (x : SX) (D : va_G) (cy : Nat → ClassId) (ad : Nat → Nat) (o q1 : Nat) (ho : isH o) (hq1 : isA q1 12) (sz : Nat) (M : Mem) (z : Int32) (hF : f_X1_membersOf o q1 M = some z) : Met l yX1_membersOf (.code yX1_membersOf cX1_membersOf 4 (some .int) :: GB) ({ frames := 1, cells := 0, slots := 0, locals := 20 } : Room) (PcW D cy ad x sz M [.ref (ad o), .ref (ad q1)]) (QiW D cy ad sz z M) 0 0 (AA ad sz) := by
  refine mk_m (own := RX1) (by decide) rfl (Nat.le_of_ble_eq_true rfl) ?_
  intro p e s m args below meth c ls fx hw hl hsz
  subst hsz
  exact b_X1_membersOf fx ⟨Nat.le_refl _, Nat.le_refl _, Nat.le_refl _, Nat.le_refl _⟩ o q1 ho hq1 M z hF (fun pc ls H locs v hd hw h => by cases h; exact g_iret fx hw rfl hd) _ _ ls hl hw
noncomputable def f_X1_monksWith_28 (o q2 : Nat) (M : Mem) (rec5 : Int32 → Int32 → Int32 → Option Int32) : Int32 → Int32 → Int32 → Option Int32 := fun a1 a3 a4 => (rec5 a1 a3 (a4 + 1))
noncomputable def f_X1_monksWith_5 (o q2 : Nat) (M : Mem) (rec5 : Int32 → Int32 → Int32 → Option Int32) : Int32 → Int32 → Int32 → Option Int32 := fun a1 a3 a4 => (if (M o 12) ≤ a4 then (some a3) else (chk (inB a4 12) (bnd (f_X1_isMember a1 (M q2 (ix a4)) M) (fun r6 => (if r6 = 0 then ((f_X1_monksWith_28 o q2 M rec5) a1 a3 a4) else ((f_X1_monksWith_28 o q2 M rec5) a1 (a3 + 1) a4))))))
noncomputable def f_X1_monksWith (o q2 : Nat) (p1 : Int32) (M : Mem) : Option Int32 := ((lp (fun _ _ _ => none) (f_X1_monksWith_5 o q2 M) FU) p1 0 0)
set_option maxHeartbeats 4000000 in
set_option maxRecDepth 100000 in
theorem b_X1_monksWith {p : Program} {l : Launch} {e : Env} {R : Room} {s : State} {m : MethodId} {args : Array Value} {below : List Frame} {meth : Method} {c : Code} {Q : State → Prop} {D : va_G} {cy : Nat → ClassId} {ad : Nat → Nat} {x : SX} (fx : FX p s m args meth c cX1_monksWith 5 (some .int) RX1 D cy ad x) (hR : 1 ≤ R.frames ∧ 21 ≤ R.locals ∧ 0 ≤ R.cells ∧ 0 ≤ R.slots) (o q2 : Nat) (ho : isH o) (hq2 : isA q2 12) (p1 : Int32) (M : Mem) (z : Int32) (hF : f_X1_monksWith o q2 p1 M = some z) (E : ∀ (pc : Nat) (ls : Array Slot) (H : Heap) (locs : List Loc) (v : Int32), decode cX1_monksWith pc = .ok (.ireturn, 1) → WD D cy ad s M H locs → some v = some z → W p l e R s m args below meth c H locs 0 0 Q (F0 m pc ls [.int v])) (H : Heap) (locs : List Loc) (ls : Array Slot) (hl : lv_has ls 5 [(0, .ref (ad o)), (1, .int p1), (2, .ref (ad q2))]) (hw : WD D cy ad s M H locs) : W p l e R s m args below meth c H locs 0 0 Q (F0 m 0 ls []) := by
  have hx := fx.1.1
  have hb := fx.1.2.1
  have hown := fx.1.2.2.2.1
  have hts := fx.1.2.2.2.2
  have n_28 : ∀ (rec5 : Int32 → Int32 → Int32 → Option Int32) (_ : ∀ (a1 : Int32) (a3 : Int32) (a4 : Int32) (H : Heap) (locs : List Loc) (ls : Array Slot), lv_has ls 5 [(0, .ref (ad o)), (1, .int a1), (2, .ref (ad q2)), (3, .int a3), (4, .int a4)] → WD D cy ad s M H locs → rec5 a1 a3 a4 = some z → W p l e R s m args below meth c H locs 0 0 Q (F0 m 5 ls [])) , ∀ (a1 : Int32) (a3 : Int32) (a4 : Int32) (H : Heap) (locs : List Loc) (ls : Array Slot), lv_has ls 5 [(0, .ref (ad o)), (1, .int a1), (2, .ref (ad q2)), (3, .int a3), (4, .int a4)] → WD D cy ad s M H locs → f_X1_monksWith_28 o q2 M rec5 a1 a3 a4 = some z → W p l e R s m args below meth c H locs 0 0 Q (F0 m 28 ls []) := by
    intro rec5 hr5 a1 a3 a4 H locs ls hl hw hF
    unfold f_X1_monksWith_28 at hF
    refine lv_iinc (v := (a4 + 1)) (lv' := [(4, .int (a4 + 1)), (0, .ref (ad o)), (1, .int a1), (2, .ref (ad q2)), (3, .int a3)]) hx hb dX1_monksWith_28 hl (k := 4) rfl rfl (by decide) rfl (fun ls hl => ?_)
    refine lv_goto (tgt := 5) hx hb dX1_monksWith_31 (by decide) ?_
    exact hr5 a1 a3 (a4 + 1) H locs ls (lv_sub hl [1, 2, 3, 4, 0] rfl) hw hF
  have n_5 : ∀ (n9 : Nat), ∀ (a1 : Int32) (a3 : Int32) (a4 : Int32) (H : Heap) (locs : List Loc) (ls : Array Slot), lv_has ls 5 [(0, .ref (ad o)), (1, .int a1), (2, .ref (ad q2)), (3, .int a3), (4, .int a4)] → WD D cy ad s M H locs → (lp (fun _ _ _ => none) (f_X1_monksWith_5 o q2 M) n9) a1 a3 a4 = some z → W p l e R s m args below meth c H locs 0 0 Q (F0 m 5 ls []) := by
    intro n9
    refine lp_ind (fun (rec5 : Int32 → Int32 → Int32 → Option Int32) => ∀ (a1 : Int32) (a3 : Int32) (a4 : Int32) (H : Heap) (locs : List Loc) (ls : Array Slot), lv_has ls 5 [(0, .ref (ad o)), (1, .int a1), (2, .ref (ad q2)), (3, .int a3), (4, .int a4)] → WD D cy ad s M H locs → rec5 a1 a3 a4 = some z → W p l e R s m args below meth c H locs 0 0 Q (F0 m 5 ls [])) ?_ ?_ n9
    · intro a1 a3 a4 H locs ls hl hw hF
      exact nomatch hF
    · intro rec5 hr5 a1 a3 a4 H locs ls hl hw hF
      unfold f_X1_monksWith_5 at hF
      refine lv_iload hx hb dX1_monksWith_5 (lv_at hl 4 rfl) ?_
      refine lv_aload_n hx hb dX1_monksWith_7 rfl (lv_at hl 0 rfl) ?_
      refine gX1_get fx hw ho.O 12 (by decide) wd1_61 rfl dX1_monksWith_8 ?_
      refine lv_icmp_ge (tgt := 34) hx hb dX1_monksWith_11 (by decide) (fun hc11 => ?_) (fun hc11 => ?_)
      · replace hF := st_t hc11 hF
        refine lv_iload_n hx hb dX1_monksWith_34 rfl (lv_at hl 3 rfl) ?_
        exact E _ _ _ _ _ dX1_monksWith_35 hw hF
      · replace hF := st_f hc11 hF
        refine lv_iload_n hx hb dX1_monksWith_14 rfl (lv_at hl 1 rfl) ?_
        refine lv_aload_n hx hb dX1_monksWith_15 rfl (lv_at hl 2 rfl) ?_
        refine lv_iload hx hb dX1_monksWith_16 (lv_at hl 4 rfl) ?_
        obtain ⟨hi5, hF⟩ := st_chk hF
        refine g_iald fx hw hq2 hi5 dX1_monksWith_18 ?_
        obtain ⟨r6, hgr6, hF⟩ := st_bnd hF
        refine g_cz hw (g_runS (As := [.int a1, .int (M q2 (ix a4))]) (rest := []) fx hw (c_X1_isMember l x D cy ad a1 (M q2 (ix a4)) H.size M r6 hgr6) wd2_157 wd2_126 wd1_2 wd2_127 yd_X1_isMember rfl rfl (Nat.le_of_ble_eq_true rfl) hl.1 ⟨Nat.le_trans (Nat.le_of_ble_eq_true rfl) hR.1, Nat.le_trans (Nat.le_of_ble_eq_true rfl) hR.2.1⟩ ⟨Nat.le_trans (Nat.le_of_ble_eq_true rfl) hR.2.2.1, Nat.le_trans (Nat.le_of_ble_eq_true rfl) hR.2.2.2⟩ dX1_monksWith_19) (fun H locs hbr6 hw => ?_)
        refine lv_if_eq (tgt := 28) hx hb dX1_monksWith_22 (by decide) (fun hc22 => ?_) (fun hc22 => ?_)
        · replace hF := st_t hc22 hF
          exact n_28 rec5 hr5 a1 a3 a4 H locs ls (lv_sub hl [0, 1, 2, 3, 4] rfl) hw hF
        · replace hF := st_f hc22 hF
          refine lv_iinc (v := (a3 + 1)) (lv' := [(3, .int (a3 + 1)), (0, .ref (ad o)), (1, .int a1), (2, .ref (ad q2)), (4, .int a4)]) hx hb dX1_monksWith_25 hl (k := 3) rfl rfl (by decide) rfl (fun ls hl => ?_)
          exact n_28 rec5 hr5 a1 (a3 + 1) a4 H locs ls (lv_sub hl [1, 2, 3, 0, 4] rfl) hw hF
  unfold f_X1_monksWith at hF
  refine lv_iconst (v := 0) hx hb dX1_monksWith_0 (by decide) ?_
  refine lv_istore_n (lv' := [(3, .int 0), (0, .ref (ad o)), (1, .int p1), (2, .ref (ad q2))]) hx hb dX1_monksWith_1 rfl hl (by decide) rfl (fun ls hl => ?_)
  refine lv_iconst (v := 0) hx hb dX1_monksWith_2 (by decide) ?_
  refine lv_istore (lv' := [(4, .int 0), (3, .int 0), (0, .ref (ad o)), (1, .int p1), (2, .ref (ad q2))]) hx hb dX1_monksWith_3 hl (by decide) rfl (fun ls hl => ?_)
  exact n_5 FU p1 0 0 H locs ls (lv_sub hl [2, 3, 4, 1, 0] rfl) hw hF
theorem c_X1_monksWith (l : Launch) (x : SX) (D : va_G) (cy : Nat → ClassId) (ad : Nat → Nat) (o q2 : Nat) (ho : isH o) (hq2 : isA q2 12) (p1 : Int32) (sz : Nat) (M : Mem) (z : Int32) (hF : f_X1_monksWith o q2 p1 M = some z) : Met l yX1_monksWith (.code yX1_monksWith cX1_monksWith 5 (some .int) :: GB) ({ frames := 1, cells := 0, slots := 0, locals := 21 } : Room) (PcW D cy ad x sz M [.ref (ad o), .int p1, .ref (ad q2)]) (QiW D cy ad sz z M) 0 0 (AA ad sz) := by
  refine mk_m (own := RX1) (by decide) rfl (Nat.le_of_ble_eq_true rfl) ?_
  intro p e s m args below meth c ls fx hw hl hsz
  subst hsz
  exact b_X1_monksWith fx ⟨Nat.le_refl _, Nat.le_refl _, Nat.le_refl _, Nat.le_refl _⟩ o q2 ho hq2 p1 M z hF (fun pc ls H locs v hd hw h => by cases h; exact g_iret fx hw rfl hd) _ _ ls hl hw
noncomputable def f_X1_othersWhoKnowAllOf_38 (o : Nat) (M : Mem) (rec4 : Int32 → Int32 → Int32 → Option Int32) : Int32 → Int32 → Int32 → Option Int32 := fun a1 a2 a3 => (rec4 a1 a2 (a3 + 1))
noncomputable def f_X1_othersWhoKnowAllOf_4 (o : Nat) (M : Mem) (rec4 : Int32 → Int32 → Int32 → Option Int32) : Int32 → Int32 → Int32 → Option Int32 := fun a1 a2 a3 => (if (M o 12) ≤ a3 then (some a2) else (if a3 = a1 then ((f_X1_othersWhoKnowAllOf_38 o M rec4) a1 a2 a3) else (chk (inB a1 12) (chk (inB a3 12) (if ((M (o + 3) (ix a1)) &&& ((M (o + 3) (ix a3)) ^^^ (-1))) = 0 then ((f_X1_othersWhoKnowAllOf_38 o M rec4) a1 (a2 + 1) a3) else ((f_X1_othersWhoKnowAllOf_38 o M rec4) a1 a2 a3))))))
noncomputable def f_X1_othersWhoKnowAllOf (o : Nat) (p1 : Int32) (M : Mem) : Option Int32 := ((lp (fun _ _ _ => none) (f_X1_othersWhoKnowAllOf_4 o M) FU) p1 0 0)
set_option maxHeartbeats 4000000 in
set_option maxRecDepth 100000 in
theorem b_X1_othersWhoKnowAllOf {p : Program} {l : Launch} {e : Env} {R : Room} {s : State} {m : MethodId} {args : Array Value} {below : List Frame} {meth : Method} {c : Code} {Q : State → Prop} {D : va_G} {cy : Nat → ClassId} {ad : Nat → Nat} {x : SX} (fx : FX p s m args meth c cX1_othersWhoKnowAllOf 4 (some .int) RX1 D cy ad x) (hR : 0 ≤ R.frames ∧ 0 ≤ R.locals ∧ 0 ≤ R.cells ∧ 0 ≤ R.slots) (o : Nat) (ho : isH o) (p1 : Int32) (M : Mem) (z : Int32) (hF : f_X1_othersWhoKnowAllOf o p1 M = some z) (E : ∀ (pc : Nat) (ls : Array Slot) (H : Heap) (locs : List Loc) (v : Int32), decode cX1_othersWhoKnowAllOf pc = .ok (.ireturn, 1) → WD D cy ad s M H locs → some v = some z → W p l e R s m args below meth c H locs 0 0 Q (F0 m pc ls [.int v])) (H : Heap) (locs : List Loc) (ls : Array Slot) (hl : lv_has ls 4 [(0, .ref (ad o)), (1, .int p1)]) (hw : WD D cy ad s M H locs) : W p l e R s m args below meth c H locs 0 0 Q (F0 m 0 ls []) := by
  have hx := fx.1.1
  have hb := fx.1.2.1
  have hown := fx.1.2.2.2.1
  have hts := fx.1.2.2.2.2
  have n_38 : ∀ (rec4 : Int32 → Int32 → Int32 → Option Int32) (_ : ∀ (a1 : Int32) (a2 : Int32) (a3 : Int32) (H : Heap) (locs : List Loc) (ls : Array Slot), lv_has ls 4 [(0, .ref (ad o)), (1, .int a1), (2, .int a2), (3, .int a3)] → WD D cy ad s M H locs → rec4 a1 a2 a3 = some z → W p l e R s m args below meth c H locs 0 0 Q (F0 m 4 ls [])) , ∀ (a1 : Int32) (a2 : Int32) (a3 : Int32) (H : Heap) (locs : List Loc) (ls : Array Slot), lv_has ls 4 [(0, .ref (ad o)), (1, .int a1), (2, .int a2), (3, .int a3)] → WD D cy ad s M H locs → f_X1_othersWhoKnowAllOf_38 o M rec4 a1 a2 a3 = some z → W p l e R s m args below meth c H locs 0 0 Q (F0 m 38 ls []) := by
    intro rec4 hr4 a1 a2 a3 H locs ls hl hw hF
    unfold f_X1_othersWhoKnowAllOf_38 at hF
    refine lv_iinc (v := (a3 + 1)) (lv' := [(3, .int (a3 + 1)), (0, .ref (ad o)), (1, .int a1), (2, .int a2)]) hx hb dX1_othersWhoKnowAllOf_38 hl (k := 3) rfl rfl (by decide) rfl (fun ls hl => ?_)
    refine lv_goto (tgt := 4) hx hb dX1_othersWhoKnowAllOf_41 (by decide) ?_
    exact hr4 a1 a2 (a3 + 1) H locs ls (lv_sub hl [1, 2, 3, 0] rfl) hw hF
  have n_4 : ∀ (n9 : Nat), ∀ (a1 : Int32) (a2 : Int32) (a3 : Int32) (H : Heap) (locs : List Loc) (ls : Array Slot), lv_has ls 4 [(0, .ref (ad o)), (1, .int a1), (2, .int a2), (3, .int a3)] → WD D cy ad s M H locs → (lp (fun _ _ _ => none) (f_X1_othersWhoKnowAllOf_4 o M) n9) a1 a2 a3 = some z → W p l e R s m args below meth c H locs 0 0 Q (F0 m 4 ls []) := by
    intro n9
    refine lp_ind (fun (rec4 : Int32 → Int32 → Int32 → Option Int32) => ∀ (a1 : Int32) (a2 : Int32) (a3 : Int32) (H : Heap) (locs : List Loc) (ls : Array Slot), lv_has ls 4 [(0, .ref (ad o)), (1, .int a1), (2, .int a2), (3, .int a3)] → WD D cy ad s M H locs → rec4 a1 a2 a3 = some z → W p l e R s m args below meth c H locs 0 0 Q (F0 m 4 ls [])) ?_ ?_ n9
    · intro a1 a2 a3 H locs ls hl hw hF
      exact nomatch hF
    · intro rec4 hr4 a1 a2 a3 H locs ls hl hw hF
      unfold f_X1_othersWhoKnowAllOf_4 at hF
      refine lv_iload_n hx hb dX1_othersWhoKnowAllOf_4 rfl (lv_at hl 3 rfl) ?_
      refine lv_aload_n hx hb dX1_othersWhoKnowAllOf_5 rfl (lv_at hl 0 rfl) ?_
      refine gX1_get fx hw ho.O 12 (by decide) wd1_61 rfl dX1_othersWhoKnowAllOf_6 ?_
      refine lv_icmp_ge (tgt := 44) hx hb dX1_othersWhoKnowAllOf_9 (by decide) (fun hc9 => ?_) (fun hc9 => ?_)
      · replace hF := st_t hc9 hF
        refine lv_iload_n hx hb dX1_othersWhoKnowAllOf_44 rfl (lv_at hl 2 rfl) ?_
        exact E _ _ _ _ _ dX1_othersWhoKnowAllOf_45 hw hF
      · replace hF := st_f hc9 hF
        refine lv_iload_n hx hb dX1_othersWhoKnowAllOf_12 rfl (lv_at hl 3 rfl) ?_
        refine lv_iload_n hx hb dX1_othersWhoKnowAllOf_13 rfl (lv_at hl 1 rfl) ?_
        refine lv_icmp_eq (tgt := 38) hx hb dX1_othersWhoKnowAllOf_14 (by decide) (fun hc14 => ?_) (fun hc14 => ?_)
        · replace hF := st_t hc14 hF
          exact n_38 rec4 hr4 a1 a2 a3 H locs ls (lv_sub hl [0, 1, 2, 3] rfl) hw hF
        · replace hF := st_f hc14 hF
          refine lv_aload_n hx hb dX1_othersWhoKnowAllOf_17 rfl (lv_at hl 0 rfl) ?_
          refine gX1_get fx hw ho.O 2 (by decide) wd1_40 rfl dX1_othersWhoKnowAllOf_18 ?_
          refine lv_iload_n hx hb dX1_othersWhoKnowAllOf_21 rfl (lv_at hl 1 rfl) ?_
          obtain ⟨hi5, hF⟩ := st_chk hF
          refine g_iald fx hw ho.a3 hi5 dX1_othersWhoKnowAllOf_22 ?_
          refine lv_aload_n hx hb dX1_othersWhoKnowAllOf_23 rfl (lv_at hl 0 rfl) ?_
          refine gX1_get fx hw ho.O 2 (by decide) wd1_40 rfl dX1_othersWhoKnowAllOf_24 ?_
          refine lv_iload_n hx hb dX1_othersWhoKnowAllOf_27 rfl (lv_at hl 3 rfl) ?_
          obtain ⟨hi6, hF⟩ := st_chk hF
          refine g_iald fx hw ho.a3 hi6 dX1_othersWhoKnowAllOf_28 ?_
          refine lv_iconst (v := (-1)) hx hb dX1_othersWhoKnowAllOf_29 (by decide) ?_
          refine lv_ixor hx hb dX1_othersWhoKnowAllOf_30 ?_
          refine lv_iand hx hb dX1_othersWhoKnowAllOf_31 ?_
          refine lv_if_ne (tgt := 38) hx hb dX1_othersWhoKnowAllOf_32 (by decide) (fun hc32 => ?_) (fun hc32 => ?_)
          · replace hF := st_f hc32 hF
            exact n_38 rec4 hr4 a1 a2 a3 H locs ls (lv_sub hl [0, 1, 2, 3] rfl) hw hF
          · replace hF := st_t hc32 hF
            refine lv_iinc (v := (a2 + 1)) (lv' := [(2, .int (a2 + 1)), (0, .ref (ad o)), (1, .int a1), (3, .int a3)]) hx hb dX1_othersWhoKnowAllOf_35 hl (k := 2) rfl rfl (by decide) rfl (fun ls hl => ?_)
            exact n_38 rec4 hr4 a1 (a2 + 1) a3 H locs ls (lv_sub hl [1, 2, 0, 3] rfl) hw hF
  unfold f_X1_othersWhoKnowAllOf at hF
  refine lv_iconst (v := 0) hx hb dX1_othersWhoKnowAllOf_0 (by decide) ?_
  refine lv_istore_n (lv' := [(2, .int 0), (0, .ref (ad o)), (1, .int p1)]) hx hb dX1_othersWhoKnowAllOf_1 rfl hl (by decide) rfl (fun ls hl => ?_)
  refine lv_iconst (v := 0) hx hb dX1_othersWhoKnowAllOf_2 (by decide) ?_
  refine lv_istore_n (lv' := [(3, .int 0), (2, .int 0), (0, .ref (ad o)), (1, .int p1)]) hx hb dX1_othersWhoKnowAllOf_3 rfl hl (by decide) rfl (fun ls hl => ?_)
  exact n_4 FU p1 0 0 H locs ls (lv_sub hl [2, 3, 1, 0] rfl) hw hF
theorem c_X1_othersWhoKnowAllOf (l : Launch) (x : SX) (D : va_G) (cy : Nat → ClassId) (ad : Nat → Nat) (o : Nat) (ho : isH o) (p1 : Int32) (sz : Nat) (M : Mem) (z : Int32) (hF : f_X1_othersWhoKnowAllOf o p1 M = some z) : Met l yX1_othersWhoKnowAllOf (.code yX1_othersWhoKnowAllOf cX1_othersWhoKnowAllOf 4 (some .int) :: GB) ({ frames := 0, cells := 0, slots := 0, locals := 0 } : Room) (PcW D cy ad x sz M [.ref (ad o), .int p1]) (QiW D cy ad sz z M) 0 0 (AA ad sz) := by
  refine mk_m (own := RX1) (by decide) rfl (Nat.le_of_ble_eq_true rfl) ?_
  intro p e s m args below meth c ls fx hw hl hsz
  subst hsz
  exact b_X1_othersWhoKnowAllOf fx ⟨Nat.le_refl _, Nat.le_refl _, Nat.le_refl _, Nat.le_refl _⟩ o ho p1 M z hF (fun pc ls H locs v hd hw h => by cases h; exact g_iret fx hw rfl hd) _ _ ls hl hw
noncomputable def f_X1_isAhead (o : Nat) (p1 p2 : Int32) (M : Mem) : Option Int32 := (chk (inB p1 12) (chk (inB p2 12) (if (M (o + 6) (ix p1)) = (M (o + 6) (ix p2)) then (chk (inB p1 12) (chk (inB p2 12) (if (M (o + 5) (ix p1)) = (M (o + 5) (ix p2)) then (if p2 ≤ p1 then (some 0) else (some 1)) else (chk (inB p1 12) (chk (inB p2 12) (if (M (o + 5) (ix p1)) ≤ (M (o + 5) (ix p2)) then (some 0) else (some 1))))))) else (chk (inB p1 12) (chk (inB p2 12) (if (M (o + 6) (ix p1)) ≤ (M (o + 6) (ix p2)) then (some 0) else (some 1)))))))
set_option maxHeartbeats 4000000 in
set_option maxRecDepth 100000 in
theorem b_X1_isAhead {p : Program} {l : Launch} {e : Env} {R : Room} {s : State} {m : MethodId} {args : Array Value} {below : List Frame} {meth : Method} {c : Code} {Q : State → Prop} {D : va_G} {cy : Nat → ClassId} {ad : Nat → Nat} {x : SX} (fx : FX p s m args meth c cX1_isAhead 3 (some .boolean) RX1 D cy ad x) (hR : 0 ≤ R.frames ∧ 0 ≤ R.locals ∧ 0 ≤ R.cells ∧ 0 ≤ R.slots) (o : Nat) (ho : isH o) (p1 p2 : Int32) (M : Mem) (z : Int32) (hF : f_X1_isAhead o p1 p2 M = some z) (E : ∀ (pc : Nat) (ls : Array Slot) (H : Heap) (locs : List Loc) (v : Int32), decode cX1_isAhead pc = .ok (.ireturn, 1) → (v = 0 ∨ v = 1) → WD D cy ad s M H locs → some v = some z → W p l e R s m args below meth c H locs 0 0 Q (F0 m pc ls [.int v])) (H : Heap) (locs : List Loc) (ls : Array Slot) (hl : lv_has ls 3 [(0, .ref (ad o)), (1, .int p1), (2, .int p2)]) (hw : WD D cy ad s M H locs) : W p l e R s m args below meth c H locs 0 0 Q (F0 m 0 ls []) := by
  have hx := fx.1.1
  have hb := fx.1.2.1
  have hown := fx.1.2.2.2.1
  have hts := fx.1.2.2.2.2
  unfold f_X1_isAhead at hF
  refine lv_aload_n hx hb dX1_isAhead_0 rfl (lv_at hl 0 rfl) ?_
  refine gX1_get fx hw ho.O 5 (by decide) wd1_46 rfl dX1_isAhead_1 ?_
  refine lv_iload_n hx hb dX1_isAhead_4 rfl (lv_at hl 1 rfl) ?_
  obtain ⟨hi9, hF⟩ := st_chk hF
  refine g_iald fx hw ho.a6 hi9 dX1_isAhead_5 ?_
  refine lv_aload_n hx hb dX1_isAhead_6 rfl (lv_at hl 0 rfl) ?_
  refine gX1_get fx hw ho.O 5 (by decide) wd1_46 rfl dX1_isAhead_7 ?_
  refine lv_iload_n hx hb dX1_isAhead_10 rfl (lv_at hl 2 rfl) ?_
  obtain ⟨hi10, hF⟩ := st_chk hF
  refine g_iald fx hw ho.a6 hi10 dX1_isAhead_11 ?_
  refine lv_icmp_eq (tgt := 36) hx hb dX1_isAhead_12 (by decide) (fun hc12 => ?_) (fun hc12 => ?_)
  · replace hF := st_t hc12 hF
    refine lv_aload_n hx hb dX1_isAhead_36 rfl (lv_at hl 0 rfl) ?_
    refine gX1_get fx hw ho.O 4 (by decide) wd1_44 rfl dX1_isAhead_37 ?_
    refine lv_iload_n hx hb dX1_isAhead_40 rfl (lv_at hl 1 rfl) ?_
    obtain ⟨hi11, hF⟩ := st_chk hF
    refine g_iald fx hw ho.a5 hi11 dX1_isAhead_41 ?_
    refine lv_aload_n hx hb dX1_isAhead_42 rfl (lv_at hl 0 rfl) ?_
    refine gX1_get fx hw ho.O 4 (by decide) wd1_44 rfl dX1_isAhead_43 ?_
    refine lv_iload_n hx hb dX1_isAhead_46 rfl (lv_at hl 2 rfl) ?_
    obtain ⟨hi12, hF⟩ := st_chk hF
    refine g_iald fx hw ho.a5 hi12 dX1_isAhead_47 ?_
    refine lv_icmp_eq (tgt := 72) hx hb dX1_isAhead_48 (by decide) (fun hc48 => ?_) (fun hc48 => ?_)
    · replace hF := st_t hc48 hF
      refine lv_iload_n hx hb dX1_isAhead_72 rfl (lv_at hl 1 rfl) ?_
      refine lv_iload_n hx hb dX1_isAhead_73 rfl (lv_at hl 2 rfl) ?_
      refine lv_icmp_ge (tgt := 81) hx hb dX1_isAhead_74 (by decide) (fun hc74 => ?_) (fun hc74 => ?_)
      · replace hF := st_t hc74 hF
        refine lv_iconst (v := 0) hx hb dX1_isAhead_81 (by decide) ?_
        exact E _ _ _ _ _ dX1_isAhead_82 (Or.inl rfl) hw hF
      · replace hF := st_f hc74 hF
        refine lv_iconst (v := 1) hx hb dX1_isAhead_77 (by decide) ?_
        refine lv_goto (tgt := 82) hx hb dX1_isAhead_78 (by decide) ?_
        exact E _ _ _ _ _ dX1_isAhead_82 (Or.inr rfl) hw hF
    · replace hF := st_f hc48 hF
      refine lv_aload_n hx hb dX1_isAhead_51 rfl (lv_at hl 0 rfl) ?_
      refine gX1_get fx hw ho.O 4 (by decide) wd1_44 rfl dX1_isAhead_52 ?_
      refine lv_iload_n hx hb dX1_isAhead_55 rfl (lv_at hl 1 rfl) ?_
      obtain ⟨hi13, hF⟩ := st_chk hF
      refine g_iald fx hw ho.a5 hi13 dX1_isAhead_56 ?_
      refine lv_aload_n hx hb dX1_isAhead_57 rfl (lv_at hl 0 rfl) ?_
      refine gX1_get fx hw ho.O 4 (by decide) wd1_44 rfl dX1_isAhead_58 ?_
      refine lv_iload_n hx hb dX1_isAhead_61 rfl (lv_at hl 2 rfl) ?_
      obtain ⟨hi14, hF⟩ := st_chk hF
      refine g_iald fx hw ho.a5 hi14 dX1_isAhead_62 ?_
      refine lv_icmp_le (tgt := 70) hx hb dX1_isAhead_63 (by decide) (fun hc63 => ?_) (fun hc63 => ?_)
      · replace hF := st_t hc63 hF
        refine lv_iconst (v := 0) hx hb dX1_isAhead_70 (by decide) ?_
        exact E _ _ _ _ _ dX1_isAhead_71 (Or.inl rfl) hw hF
      · replace hF := st_f hc63 hF
        refine lv_iconst (v := 1) hx hb dX1_isAhead_66 (by decide) ?_
        refine lv_goto (tgt := 71) hx hb dX1_isAhead_67 (by decide) ?_
        exact E _ _ _ _ _ dX1_isAhead_71 (Or.inr rfl) hw hF
  · replace hF := st_f hc12 hF
    refine lv_aload_n hx hb dX1_isAhead_15 rfl (lv_at hl 0 rfl) ?_
    refine gX1_get fx hw ho.O 5 (by decide) wd1_46 rfl dX1_isAhead_16 ?_
    refine lv_iload_n hx hb dX1_isAhead_19 rfl (lv_at hl 1 rfl) ?_
    obtain ⟨hi15, hF⟩ := st_chk hF
    refine g_iald fx hw ho.a6 hi15 dX1_isAhead_20 ?_
    refine lv_aload_n hx hb dX1_isAhead_21 rfl (lv_at hl 0 rfl) ?_
    refine gX1_get fx hw ho.O 5 (by decide) wd1_46 rfl dX1_isAhead_22 ?_
    refine lv_iload_n hx hb dX1_isAhead_25 rfl (lv_at hl 2 rfl) ?_
    obtain ⟨hi16, hF⟩ := st_chk hF
    refine g_iald fx hw ho.a6 hi16 dX1_isAhead_26 ?_
    refine lv_icmp_le (tgt := 34) hx hb dX1_isAhead_27 (by decide) (fun hc27 => ?_) (fun hc27 => ?_)
    · replace hF := st_t hc27 hF
      refine lv_iconst (v := 0) hx hb dX1_isAhead_34 (by decide) ?_
      exact E _ _ _ _ _ dX1_isAhead_35 (Or.inl rfl) hw hF
    · replace hF := st_f hc27 hF
      refine lv_iconst (v := 1) hx hb dX1_isAhead_30 (by decide) ?_
      refine lv_goto (tgt := 35) hx hb dX1_isAhead_31 (by decide) ?_
      exact E _ _ _ _ _ dX1_isAhead_35 (Or.inr rfl) hw hF
theorem c_X1_isAhead (l : Launch) (x : SX) (D : va_G) (cy : Nat → ClassId) (ad : Nat → Nat) (o : Nat) (ho : isH o) (p1 p2 : Int32) (sz : Nat) (M : Mem) (z : Int32) (hF : f_X1_isAhead o p1 p2 M = some z) : Met l yX1_isAhead (.code yX1_isAhead cX1_isAhead 3 (some .boolean) :: GB) ({ frames := 0, cells := 0, slots := 0, locals := 0 } : Room) (PcW D cy ad x sz M [.ref (ad o), .int p1, .int p2]) (QzW D cy ad sz z M) 0 0 (AA ad sz) := by
  refine mk_m (own := RX1) (by decide) rfl (Nat.le_of_ble_eq_true rfl) ?_
  intro p e s m args below meth c ls fx hw hl hsz
  subst hsz
  exact b_X1_isAhead fx ⟨Nat.le_refl _, Nat.le_refl _, Nat.le_refl _, Nat.le_refl _⟩ o ho p1 p2 M z hF (fun pc ls H locs v hd hb hw h => by cases h; exact g_zret fx hw rfl hb hd) _ _ ls hl hw
noncomputable def f_X1_monksAheadOf_24 (o : Nat) (M : Mem) (rec4 : Int32 → Int32 → Int32 → Option Int32) : Int32 → Int32 → Int32 → Option Int32 := fun a1 a2 a3 => (rec4 a1 a2 (a3 + 1))
noncomputable def f_X1_monksAheadOf_4 (o : Nat) (M : Mem) (rec4 : Int32 → Int32 → Int32 → Option Int32) : Int32 → Int32 → Int32 → Option Int32 := fun a1 a2 a3 => (if (M o 12) ≤ a3 then (some a2) else (bnd (f_X1_isAhead o a3 a1 M) (fun r3 => (if r3 = 0 then ((f_X1_monksAheadOf_24 o M rec4) a1 a2 a3) else ((f_X1_monksAheadOf_24 o M rec4) a1 (a2 + 1) a3)))))
noncomputable def f_X1_monksAheadOf (o : Nat) (p1 : Int32) (M : Mem) : Option Int32 := ((lp (fun _ _ _ => none) (f_X1_monksAheadOf_4 o M) FU) p1 0 0)
set_option maxHeartbeats 4000000 in
set_option maxRecDepth 100000 in
theorem b_X1_monksAheadOf {p : Program} {l : Launch} {e : Env} {R : Room} {s : State} {m : MethodId} {args : Array Value} {below : List Frame} {meth : Method} {c : Code} {Q : State → Prop} {D : va_G} {cy : Nat → ClassId} {ad : Nat → Nat} {x : SX} (fx : FX p s m args meth c cX1_monksAheadOf 4 (some .int) RX1 D cy ad x) (hR : 1 ≤ R.frames ∧ 22 ≤ R.locals ∧ 0 ≤ R.cells ∧ 0 ≤ R.slots) (o : Nat) (ho : isH o) (p1 : Int32) (M : Mem) (z : Int32) (hF : f_X1_monksAheadOf o p1 M = some z) (E : ∀ (pc : Nat) (ls : Array Slot) (H : Heap) (locs : List Loc) (v : Int32), decode cX1_monksAheadOf pc = .ok (.ireturn, 1) → WD D cy ad s M H locs → some v = some z → W p l e R s m args below meth c H locs 0 0 Q (F0 m pc ls [.int v])) (H : Heap) (locs : List Loc) (ls : Array Slot) (hl : lv_has ls 4 [(0, .ref (ad o)), (1, .int p1)]) (hw : WD D cy ad s M H locs) : W p l e R s m args below meth c H locs 0 0 Q (F0 m 0 ls []) := by
  have hx := fx.1.1
  have hb := fx.1.2.1
  have hown := fx.1.2.2.2.1
  have hts := fx.1.2.2.2.2
  have n_24 : ∀ (rec4 : Int32 → Int32 → Int32 → Option Int32) (_ : ∀ (a1 : Int32) (a2 : Int32) (a3 : Int32) (H : Heap) (locs : List Loc) (ls : Array Slot), lv_has ls 4 [(0, .ref (ad o)), (1, .int a1), (2, .int a2), (3, .int a3)] → WD D cy ad s M H locs → rec4 a1 a2 a3 = some z → W p l e R s m args below meth c H locs 0 0 Q (F0 m 4 ls [])) , ∀ (a1 : Int32) (a2 : Int32) (a3 : Int32) (H : Heap) (locs : List Loc) (ls : Array Slot), lv_has ls 4 [(0, .ref (ad o)), (1, .int a1), (2, .int a2), (3, .int a3)] → WD D cy ad s M H locs → f_X1_monksAheadOf_24 o M rec4 a1 a2 a3 = some z → W p l e R s m args below meth c H locs 0 0 Q (F0 m 24 ls []) := by
    intro rec4 hr4 a1 a2 a3 H locs ls hl hw hF
    unfold f_X1_monksAheadOf_24 at hF
    refine lv_iinc (v := (a3 + 1)) (lv' := [(3, .int (a3 + 1)), (0, .ref (ad o)), (1, .int a1), (2, .int a2)]) hx hb dX1_monksAheadOf_24 hl (k := 3) rfl rfl (by decide) rfl (fun ls hl => ?_)
    refine lv_goto (tgt := 4) hx hb dX1_monksAheadOf_27 (by decide) ?_
    exact hr4 a1 a2 (a3 + 1) H locs ls (lv_sub hl [1, 2, 3, 0] rfl) hw hF
  have n_4 : ∀ (n9 : Nat), ∀ (a1 : Int32) (a2 : Int32) (a3 : Int32) (H : Heap) (locs : List Loc) (ls : Array Slot), lv_has ls 4 [(0, .ref (ad o)), (1, .int a1), (2, .int a2), (3, .int a3)] → WD D cy ad s M H locs → (lp (fun _ _ _ => none) (f_X1_monksAheadOf_4 o M) n9) a1 a2 a3 = some z → W p l e R s m args below meth c H locs 0 0 Q (F0 m 4 ls []) := by
    intro n9
    refine lp_ind (fun (rec4 : Int32 → Int32 → Int32 → Option Int32) => ∀ (a1 : Int32) (a2 : Int32) (a3 : Int32) (H : Heap) (locs : List Loc) (ls : Array Slot), lv_has ls 4 [(0, .ref (ad o)), (1, .int a1), (2, .int a2), (3, .int a3)] → WD D cy ad s M H locs → rec4 a1 a2 a3 = some z → W p l e R s m args below meth c H locs 0 0 Q (F0 m 4 ls [])) ?_ ?_ n9
    · intro a1 a2 a3 H locs ls hl hw hF
      exact nomatch hF
    · intro rec4 hr4 a1 a2 a3 H locs ls hl hw hF
      unfold f_X1_monksAheadOf_4 at hF
      refine lv_iload_n hx hb dX1_monksAheadOf_4 rfl (lv_at hl 3 rfl) ?_
      refine lv_aload_n hx hb dX1_monksAheadOf_5 rfl (lv_at hl 0 rfl) ?_
      refine gX1_get fx hw ho.O 12 (by decide) wd1_61 rfl dX1_monksAheadOf_6 ?_
      refine lv_icmp_ge (tgt := 30) hx hb dX1_monksAheadOf_9 (by decide) (fun hc9 => ?_) (fun hc9 => ?_)
      · replace hF := st_t hc9 hF
        refine lv_iload_n hx hb dX1_monksAheadOf_30 rfl (lv_at hl 2 rfl) ?_
        exact E _ _ _ _ _ dX1_monksAheadOf_31 hw hF
      · replace hF := st_f hc9 hF
        refine lv_aload_n hx hb dX1_monksAheadOf_12 rfl (lv_at hl 0 rfl) ?_
        refine lv_iload_n hx hb dX1_monksAheadOf_13 rfl (lv_at hl 3 rfl) ?_
        refine lv_iload_n hx hb dX1_monksAheadOf_14 rfl (lv_at hl 1 rfl) ?_
        obtain ⟨r3, hgr3, hF⟩ := st_bnd hF
        refine g_cz hw (g_runV (C := RX1) (As := [.int a3, .int a1]) (rest := []) fx hw ho.O rfl (c_X1_isAhead l x D cy ad o ho a3 a1 H.size M r3 hgr3) wd3_73 wd3_75 wd0_35 wd1_2 wd3_76 yd_X1_isAhead rfl rfl (Nat.le_of_ble_eq_true rfl) hl.1 ⟨Nat.le_trans (Nat.le_of_ble_eq_true rfl) hR.1, Nat.le_trans (Nat.le_of_ble_eq_true rfl) hR.2.1⟩ ⟨Nat.le_trans (Nat.le_of_ble_eq_true rfl) hR.2.2.1, Nat.le_trans (Nat.le_of_ble_eq_true rfl) hR.2.2.2⟩ dX1_monksAheadOf_15) (fun H locs hbr3 hw => ?_)
        refine lv_if_eq (tgt := 24) hx hb dX1_monksAheadOf_18 (by decide) (fun hc18 => ?_) (fun hc18 => ?_)
        · replace hF := st_t hc18 hF
          exact n_24 rec4 hr4 a1 a2 a3 H locs ls (lv_sub hl [0, 1, 2, 3] rfl) hw hF
        · replace hF := st_f hc18 hF
          refine lv_iinc (v := (a2 + 1)) (lv' := [(2, .int (a2 + 1)), (0, .ref (ad o)), (1, .int a1), (3, .int a3)]) hx hb dX1_monksAheadOf_21 hl (k := 2) rfl rfl (by decide) rfl (fun ls hl => ?_)
          exact n_24 rec4 hr4 a1 (a2 + 1) a3 H locs ls (lv_sub hl [1, 2, 0, 3] rfl) hw hF
  unfold f_X1_monksAheadOf at hF
  refine lv_iconst (v := 0) hx hb dX1_monksAheadOf_0 (by decide) ?_
  refine lv_istore_n (lv' := [(2, .int 0), (0, .ref (ad o)), (1, .int p1)]) hx hb dX1_monksAheadOf_1 rfl hl (by decide) rfl (fun ls hl => ?_)
  refine lv_iconst (v := 0) hx hb dX1_monksAheadOf_2 (by decide) ?_
  refine lv_istore_n (lv' := [(3, .int 0), (2, .int 0), (0, .ref (ad o)), (1, .int p1)]) hx hb dX1_monksAheadOf_3 rfl hl (by decide) rfl (fun ls hl => ?_)
  exact n_4 FU p1 0 0 H locs ls (lv_sub hl [2, 3, 1, 0] rfl) hw hF
theorem c_X1_monksAheadOf (l : Launch) (x : SX) (D : va_G) (cy : Nat → ClassId) (ad : Nat → Nat) (o : Nat) (ho : isH o) (p1 : Int32) (sz : Nat) (M : Mem) (z : Int32) (hF : f_X1_monksAheadOf o p1 M = some z) : Met l yX1_monksAheadOf (.code yX1_monksAheadOf cX1_monksAheadOf 4 (some .int) :: GB) ({ frames := 1, cells := 0, slots := 0, locals := 22 } : Room) (PcW D cy ad x sz M [.ref (ad o), .int p1]) (QiW D cy ad sz z M) 0 0 (AA ad sz) := by
  refine mk_m (own := RX1) (by decide) rfl (Nat.le_of_ble_eq_true rfl) ?_
  intro p e s m args below meth c ls fx hw hl hsz
  subst hsz
  exact b_X1_monksAheadOf fx ⟨Nat.le_refl _, Nat.le_refl _, Nat.le_refl _, Nat.le_refl _⟩ o ho p1 M z hF (fun pc ls H locs v hd hw h => by cases h; exact g_iret fx hw rfl hd) _ _ ls hl hw
noncomputable def f_X1_wantsMetBy_58 (o : Nat) (M : Mem) (rec4 : Int32 → Int32 → Int32 → Option Int32) : Int32 → Int32 → Int32 → Option Int32 := fun a1 a2 a3 => (rec4 a1 a2 (a3 + 1))
noncomputable def f_X1_wantsMetBy_4 (o : Nat) (M : Mem) (rec4 : Int32 → Int32 → Int32 → Option Int32) : Int32 → Int32 → Int32 → Option Int32 := fun a1 a2 a3 => (if (M o 12) ≤ a3 then (some a2) else (if a3 = a1 then ((f_X1_wantsMetBy_58 o M rec4) a1 a2 a3) else (chk (inB a1 12) (chk (inB a3 12) (if (M (o + 2) (ix a1)) < (M (o + 2) (ix a3)) then ((f_X1_wantsMetBy_58 o M rec4) a1 a2 a3) else (chk (inB a3 12) (chk (inB a3 12) (chk (inB a1 12) (bnd (f_J6_bitCount_0f7a4 (((M (o + 4) (ix a3)) &&& (M (o + 3) (ix a3))) &&& (M (o + 3) (ix a1))) M) (fun r18 => ((f_X1_wantsMetBy_58 o M rec4) a1 (a2 + r18) a3)))))))))))
noncomputable def f_X1_wantsMetBy (o : Nat) (p1 : Int32) (M : Mem) : Option Int32 := ((lp (fun _ _ _ => none) (f_X1_wantsMetBy_4 o M) FU) p1 0 0)
set_option maxHeartbeats 4000000 in
set_option maxRecDepth 100000 in
theorem b_X1_wantsMetBy {p : Program} {l : Launch} {e : Env} {R : Room} {s : State} {m : MethodId} {args : Array Value} {below : List Frame} {meth : Method} {c : Code} {Q : State → Prop} {D : va_G} {cy : Nat → ClassId} {ad : Nat → Nat} {x : SX} (fx : FX p s m args meth c cX1_wantsMetBy 4 (some .int) RX1 D cy ad x) (hR : 1 ≤ R.frames ∧ 20 ≤ R.locals ∧ 0 ≤ R.cells ∧ 0 ≤ R.slots) (o : Nat) (ho : isH o) (p1 : Int32) (M : Mem) (z : Int32) (hF : f_X1_wantsMetBy o p1 M = some z) (E : ∀ (pc : Nat) (ls : Array Slot) (H : Heap) (locs : List Loc) (v : Int32), decode cX1_wantsMetBy pc = .ok (.ireturn, 1) → WD D cy ad s M H locs → some v = some z → W p l e R s m args below meth c H locs 0 0 Q (F0 m pc ls [.int v])) (H : Heap) (locs : List Loc) (ls : Array Slot) (hl : lv_has ls 4 [(0, .ref (ad o)), (1, .int p1)]) (hw : WD D cy ad s M H locs) : W p l e R s m args below meth c H locs 0 0 Q (F0 m 0 ls []) := by
  have hx := fx.1.1
  have hb := fx.1.2.1
  have hown := fx.1.2.2.2.1
  have hts := fx.1.2.2.2.2
  have n_58 : ∀ (rec4 : Int32 → Int32 → Int32 → Option Int32) (_ : ∀ (a1 : Int32) (a2 : Int32) (a3 : Int32) (H : Heap) (locs : List Loc) (ls : Array Slot), lv_has ls 4 [(0, .ref (ad o)), (1, .int a1), (2, .int a2), (3, .int a3)] → WD D cy ad s M H locs → rec4 a1 a2 a3 = some z → W p l e R s m args below meth c H locs 0 0 Q (F0 m 4 ls [])) , ∀ (a1 : Int32) (a2 : Int32) (a3 : Int32) (H : Heap) (locs : List Loc) (ls : Array Slot), lv_has ls 4 [(0, .ref (ad o)), (1, .int a1), (2, .int a2), (3, .int a3)] → WD D cy ad s M H locs → f_X1_wantsMetBy_58 o M rec4 a1 a2 a3 = some z → W p l e R s m args below meth c H locs 0 0 Q (F0 m 58 ls []) := by
    intro rec4 hr4 a1 a2 a3 H locs ls hl hw hF
    unfold f_X1_wantsMetBy_58 at hF
    refine lv_iinc (v := (a3 + 1)) (lv' := [(3, .int (a3 + 1)), (0, .ref (ad o)), (1, .int a1), (2, .int a2)]) hx hb dX1_wantsMetBy_58 hl (k := 3) rfl rfl (by decide) rfl (fun ls hl => ?_)
    refine lv_goto (tgt := 4) hx hb dX1_wantsMetBy_61 (by decide) ?_
    exact hr4 a1 a2 (a3 + 1) H locs ls (lv_sub hl [1, 2, 3, 0] rfl) hw hF
  have n_4 : ∀ (n9 : Nat), ∀ (a1 : Int32) (a2 : Int32) (a3 : Int32) (H : Heap) (locs : List Loc) (ls : Array Slot), lv_has ls 4 [(0, .ref (ad o)), (1, .int a1), (2, .int a2), (3, .int a3)] → WD D cy ad s M H locs → (lp (fun _ _ _ => none) (f_X1_wantsMetBy_4 o M) n9) a1 a2 a3 = some z → W p l e R s m args below meth c H locs 0 0 Q (F0 m 4 ls []) := by
    intro n9
    refine lp_ind (fun (rec4 : Int32 → Int32 → Int32 → Option Int32) => ∀ (a1 : Int32) (a2 : Int32) (a3 : Int32) (H : Heap) (locs : List Loc) (ls : Array Slot), lv_has ls 4 [(0, .ref (ad o)), (1, .int a1), (2, .int a2), (3, .int a3)] → WD D cy ad s M H locs → rec4 a1 a2 a3 = some z → W p l e R s m args below meth c H locs 0 0 Q (F0 m 4 ls [])) ?_ ?_ n9
    · intro a1 a2 a3 H locs ls hl hw hF
      exact nomatch hF
    · intro rec4 hr4 a1 a2 a3 H locs ls hl hw hF
      unfold f_X1_wantsMetBy_4 at hF
      refine lv_iload_n hx hb dX1_wantsMetBy_4 rfl (lv_at hl 3 rfl) ?_
      refine lv_aload_n hx hb dX1_wantsMetBy_5 rfl (lv_at hl 0 rfl) ?_
      refine gX1_get fx hw ho.O 12 (by decide) wd1_61 rfl dX1_wantsMetBy_6 ?_
      refine lv_icmp_ge (tgt := 64) hx hb dX1_wantsMetBy_9 (by decide) (fun hc9 => ?_) (fun hc9 => ?_)
      · replace hF := st_t hc9 hF
        refine lv_iload_n hx hb dX1_wantsMetBy_64 rfl (lv_at hl 2 rfl) ?_
        exact E _ _ _ _ _ dX1_wantsMetBy_65 hw hF
      · replace hF := st_f hc9 hF
        refine lv_iload_n hx hb dX1_wantsMetBy_12 rfl (lv_at hl 3 rfl) ?_
        refine lv_iload_n hx hb dX1_wantsMetBy_13 rfl (lv_at hl 1 rfl) ?_
        refine lv_icmp_eq (tgt := 58) hx hb dX1_wantsMetBy_14 (by decide) (fun hc14 => ?_) (fun hc14 => ?_)
        · replace hF := st_t hc14 hF
          exact n_58 rec4 hr4 a1 a2 a3 H locs ls (lv_sub hl [0, 1, 2, 3] rfl) hw hF
        · replace hF := st_f hc14 hF
          refine lv_aload_n hx hb dX1_wantsMetBy_17 rfl (lv_at hl 0 rfl) ?_
          refine gX1_get fx hw ho.O 1 (by decide) wd1_38 rfl dX1_wantsMetBy_18 ?_
          refine lv_iload_n hx hb dX1_wantsMetBy_21 rfl (lv_at hl 1 rfl) ?_
          obtain ⟨hi13, hF⟩ := st_chk hF
          refine g_iald fx hw ho.a2 hi13 dX1_wantsMetBy_22 ?_
          refine lv_aload_n hx hb dX1_wantsMetBy_23 rfl (lv_at hl 0 rfl) ?_
          refine gX1_get fx hw ho.O 1 (by decide) wd1_38 rfl dX1_wantsMetBy_24 ?_
          refine lv_iload_n hx hb dX1_wantsMetBy_27 rfl (lv_at hl 3 rfl) ?_
          obtain ⟨hi14, hF⟩ := st_chk hF
          refine g_iald fx hw ho.a2 hi14 dX1_wantsMetBy_28 ?_
          refine lv_icmp_lt (tgt := 58) hx hb dX1_wantsMetBy_29 (by decide) (fun hc29 => ?_) (fun hc29 => ?_)
          · replace hF := st_t hc29 hF
            exact n_58 rec4 hr4 a1 a2 a3 H locs ls (lv_sub hl [0, 1, 2, 3] rfl) hw hF
          · replace hF := st_f hc29 hF
            refine lv_iload_n hx hb dX1_wantsMetBy_32 rfl (lv_at hl 2 rfl) ?_
            refine lv_aload_n hx hb dX1_wantsMetBy_33 rfl (lv_at hl 0 rfl) ?_
            refine gX1_get fx hw ho.O 3 (by decide) wd1_42 rfl dX1_wantsMetBy_34 ?_
            refine lv_iload_n hx hb dX1_wantsMetBy_37 rfl (lv_at hl 3 rfl) ?_
            obtain ⟨hi15, hF⟩ := st_chk hF
            refine g_iald fx hw ho.a4 hi15 dX1_wantsMetBy_38 ?_
            refine lv_aload_n hx hb dX1_wantsMetBy_39 rfl (lv_at hl 0 rfl) ?_
            refine gX1_get fx hw ho.O 2 (by decide) wd1_40 rfl dX1_wantsMetBy_40 ?_
            refine lv_iload_n hx hb dX1_wantsMetBy_43 rfl (lv_at hl 3 rfl) ?_
            obtain ⟨hi16, hF⟩ := st_chk hF
            refine g_iald fx hw ho.a3 hi16 dX1_wantsMetBy_44 ?_
            refine lv_iand hx hb dX1_wantsMetBy_45 ?_
            refine lv_aload_n hx hb dX1_wantsMetBy_46 rfl (lv_at hl 0 rfl) ?_
            refine gX1_get fx hw ho.O 2 (by decide) wd1_40 rfl dX1_wantsMetBy_47 ?_
            refine lv_iload_n hx hb dX1_wantsMetBy_50 rfl (lv_at hl 1 rfl) ?_
            obtain ⟨hi17, hF⟩ := st_chk hF
            refine g_iald fx hw ho.a3 hi17 dX1_wantsMetBy_51 ?_
            refine lv_iand hx hb dX1_wantsMetBy_52 ?_
            obtain ⟨r18, hgr18, hF⟩ := st_bnd hF
            refine g_ci hw (g_runS (As := [.int (((M (o + 4) (ix a3)) &&& (M (o + 3) (ix a3))) &&& (M (o + 3) (ix a1)))]) (rest := [.int a2]) fx hw (c_J6_bitCount_0f7a4 l x D cy ad (((M (o + 4) (ix a3)) &&& (M (o + 3) (ix a3))) &&& (M (o + 3) (ix a1))) H.size M r18 hgr18) wd2_166 wd2_167 wd1_18 wd2_168 yd_J6_bitCount_0f7a4 rfl rfl (Nat.le_of_ble_eq_true rfl) hl.1 ⟨Nat.le_trans (Nat.le_of_ble_eq_true rfl) hR.1, Nat.le_trans (Nat.le_of_ble_eq_true rfl) hR.2.1⟩ ⟨Nat.le_trans (Nat.le_of_ble_eq_true rfl) hR.2.2.1, Nat.le_trans (Nat.le_of_ble_eq_true rfl) hR.2.2.2⟩ dX1_wantsMetBy_53) (fun H locs hw => ?_)
            refine lv_iadd hx hb dX1_wantsMetBy_56 ?_
            refine lv_istore_n (lv' := [(2, .int (a2 + r18)), (0, .ref (ad o)), (1, .int a1), (3, .int a3)]) hx hb dX1_wantsMetBy_57 rfl hl (by decide) rfl (fun ls hl => ?_)
            exact n_58 rec4 hr4 a1 (a2 + r18) a3 H locs ls (lv_sub hl [1, 2, 0, 3] rfl) hw hF
  unfold f_X1_wantsMetBy at hF
  refine lv_iconst (v := 0) hx hb dX1_wantsMetBy_0 (by decide) ?_
  refine lv_istore_n (lv' := [(2, .int 0), (0, .ref (ad o)), (1, .int p1)]) hx hb dX1_wantsMetBy_1 rfl hl (by decide) rfl (fun ls hl => ?_)
  refine lv_iconst (v := 0) hx hb dX1_wantsMetBy_2 (by decide) ?_
  refine lv_istore_n (lv' := [(3, .int 0), (2, .int 0), (0, .ref (ad o)), (1, .int p1)]) hx hb dX1_wantsMetBy_3 rfl hl (by decide) rfl (fun ls hl => ?_)
  exact n_4 FU p1 0 0 H locs ls (lv_sub hl [2, 3, 1, 0] rfl) hw hF
theorem c_X1_wantsMetBy (l : Launch) (x : SX) (D : va_G) (cy : Nat → ClassId) (ad : Nat → Nat) (o : Nat) (ho : isH o) (p1 : Int32) (sz : Nat) (M : Mem) (z : Int32) (hF : f_X1_wantsMetBy o p1 M = some z) : Met l yX1_wantsMetBy (.code yX1_wantsMetBy cX1_wantsMetBy 4 (some .int) :: GB) ({ frames := 1, cells := 0, slots := 0, locals := 20 } : Room) (PcW D cy ad x sz M [.ref (ad o), .int p1]) (QiW D cy ad sz z M) 0 0 (AA ad sz) := by
  refine mk_m (own := RX1) (by decide) rfl (Nat.le_of_ble_eq_true rfl) ?_
  intro p e s m args below meth c ls fx hw hl hsz
  subst hsz
  exact b_X1_wantsMetBy fx ⟨Nat.le_refl _, Nat.le_refl _, Nat.le_refl _, Nat.le_refl _⟩ o ho p1 M z hF (fun pc ls H locs v hd hw h => by cases h; exact g_iret fx hw rfl hd) _ _ ls hl hw
noncomputable def f_X1_bellCount_22 (o : Nat) (M : Mem) (rec4 : Int32 → Int32 → Option Int32) : Int32 → Int32 → Option Int32 := fun a1 a2 => (rec4 a1 (a2 + 1))
noncomputable def f_X1_bellCount_4 (o : Nat) (M : Mem) (rec4 : Int32 → Int32 → Option Int32) : Int32 → Int32 → Option Int32 := fun a1 a2 => (if 24 ≤ a2 then (some a1) else (chk (inB a2 24) (if (M (o + 11) (ix a2)) = 0 then ((f_X1_bellCount_22 o M rec4) a1 a2) else ((f_X1_bellCount_22 o M rec4) (a1 + 1) a2))))
noncomputable def f_X1_bellCount (o : Nat) (M : Mem) : Option Int32 := ((lp (fun _ _ => none) (f_X1_bellCount_4 o M) FU) 0 0)
set_option maxHeartbeats 4000000 in
set_option maxRecDepth 100000 in
theorem b_X1_bellCount {p : Program} {l : Launch} {e : Env} {R : Room} {s : State} {m : MethodId} {args : Array Value} {below : List Frame} {meth : Method} {c : Code} {Q : State → Prop} {D : va_G} {cy : Nat → ClassId} {ad : Nat → Nat} {x : SX} (fx : FX p s m args meth c cX1_bellCount 3 (some .int) RX1 D cy ad x) (hR : 0 ≤ R.frames ∧ 0 ≤ R.locals ∧ 0 ≤ R.cells ∧ 0 ≤ R.slots) (o : Nat) (ho : isH o) (M : Mem) (z : Int32) (hF : f_X1_bellCount o M = some z) (E : ∀ (pc : Nat) (ls : Array Slot) (H : Heap) (locs : List Loc) (v : Int32), decode cX1_bellCount pc = .ok (.ireturn, 1) → WD D cy ad s M H locs → some v = some z → W p l e R s m args below meth c H locs 0 0 Q (F0 m pc ls [.int v])) (H : Heap) (locs : List Loc) (ls : Array Slot) (hl : lv_has ls 3 [(0, .ref (ad o))]) (hw : WD D cy ad s M H locs) : W p l e R s m args below meth c H locs 0 0 Q (F0 m 0 ls []) := by
  have hx := fx.1.1
  have hb := fx.1.2.1
  have hown := fx.1.2.2.2.1
  have hts := fx.1.2.2.2.2
  have n_22 : ∀ (rec4 : Int32 → Int32 → Option Int32) (_ : ∀ (a1 : Int32) (a2 : Int32) (H : Heap) (locs : List Loc) (ls : Array Slot), lv_has ls 3 [(0, .ref (ad o)), (1, .int a1), (2, .int a2)] → WD D cy ad s M H locs → rec4 a1 a2 = some z → W p l e R s m args below meth c H locs 0 0 Q (F0 m 4 ls [])) , ∀ (a1 : Int32) (a2 : Int32) (H : Heap) (locs : List Loc) (ls : Array Slot), lv_has ls 3 [(0, .ref (ad o)), (1, .int a1), (2, .int a2)] → WD D cy ad s M H locs → f_X1_bellCount_22 o M rec4 a1 a2 = some z → W p l e R s m args below meth c H locs 0 0 Q (F0 m 22 ls []) := by
    intro rec4 hr4 a1 a2 H locs ls hl hw hF
    unfold f_X1_bellCount_22 at hF
    refine lv_iinc (v := (a2 + 1)) (lv' := [(2, .int (a2 + 1)), (0, .ref (ad o)), (1, .int a1)]) hx hb dX1_bellCount_22 hl (k := 2) rfl rfl (by decide) rfl (fun ls hl => ?_)
    refine lv_goto (tgt := 4) hx hb dX1_bellCount_25 (by decide) ?_
    exact hr4 a1 (a2 + 1) H locs ls (lv_sub hl [1, 2, 0] rfl) hw hF
  have n_4 : ∀ (n9 : Nat), ∀ (a1 : Int32) (a2 : Int32) (H : Heap) (locs : List Loc) (ls : Array Slot), lv_has ls 3 [(0, .ref (ad o)), (1, .int a1), (2, .int a2)] → WD D cy ad s M H locs → (lp (fun _ _ => none) (f_X1_bellCount_4 o M) n9) a1 a2 = some z → W p l e R s m args below meth c H locs 0 0 Q (F0 m 4 ls []) := by
    intro n9
    refine lp_ind (fun (rec4 : Int32 → Int32 → Option Int32) => ∀ (a1 : Int32) (a2 : Int32) (H : Heap) (locs : List Loc) (ls : Array Slot), lv_has ls 3 [(0, .ref (ad o)), (1, .int a1), (2, .int a2)] → WD D cy ad s M H locs → rec4 a1 a2 = some z → W p l e R s m args below meth c H locs 0 0 Q (F0 m 4 ls [])) ?_ ?_ n9
    · intro a1 a2 H locs ls hl hw hF
      exact nomatch hF
    · intro rec4 hr4 a1 a2 H locs ls hl hw hF
      unfold f_X1_bellCount_4 at hF
      refine lv_iload_n hx hb dX1_bellCount_4 rfl (lv_at hl 2 rfl) ?_
      refine lv_bipush (v := 24) hx hb dX1_bellCount_5 (by decide) ?_
      refine lv_icmp_ge (tgt := 28) hx hb dX1_bellCount_7 (by decide) (fun hc7 => ?_) (fun hc7 => ?_)
      · replace hF := st_t hc7 hF
        refine lv_iload_n hx hb dX1_bellCount_28 rfl (lv_at hl 1 rfl) ?_
        exact E _ _ _ _ _ dX1_bellCount_29 hw hF
      · replace hF := st_f hc7 hF
        refine lv_aload_n hx hb dX1_bellCount_10 rfl (lv_at hl 0 rfl) ?_
        refine gX1_get fx hw ho.O 10 (by decide) wd1_56 rfl dX1_bellCount_11 ?_
        refine lv_iload_n hx hb dX1_bellCount_14 rfl (lv_at hl 2 rfl) ?_
        obtain ⟨hi3, hF⟩ := st_chk hF
        refine g_iald fx hw ho.a11 hi3 dX1_bellCount_15 ?_
        refine lv_if_eq (tgt := 22) hx hb dX1_bellCount_16 (by decide) (fun hc16 => ?_) (fun hc16 => ?_)
        · replace hF := st_t hc16 hF
          exact n_22 rec4 hr4 a1 a2 H locs ls (lv_sub hl [0, 1, 2] rfl) hw hF
        · replace hF := st_f hc16 hF
          refine lv_iinc (v := (a1 + 1)) (lv' := [(1, .int (a1 + 1)), (0, .ref (ad o)), (2, .int a2)]) hx hb dX1_bellCount_19 hl (k := 1) rfl rfl (by decide) rfl (fun ls hl => ?_)
          exact n_22 rec4 hr4 (a1 + 1) a2 H locs ls (lv_sub hl [1, 0, 2] rfl) hw hF
  unfold f_X1_bellCount at hF
  refine lv_iconst (v := 0) hx hb dX1_bellCount_0 (by decide) ?_
  refine lv_istore_n (lv' := [(1, .int 0), (0, .ref (ad o))]) hx hb dX1_bellCount_1 rfl hl (by decide) rfl (fun ls hl => ?_)
  refine lv_iconst (v := 0) hx hb dX1_bellCount_2 (by decide) ?_
  refine lv_istore_n (lv' := [(2, .int 0), (1, .int 0), (0, .ref (ad o))]) hx hb dX1_bellCount_3 rfl hl (by decide) rfl (fun ls hl => ?_)
  exact n_4 FU 0 0 H locs ls (lv_sub hl [2, 1, 0] rfl) hw hF
theorem c_X1_bellCount (l : Launch) (x : SX) (D : va_G) (cy : Nat → ClassId) (ad : Nat → Nat) (o : Nat) (ho : isH o) (sz : Nat) (M : Mem) (z : Int32) (hF : f_X1_bellCount o M = some z) : Met l yX1_bellCount (.code yX1_bellCount cX1_bellCount 3 (some .int) :: GB) ({ frames := 0, cells := 0, slots := 0, locals := 0 } : Room) (PcW D cy ad x sz M [.ref (ad o)]) (QiW D cy ad sz z M) 0 0 (AA ad sz) := by
  refine mk_m (own := RX1) (by decide) rfl (Nat.le_of_ble_eq_true rfl) ?_
  intro p e s m args below meth c ls fx hw hl hsz
  subst hsz
  exact b_X1_bellCount fx ⟨Nat.le_refl _, Nat.le_refl _, Nat.le_refl _, Nat.le_refl _⟩ o ho M z hF (fun pc ls H locs v hd hw h => by cases h; exact g_iret fx hw rfl hd) _ _ ls hl hw
noncomputable def f_X1_latestBell_2 (o : Nat) (M : Mem) (rec2 : Int32 → Int32 → Option Int32) : Int32 → Int32 → Option Int32 := fun a1 a2 => (if 24 ≤ a2 then (some (-1)) else (chk (inB (irem ((a1 + 24) - a2) 24) 24) (if (M (o + 11) (ix (irem ((a1 + 24) - a2) 24))) = 0 then (rec2 a1 (a2 + 1)) else (some (irem ((a1 + 24) - a2) 24)))))
noncomputable def f_X1_latestBell (o : Nat) (p1 : Int32) (M : Mem) : Option Int32 := ((lp (fun _ _ => none) (f_X1_latestBell_2 o M) FU) p1 0)
set_option maxHeartbeats 4000000 in
set_option maxRecDepth 100000 in
theorem b_X1_latestBell {p : Program} {l : Launch} {e : Env} {R : Room} {s : State} {m : MethodId} {args : Array Value} {below : List Frame} {meth : Method} {c : Code} {Q : State → Prop} {D : va_G} {cy : Nat → ClassId} {ad : Nat → Nat} {x : SX} (fx : FX p s m args meth c cX1_latestBell 4 (some .int) RX1 D cy ad x) (hR : 0 ≤ R.frames ∧ 0 ≤ R.locals ∧ 0 ≤ R.cells ∧ 0 ≤ R.slots) (o : Nat) (ho : isH o) (p1 : Int32) (M : Mem) (z : Int32) (hF : f_X1_latestBell o p1 M = some z) (E : ∀ (pc : Nat) (ls : Array Slot) (H : Heap) (locs : List Loc) (v : Int32), decode cX1_latestBell pc = .ok (.ireturn, 1) → WD D cy ad s M H locs → some v = some z → W p l e R s m args below meth c H locs 0 0 Q (F0 m pc ls [.int v])) (H : Heap) (locs : List Loc) (ls : Array Slot) (hl : lv_has ls 4 [(0, .ref (ad o)), (1, .int p1)]) (hw : WD D cy ad s M H locs) : W p l e R s m args below meth c H locs 0 0 Q (F0 m 0 ls []) := by
  have hx := fx.1.1
  have hb := fx.1.2.1
  have hown := fx.1.2.2.2.1
  have hts := fx.1.2.2.2.2
  have n_2 : ∀ (n9 : Nat), ∀ (a1 : Int32) (a2 : Int32) (H : Heap) (locs : List Loc) (ls : Array Slot), lv_has ls 4 [(0, .ref (ad o)), (1, .int a1), (2, .int a2)] → WD D cy ad s M H locs → (lp (fun _ _ => none) (f_X1_latestBell_2 o M) n9) a1 a2 = some z → W p l e R s m args below meth c H locs 0 0 Q (F0 m 2 ls []) := by
    intro n9
    refine lp_ind (fun (rec2 : Int32 → Int32 → Option Int32) => ∀ (a1 : Int32) (a2 : Int32) (H : Heap) (locs : List Loc) (ls : Array Slot), lv_has ls 4 [(0, .ref (ad o)), (1, .int a1), (2, .int a2)] → WD D cy ad s M H locs → rec2 a1 a2 = some z → W p l e R s m args below meth c H locs 0 0 Q (F0 m 2 ls [])) ?_ ?_ n9
    · intro a1 a2 H locs ls hl hw hF
      exact nomatch hF
    · intro rec2 hr2 a1 a2 H locs ls hl hw hF
      unfold f_X1_latestBell_2 at hF
      refine lv_iload_n hx hb dX1_latestBell_2 rfl (lv_at hl 2 rfl) ?_
      refine lv_bipush (v := 24) hx hb dX1_latestBell_3 (by decide) ?_
      refine lv_icmp_ge (tgt := 35) hx hb dX1_latestBell_5 (by decide) (fun hc5 => ?_) (fun hc5 => ?_)
      · replace hF := st_t hc5 hF
        refine lv_iconst (v := (-1)) hx hb dX1_latestBell_35 (by decide) ?_
        exact E _ _ _ _ _ dX1_latestBell_36 hw hF
      · replace hF := st_f hc5 hF
        refine lv_iload_n hx hb dX1_latestBell_8 rfl (lv_at hl 1 rfl) ?_
        refine lv_bipush (v := 24) hx hb dX1_latestBell_9 (by decide) ?_
        refine lv_iadd hx hb dX1_latestBell_11 ?_
        refine lv_iload_n hx hb dX1_latestBell_12 rfl (lv_at hl 2 rfl) ?_
        refine lv_isub hx hb dX1_latestBell_13 ?_
        refine lv_bipush (v := 24) hx hb dX1_latestBell_14 (by decide) ?_
        refine g_irem hx hb dX1_latestBell_16 (by decide) ?_
        refine lv_istore_n (lv' := [(3, .int (irem ((a1 + 24) - a2) 24)), (0, .ref (ad o)), (1, .int a1), (2, .int a2)]) hx hb dX1_latestBell_17 rfl hl (by decide) rfl (fun ls hl => ?_)
        refine lv_aload_n hx hb dX1_latestBell_18 rfl (lv_at hl 1 rfl) ?_
        refine gX1_get fx hw ho.O 10 (by decide) wd1_56 rfl dX1_latestBell_19 ?_
        refine lv_iload_n hx hb dX1_latestBell_22 rfl (lv_at hl 0 rfl) ?_
        obtain ⟨hi3, hF⟩ := st_chk hF
        refine g_iald fx hw ho.a11 hi3 dX1_latestBell_23 ?_
        refine lv_if_eq (tgt := 29) hx hb dX1_latestBell_24 (by decide) (fun hc24 => ?_) (fun hc24 => ?_)
        · replace hF := st_t hc24 hF
          refine lv_iinc (v := (a2 + 1)) (lv' := [(2, .int (a2 + 1)), (3, .int (irem ((a1 + 24) - a2) 24)), (0, .ref (ad o)), (1, .int a1)]) hx hb dX1_latestBell_29 hl (k := 3) rfl rfl (by decide) rfl (fun ls hl => ?_)
          refine lv_goto (tgt := 2) hx hb dX1_latestBell_32 (by decide) ?_
          exact hr2 a1 (a2 + 1) H locs ls (lv_sub hl [2, 3, 0] rfl) hw hF
        · replace hF := st_f hc24 hF
          refine lv_iload_n hx hb dX1_latestBell_27 rfl (lv_at hl 0 rfl) ?_
          exact E _ _ _ _ _ dX1_latestBell_28 hw hF
  unfold f_X1_latestBell at hF
  refine lv_iconst (v := 0) hx hb dX1_latestBell_0 (by decide) ?_
  refine lv_istore_n (lv' := [(2, .int 0), (0, .ref (ad o)), (1, .int p1)]) hx hb dX1_latestBell_1 rfl hl (by decide) rfl (fun ls hl => ?_)
  exact n_2 FU p1 0 H locs ls (lv_sub hl [1, 2, 0] rfl) hw hF
theorem c_X1_latestBell (l : Launch) (x : SX) (D : va_G) (cy : Nat → ClassId) (ad : Nat → Nat) (o : Nat) (ho : isH o) (p1 : Int32) (sz : Nat) (M : Mem) (z : Int32) (hF : f_X1_latestBell o p1 M = some z) : Met l yX1_latestBell (.code yX1_latestBell cX1_latestBell 4 (some .int) :: GB) ({ frames := 0, cells := 0, slots := 0, locals := 0 } : Room) (PcW D cy ad x sz M [.ref (ad o), .int p1]) (QiW D cy ad sz z M) 0 0 (AA ad sz) := by
  refine mk_m (own := RX1) (by decide) rfl (Nat.le_of_ble_eq_true rfl) ?_
  intro p e s m args below meth c ls fx hw hl hsz
  subst hsz
  exact b_X1_latestBell fx ⟨Nat.le_refl _, Nat.le_refl _, Nat.le_refl _, Nat.le_refl _⟩ o ho p1 M z hF (fun pc ls H locs v hd hw h => by cases h; exact g_iret fx hw rfl hd) _ _ ls hl hw
noncomputable def f_X1_isSpeechAt (o : Nat) (p1 : Int32) (M : Mem) : Option Int32 := (bnd (f_X1_latestBell o p1 M) (fun r3 => (if r3 = (-1) then (some 0) else (chk (inB r3 24) (if (M (o + 11) (ix r3)) = 2 then (some 1) else (some 0))))))
set_option maxHeartbeats 4000000 in
set_option maxRecDepth 100000 in
theorem b_X1_isSpeechAt {p : Program} {l : Launch} {e : Env} {R : Room} {s : State} {m : MethodId} {args : Array Value} {below : List Frame} {meth : Method} {c : Code} {Q : State → Prop} {D : va_G} {cy : Nat → ClassId} {ad : Nat → Nat} {x : SX} (fx : FX p s m args meth c cX1_isSpeechAt 3 (some .boolean) RX1 D cy ad x) (hR : 1 ≤ R.frames ∧ 23 ≤ R.locals ∧ 0 ≤ R.cells ∧ 0 ≤ R.slots) (o : Nat) (ho : isH o) (p1 : Int32) (M : Mem) (z : Int32) (hF : f_X1_isSpeechAt o p1 M = some z) (E : ∀ (pc : Nat) (ls : Array Slot) (H : Heap) (locs : List Loc) (v : Int32), decode cX1_isSpeechAt pc = .ok (.ireturn, 1) → (v = 0 ∨ v = 1) → WD D cy ad s M H locs → some v = some z → W p l e R s m args below meth c H locs 0 0 Q (F0 m pc ls [.int v])) (H : Heap) (locs : List Loc) (ls : Array Slot) (hl : lv_has ls 3 [(0, .ref (ad o)), (1, .int p1)]) (hw : WD D cy ad s M H locs) : W p l e R s m args below meth c H locs 0 0 Q (F0 m 0 ls []) := by
  have hx := fx.1.1
  have hb := fx.1.2.1
  have hown := fx.1.2.2.2.1
  have hts := fx.1.2.2.2.2
  unfold f_X1_isSpeechAt at hF
  refine lv_aload_n hx hb dX1_isSpeechAt_0 rfl (lv_at hl 0 rfl) ?_
  refine lv_iload_n hx hb dX1_isSpeechAt_1 rfl (lv_at hl 1 rfl) ?_
  obtain ⟨r3, hgr3, hF⟩ := st_bnd hF
  refine g_ci hw (g_runV (C := RX1) (As := [.int p1]) (rest := []) fx hw ho.O rfl (c_X1_latestBell l x D cy ad o ho p1 H.size M r3 hgr3) wd2_199 wd2_200 wd2_201 wd1_2 wd2_202 yd_X1_latestBell rfl rfl (Nat.le_of_ble_eq_true rfl) hl.1 ⟨Nat.le_trans (Nat.le_of_ble_eq_true rfl) hR.1, Nat.le_trans (Nat.le_of_ble_eq_true rfl) hR.2.1⟩ ⟨Nat.le_trans (Nat.le_of_ble_eq_true rfl) hR.2.2.1, Nat.le_trans (Nat.le_of_ble_eq_true rfl) hR.2.2.2⟩ dX1_isSpeechAt_2) (fun H locs hw => ?_)
  refine lv_istore_n (lv' := [(2, .int r3), (0, .ref (ad o)), (1, .int p1)]) hx hb dX1_isSpeechAt_5 rfl hl (by decide) rfl (fun ls hl => ?_)
  refine lv_iload_n hx hb dX1_isSpeechAt_6 rfl (lv_at hl 0 rfl) ?_
  refine lv_iconst (v := (-1)) hx hb dX1_isSpeechAt_7 (by decide) ?_
  refine lv_icmp_eq (tgt := 25) hx hb dX1_isSpeechAt_8 (by decide) (fun hc8 => ?_) (fun hc8 => ?_)
  · replace hF := st_t hc8 hF
    refine lv_iconst (v := 0) hx hb dX1_isSpeechAt_25 (by decide) ?_
    exact E _ _ _ _ _ dX1_isSpeechAt_26 (Or.inl rfl) hw hF
  · replace hF := st_f hc8 hF
    refine lv_aload_n hx hb dX1_isSpeechAt_11 rfl (lv_at hl 1 rfl) ?_
    refine gX1_get fx hw ho.O 10 (by decide) wd1_56 rfl dX1_isSpeechAt_12 ?_
    refine lv_iload_n hx hb dX1_isSpeechAt_15 rfl (lv_at hl 0 rfl) ?_
    obtain ⟨hi4, hF⟩ := st_chk hF
    refine g_iald fx hw ho.a11 hi4 dX1_isSpeechAt_16 ?_
    refine lv_iconst (v := 2) hx hb dX1_isSpeechAt_17 (by decide) ?_
    refine lv_icmp_ne (tgt := 25) hx hb dX1_isSpeechAt_18 (by decide) (fun hc18 => ?_) (fun hc18 => ?_)
    · replace hF := st_f hc18 hF
      refine lv_iconst (v := 0) hx hb dX1_isSpeechAt_25 (by decide) ?_
      exact E _ _ _ _ _ dX1_isSpeechAt_26 (Or.inl rfl) hw hF
    · replace hF := st_t hc18 hF
      refine lv_iconst (v := 1) hx hb dX1_isSpeechAt_21 (by decide) ?_
      refine lv_goto (tgt := 26) hx hb dX1_isSpeechAt_22 (by decide) ?_
      exact E _ _ _ _ _ dX1_isSpeechAt_26 (Or.inr rfl) hw hF
theorem c_X1_isSpeechAt (l : Launch) (x : SX) (D : va_G) (cy : Nat → ClassId) (ad : Nat → Nat) (o : Nat) (ho : isH o) (p1 : Int32) (sz : Nat) (M : Mem) (z : Int32) (hF : f_X1_isSpeechAt o p1 M = some z) : Met l yX1_isSpeechAt (.code yX1_isSpeechAt cX1_isSpeechAt 3 (some .boolean) :: GB) ({ frames := 1, cells := 0, slots := 0, locals := 23 } : Room) (PcW D cy ad x sz M [.ref (ad o), .int p1]) (QzW D cy ad sz z M) 0 0 (AA ad sz) := by
  refine mk_m (own := RX1) (by decide) rfl (Nat.le_of_ble_eq_true rfl) ?_
  intro p e s m args below meth c ls fx hw hl hsz
  subst hsz
  exact b_X1_isSpeechAt fx ⟨Nat.le_refl _, Nat.le_refl _, Nat.le_refl _, Nat.le_refl _⟩ o ho p1 M z hF (fun pc ls H locs v hd hb hw h => by cases h; exact g_zret fx hw rfl hb hd) _ _ ls hl hw
noncomputable def f_X1_speechHours_71 (o : Nat) (M : Mem) (rec7 : Int32 → Int32 → Int32 → Int32 → Option Int32) : Int32 → Int32 → Int32 → Int32 → Option Int32 := fun a1 a2 a3 a4 => (rec7 a1 a2 a3 (a4 + 1))
noncomputable def f_X1_speechHours_57 (o : Nat) (M : Mem) (rec7 : Int32 → Int32 → Int32 → Int32 → Option Int32) : Int32 → Int32 → Int32 → Int32 → Option Int32 := fun a1 a2 a3 a4 => (if a2 = 0 then ((f_X1_speechHours_71 o M rec7) a1 a2 a3 a4) else (if a4 < 24 then ((f_X1_speechHours_71 o M rec7) a1 a2 a3 a4) else ((f_X1_speechHours_71 o M rec7) a1 a2 (a3 + 1) a4)))
noncomputable def f_X1_speechHours_56 (o : Nat) (M : Mem) (rec7 : Int32 → Int32 → Int32 → Int32 → Option Int32) : Int32 → Int32 → Int32 → Int32 → Option Int32 := fun a1 a3 a4 t0 => ((f_X1_speechHours_57 o M rec7) a1 t0 a3 a4)
noncomputable def f_X1_speechHours_38 (o : Nat) (M : Mem) (rec7 : Int32 → Int32 → Int32 → Int32 → Option Int32) : Int32 → Int32 → Int32 → Int32 → Int32 → Option Int32 := fun a1 a2 a3 a4 t0 => (if t0 = 0 then ((f_X1_speechHours_57 o M rec7) a1 a2 a3 a4) else (if t0 = 2 then ((f_X1_speechHours_56 o M rec7) a1 a3 a4 1) else ((f_X1_speechHours_56 o M rec7) a1 a3 a4 0)))
noncomputable def f_X1_speechHours_7 (o : Nat) (M : Mem) (rec7 : Int32 → Int32 → Int32 → Int32 → Option Int32) : Int32 → Int32 → Int32 → Int32 → Option Int32 := fun a1 a2 a3 a4 => (if 48 ≤ a4 then (some a3) else (if (irem a4 24) = a1 then ((f_X1_speechHours_38 o M rec7) a1 a2 a3 a4 2) else (chk (inB (irem a4 24) 24) ((f_X1_speechHours_38 o M rec7) a1 a2 a3 a4 (M (o + 11) (ix (irem a4 24)))))))
noncomputable def f_X1_speechHours (o : Nat) (p1 : Int32) (M : Mem) : Option Int32 := ((lp (fun _ _ _ _ => none) (f_X1_speechHours_7 o M) FU) p1 0 0 0)
set_option maxHeartbeats 4000000 in
set_option maxRecDepth 100000 in
theorem b_X1_speechHours {p : Program} {l : Launch} {e : Env} {R : Room} {s : State} {m : MethodId} {args : Array Value} {below : List Frame} {meth : Method} {c : Code} {Q : State → Prop} {D : va_G} {cy : Nat → ClassId} {ad : Nat → Nat} {x : SX} (fx : FX p s m args meth c cX1_speechHours 7 (some .int) RX1 D cy ad x) (hR : 0 ≤ R.frames ∧ 0 ≤ R.locals ∧ 0 ≤ R.cells ∧ 0 ≤ R.slots) (o : Nat) (ho : isH o) (p1 : Int32) (M : Mem) (z : Int32) (hF : f_X1_speechHours o p1 M = some z) (E : ∀ (pc : Nat) (ls : Array Slot) (H : Heap) (locs : List Loc) (v : Int32), decode cX1_speechHours pc = .ok (.ireturn, 1) → WD D cy ad s M H locs → some v = some z → W p l e R s m args below meth c H locs 0 0 Q (F0 m pc ls [.int v])) (H : Heap) (locs : List Loc) (ls : Array Slot) (hl : lv_has ls 7 [(0, .ref (ad o)), (1, .int p1)]) (hw : WD D cy ad s M H locs) : W p l e R s m args below meth c H locs 0 0 Q (F0 m 0 ls []) := by
  have hx := fx.1.1
  have hb := fx.1.2.1
  have hown := fx.1.2.2.2.1
  have hts := fx.1.2.2.2.2
  have n_71 : ∀ (rec7 : Int32 → Int32 → Int32 → Int32 → Option Int32) (_ : ∀ (a1 : Int32) (a2 : Int32) (a3 : Int32) (a4 : Int32) (H : Heap) (locs : List Loc) (ls : Array Slot), lv_has ls 7 [(0, .ref (ad o)), (1, .int a1), (2, .int a2), (3, .int a3), (4, .int a4)] → WD D cy ad s M H locs → rec7 a1 a2 a3 a4 = some z → W p l e R s m args below meth c H locs 0 0 Q (F0 m 7 ls [])) , ∀ (a1 : Int32) (a2 : Int32) (a3 : Int32) (a4 : Int32) (H : Heap) (locs : List Loc) (ls : Array Slot), lv_has ls 7 [(0, .ref (ad o)), (1, .int a1), (2, .int a2), (3, .int a3), (4, .int a4)] → WD D cy ad s M H locs → f_X1_speechHours_71 o M rec7 a1 a2 a3 a4 = some z → W p l e R s m args below meth c H locs 0 0 Q (F0 m 71 ls []) := by
    intro rec7 hr7 a1 a2 a3 a4 H locs ls hl hw hF
    unfold f_X1_speechHours_71 at hF
    refine lv_iinc (v := (a4 + 1)) (lv' := [(4, .int (a4 + 1)), (0, .ref (ad o)), (1, .int a1), (2, .int a2), (3, .int a3)]) hx hb dX1_speechHours_71 hl (k := 4) rfl rfl (by decide) rfl (fun ls hl => ?_)
    refine lv_goto (tgt := 7) hx hb dX1_speechHours_74 (by decide) ?_
    exact hr7 a1 a2 a3 (a4 + 1) H locs ls (lv_sub hl [1, 2, 3, 4, 0] rfl) hw hF
  have n_57 : ∀ (rec7 : Int32 → Int32 → Int32 → Int32 → Option Int32) (_ : ∀ (a1 : Int32) (a2 : Int32) (a3 : Int32) (a4 : Int32) (H : Heap) (locs : List Loc) (ls : Array Slot), lv_has ls 7 [(0, .ref (ad o)), (1, .int a1), (2, .int a2), (3, .int a3), (4, .int a4)] → WD D cy ad s M H locs → rec7 a1 a2 a3 a4 = some z → W p l e R s m args below meth c H locs 0 0 Q (F0 m 7 ls [])) , ∀ (a1 : Int32) (a2 : Int32) (a3 : Int32) (a4 : Int32) (H : Heap) (locs : List Loc) (ls : Array Slot), lv_has ls 7 [(0, .ref (ad o)), (1, .int a1), (2, .int a2), (3, .int a3), (4, .int a4)] → WD D cy ad s M H locs → f_X1_speechHours_57 o M rec7 a1 a2 a3 a4 = some z → W p l e R s m args below meth c H locs 0 0 Q (F0 m 57 ls []) := by
    intro rec7 hr7 a1 a2 a3 a4 H locs ls hl hw hF
    unfold f_X1_speechHours_57 at hF
    refine lv_iload_n hx hb dX1_speechHours_57 rfl (lv_at hl 2 rfl) ?_
    refine lv_if_eq (tgt := 71) hx hb dX1_speechHours_58 (by decide) (fun hc58 => ?_) (fun hc58 => ?_)
    · replace hF := st_t hc58 hF
      exact n_71 rec7 hr7 a1 a2 a3 a4 H locs ls (lv_sub hl [0, 1, 2, 3, 4] rfl) hw hF
    · replace hF := st_f hc58 hF
      refine lv_iload hx hb dX1_speechHours_61 (lv_at hl 4 rfl) ?_
      refine lv_bipush (v := 24) hx hb dX1_speechHours_63 (by decide) ?_
      refine lv_icmp_lt (tgt := 71) hx hb dX1_speechHours_65 (by decide) (fun hc65 => ?_) (fun hc65 => ?_)
      · replace hF := st_t hc65 hF
        exact n_71 rec7 hr7 a1 a2 a3 a4 H locs ls (lv_sub hl [0, 1, 2, 3, 4] rfl) hw hF
      · replace hF := st_f hc65 hF
        refine lv_iinc (v := (a3 + 1)) (lv' := [(3, .int (a3 + 1)), (0, .ref (ad o)), (1, .int a1), (2, .int a2), (4, .int a4)]) hx hb dX1_speechHours_68 hl (k := 3) rfl rfl (by decide) rfl (fun ls hl => ?_)
        exact n_71 rec7 hr7 a1 a2 (a3 + 1) a4 H locs ls (lv_sub hl [1, 2, 3, 0, 4] rfl) hw hF
  have n_56 : ∀ (rec7 : Int32 → Int32 → Int32 → Int32 → Option Int32) (_ : ∀ (a1 : Int32) (a2 : Int32) (a3 : Int32) (a4 : Int32) (H : Heap) (locs : List Loc) (ls : Array Slot), lv_has ls 7 [(0, .ref (ad o)), (1, .int a1), (2, .int a2), (3, .int a3), (4, .int a4)] → WD D cy ad s M H locs → rec7 a1 a2 a3 a4 = some z → W p l e R s m args below meth c H locs 0 0 Q (F0 m 7 ls [])) , ∀ (a1 : Int32) (a3 : Int32) (a4 : Int32) (t0 : Int32) (H : Heap) (locs : List Loc) (ls : Array Slot), lv_has ls 7 [(0, .ref (ad o)), (1, .int a1), (3, .int a3), (4, .int a4)] → WD D cy ad s M H locs → f_X1_speechHours_56 o M rec7 a1 a3 a4 t0 = some z → W p l e R s m args below meth c H locs 0 0 Q (F0 m 56 ls [.int t0]) := by
    intro rec7 hr7 a1 a3 a4 t0 H locs ls hl hw hF
    unfold f_X1_speechHours_56 at hF
    refine lv_istore_n (lv' := [(2, .int t0), (0, .ref (ad o)), (1, .int a1), (3, .int a3), (4, .int a4)]) hx hb dX1_speechHours_56 rfl hl (by decide) rfl (fun ls hl => ?_)
    exact n_57 rec7 hr7 a1 t0 a3 a4 H locs ls (lv_sub hl [1, 2, 0, 3, 4] rfl) hw hF
  have n_38 : ∀ (rec7 : Int32 → Int32 → Int32 → Int32 → Option Int32) (_ : ∀ (a1 : Int32) (a2 : Int32) (a3 : Int32) (a4 : Int32) (H : Heap) (locs : List Loc) (ls : Array Slot), lv_has ls 7 [(0, .ref (ad o)), (1, .int a1), (2, .int a2), (3, .int a3), (4, .int a4)] → WD D cy ad s M H locs → rec7 a1 a2 a3 a4 = some z → W p l e R s m args below meth c H locs 0 0 Q (F0 m 7 ls [])) , ∀ (a1 : Int32) (a2 : Int32) (a3 : Int32) (a4 : Int32) (t0 : Int32) (H : Heap) (locs : List Loc) (ls : Array Slot), lv_has ls 7 [(0, .ref (ad o)), (1, .int a1), (2, .int a2), (3, .int a3), (4, .int a4)] → WD D cy ad s M H locs → f_X1_speechHours_38 o M rec7 a1 a2 a3 a4 t0 = some z → W p l e R s m args below meth c H locs 0 0 Q (F0 m 38 ls [.int t0]) := by
    intro rec7 hr7 a1 a2 a3 a4 t0 H locs ls hl hw hF
    unfold f_X1_speechHours_38 at hF
    refine lv_istore (lv' := [(6, .int t0), (0, .ref (ad o)), (1, .int a1), (2, .int a2), (3, .int a3), (4, .int a4)]) hx hb dX1_speechHours_38 hl (by decide) rfl (fun ls hl => ?_)
    refine lv_iload hx hb dX1_speechHours_40 (lv_at hl 0 rfl) ?_
    refine lv_if_eq (tgt := 57) hx hb dX1_speechHours_42 (by decide) (fun hc42 => ?_) (fun hc42 => ?_)
    · replace hF := st_t hc42 hF
      exact n_57 rec7 hr7 a1 a2 a3 a4 H locs ls (lv_sub hl [1, 2, 3, 4, 5] rfl) hw hF
    · replace hF := st_f hc42 hF
      refine lv_iload hx hb dX1_speechHours_45 (lv_at hl 0 rfl) ?_
      refine lv_iconst (v := 2) hx hb dX1_speechHours_47 (by decide) ?_
      refine lv_icmp_ne (tgt := 55) hx hb dX1_speechHours_48 (by decide) (fun hc48 => ?_) (fun hc48 => ?_)
      · replace hF := st_f hc48 hF
        refine lv_iconst (v := 0) hx hb dX1_speechHours_55 (by decide) ?_
        exact n_56 rec7 hr7 a1 a3 a4 0 H locs ls (lv_sub hl [1, 2, 4, 5] rfl) hw hF
      · replace hF := st_t hc48 hF
        refine lv_iconst (v := 1) hx hb dX1_speechHours_51 (by decide) ?_
        refine lv_goto (tgt := 56) hx hb dX1_speechHours_52 (by decide) ?_
        exact n_56 rec7 hr7 a1 a3 a4 1 H locs ls (lv_sub hl [1, 2, 4, 5] rfl) hw hF
  have n_7 : ∀ (n9 : Nat), ∀ (a1 : Int32) (a2 : Int32) (a3 : Int32) (a4 : Int32) (H : Heap) (locs : List Loc) (ls : Array Slot), lv_has ls 7 [(0, .ref (ad o)), (1, .int a1), (2, .int a2), (3, .int a3), (4, .int a4)] → WD D cy ad s M H locs → (lp (fun _ _ _ _ => none) (f_X1_speechHours_7 o M) n9) a1 a2 a3 a4 = some z → W p l e R s m args below meth c H locs 0 0 Q (F0 m 7 ls []) := by
    intro n9
    refine lp_ind (fun (rec7 : Int32 → Int32 → Int32 → Int32 → Option Int32) => ∀ (a1 : Int32) (a2 : Int32) (a3 : Int32) (a4 : Int32) (H : Heap) (locs : List Loc) (ls : Array Slot), lv_has ls 7 [(0, .ref (ad o)), (1, .int a1), (2, .int a2), (3, .int a3), (4, .int a4)] → WD D cy ad s M H locs → rec7 a1 a2 a3 a4 = some z → W p l e R s m args below meth c H locs 0 0 Q (F0 m 7 ls [])) ?_ ?_ n9
    · intro a1 a2 a3 a4 H locs ls hl hw hF
      exact nomatch hF
    · intro rec7 hr7 a1 a2 a3 a4 H locs ls hl hw hF
      unfold f_X1_speechHours_7 at hF
      refine lv_iload hx hb dX1_speechHours_7 (lv_at hl 4 rfl) ?_
      refine lv_bipush (v := 48) hx hb dX1_speechHours_9 (by decide) ?_
      refine lv_icmp_ge (tgt := 77) hx hb dX1_speechHours_11 (by decide) (fun hc11 => ?_) (fun hc11 => ?_)
      · replace hF := st_t hc11 hF
        refine lv_iload_n hx hb dX1_speechHours_77 rfl (lv_at hl 3 rfl) ?_
        exact E _ _ _ _ _ dX1_speechHours_78 hw hF
      · replace hF := st_f hc11 hF
        refine lv_iload hx hb dX1_speechHours_14 (lv_at hl 4 rfl) ?_
        refine lv_bipush (v := 24) hx hb dX1_speechHours_16 (by decide) ?_
        refine g_irem hx hb dX1_speechHours_18 (by decide) ?_
        refine lv_istore (lv' := [(5, .int (irem a4 24)), (0, .ref (ad o)), (1, .int a1), (2, .int a2), (3, .int a3), (4, .int a4)]) hx hb dX1_speechHours_19 hl (by decide) rfl (fun ls hl => ?_)
        refine lv_iload hx hb dX1_speechHours_21 (lv_at hl 0 rfl) ?_
        refine lv_iload_n hx hb dX1_speechHours_23 rfl (lv_at hl 2 rfl) ?_
        refine lv_icmp_ne (tgt := 31) hx hb dX1_speechHours_24 (by decide) (fun hc24 => ?_) (fun hc24 => ?_)
        · replace hF := st_f hc24 hF
          refine lv_aload_n hx hb dX1_speechHours_31 rfl (lv_at hl 1 rfl) ?_
          refine gX1_get fx hw ho.O 10 (by decide) wd1_56 rfl dX1_speechHours_32 ?_
          refine lv_iload hx hb dX1_speechHours_35 (lv_at hl 0 rfl) ?_
          obtain ⟨hi5, hF⟩ := st_chk hF
          refine g_iald fx hw ho.a11 hi5 dX1_speechHours_37 ?_
          exact n_38 rec7 hr7 a1 a2 a3 a4 (M (o + 11) (ix (irem a4 24))) H locs ls (lv_sub hl [1, 2, 3, 4, 5] rfl) hw hF
        · replace hF := st_t hc24 hF
          refine lv_iconst (v := 2) hx hb dX1_speechHours_27 (by decide) ?_
          refine lv_goto (tgt := 38) hx hb dX1_speechHours_28 (by decide) ?_
          exact n_38 rec7 hr7 a1 a2 a3 a4 2 H locs ls (lv_sub hl [1, 2, 3, 4, 5] rfl) hw hF
  unfold f_X1_speechHours at hF
  refine lv_iconst (v := 0) hx hb dX1_speechHours_0 (by decide) ?_
  refine lv_istore_n (lv' := [(2, .int 0), (0, .ref (ad o)), (1, .int p1)]) hx hb dX1_speechHours_1 rfl hl (by decide) rfl (fun ls hl => ?_)
  refine lv_iconst (v := 0) hx hb dX1_speechHours_2 (by decide) ?_
  refine lv_istore_n (lv' := [(3, .int 0), (2, .int 0), (0, .ref (ad o)), (1, .int p1)]) hx hb dX1_speechHours_3 rfl hl (by decide) rfl (fun ls hl => ?_)
  refine lv_iconst (v := 0) hx hb dX1_speechHours_4 (by decide) ?_
  refine lv_istore (lv' := [(4, .int 0), (3, .int 0), (2, .int 0), (0, .ref (ad o)), (1, .int p1)]) hx hb dX1_speechHours_5 hl (by decide) rfl (fun ls hl => ?_)
  exact n_7 FU p1 0 0 0 H locs ls (lv_sub hl [3, 4, 2, 1, 0] rfl) hw hF
theorem c_X1_speechHours (l : Launch) (x : SX) (D : va_G) (cy : Nat → ClassId) (ad : Nat → Nat) (o : Nat) (ho : isH o) (p1 : Int32) (sz : Nat) (M : Mem) (z : Int32) (hF : f_X1_speechHours o p1 M = some z) : Met l yX1_speechHours (.code yX1_speechHours cX1_speechHours 7 (some .int) :: GB) ({ frames := 0, cells := 0, slots := 0, locals := 0 } : Room) (PcW D cy ad x sz M [.ref (ad o), .int p1]) (QiW D cy ad sz z M) 0 0 (AA ad sz) := by
  refine mk_m (own := RX1) (by decide) rfl (Nat.le_of_ble_eq_true rfl) ?_
  intro p e s m args below meth c ls fx hw hl hsz
  subst hsz
  exact b_X1_speechHours fx ⟨Nat.le_refl _, Nat.le_refl _, Nat.le_refl _, Nat.le_refl _⟩ o ho p1 M z hF (fun pc ls H locs v hd hw h => by cases h; exact g_iret fx hw rfl hd) _ _ ls hl hw
noncomputable def f_X1_pagesFor (p1 p2 : Int32) (M : Mem) : Option Int32 := (if p1 = 0 then (some (2 * ((p2 + 9) / 10))) else (some ((p2 + 9) / 10)))
set_option maxHeartbeats 4000000 in
set_option maxRecDepth 100000 in
theorem b_X1_pagesFor {p : Program} {l : Launch} {e : Env} {R : Room} {s : State} {m : MethodId} {args : Array Value} {below : List Frame} {meth : Method} {c : Code} {Q : State → Prop} {D : va_G} {cy : Nat → ClassId} {ad : Nat → Nat} {x : SX} (fx : FX p s m args meth c cX1_pagesFor 3 (some .int) RX1 D cy ad x) (hR : 0 ≤ R.frames ∧ 0 ≤ R.locals ∧ 0 ≤ R.cells ∧ 0 ≤ R.slots) (p1 p2 : Int32) (M : Mem) (z : Int32) (hF : f_X1_pagesFor p1 p2 M = some z) (E : ∀ (pc : Nat) (ls : Array Slot) (H : Heap) (locs : List Loc) (v : Int32), decode cX1_pagesFor pc = .ok (.ireturn, 1) → WD D cy ad s M H locs → some v = some z → W p l e R s m args below meth c H locs 0 0 Q (F0 m pc ls [.int v])) (H : Heap) (locs : List Loc) (ls : Array Slot) (hl : lv_has ls 3 [(0, .int p1), (1, .int p2)]) (hw : WD D cy ad s M H locs) : W p l e R s m args below meth c H locs 0 0 Q (F0 m 0 ls []) := by
  have hx := fx.1.1
  have hb := fx.1.2.1
  have hown := fx.1.2.2.2.1
  have hts := fx.1.2.2.2.2
  unfold f_X1_pagesFor at hF
  refine lv_iload_n hx hb dX1_pagesFor_0 rfl (lv_at hl 1 rfl) ?_
  refine lv_bipush (v := 9) hx hb dX1_pagesFor_1 (by decide) ?_
  refine lv_iadd hx hb dX1_pagesFor_3 ?_
  refine lv_bipush (v := 10) hx hb dX1_pagesFor_4 (by decide) ?_
  refine lv_idiv hx hb dX1_pagesFor_6 (by decide) ?_
  refine lv_istore_n (lv' := [(2, .int ((p2 + 9) / 10)), (0, .int p1), (1, .int p2)]) hx hb dX1_pagesFor_7 rfl hl (by decide) rfl (fun ls hl => ?_)
  refine lv_iload_n hx hb dX1_pagesFor_8 rfl (lv_at hl 1 rfl) ?_
  refine lv_if_ne (tgt := 18) hx hb dX1_pagesFor_9 (by decide) (fun hc9 => ?_) (fun hc9 => ?_)
  · replace hF := st_f hc9 hF
    refine lv_iload_n hx hb dX1_pagesFor_18 rfl (lv_at hl 0 rfl) ?_
    exact E _ _ _ _ _ dX1_pagesFor_19 hw hF
  · replace hF := st_t hc9 hF
    refine lv_iconst (v := 2) hx hb dX1_pagesFor_12 (by decide) ?_
    refine lv_iload_n hx hb dX1_pagesFor_13 rfl (lv_at hl 0 rfl) ?_
    refine lv_imul hx hb dX1_pagesFor_14 ?_
    refine lv_goto (tgt := 19) hx hb dX1_pagesFor_15 (by decide) ?_
    exact E _ _ _ _ _ dX1_pagesFor_19 hw hF
theorem c_X1_pagesFor (l : Launch) (x : SX) (D : va_G) (cy : Nat → ClassId) (ad : Nat → Nat) (p1 p2 : Int32) (sz : Nat) (M : Mem) (z : Int32) (hF : f_X1_pagesFor p1 p2 M = some z) : Met l yX1_pagesFor (.code yX1_pagesFor cX1_pagesFor 3 (some .int) :: GB) ({ frames := 0, cells := 0, slots := 0, locals := 0 } : Room) (PcW D cy ad x sz M [.int p1, .int p2]) (QiW D cy ad sz z M) 0 0 (AA ad sz) := by
  refine mk_m (own := RX1) (by decide) rfl (Nat.le_of_ble_eq_true rfl) ?_
  intro p e s m args below meth c ls fx hw hl hsz
  subst hsz
  exact b_X1_pagesFor fx ⟨Nat.le_refl _, Nat.le_refl _, Nat.le_refl _, Nat.le_refl _⟩ p1 p2 M z hF (fun pc ls H locs v hd hw h => by cases h; exact g_iret fx hw rfl hd) _ _ ls hl hw
noncomputable def f_X1_fastFor (p1 p2 : Int32) (M : Mem) : Option Int32 := (if p1 = 2 then (some (2 * ((p2 + 4) / 5))) else (some ((p2 + 4) / 5)))
set_option maxHeartbeats 4000000 in
set_option maxRecDepth 100000 in
theorem b_X1_fastFor {p : Program} {l : Launch} {e : Env} {R : Room} {s : State} {m : MethodId} {args : Array Value} {below : List Frame} {meth : Method} {c : Code} {Q : State → Prop} {D : va_G} {cy : Nat → ClassId} {ad : Nat → Nat} {x : SX} (fx : FX p s m args meth c cX1_fastFor 3 (some .int) RX1 D cy ad x) (hR : 0 ≤ R.frames ∧ 0 ≤ R.locals ∧ 0 ≤ R.cells ∧ 0 ≤ R.slots) (p1 p2 : Int32) (M : Mem) (z : Int32) (hF : f_X1_fastFor p1 p2 M = some z) (E : ∀ (pc : Nat) (ls : Array Slot) (H : Heap) (locs : List Loc) (v : Int32), decode cX1_fastFor pc = .ok (.ireturn, 1) → WD D cy ad s M H locs → some v = some z → W p l e R s m args below meth c H locs 0 0 Q (F0 m pc ls [.int v])) (H : Heap) (locs : List Loc) (ls : Array Slot) (hl : lv_has ls 3 [(0, .int p1), (1, .int p2)]) (hw : WD D cy ad s M H locs) : W p l e R s m args below meth c H locs 0 0 Q (F0 m 0 ls []) := by
  have hx := fx.1.1
  have hb := fx.1.2.1
  have hown := fx.1.2.2.2.1
  have hts := fx.1.2.2.2.2
  unfold f_X1_fastFor at hF
  refine lv_iload_n hx hb dX1_fastFor_0 rfl (lv_at hl 1 rfl) ?_
  refine lv_iconst (v := 4) hx hb dX1_fastFor_1 (by decide) ?_
  refine lv_iadd hx hb dX1_fastFor_2 ?_
  refine lv_iconst (v := 5) hx hb dX1_fastFor_3 (by decide) ?_
  refine lv_idiv hx hb dX1_fastFor_4 (by decide) ?_
  refine lv_istore_n (lv' := [(2, .int ((p2 + 4) / 5)), (0, .int p1), (1, .int p2)]) hx hb dX1_fastFor_5 rfl hl (by decide) rfl (fun ls hl => ?_)
  refine lv_iload_n hx hb dX1_fastFor_6 rfl (lv_at hl 1 rfl) ?_
  refine lv_iconst (v := 2) hx hb dX1_fastFor_7 (by decide) ?_
  refine lv_icmp_ne (tgt := 17) hx hb dX1_fastFor_8 (by decide) (fun hc8 => ?_) (fun hc8 => ?_)
  · replace hF := st_f hc8 hF
    refine lv_iload_n hx hb dX1_fastFor_17 rfl (lv_at hl 0 rfl) ?_
    exact E _ _ _ _ _ dX1_fastFor_18 hw hF
  · replace hF := st_t hc8 hF
    refine lv_iconst (v := 2) hx hb dX1_fastFor_11 (by decide) ?_
    refine lv_iload_n hx hb dX1_fastFor_12 rfl (lv_at hl 0 rfl) ?_
    refine lv_imul hx hb dX1_fastFor_13 ?_
    refine lv_goto (tgt := 18) hx hb dX1_fastFor_14 (by decide) ?_
    exact E _ _ _ _ _ dX1_fastFor_18 hw hF
theorem c_X1_fastFor (l : Launch) (x : SX) (D : va_G) (cy : Nat → ClassId) (ad : Nat → Nat) (p1 p2 : Int32) (sz : Nat) (M : Mem) (z : Int32) (hF : f_X1_fastFor p1 p2 M = some z) : Met l yX1_fastFor (.code yX1_fastFor cX1_fastFor 3 (some .int) :: GB) ({ frames := 0, cells := 0, slots := 0, locals := 0 } : Room) (PcW D cy ad x sz M [.int p1, .int p2]) (QiW D cy ad sz z M) 0 0 (AA ad sz) := by
  refine mk_m (own := RX1) (by decide) rfl (Nat.le_of_ble_eq_true rfl) ?_
  intro p e s m args below meth c ls fx hw hl hsz
  subst hsz
  exact b_X1_fastFor fx ⟨Nat.le_refl _, Nat.le_refl _, Nat.le_refl _, Nat.le_refl _⟩ p1 p2 M z hF (fun pc ls H locs v hd hw h => by cases h; exact g_iret fx hw rfl hd) _ _ ls hl hw
noncomputable def f_X1_pagesToTell (o : Nat) (p1 p2 : Int32) (M : Mem) : Option Int32 := (chk (inB p1 12) (chk (inB p2 8) (bnd (f_X1_pagesFor (M (o + 2) (ix p1)) (M (o + 10) (ix p2)) M) (fun r6 => (some r6)))))
set_option maxHeartbeats 4000000 in
set_option maxRecDepth 100000 in
theorem b_X1_pagesToTell {p : Program} {l : Launch} {e : Env} {R : Room} {s : State} {m : MethodId} {args : Array Value} {below : List Frame} {meth : Method} {c : Code} {Q : State → Prop} {D : va_G} {cy : Nat → ClassId} {ad : Nat → Nat} {x : SX} (fx : FX p s m args meth c cX1_pagesToTell 3 (some .int) RX1 D cy ad x) (hR : 1 ≤ R.frames ∧ 22 ≤ R.locals ∧ 0 ≤ R.cells ∧ 0 ≤ R.slots) (o : Nat) (ho : isH o) (p1 p2 : Int32) (M : Mem) (z : Int32) (hF : f_X1_pagesToTell o p1 p2 M = some z) (E : ∀ (pc : Nat) (ls : Array Slot) (H : Heap) (locs : List Loc) (v : Int32), decode cX1_pagesToTell pc = .ok (.ireturn, 1) → WD D cy ad s M H locs → some v = some z → W p l e R s m args below meth c H locs 0 0 Q (F0 m pc ls [.int v])) (H : Heap) (locs : List Loc) (ls : Array Slot) (hl : lv_has ls 3 [(0, .ref (ad o)), (1, .int p1), (2, .int p2)]) (hw : WD D cy ad s M H locs) : W p l e R s m args below meth c H locs 0 0 Q (F0 m 0 ls []) := by
  have hx := fx.1.1
  have hb := fx.1.2.1
  have hown := fx.1.2.2.2.1
  have hts := fx.1.2.2.2.2
  unfold f_X1_pagesToTell at hF
  refine lv_aload_n hx hb dX1_pagesToTell_0 rfl (lv_at hl 0 rfl) ?_
  refine gX1_get fx hw ho.O 1 (by decide) wd1_38 rfl dX1_pagesToTell_1 ?_
  refine lv_iload_n hx hb dX1_pagesToTell_4 rfl (lv_at hl 1 rfl) ?_
  obtain ⟨hi4, hF⟩ := st_chk hF
  refine g_iald fx hw ho.a2 hi4 dX1_pagesToTell_5 ?_
  refine lv_aload_n hx hb dX1_pagesToTell_6 rfl (lv_at hl 0 rfl) ?_
  refine gX1_get fx hw ho.O 9 (by decide) wd1_54 rfl dX1_pagesToTell_7 ?_
  refine lv_iload_n hx hb dX1_pagesToTell_10 rfl (lv_at hl 2 rfl) ?_
  obtain ⟨hi5, hF⟩ := st_chk hF
  refine g_iald fx hw ho.a10 hi5 dX1_pagesToTell_11 ?_
  obtain ⟨r6, hgr6, hF⟩ := st_bnd hF
  refine g_ci hw (g_runS (As := [.int (M (o + 2) (ix p1)), .int (M (o + 10) (ix p2))]) (rest := []) fx hw (c_X1_pagesFor l x D cy ad (M (o + 2) (ix p1)) (M (o + 10) (ix p2)) H.size M r6 hgr6) wd2_192 wd2_193 wd1_2 wd2_194 yd_X1_pagesFor rfl rfl (Nat.le_of_ble_eq_true rfl) hl.1 ⟨Nat.le_trans (Nat.le_of_ble_eq_true rfl) hR.1, Nat.le_trans (Nat.le_of_ble_eq_true rfl) hR.2.1⟩ ⟨Nat.le_trans (Nat.le_of_ble_eq_true rfl) hR.2.2.1, Nat.le_trans (Nat.le_of_ble_eq_true rfl) hR.2.2.2⟩ dX1_pagesToTell_12) (fun H locs hw => ?_)
  exact E _ _ _ _ _ dX1_pagesToTell_15 hw hF
theorem c_X1_pagesToTell (l : Launch) (x : SX) (D : va_G) (cy : Nat → ClassId) (ad : Nat → Nat) (o : Nat) (ho : isH o) (p1 p2 : Int32) (sz : Nat) (M : Mem) (z : Int32) (hF : f_X1_pagesToTell o p1 p2 M = some z) : Met l yX1_pagesToTell (.code yX1_pagesToTell cX1_pagesToTell 3 (some .int) :: GB) ({ frames := 1, cells := 0, slots := 0, locals := 22 } : Room) (PcW D cy ad x sz M [.ref (ad o), .int p1, .int p2]) (QiW D cy ad sz z M) 0 0 (AA ad sz) := by
  refine mk_m (own := RX1) (by decide) rfl (Nat.le_of_ble_eq_true rfl) ?_
  intro p e s m args below meth c ls fx hw hl hsz
  subst hsz
  exact b_X1_pagesToTell fx ⟨Nat.le_refl _, Nat.le_refl _, Nat.le_refl _, Nat.le_refl _⟩ o ho p1 p2 M z hF (fun pc ls H locs v hd hw h => by cases h; exact g_iret fx hw rfl hd) _ _ ls hl hw
noncomputable def f_X1_leaveToTell (o : Nat) (p1 p2 p3 : Int32) (M : Mem) : Option Int32 := (if p3 = 0 then (chk (inB p1 12) (chk (inB p2 8) (some (imin (M (o + 5) (ix p1)) (M (o + 10) (ix p2)))))) else (some 0))
set_option maxHeartbeats 4000000 in
set_option maxRecDepth 100000 in
theorem b_X1_leaveToTell {p : Program} {l : Launch} {e : Env} {R : Room} {s : State} {m : MethodId} {args : Array Value} {below : List Frame} {meth : Method} {c : Code} {Q : State → Prop} {D : va_G} {cy : Nat → ClassId} {ad : Nat → Nat} {x : SX} (fx : FX p s m args meth c cX1_leaveToTell 4 (some .int) RX1 D cy ad x) (hR : 1 ≤ R.frames ∧ 21 ≤ R.locals ∧ 0 ≤ R.cells ∧ 0 ≤ R.slots) (o : Nat) (ho : isH o) (p1 p2 p3 : Int32) (M : Mem) (z : Int32) (hF : f_X1_leaveToTell o p1 p2 p3 M = some z) (E : ∀ (pc : Nat) (ls : Array Slot) (H : Heap) (locs : List Loc) (v : Int32), decode cX1_leaveToTell pc = .ok (.ireturn, 1) → WD D cy ad s M H locs → some v = some z → W p l e R s m args below meth c H locs 0 0 Q (F0 m pc ls [.int v])) (H : Heap) (locs : List Loc) (ls : Array Slot) (hl : lv_has ls 4 [(0, .ref (ad o)), (1, .int p1), (2, .int p2), (3, .int p3)]) (hw : WD D cy ad s M H locs) : W p l e R s m args below meth c H locs 0 0 Q (F0 m 0 ls []) := by
  have hx := fx.1.1
  have hb := fx.1.2.1
  have hown := fx.1.2.2.2.1
  have hts := fx.1.2.2.2.2
  unfold f_X1_leaveToTell at hF
  refine lv_iload_n hx hb dX1_leaveToTell_0 rfl (lv_at hl 3 rfl) ?_
  refine lv_if_eq (tgt := 8) hx hb dX1_leaveToTell_1 (by decide) (fun hc1 => ?_) (fun hc1 => ?_)
  · replace hF := st_t hc1 hF
    refine lv_aload_n hx hb dX1_leaveToTell_8 rfl (lv_at hl 0 rfl) ?_
    refine gX1_get fx hw ho.O 4 (by decide) wd1_44 rfl dX1_leaveToTell_9 ?_
    refine lv_iload_n hx hb dX1_leaveToTell_12 rfl (lv_at hl 1 rfl) ?_
    obtain ⟨hi3, hF⟩ := st_chk hF
    refine g_iald fx hw ho.a5 hi3 dX1_leaveToTell_13 ?_
    refine lv_aload_n hx hb dX1_leaveToTell_14 rfl (lv_at hl 0 rfl) ?_
    refine gX1_get fx hw ho.O 9 (by decide) wd1_54 rfl dX1_leaveToTell_15 ?_
    refine lv_iload_n hx hb dX1_leaveToTell_18 rfl (lv_at hl 2 rfl) ?_
    obtain ⟨hi4, hF⟩ := st_chk hF
    refine g_iald fx hw ho.a10 hi4 dX1_leaveToTell_19 ?_
    refine g_mmin fx wd2_233 wd2_72 wd1_17 wd2_73 hl.1 (Nat.le_trans (Nat.le_of_ble_eq_true rfl) hR.1) (Nat.le_trans (Nat.le_of_ble_eq_true rfl) hR.2.1) ⟨Nat.le_trans (Nat.le_of_ble_eq_true rfl) hR.2.2.1, Nat.le_trans (Nat.le_of_ble_eq_true rfl) hR.2.2.2⟩ dX1_leaveToTell_20 ?_
    exact E _ _ _ _ _ dX1_leaveToTell_23 hw hF
  · replace hF := st_f hc1 hF
    refine lv_iconst (v := 0) hx hb dX1_leaveToTell_4 (by decide) ?_
    refine lv_goto (tgt := 23) hx hb dX1_leaveToTell_5 (by decide) ?_
    exact E _ _ _ _ _ dX1_leaveToTell_23 hw hF
theorem c_X1_leaveToTell (l : Launch) (x : SX) (D : va_G) (cy : Nat → ClassId) (ad : Nat → Nat) (o : Nat) (ho : isH o) (p1 p2 p3 : Int32) (sz : Nat) (M : Mem) (z : Int32) (hF : f_X1_leaveToTell o p1 p2 p3 M = some z) : Met l yX1_leaveToTell (.code yX1_leaveToTell cX1_leaveToTell 4 (some .int) :: GB) ({ frames := 1, cells := 0, slots := 0, locals := 21 } : Room) (PcW D cy ad x sz M [.ref (ad o), .int p1, .int p2, .int p3]) (QiW D cy ad sz z M) 0 0 (AA ad sz) := by
  refine mk_m (own := RX1) (by decide) rfl (Nat.le_of_ble_eq_true rfl) ?_
  intro p e s m args below meth c ls fx hw hl hsz
  subst hsz
  exact b_X1_leaveToTell fx ⟨Nat.le_refl _, Nat.le_refl _, Nat.le_refl _, Nat.le_refl _⟩ o ho p1 p2 p3 M z hF (fun pc ls H locs v hd hw h => by cases h; exact g_iret fx hw rfl hd) _ _ ls hl hw
noncomputable def f_X1_restToTell (o : Nat) (p1 p2 p3 : Int32) (M : Mem) : Option Int32 := (if p3 = 0 then (chk (inB p2 8) (chk (inB p1 12) (some (imax ((M (o + 10) (ix p2)) - (M (o + 5) (ix p1))) 0)))) else (some 0))
set_option maxHeartbeats 4000000 in
set_option maxRecDepth 100000 in
theorem b_X1_restToTell {p : Program} {l : Launch} {e : Env} {R : Room} {s : State} {m : MethodId} {args : Array Value} {below : List Frame} {meth : Method} {c : Code} {Q : State → Prop} {D : va_G} {cy : Nat → ClassId} {ad : Nat → Nat} {x : SX} (fx : FX p s m args meth c cX1_restToTell 4 (some .int) RX1 D cy ad x) (hR : 1 ≤ R.frames ∧ 21 ≤ R.locals ∧ 0 ≤ R.cells ∧ 0 ≤ R.slots) (o : Nat) (ho : isH o) (p1 p2 p3 : Int32) (M : Mem) (z : Int32) (hF : f_X1_restToTell o p1 p2 p3 M = some z) (E : ∀ (pc : Nat) (ls : Array Slot) (H : Heap) (locs : List Loc) (v : Int32), decode cX1_restToTell pc = .ok (.ireturn, 1) → WD D cy ad s M H locs → some v = some z → W p l e R s m args below meth c H locs 0 0 Q (F0 m pc ls [.int v])) (H : Heap) (locs : List Loc) (ls : Array Slot) (hl : lv_has ls 4 [(0, .ref (ad o)), (1, .int p1), (2, .int p2), (3, .int p3)]) (hw : WD D cy ad s M H locs) : W p l e R s m args below meth c H locs 0 0 Q (F0 m 0 ls []) := by
  have hx := fx.1.1
  have hb := fx.1.2.1
  have hown := fx.1.2.2.2.1
  have hts := fx.1.2.2.2.2
  unfold f_X1_restToTell at hF
  refine lv_iload_n hx hb dX1_restToTell_0 rfl (lv_at hl 3 rfl) ?_
  refine lv_if_eq (tgt := 8) hx hb dX1_restToTell_1 (by decide) (fun hc1 => ?_) (fun hc1 => ?_)
  · replace hF := st_t hc1 hF
    refine lv_aload_n hx hb dX1_restToTell_8 rfl (lv_at hl 0 rfl) ?_
    refine gX1_get fx hw ho.O 9 (by decide) wd1_54 rfl dX1_restToTell_9 ?_
    refine lv_iload_n hx hb dX1_restToTell_12 rfl (lv_at hl 2 rfl) ?_
    obtain ⟨hi3, hF⟩ := st_chk hF
    refine g_iald fx hw ho.a10 hi3 dX1_restToTell_13 ?_
    refine lv_aload_n hx hb dX1_restToTell_14 rfl (lv_at hl 0 rfl) ?_
    refine gX1_get fx hw ho.O 4 (by decide) wd1_44 rfl dX1_restToTell_15 ?_
    refine lv_iload_n hx hb dX1_restToTell_18 rfl (lv_at hl 1 rfl) ?_
    obtain ⟨hi4, hF⟩ := st_chk hF
    refine g_iald fx hw ho.a5 hi4 dX1_restToTell_19 ?_
    refine lv_isub hx hb dX1_restToTell_20 ?_
    refine lv_iconst (v := 0) hx hb dX1_restToTell_21 (by decide) ?_
    refine g_mmax fx wd2_211 wd2_212 wd1_17 wd2_213 hl.1 (Nat.le_trans (Nat.le_of_ble_eq_true rfl) hR.1) (Nat.le_trans (Nat.le_of_ble_eq_true rfl) hR.2.1) ⟨Nat.le_trans (Nat.le_of_ble_eq_true rfl) hR.2.2.1, Nat.le_trans (Nat.le_of_ble_eq_true rfl) hR.2.2.2⟩ dX1_restToTell_22 ?_
    exact E _ _ _ _ _ dX1_restToTell_25 hw hF
  · replace hF := st_f hc1 hF
    refine lv_iconst (v := 0) hx hb dX1_restToTell_4 (by decide) ?_
    refine lv_goto (tgt := 25) hx hb dX1_restToTell_5 (by decide) ?_
    exact E _ _ _ _ _ dX1_restToTell_25 hw hF
theorem c_X1_restToTell (l : Launch) (x : SX) (D : va_G) (cy : Nat → ClassId) (ad : Nat → Nat) (o : Nat) (ho : isH o) (p1 p2 p3 : Int32) (sz : Nat) (M : Mem) (z : Int32) (hF : f_X1_restToTell o p1 p2 p3 M = some z) : Met l yX1_restToTell (.code yX1_restToTell cX1_restToTell 4 (some .int) :: GB) ({ frames := 1, cells := 0, slots := 0, locals := 21 } : Room) (PcW D cy ad x sz M [.ref (ad o), .int p1, .int p2, .int p3]) (QiW D cy ad sz z M) 0 0 (AA ad sz) := by
  refine mk_m (own := RX1) (by decide) rfl (Nat.le_of_ble_eq_true rfl) ?_
  intro p e s m args below meth c ls fx hw hl hsz
  subst hsz
  exact b_X1_restToTell fx ⟨Nat.le_refl _, Nat.le_refl _, Nat.le_refl _, Nat.le_refl _⟩ o ho p1 p2 p3 M z hF (fun pc ls H locs v hd hw h => by cases h; exact g_iret fx hw rfl hd) _ _ ls hl hw
noncomputable def f_X1_fastToTell (o : Nat) (p1 p2 p3 : Int32) (M : Mem) : Option Int32 := (chk (inB p1 12) (bnd (f_X1_restToTell o p1 p2 p3 M) (fun r5 => (bnd (f_X1_fastFor (M (o + 2) (ix p1)) r5 M) (fun r6 => (some r6))))))
set_option maxHeartbeats 4000000 in
set_option maxRecDepth 100000 in
theorem b_X1_fastToTell {p : Program} {l : Launch} {e : Env} {R : Room} {s : State} {m : MethodId} {args : Array Value} {below : List Frame} {meth : Method} {c : Code} {Q : State → Prop} {D : va_G} {cy : Nat → ClassId} {ad : Nat → Nat} {x : SX} (fx : FX p s m args meth c cX1_fastToTell 4 (some .int) RX1 D cy ad x) (hR : 2 ≤ R.frames ∧ 44 ≤ R.locals ∧ 0 ≤ R.cells ∧ 0 ≤ R.slots) (o : Nat) (ho : isH o) (p1 p2 p3 : Int32) (M : Mem) (z : Int32) (hF : f_X1_fastToTell o p1 p2 p3 M = some z) (E : ∀ (pc : Nat) (ls : Array Slot) (H : Heap) (locs : List Loc) (v : Int32), decode cX1_fastToTell pc = .ok (.ireturn, 1) → WD D cy ad s M H locs → some v = some z → W p l e R s m args below meth c H locs 0 0 Q (F0 m pc ls [.int v])) (H : Heap) (locs : List Loc) (ls : Array Slot) (hl : lv_has ls 4 [(0, .ref (ad o)), (1, .int p1), (2, .int p2), (3, .int p3)]) (hw : WD D cy ad s M H locs) : W p l e R s m args below meth c H locs 0 0 Q (F0 m 0 ls []) := by
  have hx := fx.1.1
  have hb := fx.1.2.1
  have hown := fx.1.2.2.2.1
  have hts := fx.1.2.2.2.2
  unfold f_X1_fastToTell at hF
  refine lv_aload_n hx hb dX1_fastToTell_0 rfl (lv_at hl 0 rfl) ?_
  refine gX1_get fx hw ho.O 1 (by decide) wd1_38 rfl dX1_fastToTell_1 ?_
  refine lv_iload_n hx hb dX1_fastToTell_4 rfl (lv_at hl 1 rfl) ?_
  obtain ⟨hi4, hF⟩ := st_chk hF
  refine g_iald fx hw ho.a2 hi4 dX1_fastToTell_5 ?_
  refine lv_aload_n hx hb dX1_fastToTell_6 rfl (lv_at hl 0 rfl) ?_
  refine lv_iload_n hx hb dX1_fastToTell_7 rfl (lv_at hl 1 rfl) ?_
  refine lv_iload_n hx hb dX1_fastToTell_8 rfl (lv_at hl 2 rfl) ?_
  refine lv_iload_n hx hb dX1_fastToTell_9 rfl (lv_at hl 3 rfl) ?_
  obtain ⟨r5, hgr5, hF⟩ := st_bnd hF
  refine g_ci hw (g_runV (C := RX1) (As := [.int p1, .int p2, .int p3]) (rest := [.int (M (o + 2) (ix p1))]) fx hw ho.O rfl (c_X1_restToTell l x D cy ad o ho p1 p2 p3 H.size M r5 hgr5) wd2_207 wd2_209 wd0_26 wd1_2 wd2_210 yd_X1_restToTell rfl rfl (Nat.le_of_ble_eq_true rfl) hl.1 ⟨Nat.le_trans (Nat.le_of_ble_eq_true rfl) hR.1, Nat.le_trans (Nat.le_of_ble_eq_true rfl) hR.2.1⟩ ⟨Nat.le_trans (Nat.le_of_ble_eq_true rfl) hR.2.2.1, Nat.le_trans (Nat.le_of_ble_eq_true rfl) hR.2.2.2⟩ dX1_fastToTell_10) (fun H locs hw => ?_)
  obtain ⟨r6, hgr6, hF⟩ := st_bnd hF
  refine g_ci hw (g_runS (As := [.int (M (o + 2) (ix p1)), .int r5]) (rest := []) fx hw (c_X1_fastFor l x D cy ad (M (o + 2) (ix p1)) r5 H.size M r6 hgr6) wd2_214 wd2_215 wd1_2 wd2_216 yd_X1_fastFor rfl rfl (Nat.le_of_ble_eq_true rfl) hl.1 ⟨Nat.le_trans (Nat.le_of_ble_eq_true rfl) hR.1, Nat.le_trans (Nat.le_of_ble_eq_true rfl) hR.2.1⟩ ⟨Nat.le_trans (Nat.le_of_ble_eq_true rfl) hR.2.2.1, Nat.le_trans (Nat.le_of_ble_eq_true rfl) hR.2.2.2⟩ dX1_fastToTell_13) (fun H locs hw => ?_)
  exact E _ _ _ _ _ dX1_fastToTell_16 hw hF
theorem c_X1_fastToTell (l : Launch) (x : SX) (D : va_G) (cy : Nat → ClassId) (ad : Nat → Nat) (o : Nat) (ho : isH o) (p1 p2 p3 : Int32) (sz : Nat) (M : Mem) (z : Int32) (hF : f_X1_fastToTell o p1 p2 p3 M = some z) : Met l yX1_fastToTell (.code yX1_fastToTell cX1_fastToTell 4 (some .int) :: GB) ({ frames := 2, cells := 0, slots := 0, locals := 44 } : Room) (PcW D cy ad x sz M [.ref (ad o), .int p1, .int p2, .int p3]) (QiW D cy ad sz z M) 0 0 (AA ad sz) := by
  refine mk_m (own := RX1) (by decide) rfl (Nat.le_of_ble_eq_true rfl) ?_
  intro p e s m args below meth c ls fx hw hl hsz
  subst hsz
  exact b_X1_fastToTell fx ⟨Nat.le_refl _, Nat.le_refl _, Nat.le_refl _, Nat.le_refl _⟩ o ho p1 p2 p3 M z hF (fun pc ls H locs v hd hw h => by cases h; exact g_iret fx hw rfl hd) _ _ ls hl hw
noncomputable def f_X1_costOf (o : Nat) (p1 p2 p3 : Int32) (M : Mem) : Option Int32 := (if p3 = 0 then (some 0) else (if p3 = 1 then (bnd (f_X1_pagesToTell o p1 p2 M) (fun r8 => (some (3 * r8)))) else (bnd (f_X1_isSpeechAt o (irem (M o 16) 24) M) (fun r5 => (bnd (f_X1_fastToTell o p1 p2 r5 M) (fun r6 => (bnd (f_X1_leaveToTell o p1 p2 r5 M) (fun r7 => (some ((10 * r6) + (1 * r7)))))))))))
set_option maxHeartbeats 4000000 in
set_option maxRecDepth 100000 in
theorem b_X1_costOf {p : Program} {l : Launch} {e : Env} {R : Room} {s : State} {m : MethodId} {args : Array Value} {below : List Frame} {meth : Method} {c : Code} {Q : State → Prop} {D : va_G} {cy : Nat → ClassId} {ad : Nat → Nat} {x : SX} (fx : FX p s m args meth c cX1_costOf 5 (some .int) RX1 D cy ad x) (hR : 3 ≤ R.frames ∧ 67 ≤ R.locals ∧ 0 ≤ R.cells ∧ 0 ≤ R.slots) (o : Nat) (ho : isH o) (p1 p2 p3 : Int32) (M : Mem) (z : Int32) (hF : f_X1_costOf o p1 p2 p3 M = some z) (E : ∀ (pc : Nat) (ls : Array Slot) (H : Heap) (locs : List Loc) (v : Int32), decode cX1_costOf pc = .ok (.ireturn, 1) → WD D cy ad s M H locs → some v = some z → W p l e R s m args below meth c H locs 0 0 Q (F0 m pc ls [.int v])) (H : Heap) (locs : List Loc) (ls : Array Slot) (hl : lv_has ls 5 [(0, .ref (ad o)), (1, .int p1), (2, .int p2), (3, .int p3)]) (hw : WD D cy ad s M H locs) : W p l e R s m args below meth c H locs 0 0 Q (F0 m 0 ls []) := by
  have hx := fx.1.1
  have hb := fx.1.2.1
  have hown := fx.1.2.2.2.1
  have hts := fx.1.2.2.2.2
  unfold f_X1_costOf at hF
  refine lv_iload_n hx hb dX1_costOf_0 rfl (lv_at hl 3 rfl) ?_
  refine lv_if_ne (tgt := 6) hx hb dX1_costOf_1 (by decide) (fun hc1 => ?_) (fun hc1 => ?_)
  · replace hF := st_f hc1 hF
    refine lv_iload_n hx hb dX1_costOf_6 rfl (lv_at hl 3 rfl) ?_
    refine lv_iconst (v := 1) hx hb dX1_costOf_7 (by decide) ?_
    refine lv_icmp_ne (tgt := 20) hx hb dX1_costOf_8 (by decide) (fun hc8 => ?_) (fun hc8 => ?_)
    · replace hF := st_f hc8 hF
      refine lv_aload_n hx hb dX1_costOf_20 rfl (lv_at hl 0 rfl) ?_
      refine lv_aload_n hx hb dX1_costOf_21 rfl (lv_at hl 0 rfl) ?_
      refine gX1_get fx hw ho.O 16 (by decide) wd1_72 rfl dX1_costOf_22 ?_
      refine lv_bipush (v := 24) hx hb dX1_costOf_25 (by decide) ?_
      refine g_irem hx hb dX1_costOf_27 (by decide) ?_
      obtain ⟨r5, hgr5, hF⟩ := st_bnd hF
      refine g_cz hw (g_runV (C := RX1) (As := [.int (irem (M o 16) 24)]) (rest := []) fx hw ho.O rfl (c_X1_isSpeechAt l x D cy ad o ho (irem (M o 16) 24) H.size M r5 hgr5) wd2_195 wd2_196 wd2_197 wd1_2 wd2_198 yd_X1_isSpeechAt rfl rfl (Nat.le_of_ble_eq_true rfl) hl.1 ⟨Nat.le_trans (Nat.le_of_ble_eq_true rfl) hR.1, Nat.le_trans (Nat.le_of_ble_eq_true rfl) hR.2.1⟩ ⟨Nat.le_trans (Nat.le_of_ble_eq_true rfl) hR.2.2.1, Nat.le_trans (Nat.le_of_ble_eq_true rfl) hR.2.2.2⟩ dX1_costOf_28) (fun H locs hbr5 hw => ?_)
      refine lv_istore (lv' := [(4, .int r5), (0, .ref (ad o)), (1, .int p1), (2, .int p2), (3, .int p3)]) hx hb dX1_costOf_31 hl (by decide) rfl (fun ls hl => ?_)
      refine lv_bipush (v := 10) hx hb dX1_costOf_33 (by decide) ?_
      refine lv_aload_n hx hb dX1_costOf_35 rfl (lv_at hl 1 rfl) ?_
      refine lv_iload_n hx hb dX1_costOf_36 rfl (lv_at hl 2 rfl) ?_
      refine lv_iload_n hx hb dX1_costOf_37 rfl (lv_at hl 3 rfl) ?_
      refine lv_iload hx hb dX1_costOf_38 (lv_at hl 0 rfl) ?_
      obtain ⟨r6, hgr6, hF⟩ := st_bnd hF
      refine g_ci hw (g_runV (C := RX1) (As := [.int p1, .int p2, .int r5]) (rest := [.int 10]) fx hw ho.O rfl (c_X1_fastToTell l x D cy ad o ho p1 p2 r5 H.size M r6 hgr6) wd2_203 wd2_205 wd0_25 wd1_2 wd2_206 yd_X1_fastToTell rfl rfl (Nat.le_of_ble_eq_true rfl) hl.1 ⟨Nat.le_trans (Nat.le_of_ble_eq_true rfl) hR.1, Nat.le_trans (Nat.le_of_ble_eq_true rfl) hR.2.1⟩ ⟨Nat.le_trans (Nat.le_of_ble_eq_true rfl) hR.2.2.1, Nat.le_trans (Nat.le_of_ble_eq_true rfl) hR.2.2.2⟩ dX1_costOf_40) (fun H locs hw => ?_)
      refine lv_imul hx hb dX1_costOf_43 ?_
      refine lv_iconst (v := 1) hx hb dX1_costOf_44 (by decide) ?_
      refine lv_aload_n hx hb dX1_costOf_45 rfl (lv_at hl 1 rfl) ?_
      refine lv_iload_n hx hb dX1_costOf_46 rfl (lv_at hl 2 rfl) ?_
      refine lv_iload_n hx hb dX1_costOf_47 rfl (lv_at hl 3 rfl) ?_
      refine lv_iload hx hb dX1_costOf_48 (lv_at hl 0 rfl) ?_
      obtain ⟨r7, hgr7, hF⟩ := st_bnd hF
      refine g_ci hw (g_runV (C := RX1) (As := [.int p1, .int p2, .int r5]) (rest := [.int 1, .int (10 * r6)]) fx hw ho.O rfl (c_X1_leaveToTell l x D cy ad o ho p1 p2 r5 H.size M r7 hgr7) wd2_229 wd2_231 wd0_29 wd1_2 wd2_232 yd_X1_leaveToTell rfl rfl (Nat.le_of_ble_eq_true rfl) hl.1 ⟨Nat.le_trans (Nat.le_of_ble_eq_true rfl) hR.1, Nat.le_trans (Nat.le_of_ble_eq_true rfl) hR.2.1⟩ ⟨Nat.le_trans (Nat.le_of_ble_eq_true rfl) hR.2.2.1, Nat.le_trans (Nat.le_of_ble_eq_true rfl) hR.2.2.2⟩ dX1_costOf_50) (fun H locs hw => ?_)
      refine lv_imul hx hb dX1_costOf_53 ?_
      refine lv_iadd hx hb dX1_costOf_54 ?_
      exact E _ _ _ _ _ dX1_costOf_55 hw hF
    · replace hF := st_t hc8 hF
      refine lv_iconst (v := 3) hx hb dX1_costOf_11 (by decide) ?_
      refine lv_aload_n hx hb dX1_costOf_12 rfl (lv_at hl 0 rfl) ?_
      refine lv_iload_n hx hb dX1_costOf_13 rfl (lv_at hl 1 rfl) ?_
      refine lv_iload_n hx hb dX1_costOf_14 rfl (lv_at hl 2 rfl) ?_
      obtain ⟨r8, hgr8, hF⟩ := st_bnd hF
      refine g_ci hw (g_runV (C := RX1) (As := [.int p1, .int p2]) (rest := [.int 3]) fx hw ho.O rfl (c_X1_pagesToTell l x D cy ad o ho p1 p2 H.size M r8 hgr8) wd2_188 wd2_190 wd0_24 wd1_2 wd2_191 yd_X1_pagesToTell rfl rfl (Nat.le_of_ble_eq_true rfl) hl.1 ⟨Nat.le_trans (Nat.le_of_ble_eq_true rfl) hR.1, Nat.le_trans (Nat.le_of_ble_eq_true rfl) hR.2.1⟩ ⟨Nat.le_trans (Nat.le_of_ble_eq_true rfl) hR.2.2.1, Nat.le_trans (Nat.le_of_ble_eq_true rfl) hR.2.2.2⟩ dX1_costOf_15) (fun H locs hw => ?_)
      refine lv_imul hx hb dX1_costOf_18 ?_
      exact E _ _ _ _ _ dX1_costOf_19 hw hF
  · replace hF := st_t hc1 hF
    refine lv_iconst (v := 0) hx hb dX1_costOf_4 (by decide) ?_
    exact E _ _ _ _ _ dX1_costOf_5 hw hF
theorem c_X1_costOf (l : Launch) (x : SX) (D : va_G) (cy : Nat → ClassId) (ad : Nat → Nat) (o : Nat) (ho : isH o) (p1 p2 p3 : Int32) (sz : Nat) (M : Mem) (z : Int32) (hF : f_X1_costOf o p1 p2 p3 M = some z) : Met l yX1_costOf (.code yX1_costOf cX1_costOf 5 (some .int) :: GB) ({ frames := 3, cells := 0, slots := 0, locals := 67 } : Room) (PcW D cy ad x sz M [.ref (ad o), .int p1, .int p2, .int p3]) (QiW D cy ad sz z M) 0 0 (AA ad sz) := by
  refine mk_m (own := RX1) (by decide) rfl (Nat.le_of_ble_eq_true rfl) ?_
  intro p e s m args below meth c ls fx hw hl hsz
  subst hsz
  exact b_X1_costOf fx ⟨Nat.le_refl _, Nat.le_refl _, Nat.le_refl _, Nat.le_refl _⟩ o ho p1 p2 p3 M z hF (fun pc ls H locs v hd hw h => by cases h; exact g_iret fx hw rfl hd) _ _ ls hl hw
noncomputable def f_X1_tellRefusal_61 (o : Nat) (M : Mem) : Int32 → Int32 → Int32 → Option Int32 := fun a1 a3 a4 => (if a4 = 2 then (chk (inB a1 12) (bnd (f_X1_isSpeechAt o (irem (M o 16) 24) M) (fun r19 => (bnd (f_X1_fastToTell o a1 a3 r19 M) (fun r20 => (if ((M (o + 6) (ix a1)) + r20) ≤ 99 then (some 0) else (some 5))))))) else (some 0))
noncomputable def f_X1_tellRefusal_40 (o : Nat) (M : Mem) : Int32 → Int32 → Int32 → Option Int32 := fun a1 a3 a4 => (if a4 = 1 then (bnd (f_X1_pagesToTell o a1 a3 M) (fun r21 => (if r21 ≤ (M o 14) then ((f_X1_tellRefusal_61 o M) a1 a3 a4) else (some 4)))) else ((f_X1_tellRefusal_61 o M) a1 a3 a4))
noncomputable def f_X1_tellRefusal_20 (o : Nat) (M : Mem) : Int32 → Int32 → Int32 → Int32 → Option Int32 := fun a1 a2 a3 a4 => (if a4 = 0 then (chk (inB a2 12) (bnd (f_X1_isMember a3 (M (o + 3) (ix a2)) M) (fun r23 => (if r23 = 0 then (some 3) else ((f_X1_tellRefusal_40 o M) a1 a3 a4))))) else ((f_X1_tellRefusal_40 o M) a1 a3 a4))
noncomputable def f_X1_tellRefusal (o : Nat) (p1 p2 p3 p4 : Int32) (M : Mem) : Option Int32 := (if p4 = 0 then (chk (inB p1 12) (bnd (f_X1_isMember p3 (M (o + 3) (ix p1)) M) (fun r25 => (if r25 = 0 then (some 2) else ((f_X1_tellRefusal_20 o M) p1 p2 p3 p4))))) else ((f_X1_tellRefusal_20 o M) p1 p2 p3 p4))
set_option maxHeartbeats 4000000 in
set_option maxRecDepth 100000 in
theorem b_X1_tellRefusal {p : Program} {l : Launch} {e : Env} {R : Room} {s : State} {m : MethodId} {args : Array Value} {below : List Frame} {meth : Method} {c : Code} {Q : State → Prop} {D : va_G} {cy : Nat → ClassId} {ad : Nat → Nat} {x : SX} (fx : FX p s m args meth c cX1_tellRefusal 5 (some .int) RX1 D cy ad x) (hR : 3 ≤ R.frames ∧ 67 ≤ R.locals ∧ 0 ≤ R.cells ∧ 0 ≤ R.slots) (o : Nat) (ho : isH o) (p1 p2 p3 p4 : Int32) (M : Mem) (z : Int32) (hF : f_X1_tellRefusal o p1 p2 p3 p4 M = some z) (E : ∀ (pc : Nat) (ls : Array Slot) (H : Heap) (locs : List Loc) (v : Int32), decode cX1_tellRefusal pc = .ok (.ireturn, 1) → WD D cy ad s M H locs → some v = some z → W p l e R s m args below meth c H locs 0 0 Q (F0 m pc ls [.int v])) (H : Heap) (locs : List Loc) (ls : Array Slot) (hl : lv_has ls 5 [(0, .ref (ad o)), (1, .int p1), (2, .int p2), (3, .int p3), (4, .int p4)]) (hw : WD D cy ad s M H locs) : W p l e R s m args below meth c H locs 0 0 Q (F0 m 0 ls []) := by
  have hx := fx.1.1
  have hb := fx.1.2.1
  have hown := fx.1.2.2.2.1
  have hts := fx.1.2.2.2.2
  have n_61 : ∀ (a1 : Int32) (a3 : Int32) (a4 : Int32) (H : Heap) (locs : List Loc) (ls : Array Slot), lv_has ls 5 [(0, .ref (ad o)), (1, .int a1), (3, .int a3), (4, .int a4)] → WD D cy ad s M H locs → f_X1_tellRefusal_61 o M a1 a3 a4 = some z → W p l e R s m args below meth c H locs 0 0 Q (F0 m 61 ls []) := by
    intro a1 a3 a4 H locs ls hl hw hF
    unfold f_X1_tellRefusal_61 at hF
    refine lv_iload hx hb dX1_tellRefusal_61 (lv_at hl 3 rfl) ?_
    refine lv_iconst (v := 2) hx hb dX1_tellRefusal_63 (by decide) ?_
    refine lv_icmp_ne (tgt := 98) hx hb dX1_tellRefusal_64 (by decide) (fun hc64 => ?_) (fun hc64 => ?_)
    · replace hF := st_f hc64 hF
      refine lv_iconst (v := 0) hx hb dX1_tellRefusal_98 (by decide) ?_
      exact E _ _ _ _ _ dX1_tellRefusal_99 hw hF
    · replace hF := st_t hc64 hF
      refine lv_aload_n hx hb dX1_tellRefusal_67 rfl (lv_at hl 0 rfl) ?_
      refine gX1_get fx hw ho.O 5 (by decide) wd1_46 rfl dX1_tellRefusal_68 ?_
      refine lv_iload_n hx hb dX1_tellRefusal_71 rfl (lv_at hl 1 rfl) ?_
      obtain ⟨hi18, hF⟩ := st_chk hF
      refine g_iald fx hw ho.a6 hi18 dX1_tellRefusal_72 ?_
      refine lv_aload_n hx hb dX1_tellRefusal_73 rfl (lv_at hl 0 rfl) ?_
      refine lv_iload_n hx hb dX1_tellRefusal_74 rfl (lv_at hl 1 rfl) ?_
      refine lv_iload_n hx hb dX1_tellRefusal_75 rfl (lv_at hl 2 rfl) ?_
      refine lv_aload_n hx hb dX1_tellRefusal_76 rfl (lv_at hl 0 rfl) ?_
      refine lv_aload_n hx hb dX1_tellRefusal_77 rfl (lv_at hl 0 rfl) ?_
      refine gX1_get fx hw ho.O 16 (by decide) wd1_72 rfl dX1_tellRefusal_78 ?_
      refine lv_bipush (v := 24) hx hb dX1_tellRefusal_81 (by decide) ?_
      refine g_irem hx hb dX1_tellRefusal_83 (by decide) ?_
      obtain ⟨r19, hgr19, hF⟩ := st_bnd hF
      refine g_cz hw (g_runV (C := RX1) (As := [.int (irem (M o 16) 24)]) (rest := [.int a3, .int a1, .ref (ad o), .int (M (o + 6) (ix a1))]) fx hw ho.O rfl (c_X1_isSpeechAt l x D cy ad o ho (irem (M o 16) 24) H.size M r19 hgr19) wd2_195 wd2_196 wd2_197 wd1_2 wd2_198 yd_X1_isSpeechAt rfl rfl (Nat.le_of_ble_eq_true rfl) hl.1 ⟨Nat.le_trans (Nat.le_of_ble_eq_true rfl) hR.1, Nat.le_trans (Nat.le_of_ble_eq_true rfl) hR.2.1⟩ ⟨Nat.le_trans (Nat.le_of_ble_eq_true rfl) hR.2.2.1, Nat.le_trans (Nat.le_of_ble_eq_true rfl) hR.2.2.2⟩ dX1_tellRefusal_84) (fun H locs hbr19 hw => ?_)
      obtain ⟨r20, hgr20, hF⟩ := st_bnd hF
      refine g_ci hw (g_runV (C := RX1) (As := [.int a1, .int a3, .int r19]) (rest := [.int (M (o + 6) (ix a1))]) fx hw ho.O rfl (c_X1_fastToTell l x D cy ad o ho a1 a3 r19 H.size M r20 hgr20) wd2_203 wd2_205 wd0_25 wd1_2 wd2_206 yd_X1_fastToTell rfl rfl (Nat.le_of_ble_eq_true rfl) hl.1 ⟨Nat.le_trans (Nat.le_of_ble_eq_true rfl) hR.1, Nat.le_trans (Nat.le_of_ble_eq_true rfl) hR.2.1⟩ ⟨Nat.le_trans (Nat.le_of_ble_eq_true rfl) hR.2.2.1, Nat.le_trans (Nat.le_of_ble_eq_true rfl) hR.2.2.2⟩ dX1_tellRefusal_87) (fun H locs hw => ?_)
      refine lv_iadd hx hb dX1_tellRefusal_90 ?_
      refine lv_bipush (v := 99) hx hb dX1_tellRefusal_91 (by decide) ?_
      refine lv_icmp_le (tgt := 98) hx hb dX1_tellRefusal_93 (by decide) (fun hc93 => ?_) (fun hc93 => ?_)
      · replace hF := st_t hc93 hF
        refine lv_iconst (v := 0) hx hb dX1_tellRefusal_98 (by decide) ?_
        exact E _ _ _ _ _ dX1_tellRefusal_99 hw hF
      · replace hF := st_f hc93 hF
        refine lv_iconst (v := 5) hx hb dX1_tellRefusal_96 (by decide) ?_
        exact E _ _ _ _ _ dX1_tellRefusal_97 hw hF
  have n_40 : ∀ (a1 : Int32) (a3 : Int32) (a4 : Int32) (H : Heap) (locs : List Loc) (ls : Array Slot), lv_has ls 5 [(0, .ref (ad o)), (1, .int a1), (3, .int a3), (4, .int a4)] → WD D cy ad s M H locs → f_X1_tellRefusal_40 o M a1 a3 a4 = some z → W p l e R s m args below meth c H locs 0 0 Q (F0 m 40 ls []) := by
    intro a1 a3 a4 H locs ls hl hw hF
    unfold f_X1_tellRefusal_40 at hF
    refine lv_iload hx hb dX1_tellRefusal_40 (lv_at hl 3 rfl) ?_
    refine lv_iconst (v := 1) hx hb dX1_tellRefusal_42 (by decide) ?_
    refine lv_icmp_ne (tgt := 61) hx hb dX1_tellRefusal_43 (by decide) (fun hc43 => ?_) (fun hc43 => ?_)
    · replace hF := st_f hc43 hF
      exact n_61 a1 a3 a4 H locs ls (lv_sub hl [0, 1, 2, 3] rfl) hw hF
    · replace hF := st_t hc43 hF
      refine lv_aload_n hx hb dX1_tellRefusal_46 rfl (lv_at hl 0 rfl) ?_
      refine lv_iload_n hx hb dX1_tellRefusal_47 rfl (lv_at hl 1 rfl) ?_
      refine lv_iload_n hx hb dX1_tellRefusal_48 rfl (lv_at hl 2 rfl) ?_
      obtain ⟨r21, hgr21, hF⟩ := st_bnd hF
      refine g_ci hw (g_runV (C := RX1) (As := [.int a1, .int a3]) (rest := []) fx hw ho.O rfl (c_X1_pagesToTell l x D cy ad o ho a1 a3 H.size M r21 hgr21) wd2_188 wd2_190 wd0_24 wd1_2 wd2_191 yd_X1_pagesToTell rfl rfl (Nat.le_of_ble_eq_true rfl) hl.1 ⟨Nat.le_trans (Nat.le_of_ble_eq_true rfl) hR.1, Nat.le_trans (Nat.le_of_ble_eq_true rfl) hR.2.1⟩ ⟨Nat.le_trans (Nat.le_of_ble_eq_true rfl) hR.2.2.1, Nat.le_trans (Nat.le_of_ble_eq_true rfl) hR.2.2.2⟩ dX1_tellRefusal_49) (fun H locs hw => ?_)
      refine lv_aload_n hx hb dX1_tellRefusal_52 rfl (lv_at hl 0 rfl) ?_
      refine gX1_get fx hw ho.O 14 (by decide) wd1_66 rfl dX1_tellRefusal_53 ?_
      refine lv_icmp_le (tgt := 61) hx hb dX1_tellRefusal_56 (by decide) (fun hc56 => ?_) (fun hc56 => ?_)
      · replace hF := st_t hc56 hF
        exact n_61 a1 a3 a4 H locs ls (lv_sub hl [0, 1, 2, 3] rfl) hw hF
      · replace hF := st_f hc56 hF
        refine lv_iconst (v := 4) hx hb dX1_tellRefusal_59 (by decide) ?_
        exact E _ _ _ _ _ dX1_tellRefusal_60 hw hF
  have n_20 : ∀ (a1 : Int32) (a2 : Int32) (a3 : Int32) (a4 : Int32) (H : Heap) (locs : List Loc) (ls : Array Slot), lv_has ls 5 [(0, .ref (ad o)), (1, .int a1), (2, .int a2), (3, .int a3), (4, .int a4)] → WD D cy ad s M H locs → f_X1_tellRefusal_20 o M a1 a2 a3 a4 = some z → W p l e R s m args below meth c H locs 0 0 Q (F0 m 20 ls []) := by
    intro a1 a2 a3 a4 H locs ls hl hw hF
    unfold f_X1_tellRefusal_20 at hF
    refine lv_iload hx hb dX1_tellRefusal_20 (lv_at hl 4 rfl) ?_
    refine lv_if_ne (tgt := 40) hx hb dX1_tellRefusal_22 (by decide) (fun hc22 => ?_) (fun hc22 => ?_)
    · replace hF := st_f hc22 hF
      exact n_40 a1 a3 a4 H locs ls (lv_sub hl [0, 1, 3, 4] rfl) hw hF
    · replace hF := st_t hc22 hF
      refine lv_iload_n hx hb dX1_tellRefusal_25 rfl (lv_at hl 3 rfl) ?_
      refine lv_aload_n hx hb dX1_tellRefusal_26 rfl (lv_at hl 0 rfl) ?_
      refine gX1_get fx hw ho.O 2 (by decide) wd1_40 rfl dX1_tellRefusal_27 ?_
      refine lv_iload_n hx hb dX1_tellRefusal_30 rfl (lv_at hl 2 rfl) ?_
      obtain ⟨hi22, hF⟩ := st_chk hF
      refine g_iald fx hw ho.a3 hi22 dX1_tellRefusal_31 ?_
      obtain ⟨r23, hgr23, hF⟩ := st_bnd hF
      refine g_cz hw (g_runS (As := [.int a3, .int (M (o + 3) (ix a2))]) (rest := []) fx hw (c_X1_isMember l x D cy ad a3 (M (o + 3) (ix a2)) H.size M r23 hgr23) wd2_157 wd2_126 wd1_2 wd2_127 yd_X1_isMember rfl rfl (Nat.le_of_ble_eq_true rfl) hl.1 ⟨Nat.le_trans (Nat.le_of_ble_eq_true rfl) hR.1, Nat.le_trans (Nat.le_of_ble_eq_true rfl) hR.2.1⟩ ⟨Nat.le_trans (Nat.le_of_ble_eq_true rfl) hR.2.2.1, Nat.le_trans (Nat.le_of_ble_eq_true rfl) hR.2.2.2⟩ dX1_tellRefusal_32) (fun H locs hbr23 hw => ?_)
      refine lv_if_ne (tgt := 40) hx hb dX1_tellRefusal_35 (by decide) (fun hc35 => ?_) (fun hc35 => ?_)
      · replace hF := st_f hc35 hF
        exact n_40 a1 a3 a4 H locs ls (lv_sub hl [0, 1, 3, 4] rfl) hw hF
      · replace hF := st_t hc35 hF
        refine lv_iconst (v := 3) hx hb dX1_tellRefusal_38 (by decide) ?_
        exact E _ _ _ _ _ dX1_tellRefusal_39 hw hF
  unfold f_X1_tellRefusal at hF
  refine lv_iload hx hb dX1_tellRefusal_0 (lv_at hl 4 rfl) ?_
  refine lv_if_ne (tgt := 20) hx hb dX1_tellRefusal_2 (by decide) (fun hc2 => ?_) (fun hc2 => ?_)
  · replace hF := st_f hc2 hF
    exact n_20 p1 p2 p3 p4 H locs ls (lv_sub hl [0, 1, 2, 3, 4] rfl) hw hF
  · replace hF := st_t hc2 hF
    refine lv_iload_n hx hb dX1_tellRefusal_5 rfl (lv_at hl 3 rfl) ?_
    refine lv_aload_n hx hb dX1_tellRefusal_6 rfl (lv_at hl 0 rfl) ?_
    refine gX1_get fx hw ho.O 2 (by decide) wd1_40 rfl dX1_tellRefusal_7 ?_
    refine lv_iload_n hx hb dX1_tellRefusal_10 rfl (lv_at hl 1 rfl) ?_
    obtain ⟨hi24, hF⟩ := st_chk hF
    refine g_iald fx hw ho.a3 hi24 dX1_tellRefusal_11 ?_
    obtain ⟨r25, hgr25, hF⟩ := st_bnd hF
    refine g_cz hw (g_runS (As := [.int p3, .int (M (o + 3) (ix p1))]) (rest := []) fx hw (c_X1_isMember l x D cy ad p3 (M (o + 3) (ix p1)) H.size M r25 hgr25) wd2_157 wd2_126 wd1_2 wd2_127 yd_X1_isMember rfl rfl (Nat.le_of_ble_eq_true rfl) hl.1 ⟨Nat.le_trans (Nat.le_of_ble_eq_true rfl) hR.1, Nat.le_trans (Nat.le_of_ble_eq_true rfl) hR.2.1⟩ ⟨Nat.le_trans (Nat.le_of_ble_eq_true rfl) hR.2.2.1, Nat.le_trans (Nat.le_of_ble_eq_true rfl) hR.2.2.2⟩ dX1_tellRefusal_12) (fun H locs hbr25 hw => ?_)
    refine lv_if_ne (tgt := 20) hx hb dX1_tellRefusal_15 (by decide) (fun hc15 => ?_) (fun hc15 => ?_)
    · replace hF := st_f hc15 hF
      exact n_20 p1 p2 p3 p4 H locs ls (lv_sub hl [0, 1, 2, 3, 4] rfl) hw hF
    · replace hF := st_t hc15 hF
      refine lv_iconst (v := 2) hx hb dX1_tellRefusal_18 (by decide) ?_
      exact E _ _ _ _ _ dX1_tellRefusal_19 hw hF
theorem c_X1_tellRefusal (l : Launch) (x : SX) (D : va_G) (cy : Nat → ClassId) (ad : Nat → Nat) (o : Nat) (ho : isH o) (p1 p2 p3 p4 : Int32) (sz : Nat) (M : Mem) (z : Int32) (hF : f_X1_tellRefusal o p1 p2 p3 p4 M = some z) : Met l yX1_tellRefusal (.code yX1_tellRefusal cX1_tellRefusal 5 (some .int) :: GB) ({ frames := 3, cells := 0, slots := 0, locals := 67 } : Room) (PcW D cy ad x sz M [.ref (ad o), .int p1, .int p2, .int p3, .int p4]) (QiW D cy ad sz z M) 0 0 (AA ad sz) := by
  refine mk_m (own := RX1) (by decide) rfl (Nat.le_of_ble_eq_true rfl) ?_
  intro p e s m args below meth c ls fx hw hl hsz
  subst hsz
  exact b_X1_tellRefusal fx ⟨Nat.le_refl _, Nat.le_refl _, Nat.le_refl _, Nat.le_refl _⟩ o ho p1 p2 p3 p4 M z hF (fun pc ls H locs v hd hw h => by cases h; exact g_iret fx hw rfl hd) _ _ ls hl hw
noncomputable def f_X1_tellingReason (o : Nat) (p1 p2 p3 p4 : Int32) (M : Mem) : Option Int32 := (bnd (f_X1_tellRefusal o p1 p2 p3 p4 M) (fun r6 => (if r6 = 0 then (if p4 = 2 then (bnd (f_X1_isSpeechAt o (irem (M o 16) 24) M) (fun r7 => (if r7 = 0 then (chk (inB p1 12) (chk (inB p3 8) (if (M (o + 5) (ix p1)) < (M (o + 10) (ix p3)) then (chk (inB p1 12) (if (M (o + 5) (ix p1)) ≤ 0 then (some 23) else (some 22))) else (some 21)))) else (some 20)))) else (some r6)) else (some r6))))
set_option maxHeartbeats 4000000 in
set_option maxRecDepth 100000 in
theorem b_X1_tellingReason {p : Program} {l : Launch} {e : Env} {R : Room} {s : State} {m : MethodId} {args : Array Value} {below : List Frame} {meth : Method} {c : Code} {Q : State → Prop} {D : va_G} {cy : Nat → ClassId} {ad : Nat → Nat} {x : SX} (fx : FX p s m args meth c cX1_tellingReason 6 (some .int) RX1 D cy ad x) (hR : 4 ≤ R.frames ∧ 91 ≤ R.locals ∧ 0 ≤ R.cells ∧ 0 ≤ R.slots) (o : Nat) (ho : isH o) (p1 p2 p3 p4 : Int32) (M : Mem) (z : Int32) (hF : f_X1_tellingReason o p1 p2 p3 p4 M = some z) (E : ∀ (pc : Nat) (ls : Array Slot) (H : Heap) (locs : List Loc) (v : Int32), decode cX1_tellingReason pc = .ok (.ireturn, 1) → WD D cy ad s M H locs → some v = some z → W p l e R s m args below meth c H locs 0 0 Q (F0 m pc ls [.int v])) (H : Heap) (locs : List Loc) (ls : Array Slot) (hl : lv_has ls 6 [(0, .ref (ad o)), (1, .int p1), (2, .int p2), (3, .int p3), (4, .int p4)]) (hw : WD D cy ad s M H locs) : W p l e R s m args below meth c H locs 0 0 Q (F0 m 0 ls []) := by
  have hx := fx.1.1
  have hb := fx.1.2.1
  have hown := fx.1.2.2.2.1
  have hts := fx.1.2.2.2.2
  unfold f_X1_tellingReason at hF
  refine lv_aload_n hx hb dX1_tellingReason_0 rfl (lv_at hl 0 rfl) ?_
  refine lv_iload_n hx hb dX1_tellingReason_1 rfl (lv_at hl 1 rfl) ?_
  refine lv_iload_n hx hb dX1_tellingReason_2 rfl (lv_at hl 2 rfl) ?_
  refine lv_iload_n hx hb dX1_tellingReason_3 rfl (lv_at hl 3 rfl) ?_
  refine lv_iload hx hb dX1_tellingReason_4 (lv_at hl 4 rfl) ?_
  obtain ⟨r6, hgr6, hF⟩ := st_bnd hF
  refine g_ci hw (g_runV (C := RX1) (As := [.int p1, .int p2, .int p3, .int p4]) (rest := []) fx hw ho.O rfl (c_X1_tellRefusal l x D cy ad o ho p1 p2 p3 p4 H.size M r6 hgr6) wd4_94 wd2_185 wd2_186 wd1_2 wd2_187 yd_X1_tellRefusal rfl rfl (Nat.le_of_ble_eq_true rfl) hl.1 ⟨Nat.le_trans (Nat.le_of_ble_eq_true rfl) hR.1, Nat.le_trans (Nat.le_of_ble_eq_true rfl) hR.2.1⟩ ⟨Nat.le_trans (Nat.le_of_ble_eq_true rfl) hR.2.2.1, Nat.le_trans (Nat.le_of_ble_eq_true rfl) hR.2.2.2⟩ dX1_tellingReason_6) (fun H locs hw => ?_)
  refine lv_istore (lv' := [(5, .int r6), (0, .ref (ad o)), (1, .int p1), (2, .int p2), (3, .int p3), (4, .int p4)]) hx hb dX1_tellingReason_9 hl (by decide) rfl (fun ls hl => ?_)
  refine lv_iload hx hb dX1_tellingReason_11 (lv_at hl 0 rfl) ?_
  refine lv_if_ne (tgt := 22) hx hb dX1_tellingReason_13 (by decide) (fun hc13 => ?_) (fun hc13 => ?_)
  · replace hF := st_f hc13 hF
    refine lv_iload hx hb dX1_tellingReason_22 (lv_at hl 0 rfl) ?_
    exact E _ _ _ _ _ dX1_tellingReason_24 hw hF
  · replace hF := st_t hc13 hF
    refine lv_iload hx hb dX1_tellingReason_16 (lv_at hl 5 rfl) ?_
    refine lv_iconst (v := 2) hx hb dX1_tellingReason_18 (by decide) ?_
    refine lv_icmp_eq (tgt := 25) hx hb dX1_tellingReason_19 (by decide) (fun hc19 => ?_) (fun hc19 => ?_)
    · replace hF := st_t hc19 hF
      refine lv_aload_n hx hb dX1_tellingReason_25 rfl (lv_at hl 1 rfl) ?_
      refine lv_aload_n hx hb dX1_tellingReason_26 rfl (lv_at hl 1 rfl) ?_
      refine gX1_get fx hw ho.O 16 (by decide) wd1_72 rfl dX1_tellingReason_27 ?_
      refine lv_bipush (v := 24) hx hb dX1_tellingReason_30 (by decide) ?_
      refine g_irem hx hb dX1_tellingReason_32 (by decide) ?_
      obtain ⟨r7, hgr7, hF⟩ := st_bnd hF
      refine g_cz hw (g_runV (C := RX1) (As := [.int (irem (M o 16) 24)]) (rest := []) fx hw ho.O rfl (c_X1_isSpeechAt l x D cy ad o ho (irem (M o 16) 24) H.size M r7 hgr7) wd2_195 wd2_196 wd2_197 wd1_2 wd2_198 yd_X1_isSpeechAt rfl rfl (Nat.le_of_ble_eq_true rfl) hl.1 ⟨Nat.le_trans (Nat.le_of_ble_eq_true rfl) hR.1, Nat.le_trans (Nat.le_of_ble_eq_true rfl) hR.2.1⟩ ⟨Nat.le_trans (Nat.le_of_ble_eq_true rfl) hR.2.2.1, Nat.le_trans (Nat.le_of_ble_eq_true rfl) hR.2.2.2⟩ dX1_tellingReason_33) (fun H locs hbr7 hw => ?_)
      refine lv_if_eq (tgt := 42) hx hb dX1_tellingReason_36 (by decide) (fun hc36 => ?_) (fun hc36 => ?_)
      · replace hF := st_t hc36 hF
        refine lv_aload_n hx hb dX1_tellingReason_42 rfl (lv_at hl 1 rfl) ?_
        refine gX1_get fx hw ho.O 4 (by decide) wd1_44 rfl dX1_tellingReason_43 ?_
        refine lv_iload_n hx hb dX1_tellingReason_46 rfl (lv_at hl 2 rfl) ?_
        obtain ⟨hi8, hF⟩ := st_chk hF
        refine g_iald fx hw ho.a5 hi8 dX1_tellingReason_47 ?_
        refine lv_aload_n hx hb dX1_tellingReason_48 rfl (lv_at hl 1 rfl) ?_
        refine gX1_get fx hw ho.O 9 (by decide) wd1_54 rfl dX1_tellingReason_49 ?_
        refine lv_iload_n hx hb dX1_tellingReason_52 rfl (lv_at hl 4 rfl) ?_
        obtain ⟨hi9, hF⟩ := st_chk hF
        refine g_iald fx hw ho.a10 hi9 dX1_tellingReason_53 ?_
        refine lv_icmp_lt (tgt := 60) hx hb dX1_tellingReason_54 (by decide) (fun hc54 => ?_) (fun hc54 => ?_)
        · replace hF := st_t hc54 hF
          refine lv_aload_n hx hb dX1_tellingReason_60 rfl (lv_at hl 1 rfl) ?_
          refine gX1_get fx hw ho.O 4 (by decide) wd1_44 rfl dX1_tellingReason_61 ?_
          refine lv_iload_n hx hb dX1_tellingReason_64 rfl (lv_at hl 2 rfl) ?_
          obtain ⟨hi10, hF⟩ := st_chk hF
          refine g_iald fx hw ho.a5 hi10 dX1_tellingReason_65 ?_
          refine lv_if_le (tgt := 74) hx hb dX1_tellingReason_66 (by decide) (fun hc66 => ?_) (fun hc66 => ?_)
          · replace hF := st_t hc66 hF
            refine lv_bipush (v := 23) hx hb dX1_tellingReason_74 (by decide) ?_
            exact E _ _ _ _ _ dX1_tellingReason_76 hw hF
          · replace hF := st_f hc66 hF
            refine lv_bipush (v := 22) hx hb dX1_tellingReason_69 (by decide) ?_
            refine lv_goto (tgt := 76) hx hb dX1_tellingReason_71 (by decide) ?_
            exact E _ _ _ _ _ dX1_tellingReason_76 hw hF
        · replace hF := st_f hc54 hF
          refine lv_bipush (v := 21) hx hb dX1_tellingReason_57 (by decide) ?_
          exact E _ _ _ _ _ dX1_tellingReason_59 hw hF
      · replace hF := st_f hc36 hF
        refine lv_bipush (v := 20) hx hb dX1_tellingReason_39 (by decide) ?_
        exact E _ _ _ _ _ dX1_tellingReason_41 hw hF
    · replace hF := st_f hc19 hF
      refine lv_iload hx hb dX1_tellingReason_22 (lv_at hl 0 rfl) ?_
      exact E _ _ _ _ _ dX1_tellingReason_24 hw hF
theorem c_X1_tellingReason (l : Launch) (x : SX) (D : va_G) (cy : Nat → ClassId) (ad : Nat → Nat) (o : Nat) (ho : isH o) (p1 p2 p3 p4 : Int32) (sz : Nat) (M : Mem) (z : Int32) (hF : f_X1_tellingReason o p1 p2 p3 p4 M = some z) : Met l yX1_tellingReason (.code yX1_tellingReason cX1_tellingReason 6 (some .int) :: GB) ({ frames := 4, cells := 0, slots := 0, locals := 91 } : Room) (PcW D cy ad x sz M [.ref (ad o), .int p1, .int p2, .int p3, .int p4]) (QiW D cy ad sz z M) 0 0 (AA ad sz) := by
  refine mk_m (own := RX1) (by decide) rfl (Nat.le_of_ble_eq_true rfl) ?_
  intro p e s m args below meth c ls fx hw hl hsz
  subst hsz
  exact b_X1_tellingReason fx ⟨Nat.le_refl _, Nat.le_refl _, Nat.le_refl _, Nat.le_refl _⟩ o ho p1 p2 p3 p4 M z hF (fun pc ls H locs v hd hw h => by cases h; exact g_iret fx hw rfl hd) _ _ ls hl hw
noncomputable def f_X1_causeOf_158 (o : Nat) (M : Mem) : Int32 → Option Int32 := fun a2 => (chk (inB a2 12) (some (M (o + 5) (ix a2))))
noncomputable def f_X1_causeOf (o : Nat) (p1 p2 p3 p4 p5 : Int32) (M : Mem) : Option Int32 := (letV p1 (fun y14 => (if y14 = 0 then (if p5 = 1 then (bnd (f_X1_pagesToTell o p2 p4 M) (fun r15 => (some r15))) else (some 0)) else (if y14 = 1 then (some (-1)) else (if y14 = 2 then (some p2) else (if y14 = 3 then (some p3) else (if y14 = 4 then (some (M o 14)) else (if y14 = 5 then (chk (inB p2 12) (some (M (o + 6) (ix p2)))) else (if y14 = 6 then (some (-1)) else (if y14 = 7 then (some (-1)) else (if y14 = 8 then (some (-1)) else (if y14 = 9 then (some (-1)) else (if y14 = 10 then (some (-1)) else (if y14 = 11 then (some (-1)) else (if y14 = 12 then (some (-1)) else (if y14 = 13 then (some (-1)) else (if y14 = 14 then (some (-1)) else (if y14 = 15 then (some (-1)) else (if y14 = 16 then (some (-1)) else (if y14 = 17 then (some (-1)) else (if y14 = 18 then (some (-1)) else (if y14 = 19 then (some (-1)) else (if y14 = 20 then (bnd (f_X1_latestBell o (irem (M o 16) 24) M) (fun r17 => (some r17))) else (if y14 = 21 then ((f_X1_causeOf_158 o M) p2) else (if y14 = 22 then ((f_X1_causeOf_158 o M) p2) else (if y14 = 23 then (chk (inB p4 8) (some (M (o + 10) (ix p4)))) else (some (-1))))))))))))))))))))))))))))
set_option maxHeartbeats 4000000 in
set_option maxRecDepth 100000 in
theorem b_X1_causeOf {p : Program} {l : Launch} {e : Env} {R : Room} {s : State} {m : MethodId} {args : Array Value} {below : List Frame} {meth : Method} {c : Code} {Q : State → Prop} {D : va_G} {cy : Nat → ClassId} {ad : Nat → Nat} {x : SX} (fx : FX p s m args meth c cX1_causeOf 6 (some .int) RX1 D cy ad x) (hR : 2 ≤ R.frames ∧ 44 ≤ R.locals ∧ 0 ≤ R.cells ∧ 0 ≤ R.slots) (o : Nat) (ho : isH o) (p1 p2 p3 p4 p5 : Int32) (M : Mem) (z : Int32) (hF : f_X1_causeOf o p1 p2 p3 p4 p5 M = some z) (E : ∀ (pc : Nat) (ls : Array Slot) (H : Heap) (locs : List Loc) (v : Int32), decode cX1_causeOf pc = .ok (.ireturn, 1) → WD D cy ad s M H locs → some v = some z → W p l e R s m args below meth c H locs 0 0 Q (F0 m pc ls [.int v])) (H : Heap) (locs : List Loc) (ls : Array Slot) (hl : lv_has ls 6 [(0, .ref (ad o)), (1, .int p1), (2, .int p2), (3, .int p3), (4, .int p4), (5, .int p5)]) (hw : WD D cy ad s M H locs) : W p l e R s m args below meth c H locs 0 0 Q (F0 m 0 ls []) := by
  have hx := fx.1.1
  have hb := fx.1.2.1
  have hown := fx.1.2.2.2.1
  have hts := fx.1.2.2.2.2
  have n_158 : ∀ (a2 : Int32) (H : Heap) (locs : List Loc) (ls : Array Slot), lv_has ls 6 [(0, .ref (ad o)), (2, .int a2)] → WD D cy ad s M H locs → f_X1_causeOf_158 o M a2 = some z → W p l e R s m args below meth c H locs 0 0 Q (F0 m 158 ls []) := by
    intro a2 H locs ls hl hw hF
    unfold f_X1_causeOf_158 at hF
    refine lv_aload_n hx hb dX1_causeOf_158 rfl (lv_at hl 0 rfl) ?_
    refine gX1_get fx hw ho.O 4 (by decide) wd1_44 rfl dX1_causeOf_159 ?_
    refine lv_iload_n hx hb dX1_causeOf_162 rfl (lv_at hl 1 rfl) ?_
    obtain ⟨hi13, hF⟩ := st_chk hF
    refine g_iald fx hw ho.a5 hi13 dX1_causeOf_163 ?_
    exact E _ _ _ _ _ dX1_causeOf_164 hw hF
  unfold f_X1_causeOf at hF
  refine lv_iload_n hx hb dX1_causeOf_0 rfl (lv_at hl 1 rfl) ?_
  obtain ⟨y14, ey14, hF⟩ := st_letV hF
  refine g_top ey14 ?_
  by_cases hk1_0 : y14 = 0
  · replace hF := st_t hk1_0 hF
    subst hk1_0
    refine lv_tableIn (off := 111) (tgt := 112) hx hb dX1_causeOf_1 (by decide) (by decide) rfl (by decide) ?_
    refine lv_iload hx hb dX1_causeOf_112 (lv_at hl 5 rfl) ?_
    refine lv_iconst (v := 1) hx hb dX1_causeOf_114 (by decide) ?_
    refine lv_icmp_ne (tgt := 128) hx hb dX1_causeOf_115 (by decide) (fun hc115 => ?_) (fun hc115 => ?_)
    · replace hF := st_f hc115 hF
      refine lv_iconst (v := 0) hx hb dX1_causeOf_128 (by decide) ?_
      exact E _ _ _ _ _ dX1_causeOf_129 hw hF
    · replace hF := st_t hc115 hF
      refine lv_aload_n hx hb dX1_causeOf_118 rfl (lv_at hl 0 rfl) ?_
      refine lv_iload_n hx hb dX1_causeOf_119 rfl (lv_at hl 2 rfl) ?_
      refine lv_iload hx hb dX1_causeOf_120 (lv_at hl 4 rfl) ?_
      obtain ⟨r15, hgr15, hF⟩ := st_bnd hF
      refine g_ci hw (g_runV (C := RX1) (As := [.int p2, .int p4]) (rest := []) fx hw ho.O rfl (c_X1_pagesToTell l x D cy ad o ho p2 p4 H.size M r15 hgr15) wd2_188 wd2_190 wd0_24 wd1_2 wd2_191 yd_X1_pagesToTell rfl rfl (Nat.le_of_ble_eq_true rfl) hl.1 ⟨Nat.le_trans (Nat.le_of_ble_eq_true rfl) hR.1, Nat.le_trans (Nat.le_of_ble_eq_true rfl) hR.2.1⟩ ⟨Nat.le_trans (Nat.le_of_ble_eq_true rfl) hR.2.2.1, Nat.le_trans (Nat.le_of_ble_eq_true rfl) hR.2.2.2⟩ dX1_causeOf_122) (fun H locs hw => ?_)
      refine lv_goto (tgt := 129) hx hb dX1_causeOf_125 (by decide) ?_
      exact E _ _ _ _ _ dX1_causeOf_129 hw hF
  · replace hF := st_f hk1_0 hF
    by_cases hk1_1 : y14 = 1
    · replace hF := st_t hk1_1 hF
      subst hk1_1
      refine lv_tableIn (off := 172) (tgt := 173) hx hb dX1_causeOf_1 (by decide) (by decide) rfl (by decide) ?_
      refine lv_iconst (v := (-1)) hx hb dX1_causeOf_173 (by decide) ?_
      exact E _ _ _ _ _ dX1_causeOf_174 hw hF
    · replace hF := st_f hk1_1 hF
      by_cases hk1_2 : y14 = 2
      · replace hF := st_t hk1_2 hF
        subst hk1_2
        refine lv_tableIn (off := 129) (tgt := 130) hx hb dX1_causeOf_1 (by decide) (by decide) rfl (by decide) ?_
        refine lv_iload_n hx hb dX1_causeOf_130 rfl (lv_at hl 2 rfl) ?_
        exact E _ _ _ _ _ dX1_causeOf_131 hw hF
      · replace hF := st_f hk1_2 hF
        by_cases hk1_3 : y14 = 3
        · replace hF := st_t hk1_3 hF
          subst hk1_3
          refine lv_tableIn (off := 131) (tgt := 132) hx hb dX1_causeOf_1 (by decide) (by decide) rfl (by decide) ?_
          refine lv_iload_n hx hb dX1_causeOf_132 rfl (lv_at hl 3 rfl) ?_
          exact E _ _ _ _ _ dX1_causeOf_133 hw hF
        · replace hF := st_f hk1_3 hF
          by_cases hk1_4 : y14 = 4
          · replace hF := st_t hk1_4 hF
            subst hk1_4
            refine lv_tableIn (off := 133) (tgt := 134) hx hb dX1_causeOf_1 (by decide) (by decide) rfl (by decide) ?_
            refine lv_aload_n hx hb dX1_causeOf_134 rfl (lv_at hl 0 rfl) ?_
            refine gX1_get fx hw ho.O 14 (by decide) wd1_66 rfl dX1_causeOf_135 ?_
            exact E _ _ _ _ _ dX1_causeOf_138 hw hF
          · replace hF := st_f hk1_4 hF
            by_cases hk1_5 : y14 = 5
            · replace hF := st_t hk1_5 hF
              subst hk1_5
              refine lv_tableIn (off := 138) (tgt := 139) hx hb dX1_causeOf_1 (by decide) (by decide) rfl (by decide) ?_
              refine lv_aload_n hx hb dX1_causeOf_139 rfl (lv_at hl 0 rfl) ?_
              refine gX1_get fx hw ho.O 5 (by decide) wd1_46 rfl dX1_causeOf_140 ?_
              refine lv_iload_n hx hb dX1_causeOf_143 rfl (lv_at hl 2 rfl) ?_
              obtain ⟨hi16, hF⟩ := st_chk hF
              refine g_iald fx hw ho.a6 hi16 dX1_causeOf_144 ?_
              exact E _ _ _ _ _ dX1_causeOf_145 hw hF
            · replace hF := st_f hk1_5 hF
              by_cases hk1_6 : y14 = 6
              · replace hF := st_t hk1_6 hF
                subst hk1_6
                refine lv_tableIn (off := 172) (tgt := 173) hx hb dX1_causeOf_1 (by decide) (by decide) rfl (by decide) ?_
                refine lv_iconst (v := (-1)) hx hb dX1_causeOf_173 (by decide) ?_
                exact E _ _ _ _ _ dX1_causeOf_174 hw hF
              · replace hF := st_f hk1_6 hF
                by_cases hk1_7 : y14 = 7
                · replace hF := st_t hk1_7 hF
                  subst hk1_7
                  refine lv_tableIn (off := 172) (tgt := 173) hx hb dX1_causeOf_1 (by decide) (by decide) rfl (by decide) ?_
                  refine lv_iconst (v := (-1)) hx hb dX1_causeOf_173 (by decide) ?_
                  exact E _ _ _ _ _ dX1_causeOf_174 hw hF
                · replace hF := st_f hk1_7 hF
                  by_cases hk1_8 : y14 = 8
                  · replace hF := st_t hk1_8 hF
                    subst hk1_8
                    refine lv_tableIn (off := 172) (tgt := 173) hx hb dX1_causeOf_1 (by decide) (by decide) rfl (by decide) ?_
                    refine lv_iconst (v := (-1)) hx hb dX1_causeOf_173 (by decide) ?_
                    exact E _ _ _ _ _ dX1_causeOf_174 hw hF
                  · replace hF := st_f hk1_8 hF
                    by_cases hk1_9 : y14 = 9
                    · replace hF := st_t hk1_9 hF
                      subst hk1_9
                      refine lv_tableIn (off := 172) (tgt := 173) hx hb dX1_causeOf_1 (by decide) (by decide) rfl (by decide) ?_
                      refine lv_iconst (v := (-1)) hx hb dX1_causeOf_173 (by decide) ?_
                      exact E _ _ _ _ _ dX1_causeOf_174 hw hF
                    · replace hF := st_f hk1_9 hF
                      by_cases hk1_10 : y14 = 10
                      · replace hF := st_t hk1_10 hF
                        subst hk1_10
                        refine lv_tableIn (off := 172) (tgt := 173) hx hb dX1_causeOf_1 (by decide) (by decide) rfl (by decide) ?_
                        refine lv_iconst (v := (-1)) hx hb dX1_causeOf_173 (by decide) ?_
                        exact E _ _ _ _ _ dX1_causeOf_174 hw hF
                      · replace hF := st_f hk1_10 hF
                        by_cases hk1_11 : y14 = 11
                        · replace hF := st_t hk1_11 hF
                          subst hk1_11
                          refine lv_tableIn (off := 172) (tgt := 173) hx hb dX1_causeOf_1 (by decide) (by decide) rfl (by decide) ?_
                          refine lv_iconst (v := (-1)) hx hb dX1_causeOf_173 (by decide) ?_
                          exact E _ _ _ _ _ dX1_causeOf_174 hw hF
                        · replace hF := st_f hk1_11 hF
                          by_cases hk1_12 : y14 = 12
                          · replace hF := st_t hk1_12 hF
                            subst hk1_12
                            refine lv_tableIn (off := 172) (tgt := 173) hx hb dX1_causeOf_1 (by decide) (by decide) rfl (by decide) ?_
                            refine lv_iconst (v := (-1)) hx hb dX1_causeOf_173 (by decide) ?_
                            exact E _ _ _ _ _ dX1_causeOf_174 hw hF
                          · replace hF := st_f hk1_12 hF
                            by_cases hk1_13 : y14 = 13
                            · replace hF := st_t hk1_13 hF
                              subst hk1_13
                              refine lv_tableIn (off := 172) (tgt := 173) hx hb dX1_causeOf_1 (by decide) (by decide) rfl (by decide) ?_
                              refine lv_iconst (v := (-1)) hx hb dX1_causeOf_173 (by decide) ?_
                              exact E _ _ _ _ _ dX1_causeOf_174 hw hF
                            · replace hF := st_f hk1_13 hF
                              by_cases hk1_14 : y14 = 14
                              · replace hF := st_t hk1_14 hF
                                subst hk1_14
                                refine lv_tableIn (off := 172) (tgt := 173) hx hb dX1_causeOf_1 (by decide) (by decide) rfl (by decide) ?_
                                refine lv_iconst (v := (-1)) hx hb dX1_causeOf_173 (by decide) ?_
                                exact E _ _ _ _ _ dX1_causeOf_174 hw hF
                              · replace hF := st_f hk1_14 hF
                                by_cases hk1_15 : y14 = 15
                                · replace hF := st_t hk1_15 hF
                                  subst hk1_15
                                  refine lv_tableIn (off := 172) (tgt := 173) hx hb dX1_causeOf_1 (by decide) (by decide) rfl (by decide) ?_
                                  refine lv_iconst (v := (-1)) hx hb dX1_causeOf_173 (by decide) ?_
                                  exact E _ _ _ _ _ dX1_causeOf_174 hw hF
                                · replace hF := st_f hk1_15 hF
                                  by_cases hk1_16 : y14 = 16
                                  · replace hF := st_t hk1_16 hF
                                    subst hk1_16
                                    refine lv_tableIn (off := 172) (tgt := 173) hx hb dX1_causeOf_1 (by decide) (by decide) rfl (by decide) ?_
                                    refine lv_iconst (v := (-1)) hx hb dX1_causeOf_173 (by decide) ?_
                                    exact E _ _ _ _ _ dX1_causeOf_174 hw hF
                                  · replace hF := st_f hk1_16 hF
                                    by_cases hk1_17 : y14 = 17
                                    · replace hF := st_t hk1_17 hF
                                      subst hk1_17
                                      refine lv_tableIn (off := 172) (tgt := 173) hx hb dX1_causeOf_1 (by decide) (by decide) rfl (by decide) ?_
                                      refine lv_iconst (v := (-1)) hx hb dX1_causeOf_173 (by decide) ?_
                                      exact E _ _ _ _ _ dX1_causeOf_174 hw hF
                                    · replace hF := st_f hk1_17 hF
                                      by_cases hk1_18 : y14 = 18
                                      · replace hF := st_t hk1_18 hF
                                        subst hk1_18
                                        refine lv_tableIn (off := 172) (tgt := 173) hx hb dX1_causeOf_1 (by decide) (by decide) rfl (by decide) ?_
                                        refine lv_iconst (v := (-1)) hx hb dX1_causeOf_173 (by decide) ?_
                                        exact E _ _ _ _ _ dX1_causeOf_174 hw hF
                                      · replace hF := st_f hk1_18 hF
                                        by_cases hk1_19 : y14 = 19
                                        · replace hF := st_t hk1_19 hF
                                          subst hk1_19
                                          refine lv_tableIn (off := 172) (tgt := 173) hx hb dX1_causeOf_1 (by decide) (by decide) rfl (by decide) ?_
                                          refine lv_iconst (v := (-1)) hx hb dX1_causeOf_173 (by decide) ?_
                                          exact E _ _ _ _ _ dX1_causeOf_174 hw hF
                                        · replace hF := st_f hk1_19 hF
                                          by_cases hk1_20 : y14 = 20
                                          · replace hF := st_t hk1_20 hF
                                            subst hk1_20
                                            refine lv_tableIn (off := 145) (tgt := 146) hx hb dX1_causeOf_1 (by decide) (by decide) rfl (by decide) ?_
                                            refine lv_aload_n hx hb dX1_causeOf_146 rfl (lv_at hl 0 rfl) ?_
                                            refine lv_aload_n hx hb dX1_causeOf_147 rfl (lv_at hl 0 rfl) ?_
                                            refine gX1_get fx hw ho.O 16 (by decide) wd1_72 rfl dX1_causeOf_148 ?_
                                            refine lv_bipush (v := 24) hx hb dX1_causeOf_151 (by decide) ?_
                                            refine g_irem hx hb dX1_causeOf_153 (by decide) ?_
                                            obtain ⟨r17, hgr17, hF⟩ := st_bnd hF
                                            refine g_ci hw (g_runV (C := RX1) (As := [.int (irem (M o 16) 24)]) (rest := []) fx hw ho.O rfl (c_X1_latestBell l x D cy ad o ho (irem (M o 16) 24) H.size M r17 hgr17) wd2_199 wd2_200 wd2_201 wd1_2 wd2_202 yd_X1_latestBell rfl rfl (Nat.le_of_ble_eq_true rfl) hl.1 ⟨Nat.le_trans (Nat.le_of_ble_eq_true rfl) hR.1, Nat.le_trans (Nat.le_of_ble_eq_true rfl) hR.2.1⟩ ⟨Nat.le_trans (Nat.le_of_ble_eq_true rfl) hR.2.2.1, Nat.le_trans (Nat.le_of_ble_eq_true rfl) hR.2.2.2⟩ dX1_causeOf_154) (fun H locs hw => ?_)
                                            exact E _ _ _ _ _ dX1_causeOf_157 hw hF
                                          · replace hF := st_f hk1_20 hF
                                            by_cases hk1_21 : y14 = 21
                                            · replace hF := st_t hk1_21 hF
                                              subst hk1_21
                                              refine lv_tableIn (off := 157) (tgt := 158) hx hb dX1_causeOf_1 (by decide) (by decide) rfl (by decide) ?_
                                              exact n_158 p2 H locs ls (lv_sub hl [0, 2] rfl) hw hF
                                            · replace hF := st_f hk1_21 hF
                                              by_cases hk1_22 : y14 = 22
                                              · replace hF := st_t hk1_22 hF
                                                subst hk1_22
                                                refine lv_tableIn (off := 157) (tgt := 158) hx hb dX1_causeOf_1 (by decide) (by decide) rfl (by decide) ?_
                                                exact n_158 p2 H locs ls (lv_sub hl [0, 2] rfl) hw hF
                                              · replace hF := st_f hk1_22 hF
                                                by_cases hk1_23 : y14 = 23
                                                · replace hF := st_t hk1_23 hF
                                                  subst hk1_23
                                                  refine lv_tableIn (off := 164) (tgt := 165) hx hb dX1_causeOf_1 (by decide) (by decide) rfl (by decide) ?_
                                                  refine lv_aload_n hx hb dX1_causeOf_165 rfl (lv_at hl 0 rfl) ?_
                                                  refine gX1_get fx hw ho.O 9 (by decide) wd1_54 rfl dX1_causeOf_166 ?_
                                                  refine lv_iload hx hb dX1_causeOf_169 (lv_at hl 4 rfl) ?_
                                                  obtain ⟨hi18, hF⟩ := st_chk hF
                                                  refine g_iald fx hw ho.a10 hi18 dX1_causeOf_171 ?_
                                                  exact E _ _ _ _ _ dX1_causeOf_172 hw hF
                                                · replace hF := st_f hk1_23 hF
                                                  refine lv_tableOut (tgt := 173) hx hb dX1_causeOf_1 (by have e_0 := lv_neT (a := 0) hk1_0 (by decide); have e_1 := lv_neT (a := 1) hk1_1 (by decide); have e_2 := lv_neT (a := 2) hk1_2 (by decide); have e_3 := lv_neT (a := 3) hk1_3 (by decide); have e_4 := lv_neT (a := 4) hk1_4 (by decide); have e_5 := lv_neT (a := 5) hk1_5 (by decide); have e_6 := lv_neT (a := 6) hk1_6 (by decide); have e_7 := lv_neT (a := 7) hk1_7 (by decide); have e_8 := lv_neT (a := 8) hk1_8 (by decide); have e_9 := lv_neT (a := 9) hk1_9 (by decide); have e_10 := lv_neT (a := 10) hk1_10 (by decide); have e_11 := lv_neT (a := 11) hk1_11 (by decide); have e_12 := lv_neT (a := 12) hk1_12 (by decide); have e_13 := lv_neT (a := 13) hk1_13 (by decide); have e_14 := lv_neT (a := 14) hk1_14 (by decide); have e_15 := lv_neT (a := 15) hk1_15 (by decide); have e_16 := lv_neT (a := 16) hk1_16 (by decide); have e_17 := lv_neT (a := 17) hk1_17 (by decide); have e_18 := lv_neT (a := 18) hk1_18 (by decide); have e_19 := lv_neT (a := 19) hk1_19 (by decide); have e_20 := lv_neT (a := 20) hk1_20 (by decide); have e_21 := lv_neT (a := 21) hk1_21 (by decide); have e_22 := lv_neT (a := 22) hk1_22 (by decide); have e_23 := lv_neT (a := 23) hk1_23 (by decide); omega) (by decide) ?_
                                                  refine lv_iconst (v := (-1)) hx hb dX1_causeOf_173 (by decide) ?_
                                                  exact E _ _ _ _ _ dX1_causeOf_174 hw hF
theorem c_X1_causeOf (l : Launch) (x : SX) (D : va_G) (cy : Nat → ClassId) (ad : Nat → Nat) (o : Nat) (ho : isH o) (p1 p2 p3 p4 p5 : Int32) (sz : Nat) (M : Mem) (z : Int32) (hF : f_X1_causeOf o p1 p2 p3 p4 p5 M = some z) : Met l yX1_causeOf (.code yX1_causeOf cX1_causeOf 6 (some .int) :: GB) ({ frames := 2, cells := 0, slots := 0, locals := 44 } : Room) (PcW D cy ad x sz M [.ref (ad o), .int p1, .int p2, .int p3, .int p4, .int p5]) (QiW D cy ad sz z M) 0 0 (AA ad sz) := by
  refine mk_m (own := RX1) (by decide) rfl (Nat.le_of_ble_eq_true rfl) ?_
  intro p e s m args below meth c ls fx hw hl hsz
  subst hsz
  exact b_X1_causeOf fx ⟨Nat.le_refl _, Nat.le_refl _, Nat.le_refl _, Nat.le_refl _⟩ o ho p1 p2 p3 p4 p5 M z hF (fun pc ls H locs v hd hw h => by cases h; exact g_iret fx hw rfl hd) _ _ ls hl hw
noncomputable def f_X1_causeBehind_59 (o : Nat) (M : Mem) : Int32 → Int32 → Option Int32 := fun a2 a3 => (bnd (f_X1_isSpeechAt o (irem (M o 16) 24) M) (fun r13 => (bnd (f_X1_fastToTell o a2 a3 r13 M) (fun r14 => (some r14)))))
noncomputable def f_X1_causeBehind (o : Nat) (p1 p2 p3 : Int32) (M : Mem) : Option Int32 := (letV p1 (fun y15 => (if y15 = 4 then (bnd (f_X1_pagesToTell o p2 p3 M) (fun r16 => (some r16))) else (if y15 = 5 then ((f_X1_causeBehind_59 o M) p2 p3) else (if y15 = 21 then (chk (inB p2 12) (chk (inB p3 8) (some ((M (o + 5) (ix p2)) - (M (o + 10) (ix p3)))))) else (if y15 = 22 then ((f_X1_causeBehind_59 o M) p2 p3) else (if y15 = 23 then ((f_X1_causeBehind_59 o M) p2 p3) else (some (-1)))))))))
set_option maxHeartbeats 4000000 in
set_option maxRecDepth 100000 in
theorem b_X1_causeBehind {p : Program} {l : Launch} {e : Env} {R : Room} {s : State} {m : MethodId} {args : Array Value} {below : List Frame} {meth : Method} {c : Code} {Q : State → Prop} {D : va_G} {cy : Nat → ClassId} {ad : Nat → Nat} {x : SX} (fx : FX p s m args meth c cX1_causeBehind 4 (some .int) RX1 D cy ad x) (hR : 3 ≤ R.frames ∧ 67 ≤ R.locals ∧ 0 ≤ R.cells ∧ 0 ≤ R.slots) (o : Nat) (ho : isH o) (p1 p2 p3 : Int32) (M : Mem) (z : Int32) (hF : f_X1_causeBehind o p1 p2 p3 M = some z) (E : ∀ (pc : Nat) (ls : Array Slot) (H : Heap) (locs : List Loc) (v : Int32), decode cX1_causeBehind pc = .ok (.ireturn, 1) → WD D cy ad s M H locs → some v = some z → W p l e R s m args below meth c H locs 0 0 Q (F0 m pc ls [.int v])) (H : Heap) (locs : List Loc) (ls : Array Slot) (hl : lv_has ls 4 [(0, .ref (ad o)), (1, .int p1), (2, .int p2), (3, .int p3)]) (hw : WD D cy ad s M H locs) : W p l e R s m args below meth c H locs 0 0 Q (F0 m 0 ls []) := by
  have hx := fx.1.1
  have hb := fx.1.2.1
  have hown := fx.1.2.2.2.1
  have hts := fx.1.2.2.2.2
  have n_59 : ∀ (a2 : Int32) (a3 : Int32) (H : Heap) (locs : List Loc) (ls : Array Slot), lv_has ls 4 [(0, .ref (ad o)), (2, .int a2), (3, .int a3)] → WD D cy ad s M H locs → f_X1_causeBehind_59 o M a2 a3 = some z → W p l e R s m args below meth c H locs 0 0 Q (F0 m 59 ls []) := by
    intro a2 a3 H locs ls hl hw hF
    unfold f_X1_causeBehind_59 at hF
    refine lv_aload_n hx hb dX1_causeBehind_59 rfl (lv_at hl 0 rfl) ?_
    refine lv_iload_n hx hb dX1_causeBehind_60 rfl (lv_at hl 1 rfl) ?_
    refine lv_iload_n hx hb dX1_causeBehind_61 rfl (lv_at hl 2 rfl) ?_
    refine lv_aload_n hx hb dX1_causeBehind_62 rfl (lv_at hl 0 rfl) ?_
    refine lv_aload_n hx hb dX1_causeBehind_63 rfl (lv_at hl 0 rfl) ?_
    refine gX1_get fx hw ho.O 16 (by decide) wd1_72 rfl dX1_causeBehind_64 ?_
    refine lv_bipush (v := 24) hx hb dX1_causeBehind_67 (by decide) ?_
    refine g_irem hx hb dX1_causeBehind_69 (by decide) ?_
    obtain ⟨r13, hgr13, hF⟩ := st_bnd hF
    refine g_cz hw (g_runV (C := RX1) (As := [.int (irem (M o 16) 24)]) (rest := [.int a3, .int a2, .ref (ad o)]) fx hw ho.O rfl (c_X1_isSpeechAt l x D cy ad o ho (irem (M o 16) 24) H.size M r13 hgr13) wd2_195 wd2_196 wd2_197 wd1_2 wd2_198 yd_X1_isSpeechAt rfl rfl (Nat.le_of_ble_eq_true rfl) hl.1 ⟨Nat.le_trans (Nat.le_of_ble_eq_true rfl) hR.1, Nat.le_trans (Nat.le_of_ble_eq_true rfl) hR.2.1⟩ ⟨Nat.le_trans (Nat.le_of_ble_eq_true rfl) hR.2.2.1, Nat.le_trans (Nat.le_of_ble_eq_true rfl) hR.2.2.2⟩ dX1_causeBehind_70) (fun H locs hbr13 hw => ?_)
    obtain ⟨r14, hgr14, hF⟩ := st_bnd hF
    refine g_ci hw (g_runV (C := RX1) (As := [.int a2, .int a3, .int r13]) (rest := []) fx hw ho.O rfl (c_X1_fastToTell l x D cy ad o ho a2 a3 r13 H.size M r14 hgr14) wd2_203 wd2_205 wd0_25 wd1_2 wd2_206 yd_X1_fastToTell rfl rfl (Nat.le_of_ble_eq_true rfl) hl.1 ⟨Nat.le_trans (Nat.le_of_ble_eq_true rfl) hR.1, Nat.le_trans (Nat.le_of_ble_eq_true rfl) hR.2.1⟩ ⟨Nat.le_trans (Nat.le_of_ble_eq_true rfl) hR.2.2.1, Nat.le_trans (Nat.le_of_ble_eq_true rfl) hR.2.2.2⟩ dX1_causeBehind_73) (fun H locs hw => ?_)
    exact E _ _ _ _ _ dX1_causeBehind_76 hw hF
  unfold f_X1_causeBehind at hF
  refine lv_iload_n hx hb dX1_causeBehind_0 rfl (lv_at hl 1 rfl) ?_
  obtain ⟨y15, ey15, hF⟩ := st_letV hF
  refine g_top ey15 ?_
  by_cases hk1_0 : y15 = 4
  · replace hF := st_t hk1_0 hF
    subst hk1_0
    refine lv_lookup (off := 51) (tgt := 52) hx hb dX1_causeBehind_1 (by decide) (by decide) (by decide) ?_
    refine lv_aload_n hx hb dX1_causeBehind_52 rfl (lv_at hl 0 rfl) ?_
    refine lv_iload_n hx hb dX1_causeBehind_53 rfl (lv_at hl 2 rfl) ?_
    refine lv_iload_n hx hb dX1_causeBehind_54 rfl (lv_at hl 3 rfl) ?_
    obtain ⟨r16, hgr16, hF⟩ := st_bnd hF
    refine g_ci hw (g_runV (C := RX1) (As := [.int p2, .int p3]) (rest := []) fx hw ho.O rfl (c_X1_pagesToTell l x D cy ad o ho p2 p3 H.size M r16 hgr16) wd2_188 wd2_190 wd0_24 wd1_2 wd2_191 yd_X1_pagesToTell rfl rfl (Nat.le_of_ble_eq_true rfl) hl.1 ⟨Nat.le_trans (Nat.le_of_ble_eq_true rfl) hR.1, Nat.le_trans (Nat.le_of_ble_eq_true rfl) hR.2.1⟩ ⟨Nat.le_trans (Nat.le_of_ble_eq_true rfl) hR.2.2.1, Nat.le_trans (Nat.le_of_ble_eq_true rfl) hR.2.2.2⟩ dX1_causeBehind_55) (fun H locs hw => ?_)
    exact E _ _ _ _ _ dX1_causeBehind_58 hw hF
  · replace hF := st_f hk1_0 hF
    by_cases hk1_1 : y15 = 5
    · replace hF := st_t hk1_1 hF
      subst hk1_1
      refine lv_lookup (off := 58) (tgt := 59) hx hb dX1_causeBehind_1 (by decide) (by decide) (by decide) ?_
      exact n_59 p2 p3 H locs ls (lv_sub hl [0, 2, 3] rfl) hw hF
    · replace hF := st_f hk1_1 hF
      by_cases hk1_2 : y15 = 21
      · replace hF := st_t hk1_2 hF
        subst hk1_2
        refine lv_lookup (off := 76) (tgt := 77) hx hb dX1_causeBehind_1 (by decide) (by decide) (by decide) ?_
        refine lv_aload_n hx hb dX1_causeBehind_77 rfl (lv_at hl 0 rfl) ?_
        refine gX1_get fx hw ho.O 4 (by decide) wd1_44 rfl dX1_causeBehind_78 ?_
        refine lv_iload_n hx hb dX1_causeBehind_81 rfl (lv_at hl 2 rfl) ?_
        obtain ⟨hi17, hF⟩ := st_chk hF
        refine g_iald fx hw ho.a5 hi17 dX1_causeBehind_82 ?_
        refine lv_aload_n hx hb dX1_causeBehind_83 rfl (lv_at hl 0 rfl) ?_
        refine gX1_get fx hw ho.O 9 (by decide) wd1_54 rfl dX1_causeBehind_84 ?_
        refine lv_iload_n hx hb dX1_causeBehind_87 rfl (lv_at hl 3 rfl) ?_
        obtain ⟨hi18, hF⟩ := st_chk hF
        refine g_iald fx hw ho.a10 hi18 dX1_causeBehind_88 ?_
        refine lv_isub hx hb dX1_causeBehind_89 ?_
        exact E _ _ _ _ _ dX1_causeBehind_90 hw hF
      · replace hF := st_f hk1_2 hF
        by_cases hk1_3 : y15 = 22
        · replace hF := st_t hk1_3 hF
          subst hk1_3
          refine lv_lookup (off := 58) (tgt := 59) hx hb dX1_causeBehind_1 (by decide) (by decide) (by decide) ?_
          exact n_59 p2 p3 H locs ls (lv_sub hl [0, 2, 3] rfl) hw hF
        · replace hF := st_f hk1_3 hF
          by_cases hk1_4 : y15 = 23
          · replace hF := st_t hk1_4 hF
            subst hk1_4
            refine lv_lookup (off := 58) (tgt := 59) hx hb dX1_causeBehind_1 (by decide) (by decide) (by decide) ?_
            exact n_59 p2 p3 H locs ls (lv_sub hl [0, 2, 3] rfl) hw hF
          · replace hF := st_f hk1_4 hF
            refine lv_lookup (off := 90) (tgt := 91) hx hb dX1_causeBehind_1 (by decide) ((lv_osw hk1_0 (by decide)).trans ((lv_osw hk1_1 (by decide)).trans ((lv_osw hk1_2 (by decide)).trans ((lv_osw hk1_3 (by decide)).trans ((lv_osw hk1_4 (by decide)).trans (rfl)))))) (by decide) ?_
            refine lv_iconst (v := (-1)) hx hb dX1_causeBehind_91 (by decide) ?_
            exact E _ _ _ _ _ dX1_causeBehind_92 hw hF
theorem c_X1_causeBehind (l : Launch) (x : SX) (D : va_G) (cy : Nat → ClassId) (ad : Nat → Nat) (o : Nat) (ho : isH o) (p1 p2 p3 : Int32) (sz : Nat) (M : Mem) (z : Int32) (hF : f_X1_causeBehind o p1 p2 p3 M = some z) : Met l yX1_causeBehind (.code yX1_causeBehind cX1_causeBehind 4 (some .int) :: GB) ({ frames := 3, cells := 0, slots := 0, locals := 67 } : Room) (PcW D cy ad x sz M [.ref (ad o), .int p1, .int p2, .int p3]) (QiW D cy ad sz z M) 0 0 (AA ad sz) := by
  refine mk_m (own := RX1) (by decide) rfl (Nat.le_of_ble_eq_true rfl) ?_
  intro p e s m args below meth c ls fx hw hl hsz
  subst hsz
  exact b_X1_causeBehind fx ⟨Nat.le_refl _, Nat.le_refl _, Nat.le_refl _, Nat.le_refl _⟩ o ho p1 p2 p3 M z hF (fun pc ls H locs v hd hw h => by cases h; exact g_iret fx hw rfl hd) _ _ ls hl hw
noncomputable def f_X1_wantRefusal (o : Nat) (p1 p2 : Int32) (M : Mem) : Option Int32 := (chk (inB p1 12) (bnd (f_X1_isMember p2 (M (o + 4) (ix p1)) M) (fun r4 => (if r4 = 0 then (some 0) else (some 1)))))
set_option maxHeartbeats 4000000 in
set_option maxRecDepth 100000 in
theorem b_X1_wantRefusal {p : Program} {l : Launch} {e : Env} {R : Room} {s : State} {m : MethodId} {args : Array Value} {below : List Frame} {meth : Method} {c : Code} {Q : State → Prop} {D : va_G} {cy : Nat → ClassId} {ad : Nat → Nat} {x : SX} (fx : FX p s m args meth c cX1_wantRefusal 3 (some .int) RX1 D cy ad x) (hR : 1 ≤ R.frames ∧ 21 ≤ R.locals ∧ 0 ≤ R.cells ∧ 0 ≤ R.slots) (o : Nat) (ho : isH o) (p1 p2 : Int32) (M : Mem) (z : Int32) (hF : f_X1_wantRefusal o p1 p2 M = some z) (E : ∀ (pc : Nat) (ls : Array Slot) (H : Heap) (locs : List Loc) (v : Int32), decode cX1_wantRefusal pc = .ok (.ireturn, 1) → WD D cy ad s M H locs → some v = some z → W p l e R s m args below meth c H locs 0 0 Q (F0 m pc ls [.int v])) (H : Heap) (locs : List Loc) (ls : Array Slot) (hl : lv_has ls 3 [(0, .ref (ad o)), (1, .int p1), (2, .int p2)]) (hw : WD D cy ad s M H locs) : W p l e R s m args below meth c H locs 0 0 Q (F0 m 0 ls []) := by
  have hx := fx.1.1
  have hb := fx.1.2.1
  have hown := fx.1.2.2.2.1
  have hts := fx.1.2.2.2.2
  unfold f_X1_wantRefusal at hF
  refine lv_iload_n hx hb dX1_wantRefusal_0 rfl (lv_at hl 2 rfl) ?_
  refine lv_aload_n hx hb dX1_wantRefusal_1 rfl (lv_at hl 0 rfl) ?_
  refine gX1_get fx hw ho.O 3 (by decide) wd1_42 rfl dX1_wantRefusal_2 ?_
  refine lv_iload_n hx hb dX1_wantRefusal_5 rfl (lv_at hl 1 rfl) ?_
  obtain ⟨hi3, hF⟩ := st_chk hF
  refine g_iald fx hw ho.a4 hi3 dX1_wantRefusal_6 ?_
  obtain ⟨r4, hgr4, hF⟩ := st_bnd hF
  refine g_cz hw (g_runS (As := [.int p2, .int (M (o + 4) (ix p1))]) (rest := []) fx hw (c_X1_isMember l x D cy ad p2 (M (o + 4) (ix p1)) H.size M r4 hgr4) wd2_157 wd2_126 wd1_2 wd2_127 yd_X1_isMember rfl rfl (Nat.le_of_ble_eq_true rfl) hl.1 ⟨Nat.le_trans (Nat.le_of_ble_eq_true rfl) hR.1, Nat.le_trans (Nat.le_of_ble_eq_true rfl) hR.2.1⟩ ⟨Nat.le_trans (Nat.le_of_ble_eq_true rfl) hR.2.2.1, Nat.le_trans (Nat.le_of_ble_eq_true rfl) hR.2.2.2⟩ dX1_wantRefusal_7) (fun H locs hbr4 hw => ?_)
  refine lv_if_eq (tgt := 17) hx hb dX1_wantRefusal_10 (by decide) (fun hc10 => ?_) (fun hc10 => ?_)
  · replace hF := st_t hc10 hF
    refine lv_iconst (v := 0) hx hb dX1_wantRefusal_17 (by decide) ?_
    exact E _ _ _ _ _ dX1_wantRefusal_18 hw hF
  · replace hF := st_f hc10 hF
    refine lv_iconst (v := 1) hx hb dX1_wantRefusal_13 (by decide) ?_
    refine lv_goto (tgt := 18) hx hb dX1_wantRefusal_14 (by decide) ?_
    exact E _ _ _ _ _ dX1_wantRefusal_18 hw hF
theorem c_X1_wantRefusal (l : Launch) (x : SX) (D : va_G) (cy : Nat → ClassId) (ad : Nat → Nat) (o : Nat) (ho : isH o) (p1 p2 : Int32) (sz : Nat) (M : Mem) (z : Int32) (hF : f_X1_wantRefusal o p1 p2 M = some z) : Met l yX1_wantRefusal (.code yX1_wantRefusal cX1_wantRefusal 3 (some .int) :: GB) ({ frames := 1, cells := 0, slots := 0, locals := 21 } : Room) (PcW D cy ad x sz M [.ref (ad o), .int p1, .int p2]) (QiW D cy ad sz z M) 0 0 (AA ad sz) := by
  refine mk_m (own := RX1) (by decide) rfl (Nat.le_of_ble_eq_true rfl) ?_
  intro p e s m args below meth c ls fx hw hl hsz
  subst hsz
  exact b_X1_wantRefusal fx ⟨Nat.le_refl _, Nat.le_refl _, Nat.le_refl _, Nat.le_refl _⟩ o ho p1 p2 M z hF (fun pc ls H locs v hd hw h => by cases h; exact g_iret fx hw rfl hd) _ _ ls hl hw
noncomputable def f_X1_giveRefusal (o : Nat) (p1 p2 p3 : Int32) (M : Mem) : Option Int32 := (chk (inB p1 12) (if (M (o + 2) (ix p1)) = 2 then (chk (inB p1 12) (if (M (o + 6) (ix p1)) ≤ 0 then (chk (inB p2 12) (if (M (o + 6) (ix p2)) ≤ 0 then (chk (inB p1 12) (if ((M (o + 7) (ix p1)) + p3) ≤ (M o 15) then (chk (inB p2 12) (if ((M (o + 5) (ix p2)) + p3) ≤ 99 then (some 0) else (some 10))) else (some 9))) else (some 8))) else (some 7))) else (some 6)))
set_option maxHeartbeats 4000000 in
set_option maxRecDepth 100000 in
theorem b_X1_giveRefusal {p : Program} {l : Launch} {e : Env} {R : Room} {s : State} {m : MethodId} {args : Array Value} {below : List Frame} {meth : Method} {c : Code} {Q : State → Prop} {D : va_G} {cy : Nat → ClassId} {ad : Nat → Nat} {x : SX} (fx : FX p s m args meth c cX1_giveRefusal 4 (some .int) RX1 D cy ad x) (hR : 0 ≤ R.frames ∧ 0 ≤ R.locals ∧ 0 ≤ R.cells ∧ 0 ≤ R.slots) (o : Nat) (ho : isH o) (p1 p2 p3 : Int32) (M : Mem) (z : Int32) (hF : f_X1_giveRefusal o p1 p2 p3 M = some z) (E : ∀ (pc : Nat) (ls : Array Slot) (H : Heap) (locs : List Loc) (v : Int32), decode cX1_giveRefusal pc = .ok (.ireturn, 1) → WD D cy ad s M H locs → some v = some z → W p l e R s m args below meth c H locs 0 0 Q (F0 m pc ls [.int v])) (H : Heap) (locs : List Loc) (ls : Array Slot) (hl : lv_has ls 4 [(0, .ref (ad o)), (1, .int p1), (2, .int p2), (3, .int p3)]) (hw : WD D cy ad s M H locs) : W p l e R s m args below meth c H locs 0 0 Q (F0 m 0 ls []) := by
  have hx := fx.1.1
  have hb := fx.1.2.1
  have hown := fx.1.2.2.2.1
  have hts := fx.1.2.2.2.2
  unfold f_X1_giveRefusal at hF
  refine lv_aload_n hx hb dX1_giveRefusal_0 rfl (lv_at hl 0 rfl) ?_
  refine gX1_get fx hw ho.O 1 (by decide) wd1_38 rfl dX1_giveRefusal_1 ?_
  refine lv_iload_n hx hb dX1_giveRefusal_4 rfl (lv_at hl 1 rfl) ?_
  obtain ⟨hi6, hF⟩ := st_chk hF
  refine g_iald fx hw ho.a2 hi6 dX1_giveRefusal_5 ?_
  refine lv_iconst (v := 2) hx hb dX1_giveRefusal_6 (by decide) ?_
  refine lv_icmp_eq (tgt := 13) hx hb dX1_giveRefusal_7 (by decide) (fun hc7 => ?_) (fun hc7 => ?_)
  · replace hF := st_t hc7 hF
    refine lv_aload_n hx hb dX1_giveRefusal_13 rfl (lv_at hl 0 rfl) ?_
    refine gX1_get fx hw ho.O 5 (by decide) wd1_46 rfl dX1_giveRefusal_14 ?_
    refine lv_iload_n hx hb dX1_giveRefusal_17 rfl (lv_at hl 1 rfl) ?_
    obtain ⟨hi7, hF⟩ := st_chk hF
    refine g_iald fx hw ho.a6 hi7 dX1_giveRefusal_18 ?_
    refine lv_if_le (tgt := 25) hx hb dX1_giveRefusal_19 (by decide) (fun hc19 => ?_) (fun hc19 => ?_)
    · replace hF := st_t hc19 hF
      refine lv_aload_n hx hb dX1_giveRefusal_25 rfl (lv_at hl 0 rfl) ?_
      refine gX1_get fx hw ho.O 5 (by decide) wd1_46 rfl dX1_giveRefusal_26 ?_
      refine lv_iload_n hx hb dX1_giveRefusal_29 rfl (lv_at hl 2 rfl) ?_
      obtain ⟨hi8, hF⟩ := st_chk hF
      refine g_iald fx hw ho.a6 hi8 dX1_giveRefusal_30 ?_
      refine lv_if_le (tgt := 37) hx hb dX1_giveRefusal_31 (by decide) (fun hc31 => ?_) (fun hc31 => ?_)
      · replace hF := st_t hc31 hF
        refine lv_aload_n hx hb dX1_giveRefusal_37 rfl (lv_at hl 0 rfl) ?_
        refine gX1_get fx hw ho.O 6 (by decide) wd1_48 rfl dX1_giveRefusal_38 ?_
        refine lv_iload_n hx hb dX1_giveRefusal_41 rfl (lv_at hl 1 rfl) ?_
        obtain ⟨hi9, hF⟩ := st_chk hF
        refine g_iald fx hw ho.a7 hi9 dX1_giveRefusal_42 ?_
        refine lv_iload_n hx hb dX1_giveRefusal_43 rfl (lv_at hl 3 rfl) ?_
        refine lv_iadd hx hb dX1_giveRefusal_44 ?_
        refine lv_aload_n hx hb dX1_giveRefusal_45 rfl (lv_at hl 0 rfl) ?_
        refine gX1_get fx hw ho.O 15 (by decide) wd1_69 rfl dX1_giveRefusal_46 ?_
        refine lv_icmp_le (tgt := 55) hx hb dX1_giveRefusal_49 (by decide) (fun hc49 => ?_) (fun hc49 => ?_)
        · replace hF := st_t hc49 hF
          refine lv_aload_n hx hb dX1_giveRefusal_55 rfl (lv_at hl 0 rfl) ?_
          refine gX1_get fx hw ho.O 4 (by decide) wd1_44 rfl dX1_giveRefusal_56 ?_
          refine lv_iload_n hx hb dX1_giveRefusal_59 rfl (lv_at hl 2 rfl) ?_
          obtain ⟨hi10, hF⟩ := st_chk hF
          refine g_iald fx hw ho.a5 hi10 dX1_giveRefusal_60 ?_
          refine lv_iload_n hx hb dX1_giveRefusal_61 rfl (lv_at hl 3 rfl) ?_
          refine lv_iadd hx hb dX1_giveRefusal_62 ?_
          refine lv_bipush (v := 99) hx hb dX1_giveRefusal_63 (by decide) ?_
          refine lv_icmp_le (tgt := 73) hx hb dX1_giveRefusal_65 (by decide) (fun hc65 => ?_) (fun hc65 => ?_)
          · replace hF := st_t hc65 hF
            refine lv_iconst (v := 0) hx hb dX1_giveRefusal_73 (by decide) ?_
            exact E _ _ _ _ _ dX1_giveRefusal_74 hw hF
          · replace hF := st_f hc65 hF
            refine lv_bipush (v := 10) hx hb dX1_giveRefusal_68 (by decide) ?_
            refine lv_goto (tgt := 74) hx hb dX1_giveRefusal_70 (by decide) ?_
            exact E _ _ _ _ _ dX1_giveRefusal_74 hw hF
        · replace hF := st_f hc49 hF
          refine lv_bipush (v := 9) hx hb dX1_giveRefusal_52 (by decide) ?_
          exact E _ _ _ _ _ dX1_giveRefusal_54 hw hF
      · replace hF := st_f hc31 hF
        refine lv_bipush (v := 8) hx hb dX1_giveRefusal_34 (by decide) ?_
        exact E _ _ _ _ _ dX1_giveRefusal_36 hw hF
    · replace hF := st_f hc19 hF
      refine lv_bipush (v := 7) hx hb dX1_giveRefusal_22 (by decide) ?_
      exact E _ _ _ _ _ dX1_giveRefusal_24 hw hF
  · replace hF := st_f hc7 hF
    refine lv_bipush (v := 6) hx hb dX1_giveRefusal_10 (by decide) ?_
    exact E _ _ _ _ _ dX1_giveRefusal_12 hw hF
theorem c_X1_giveRefusal (l : Launch) (x : SX) (D : va_G) (cy : Nat → ClassId) (ad : Nat → Nat) (o : Nat) (ho : isH o) (p1 p2 p3 : Int32) (sz : Nat) (M : Mem) (z : Int32) (hF : f_X1_giveRefusal o p1 p2 p3 M = some z) : Met l yX1_giveRefusal (.code yX1_giveRefusal cX1_giveRefusal 4 (some .int) :: GB) ({ frames := 0, cells := 0, slots := 0, locals := 0 } : Room) (PcW D cy ad x sz M [.ref (ad o), .int p1, .int p2, .int p3]) (QiW D cy ad sz z M) 0 0 (AA ad sz) := by
  refine mk_m (own := RX1) (by decide) rfl (Nat.le_of_ble_eq_true rfl) ?_
  intro p e s m args below meth c ls fx hw hl hsz
  subst hsz
  exact b_X1_giveRefusal fx ⟨Nat.le_refl _, Nat.le_refl _, Nat.le_refl _, Nat.le_refl _⟩ o ho p1 p2 p3 M z hF (fun pc ls H locs v hd hw h => by cases h; exact g_iret fx hw rfl hd) _ _ ls hl hw
noncomputable def f_X1_passRefusal (o : Nat) (p1 : Int32) (M : Mem) : Option Int32 := (if ((M o 16) + p1) ≤ 9999 then (some 0) else (some 11))
set_option maxHeartbeats 4000000 in
set_option maxRecDepth 100000 in
theorem b_X1_passRefusal {p : Program} {l : Launch} {e : Env} {R : Room} {s : State} {m : MethodId} {args : Array Value} {below : List Frame} {meth : Method} {c : Code} {Q : State → Prop} {D : va_G} {cy : Nat → ClassId} {ad : Nat → Nat} {x : SX} (fx : FX p s m args meth c cX1_passRefusal 2 (some .int) RX1 D cy ad x) (hR : 0 ≤ R.frames ∧ 0 ≤ R.locals ∧ 0 ≤ R.cells ∧ 0 ≤ R.slots) (o : Nat) (ho : isH o) (p1 : Int32) (M : Mem) (z : Int32) (hF : f_X1_passRefusal o p1 M = some z) (E : ∀ (pc : Nat) (ls : Array Slot) (H : Heap) (locs : List Loc) (v : Int32), decode cX1_passRefusal pc = .ok (.ireturn, 1) → WD D cy ad s M H locs → some v = some z → W p l e R s m args below meth c H locs 0 0 Q (F0 m pc ls [.int v])) (H : Heap) (locs : List Loc) (ls : Array Slot) (hl : lv_has ls 2 [(0, .ref (ad o)), (1, .int p1)]) (hw : WD D cy ad s M H locs) : W p l e R s m args below meth c H locs 0 0 Q (F0 m 0 ls []) := by
  have hx := fx.1.1
  have hb := fx.1.2.1
  have hown := fx.1.2.2.2.1
  have hts := fx.1.2.2.2.2
  unfold f_X1_passRefusal at hF
  refine lv_aload_n hx hb dX1_passRefusal_0 rfl (lv_at hl 0 rfl) ?_
  refine gX1_get fx hw ho.O 16 (by decide) wd1_72 rfl dX1_passRefusal_1 ?_
  refine lv_iload_n hx hb dX1_passRefusal_4 rfl (lv_at hl 1 rfl) ?_
  refine lv_iadd hx hb dX1_passRefusal_5 ?_
  refine lv_sipush (v := 9999) hx hb dX1_passRefusal_6 (by decide) ?_
  refine lv_icmp_le (tgt := 17) hx hb dX1_passRefusal_9 (by decide) (fun hc9 => ?_) (fun hc9 => ?_)
  · replace hF := st_t hc9 hF
    refine lv_iconst (v := 0) hx hb dX1_passRefusal_17 (by decide) ?_
    exact E _ _ _ _ _ dX1_passRefusal_18 hw hF
  · replace hF := st_f hc9 hF
    refine lv_bipush (v := 11) hx hb dX1_passRefusal_12 (by decide) ?_
    refine lv_goto (tgt := 18) hx hb dX1_passRefusal_14 (by decide) ?_
    exact E _ _ _ _ _ dX1_passRefusal_18 hw hF
theorem c_X1_passRefusal (l : Launch) (x : SX) (D : va_G) (cy : Nat → ClassId) (ad : Nat → Nat) (o : Nat) (ho : isH o) (p1 : Int32) (sz : Nat) (M : Mem) (z : Int32) (hF : f_X1_passRefusal o p1 M = some z) : Met l yX1_passRefusal (.code yX1_passRefusal cX1_passRefusal 2 (some .int) :: GB) ({ frames := 0, cells := 0, slots := 0, locals := 0 } : Room) (PcW D cy ad x sz M [.ref (ad o), .int p1]) (QiW D cy ad sz z M) 0 0 (AA ad sz) := by
  refine mk_m (own := RX1) (by decide) rfl (Nat.le_of_ble_eq_true rfl) ?_
  intro p e s m args below meth c ls fx hw hl hsz
  subst hsz
  exact b_X1_passRefusal fx ⟨Nat.le_refl _, Nat.le_refl _, Nat.le_refl _, Nat.le_refl _⟩ o ho p1 M z hF (fun pc ls H locs v hd hw h => by cases h; exact g_iret fx hw rfl hd) _ _ ls hl hw
noncomputable def f_X1_addWant (o : Nat) (p1 p2 : Int32) (M : Mem) : Option (Int32 × Mem) := (chk (inB p1 12) (chk (inB p1 12) (letM (mput M (o + 4) (ix p1) ((M (o + 4) (ix p1)) ||| (ishl 1 p2))) (fun M7 => (chk (inB p1 12) (bnd (f_J6_bitCount_0f7a4 (M7 (o + 4) (ix p1)) M7) (fun r10 => (some (r10, M7)))))))))
set_option maxHeartbeats 4000000 in
set_option maxRecDepth 100000 in
theorem b_X1_addWant {p : Program} {l : Launch} {e : Env} {R : Room} {s : State} {m : MethodId} {args : Array Value} {below : List Frame} {meth : Method} {c : Code} {Q : State → Prop} {D : va_G} {cy : Nat → ClassId} {ad : Nat → Nat} {x : SX} (fx : FX p s m args meth c cX1_addWant 3 (some .int) RX1 D cy ad x) (hR : 1 ≤ R.frames ∧ 20 ≤ R.locals ∧ 0 ≤ R.cells ∧ 0 ≤ R.slots) (o : Nat) (ho : isH o) (p1 p2 : Int32) (M : Mem) (z : Int32) (M' : Mem) (hF : f_X1_addWant o p1 p2 M = some (z, M')) (E : ∀ (pc : Nat) (ls : Array Slot) (H : Heap) (locs : List Loc) (v : Int32) (M1 : Mem), decode cX1_addWant pc = .ok (.ireturn, 1) → WD D cy ad s M1 H locs → some (v, M1) = some (z, M') → W p l e R s m args below meth c H locs 0 0 Q (F0 m pc ls [.int v])) (H : Heap) (locs : List Loc) (ls : Array Slot) (hl : lv_has ls 3 [(0, .ref (ad o)), (1, .int p1), (2, .int p2)]) (hw : WD D cy ad s M H locs) : W p l e R s m args below meth c H locs 0 0 Q (F0 m 0 ls []) := by
  have hx := fx.1.1
  have hb := fx.1.2.1
  have hown := fx.1.2.2.2.1
  have hts := fx.1.2.2.2.2
  unfold f_X1_addWant at hF
  refine lv_aload_n hx hb dX1_addWant_0 rfl (lv_at hl 0 rfl) ?_
  refine gX1_get fx hw ho.O 3 (by decide) wd1_42 rfl dX1_addWant_1 ?_
  refine lv_iload_n hx hb dX1_addWant_4 rfl (lv_at hl 1 rfl) ?_
  refine lv_dup2_11 hx hb dX1_addWant_5 rfl rfl ?_
  obtain ⟨hi6, hF⟩ := st_chk hF
  refine g_iald fx hw ho.a4 hi6 dX1_addWant_6 ?_
  refine lv_iconst (v := 1) hx hb dX1_addWant_7 (by decide) ?_
  refine lv_iload_n hx hb dX1_addWant_8 rfl (lv_at hl 2 rfl) ?_
  refine g_ishl hx hb dX1_addWant_9 ?_
  refine lv_ior hx hb dX1_addWant_10 ?_
  obtain ⟨hi8, hF⟩ := st_chk hF
  obtain ⟨M7, eM7, hF⟩ := st_letM hF
  refine g_iast fx hw ho.a4 hi8 eM7 dX1_addWant_11 (fun H locs hw => ?_)
  refine lv_aload_n hx hb dX1_addWant_12 rfl (lv_at hl 0 rfl) ?_
  refine gX1_get fx hw ho.O 3 (by decide) wd1_42 rfl dX1_addWant_13 ?_
  refine lv_iload_n hx hb dX1_addWant_16 rfl (lv_at hl 1 rfl) ?_
  obtain ⟨hi9, hF⟩ := st_chk hF
  refine g_iald fx hw ho.a4 hi9 dX1_addWant_17 ?_
  obtain ⟨r10, hgr10, hF⟩ := st_bnd hF
  refine g_ci hw (g_runS (As := [.int (M7 (o + 4) (ix p1))]) (rest := []) fx hw (c_J6_bitCount_0f7a4 l x D cy ad (M7 (o + 4) (ix p1)) H.size M7 r10 hgr10) wd2_166 wd2_167 wd1_18 wd2_168 yd_J6_bitCount_0f7a4 rfl rfl (Nat.le_of_ble_eq_true rfl) hl.1 ⟨Nat.le_trans (Nat.le_of_ble_eq_true rfl) hR.1, Nat.le_trans (Nat.le_of_ble_eq_true rfl) hR.2.1⟩ ⟨Nat.le_trans (Nat.le_of_ble_eq_true rfl) hR.2.2.1, Nat.le_trans (Nat.le_of_ble_eq_true rfl) hR.2.2.2⟩ dX1_addWant_18) (fun H locs hw => ?_)
  exact E _ _ _ _ _ _ dX1_addWant_21 hw hF
theorem c_X1_addWant (l : Launch) (x : SX) (D : va_G) (cy : Nat → ClassId) (ad : Nat → Nat) (o : Nat) (ho : isH o) (p1 p2 : Int32) (sz : Nat) (M : Mem) (z : Int32) (M' : Mem) (hF : f_X1_addWant o p1 p2 M = some (z, M')) : Met l yX1_addWant (.code yX1_addWant cX1_addWant 3 (some .int) :: GB) ({ frames := 1, cells := 0, slots := 0, locals := 20 } : Room) (PcW D cy ad x sz M [.ref (ad o), .int p1, .int p2]) (QiW D cy ad sz z M') 0 0 (AA ad sz) := by
  refine mk_m (own := RX1) (by decide) rfl (Nat.le_of_ble_eq_true rfl) ?_
  intro p e s m args below meth c ls fx hw hl hsz
  subst hsz
  exact b_X1_addWant fx ⟨Nat.le_refl _, Nat.le_refl _, Nat.le_refl _, Nat.le_refl _⟩ o ho p1 p2 M z M' hF (fun pc ls H locs v M1 hd hw h => by cases h; exact g_iret fx hw rfl hd) _ _ ls hl hw
noncomputable def f_X1_writeSlip (o : Nat) (p1 p2 : Int32) (M : Mem) : Option (Int32 × Mem) := (bnd (f_X1_pagesToTell o p1 p2 M) (fun r5 => (letM (mput M o 14 ((M o 14) - r5)) (fun M6 => (letM (mput M6 (o + 12) 1 ((M6 (o + 12) 1) + 1)) (fun M7 => (letM (mput M7 (o + 12) 3 ((M7 (o + 12) 3) + r5)) (fun M8 => (some (r5, M8))))))))))
set_option maxHeartbeats 4000000 in
set_option maxRecDepth 100000 in
theorem b_X1_writeSlip {p : Program} {l : Launch} {e : Env} {R : Room} {s : State} {m : MethodId} {args : Array Value} {below : List Frame} {meth : Method} {c : Code} {Q : State → Prop} {D : va_G} {cy : Nat → ClassId} {ad : Nat → Nat} {x : SX} (fx : FX p s m args meth c cX1_writeSlip 4 (some .int) RX1 D cy ad x) (hR : 2 ≤ R.frames ∧ 44 ≤ R.locals ∧ 0 ≤ R.cells ∧ 0 ≤ R.slots) (o : Nat) (ho : isH o) (p1 p2 : Int32) (M : Mem) (z : Int32) (M' : Mem) (hF : f_X1_writeSlip o p1 p2 M = some (z, M')) (E : ∀ (pc : Nat) (ls : Array Slot) (H : Heap) (locs : List Loc) (v : Int32) (M1 : Mem), decode cX1_writeSlip pc = .ok (.ireturn, 1) → WD D cy ad s M1 H locs → some (v, M1) = some (z, M') → W p l e R s m args below meth c H locs 0 0 Q (F0 m pc ls [.int v])) (H : Heap) (locs : List Loc) (ls : Array Slot) (hl : lv_has ls 4 [(0, .ref (ad o)), (1, .int p1), (2, .int p2)]) (hw : WD D cy ad s M H locs) : W p l e R s m args below meth c H locs 0 0 Q (F0 m 0 ls []) := by
  have hx := fx.1.1
  have hb := fx.1.2.1
  have hown := fx.1.2.2.2.1
  have hts := fx.1.2.2.2.2
  unfold f_X1_writeSlip at hF
  refine lv_aload_n hx hb dX1_writeSlip_0 rfl (lv_at hl 0 rfl) ?_
  refine lv_iload_n hx hb dX1_writeSlip_1 rfl (lv_at hl 1 rfl) ?_
  refine lv_iload_n hx hb dX1_writeSlip_2 rfl (lv_at hl 2 rfl) ?_
  obtain ⟨r5, hgr5, hF⟩ := st_bnd hF
  refine g_ci hw (g_runV (C := RX1) (As := [.int p1, .int p2]) (rest := []) fx hw ho.O rfl (c_X1_pagesToTell l x D cy ad o ho p1 p2 H.size M r5 hgr5) wd2_188 wd2_190 wd0_24 wd1_2 wd2_191 yd_X1_pagesToTell rfl rfl (Nat.le_of_ble_eq_true rfl) hl.1 ⟨Nat.le_trans (Nat.le_of_ble_eq_true rfl) hR.1, Nat.le_trans (Nat.le_of_ble_eq_true rfl) hR.2.1⟩ ⟨Nat.le_trans (Nat.le_of_ble_eq_true rfl) hR.2.2.1, Nat.le_trans (Nat.le_of_ble_eq_true rfl) hR.2.2.2⟩ dX1_writeSlip_3) (fun H locs hw => ?_)
  refine lv_istore_n (lv' := [(3, .int r5), (0, .ref (ad o)), (1, .int p1), (2, .int p2)]) hx hb dX1_writeSlip_6 rfl hl (by decide) rfl (fun ls hl => ?_)
  refine lv_aload_n hx hb dX1_writeSlip_7 rfl (lv_at hl 1 rfl) ?_
  refine lv_dup hx hb dX1_writeSlip_8 rfl ?_
  refine gX1_get fx hw ho.O 14 (by decide) wd1_66 rfl dX1_writeSlip_9 ?_
  refine lv_iload_n hx hb dX1_writeSlip_12 rfl (lv_at hl 0 rfl) ?_
  refine lv_isub hx hb dX1_writeSlip_13 ?_
  obtain ⟨M6, eM6, hF⟩ := st_letM hF
  refine gX1_put fx hw ho.O 14 (by decide) wd1_66 rfl eM6 rfl (Nat.le_of_ble_eq_true rfl) dX1_writeSlip_14 (fun H locs hw => ?_)
  refine lv_aload_n hx hb dX1_writeSlip_17 rfl (lv_at hl 1 rfl) ?_
  refine gX1_get fx hw ho.O 11 (by decide) wd1_59 rfl dX1_writeSlip_18 ?_
  refine lv_iconst (v := 1) hx hb dX1_writeSlip_21 (by decide) ?_
  refine lv_dup2_11 hx hb dX1_writeSlip_22 rfl rfl ?_
  refine g_ialdc fx hw ho.a12 (k := 1) rfl (by decide) dX1_writeSlip_23 ?_
  refine lv_iconst (v := 1) hx hb dX1_writeSlip_24 (by decide) ?_
  refine lv_iadd hx hb dX1_writeSlip_25 ?_
  obtain ⟨M7, eM7, hF⟩ := st_letM hF
  refine g_iastc fx hw ho.a12 (k := 1) rfl (by decide) eM7 dX1_writeSlip_26 (fun H locs hw => ?_)
  refine lv_aload_n hx hb dX1_writeSlip_27 rfl (lv_at hl 1 rfl) ?_
  refine gX1_get fx hw ho.O 11 (by decide) wd1_59 rfl dX1_writeSlip_28 ?_
  refine lv_iconst (v := 3) hx hb dX1_writeSlip_31 (by decide) ?_
  refine lv_dup2_11 hx hb dX1_writeSlip_32 rfl rfl ?_
  refine g_ialdc fx hw ho.a12 (k := 3) rfl (by decide) dX1_writeSlip_33 ?_
  refine lv_iload_n hx hb dX1_writeSlip_34 rfl (lv_at hl 0 rfl) ?_
  refine lv_iadd hx hb dX1_writeSlip_35 ?_
  obtain ⟨M8, eM8, hF⟩ := st_letM hF
  refine g_iastc fx hw ho.a12 (k := 3) rfl (by decide) eM8 dX1_writeSlip_36 (fun H locs hw => ?_)
  refine lv_iload_n hx hb dX1_writeSlip_37 rfl (lv_at hl 0 rfl) ?_
  exact E _ _ _ _ _ _ dX1_writeSlip_38 hw hF
theorem c_X1_writeSlip (l : Launch) (x : SX) (D : va_G) (cy : Nat → ClassId) (ad : Nat → Nat) (o : Nat) (ho : isH o) (p1 p2 : Int32) (sz : Nat) (M : Mem) (z : Int32) (M' : Mem) (hF : f_X1_writeSlip o p1 p2 M = some (z, M')) : Met l yX1_writeSlip (.code yX1_writeSlip cX1_writeSlip 4 (some .int) :: GB) ({ frames := 2, cells := 0, slots := 0, locals := 44 } : Room) (PcW D cy ad x sz M [.ref (ad o), .int p1, .int p2]) (QiW D cy ad sz z M') 0 0 (AA ad sz) := by
  refine mk_m (own := RX1) (by decide) rfl (Nat.le_of_ble_eq_true rfl) ?_
  intro p e s m args below meth c ls fx hw hl hsz
  subst hsz
  exact b_X1_writeSlip fx ⟨Nat.le_refl _, Nat.le_refl _, Nat.le_refl _, Nat.le_refl _⟩ o ho p1 p2 M z M' hF (fun pc ls H locs v M1 hd hw h => by cases h; exact g_iret fx hw rfl hd) _ _ ls hl hw
noncomputable def f_X1_speak_99 (o : Nat) : Int32 → Int32 → Int32 → Int32 → Int32 → Int32 → Int32 → Mem → Option (Int32 × Mem) := fun a1 a4 a5 a6 t1 t2 t3 M => (chk (inB t1 14) (letM (mput M (o + 12) (ix t1) (t2 + t3)) (fun M45 => (letM (mput M45 (o + 12) 5 ((M45 (o + 12) 5) + a4)) (fun M47 => (letM (mput M47 (o + 12) 6 ((M47 (o + 12) 6) + a5)) (fun M48 => (letM (mput M48 (o + 12) 8 ((M48 (o + 12) 8) + a6)) (fun M49 => (if a5 ≤ 0 then (some (a6, M49)) else (letM (mput M49 (o + 12) 7 ((M49 (o + 12) 7) + 1)) (fun M50 => (chk (inB a1 12) (letM (mput M50 (o + 8) (ix a1) 1) (fun M51 => (some (a6, M51)))))))))))))))))
noncomputable def f_X1_speak (o : Nat) (p1 p2 p3 : Int32) (M : Mem) : Option (Int32 × Mem) := (bnd (f_X1_leaveToTell o p1 p2 p3 M) (fun r53 => (bnd (f_X1_restToTell o p1 p2 p3 M) (fun r54 => (chk (inB p1 12) (bnd (f_X1_fastFor (M (o + 2) (ix p1)) r54 M) (fun r56 => (chk (inB p1 12) (chk (inB p1 12) (letM (mput M (o + 5) (ix p1) ((M (o + 5) (ix p1)) - r53)) (fun M58 => (chk (inB p1 12) (chk (inB p1 12) (letM (mput M58 (o + 6) (ix p1) ((M58 (o + 6) (ix p1)) + r56)) (fun M61 => (chk (inB p2 8) (letM (mput M61 o 17 ((M61 o 17) + (M61 (o + 10) (ix p2)))) (fun M64 => (letM (mput M64 (o + 12) 2 ((M64 (o + 12) 2) + 1)) (fun M65 => (if p3 = 0 then ((f_X1_speak_99 o) p1 r53 r54 r56 4 (M65 (o + 12) 4) 0 M65) else (chk (inB p2 8) ((f_X1_speak_99 o) p1 r53 r54 r56 4 (M65 (o + 12) 4) (M65 (o + 10) (ix p2)) M65)))))))))))))))))))))))
set_option maxHeartbeats 4000000 in
set_option maxRecDepth 100000 in
theorem b_X1_speak {p : Program} {l : Launch} {e : Env} {R : Room} {s : State} {m : MethodId} {args : Array Value} {below : List Frame} {meth : Method} {c : Code} {Q : State → Prop} {D : va_G} {cy : Nat → ClassId} {ad : Nat → Nat} {x : SX} (fx : FX p s m args meth c cX1_speak 7 (some .int) RX1 D cy ad x) (hR : 2 ≤ R.frames ∧ 44 ≤ R.locals ∧ 0 ≤ R.cells ∧ 0 ≤ R.slots) (o : Nat) (ho : isH o) (p1 p2 p3 : Int32) (M : Mem) (z : Int32) (M' : Mem) (hF : f_X1_speak o p1 p2 p3 M = some (z, M')) (E : ∀ (pc : Nat) (ls : Array Slot) (H : Heap) (locs : List Loc) (v : Int32) (M1 : Mem), decode cX1_speak pc = .ok (.ireturn, 1) → WD D cy ad s M1 H locs → some (v, M1) = some (z, M') → W p l e R s m args below meth c H locs 0 0 Q (F0 m pc ls [.int v])) (H : Heap) (locs : List Loc) (ls : Array Slot) (hl : lv_has ls 7 [(0, .ref (ad o)), (1, .int p1), (2, .int p2), (3, .int p3)]) (hw : WD D cy ad s M H locs) : W p l e R s m args below meth c H locs 0 0 Q (F0 m 0 ls []) := by
  have hx := fx.1.1
  have hb := fx.1.2.1
  have hown := fx.1.2.2.2.1
  have hts := fx.1.2.2.2.2
  have n_99 : ∀ (a1 : Int32) (a4 : Int32) (a5 : Int32) (a6 : Int32) (t1 : Int32) (t2 : Int32) (t3 : Int32) (M : Mem) (H : Heap) (locs : List Loc) (ls : Array Slot), lv_has ls 7 [(0, .ref (ad o)), (1, .int a1), (4, .int a4), (5, .int a5), (6, .int a6)] → WD D cy ad s M H locs → f_X1_speak_99 o a1 a4 a5 a6 t1 t2 t3 M = some (z, M') → W p l e R s m args below meth c H locs 0 0 Q (F0 m 99 ls [.int t3, .int t2, .int t1, .ref (ad (o + 12))]) := by
    intro a1 a4 a5 a6 t1 t2 t3 M H locs ls hl hw hF
    unfold f_X1_speak_99 at hF
    refine lv_iadd hx hb dX1_speak_99 ?_
    obtain ⟨hi46, hF⟩ := st_chk hF
    obtain ⟨M45, eM45, hF⟩ := st_letM hF
    refine g_iast fx hw ho.a12 hi46 eM45 dX1_speak_100 (fun H locs hw => ?_)
    refine lv_aload_n hx hb dX1_speak_101 rfl (lv_at hl 0 rfl) ?_
    refine gX1_get fx hw ho.O 11 (by decide) wd1_59 rfl dX1_speak_102 ?_
    refine lv_iconst (v := 5) hx hb dX1_speak_105 (by decide) ?_
    refine lv_dup2_11 hx hb dX1_speak_106 rfl rfl ?_
    refine g_ialdc fx hw ho.a12 (k := 5) rfl (by decide) dX1_speak_107 ?_
    refine lv_iload hx hb dX1_speak_108 (lv_at hl 2 rfl) ?_
    refine lv_iadd hx hb dX1_speak_110 ?_
    obtain ⟨M47, eM47, hF⟩ := st_letM hF
    refine g_iastc fx hw ho.a12 (k := 5) rfl (by decide) eM47 dX1_speak_111 (fun H locs hw => ?_)
    refine lv_aload_n hx hb dX1_speak_112 rfl (lv_at hl 0 rfl) ?_
    refine gX1_get fx hw ho.O 11 (by decide) wd1_59 rfl dX1_speak_113 ?_
    refine lv_bipush (v := 6) hx hb dX1_speak_116 (by decide) ?_
    refine lv_dup2_11 hx hb dX1_speak_118 rfl rfl ?_
    refine g_ialdc fx hw ho.a12 (k := 6) rfl (by decide) dX1_speak_119 ?_
    refine lv_iload hx hb dX1_speak_120 (lv_at hl 3 rfl) ?_
    refine lv_iadd hx hb dX1_speak_122 ?_
    obtain ⟨M48, eM48, hF⟩ := st_letM hF
    refine g_iastc fx hw ho.a12 (k := 6) rfl (by decide) eM48 dX1_speak_123 (fun H locs hw => ?_)
    refine lv_aload_n hx hb dX1_speak_124 rfl (lv_at hl 0 rfl) ?_
    refine gX1_get fx hw ho.O 11 (by decide) wd1_59 rfl dX1_speak_125 ?_
    refine lv_bipush (v := 8) hx hb dX1_speak_128 (by decide) ?_
    refine lv_dup2_11 hx hb dX1_speak_130 rfl rfl ?_
    refine g_ialdc fx hw ho.a12 (k := 8) rfl (by decide) dX1_speak_131 ?_
    refine lv_iload hx hb dX1_speak_132 (lv_at hl 4 rfl) ?_
    refine lv_iadd hx hb dX1_speak_134 ?_
    obtain ⟨M49, eM49, hF⟩ := st_letM hF
    refine g_iastc fx hw ho.a12 (k := 8) rfl (by decide) eM49 dX1_speak_135 (fun H locs hw => ?_)
    refine lv_iload hx hb dX1_speak_136 (lv_at hl 3 rfl) ?_
    refine lv_if_le (tgt := 159) hx hb dX1_speak_138 (by decide) (fun hc138 => ?_) (fun hc138 => ?_)
    · replace hF := st_t hc138 hF
      refine lv_iload hx hb dX1_speak_159 (lv_at hl 4 rfl) ?_
      exact E _ _ _ _ _ _ dX1_speak_161 hw hF
    · replace hF := st_f hc138 hF
      refine lv_aload_n hx hb dX1_speak_141 rfl (lv_at hl 0 rfl) ?_
      refine gX1_get fx hw ho.O 11 (by decide) wd1_59 rfl dX1_speak_142 ?_
      refine lv_bipush (v := 7) hx hb dX1_speak_145 (by decide) ?_
      refine lv_dup2_11 hx hb dX1_speak_147 rfl rfl ?_
      refine g_ialdc fx hw ho.a12 (k := 7) rfl (by decide) dX1_speak_148 ?_
      refine lv_iconst (v := 1) hx hb dX1_speak_149 (by decide) ?_
      refine lv_iadd hx hb dX1_speak_150 ?_
      obtain ⟨M50, eM50, hF⟩ := st_letM hF
      refine g_iastc fx hw ho.a12 (k := 7) rfl (by decide) eM50 dX1_speak_151 (fun H locs hw => ?_)
      refine lv_aload_n hx hb dX1_speak_152 rfl (lv_at hl 0 rfl) ?_
      refine gX1_get fx hw ho.O 7 (by decide) wd1_50 rfl dX1_speak_153 ?_
      refine lv_iload_n hx hb dX1_speak_156 rfl (lv_at hl 1 rfl) ?_
      refine lv_iconst (v := 1) hx hb dX1_speak_157 (by decide) ?_
      obtain ⟨hi52, hF⟩ := st_chk hF
      obtain ⟨M51, eM51, hF⟩ := st_letM hF
      refine g_iast fx hw ho.a8 hi52 eM51 dX1_speak_158 (fun H locs hw => ?_)
      refine lv_iload hx hb dX1_speak_159 (lv_at hl 4 rfl) ?_
      exact E _ _ _ _ _ _ dX1_speak_161 hw hF
  unfold f_X1_speak at hF
  refine lv_aload_n hx hb dX1_speak_0 rfl (lv_at hl 0 rfl) ?_
  refine lv_iload_n hx hb dX1_speak_1 rfl (lv_at hl 1 rfl) ?_
  refine lv_iload_n hx hb dX1_speak_2 rfl (lv_at hl 2 rfl) ?_
  refine lv_iload_n hx hb dX1_speak_3 rfl (lv_at hl 3 rfl) ?_
  obtain ⟨r53, hgr53, hF⟩ := st_bnd hF
  refine g_ci hw (g_runV (C := RX1) (As := [.int p1, .int p2, .int p3]) (rest := []) fx hw ho.O rfl (c_X1_leaveToTell l x D cy ad o ho p1 p2 p3 H.size M r53 hgr53) wd2_229 wd2_231 wd0_29 wd1_2 wd2_232 yd_X1_leaveToTell rfl rfl (Nat.le_of_ble_eq_true rfl) hl.1 ⟨Nat.le_trans (Nat.le_of_ble_eq_true rfl) hR.1, Nat.le_trans (Nat.le_of_ble_eq_true rfl) hR.2.1⟩ ⟨Nat.le_trans (Nat.le_of_ble_eq_true rfl) hR.2.2.1, Nat.le_trans (Nat.le_of_ble_eq_true rfl) hR.2.2.2⟩ dX1_speak_4) (fun H locs hw => ?_)
  refine lv_istore (lv' := [(4, .int r53), (0, .ref (ad o)), (1, .int p1), (2, .int p2), (3, .int p3)]) hx hb dX1_speak_7 hl (by decide) rfl (fun ls hl => ?_)
  refine lv_aload_n hx hb dX1_speak_9 rfl (lv_at hl 1 rfl) ?_
  refine lv_iload_n hx hb dX1_speak_10 rfl (lv_at hl 2 rfl) ?_
  refine lv_iload_n hx hb dX1_speak_11 rfl (lv_at hl 3 rfl) ?_
  refine lv_iload_n hx hb dX1_speak_12 rfl (lv_at hl 4 rfl) ?_
  obtain ⟨r54, hgr54, hF⟩ := st_bnd hF
  refine g_ci hw (g_runV (C := RX1) (As := [.int p1, .int p2, .int p3]) (rest := []) fx hw ho.O rfl (c_X1_restToTell l x D cy ad o ho p1 p2 p3 H.size M r54 hgr54) wd2_207 wd2_209 wd0_26 wd1_2 wd2_210 yd_X1_restToTell rfl rfl (Nat.le_of_ble_eq_true rfl) hl.1 ⟨Nat.le_trans (Nat.le_of_ble_eq_true rfl) hR.1, Nat.le_trans (Nat.le_of_ble_eq_true rfl) hR.2.1⟩ ⟨Nat.le_trans (Nat.le_of_ble_eq_true rfl) hR.2.2.1, Nat.le_trans (Nat.le_of_ble_eq_true rfl) hR.2.2.2⟩ dX1_speak_13) (fun H locs hw => ?_)
  refine lv_istore (lv' := [(5, .int r54), (4, .int r53), (0, .ref (ad o)), (1, .int p1), (2, .int p2), (3, .int p3)]) hx hb dX1_speak_16 hl (by decide) rfl (fun ls hl => ?_)
  refine lv_aload_n hx hb dX1_speak_18 rfl (lv_at hl 2 rfl) ?_
  refine gX1_get fx hw ho.O 1 (by decide) wd1_38 rfl dX1_speak_19 ?_
  refine lv_iload_n hx hb dX1_speak_22 rfl (lv_at hl 3 rfl) ?_
  obtain ⟨hi55, hF⟩ := st_chk hF
  refine g_iald fx hw ho.a2 hi55 dX1_speak_23 ?_
  refine lv_iload hx hb dX1_speak_24 (lv_at hl 0 rfl) ?_
  obtain ⟨r56, hgr56, hF⟩ := st_bnd hF
  refine g_ci hw (g_runS (As := [.int (M (o + 2) (ix p1)), .int r54]) (rest := []) fx hw (c_X1_fastFor l x D cy ad (M (o + 2) (ix p1)) r54 H.size M r56 hgr56) wd2_214 wd2_215 wd1_2 wd2_216 yd_X1_fastFor rfl rfl (Nat.le_of_ble_eq_true rfl) hl.1 ⟨Nat.le_trans (Nat.le_of_ble_eq_true rfl) hR.1, Nat.le_trans (Nat.le_of_ble_eq_true rfl) hR.2.1⟩ ⟨Nat.le_trans (Nat.le_of_ble_eq_true rfl) hR.2.2.1, Nat.le_trans (Nat.le_of_ble_eq_true rfl) hR.2.2.2⟩ dX1_speak_26) (fun H locs hw => ?_)
  refine lv_istore (lv' := [(6, .int r56), (5, .int r54), (4, .int r53), (0, .ref (ad o)), (1, .int p1), (2, .int p2), (3, .int p3)]) hx hb dX1_speak_29 hl (by decide) rfl (fun ls hl => ?_)
  refine lv_aload_n hx hb dX1_speak_31 rfl (lv_at hl 3 rfl) ?_
  refine gX1_get fx hw ho.O 4 (by decide) wd1_44 rfl dX1_speak_32 ?_
  refine lv_iload_n hx hb dX1_speak_35 rfl (lv_at hl 4 rfl) ?_
  refine lv_dup2_11 hx hb dX1_speak_36 rfl rfl ?_
  obtain ⟨hi57, hF⟩ := st_chk hF
  refine g_iald fx hw ho.a5 hi57 dX1_speak_37 ?_
  refine lv_iload hx hb dX1_speak_38 (lv_at hl 2 rfl) ?_
  refine lv_isub hx hb dX1_speak_40 ?_
  obtain ⟨hi59, hF⟩ := st_chk hF
  obtain ⟨M58, eM58, hF⟩ := st_letM hF
  refine g_iast fx hw ho.a5 hi59 eM58 dX1_speak_41 (fun H locs hw => ?_)
  refine lv_aload_n hx hb dX1_speak_42 rfl (lv_at hl 3 rfl) ?_
  refine gX1_get fx hw ho.O 5 (by decide) wd1_46 rfl dX1_speak_43 ?_
  refine lv_iload_n hx hb dX1_speak_46 rfl (lv_at hl 4 rfl) ?_
  refine lv_dup2_11 hx hb dX1_speak_47 rfl rfl ?_
  obtain ⟨hi60, hF⟩ := st_chk hF
  refine g_iald fx hw ho.a6 hi60 dX1_speak_48 ?_
  refine lv_iload hx hb dX1_speak_49 (lv_at hl 0 rfl) ?_
  refine lv_iadd hx hb dX1_speak_51 ?_
  obtain ⟨hi62, hF⟩ := st_chk hF
  obtain ⟨M61, eM61, hF⟩ := st_letM hF
  refine g_iast fx hw ho.a6 hi62 eM61 dX1_speak_52 (fun H locs hw => ?_)
  refine lv_aload_n hx hb dX1_speak_53 rfl (lv_at hl 3 rfl) ?_
  refine lv_dup hx hb dX1_speak_54 rfl ?_
  refine gX1_get fx hw ho.O 17 (by decide) wd1_74 rfl dX1_speak_55 ?_
  refine lv_aload_n hx hb dX1_speak_58 rfl (lv_at hl 3 rfl) ?_
  refine gX1_get fx hw ho.O 9 (by decide) wd1_54 rfl dX1_speak_59 ?_
  refine lv_iload_n hx hb dX1_speak_62 rfl (lv_at hl 5 rfl) ?_
  obtain ⟨hi63, hF⟩ := st_chk hF
  refine g_iald fx hw ho.a10 hi63 dX1_speak_63 ?_
  refine lv_iadd hx hb dX1_speak_64 ?_
  obtain ⟨M64, eM64, hF⟩ := st_letM hF
  refine gX1_put fx hw ho.O 17 (by decide) wd1_74 rfl eM64 rfl (Nat.le_of_ble_eq_true rfl) dX1_speak_65 (fun H locs hw => ?_)
  refine lv_aload_n hx hb dX1_speak_68 rfl (lv_at hl 3 rfl) ?_
  refine gX1_get fx hw ho.O 11 (by decide) wd1_59 rfl dX1_speak_69 ?_
  refine lv_iconst (v := 2) hx hb dX1_speak_72 (by decide) ?_
  refine lv_dup2_11 hx hb dX1_speak_73 rfl rfl ?_
  refine g_ialdc fx hw ho.a12 (k := 2) rfl (by decide) dX1_speak_74 ?_
  refine lv_iconst (v := 1) hx hb dX1_speak_75 (by decide) ?_
  refine lv_iadd hx hb dX1_speak_76 ?_
  obtain ⟨M65, eM65, hF⟩ := st_letM hF
  refine g_iastc fx hw ho.a12 (k := 2) rfl (by decide) eM65 dX1_speak_77 (fun H locs hw => ?_)
  refine lv_aload_n hx hb dX1_speak_78 rfl (lv_at hl 3 rfl) ?_
  refine gX1_get fx hw ho.O 11 (by decide) wd1_59 rfl dX1_speak_79 ?_
  refine lv_iconst (v := 4) hx hb dX1_speak_82 (by decide) ?_
  refine lv_dup2_11 hx hb dX1_speak_83 rfl rfl ?_
  refine g_ialdc fx hw ho.a12 (k := 4) rfl (by decide) dX1_speak_84 ?_
  refine lv_iload_n hx hb dX1_speak_85 rfl (lv_at hl 6 rfl) ?_
  refine lv_if_eq (tgt := 98) hx hb dX1_speak_86 (by decide) (fun hc86 => ?_) (fun hc86 => ?_)
  · replace hF := st_t hc86 hF
    refine lv_iconst (v := 0) hx hb dX1_speak_98 (by decide) ?_
    exact n_99 p1 r53 r54 r56 4 (M65 (o + 12) 4) 0 M65 H locs ls (lv_sub hl [3, 4, 2, 1, 0] rfl) hw hF
  · replace hF := st_f hc86 hF
    refine lv_aload_n hx hb dX1_speak_89 rfl (lv_at hl 3 rfl) ?_
    refine gX1_get fx hw ho.O 9 (by decide) wd1_54 rfl dX1_speak_90 ?_
    refine lv_iload_n hx hb dX1_speak_93 rfl (lv_at hl 5 rfl) ?_
    obtain ⟨hi66, hF⟩ := st_chk hF
    refine g_iald fx hw ho.a10 hi66 dX1_speak_94 ?_
    refine lv_goto (tgt := 99) hx hb dX1_speak_95 (by decide) ?_
    exact n_99 p1 r53 r54 r56 4 (M65 (o + 12) 4) (M65 (o + 10) (ix p2)) M65 H locs ls (lv_sub hl [3, 4, 2, 1, 0] rfl) hw hF
theorem c_X1_speak (l : Launch) (x : SX) (D : va_G) (cy : Nat → ClassId) (ad : Nat → Nat) (o : Nat) (ho : isH o) (p1 p2 p3 : Int32) (sz : Nat) (M : Mem) (z : Int32) (M' : Mem) (hF : f_X1_speak o p1 p2 p3 M = some (z, M')) : Met l yX1_speak (.code yX1_speak cX1_speak 7 (some .int) :: GB) ({ frames := 2, cells := 0, slots := 0, locals := 44 } : Room) (PcW D cy ad x sz M [.ref (ad o), .int p1, .int p2, .int p3]) (QiW D cy ad sz z M') 0 0 (AA ad sz) := by
  refine mk_m (own := RX1) (by decide) rfl (Nat.le_of_ble_eq_true rfl) ?_
  intro p e s m args below meth c ls fx hw hl hsz
  subst hsz
  exact b_X1_speak fx ⟨Nat.le_refl _, Nat.le_refl _, Nat.le_refl _, Nat.le_refl _⟩ o ho p1 p2 p3 M z M' hF (fun pc ls H locs v M1 hd hw h => by cases h; exact g_iret fx hw rfl hd) _ _ ls hl hw
noncomputable def f_X1_learnSign (o : Nat) (p1 p2 p3 : Int32) (M : Mem) : Option Mem := (chk (inB p1 12) (bnd (f_X1_isMember p3 (M (o + 3) (ix p1)) M) (fun r10 => (if r10 = 0 then (some M) else (chk (inB p2 12) (bnd (f_X1_isMember p3 (M (o + 3) (ix p2)) M) (fun r12 => (if r12 = 0 then (chk (inB p2 12) (chk (inB p2 12) (letM (mput M (o + 3) (ix p2) ((M (o + 3) (ix p2)) ||| (ishl 1 p3))) (fun M14 => (letM (mput M14 (o + 12) 13 ((M14 (o + 12) 13) + 1)) (fun M16 => (some M16))))))) else (some M)))))))))
set_option maxHeartbeats 4000000 in
set_option maxRecDepth 100000 in
theorem b_X1_learnSign {p : Program} {l : Launch} {e : Env} {R : Room} {s : State} {m : MethodId} {args : Array Value} {below : List Frame} {meth : Method} {c : Code} {Q : State → Prop} {D : va_G} {cy : Nat → ClassId} {ad : Nat → Nat} {x : SX} (fx : FX p s m args meth c cX1_learnSign 4 none RX1 D cy ad x) (hR : 1 ≤ R.frames ∧ 21 ≤ R.locals ∧ 0 ≤ R.cells ∧ 0 ≤ R.slots) (o : Nat) (ho : isH o) (p1 p2 p3 : Int32) (M : Mem) (M' : Mem) (hF : f_X1_learnSign o p1 p2 p3 M = some M') (E : ∀ (pc : Nat) (ls : Array Slot) (H : Heap) (locs : List Loc) (M1 : Mem), decode cX1_learnSign pc = .ok (.return_, 1) → WD D cy ad s M1 H locs → some M1 = some M' → W p l e R s m args below meth c H locs 0 0 Q (F0 m pc ls [])) (H : Heap) (locs : List Loc) (ls : Array Slot) (hl : lv_has ls 4 [(0, .ref (ad o)), (1, .int p1), (2, .int p2), (3, .int p3)]) (hw : WD D cy ad s M H locs) : W p l e R s m args below meth c H locs 0 0 Q (F0 m 0 ls []) := by
  have hx := fx.1.1
  have hb := fx.1.2.1
  have hown := fx.1.2.2.2.1
  have hts := fx.1.2.2.2.2
  unfold f_X1_learnSign at hF
  refine lv_iload_n hx hb dX1_learnSign_0 rfl (lv_at hl 3 rfl) ?_
  refine lv_aload_n hx hb dX1_learnSign_1 rfl (lv_at hl 0 rfl) ?_
  refine gX1_get fx hw ho.O 2 (by decide) wd1_40 rfl dX1_learnSign_2 ?_
  refine lv_iload_n hx hb dX1_learnSign_5 rfl (lv_at hl 1 rfl) ?_
  obtain ⟨hi9, hF⟩ := st_chk hF
  refine g_iald fx hw ho.a3 hi9 dX1_learnSign_6 ?_
  obtain ⟨r10, hgr10, hF⟩ := st_bnd hF
  refine g_cz hw (g_runS (As := [.int p3, .int (M (o + 3) (ix p1))]) (rest := []) fx hw (c_X1_isMember l x D cy ad p3 (M (o + 3) (ix p1)) H.size M r10 hgr10) wd2_157 wd2_126 wd1_2 wd2_127 yd_X1_isMember rfl rfl (Nat.le_of_ble_eq_true rfl) hl.1 ⟨Nat.le_trans (Nat.le_of_ble_eq_true rfl) hR.1, Nat.le_trans (Nat.le_of_ble_eq_true rfl) hR.2.1⟩ ⟨Nat.le_trans (Nat.le_of_ble_eq_true rfl) hR.2.2.1, Nat.le_trans (Nat.le_of_ble_eq_true rfl) hR.2.2.2⟩ dX1_learnSign_7) (fun H locs hbr10 hw => ?_)
  refine lv_if_eq (tgt := 49) hx hb dX1_learnSign_10 (by decide) (fun hc10 => ?_) (fun hc10 => ?_)
  · replace hF := st_t hc10 hF
    exact E _ _ _ _ _ dX1_learnSign_49 hw hF
  · replace hF := st_f hc10 hF
    refine lv_iload_n hx hb dX1_learnSign_13 rfl (lv_at hl 3 rfl) ?_
    refine lv_aload_n hx hb dX1_learnSign_14 rfl (lv_at hl 0 rfl) ?_
    refine gX1_get fx hw ho.O 2 (by decide) wd1_40 rfl dX1_learnSign_15 ?_
    refine lv_iload_n hx hb dX1_learnSign_18 rfl (lv_at hl 2 rfl) ?_
    obtain ⟨hi11, hF⟩ := st_chk hF
    refine g_iald fx hw ho.a3 hi11 dX1_learnSign_19 ?_
    obtain ⟨r12, hgr12, hF⟩ := st_bnd hF
    refine g_cz hw (g_runS (As := [.int p3, .int (M (o + 3) (ix p2))]) (rest := []) fx hw (c_X1_isMember l x D cy ad p3 (M (o + 3) (ix p2)) H.size M r12 hgr12) wd2_157 wd2_126 wd1_2 wd2_127 yd_X1_isMember rfl rfl (Nat.le_of_ble_eq_true rfl) hl.1 ⟨Nat.le_trans (Nat.le_of_ble_eq_true rfl) hR.1, Nat.le_trans (Nat.le_of_ble_eq_true rfl) hR.2.1⟩ ⟨Nat.le_trans (Nat.le_of_ble_eq_true rfl) hR.2.2.1, Nat.le_trans (Nat.le_of_ble_eq_true rfl) hR.2.2.2⟩ dX1_learnSign_20) (fun H locs hbr12 hw => ?_)
    refine lv_if_ne (tgt := 49) hx hb dX1_learnSign_23 (by decide) (fun hc23 => ?_) (fun hc23 => ?_)
    · replace hF := st_f hc23 hF
      exact E _ _ _ _ _ dX1_learnSign_49 hw hF
    · replace hF := st_t hc23 hF
      refine lv_aload_n hx hb dX1_learnSign_26 rfl (lv_at hl 0 rfl) ?_
      refine gX1_get fx hw ho.O 2 (by decide) wd1_40 rfl dX1_learnSign_27 ?_
      refine lv_iload_n hx hb dX1_learnSign_30 rfl (lv_at hl 2 rfl) ?_
      refine lv_dup2_11 hx hb dX1_learnSign_31 rfl rfl ?_
      obtain ⟨hi13, hF⟩ := st_chk hF
      refine g_iald fx hw ho.a3 hi13 dX1_learnSign_32 ?_
      refine lv_iconst (v := 1) hx hb dX1_learnSign_33 (by decide) ?_
      refine lv_iload_n hx hb dX1_learnSign_34 rfl (lv_at hl 3 rfl) ?_
      refine g_ishl hx hb dX1_learnSign_35 ?_
      refine lv_ior hx hb dX1_learnSign_36 ?_
      obtain ⟨hi15, hF⟩ := st_chk hF
      obtain ⟨M14, eM14, hF⟩ := st_letM hF
      refine g_iast fx hw ho.a3 hi15 eM14 dX1_learnSign_37 (fun H locs hw => ?_)
      refine lv_aload_n hx hb dX1_learnSign_38 rfl (lv_at hl 0 rfl) ?_
      refine gX1_get fx hw ho.O 11 (by decide) wd1_59 rfl dX1_learnSign_39 ?_
      refine lv_bipush (v := 13) hx hb dX1_learnSign_42 (by decide) ?_
      refine lv_dup2_11 hx hb dX1_learnSign_44 rfl rfl ?_
      refine g_ialdc fx hw ho.a12 (k := 13) rfl (by decide) dX1_learnSign_45 ?_
      refine lv_iconst (v := 1) hx hb dX1_learnSign_46 (by decide) ?_
      refine lv_iadd hx hb dX1_learnSign_47 ?_
      obtain ⟨M16, eM16, hF⟩ := st_letM hF
      refine g_iastc fx hw ho.a12 (k := 13) rfl (by decide) eM16 dX1_learnSign_48 (fun H locs hw => ?_)
      exact E _ _ _ _ _ dX1_learnSign_49 hw hF
theorem c_X1_learnSign (l : Launch) (x : SX) (D : va_G) (cy : Nat → ClassId) (ad : Nat → Nat) (o : Nat) (ho : isH o) (p1 p2 p3 : Int32) (sz : Nat) (M : Mem) (M' : Mem) (hF : f_X1_learnSign o p1 p2 p3 M = some M') : Met l yX1_learnSign (.code yX1_learnSign cX1_learnSign 4 none :: GB) ({ frames := 1, cells := 0, slots := 0, locals := 21 } : Room) (PcW D cy ad x sz M [.ref (ad o), .int p1, .int p2, .int p3]) (QvW D cy ad sz M') 0 0 (AA ad sz) := by
  refine mk_m (own := RX1) (by decide) rfl (Nat.le_of_ble_eq_true rfl) ?_
  intro p e s m args below meth c ls fx hw hl hsz
  subst hsz
  exact b_X1_learnSign fx ⟨Nat.le_refl _, Nat.le_refl _, Nat.le_refl _, Nat.le_refl _⟩ o ho p1 p2 p3 M M' hF (fun pc ls H locs M1 hd hw h => by cases h; exact g_vret fx hw hd) _ _ ls hl hw
noncomputable def f_X1_meetWant (o : Nat) (p1 p2 p3 : Int32) (M : Mem) : Option Mem := (chk (inB p1 12) (bnd (f_X1_isMember p3 (M (o + 4) (ix p1)) M) (fun r10 => (if r10 = 0 then (some M) else (chk (inB p2 12) (chk (inB p1 12) (if (M (o + 2) (ix p2)) < (M (o + 2) (ix p1)) then (some M) else (chk (inB p1 12) (chk (inB p1 12) (letM (mput M (o + 4) (ix p1) ((M (o + 4) (ix p1)) &&& ((ishl 1 p3) ^^^ (-1)))) (fun M14 => (letM (mput M14 (o + 12) 12 ((M14 (o + 12) 12) + 1)) (fun M16 => (some M16))))))))))))))
set_option maxHeartbeats 4000000 in
set_option maxRecDepth 100000 in
theorem b_X1_meetWant {p : Program} {l : Launch} {e : Env} {R : Room} {s : State} {m : MethodId} {args : Array Value} {below : List Frame} {meth : Method} {c : Code} {Q : State → Prop} {D : va_G} {cy : Nat → ClassId} {ad : Nat → Nat} {x : SX} (fx : FX p s m args meth c cX1_meetWant 4 none RX1 D cy ad x) (hR : 1 ≤ R.frames ∧ 21 ≤ R.locals ∧ 0 ≤ R.cells ∧ 0 ≤ R.slots) (o : Nat) (ho : isH o) (p1 p2 p3 : Int32) (M : Mem) (M' : Mem) (hF : f_X1_meetWant o p1 p2 p3 M = some M') (E : ∀ (pc : Nat) (ls : Array Slot) (H : Heap) (locs : List Loc) (M1 : Mem), decode cX1_meetWant pc = .ok (.return_, 1) → WD D cy ad s M1 H locs → some M1 = some M' → W p l e R s m args below meth c H locs 0 0 Q (F0 m pc ls [])) (H : Heap) (locs : List Loc) (ls : Array Slot) (hl : lv_has ls 4 [(0, .ref (ad o)), (1, .int p1), (2, .int p2), (3, .int p3)]) (hw : WD D cy ad s M H locs) : W p l e R s m args below meth c H locs 0 0 Q (F0 m 0 ls []) := by
  have hx := fx.1.1
  have hb := fx.1.2.1
  have hown := fx.1.2.2.2.1
  have hts := fx.1.2.2.2.2
  unfold f_X1_meetWant at hF
  refine lv_iload_n hx hb dX1_meetWant_0 rfl (lv_at hl 3 rfl) ?_
  refine lv_aload_n hx hb dX1_meetWant_1 rfl (lv_at hl 0 rfl) ?_
  refine gX1_get fx hw ho.O 3 (by decide) wd1_42 rfl dX1_meetWant_2 ?_
  refine lv_iload_n hx hb dX1_meetWant_5 rfl (lv_at hl 1 rfl) ?_
  obtain ⟨hi9, hF⟩ := st_chk hF
  refine g_iald fx hw ho.a4 hi9 dX1_meetWant_6 ?_
  obtain ⟨r10, hgr10, hF⟩ := st_bnd hF
  refine g_cz hw (g_runS (As := [.int p3, .int (M (o + 4) (ix p1))]) (rest := []) fx hw (c_X1_isMember l x D cy ad p3 (M (o + 4) (ix p1)) H.size M r10 hgr10) wd2_157 wd2_126 wd1_2 wd2_127 yd_X1_isMember rfl rfl (Nat.le_of_ble_eq_true rfl) hl.1 ⟨Nat.le_trans (Nat.le_of_ble_eq_true rfl) hR.1, Nat.le_trans (Nat.le_of_ble_eq_true rfl) hR.2.1⟩ ⟨Nat.le_trans (Nat.le_of_ble_eq_true rfl) hR.2.2.1, Nat.le_trans (Nat.le_of_ble_eq_true rfl) hR.2.2.2⟩ dX1_meetWant_7) (fun H locs hbr10 hw => ?_)
  refine lv_if_eq (tgt := 53) hx hb dX1_meetWant_10 (by decide) (fun hc10 => ?_) (fun hc10 => ?_)
  · replace hF := st_t hc10 hF
    exact E _ _ _ _ _ dX1_meetWant_53 hw hF
  · replace hF := st_f hc10 hF
    refine lv_aload_n hx hb dX1_meetWant_13 rfl (lv_at hl 0 rfl) ?_
    refine gX1_get fx hw ho.O 1 (by decide) wd1_38 rfl dX1_meetWant_14 ?_
    refine lv_iload_n hx hb dX1_meetWant_17 rfl (lv_at hl 2 rfl) ?_
    obtain ⟨hi11, hF⟩ := st_chk hF
    refine g_iald fx hw ho.a2 hi11 dX1_meetWant_18 ?_
    refine lv_aload_n hx hb dX1_meetWant_19 rfl (lv_at hl 0 rfl) ?_
    refine gX1_get fx hw ho.O 1 (by decide) wd1_38 rfl dX1_meetWant_20 ?_
    refine lv_iload_n hx hb dX1_meetWant_23 rfl (lv_at hl 1 rfl) ?_
    obtain ⟨hi12, hF⟩ := st_chk hF
    refine g_iald fx hw ho.a2 hi12 dX1_meetWant_24 ?_
    refine lv_icmp_lt (tgt := 53) hx hb dX1_meetWant_25 (by decide) (fun hc25 => ?_) (fun hc25 => ?_)
    · replace hF := st_t hc25 hF
      exact E _ _ _ _ _ dX1_meetWant_53 hw hF
    · replace hF := st_f hc25 hF
      refine lv_aload_n hx hb dX1_meetWant_28 rfl (lv_at hl 0 rfl) ?_
      refine gX1_get fx hw ho.O 3 (by decide) wd1_42 rfl dX1_meetWant_29 ?_
      refine lv_iload_n hx hb dX1_meetWant_32 rfl (lv_at hl 1 rfl) ?_
      refine lv_dup2_11 hx hb dX1_meetWant_33 rfl rfl ?_
      obtain ⟨hi13, hF⟩ := st_chk hF
      refine g_iald fx hw ho.a4 hi13 dX1_meetWant_34 ?_
      refine lv_iconst (v := 1) hx hb dX1_meetWant_35 (by decide) ?_
      refine lv_iload_n hx hb dX1_meetWant_36 rfl (lv_at hl 3 rfl) ?_
      refine g_ishl hx hb dX1_meetWant_37 ?_
      refine lv_iconst (v := (-1)) hx hb dX1_meetWant_38 (by decide) ?_
      refine lv_ixor hx hb dX1_meetWant_39 ?_
      refine lv_iand hx hb dX1_meetWant_40 ?_
      obtain ⟨hi15, hF⟩ := st_chk hF
      obtain ⟨M14, eM14, hF⟩ := st_letM hF
      refine g_iast fx hw ho.a4 hi15 eM14 dX1_meetWant_41 (fun H locs hw => ?_)
      refine lv_aload_n hx hb dX1_meetWant_42 rfl (lv_at hl 0 rfl) ?_
      refine gX1_get fx hw ho.O 11 (by decide) wd1_59 rfl dX1_meetWant_43 ?_
      refine lv_bipush (v := 12) hx hb dX1_meetWant_46 (by decide) ?_
      refine lv_dup2_11 hx hb dX1_meetWant_48 rfl rfl ?_
      refine g_ialdc fx hw ho.a12 (k := 12) rfl (by decide) dX1_meetWant_49 ?_
      refine lv_iconst (v := 1) hx hb dX1_meetWant_50 (by decide) ?_
      refine lv_iadd hx hb dX1_meetWant_51 ?_
      obtain ⟨M16, eM16, hF⟩ := st_letM hF
      refine g_iastc fx hw ho.a12 (k := 12) rfl (by decide) eM16 dX1_meetWant_52 (fun H locs hw => ?_)
      exact E _ _ _ _ _ dX1_meetWant_53 hw hF
theorem c_X1_meetWant (l : Launch) (x : SX) (D : va_G) (cy : Nat → ClassId) (ad : Nat → Nat) (o : Nat) (ho : isH o) (p1 p2 p3 : Int32) (sz : Nat) (M : Mem) (M' : Mem) (hF : f_X1_meetWant o p1 p2 p3 M = some M') : Met l yX1_meetWant (.code yX1_meetWant cX1_meetWant 4 none :: GB) ({ frames := 1, cells := 0, slots := 0, locals := 21 } : Room) (PcW D cy ad x sz M [.ref (ad o), .int p1, .int p2, .int p3]) (QvW D cy ad sz M') 0 0 (AA ad sz) := by
  refine mk_m (own := RX1) (by decide) rfl (Nat.le_of_ble_eq_true rfl) ?_
  intro p e s m args below meth c ls fx hw hl hsz
  subst hsz
  exact b_X1_meetWant fx ⟨Nat.le_refl _, Nat.le_refl _, Nat.le_refl _, Nat.le_refl _⟩ o ho p1 p2 p3 M M' hF (fun pc ls H locs M1 hd hw h => by cases h; exact g_vret fx hw hd) _ _ ls hl hw
noncomputable def f_X1_tellNeed_77 (o : Nat) : Int32 → Int32 → Int32 → Int32 → Mem → Option (Int32 × Mem) := fun a1 a2 a3 a5 M => (bnd (f_X1_meetWant o a1 a2 a3 M) (fun M28 => (some (a5, M28))))
noncomputable def f_X1_tellNeed_68 (o : Nat) : Int32 → Int32 → Int32 → Int32 → Mem → Option (Int32 × Mem) := fun a1 a2 a3 t0 M => (bnd (f_X1_learnSign o a1 a2 a3 M) (fun M30 => ((f_X1_tellNeed_77 o) a1 a2 a3 t0 M30)))
noncomputable def f_X1_tellNeed (o : Nat) (p1 p2 p3 p4 : Int32) (M : Mem) : Option (Int32 × Mem) := (if p4 = 0 then (letM (mput M (o + 12) 0 ((M (o + 12) 0) + 1)) (fun M36 => (chk (inB p1 12) (chk (inB p2 12) (bnd (f_J6_bitCount_0f7a4 ((M36 (o + 3) (ix p1)) &&& (M36 (o + 3) (ix p2))) M36) (fun r39 => ((f_X1_tellNeed_77 o) p1 p2 p3 r39 M36))))))) else (if p4 = 1 then (bnd2 (f_X1_writeSlip o p1 p3 M) (fun r34 M35 => ((f_X1_tellNeed_68 o) p1 p2 p3 r34 M35))) else (bnd (f_X1_isSpeechAt o (irem (M o 16) 24) M) (fun r31 => (bnd2 (f_X1_speak o p1 p3 r31 M) (fun r32 M33 => ((f_X1_tellNeed_68 o) p1 p2 p3 r32 M33)))))))
set_option maxHeartbeats 4000000 in
set_option maxRecDepth 100000 in
theorem b_X1_tellNeed {p : Program} {l : Launch} {e : Env} {R : Room} {s : State} {m : MethodId} {args : Array Value} {below : List Frame} {meth : Method} {c : Code} {Q : State → Prop} {D : va_G} {cy : Nat → ClassId} {ad : Nat → Nat} {x : SX} (fx : FX p s m args meth c cX1_tellNeed 6 (some .int) RX1 D cy ad x) (hR : 3 ≤ R.frames ∧ 70 ≤ R.locals ∧ 0 ≤ R.cells ∧ 0 ≤ R.slots) (o : Nat) (ho : isH o) (p1 p2 p3 p4 : Int32) (M : Mem) (z : Int32) (M' : Mem) (hF : f_X1_tellNeed o p1 p2 p3 p4 M = some (z, M')) (E : ∀ (pc : Nat) (ls : Array Slot) (H : Heap) (locs : List Loc) (v : Int32) (M1 : Mem), decode cX1_tellNeed pc = .ok (.ireturn, 1) → WD D cy ad s M1 H locs → some (v, M1) = some (z, M') → W p l e R s m args below meth c H locs 0 0 Q (F0 m pc ls [.int v])) (H : Heap) (locs : List Loc) (ls : Array Slot) (hl : lv_has ls 6 [(0, .ref (ad o)), (1, .int p1), (2, .int p2), (3, .int p3), (4, .int p4)]) (hw : WD D cy ad s M H locs) : W p l e R s m args below meth c H locs 0 0 Q (F0 m 0 ls []) := by
  have hx := fx.1.1
  have hb := fx.1.2.1
  have hown := fx.1.2.2.2.1
  have hts := fx.1.2.2.2.2
  have n_77 : ∀ (a1 : Int32) (a2 : Int32) (a3 : Int32) (a5 : Int32) (M : Mem) (H : Heap) (locs : List Loc) (ls : Array Slot), lv_has ls 6 [(0, .ref (ad o)), (1, .int a1), (2, .int a2), (3, .int a3), (5, .int a5)] → WD D cy ad s M H locs → f_X1_tellNeed_77 o a1 a2 a3 a5 M = some (z, M') → W p l e R s m args below meth c H locs 0 0 Q (F0 m 77 ls []) := by
    intro a1 a2 a3 a5 M H locs ls hl hw hF
    unfold f_X1_tellNeed_77 at hF
    refine lv_aload_n hx hb dX1_tellNeed_77 rfl (lv_at hl 0 rfl) ?_
    refine lv_iload_n hx hb dX1_tellNeed_78 rfl (lv_at hl 1 rfl) ?_
    refine lv_iload_n hx hb dX1_tellNeed_79 rfl (lv_at hl 2 rfl) ?_
    refine lv_iload_n hx hb dX1_tellNeed_80 rfl (lv_at hl 3 rfl) ?_
    obtain ⟨M28, hgr27, hF⟩ := st_bnd hF
    refine g_cv hw (g_runV (C := RX1) (As := [.int a1, .int a2, .int a3]) (rest := []) fx hw ho.O rfl (c_X1_meetWant l x D cy ad o ho a1 a2 a3 H.size M M28 hgr27) wd2_238 wd3_0 wd0_31 wd1_2 wd3_1 yd_X1_meetWant rfl rfl (Nat.le_of_ble_eq_true rfl) hl.1 ⟨Nat.le_trans (Nat.le_of_ble_eq_true rfl) hR.1, Nat.le_trans (Nat.le_of_ble_eq_true rfl) hR.2.1⟩ ⟨Nat.le_trans (Nat.le_of_ble_eq_true rfl) hR.2.2.1, Nat.le_trans (Nat.le_of_ble_eq_true rfl) hR.2.2.2⟩ dX1_tellNeed_81) (fun H locs hw => ?_)
    refine lv_iload hx hb dX1_tellNeed_84 (lv_at hl 4 rfl) ?_
    exact E _ _ _ _ _ _ dX1_tellNeed_86 hw hF
  have n_68 : ∀ (a1 : Int32) (a2 : Int32) (a3 : Int32) (t0 : Int32) (M : Mem) (H : Heap) (locs : List Loc) (ls : Array Slot), lv_has ls 6 [(0, .ref (ad o)), (1, .int a1), (2, .int a2), (3, .int a3)] → WD D cy ad s M H locs → f_X1_tellNeed_68 o a1 a2 a3 t0 M = some (z, M') → W p l e R s m args below meth c H locs 0 0 Q (F0 m 68 ls [.int t0]) := by
    intro a1 a2 a3 t0 M H locs ls hl hw hF
    unfold f_X1_tellNeed_68 at hF
    refine lv_istore (lv' := [(5, .int t0), (0, .ref (ad o)), (1, .int a1), (2, .int a2), (3, .int a3)]) hx hb dX1_tellNeed_68 hl (by decide) rfl (fun ls hl => ?_)
    refine lv_aload_n hx hb dX1_tellNeed_70 rfl (lv_at hl 1 rfl) ?_
    refine lv_iload_n hx hb dX1_tellNeed_71 rfl (lv_at hl 2 rfl) ?_
    refine lv_iload_n hx hb dX1_tellNeed_72 rfl (lv_at hl 3 rfl) ?_
    refine lv_iload_n hx hb dX1_tellNeed_73 rfl (lv_at hl 4 rfl) ?_
    obtain ⟨M30, hgr29, hF⟩ := st_bnd hF
    refine g_cv hw (g_runV (C := RX1) (As := [.int a1, .int a2, .int a3]) (rest := []) fx hw ho.O rfl (c_X1_learnSign l x D cy ad o ho a1 a2 a3 H.size M M30 hgr29) wd2_234 wd2_236 wd0_30 wd1_2 wd2_237 yd_X1_learnSign rfl rfl (Nat.le_of_ble_eq_true rfl) hl.1 ⟨Nat.le_trans (Nat.le_of_ble_eq_true rfl) hR.1, Nat.le_trans (Nat.le_of_ble_eq_true rfl) hR.2.1⟩ ⟨Nat.le_trans (Nat.le_of_ble_eq_true rfl) hR.2.2.1, Nat.le_trans (Nat.le_of_ble_eq_true rfl) hR.2.2.2⟩ dX1_tellNeed_74) (fun H locs hw => ?_)
    exact n_77 a1 a2 a3 t0 M30 H locs ls (lv_sub hl [1, 2, 3, 4, 0] rfl) hw hF
  unfold f_X1_tellNeed at hF
  refine lv_iload hx hb dX1_tellNeed_0 (lv_at hl 4 rfl) ?_
  refine lv_if_ne (tgt := 36) hx hb dX1_tellNeed_2 (by decide) (fun hc2 => ?_) (fun hc2 => ?_)
  · replace hF := st_f hc2 hF
    refine lv_iload hx hb dX1_tellNeed_36 (lv_at hl 4 rfl) ?_
    refine lv_iconst (v := 1) hx hb dX1_tellNeed_38 (by decide) ?_
    refine lv_icmp_ne (tgt := 51) hx hb dX1_tellNeed_39 (by decide) (fun hc39 => ?_) (fun hc39 => ?_)
    · replace hF := st_f hc39 hF
      refine lv_aload_n hx hb dX1_tellNeed_51 rfl (lv_at hl 0 rfl) ?_
      refine lv_iload_n hx hb dX1_tellNeed_52 rfl (lv_at hl 1 rfl) ?_
      refine lv_iload_n hx hb dX1_tellNeed_53 rfl (lv_at hl 3 rfl) ?_
      refine lv_aload_n hx hb dX1_tellNeed_54 rfl (lv_at hl 0 rfl) ?_
      refine lv_aload_n hx hb dX1_tellNeed_55 rfl (lv_at hl 0 rfl) ?_
      refine gX1_get fx hw ho.O 16 (by decide) wd1_72 rfl dX1_tellNeed_56 ?_
      refine lv_bipush (v := 24) hx hb dX1_tellNeed_59 (by decide) ?_
      refine g_irem hx hb dX1_tellNeed_61 (by decide) ?_
      obtain ⟨r31, hgr31, hF⟩ := st_bnd hF
      refine g_cz hw (g_runV (C := RX1) (As := [.int (irem (M o 16) 24)]) (rest := [.int p3, .int p1, .ref (ad o)]) fx hw ho.O rfl (c_X1_isSpeechAt l x D cy ad o ho (irem (M o 16) 24) H.size M r31 hgr31) wd2_195 wd2_196 wd2_197 wd1_2 wd2_198 yd_X1_isSpeechAt rfl rfl (Nat.le_of_ble_eq_true rfl) hl.1 ⟨Nat.le_trans (Nat.le_of_ble_eq_true rfl) hR.1, Nat.le_trans (Nat.le_of_ble_eq_true rfl) hR.2.1⟩ ⟨Nat.le_trans (Nat.le_of_ble_eq_true rfl) hR.2.2.1, Nat.le_trans (Nat.le_of_ble_eq_true rfl) hR.2.2.2⟩ dX1_tellNeed_62) (fun H locs hbr31 hw => ?_)
      obtain ⟨r32, M33, hgr32, hF⟩ := st_bnd2 hF
      refine g_ci hw (g_runV (C := RX1) (As := [.int p1, .int p3, .int r31]) (rest := []) fx hw ho.O rfl (c_X1_speak l x D cy ad o ho p1 p3 r31 H.size M r32 M33 hgr32) wd2_225 wd2_227 wd0_28 wd1_2 wd2_228 yd_X1_speak rfl rfl (Nat.le_of_ble_eq_true rfl) hl.1 ⟨Nat.le_trans (Nat.le_of_ble_eq_true rfl) hR.1, Nat.le_trans (Nat.le_of_ble_eq_true rfl) hR.2.1⟩ ⟨Nat.le_trans (Nat.le_of_ble_eq_true rfl) hR.2.2.1, Nat.le_trans (Nat.le_of_ble_eq_true rfl) hR.2.2.2⟩ dX1_tellNeed_65) (fun H locs hw => ?_)
      exact n_68 p1 p2 p3 r32 M33 H locs ls (lv_sub hl [0, 1, 2, 3] rfl) hw hF
    · replace hF := st_t hc39 hF
      refine lv_aload_n hx hb dX1_tellNeed_42 rfl (lv_at hl 0 rfl) ?_
      refine lv_iload_n hx hb dX1_tellNeed_43 rfl (lv_at hl 1 rfl) ?_
      refine lv_iload_n hx hb dX1_tellNeed_44 rfl (lv_at hl 3 rfl) ?_
      obtain ⟨r34, M35, hgr34, hF⟩ := st_bnd2 hF
      refine g_ci hw (g_runV (C := RX1) (As := [.int p1, .int p3]) (rest := []) fx hw ho.O rfl (c_X1_writeSlip l x D cy ad o ho p1 p3 H.size M r34 M35 hgr34) wd2_221 wd2_223 wd0_27 wd1_2 wd2_224 yd_X1_writeSlip rfl rfl (Nat.le_of_ble_eq_true rfl) hl.1 ⟨Nat.le_trans (Nat.le_of_ble_eq_true rfl) hR.1, Nat.le_trans (Nat.le_of_ble_eq_true rfl) hR.2.1⟩ ⟨Nat.le_trans (Nat.le_of_ble_eq_true rfl) hR.2.2.1, Nat.le_trans (Nat.le_of_ble_eq_true rfl) hR.2.2.2⟩ dX1_tellNeed_45) (fun H locs hw => ?_)
      refine lv_goto (tgt := 68) hx hb dX1_tellNeed_48 (by decide) ?_
      exact n_68 p1 p2 p3 r34 M35 H locs ls (lv_sub hl [0, 1, 2, 3] rfl) hw hF
  · replace hF := st_t hc2 hF
    refine lv_aload_n hx hb dX1_tellNeed_5 rfl (lv_at hl 0 rfl) ?_
    refine gX1_get fx hw ho.O 11 (by decide) wd1_59 rfl dX1_tellNeed_6 ?_
    refine lv_iconst (v := 0) hx hb dX1_tellNeed_9 (by decide) ?_
    refine lv_dup2_11 hx hb dX1_tellNeed_10 rfl rfl ?_
    refine g_ialdc fx hw ho.a12 (k := 0) rfl (by decide) dX1_tellNeed_11 ?_
    refine lv_iconst (v := 1) hx hb dX1_tellNeed_12 (by decide) ?_
    refine lv_iadd hx hb dX1_tellNeed_13 ?_
    obtain ⟨M36, eM36, hF⟩ := st_letM hF
    refine g_iastc fx hw ho.a12 (k := 0) rfl (by decide) eM36 dX1_tellNeed_14 (fun H locs hw => ?_)
    refine lv_aload_n hx hb dX1_tellNeed_15 rfl (lv_at hl 0 rfl) ?_
    refine gX1_get fx hw ho.O 2 (by decide) wd1_40 rfl dX1_tellNeed_16 ?_
    refine lv_iload_n hx hb dX1_tellNeed_19 rfl (lv_at hl 1 rfl) ?_
    obtain ⟨hi37, hF⟩ := st_chk hF
    refine g_iald fx hw ho.a3 hi37 dX1_tellNeed_20 ?_
    refine lv_aload_n hx hb dX1_tellNeed_21 rfl (lv_at hl 0 rfl) ?_
    refine gX1_get fx hw ho.O 2 (by decide) wd1_40 rfl dX1_tellNeed_22 ?_
    refine lv_iload_n hx hb dX1_tellNeed_25 rfl (lv_at hl 2 rfl) ?_
    obtain ⟨hi38, hF⟩ := st_chk hF
    refine g_iald fx hw ho.a3 hi38 dX1_tellNeed_26 ?_
    refine lv_iand hx hb dX1_tellNeed_27 ?_
    obtain ⟨r39, hgr39, hF⟩ := st_bnd hF
    refine g_ci hw (g_runS (As := [.int ((M36 (o + 3) (ix p1)) &&& (M36 (o + 3) (ix p2)))]) (rest := []) fx hw (c_J6_bitCount_0f7a4 l x D cy ad ((M36 (o + 3) (ix p1)) &&& (M36 (o + 3) (ix p2))) H.size M36 r39 hgr39) wd2_166 wd2_167 wd1_18 wd2_168 yd_J6_bitCount_0f7a4 rfl rfl (Nat.le_of_ble_eq_true rfl) hl.1 ⟨Nat.le_trans (Nat.le_of_ble_eq_true rfl) hR.1, Nat.le_trans (Nat.le_of_ble_eq_true rfl) hR.2.1⟩ ⟨Nat.le_trans (Nat.le_of_ble_eq_true rfl) hR.2.2.1, Nat.le_trans (Nat.le_of_ble_eq_true rfl) hR.2.2.2⟩ dX1_tellNeed_28) (fun H locs hw => ?_)
    refine lv_istore (lv' := [(5, .int r39), (0, .ref (ad o)), (1, .int p1), (2, .int p2), (3, .int p3), (4, .int p4)]) hx hb dX1_tellNeed_31 hl (by decide) rfl (fun ls hl => ?_)
    refine lv_goto (tgt := 77) hx hb dX1_tellNeed_33 (by decide) ?_
    exact n_77 p1 p2 p3 r39 M36 H locs ls (lv_sub hl [1, 2, 3, 4, 0] rfl) hw hF
theorem c_X1_tellNeed (l : Launch) (x : SX) (D : va_G) (cy : Nat → ClassId) (ad : Nat → Nat) (o : Nat) (ho : isH o) (p1 p2 p3 p4 : Int32) (sz : Nat) (M : Mem) (z : Int32) (M' : Mem) (hF : f_X1_tellNeed o p1 p2 p3 p4 M = some (z, M')) : Met l yX1_tellNeed (.code yX1_tellNeed cX1_tellNeed 6 (some .int) :: GB) ({ frames := 3, cells := 0, slots := 0, locals := 70 } : Room) (PcW D cy ad x sz M [.ref (ad o), .int p1, .int p2, .int p3, .int p4]) (QiW D cy ad sz z M') 0 0 (AA ad sz) := by
  refine mk_m (own := RX1) (by decide) rfl (Nat.le_of_ble_eq_true rfl) ?_
  intro p e s m args below meth c ls fx hw hl hsz
  subst hsz
  exact b_X1_tellNeed fx ⟨Nat.le_refl _, Nat.le_refl _, Nat.le_refl _, Nat.le_refl _⟩ o ho p1 p2 p3 p4 M z M' hF (fun pc ls H locs v M1 hd hw h => by cases h; exact g_iret fx hw rfl hd) _ _ ls hl hw
noncomputable def f_X1_giveLeave (o : Nat) (p1 p2 p3 : Int32) (M : Mem) : Option (Int32 × Mem) := (chk (inB p2 12) (chk (inB p2 12) (letM (mput M (o + 5) (ix p2) ((M (o + 5) (ix p2)) + p3)) (fun M10 => (chk (inB p1 12) (chk (inB p1 12) (letM (mput M10 (o + 7) (ix p1) ((M10 (o + 7) (ix p1)) + p3)) (fun M13 => (letM (mput M13 (o + 12) 10 ((M13 (o + 12) 10) + p3)) (fun M15 => (chk (inB p2 12) (some ((M15 (o + 5) (ix p2)), M15)))))))))))))
set_option maxHeartbeats 4000000 in
set_option maxRecDepth 100000 in
theorem b_X1_giveLeave {p : Program} {l : Launch} {e : Env} {R : Room} {s : State} {m : MethodId} {args : Array Value} {below : List Frame} {meth : Method} {c : Code} {Q : State → Prop} {D : va_G} {cy : Nat → ClassId} {ad : Nat → Nat} {x : SX} (fx : FX p s m args meth c cX1_giveLeave 4 (some .int) RX1 D cy ad x) (hR : 0 ≤ R.frames ∧ 0 ≤ R.locals ∧ 0 ≤ R.cells ∧ 0 ≤ R.slots) (o : Nat) (ho : isH o) (p1 p2 p3 : Int32) (M : Mem) (z : Int32) (M' : Mem) (hF : f_X1_giveLeave o p1 p2 p3 M = some (z, M')) (E : ∀ (pc : Nat) (ls : Array Slot) (H : Heap) (locs : List Loc) (v : Int32) (M1 : Mem), decode cX1_giveLeave pc = .ok (.ireturn, 1) → WD D cy ad s M1 H locs → some (v, M1) = some (z, M') → W p l e R s m args below meth c H locs 0 0 Q (F0 m pc ls [.int v])) (H : Heap) (locs : List Loc) (ls : Array Slot) (hl : lv_has ls 4 [(0, .ref (ad o)), (1, .int p1), (2, .int p2), (3, .int p3)]) (hw : WD D cy ad s M H locs) : W p l e R s m args below meth c H locs 0 0 Q (F0 m 0 ls []) := by
  have hx := fx.1.1
  have hb := fx.1.2.1
  have hown := fx.1.2.2.2.1
  have hts := fx.1.2.2.2.2
  unfold f_X1_giveLeave at hF
  refine lv_aload_n hx hb dX1_giveLeave_0 rfl (lv_at hl 0 rfl) ?_
  refine gX1_get fx hw ho.O 4 (by decide) wd1_44 rfl dX1_giveLeave_1 ?_
  refine lv_iload_n hx hb dX1_giveLeave_4 rfl (lv_at hl 2 rfl) ?_
  refine lv_dup2_11 hx hb dX1_giveLeave_5 rfl rfl ?_
  obtain ⟨hi9, hF⟩ := st_chk hF
  refine g_iald fx hw ho.a5 hi9 dX1_giveLeave_6 ?_
  refine lv_iload_n hx hb dX1_giveLeave_7 rfl (lv_at hl 3 rfl) ?_
  refine lv_iadd hx hb dX1_giveLeave_8 ?_
  obtain ⟨hi11, hF⟩ := st_chk hF
  obtain ⟨M10, eM10, hF⟩ := st_letM hF
  refine g_iast fx hw ho.a5 hi11 eM10 dX1_giveLeave_9 (fun H locs hw => ?_)
  refine lv_aload_n hx hb dX1_giveLeave_10 rfl (lv_at hl 0 rfl) ?_
  refine gX1_get fx hw ho.O 6 (by decide) wd1_48 rfl dX1_giveLeave_11 ?_
  refine lv_iload_n hx hb dX1_giveLeave_14 rfl (lv_at hl 1 rfl) ?_
  refine lv_dup2_11 hx hb dX1_giveLeave_15 rfl rfl ?_
  obtain ⟨hi12, hF⟩ := st_chk hF
  refine g_iald fx hw ho.a7 hi12 dX1_giveLeave_16 ?_
  refine lv_iload_n hx hb dX1_giveLeave_17 rfl (lv_at hl 3 rfl) ?_
  refine lv_iadd hx hb dX1_giveLeave_18 ?_
  obtain ⟨hi14, hF⟩ := st_chk hF
  obtain ⟨M13, eM13, hF⟩ := st_letM hF
  refine g_iast fx hw ho.a7 hi14 eM13 dX1_giveLeave_19 (fun H locs hw => ?_)
  refine lv_aload_n hx hb dX1_giveLeave_20 rfl (lv_at hl 0 rfl) ?_
  refine gX1_get fx hw ho.O 11 (by decide) wd1_59 rfl dX1_giveLeave_21 ?_
  refine lv_bipush (v := 10) hx hb dX1_giveLeave_24 (by decide) ?_
  refine lv_dup2_11 hx hb dX1_giveLeave_26 rfl rfl ?_
  refine g_ialdc fx hw ho.a12 (k := 10) rfl (by decide) dX1_giveLeave_27 ?_
  refine lv_iload_n hx hb dX1_giveLeave_28 rfl (lv_at hl 3 rfl) ?_
  refine lv_iadd hx hb dX1_giveLeave_29 ?_
  obtain ⟨M15, eM15, hF⟩ := st_letM hF
  refine g_iastc fx hw ho.a12 (k := 10) rfl (by decide) eM15 dX1_giveLeave_30 (fun H locs hw => ?_)
  refine lv_aload_n hx hb dX1_giveLeave_31 rfl (lv_at hl 0 rfl) ?_
  refine gX1_get fx hw ho.O 4 (by decide) wd1_44 rfl dX1_giveLeave_32 ?_
  refine lv_iload_n hx hb dX1_giveLeave_35 rfl (lv_at hl 2 rfl) ?_
  obtain ⟨hi16, hF⟩ := st_chk hF
  refine g_iald fx hw ho.a5 hi16 dX1_giveLeave_36 ?_
  exact E _ _ _ _ _ _ dX1_giveLeave_37 hw hF
theorem c_X1_giveLeave (l : Launch) (x : SX) (D : va_G) (cy : Nat → ClassId) (ad : Nat → Nat) (o : Nat) (ho : isH o) (p1 p2 p3 : Int32) (sz : Nat) (M : Mem) (z : Int32) (M' : Mem) (hF : f_X1_giveLeave o p1 p2 p3 M = some (z, M')) : Met l yX1_giveLeave (.code yX1_giveLeave cX1_giveLeave 4 (some .int) :: GB) ({ frames := 0, cells := 0, slots := 0, locals := 0 } : Room) (PcW D cy ad x sz M [.ref (ad o), .int p1, .int p2, .int p3]) (QiW D cy ad sz z M') 0 0 (AA ad sz) := by
  refine mk_m (own := RX1) (by decide) rfl (Nat.le_of_ble_eq_true rfl) ?_
  intro p e s m args below meth c ls fx hw hl hsz
  subst hsz
  exact b_X1_giveLeave fx ⟨Nat.le_refl _, Nat.le_refl _, Nat.le_refl _, Nat.le_refl _⟩ o ho p1 p2 p3 M z M' hF (fun pc ls H locs v M1 hd hw h => by cases h; exact g_iret fx hw rfl hd) _ _ ls hl hw
noncomputable def f_X1_endDay_72 (o : Nat) (rec2 : Int32 → Mem → Option Mem) : Int32 → Mem → Option Mem := fun a1 M => (chk (inB a1 12) (letM (mput M (o + 7) (ix a1) 0) (fun M25 => (chk (inB a1 12) (letM (mput M25 (o + 8) (ix a1) 0) (fun M27 => (rec2 (a1 + 1) M27)))))))
noncomputable def f_X1_endDay_2 (o : Nat) (rec2 : Int32 → Mem → Option Mem) : Int32 → Mem → Option Mem := fun a1 M => (if (M o 12) ≤ a1 then (some M) else (chk (inB a1 12) (letM (mput M (o + 12) 11 ((M (o + 12) 11) + (M (o + 5) (ix a1)))) (fun M30 => (chk (inB a1 12) (letM (mput M30 (o + 5) (ix a1) 0) (fun M31 => (chk (inB a1 12) (if (M31 (o + 8) (ix a1)) = 0 then (chk (inB a1 12) (if (M31 (o + 6) (ix a1)) ≤ 0 then ((f_X1_endDay_72 o rec2) a1 M31) else (chk (inB a1 12) (chk (inB a1 12) (letM (mput M31 (o + 6) (ix a1) ((M31 (o + 6) (ix a1)) - 1)) (fun M36 => (letM (mput M36 (o + 12) 9 ((M36 (o + 12) 9) + 1)) (fun M38 => ((f_X1_endDay_72 o rec2) a1 M38))))))))) else ((f_X1_endDay_72 o rec2) a1 M31))))))))))
noncomputable def f_X1_endDay (o : Nat) (M : Mem) : Option Mem := ((lp (fun _ _ => none) (f_X1_endDay_2 o) FU) 0 M)
set_option maxHeartbeats 4000000 in
set_option maxRecDepth 100000 in
theorem b_X1_endDay {p : Program} {l : Launch} {e : Env} {R : Room} {s : State} {m : MethodId} {args : Array Value} {below : List Frame} {meth : Method} {c : Code} {Q : State → Prop} {D : va_G} {cy : Nat → ClassId} {ad : Nat → Nat} {x : SX} (fx : FX p s m args meth c cX1_endDay 2 none RX1 D cy ad x) (hR : 0 ≤ R.frames ∧ 0 ≤ R.locals ∧ 0 ≤ R.cells ∧ 0 ≤ R.slots) (o : Nat) (ho : isH o) (M : Mem) (M' : Mem) (hF : f_X1_endDay o M = some M') (E : ∀ (pc : Nat) (ls : Array Slot) (H : Heap) (locs : List Loc) (M1 : Mem), decode cX1_endDay pc = .ok (.return_, 1) → WD D cy ad s M1 H locs → some M1 = some M' → W p l e R s m args below meth c H locs 0 0 Q (F0 m pc ls [])) (H : Heap) (locs : List Loc) (ls : Array Slot) (hl : lv_has ls 2 [(0, .ref (ad o))]) (hw : WD D cy ad s M H locs) : W p l e R s m args below meth c H locs 0 0 Q (F0 m 0 ls []) := by
  have hx := fx.1.1
  have hb := fx.1.2.1
  have hown := fx.1.2.2.2.1
  have hts := fx.1.2.2.2.2
  have n_72 : ∀ (rec2 : Int32 → Mem → Option Mem) (_ : ∀ (a1 : Int32) (M : Mem) (H : Heap) (locs : List Loc) (ls : Array Slot), lv_has ls 2 [(0, .ref (ad o)), (1, .int a1)] → WD D cy ad s M H locs → rec2 a1 M = some M' → W p l e R s m args below meth c H locs 0 0 Q (F0 m 2 ls [])) , ∀ (a1 : Int32) (M : Mem) (H : Heap) (locs : List Loc) (ls : Array Slot), lv_has ls 2 [(0, .ref (ad o)), (1, .int a1)] → WD D cy ad s M H locs → f_X1_endDay_72 o rec2 a1 M = some M' → W p l e R s m args below meth c H locs 0 0 Q (F0 m 72 ls []) := by
    intro rec2 hr2 a1 M H locs ls hl hw hF
    unfold f_X1_endDay_72 at hF
    refine lv_aload_n hx hb dX1_endDay_72 rfl (lv_at hl 0 rfl) ?_
    refine gX1_get fx hw ho.O 6 (by decide) wd1_48 rfl dX1_endDay_73 ?_
    refine lv_iload_n hx hb dX1_endDay_76 rfl (lv_at hl 1 rfl) ?_
    refine lv_iconst (v := 0) hx hb dX1_endDay_77 (by decide) ?_
    obtain ⟨hi26, hF⟩ := st_chk hF
    obtain ⟨M25, eM25, hF⟩ := st_letM hF
    refine g_iast fx hw ho.a7 hi26 eM25 dX1_endDay_78 (fun H locs hw => ?_)
    refine lv_aload_n hx hb dX1_endDay_79 rfl (lv_at hl 0 rfl) ?_
    refine gX1_get fx hw ho.O 7 (by decide) wd1_50 rfl dX1_endDay_80 ?_
    refine lv_iload_n hx hb dX1_endDay_83 rfl (lv_at hl 1 rfl) ?_
    refine lv_iconst (v := 0) hx hb dX1_endDay_84 (by decide) ?_
    obtain ⟨hi28, hF⟩ := st_chk hF
    obtain ⟨M27, eM27, hF⟩ := st_letM hF
    refine g_iast fx hw ho.a8 hi28 eM27 dX1_endDay_85 (fun H locs hw => ?_)
    refine lv_iinc (v := (a1 + 1)) (lv' := [(1, .int (a1 + 1)), (0, .ref (ad o))]) hx hb dX1_endDay_86 hl (k := 1) rfl rfl (by decide) rfl (fun ls hl => ?_)
    refine lv_goto (tgt := 2) hx hb dX1_endDay_89 (by decide) ?_
    exact hr2 (a1 + 1) M27 H locs ls (lv_sub hl [1, 0] rfl) hw hF
  have n_2 : ∀ (n9 : Nat), ∀ (a1 : Int32) (M : Mem) (H : Heap) (locs : List Loc) (ls : Array Slot), lv_has ls 2 [(0, .ref (ad o)), (1, .int a1)] → WD D cy ad s M H locs → (lp (fun _ _ => none) (f_X1_endDay_2 o) n9) a1 M = some M' → W p l e R s m args below meth c H locs 0 0 Q (F0 m 2 ls []) := by
    intro n9
    refine lp_ind (fun (rec2 : Int32 → Mem → Option Mem) => ∀ (a1 : Int32) (M : Mem) (H : Heap) (locs : List Loc) (ls : Array Slot), lv_has ls 2 [(0, .ref (ad o)), (1, .int a1)] → WD D cy ad s M H locs → rec2 a1 M = some M' → W p l e R s m args below meth c H locs 0 0 Q (F0 m 2 ls [])) ?_ ?_ n9
    · intro a1 M H locs ls hl hw hF
      exact nomatch hF
    · intro rec2 hr2 a1 M H locs ls hl hw hF
      unfold f_X1_endDay_2 at hF
      refine lv_iload_n hx hb dX1_endDay_2 rfl (lv_at hl 1 rfl) ?_
      refine lv_aload_n hx hb dX1_endDay_3 rfl (lv_at hl 0 rfl) ?_
      refine gX1_get fx hw ho.O 12 (by decide) wd1_61 rfl dX1_endDay_4 ?_
      refine lv_icmp_ge (tgt := 92) hx hb dX1_endDay_7 (by decide) (fun hc7 => ?_) (fun hc7 => ?_)
      · replace hF := st_t hc7 hF
        exact E _ _ _ _ _ dX1_endDay_92 hw hF
      · replace hF := st_f hc7 hF
        refine lv_aload_n hx hb dX1_endDay_10 rfl (lv_at hl 0 rfl) ?_
        refine gX1_get fx hw ho.O 11 (by decide) wd1_59 rfl dX1_endDay_11 ?_
        refine lv_bipush (v := 11) hx hb dX1_endDay_14 (by decide) ?_
        refine lv_dup2_11 hx hb dX1_endDay_16 rfl rfl ?_
        refine g_ialdc fx hw ho.a12 (k := 11) rfl (by decide) dX1_endDay_17 ?_
        refine lv_aload_n hx hb dX1_endDay_18 rfl (lv_at hl 0 rfl) ?_
        refine gX1_get fx hw ho.O 4 (by decide) wd1_44 rfl dX1_endDay_19 ?_
        refine lv_iload_n hx hb dX1_endDay_22 rfl (lv_at hl 1 rfl) ?_
        obtain ⟨hi29, hF⟩ := st_chk hF
        refine g_iald fx hw ho.a5 hi29 dX1_endDay_23 ?_
        refine lv_iadd hx hb dX1_endDay_24 ?_
        obtain ⟨M30, eM30, hF⟩ := st_letM hF
        refine g_iastc fx hw ho.a12 (k := 11) rfl (by decide) eM30 dX1_endDay_25 (fun H locs hw => ?_)
        refine lv_aload_n hx hb dX1_endDay_26 rfl (lv_at hl 0 rfl) ?_
        refine gX1_get fx hw ho.O 4 (by decide) wd1_44 rfl dX1_endDay_27 ?_
        refine lv_iload_n hx hb dX1_endDay_30 rfl (lv_at hl 1 rfl) ?_
        refine lv_iconst (v := 0) hx hb dX1_endDay_31 (by decide) ?_
        obtain ⟨hi32, hF⟩ := st_chk hF
        obtain ⟨M31, eM31, hF⟩ := st_letM hF
        refine g_iast fx hw ho.a5 hi32 eM31 dX1_endDay_32 (fun H locs hw => ?_)
        refine lv_aload_n hx hb dX1_endDay_33 rfl (lv_at hl 0 rfl) ?_
        refine gX1_get fx hw ho.O 7 (by decide) wd1_50 rfl dX1_endDay_34 ?_
        refine lv_iload_n hx hb dX1_endDay_37 rfl (lv_at hl 1 rfl) ?_
        obtain ⟨hi33, hF⟩ := st_chk hF
        refine g_iald fx hw ho.a8 hi33 dX1_endDay_38 ?_
        refine lv_if_ne (tgt := 72) hx hb dX1_endDay_39 (by decide) (fun hc39 => ?_) (fun hc39 => ?_)
        · replace hF := st_f hc39 hF
          exact n_72 rec2 hr2 a1 M31 H locs ls (lv_sub hl [0, 1] rfl) hw hF
        · replace hF := st_t hc39 hF
          refine lv_aload_n hx hb dX1_endDay_42 rfl (lv_at hl 0 rfl) ?_
          refine gX1_get fx hw ho.O 5 (by decide) wd1_46 rfl dX1_endDay_43 ?_
          refine lv_iload_n hx hb dX1_endDay_46 rfl (lv_at hl 1 rfl) ?_
          obtain ⟨hi34, hF⟩ := st_chk hF
          refine g_iald fx hw ho.a6 hi34 dX1_endDay_47 ?_
          refine lv_if_le (tgt := 72) hx hb dX1_endDay_48 (by decide) (fun hc48 => ?_) (fun hc48 => ?_)
          · replace hF := st_t hc48 hF
            exact n_72 rec2 hr2 a1 M31 H locs ls (lv_sub hl [0, 1] rfl) hw hF
          · replace hF := st_f hc48 hF
            refine lv_aload_n hx hb dX1_endDay_51 rfl (lv_at hl 0 rfl) ?_
            refine gX1_get fx hw ho.O 5 (by decide) wd1_46 rfl dX1_endDay_52 ?_
            refine lv_iload_n hx hb dX1_endDay_55 rfl (lv_at hl 1 rfl) ?_
            refine lv_dup2_11 hx hb dX1_endDay_56 rfl rfl ?_
            obtain ⟨hi35, hF⟩ := st_chk hF
            refine g_iald fx hw ho.a6 hi35 dX1_endDay_57 ?_
            refine lv_iconst (v := 1) hx hb dX1_endDay_58 (by decide) ?_
            refine lv_isub hx hb dX1_endDay_59 ?_
            obtain ⟨hi37, hF⟩ := st_chk hF
            obtain ⟨M36, eM36, hF⟩ := st_letM hF
            refine g_iast fx hw ho.a6 hi37 eM36 dX1_endDay_60 (fun H locs hw => ?_)
            refine lv_aload_n hx hb dX1_endDay_61 rfl (lv_at hl 0 rfl) ?_
            refine gX1_get fx hw ho.O 11 (by decide) wd1_59 rfl dX1_endDay_62 ?_
            refine lv_bipush (v := 9) hx hb dX1_endDay_65 (by decide) ?_
            refine lv_dup2_11 hx hb dX1_endDay_67 rfl rfl ?_
            refine g_ialdc fx hw ho.a12 (k := 9) rfl (by decide) dX1_endDay_68 ?_
            refine lv_iconst (v := 1) hx hb dX1_endDay_69 (by decide) ?_
            refine lv_iadd hx hb dX1_endDay_70 ?_
            obtain ⟨M38, eM38, hF⟩ := st_letM hF
            refine g_iastc fx hw ho.a12 (k := 9) rfl (by decide) eM38 dX1_endDay_71 (fun H locs hw => ?_)
            exact n_72 rec2 hr2 a1 M38 H locs ls (lv_sub hl [0, 1] rfl) hw hF
  unfold f_X1_endDay at hF
  refine lv_iconst (v := 0) hx hb dX1_endDay_0 (by decide) ?_
  refine lv_istore_n (lv' := [(1, .int 0), (0, .ref (ad o))]) hx hb dX1_endDay_1 rfl hl (by decide) rfl (fun ls hl => ?_)
  exact n_2 FU 0 M H locs ls (lv_sub hl [1, 0] rfl) hw hF
theorem c_X1_endDay (l : Launch) (x : SX) (D : va_G) (cy : Nat → ClassId) (ad : Nat → Nat) (o : Nat) (ho : isH o) (sz : Nat) (M : Mem) (M' : Mem) (hF : f_X1_endDay o M = some M') : Met l yX1_endDay (.code yX1_endDay cX1_endDay 2 none :: GB) ({ frames := 0, cells := 0, slots := 0, locals := 0 } : Room) (PcW D cy ad x sz M [.ref (ad o)]) (QvW D cy ad sz M') 0 0 (AA ad sz) := by
  refine mk_m (own := RX1) (by decide) rfl (Nat.le_of_ble_eq_true rfl) ?_
  intro p e s m args below meth c ls fx hw hl hsz
  subst hsz
  exact b_X1_endDay fx ⟨Nat.le_refl _, Nat.le_refl _, Nat.le_refl _, Nat.le_refl _⟩ o ho M M' hF (fun pc ls H locs M1 hd hw h => by cases h; exact g_vret fx hw hd) _ _ ls hl hw
noncomputable def f_X1_passHours_36 (o : Nat) (rec4 : Int32 → Int32 → Int32 → Mem → Option (Int32 × Mem)) : Int32 → Int32 → Int32 → Mem → Option (Int32 × Mem) := fun a1 a2 a3 M => (rec4 a1 a2 (a3 + 1) M)
noncomputable def f_X1_passHours_4 (o : Nat) (rec4 : Int32 → Int32 → Int32 → Mem → Option (Int32 × Mem)) : Int32 → Int32 → Int32 → Mem → Option (Int32 × Mem) := fun a1 a2 a3 M => (if a1 ≤ a3 then (some (a2, M)) else (letM (mput M o 16 ((M o 16) + 1)) (fun M7 => (if (irem (M7 o 16) 24) = 0 then (bnd (f_X1_endDay o M7) (fun M9 => ((f_X1_passHours_36 o rec4) a1 (a2 + 1) a3 M9))) else ((f_X1_passHours_36 o rec4) a1 a2 a3 M7)))))
noncomputable def f_X1_passHours (o : Nat) (p1 : Int32) (M : Mem) : Option (Int32 × Mem) := ((lp (fun _ _ _ _ => none) (f_X1_passHours_4 o) FU) p1 0 0 M)
set_option maxHeartbeats 4000000 in
set_option maxRecDepth 100000 in
theorem b_X1_passHours {p : Program} {l : Launch} {e : Env} {R : Room} {s : State} {m : MethodId} {args : Array Value} {below : List Frame} {meth : Method} {c : Code} {Q : State → Prop} {D : va_G} {cy : Nat → ClassId} {ad : Nat → Nat} {x : SX} (fx : FX p s m args meth c cX1_passHours 4 (some .int) RX1 D cy ad x) (hR : 1 ≤ R.frames ∧ 21 ≤ R.locals ∧ 0 ≤ R.cells ∧ 0 ≤ R.slots) (o : Nat) (ho : isH o) (p1 : Int32) (M : Mem) (z : Int32) (M' : Mem) (hF : f_X1_passHours o p1 M = some (z, M')) (E : ∀ (pc : Nat) (ls : Array Slot) (H : Heap) (locs : List Loc) (v : Int32) (M1 : Mem), decode cX1_passHours pc = .ok (.ireturn, 1) → WD D cy ad s M1 H locs → some (v, M1) = some (z, M') → W p l e R s m args below meth c H locs 0 0 Q (F0 m pc ls [.int v])) (H : Heap) (locs : List Loc) (ls : Array Slot) (hl : lv_has ls 4 [(0, .ref (ad o)), (1, .int p1)]) (hw : WD D cy ad s M H locs) : W p l e R s m args below meth c H locs 0 0 Q (F0 m 0 ls []) := by
  have hx := fx.1.1
  have hb := fx.1.2.1
  have hown := fx.1.2.2.2.1
  have hts := fx.1.2.2.2.2
  have n_36 : ∀ (rec4 : Int32 → Int32 → Int32 → Mem → Option (Int32 × Mem)) (_ : ∀ (a1 : Int32) (a2 : Int32) (a3 : Int32) (M : Mem) (H : Heap) (locs : List Loc) (ls : Array Slot), lv_has ls 4 [(0, .ref (ad o)), (1, .int a1), (2, .int a2), (3, .int a3)] → WD D cy ad s M H locs → rec4 a1 a2 a3 M = some (z, M') → W p l e R s m args below meth c H locs 0 0 Q (F0 m 4 ls [])) , ∀ (a1 : Int32) (a2 : Int32) (a3 : Int32) (M : Mem) (H : Heap) (locs : List Loc) (ls : Array Slot), lv_has ls 4 [(0, .ref (ad o)), (1, .int a1), (2, .int a2), (3, .int a3)] → WD D cy ad s M H locs → f_X1_passHours_36 o rec4 a1 a2 a3 M = some (z, M') → W p l e R s m args below meth c H locs 0 0 Q (F0 m 36 ls []) := by
    intro rec4 hr4 a1 a2 a3 M H locs ls hl hw hF
    unfold f_X1_passHours_36 at hF
    refine lv_iinc (v := (a3 + 1)) (lv' := [(3, .int (a3 + 1)), (0, .ref (ad o)), (1, .int a1), (2, .int a2)]) hx hb dX1_passHours_36 hl (k := 3) rfl rfl (by decide) rfl (fun ls hl => ?_)
    refine lv_goto (tgt := 4) hx hb dX1_passHours_39 (by decide) ?_
    exact hr4 a1 a2 (a3 + 1) M H locs ls (lv_sub hl [1, 2, 3, 0] rfl) hw hF
  have n_4 : ∀ (n9 : Nat), ∀ (a1 : Int32) (a2 : Int32) (a3 : Int32) (M : Mem) (H : Heap) (locs : List Loc) (ls : Array Slot), lv_has ls 4 [(0, .ref (ad o)), (1, .int a1), (2, .int a2), (3, .int a3)] → WD D cy ad s M H locs → (lp (fun _ _ _ _ => none) (f_X1_passHours_4 o) n9) a1 a2 a3 M = some (z, M') → W p l e R s m args below meth c H locs 0 0 Q (F0 m 4 ls []) := by
    intro n9
    refine lp_ind (fun (rec4 : Int32 → Int32 → Int32 → Mem → Option (Int32 × Mem)) => ∀ (a1 : Int32) (a2 : Int32) (a3 : Int32) (M : Mem) (H : Heap) (locs : List Loc) (ls : Array Slot), lv_has ls 4 [(0, .ref (ad o)), (1, .int a1), (2, .int a2), (3, .int a3)] → WD D cy ad s M H locs → rec4 a1 a2 a3 M = some (z, M') → W p l e R s m args below meth c H locs 0 0 Q (F0 m 4 ls [])) ?_ ?_ n9
    · intro a1 a2 a3 M H locs ls hl hw hF
      exact nomatch hF
    · intro rec4 hr4 a1 a2 a3 M H locs ls hl hw hF
      unfold f_X1_passHours_4 at hF
      refine lv_iload_n hx hb dX1_passHours_4 rfl (lv_at hl 3 rfl) ?_
      refine lv_iload_n hx hb dX1_passHours_5 rfl (lv_at hl 1 rfl) ?_
      refine lv_icmp_ge (tgt := 42) hx hb dX1_passHours_6 (by decide) (fun hc6 => ?_) (fun hc6 => ?_)
      · replace hF := st_t hc6 hF
        refine lv_iload_n hx hb dX1_passHours_42 rfl (lv_at hl 2 rfl) ?_
        exact E _ _ _ _ _ _ dX1_passHours_43 hw hF
      · replace hF := st_f hc6 hF
        refine lv_aload_n hx hb dX1_passHours_9 rfl (lv_at hl 0 rfl) ?_
        refine lv_dup hx hb dX1_passHours_10 rfl ?_
        refine gX1_get fx hw ho.O 16 (by decide) wd1_72 rfl dX1_passHours_11 ?_
        refine lv_iconst (v := 1) hx hb dX1_passHours_14 (by decide) ?_
        refine lv_iadd hx hb dX1_passHours_15 ?_
        obtain ⟨M7, eM7, hF⟩ := st_letM hF
        refine gX1_put fx hw ho.O 16 (by decide) wd1_72 rfl eM7 rfl (Nat.le_of_ble_eq_true rfl) dX1_passHours_16 (fun H locs hw => ?_)
        refine lv_aload_n hx hb dX1_passHours_19 rfl (lv_at hl 0 rfl) ?_
        refine gX1_get fx hw ho.O 16 (by decide) wd1_72 rfl dX1_passHours_20 ?_
        refine lv_bipush (v := 24) hx hb dX1_passHours_23 (by decide) ?_
        refine g_irem hx hb dX1_passHours_25 (by decide) ?_
        refine lv_if_ne (tgt := 36) hx hb dX1_passHours_26 (by decide) (fun hc26 => ?_) (fun hc26 => ?_)
        · replace hF := st_f hc26 hF
          exact n_36 rec4 hr4 a1 a2 a3 M7 H locs ls (lv_sub hl [0, 1, 2, 3] rfl) hw hF
        · replace hF := st_t hc26 hF
          refine lv_aload_n hx hb dX1_passHours_29 rfl (lv_at hl 0 rfl) ?_
          obtain ⟨M9, hgr8, hF⟩ := st_bnd hF
          refine g_cv hw (g_runV (C := RX1) (As := []) (rest := []) fx hw ho.O rfl (c_X1_endDay l x D cy ad o ho H.size M7 M9 hgr8) wd3_28 wd3_30 wd0_34 wd1_2 wd3_31 yd_X1_endDay rfl rfl (Nat.le_of_ble_eq_true rfl) hl.1 ⟨Nat.le_trans (Nat.le_of_ble_eq_true rfl) hR.1, Nat.le_trans (Nat.le_of_ble_eq_true rfl) hR.2.1⟩ ⟨Nat.le_trans (Nat.le_of_ble_eq_true rfl) hR.2.2.1, Nat.le_trans (Nat.le_of_ble_eq_true rfl) hR.2.2.2⟩ dX1_passHours_30) (fun H locs hw => ?_)
          refine lv_iinc (v := (a2 + 1)) (lv' := [(2, .int (a2 + 1)), (0, .ref (ad o)), (1, .int a1), (3, .int a3)]) hx hb dX1_passHours_33 hl (k := 2) rfl rfl (by decide) rfl (fun ls hl => ?_)
          exact n_36 rec4 hr4 a1 (a2 + 1) a3 M9 H locs ls (lv_sub hl [1, 2, 0, 3] rfl) hw hF
  unfold f_X1_passHours at hF
  refine lv_iconst (v := 0) hx hb dX1_passHours_0 (by decide) ?_
  refine lv_istore_n (lv' := [(2, .int 0), (0, .ref (ad o)), (1, .int p1)]) hx hb dX1_passHours_1 rfl hl (by decide) rfl (fun ls hl => ?_)
  refine lv_iconst (v := 0) hx hb dX1_passHours_2 (by decide) ?_
  refine lv_istore_n (lv' := [(3, .int 0), (2, .int 0), (0, .ref (ad o)), (1, .int p1)]) hx hb dX1_passHours_3 rfl hl (by decide) rfl (fun ls hl => ?_)
  exact n_4 FU p1 0 0 M H locs ls (lv_sub hl [2, 3, 1, 0] rfl) hw hF
theorem c_X1_passHours (l : Launch) (x : SX) (D : va_G) (cy : Nat → ClassId) (ad : Nat → Nat) (o : Nat) (ho : isH o) (p1 : Int32) (sz : Nat) (M : Mem) (z : Int32) (M' : Mem) (hF : f_X1_passHours o p1 M = some (z, M')) : Met l yX1_passHours (.code yX1_passHours cX1_passHours 4 (some .int) :: GB) ({ frames := 1, cells := 0, slots := 0, locals := 21 } : Room) (PcW D cy ad x sz M [.ref (ad o), .int p1]) (QiW D cy ad sz z M') 0 0 (AA ad sz) := by
  refine mk_m (own := RX1) (by decide) rfl (Nat.le_of_ble_eq_true rfl) ?_
  intro p e s m args below meth c ls fx hw hl hsz
  subst hsz
  exact b_X1_passHours fx ⟨Nat.le_refl _, Nat.le_refl _, Nat.le_refl _, Nat.le_refl _⟩ o ho p1 M z M' hF (fun pc ls H locs v M1 hd hw h => by cases h; exact g_iret fx hw rfl hd) _ _ ls hl hw
noncomputable def f_X1_fastBehind_18 (o : Nat) (M : Mem) (rec18 : Int32 → Int32 → Int32 → Option Int32) : Int32 → Int32 → Int32 → Option Int32 := fun a2 a3 a4 => (if (M o 12) ≤ a4 then (some a3) else (chk (inB a4 12) (chk (inB a4 12) (rec18 a2 (a3 + (imax ((M (o + 6) (ix a4)) - (imax (a2 - (M (o + 8) (ix a4))) 0)) 0)) (a4 + 1)))))
noncomputable def f_X1_fastBehind (o : Nat) (p1 : Int32) (M : Mem) : Option Int32 := ((lp (fun _ _ _ => none) (f_X1_fastBehind_18 o M) FU) (((irem (M o 16) 24) + p1) / 24) 0 0)
set_option maxHeartbeats 4000000 in
set_option maxRecDepth 100000 in
theorem b_X1_fastBehind {p : Program} {l : Launch} {e : Env} {R : Room} {s : State} {m : MethodId} {args : Array Value} {below : List Frame} {meth : Method} {c : Code} {Q : State → Prop} {D : va_G} {cy : Nat → ClassId} {ad : Nat → Nat} {x : SX} (fx : FX p s m args meth c cX1_fastBehind 6 (some .int) RX1 D cy ad x) (hR : 1 ≤ R.frames ∧ 21 ≤ R.locals ∧ 0 ≤ R.cells ∧ 0 ≤ R.slots) (o : Nat) (ho : isH o) (p1 : Int32) (M : Mem) (z : Int32) (hF : f_X1_fastBehind o p1 M = some z) (E : ∀ (pc : Nat) (ls : Array Slot) (H : Heap) (locs : List Loc) (v : Int32), decode cX1_fastBehind pc = .ok (.ireturn, 1) → WD D cy ad s M H locs → some v = some z → W p l e R s m args below meth c H locs 0 0 Q (F0 m pc ls [.int v])) (H : Heap) (locs : List Loc) (ls : Array Slot) (hl : lv_has ls 6 [(0, .ref (ad o)), (1, .int p1)]) (hw : WD D cy ad s M H locs) : W p l e R s m args below meth c H locs 0 0 Q (F0 m 0 ls []) := by
  have hx := fx.1.1
  have hb := fx.1.2.1
  have hown := fx.1.2.2.2.1
  have hts := fx.1.2.2.2.2
  have n_18 : ∀ (n9 : Nat), ∀ (a2 : Int32) (a3 : Int32) (a4 : Int32) (H : Heap) (locs : List Loc) (ls : Array Slot), lv_has ls 6 [(0, .ref (ad o)), (2, .int a2), (3, .int a3), (4, .int a4)] → WD D cy ad s M H locs → (lp (fun _ _ _ => none) (f_X1_fastBehind_18 o M) n9) a2 a3 a4 = some z → W p l e R s m args below meth c H locs 0 0 Q (F0 m 18 ls []) := by
    intro n9
    refine lp_ind (fun (rec18 : Int32 → Int32 → Int32 → Option Int32) => ∀ (a2 : Int32) (a3 : Int32) (a4 : Int32) (H : Heap) (locs : List Loc) (ls : Array Slot), lv_has ls 6 [(0, .ref (ad o)), (2, .int a2), (3, .int a3), (4, .int a4)] → WD D cy ad s M H locs → rec18 a2 a3 a4 = some z → W p l e R s m args below meth c H locs 0 0 Q (F0 m 18 ls [])) ?_ ?_ n9
    · intro a2 a3 a4 H locs ls hl hw hF
      exact nomatch hF
    · intro rec18 hr18 a2 a3 a4 H locs ls hl hw hF
      unfold f_X1_fastBehind_18 at hF
      refine lv_iload hx hb dX1_fastBehind_18 (lv_at hl 3 rfl) ?_
      refine lv_aload_n hx hb dX1_fastBehind_20 rfl (lv_at hl 0 rfl) ?_
      refine gX1_get fx hw ho.O 12 (by decide) wd1_61 rfl dX1_fastBehind_21 ?_
      refine lv_icmp_ge (tgt := 65) hx hb dX1_fastBehind_24 (by decide) (fun hc24 => ?_) (fun hc24 => ?_)
      · replace hF := st_t hc24 hF
        refine lv_iload_n hx hb dX1_fastBehind_65 rfl (lv_at hl 2 rfl) ?_
        exact E _ _ _ _ _ dX1_fastBehind_66 hw hF
      · replace hF := st_f hc24 hF
        refine lv_iload_n hx hb dX1_fastBehind_27 rfl (lv_at hl 1 rfl) ?_
        refine lv_aload_n hx hb dX1_fastBehind_28 rfl (lv_at hl 0 rfl) ?_
        refine gX1_get fx hw ho.O 7 (by decide) wd1_50 rfl dX1_fastBehind_29 ?_
        refine lv_iload hx hb dX1_fastBehind_32 (lv_at hl 3 rfl) ?_
        obtain ⟨hi5, hF⟩ := st_chk hF
        refine g_iald fx hw ho.a8 hi5 dX1_fastBehind_34 ?_
        refine lv_isub hx hb dX1_fastBehind_35 ?_
        refine lv_iconst (v := 0) hx hb dX1_fastBehind_36 (by decide) ?_
        refine g_mmax fx wd2_211 wd2_212 wd1_17 wd2_213 hl.1 (Nat.le_trans (Nat.le_of_ble_eq_true rfl) hR.1) (Nat.le_trans (Nat.le_of_ble_eq_true rfl) hR.2.1) ⟨Nat.le_trans (Nat.le_of_ble_eq_true rfl) hR.2.2.1, Nat.le_trans (Nat.le_of_ble_eq_true rfl) hR.2.2.2⟩ dX1_fastBehind_37 ?_
        refine lv_istore (lv' := [(5, .int (imax (a2 - (M (o + 8) (ix a4))) 0)), (0, .ref (ad o)), (2, .int a2), (3, .int a3), (4, .int a4)]) hx hb dX1_fastBehind_40 hl (by decide) rfl (fun ls hl => ?_)
        refine lv_iload_n hx hb dX1_fastBehind_42 rfl (lv_at hl 3 rfl) ?_
        refine lv_aload_n hx hb dX1_fastBehind_43 rfl (lv_at hl 1 rfl) ?_
        refine gX1_get fx hw ho.O 5 (by decide) wd1_46 rfl dX1_fastBehind_44 ?_
        refine lv_iload hx hb dX1_fastBehind_47 (lv_at hl 4 rfl) ?_
        obtain ⟨hi6, hF⟩ := st_chk hF
        refine g_iald fx hw ho.a6 hi6 dX1_fastBehind_49 ?_
        refine lv_iload hx hb dX1_fastBehind_50 (lv_at hl 0 rfl) ?_
        refine lv_isub hx hb dX1_fastBehind_52 ?_
        refine lv_iconst (v := 0) hx hb dX1_fastBehind_53 (by decide) ?_
        refine g_mmax fx wd2_211 wd2_212 wd1_17 wd2_213 hl.1 (Nat.le_trans (Nat.le_of_ble_eq_true rfl) hR.1) (Nat.le_trans (Nat.le_of_ble_eq_true rfl) hR.2.1) ⟨Nat.le_trans (Nat.le_of_ble_eq_true rfl) hR.2.2.1, Nat.le_trans (Nat.le_of_ble_eq_true rfl) hR.2.2.2⟩ dX1_fastBehind_54 ?_
        refine lv_iadd hx hb dX1_fastBehind_57 ?_
        refine lv_istore_n (lv' := [(3, .int (a3 + (imax ((M (o + 6) (ix a4)) - (imax (a2 - (M (o + 8) (ix a4))) 0)) 0))), (5, .int (imax (a2 - (M (o + 8) (ix a4))) 0)), (0, .ref (ad o)), (2, .int a2), (4, .int a4)]) hx hb dX1_fastBehind_58 rfl hl (by decide) rfl (fun ls hl => ?_)
        refine lv_iinc (v := (a4 + 1)) (lv' := [(4, .int (a4 + 1)), (3, .int (a3 + (imax ((M (o + 6) (ix a4)) - (imax (a2 - (M (o + 8) (ix a4))) 0)) 0))), (5, .int (imax (a2 - (M (o + 8) (ix a4))) 0)), (0, .ref (ad o)), (2, .int a2)]) hx hb dX1_fastBehind_59 hl (k := 4) rfl rfl (by decide) rfl (fun ls hl => ?_)
        refine lv_goto (tgt := 18) hx hb dX1_fastBehind_62 (by decide) ?_
        exact hr18 a2 (a3 + (imax ((M (o + 6) (ix a4)) - (imax (a2 - (M (o + 8) (ix a4))) 0)) 0)) (a4 + 1) H locs ls (lv_sub hl [3, 4, 1, 0] rfl) hw hF
  unfold f_X1_fastBehind at hF
  refine lv_aload_n hx hb dX1_fastBehind_0 rfl (lv_at hl 0 rfl) ?_
  refine gX1_get fx hw ho.O 16 (by decide) wd1_72 rfl dX1_fastBehind_1 ?_
  refine lv_bipush (v := 24) hx hb dX1_fastBehind_4 (by decide) ?_
  refine g_irem hx hb dX1_fastBehind_6 (by decide) ?_
  refine lv_iload_n hx hb dX1_fastBehind_7 rfl (lv_at hl 1 rfl) ?_
  refine lv_iadd hx hb dX1_fastBehind_8 ?_
  refine lv_bipush (v := 24) hx hb dX1_fastBehind_9 (by decide) ?_
  refine lv_idiv hx hb dX1_fastBehind_11 (by decide) ?_
  refine lv_istore_n (lv' := [(2, .int (((irem (M o 16) 24) + p1) / 24)), (0, .ref (ad o)), (1, .int p1)]) hx hb dX1_fastBehind_12 rfl hl (by decide) rfl (fun ls hl => ?_)
  refine lv_iconst (v := 0) hx hb dX1_fastBehind_13 (by decide) ?_
  refine lv_istore_n (lv' := [(3, .int 0), (2, .int (((irem (M o 16) 24) + p1) / 24)), (0, .ref (ad o)), (1, .int p1)]) hx hb dX1_fastBehind_14 rfl hl (by decide) rfl (fun ls hl => ?_)
  refine lv_iconst (v := 0) hx hb dX1_fastBehind_15 (by decide) ?_
  refine lv_istore (lv' := [(4, .int 0), (3, .int 0), (2, .int (((irem (M o 16) 24) + p1) / 24)), (0, .ref (ad o)), (1, .int p1)]) hx hb dX1_fastBehind_16 hl (by decide) rfl (fun ls hl => ?_)
  exact n_18 FU (((irem (M o 16) 24) + p1) / 24) 0 0 H locs ls (lv_sub hl [3, 2, 1, 0] rfl) hw hF
theorem c_X1_fastBehind (l : Launch) (x : SX) (D : va_G) (cy : Nat → ClassId) (ad : Nat → Nat) (o : Nat) (ho : isH o) (p1 : Int32) (sz : Nat) (M : Mem) (z : Int32) (hF : f_X1_fastBehind o p1 M = some z) : Met l yX1_fastBehind (.code yX1_fastBehind cX1_fastBehind 6 (some .int) :: GB) ({ frames := 1, cells := 0, slots := 0, locals := 21 } : Room) (PcW D cy ad x sz M [.ref (ad o), .int p1]) (QiW D cy ad sz z M) 0 0 (AA ad sz) := by
  refine mk_m (own := RX1) (by decide) rfl (Nat.le_of_ble_eq_true rfl) ?_
  intro p e s m args below meth c ls fx hw hl hsz
  subst hsz
  exact b_X1_fastBehind fx ⟨Nat.le_refl _, Nat.le_refl _, Nat.le_refl _, Nat.le_refl _⟩ o ho p1 M z hF (fun pc ls H locs v hd hw h => by cases h; exact g_iret fx hw rfl hd) _ _ ls hl hw
