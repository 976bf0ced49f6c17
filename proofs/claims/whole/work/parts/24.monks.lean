theorem wd3_119 : Cond.methodLink RX5 48 yX3_bytesIn ∈ GB := gb_3 119 rfl rfl
theorem wd3_120 : Cond.static yX3_bytesIn ∈ GB := gb_3 120 rfl rfl
theorem wd3_121 : Cond.code yX3_bytesIn cX3_bytesIn 3 (some .int) ∈ GB := gb_3 121 rfl rfl
theorem yd_X3_bytesIn : yX3_bytesIn.cls ≠ "java/lang/invoke/MethodHandle" ∧ yX3_bytesIn.cls ≠ "java/lang/invoke/VarHandle" ∧ (parseMethodDescriptor yX3_bytesIn.desc).map (fun d => d.parameters.length) = some 1 := by decide +kernel
theorem wd1_206 : Cond.fieldLink RX5 22 RX5 (TX5 1).2.1 (TX5 1).2.2.1 ∈ GB := gb_1 206 rfl rfl
theorem wd1_147 : Cond.fieldLink RX5 52 RX3 (TX3 2).2.1 (TX3 2).2.2.1 ∈ GB := gb_1 147 rfl rfl
theorem wd3_189 : Cond.methodLink RX5 63 yX3_addBytes ∈ GB := gb_3 189 rfl rfl
theorem wd3_190 : Cond.instanceMethod yX3_addBytes ∈ GB := gb_3 190 rfl rfl
theorem wd3_191 : Cond.selects RX3 yX3_addBytes yX3_addBytes ∈ GB := gb_3 191 rfl rfl
theorem wd3_192 : Cond.code yX3_addBytes cX3_addBytes 4 none ∈ GB := gb_3 192 rfl rfl
theorem yd_X3_addBytes : yX3_addBytes.cls ≠ "java/lang/invoke/MethodHandle" ∧ yX3_addBytes.cls ≠ "java/lang/invoke/VarHandle" ∧ (parseMethodDescriptor yX3_addBytes.desc).map (fun d => d.parameters.length) = some 1 := by decide +kernel
theorem wd3_122 : Cond.classLink RX5 56 (exN 3) ∈ GB := gb_3 122 rfl rfl
theorem wd1_12 : Cond.initialized (exN 3) ∈ GB := gb_1 12 rfl rfl
theorem wd1_229 : Cond.methodLink RX5 67 yX3_readText ∈ GB := gb_1 229 rfl rfl
theorem wd1_230 : Cond.instanceMethod yX3_readText ∈ GB := gb_1 230 rfl rfl
theorem wd1_231 : Cond.selects RX3 yX3_readText yX3_readText ∈ GB := gb_1 231 rfl rfl
theorem wd1_232 : Cond.code yX3_readText cX3_readText 2 (some .boolean) ∈ GB := gb_1 232 rfl rfl
theorem yd_X3_readText : yX3_readText.cls ≠ "java/lang/invoke/MethodHandle" ∧ yX3_readText.cls ≠ "java/lang/invoke/VarHandle" ∧ (parseMethodDescriptor yX3_readText.desc).map (fun d => d.parameters.length) = some 0 := by decide +kernel
theorem wd1_207 : Cond.fieldLink RX5 29 RX5 (TX5 2).2.1 (TX5 2).2.2.1 ∈ GB := gb_1 207 rfl rfl
theorem wd1_205 : Cond.fieldLink RX5 10 RX5 (TX5 0).2.1 (TX5 0).2.2.1 ∈ GB := gb_1 205 rfl rfl
theorem wd3_32 : Cond.methodLink RX5 74 yX0_remember ∈ GB := gb_3 32 rfl rfl
theorem wd3_33 : Cond.instanceMethod yX0_remember ∈ GB := gb_3 33 rfl rfl
theorem wd3_34 : Cond.selects RX0 yX0_remember yX0_remember ∈ GB := gb_3 34 rfl rfl
theorem wd1_6 : Cond.initialized RX0 ∈ GB := gb_1 6 rfl rfl
theorem wd3_35 : Cond.code yX0_remember cX0_remember 2 none ∈ GB := gb_3 35 rfl rfl
theorem yd_X0_remember : yX0_remember.cls ≠ "java/lang/invoke/MethodHandle" ∧ yX0_remember.cls ≠ "java/lang/invoke/VarHandle" ∧ (parseMethodDescriptor yX0_remember.desc).map (fun d => d.parameters.length) = some 1 := by decide +kernel
theorem wd1_146 : Cond.fieldLink RX5 78 RX3 (TX3 1).2.1 (TX3 1).2.2.1 ∈ GB := gb_1 146 rfl rfl
theorem wd3_43 : Cond.methodLink RX5 81 yX1_copyFrom ∈ GB := gb_3 43 rfl rfl
theorem wd1_62 : Cond.fieldLink RX5 84 RX1 (TX1 12).2.1 (TX1 12).2.2.1 ∈ GB := gb_1 62 rfl rfl
theorem wd1_149 : Cond.fieldLink RX5 71 RX3 (TX3 3).2.1 (TX3 3).2.2.1 ∈ GB := gb_1 149 rfl rfl
theorem wd1_152 : Cond.fieldLink RX5 87 RX3 (TX3 4).2.1 (TX3 4).2.2.1 ∈ GB := gb_1 152 rfl rfl
theorem wd1_65 : Cond.fieldLink RX5 90 RX1 (TX1 13).2.1 (TX1 13).2.2.1 ∈ GB := gb_1 65 rfl rfl
theorem wd1_67 : Cond.fieldLink RX5 93 RX1 (TX1 14).2.1 (TX1 14).2.2.1 ∈ GB := gb_1 67 rfl rfl
theorem wd1_70 : Cond.fieldLink RX5 96 RX1 (TX1 15).2.1 (TX1 15).2.2.1 ∈ GB := gb_1 70 rfl rfl
theorem wd1_73 : Cond.fieldLink RX5 99 RX1 (TX1 16).2.1 (TX1 16).2.2.1 ∈ GB := gb_1 73 rfl rfl
theorem wd3_81 : Cond.methodLink RX5 102 yX1_isSpeechAt ∈ GB := gb_3 81 rfl rfl
theorem wd3_201 : Cond.methodLink RX5 106 yX1_bellCount ∈ GB := gb_3 201 rfl rfl
theorem wd3_202 : Cond.instanceMethod yX1_bellCount ∈ GB := gb_3 202 rfl rfl
theorem wd3_203 : Cond.selects RX1 yX1_bellCount yX1_bellCount ∈ GB := gb_3 203 rfl rfl
theorem wd3_204 : Cond.code yX1_bellCount cX1_bellCount 3 (some .int) ∈ GB := gb_3 204 rfl rfl
theorem yd_X1_bellCount : yX1_bellCount.cls ≠ "java/lang/invoke/MethodHandle" ∧ yX1_bellCount.cls ≠ "java/lang/invoke/VarHandle" ∧ (parseMethodDescriptor yX1_bellCount.desc).map (fun d => d.parameters.length) = some 0 := by decide +kernel
theorem wd3_86 : Cond.methodLink RX5 110 yX1_speechHours ∈ GB := gb_3 86 rfl rfl
theorem wd3_87 : Cond.instanceMethod yX1_speechHours ∈ GB := gb_3 87 rfl rfl
theorem wd3_88 : Cond.selects RX1 yX1_speechHours yX1_speechHours ∈ GB := gb_3 88 rfl rfl
theorem wd3_89 : Cond.code yX1_speechHours cX1_speechHours 7 (some .int) ∈ GB := gb_3 89 rfl rfl
theorem yd_X1_speechHours : yX1_speechHours.cls ≠ "java/lang/invoke/MethodHandle" ∧ yX1_speechHours.cls ≠ "java/lang/invoke/VarHandle" ∧ (parseMethodDescriptor yX1_speechHours.desc).map (fun d => d.parameters.length) = some 1 := by decide +kernel
theorem wd1_43 : Cond.fieldLink RX5 113 RX1 (TX1 3).2.1 (TX1 3).2.2.1 ∈ GB := gb_1 43 rfl rfl
theorem wd3_205 : Cond.methodLink RX5 117 yX1_membersOf ∈ GB := gb_3 205 rfl rfl
theorem wd3_206 : Cond.instanceMethod yX1_membersOf ∈ GB := gb_3 206 rfl rfl
theorem wd3_207 : Cond.selects RX1 yX1_membersOf yX1_membersOf ∈ GB := gb_3 207 rfl rfl
theorem wd3_208 : Cond.code yX1_membersOf cX1_membersOf 4 (some .int) ∈ GB := gb_3 208 rfl rfl
theorem yd_X1_membersOf : yX1_membersOf.cls ≠ "java/lang/invoke/MethodHandle" ∧ yX1_membersOf.cls ≠ "java/lang/invoke/VarHandle" ∧ (parseMethodDescriptor yX1_membersOf.desc).map (fun d => d.parameters.length) = some 1 := by decide +kernel
theorem wd1_45 : Cond.fieldLink RX5 121 RX1 (TX1 4).2.1 (TX1 4).2.2.1 ∈ GB := gb_1 45 rfl rfl
theorem wd3_53 : Cond.methodLink RX5 124 yX1_sumOf ∈ GB := gb_3 53 rfl rfl
theorem wd3_54 : Cond.instanceMethod yX1_sumOf ∈ GB := gb_3 54 rfl rfl
theorem wd3_55 : Cond.selects RX1 yX1_sumOf yX1_sumOf ∈ GB := gb_3 55 rfl rfl
theorem wd3_56 : Cond.code yX1_sumOf cX1_sumOf 4 (some .int) ∈ GB := gb_3 56 rfl rfl
theorem yd_X1_sumOf : yX1_sumOf.cls ≠ "java/lang/invoke/MethodHandle" ∧ yX1_sumOf.cls ≠ "java/lang/invoke/VarHandle" ∧ (parseMethodDescriptor yX1_sumOf.desc).map (fun d => d.parameters.length) = some 1 := by decide +kernel
theorem wd1_47 : Cond.fieldLink RX5 127 RX1 (TX1 5).2.1 (TX1 5).2.2.1 ∈ GB := gb_1 47 rfl rfl
theorem wd1_41 : Cond.fieldLink RX5 130 RX1 (TX1 2).2.1 (TX1 2).2.2.1 ∈ GB := gb_1 41 rfl rfl
theorem wd1_182 : Cond.fieldLink RX5 133 RX0 (TX0 2).2.1 (TX0 2).2.2.1 ∈ GB := gb_1 182 rfl rfl
theorem wd3_209 : Cond.classLink RX5 136 (exN 2) ∈ GB := gb_3 209 rfl rfl
theorem wd1_20 : Cond.initialized (exN 2) ∈ GB := gb_1 20 rfl rfl
theorem wd1_60 : Cond.fieldLink RX5 143 RX1 (TX1 11).2.1 (TX1 11).2.2.1 ∈ GB := gb_1 60 rfl rfl
theorem wd4_5 : Cond.classLink RX5 294 (exN 1) ∈ GB := gb_4 5 rfl rfl
theorem wd1_21 : Cond.initialized (exN 1) ∈ GB := gb_1 21 rfl rfl
theorem wd4_1 : Cond.methodLink RX5 146 yX5_requireMonk ∈ GB := gb_4 1 rfl rfl
theorem wd4_3 : Cond.instanceMethod yX5_requireMonk ∈ GB := gb_4 3 rfl rfl
theorem wd0_37 : Cond.selects RX5 yX5_requireMonk yX5_requireMonk ∈ GB := gb_0 37 rfl rfl
theorem wd1_1 : Cond.initialized RX5 ∈ GB := gb_1 1 rfl rfl
theorem wd4_4 : Cond.code yX5_requireMonk cX5_requireMonk 2 none ∈ GB := gb_4 4 rfl rfl
theorem yd_X5_requireMonk : yX5_requireMonk.cls ≠ "java/lang/invoke/MethodHandle" ∧ yX5_requireMonk.cls ≠ "java/lang/invoke/VarHandle" ∧ (parseMethodDescriptor yX5_requireMonk.desc).map (fun d => d.parameters.length) = some 1 := by decide +kernel
theorem wd1_39 : Cond.fieldLink RX5 149 RX1 (TX1 1).2.1 (TX1 1).2.2.1 ∈ GB := gb_1 39 rfl rfl
theorem wd1_49 : Cond.fieldLink RX5 152 RX1 (TX1 6).2.1 (TX1 6).2.2.1 ∈ GB := gb_1 49 rfl rfl
theorem wd1_51 : Cond.fieldLink RX5 155 RX1 (TX1 7).2.1 (TX1 7).2.2.1 ∈ GB := gb_1 51 rfl rfl
theorem wd4_21 : Cond.methodLink RX5 158 yJ6_bitCount_0f7a4 ∈ GB := gb_4 21 rfl rfl
theorem wd4_22 : Cond.methodLink RX5 163 yX1_othersWhoKnowAllOf ∈ GB := gb_4 22 rfl rfl
theorem wd4_23 : Cond.instanceMethod yX1_othersWhoKnowAllOf ∈ GB := gb_4 23 rfl rfl
theorem wd4_24 : Cond.selects RX1 yX1_othersWhoKnowAllOf yX1_othersWhoKnowAllOf ∈ GB := gb_4 24 rfl rfl
theorem wd4_25 : Cond.code yX1_othersWhoKnowAllOf cX1_othersWhoKnowAllOf 4 (some .int) ∈ GB := gb_4 25 rfl rfl
theorem yd_X1_othersWhoKnowAllOf : yX1_othersWhoKnowAllOf.cls ≠ "java/lang/invoke/MethodHandle" ∧ yX1_othersWhoKnowAllOf.cls ≠ "java/lang/invoke/VarHandle" ∧ (parseMethodDescriptor yX1_othersWhoKnowAllOf.desc).map (fun d => d.parameters.length) = some 1 := by decide +kernel
theorem wd1_37 : Cond.fieldLink RX5 166 RX1 (TX1 0).2.1 (TX1 0).2.2.1 ∈ GB := gb_1 37 rfl rfl
theorem wd4_26 : Cond.methodLink RX5 169 yX2_lettersIn ∈ GB := gb_4 26 rfl rfl
theorem wd4_27 : Cond.static yX2_lettersIn ∈ GB := gb_4 27 rfl rfl
theorem wd4_28 : Cond.code yX2_lettersIn cX2_lettersIn 3 (some .int) ∈ GB := gb_4 28 rfl rfl
theorem yd_X2_lettersIn : yX2_lettersIn.cls ≠ "java/lang/invoke/MethodHandle" ∧ yX2_lettersIn.cls ≠ "java/lang/invoke/VarHandle" ∧ (parseMethodDescriptor yX2_lettersIn.desc).map (fun d => d.parameters.length) = some 1 := by decide +kernel
theorem wd4_40 : Cond.methodLink RX5 176 yX5_requireNeed ∈ GB := gb_4 40 rfl rfl
theorem wd4_42 : Cond.instanceMethod yX5_requireNeed ∈ GB := gb_4 42 rfl rfl
theorem wd0_38 : Cond.selects RX5 yX5_requireNeed yX5_requireNeed ∈ GB := gb_0 38 rfl rfl
theorem wd4_43 : Cond.code yX5_requireNeed cX5_requireNeed 2 none ∈ GB := gb_4 43 rfl rfl
theorem yd_X5_requireNeed : yX5_requireNeed.cls ≠ "java/lang/invoke/MethodHandle" ∧ yX5_requireNeed.cls ≠ "java/lang/invoke/VarHandle" ∧ (parseMethodDescriptor yX5_requireNeed.desc).map (fun d => d.parameters.length) = some 1 := by decide +kernel
theorem wd1_55 : Cond.fieldLink RX5 179 RX1 (TX1 9).2.1 (TX1 9).2.2.1 ∈ GB := gb_1 55 rfl rfl
theorem wd4_45 : Cond.methodLink RX5 182 yX1_monksWith ∈ GB := gb_4 45 rfl rfl
theorem wd4_46 : Cond.instanceMethod yX1_monksWith ∈ GB := gb_4 46 rfl rfl
theorem wd4_47 : Cond.selects RX1 yX1_monksWith yX1_monksWith ∈ GB := gb_4 47 rfl rfl
theorem wd4_48 : Cond.code yX1_monksWith cX1_monksWith 5 (some .int) ∈ GB := gb_4 48 rfl rfl
theorem yd_X1_monksWith : yX1_monksWith.cls ≠ "java/lang/invoke/MethodHandle" ∧ yX1_monksWith.cls ≠ "java/lang/invoke/VarHandle" ∧ (parseMethodDescriptor yX1_monksWith.desc).map (fun d => d.parameters.length) = some 2 := by decide +kernel
theorem wd4_49 : Cond.methodLink RX5 186 yX1_pagesFor ∈ GB := gb_4 49 rfl rfl
theorem wd4_50 : Cond.methodLink RX5 190 yX1_fastFor ∈ GB := gb_4 50 rfl rfl
theorem wd4_59 : Cond.methodLink RX5 195 yX1_isMember ∈ GB := gb_4 59 rfl rfl
theorem wd4_67 : Cond.methodLink RX5 199 yX5_requireHour ∈ GB := gb_4 67 rfl rfl
theorem wd4_68 : Cond.static yX5_requireHour ∈ GB := gb_4 68 rfl rfl
theorem wd4_69 : Cond.code yX5_requireHour cX5_requireHour 1 none ∈ GB := gb_4 69 rfl rfl
theorem yd_X5_requireHour : yX5_requireHour.cls ≠ "java/lang/invoke/MethodHandle" ∧ yX5_requireHour.cls ≠ "java/lang/invoke/VarHandle" ∧ (parseMethodDescriptor yX5_requireHour.desc).map (fun d => d.parameters.length) = some 1 := by decide +kernel
theorem wd1_57 : Cond.fieldLink RX5 202 RX1 (TX1 10).2.1 (TX1 10).2.2.1 ∈ GB := gb_1 57 rfl rfl
theorem wd4_82 : Cond.methodLink RX5 254 yX5_requireTwo ∈ GB := gb_4 82 rfl rfl
theorem wd4_83 : Cond.static yX5_requireTwo ∈ GB := gb_4 83 rfl rfl
theorem wd4_84 : Cond.code yX5_requireTwo cX5_requireTwo 2 none ∈ GB := gb_4 84 rfl rfl
theorem yd_X5_requireTwo : yX5_requireTwo.cls ≠ "java/lang/invoke/MethodHandle" ∧ yX5_requireTwo.cls ≠ "java/lang/invoke/VarHandle" ∧ (parseMethodDescriptor yX5_requireTwo.desc).map (fun d => d.parameters.length) = some 2 := by decide +kernel
theorem wd4_78 : Cond.methodLink RX5 205 yX5_requireTelling ∈ GB := gb_4 78 rfl rfl
theorem wd4_80 : Cond.instanceMethod yX5_requireTelling ∈ GB := gb_4 80 rfl rfl
theorem wd0_39 : Cond.selects RX5 yX5_requireTelling yX5_requireTelling ∈ GB := gb_0 39 rfl rfl
theorem wd4_81 : Cond.code yX5_requireTelling cX5_requireTelling 4 none ∈ GB := gb_4 81 rfl rfl
theorem yd_X5_requireTelling : yX5_requireTelling.cls ≠ "java/lang/invoke/MethodHandle" ∧ yX5_requireTelling.cls ≠ "java/lang/invoke/VarHandle" ∧ (parseMethodDescriptor yX5_requireTelling.desc).map (fun d => d.parameters.length) = some 3 := by decide +kernel
theorem wd4_86 : Cond.methodLink RX5 209 yX5_requireWithin ∈ GB := gb_4 86 rfl rfl
theorem wd4_87 : Cond.static yX5_requireWithin ∈ GB := gb_4 87 rfl rfl
theorem wd4_88 : Cond.code yX5_requireWithin cX5_requireWithin 3 none ∈ GB := gb_4 88 rfl rfl
theorem yd_X5_requireWithin : yX5_requireWithin.cls ≠ "java/lang/invoke/MethodHandle" ∧ yX5_requireWithin.cls ≠ "java/lang/invoke/VarHandle" ∧ (parseMethodDescriptor yX5_requireWithin.desc).map (fun d => d.parameters.length) = some 3 := by decide +kernel
theorem wd4_90 : Cond.methodLink RX5 212 yX1_tellingReason ∈ GB := gb_4 90 rfl rfl
theorem wd4_91 : Cond.instanceMethod yX1_tellingReason ∈ GB := gb_4 91 rfl rfl
theorem wd4_92 : Cond.selects RX1 yX1_tellingReason yX1_tellingReason ∈ GB := gb_4 92 rfl rfl
theorem wd4_93 : Cond.code yX1_tellingReason cX1_tellingReason 6 (some .int) ∈ GB := gb_4 93 rfl rfl
theorem yd_X1_tellingReason : yX1_tellingReason.cls ≠ "java/lang/invoke/MethodHandle" ∧ yX1_tellingReason.cls ≠ "java/lang/invoke/VarHandle" ∧ (parseMethodDescriptor yX1_tellingReason.desc).map (fun d => d.parameters.length) = some 4 := by decide +kernel
theorem wd4_99 : Cond.methodLink RX5 220 yX1_causeBehind ∈ GB := gb_4 99 rfl rfl
theorem wd4_100 : Cond.instanceMethod yX1_causeBehind ∈ GB := gb_4 100 rfl rfl
theorem wd4_101 : Cond.selects RX1 yX1_causeBehind yX1_causeBehind ∈ GB := gb_4 101 rfl rfl
theorem wd4_102 : Cond.code yX1_causeBehind cX1_causeBehind 4 (some .int) ∈ GB := gb_4 102 rfl rfl
theorem yd_X1_causeBehind : yX1_causeBehind.cls ≠ "java/lang/invoke/MethodHandle" ∧ yX1_causeBehind.cls ≠ "java/lang/invoke/VarHandle" ∧ (parseMethodDescriptor yX1_causeBehind.desc).map (fun d => d.parameters.length) = some 3 := by decide +kernel
theorem wd4_95 : Cond.methodLink RX5 216 yX1_causeOf ∈ GB := gb_4 95 rfl rfl
theorem wd4_96 : Cond.instanceMethod yX1_causeOf ∈ GB := gb_4 96 rfl rfl
theorem wd4_97 : Cond.selects RX1 yX1_causeOf yX1_causeOf ∈ GB := gb_4 97 rfl rfl
theorem wd4_98 : Cond.code yX1_causeOf cX1_causeOf 6 (some .int) ∈ GB := gb_4 98 rfl rfl
theorem yd_X1_causeOf : yX1_causeOf.cls ≠ "java/lang/invoke/MethodHandle" ∧ yX1_causeOf.cls ≠ "java/lang/invoke/VarHandle" ∧ (parseMethodDescriptor yX1_causeOf.desc).map (fun d => d.parameters.length) = some 5 := by decide +kernel
theorem wd1_75 : Cond.fieldLink RX5 224 RX1 (TX1 17).2.1 (TX1 17).2.2.1 ∈ GB := gb_1 75 rfl rfl
theorem wd3_69 : Cond.methodLink RX5 227 yX1_monksAheadOf ∈ GB := gb_3 69 rfl rfl
theorem wd3_70 : Cond.instanceMethod yX1_monksAheadOf ∈ GB := gb_3 70 rfl rfl
theorem wd3_71 : Cond.selects RX1 yX1_monksAheadOf yX1_monksAheadOf ∈ GB := gb_3 71 rfl rfl
theorem wd3_72 : Cond.code yX1_monksAheadOf cX1_monksAheadOf 4 (some .int) ∈ GB := gb_3 72 rfl rfl
theorem yd_X1_monksAheadOf : yX1_monksAheadOf.cls ≠ "java/lang/invoke/MethodHandle" ∧ yX1_monksAheadOf.cls ≠ "java/lang/invoke/VarHandle" ∧ (parseMethodDescriptor yX1_monksAheadOf.desc).map (fun d => d.parameters.length) = some 1 := by decide +kernel
theorem wd4_110 : Cond.methodLink RX5 230 yX1_tellRefusal ∈ GB := gb_4 110 rfl rfl
theorem wd4_111 : Cond.methodLink RX5 233 yX1_costOf ∈ GB := gb_4 111 rfl rfl
theorem wd4_112 : Cond.instanceMethod yX1_costOf ∈ GB := gb_4 112 rfl rfl
theorem wd4_113 : Cond.selects RX1 yX1_costOf yX1_costOf ∈ GB := gb_4 113 rfl rfl
theorem wd4_114 : Cond.code yX1_costOf cX1_costOf 5 (some .int) ∈ GB := gb_4 114 rfl rfl
theorem yd_X1_costOf : yX1_costOf.cls ≠ "java/lang/invoke/MethodHandle" ∧ yX1_costOf.cls ≠ "java/lang/invoke/VarHandle" ∧ (parseMethodDescriptor yX1_costOf.desc).map (fun d => d.parameters.length) = some 3 := by decide +kernel
theorem wd4_122 : Cond.methodLink RX5 236 yX1_fastBehind ∈ GB := gb_4 122 rfl rfl
theorem wd4_123 : Cond.instanceMethod yX1_fastBehind ∈ GB := gb_4 123 rfl rfl
theorem wd4_124 : Cond.selects RX1 yX1_fastBehind yX1_fastBehind ∈ GB := gb_4 124 rfl rfl
theorem wd4_125 : Cond.code yX1_fastBehind cX1_fastBehind 6 (some .int) ∈ GB := gb_4 125 rfl rfl
theorem yd_X1_fastBehind : yX1_fastBehind.cls ≠ "java/lang/invoke/MethodHandle" ∧ yX1_fastBehind.cls ≠ "java/lang/invoke/VarHandle" ∧ (parseMethodDescriptor yX1_fastBehind.desc).map (fun d => d.parameters.length) = some 1 := by decide +kernel
theorem wd3_94 : Cond.methodLink RX5 239 yX1_wantsMetBy ∈ GB := gb_3 94 rfl rfl
theorem wd3_95 : Cond.instanceMethod yX1_wantsMetBy ∈ GB := gb_3 95 rfl rfl
theorem wd3_96 : Cond.selects RX1 yX1_wantsMetBy yX1_wantsMetBy ∈ GB := gb_3 96 rfl rfl
theorem wd3_97 : Cond.code yX1_wantsMetBy cX1_wantsMetBy 4 (some .int) ∈ GB := gb_3 97 rfl rfl
theorem yd_X1_wantsMetBy : yX1_wantsMetBy.cls ≠ "java/lang/invoke/MethodHandle" ∧ yX1_wantsMetBy.cls ≠ "java/lang/invoke/VarHandle" ∧ (parseMethodDescriptor yX1_wantsMetBy.desc).map (fun d => d.parameters.length) = some 1 := by decide +kernel
theorem wd4_140 : Cond.methodLink RX5 242 yX1_wantRefusal ∈ GB := gb_4 140 rfl rfl
theorem wd4_144 : Cond.methodLink RX5 248 yX1_addWant ∈ GB := gb_4 144 rfl rfl
theorem wd4_141 : Cond.methodLink RX5 245 yX5_refusal ∈ GB := gb_4 141 rfl rfl
theorem wd4_142 : Cond.static yX5_refusal ∈ GB := gb_4 142 rfl rfl
theorem wd4_143 : Cond.code yX5_refusal cX5_refusal 1 (some .int) ∈ GB := gb_4 143 rfl rfl
theorem yd_X5_refusal : yX5_refusal.cls ≠ "java/lang/invoke/MethodHandle" ∧ yX5_refusal.cls ≠ "java/lang/invoke/VarHandle" ∧ (parseMethodDescriptor yX5_refusal.desc).map (fun d => d.parameters.length) = some 1 := by decide +kernel
theorem wd4_152 : Cond.methodLink RX5 251 yX1_tellNeed ∈ GB := gb_4 152 rfl rfl
theorem wd4_160 : Cond.methodLink RX5 258 yX1_giveRefusal ∈ GB := gb_4 160 rfl rfl
theorem wd4_161 : Cond.methodLink RX5 261 yX1_giveLeave ∈ GB := gb_4 161 rfl rfl
theorem wd4_169 : Cond.methodLink RX5 264 yX1_passRefusal ∈ GB := gb_4 169 rfl rfl
theorem wd4_170 : Cond.methodLink RX5 267 yX1_passHours ∈ GB := gb_4 170 rfl rfl
theorem wd4_193 : Cond.methodLink RX5 272 yX0_bringBack ∈ GB := gb_4 193 rfl rfl
theorem wd4_194 : Cond.instanceMethod yX0_bringBack ∈ GB := gb_4 194 rfl rfl
theorem wd4_195 : Cond.selects RX0 yX0_bringBack yX0_bringBack ∈ GB := gb_4 195 rfl rfl
theorem wd4_196 : Cond.code yX0_bringBack cX0_bringBack 2 none ∈ GB := gb_4 196 rfl rfl
theorem yd_X0_bringBack : yX0_bringBack.cls ≠ "java/lang/invoke/MethodHandle" ∧ yX0_bringBack.cls ≠ "java/lang/invoke/VarHandle" ∧ (parseMethodDescriptor yX0_bringBack.desc).map (fun d => d.parameters.length) = some 1 := by decide +kernel
theorem wd4_204 : Cond.methodLink RX5 275 yX5_requireSlot ∈ GB := gb_4 204 rfl rfl
theorem wd4_205 : Cond.static yX5_requireSlot ∈ GB := gb_4 205 rfl rfl
theorem wd4_206 : Cond.code yX5_requireSlot cX5_requireSlot 1 none ∈ GB := gb_4 206 rfl rfl
theorem yd_X5_requireSlot : yX5_requireSlot.cls ≠ "java/lang/invoke/MethodHandle" ∧ yX5_requireSlot.cls ≠ "java/lang/invoke/VarHandle" ∧ (parseMethodDescriptor yX5_requireSlot.desc).map (fun d => d.parameters.length) = some 1 := by decide +kernel
theorem wd1_209 : Cond.fieldLink RX5 40 RX5 (TX5 4).2.1 (TX5 4).2.2.1 ∈ GB := gb_1 209 rfl rfl
theorem wd1_210 : Cond.fieldLink RX5 44 RX5 (TX5 5).2.1 (TX5 5).2.2.1 ∈ GB := gb_1 210 rfl rfl
theorem wd1_208 : Cond.fieldLink RX5 36 RX5 (TX5 3).2.1 (TX5 3).2.2.1 ∈ GB := gb_1 208 rfl rfl
theorem wd1_199 : Cond.fieldLink RX5 280 RX4 (TX4 1).2.1 (TX4 1).2.2.1 ∈ GB := gb_1 199 rfl rfl
theorem wd4_223 : Cond.methodLink RX5 281 yX4_addName ∈ GB := gb_4 223 rfl rfl
theorem wd3_102 : Cond.methodLink RX5 284 yX4_addByte ∈ GB := gb_3 102 rfl rfl
theorem wd4_228 : Cond.methodLink RX5 287 yX4_addNeeds ∈ GB := gb_4 228 rfl rfl
theorem wd4_229 : Cond.instanceMethod yX4_addNeeds ∈ GB := gb_4 229 rfl rfl
theorem wd4_230 : Cond.selects RX4 yX4_addNeeds yX4_addNeeds ∈ GB := gb_4 230 rfl rfl
theorem wd4_231 : Cond.code yX4_addNeeds cX4_addNeeds 5 none ∈ GB := gb_4 231 rfl rfl
theorem yd_X4_addNeeds : yX4_addNeeds.cls ≠ "java/lang/invoke/MethodHandle" ∧ yX4_addNeeds.cls ≠ "java/lang/invoke/VarHandle" ∧ (parseMethodDescriptor yX4_addNeeds.desc).map (fun d => d.parameters.length) = some 2 := by decide +kernel
theorem wd3_106 : Cond.methodLink RX5 291 yX4_addNumber ∈ GB := gb_3 106 rfl rfl
theorem wd3_107 : Cond.instanceMethod yX4_addNumber ∈ GB := gb_3 107 rfl rfl
theorem wd3_108 : Cond.selects RX4 yX4_addNumber yX4_addNumber ∈ GB := gb_3 108 rfl rfl
theorem wd3_109 : Cond.code yX4_addNumber cX4_addNumber 5 none ∈ GB := gb_3 109 rfl rfl
theorem yd_X4_addNumber : yX4_addNumber.cls ≠ "java/lang/invoke/MethodHandle" ∧ yX4_addNumber.cls ≠ "java/lang/invoke/VarHandle" ∧ (parseMethodDescriptor yX4_addNumber.desc).map (fun d => d.parameters.length) = some 1 := by decide +kernel
theorem wd1_197 : Cond.fieldLink RX5 299 RX4 (TX4 0).2.1 (TX4 0).2.2.1 ∈ GB := gb_1 197 rfl rfl
noncomputable def f_X5_append (p1 p2 p3 p4 p5 : Int32) (M : Mem) : Option (Nat × Int32 × Mem) := (bnd (f_X3_bytesIn p1 M) (fun r16 => (bnd (f_X3_bytesIn p2 M) (fun r17 => (bnd (f_X3_bytesIn p3 M) (fun r18 => (bnd (f_X3_bytesIn p4 M) (fun r19 => (bnd (f_X3_bytesIn p5 M) (fun r20 => (if ((M 1 2) + ((((r16 + r17) + r18) + r19) + r20)) ≤ 800 then (bnd (f_X3_addBytes p1 M) (fun M22 => (bnd (f_X3_addBytes p2 M22) (fun M24 => (bnd (f_X3_addBytes p3 M24) (fun M26 => (bnd (f_X3_addBytes p4 M26) (fun M28 => (bnd (f_X3_addBytes p5 M28) (fun M30 => (some (0, (M30 1 2), M30)))))))))))) else (some (3, 0, M)))))))))))))
set_option maxHeartbeats 4000000 in
set_option maxRecDepth 100000 in
theorem b_X5_append {p : Program} {l : Launch} {e : Env} {R : Room} {s : State} {m : MethodId} {args : Array Value} {below : List Frame} {meth : Method} {c : Code} {Q : State → Prop} {D : va_G} {cy : Nat → ClassId} {ad : Nat → Nat} {x : SX} (fx : FX p s m args meth c cX5_append 7 (some .int) RX5 D cy ad x) (hR : 6 ≤ R.frames ∧ 90 ≤ R.locals ∧ 1 ≤ R.cells ∧ 6 ≤ R.slots) (p1 p2 p3 p4 p5 : Int32) (M : Mem) (ee : Nat) (z : Int32) (M' : Mem) (hF : f_X5_append p1 p2 p3 p4 p5 M = some (ee, z, M')) {Qc : Array Value → State → Outcome → State → Prop} (hl9 : l.stackTraces = false) (htab : ∀ z ∈ c.exceptionTable.toList, False) (hQ : Q = vx_MQ below Qc (XXW D cy ad s.heap.size ee M') args s 1 6 (AA ad s.heap.size)) (E : ∀ (pc : Nat) (ls : Array Slot) (H : Heap) (locs : List Loc) (v : Int32) (M1 : Mem), decode cX5_append pc = .ok (.ireturn, 1) → WD D cy ad s M1 H locs → some ((0 : Nat), v, M1) = some (ee, z, M') → W p l e R s m args below meth c H locs 1 6 Q (F0 m pc ls [.int v])) (H : Heap) (locs : List Loc) (ls : Array Slot) (hl : lv_has ls 7 [(0, .ref (ad 0)), (1, .int p1), (2, .int p2), (3, .int p3), (4, .int p4), (5, .int p5)]) (hw : WD D cy ad s M H locs) : W p l e R s m args below meth c H locs 0 0 Q (F0 m 0 ls []) := by
  have hx := fx.1.1
  have hb := fx.1.2.1
  have hown := fx.1.2.2.2.1
  have hts := fx.1.2.2.2.2
  unfold f_X5_append at hF
  refine lv_iload_n hx hb dX5_append_0 rfl (lv_at hl 1 rfl) ?_
  obtain ⟨r16, hgr16, hF⟩ := st_bnd hF
  refine g_ci hw (g_runS (As := [.int p1]) (rest := []) fx hw (c_X3_bytesIn l x D cy ad p1 H.size M r16 hgr16) wd3_119 wd3_120 wd1_5 wd3_121 yd_X3_bytesIn rfl rfl (Nat.le_of_ble_eq_true rfl) hl.1 ⟨Nat.le_trans (Nat.le_of_ble_eq_true rfl) hR.1, Nat.le_trans (Nat.le_of_ble_eq_true rfl) hR.2.1⟩ ⟨Nat.le_trans (Nat.le_of_ble_eq_true rfl) hR.2.2.1, Nat.le_trans (Nat.le_of_ble_eq_true rfl) hR.2.2.2⟩ dX5_append_1) (fun H locs hw => ?_)
  refine lv_iload_n hx hb dX5_append_4 rfl (lv_at hl 2 rfl) ?_
  obtain ⟨r17, hgr17, hF⟩ := st_bnd hF
  refine g_ci hw (g_runS (As := [.int p2]) (rest := [.int r16]) fx hw (c_X3_bytesIn l x D cy ad p2 H.size M r17 hgr17) wd3_119 wd3_120 wd1_5 wd3_121 yd_X3_bytesIn rfl rfl (Nat.le_of_ble_eq_true rfl) hl.1 ⟨Nat.le_trans (Nat.le_of_ble_eq_true rfl) hR.1, Nat.le_trans (Nat.le_of_ble_eq_true rfl) hR.2.1⟩ ⟨Nat.le_trans (Nat.le_of_ble_eq_true rfl) hR.2.2.1, Nat.le_trans (Nat.le_of_ble_eq_true rfl) hR.2.2.2⟩ dX5_append_5) (fun H locs hw => ?_)
  refine lv_iadd hx hb dX5_append_8 ?_
  refine lv_iload_n hx hb dX5_append_9 rfl (lv_at hl 3 rfl) ?_
  obtain ⟨r18, hgr18, hF⟩ := st_bnd hF
  refine g_ci hw (g_runS (As := [.int p3]) (rest := [.int (r16 + r17)]) fx hw (c_X3_bytesIn l x D cy ad p3 H.size M r18 hgr18) wd3_119 wd3_120 wd1_5 wd3_121 yd_X3_bytesIn rfl rfl (Nat.le_of_ble_eq_true rfl) hl.1 ⟨Nat.le_trans (Nat.le_of_ble_eq_true rfl) hR.1, Nat.le_trans (Nat.le_of_ble_eq_true rfl) hR.2.1⟩ ⟨Nat.le_trans (Nat.le_of_ble_eq_true rfl) hR.2.2.1, Nat.le_trans (Nat.le_of_ble_eq_true rfl) hR.2.2.2⟩ dX5_append_10) (fun H locs hw => ?_)
  refine lv_iadd hx hb dX5_append_13 ?_
  refine lv_iload hx hb dX5_append_14 (lv_at hl 4 rfl) ?_
  obtain ⟨r19, hgr19, hF⟩ := st_bnd hF
  refine g_ci hw (g_runS (As := [.int p4]) (rest := [.int ((r16 + r17) + r18)]) fx hw (c_X3_bytesIn l x D cy ad p4 H.size M r19 hgr19) wd3_119 wd3_120 wd1_5 wd3_121 yd_X3_bytesIn rfl rfl (Nat.le_of_ble_eq_true rfl) hl.1 ⟨Nat.le_trans (Nat.le_of_ble_eq_true rfl) hR.1, Nat.le_trans (Nat.le_of_ble_eq_true rfl) hR.2.1⟩ ⟨Nat.le_trans (Nat.le_of_ble_eq_true rfl) hR.2.2.1, Nat.le_trans (Nat.le_of_ble_eq_true rfl) hR.2.2.2⟩ dX5_append_16) (fun H locs hw => ?_)
  refine lv_iadd hx hb dX5_append_19 ?_
  refine lv_iload hx hb dX5_append_20 (lv_at hl 5 rfl) ?_
  obtain ⟨r20, hgr20, hF⟩ := st_bnd hF
  refine g_ci hw (g_runS (As := [.int p5]) (rest := [.int (((r16 + r17) + r18) + r19)]) fx hw (c_X3_bytesIn l x D cy ad p5 H.size M r20 hgr20) wd3_119 wd3_120 wd1_5 wd3_121 yd_X3_bytesIn rfl rfl (Nat.le_of_ble_eq_true rfl) hl.1 ⟨Nat.le_trans (Nat.le_of_ble_eq_true rfl) hR.1, Nat.le_trans (Nat.le_of_ble_eq_true rfl) hR.2.1⟩ ⟨Nat.le_trans (Nat.le_of_ble_eq_true rfl) hR.2.2.1, Nat.le_trans (Nat.le_of_ble_eq_true rfl) hR.2.2.2⟩ dX5_append_22) (fun H locs hw => ?_)
  refine lv_iadd hx hb dX5_append_25 ?_
  refine lv_istore (lv' := [(6, .int ((((r16 + r17) + r18) + r19) + r20)), (0, .ref (ad 0)), (1, .int p1), (2, .int p2), (3, .int p3), (4, .int p4), (5, .int p5)]) hx hb dX5_append_26 hl (by decide) rfl (fun ls hl => ?_)
  refine lv_aload_n hx hb dX5_append_28 rfl (lv_at hl 1 rfl) ?_
  refine gX5_get fx hw isO_0 1 (by decide) wd1_206 rfl dX5_append_29 ?_
  refine gX3_get fx hw isO_1 2 (by decide) wd1_147 rfl dX5_append_32 ?_
  refine lv_iload hx hb dX5_append_35 (lv_at hl 0 rfl) ?_
  refine lv_iadd hx hb dX5_append_37 ?_
  refine lv_sipush (v := 800) hx hb dX5_append_38 (by decide) ?_
  refine lv_icmp_le (tgt := 54) hx hb dX5_append_41 (by decide) (fun hc41 => ?_) (fun hc41 => ?_)
  · replace hF := st_t hc41 hF
    refine lv_aload_n hx hb dX5_append_54 rfl (lv_at hl 1 rfl) ?_
    refine gX5_get fx hw isO_0 1 (by decide) wd1_206 rfl dX5_append_55 ?_
    refine lv_iload_n hx hb dX5_append_58 rfl (lv_at hl 2 rfl) ?_
    obtain ⟨M22, hgr21, hF⟩ := st_bnd hF
    refine g_cv hw (g_runV (C := RX3) (As := [.int p1]) (rest := []) fx hw isO_1 rfl (c_X3_addBytes l x D cy ad p1 H.size M M22 hgr21) wd3_189 wd3_190 wd3_191 wd1_5 wd3_192 yd_X3_addBytes rfl rfl (Nat.le_of_ble_eq_true rfl) hl.1 ⟨Nat.le_trans (Nat.le_of_ble_eq_true rfl) hR.1, Nat.le_trans (Nat.le_of_ble_eq_true rfl) hR.2.1⟩ ⟨Nat.le_trans (Nat.le_of_ble_eq_true rfl) hR.2.2.1, Nat.le_trans (Nat.le_of_ble_eq_true rfl) hR.2.2.2⟩ dX5_append_59) (fun H locs hw => ?_)
    refine lv_aload_n hx hb dX5_append_62 rfl (lv_at hl 1 rfl) ?_
    refine gX5_get fx hw isO_0 1 (by decide) wd1_206 rfl dX5_append_63 ?_
    refine lv_iload_n hx hb dX5_append_66 rfl (lv_at hl 3 rfl) ?_
    obtain ⟨M24, hgr23, hF⟩ := st_bnd hF
    refine g_cv hw (g_runV (C := RX3) (As := [.int p2]) (rest := []) fx hw isO_1 rfl (c_X3_addBytes l x D cy ad p2 H.size M22 M24 hgr23) wd3_189 wd3_190 wd3_191 wd1_5 wd3_192 yd_X3_addBytes rfl rfl (Nat.le_of_ble_eq_true rfl) hl.1 ⟨Nat.le_trans (Nat.le_of_ble_eq_true rfl) hR.1, Nat.le_trans (Nat.le_of_ble_eq_true rfl) hR.2.1⟩ ⟨Nat.le_trans (Nat.le_of_ble_eq_true rfl) hR.2.2.1, Nat.le_trans (Nat.le_of_ble_eq_true rfl) hR.2.2.2⟩ dX5_append_67) (fun H locs hw => ?_)
    refine lv_aload_n hx hb dX5_append_70 rfl (lv_at hl 1 rfl) ?_
    refine gX5_get fx hw isO_0 1 (by decide) wd1_206 rfl dX5_append_71 ?_
    refine lv_iload_n hx hb dX5_append_74 rfl (lv_at hl 4 rfl) ?_
    obtain ⟨M26, hgr25, hF⟩ := st_bnd hF
    refine g_cv hw (g_runV (C := RX3) (As := [.int p3]) (rest := []) fx hw isO_1 rfl (c_X3_addBytes l x D cy ad p3 H.size M24 M26 hgr25) wd3_189 wd3_190 wd3_191 wd1_5 wd3_192 yd_X3_addBytes rfl rfl (Nat.le_of_ble_eq_true rfl) hl.1 ⟨Nat.le_trans (Nat.le_of_ble_eq_true rfl) hR.1, Nat.le_trans (Nat.le_of_ble_eq_true rfl) hR.2.1⟩ ⟨Nat.le_trans (Nat.le_of_ble_eq_true rfl) hR.2.2.1, Nat.le_trans (Nat.le_of_ble_eq_true rfl) hR.2.2.2⟩ dX5_append_75) (fun H locs hw => ?_)
    refine lv_aload_n hx hb dX5_append_78 rfl (lv_at hl 1 rfl) ?_
    refine gX5_get fx hw isO_0 1 (by decide) wd1_206 rfl dX5_append_79 ?_
    refine lv_iload hx hb dX5_append_82 (lv_at hl 5 rfl) ?_
    obtain ⟨M28, hgr27, hF⟩ := st_bnd hF
    refine g_cv hw (g_runV (C := RX3) (As := [.int p4]) (rest := []) fx hw isO_1 rfl (c_X3_addBytes l x D cy ad p4 H.size M26 M28 hgr27) wd3_189 wd3_190 wd3_191 wd1_5 wd3_192 yd_X3_addBytes rfl rfl (Nat.le_of_ble_eq_true rfl) hl.1 ⟨Nat.le_trans (Nat.le_of_ble_eq_true rfl) hR.1, Nat.le_trans (Nat.le_of_ble_eq_true rfl) hR.2.1⟩ ⟨Nat.le_trans (Nat.le_of_ble_eq_true rfl) hR.2.2.1, Nat.le_trans (Nat.le_of_ble_eq_true rfl) hR.2.2.2⟩ dX5_append_84) (fun H locs hw => ?_)
    refine lv_aload_n hx hb dX5_append_87 rfl (lv_at hl 1 rfl) ?_
    refine gX5_get fx hw isO_0 1 (by decide) wd1_206 rfl dX5_append_88 ?_
    refine lv_iload hx hb dX5_append_91 (lv_at hl 6 rfl) ?_
    obtain ⟨M30, hgr29, hF⟩ := st_bnd hF
    refine g_cv hw (g_runV (C := RX3) (As := [.int p5]) (rest := []) fx hw isO_1 rfl (c_X3_addBytes l x D cy ad p5 H.size M28 M30 hgr29) wd3_189 wd3_190 wd3_191 wd1_5 wd3_192 yd_X3_addBytes rfl rfl (Nat.le_of_ble_eq_true rfl) hl.1 ⟨Nat.le_trans (Nat.le_of_ble_eq_true rfl) hR.1, Nat.le_trans (Nat.le_of_ble_eq_true rfl) hR.2.1⟩ ⟨Nat.le_trans (Nat.le_of_ble_eq_true rfl) hR.2.2.1, Nat.le_trans (Nat.le_of_ble_eq_true rfl) hR.2.2.2⟩ dX5_append_93) (fun H locs hw => ?_)
    refine lv_aload_n hx hb dX5_append_96 rfl (lv_at hl 1 rfl) ?_
    refine gX5_get fx hw isO_0 1 (by decide) wd1_206 rfl dX5_append_97 ?_
    refine gX3_get fx hw isO_1 2 (by decide) wd1_147 rfl dX5_append_100 ?_
    refine W.widen (k := 1) (n := 6) (Nat.le_of_ble_eq_true rfl) (Nat.le_of_ble_eq_true rfl) ?_
    exact E _ _ _ _ _ _ dX5_append_103 hw hF
  · replace hF := st_f hc41 hF
    rw [hQ]
    exact g_throwS (k := 3) (i := 0) fx hl9 htab hw hF (by decide) (by decide) (by decide) wd3_122 wd1_12 rfl xa_3 xb_3 xg_3 hl.1 dX5_append_44 dX5_append_47 dX5_append_48 dX5_append_50 dX5_append_53 (Nat.le_trans (Nat.le_of_ble_eq_true rfl) hR.1) (Nat.le_trans (Nat.le_of_ble_eq_true rfl) hR.2.1) (Nat.le_trans (Nat.le_of_ble_eq_true rfl) hR.2.2.1) (Nat.le_trans (Nat.le_of_ble_eq_true rfl) hR.2.2.2) (Nat.le_of_ble_eq_true rfl) (Nat.le_of_ble_eq_true rfl)
theorem c_X5_append (l : Launch) (x : SX) (D : va_G) (cy : Nat → ClassId) (ad : Nat → Nat) (p1 p2 p3 p4 p5 : Int32) (sz : Nat) (M : Mem) (ee : Nat) (z : Int32) (M' : Mem) (hl9 : l.stackTraces = false) (hF : f_X5_append p1 p2 p3 p4 p5 M = some (ee, z, M')) : vx_Met l yX5_append (.code yX5_append cX5_append 7 (some .int) :: GB) ({ frames := 6, cells := 1, slots := 6, locals := 90 } : Room) (PcW D cy ad x sz M [.ref (ad 0), .int p1, .int p2, .int p3, .int p4, .int p5]) (QxiW D cy ad sz ee z M') (XXW D cy ad sz ee M') 1 6 (AA ad sz) := by
  refine mk_x (own := RX5) (by decide) rfl (Nat.le_of_ble_eq_true rfl) ?_
  intro p e s m args below meth c ls fx htab hw hl hsz
  subst hsz
  exact b_X5_append fx ⟨Nat.le_refl _, Nat.le_refl _, Nat.le_refl _, Nat.le_refl _⟩ p1 p2 p3 p4 p5 M ee z M' hF hl9 htab rfl (fun pc ls H locs v M1 hd hw h => g_xiret fx hw h hd) _ _ ls hl hw
noncomputable def f_X5_load (M : Mem) : Option (Int32 × Mem) := (bnd2 (f_X3_readText M) (fun r8 M9 => (letM (mput M9 1 2 0) (fun M10 => (if r8 = 0 then (some ((M10 1 3), M10)) else (bnd (f_X0_remember 18 M10) (fun M12 => (bnd (f_X1_copyFrom 18 31 M12) (fun M14 => (some ((M14 18 12), M14)))))))))))
set_option maxHeartbeats 4000000 in
set_option maxRecDepth 100000 in
theorem b_X5_load {p : Program} {l : Launch} {e : Env} {R : Room} {s : State} {m : MethodId} {args : Array Value} {below : List Frame} {meth : Method} {c : Code} {Q : State → Prop} {D : va_G} {cy : Nat → ClassId} {ad : Nat → Nat} {x : SX} (fx : FX p s m args meth c cX5_load 2 (some .int) RX5 D cy ad x) (hR : 9 ≤ R.frames ∧ 192 ≤ R.locals ∧ 0 ≤ R.cells ∧ 0 ≤ R.slots) (M : Mem) (z : Int32) (M' : Mem) (hF : f_X5_load M = some (z, M')) (E : ∀ (pc : Nat) (ls : Array Slot) (H : Heap) (locs : List Loc) (v : Int32) (M1 : Mem), decode cX5_load pc = .ok (.ireturn, 1) → WD D cy ad s M1 H locs → some (v, M1) = some (z, M') → W p l e R s m args below meth c H locs 0 0 Q (F0 m pc ls [.int v])) (H : Heap) (locs : List Loc) (ls : Array Slot) (hl : lv_has ls 2 [(0, .ref (ad 0))]) (hw : WD D cy ad s M H locs) : W p l e R s m args below meth c H locs 0 0 Q (F0 m 0 ls []) := by
  have hx := fx.1.1
  have hb := fx.1.2.1
  have hown := fx.1.2.2.2.1
  have hts := fx.1.2.2.2.2
  unfold f_X5_load at hF
  refine lv_aload_n hx hb dX5_load_0 rfl (lv_at hl 0 rfl) ?_
  refine gX5_get fx hw isO_0 1 (by decide) wd1_206 rfl dX5_load_1 ?_
  obtain ⟨r8, M9, hgr8, hF⟩ := st_bnd2 hF
  refine g_cz hw (g_runV (C := RX3) (As := []) (rest := []) fx hw isO_1 rfl (c_X3_readText l x D cy ad H.size M r8 M9 hgr8) wd1_229 wd1_230 wd1_231 wd1_5 wd1_232 yd_X3_readText rfl rfl (Nat.le_of_ble_eq_true rfl) hl.1 ⟨Nat.le_trans (Nat.le_of_ble_eq_true rfl) hR.1, Nat.le_trans (Nat.le_of_ble_eq_true rfl) hR.2.1⟩ ⟨Nat.le_trans (Nat.le_of_ble_eq_true rfl) hR.2.2.1, Nat.le_trans (Nat.le_of_ble_eq_true rfl) hR.2.2.2⟩ dX5_load_4) (fun H locs hbr8 hw => ?_)
  refine lv_istore_n (lv' := [(1, .int r8), (0, .ref (ad 0))]) hx hb dX5_load_7 rfl hl (by decide) rfl (fun ls hl => ?_)
  refine lv_aload_n hx hb dX5_load_8 rfl (lv_at hl 1 rfl) ?_
  refine gX5_get fx hw isO_0 1 (by decide) wd1_206 rfl dX5_load_9 ?_
  refine lv_iconst (v := 0) hx hb dX5_load_12 (by decide) ?_
  obtain ⟨M10, eM10, hF⟩ := st_letM hF
  refine gX3_put fx hw isO_1 2 (by decide) wd1_147 rfl eM10 rfl (Nat.le_of_ble_eq_true rfl) dX5_load_13 (fun H locs hw => ?_)
  refine lv_iload_n hx hb dX5_load_16 rfl (lv_at hl 0 rfl) ?_
  refine lv_if_ne (tgt := 28) hx hb dX5_load_17 (by decide) (fun hc17 => ?_) (fun hc17 => ?_)
  · replace hF := st_f hc17 hF
    refine lv_aload_n hx hb dX5_load_28 rfl (lv_at hl 1 rfl) ?_
    refine gX5_get fx hw isO_0 2 (by decide) wd1_207 rfl dX5_load_29 ?_
    refine lv_aload_n hx hb dX5_load_32 rfl (lv_at hl 1 rfl) ?_
    refine gX5_get fx hw isO_0 0 (by decide) wd1_205 rfl dX5_load_33 ?_
    obtain ⟨M12, hgr11, hF⟩ := st_bnd hF
    refine g_cv hw (g_runV (C := RX0) (As := [.ref (ad 18)]) (rest := []) fx hw isO_3 rfl (c_X0_remember l x D cy ad 18 isH_18 H.size M10 M12 hgr11) wd3_32 wd3_33 wd3_34 wd1_6 wd3_35 yd_X0_remember rfl rfl (Nat.le_of_ble_eq_true rfl) hl.1 ⟨Nat.le_trans (Nat.le_of_ble_eq_true rfl) hR.1, Nat.le_trans (Nat.le_of_ble_eq_true rfl) hR.2.1⟩ ⟨Nat.le_trans (Nat.le_of_ble_eq_true rfl) hR.2.2.1, Nat.le_trans (Nat.le_of_ble_eq_true rfl) hR.2.2.2⟩ dX5_load_36) (fun H locs hw => ?_)
    refine lv_aload_n hx hb dX5_load_39 rfl (lv_at hl 1 rfl) ?_
    refine gX5_get fx hw isO_0 0 (by decide) wd1_205 rfl dX5_load_40 ?_
    refine lv_aload_n hx hb dX5_load_43 rfl (lv_at hl 1 rfl) ?_
    refine gX5_get fx hw isO_0 1 (by decide) wd1_206 rfl dX5_load_44 ?_
    refine gX3_get fx hw isO_1 1 (by decide) wd1_146 rfl dX5_load_47 ?_
    obtain ⟨M14, hgr13, hF⟩ := st_bnd hF
    refine g_cv hw (g_runV (C := RX1) (As := [.ref (ad 31)]) (rest := []) fx hw isH_18.O rfl (c_X1_copyFrom l x D cy ad 18 31 isH_18 isH_31 H.size M12 M14 hgr13) wd3_43 wd3_37 wd3_38 wd1_2 wd3_39 yd_X1_copyFrom rfl rfl (Nat.le_of_ble_eq_true rfl) hl.1 ⟨Nat.le_trans (Nat.le_of_ble_eq_true rfl) hR.1, Nat.le_trans (Nat.le_of_ble_eq_true rfl) hR.2.1⟩ ⟨Nat.le_trans (Nat.le_of_ble_eq_true rfl) hR.2.2.1, Nat.le_trans (Nat.le_of_ble_eq_true rfl) hR.2.2.2⟩ dX5_load_50) (fun H locs hw => ?_)
    refine lv_aload_n hx hb dX5_load_53 rfl (lv_at hl 1 rfl) ?_
    refine gX5_get fx hw isO_0 0 (by decide) wd1_205 rfl dX5_load_54 ?_
    refine gX1_get fx hw isH_18.O 12 (by decide) wd1_62 rfl dX5_load_57 ?_
    exact E _ _ _ _ _ _ dX5_load_60 hw hF
  · replace hF := st_t hc17 hF
    refine lv_aload_n hx hb dX5_load_20 rfl (lv_at hl 1 rfl) ?_
    refine gX5_get fx hw isO_0 1 (by decide) wd1_206 rfl dX5_load_21 ?_
    refine gX3_get fx hw isO_1 3 (by decide) wd1_149 rfl dX5_load_24 ?_
    exact E _ _ _ _ _ _ dX5_load_27 hw hF
theorem c_X5_load (l : Launch) (x : SX) (D : va_G) (cy : Nat → ClassId) (ad : Nat → Nat) (sz : Nat) (M : Mem) (z : Int32) (M' : Mem) (hF : f_X5_load M = some (z, M')) : Met l yX5_load (.code yX5_load cX5_load 2 (some .int) :: GB) ({ frames := 9, cells := 0, slots := 0, locals := 192 } : Room) (PcW D cy ad x sz M [.ref (ad 0)]) (QiW D cy ad sz z M') 0 0 (AA ad sz) := by
  refine mk_m (own := RX5) (by decide) rfl (Nat.le_of_ble_eq_true rfl) ?_
  intro p e s m args below meth c ls fx hw hl hsz
  subst hsz
  exact b_X5_load fx ⟨Nat.le_refl _, Nat.le_refl _, Nat.le_refl _, Nat.le_refl _⟩ M z M' hF (fun pc ls H locs v M1 hd hw h => by cases h; exact g_iret fx hw rfl hd) _ _ ls hl hw
noncomputable def f_X5_errorPosition (M : Mem) : Option Int32 := (some (M 1 4))
set_option maxHeartbeats 4000000 in
set_option maxRecDepth 100000 in
theorem b_X5_errorPosition {p : Program} {l : Launch} {e : Env} {R : Room} {s : State} {m : MethodId} {args : Array Value} {below : List Frame} {meth : Method} {c : Code} {Q : State → Prop} {D : va_G} {cy : Nat → ClassId} {ad : Nat → Nat} {x : SX} (fx : FX p s m args meth c cX5_errorPosition 1 (some .int) RX5 D cy ad x) (hR : 0 ≤ R.frames ∧ 0 ≤ R.locals ∧ 0 ≤ R.cells ∧ 0 ≤ R.slots) (M : Mem) (z : Int32) (hF : f_X5_errorPosition M = some z) (E : ∀ (pc : Nat) (ls : Array Slot) (H : Heap) (locs : List Loc) (v : Int32), decode cX5_errorPosition pc = .ok (.ireturn, 1) → WD D cy ad s M H locs → some v = some z → W p l e R s m args below meth c H locs 0 0 Q (F0 m pc ls [.int v])) (H : Heap) (locs : List Loc) (ls : Array Slot) (hl : lv_has ls 1 [(0, .ref (ad 0))]) (hw : WD D cy ad s M H locs) : W p l e R s m args below meth c H locs 0 0 Q (F0 m 0 ls []) := by
  have hx := fx.1.1
  have hb := fx.1.2.1
  have hown := fx.1.2.2.2.1
  have hts := fx.1.2.2.2.2
  unfold f_X5_errorPosition at hF
  refine lv_aload_n hx hb dX5_errorPosition_0 rfl (lv_at hl 0 rfl) ?_
  refine gX5_get fx hw isO_0 1 (by decide) wd1_206 rfl dX5_errorPosition_1 ?_
  refine gX3_get fx hw isO_1 4 (by decide) wd1_152 rfl dX5_errorPosition_4 ?_
  exact E _ _ _ _ _ dX5_errorPosition_7 hw hF
theorem c_X5_errorPosition (l : Launch) (x : SX) (D : va_G) (cy : Nat → ClassId) (ad : Nat → Nat) (sz : Nat) (M : Mem) (z : Int32) (hF : f_X5_errorPosition M = some z) : Met l yX5_errorPosition (.code yX5_errorPosition cX5_errorPosition 1 (some .int) :: GB) ({ frames := 0, cells := 0, slots := 0, locals := 0 } : Room) (PcW D cy ad x sz M [.ref (ad 0)]) (QiW D cy ad sz z M) 0 0 (AA ad sz) := by
  refine mk_m (own := RX5) (by decide) rfl (Nat.le_of_ble_eq_true rfl) ?_
  intro p e s m args below meth c ls fx hw hl hsz
  subst hsz
  exact b_X5_errorPosition fx ⟨Nat.le_refl _, Nat.le_refl _, Nat.le_refl _, Nat.le_refl _⟩ M z hF (fun pc ls H locs v hd hw h => by cases h; exact g_iret fx hw rfl hd) _ _ ls hl hw
noncomputable def f_X5_count (p1 : Int32) (M : Mem) : Option (Nat × Int32 × Mem) := (letV p1 (fun y9 => (if y9 = 0 then (some (0, (M 18 12), M)) else (if y9 = 1 then (some (0, (M 18 13), M)) else (if y9 = 2 then (some (0, (M 18 14), M)) else (if y9 = 3 then (some (0, (M 18 15), M)) else (if y9 = 4 then (some (0, (M 18 16), M)) else (if y9 = 5 then (bnd (f_X1_isSpeechAt 18 (irem (M 18 16) 24) M) (fun r10 => (if r10 = 0 then (some (0, 0, M)) else (some (0, 1, M))))) else (if y9 = 6 then (bnd (f_X1_bellCount 18 M) (fun r11 => (some (0, r11, M)))) else (if y9 = 7 then (bnd (f_X1_speechHours 18 (-1) M) (fun r12 => (some (0, r12, M)))) else (if y9 = 8 then (bnd (f_X1_membersOf 18 22 M) (fun r13 => (some (0, r13, M)))) else (if y9 = 9 then (bnd (f_X1_sumOf 18 23 M) (fun r14 => (some (0, r14, M)))) else (if y9 = 10 then (bnd (f_X1_sumOf 18 24 M) (fun r15 => (some (0, r15, M)))) else (if y9 = 11 then (bnd (f_X1_membersOf 18 21 M) (fun r16 => (some (0, r16, M)))) else (if y9 = 12 then (some (0, (M 3 2), M)) else (some (2, 0, M)))))))))))))))))
set_option maxHeartbeats 4000000 in
set_option maxRecDepth 100000 in
theorem b_X5_count {p : Program} {l : Launch} {e : Env} {R : Room} {s : State} {m : MethodId} {args : Array Value} {below : List Frame} {meth : Method} {c : Code} {Q : State → Prop} {D : va_G} {cy : Nat → ClassId} {ad : Nat → Nat} {x : SX} (fx : FX p s m args meth c cX5_count 2 (some .int) RX5 D cy ad x) (hR : 6 ≤ R.frames ∧ 90 ≤ R.locals ∧ 1 ≤ R.cells ∧ 6 ≤ R.slots) (p1 : Int32) (M : Mem) (ee : Nat) (z : Int32) (M' : Mem) (hF : f_X5_count p1 M = some (ee, z, M')) {Qc : Array Value → State → Outcome → State → Prop} (hl9 : l.stackTraces = false) (htab : ∀ z ∈ c.exceptionTable.toList, False) (hQ : Q = vx_MQ below Qc (XXW D cy ad s.heap.size ee M') args s 1 6 (AA ad s.heap.size)) (E : ∀ (pc : Nat) (ls : Array Slot) (H : Heap) (locs : List Loc) (v : Int32) (M1 : Mem), decode cX5_count pc = .ok (.ireturn, 1) → WD D cy ad s M1 H locs → some ((0 : Nat), v, M1) = some (ee, z, M') → W p l e R s m args below meth c H locs 1 6 Q (F0 m pc ls [.int v])) (H : Heap) (locs : List Loc) (ls : Array Slot) (hl : lv_has ls 2 [(0, .ref (ad 0)), (1, .int p1)]) (hw : WD D cy ad s M H locs) : W p l e R s m args below meth c H locs 0 0 Q (F0 m 0 ls []) := by
  have hx := fx.1.1
  have hb := fx.1.2.1
  have hown := fx.1.2.2.2.1
  have hts := fx.1.2.2.2.2
  unfold f_X5_count at hF
  refine lv_iload_n hx hb dX5_count_0 rfl (lv_at hl 1 rfl) ?_
  obtain ⟨y9, ey9, hF⟩ := st_letV hF
  refine g_top ey9 ?_
  by_cases hk1_0 : y9 = 0
  · replace hF := st_t hk1_0 hF
    subst hk1_0
    refine lv_tableIn (off := 67) (tgt := 68) hx hb dX5_count_1 (by decide) (by decide) rfl (by decide) ?_
    refine lv_aload_n hx hb dX5_count_68 rfl (lv_at hl 0 rfl) ?_
    refine gX5_get fx hw isO_0 0 (by decide) wd1_205 rfl dX5_count_69 ?_
    refine gX1_get fx hw isH_18.O 12 (by decide) wd1_62 rfl dX5_count_72 ?_
    refine W.widen (k := 1) (n := 6) (Nat.le_of_ble_eq_true rfl) (Nat.le_of_ble_eq_true rfl) ?_
    exact E _ _ _ _ _ _ dX5_count_75 hw hF
  · replace hF := st_f hk1_0 hF
    by_cases hk1_1 : y9 = 1
    · replace hF := st_t hk1_1 hF
      subst hk1_1
      refine lv_tableIn (off := 75) (tgt := 76) hx hb dX5_count_1 (by decide) (by decide) rfl (by decide) ?_
      refine lv_aload_n hx hb dX5_count_76 rfl (lv_at hl 0 rfl) ?_
      refine gX5_get fx hw isO_0 0 (by decide) wd1_205 rfl dX5_count_77 ?_
      refine gX1_get fx hw isH_18.O 13 (by decide) wd1_65 rfl dX5_count_80 ?_
      refine W.widen (k := 1) (n := 6) (Nat.le_of_ble_eq_true rfl) (Nat.le_of_ble_eq_true rfl) ?_
      exact E _ _ _ _ _ _ dX5_count_83 hw hF
    · replace hF := st_f hk1_1 hF
      by_cases hk1_2 : y9 = 2
      · replace hF := st_t hk1_2 hF
        subst hk1_2
        refine lv_tableIn (off := 83) (tgt := 84) hx hb dX5_count_1 (by decide) (by decide) rfl (by decide) ?_
        refine lv_aload_n hx hb dX5_count_84 rfl (lv_at hl 0 rfl) ?_
        refine gX5_get fx hw isO_0 0 (by decide) wd1_205 rfl dX5_count_85 ?_
        refine gX1_get fx hw isH_18.O 14 (by decide) wd1_67 rfl dX5_count_88 ?_
        refine W.widen (k := 1) (n := 6) (Nat.le_of_ble_eq_true rfl) (Nat.le_of_ble_eq_true rfl) ?_
        exact E _ _ _ _ _ _ dX5_count_91 hw hF
      · replace hF := st_f hk1_2 hF
        by_cases hk1_3 : y9 = 3
        · replace hF := st_t hk1_3 hF
          subst hk1_3
          refine lv_tableIn (off := 91) (tgt := 92) hx hb dX5_count_1 (by decide) (by decide) rfl (by decide) ?_
          refine lv_aload_n hx hb dX5_count_92 rfl (lv_at hl 0 rfl) ?_
          refine gX5_get fx hw isO_0 0 (by decide) wd1_205 rfl dX5_count_93 ?_
          refine gX1_get fx hw isH_18.O 15 (by decide) wd1_70 rfl dX5_count_96 ?_
          refine W.widen (k := 1) (n := 6) (Nat.le_of_ble_eq_true rfl) (Nat.le_of_ble_eq_true rfl) ?_
          exact E _ _ _ _ _ _ dX5_count_99 hw hF
        · replace hF := st_f hk1_3 hF
          by_cases hk1_4 : y9 = 4
          · replace hF := st_t hk1_4 hF
            subst hk1_4
            refine lv_tableIn (off := 99) (tgt := 100) hx hb dX5_count_1 (by decide) (by decide) rfl (by decide) ?_
            refine lv_aload_n hx hb dX5_count_100 rfl (lv_at hl 0 rfl) ?_
            refine gX5_get fx hw isO_0 0 (by decide) wd1_205 rfl dX5_count_101 ?_
            refine gX1_get fx hw isH_18.O 16 (by decide) wd1_73 rfl dX5_count_104 ?_
            refine W.widen (k := 1) (n := 6) (Nat.le_of_ble_eq_true rfl) (Nat.le_of_ble_eq_true rfl) ?_
            exact E _ _ _ _ _ _ dX5_count_107 hw hF
          · replace hF := st_f hk1_4 hF
            by_cases hk1_5 : y9 = 5
            · replace hF := st_t hk1_5 hF
              subst hk1_5
              refine lv_tableIn (off := 107) (tgt := 108) hx hb dX5_count_1 (by decide) (by decide) rfl (by decide) ?_
              refine lv_aload_n hx hb dX5_count_108 rfl (lv_at hl 0 rfl) ?_
              refine gX5_get fx hw isO_0 0 (by decide) wd1_205 rfl dX5_count_109 ?_
              refine lv_aload_n hx hb dX5_count_112 rfl (lv_at hl 0 rfl) ?_
              refine gX5_get fx hw isO_0 0 (by decide) wd1_205 rfl dX5_count_113 ?_
              refine gX1_get fx hw isH_18.O 16 (by decide) wd1_73 rfl dX5_count_116 ?_
              refine lv_bipush (v := 24) hx hb dX5_count_119 (by decide) ?_
              refine g_irem hx hb dX5_count_121 (by decide) ?_
              obtain ⟨r10, hgr10, hF⟩ := st_bnd hF
              refine g_cz hw (g_runV (C := RX1) (As := [.int (irem (M 18 16) 24)]) (rest := []) fx hw isH_18.O rfl (c_X1_isSpeechAt l x D cy ad 18 isH_18 (irem (M 18 16) 24) H.size M r10 hgr10) wd3_81 wd2_196 wd2_197 wd1_2 wd2_198 yd_X1_isSpeechAt rfl rfl (Nat.le_of_ble_eq_true rfl) hl.1 ⟨Nat.le_trans (Nat.le_of_ble_eq_true rfl) hR.1, Nat.le_trans (Nat.le_of_ble_eq_true rfl) hR.2.1⟩ ⟨Nat.le_trans (Nat.le_of_ble_eq_true rfl) hR.2.2.1, Nat.le_trans (Nat.le_of_ble_eq_true rfl) hR.2.2.2⟩ dX5_count_122) (fun H locs hbr10 hw => ?_)
              refine lv_if_eq (tgt := 132) hx hb dX5_count_125 (by decide) (fun hc125 => ?_) (fun hc125 => ?_)
              · replace hF := st_t hc125 hF
                refine lv_iconst (v := 0) hx hb dX5_count_132 (by decide) ?_
                refine W.widen (k := 1) (n := 6) (Nat.le_of_ble_eq_true rfl) (Nat.le_of_ble_eq_true rfl) ?_
                exact E _ _ _ _ _ _ dX5_count_133 hw hF
              · replace hF := st_f hc125 hF
                refine lv_iconst (v := 1) hx hb dX5_count_128 (by decide) ?_
                refine lv_goto (tgt := 133) hx hb dX5_count_129 (by decide) ?_
                refine W.widen (k := 1) (n := 6) (Nat.le_of_ble_eq_true rfl) (Nat.le_of_ble_eq_true rfl) ?_
                exact E _ _ _ _ _ _ dX5_count_133 hw hF
            · replace hF := st_f hk1_5 hF
              by_cases hk1_6 : y9 = 6
              · replace hF := st_t hk1_6 hF
                subst hk1_6
                refine lv_tableIn (off := 133) (tgt := 134) hx hb dX5_count_1 (by decide) (by decide) rfl (by decide) ?_
                refine lv_aload_n hx hb dX5_count_134 rfl (lv_at hl 0 rfl) ?_
                refine gX5_get fx hw isO_0 0 (by decide) wd1_205 rfl dX5_count_135 ?_
                obtain ⟨r11, hgr11, hF⟩ := st_bnd hF
                refine g_ci hw (g_runV (C := RX1) (As := []) (rest := []) fx hw isH_18.O rfl (c_X1_bellCount l x D cy ad 18 isH_18 H.size M r11 hgr11) wd3_201 wd3_202 wd3_203 wd1_2 wd3_204 yd_X1_bellCount rfl rfl (Nat.le_of_ble_eq_true rfl) hl.1 ⟨Nat.le_trans (Nat.le_of_ble_eq_true rfl) hR.1, Nat.le_trans (Nat.le_of_ble_eq_true rfl) hR.2.1⟩ ⟨Nat.le_trans (Nat.le_of_ble_eq_true rfl) hR.2.2.1, Nat.le_trans (Nat.le_of_ble_eq_true rfl) hR.2.2.2⟩ dX5_count_138) (fun H locs hw => ?_)
                refine W.widen (k := 1) (n := 6) (Nat.le_of_ble_eq_true rfl) (Nat.le_of_ble_eq_true rfl) ?_
                exact E _ _ _ _ _ _ dX5_count_141 hw hF
              · replace hF := st_f hk1_6 hF
                by_cases hk1_7 : y9 = 7
                · replace hF := st_t hk1_7 hF
                  subst hk1_7
                  refine lv_tableIn (off := 141) (tgt := 142) hx hb dX5_count_1 (by decide) (by decide) rfl (by decide) ?_
                  refine lv_aload_n hx hb dX5_count_142 rfl (lv_at hl 0 rfl) ?_
                  refine gX5_get fx hw isO_0 0 (by decide) wd1_205 rfl dX5_count_143 ?_
                  refine lv_iconst (v := (-1)) hx hb dX5_count_146 (by decide) ?_
                  obtain ⟨r12, hgr12, hF⟩ := st_bnd hF
                  refine g_ci hw (g_runV (C := RX1) (As := [.int (-1)]) (rest := []) fx hw isH_18.O rfl (c_X1_speechHours l x D cy ad 18 isH_18 (-1) H.size M r12 hgr12) wd3_86 wd3_87 wd3_88 wd1_2 wd3_89 yd_X1_speechHours rfl rfl (Nat.le_of_ble_eq_true rfl) hl.1 ⟨Nat.le_trans (Nat.le_of_ble_eq_true rfl) hR.1, Nat.le_trans (Nat.le_of_ble_eq_true rfl) hR.2.1⟩ ⟨Nat.le_trans (Nat.le_of_ble_eq_true rfl) hR.2.2.1, Nat.le_trans (Nat.le_of_ble_eq_true rfl) hR.2.2.2⟩ dX5_count_147) (fun H locs hw => ?_)
                  refine W.widen (k := 1) (n := 6) (Nat.le_of_ble_eq_true rfl) (Nat.le_of_ble_eq_true rfl) ?_
                  exact E _ _ _ _ _ _ dX5_count_150 hw hF
                · replace hF := st_f hk1_7 hF
                  by_cases hk1_8 : y9 = 8
                  · replace hF := st_t hk1_8 hF
                    subst hk1_8
                    refine lv_tableIn (off := 150) (tgt := 151) hx hb dX5_count_1 (by decide) (by decide) rfl (by decide) ?_
                    refine lv_aload_n hx hb dX5_count_151 rfl (lv_at hl 0 rfl) ?_
                    refine gX5_get fx hw isO_0 0 (by decide) wd1_205 rfl dX5_count_152 ?_
                    refine lv_aload_n hx hb dX5_count_155 rfl (lv_at hl 0 rfl) ?_
                    refine gX5_get fx hw isO_0 0 (by decide) wd1_205 rfl dX5_count_156 ?_
                    refine gX1_get fx hw isH_18.O 3 (by decide) wd1_43 rfl dX5_count_159 ?_
                    obtain ⟨r13, hgr13, hF⟩ := st_bnd hF
                    refine g_ci hw (g_runV (C := RX1) (As := [.ref (ad 22)]) (rest := []) fx hw isH_18.O rfl (c_X1_membersOf l x D cy ad 18 22 isH_18 isH_18.a4 H.size M r13 hgr13) wd3_205 wd3_206 wd3_207 wd1_2 wd3_208 yd_X1_membersOf rfl rfl (Nat.le_of_ble_eq_true rfl) hl.1 ⟨Nat.le_trans (Nat.le_of_ble_eq_true rfl) hR.1, Nat.le_trans (Nat.le_of_ble_eq_true rfl) hR.2.1⟩ ⟨Nat.le_trans (Nat.le_of_ble_eq_true rfl) hR.2.2.1, Nat.le_trans (Nat.le_of_ble_eq_true rfl) hR.2.2.2⟩ dX5_count_162) (fun H locs hw => ?_)
                    refine W.widen (k := 1) (n := 6) (Nat.le_of_ble_eq_true rfl) (Nat.le_of_ble_eq_true rfl) ?_
                    exact E _ _ _ _ _ _ dX5_count_165 hw hF
                  · replace hF := st_f hk1_8 hF
                    by_cases hk1_9 : y9 = 9
                    · replace hF := st_t hk1_9 hF
                      subst hk1_9
                      refine lv_tableIn (off := 165) (tgt := 166) hx hb dX5_count_1 (by decide) (by decide) rfl (by decide) ?_
                      refine lv_aload_n hx hb dX5_count_166 rfl (lv_at hl 0 rfl) ?_
                      refine gX5_get fx hw isO_0 0 (by decide) wd1_205 rfl dX5_count_167 ?_
                      refine lv_aload_n hx hb dX5_count_170 rfl (lv_at hl 0 rfl) ?_
                      refine gX5_get fx hw isO_0 0 (by decide) wd1_205 rfl dX5_count_171 ?_
                      refine gX1_get fx hw isH_18.O 4 (by decide) wd1_45 rfl dX5_count_174 ?_
                      obtain ⟨r14, hgr14, hF⟩ := st_bnd hF
                      refine g_ci hw (g_runV (C := RX1) (As := [.ref (ad 23)]) (rest := []) fx hw isH_18.O rfl (c_X1_sumOf l x D cy ad 18 23 isH_18 isH_18.a5 H.size M r14 hgr14) wd3_53 wd3_54 wd3_55 wd1_2 wd3_56 yd_X1_sumOf rfl rfl (Nat.le_of_ble_eq_true rfl) hl.1 ⟨Nat.le_trans (Nat.le_of_ble_eq_true rfl) hR.1, Nat.le_trans (Nat.le_of_ble_eq_true rfl) hR.2.1⟩ ⟨Nat.le_trans (Nat.le_of_ble_eq_true rfl) hR.2.2.1, Nat.le_trans (Nat.le_of_ble_eq_true rfl) hR.2.2.2⟩ dX5_count_177) (fun H locs hw => ?_)
                      refine W.widen (k := 1) (n := 6) (Nat.le_of_ble_eq_true rfl) (Nat.le_of_ble_eq_true rfl) ?_
                      exact E _ _ _ _ _ _ dX5_count_180 hw hF
                    · replace hF := st_f hk1_9 hF
                      by_cases hk1_10 : y9 = 10
                      · replace hF := st_t hk1_10 hF
                        subst hk1_10
                        refine lv_tableIn (off := 180) (tgt := 181) hx hb dX5_count_1 (by decide) (by decide) rfl (by decide) ?_
                        refine lv_aload_n hx hb dX5_count_181 rfl (lv_at hl 0 rfl) ?_
                        refine gX5_get fx hw isO_0 0 (by decide) wd1_205 rfl dX5_count_182 ?_
                        refine lv_aload_n hx hb dX5_count_185 rfl (lv_at hl 0 rfl) ?_
                        refine gX5_get fx hw isO_0 0 (by decide) wd1_205 rfl dX5_count_186 ?_
                        refine gX1_get fx hw isH_18.O 5 (by decide) wd1_47 rfl dX5_count_189 ?_
                        obtain ⟨r15, hgr15, hF⟩ := st_bnd hF
                        refine g_ci hw (g_runV (C := RX1) (As := [.ref (ad 24)]) (rest := []) fx hw isH_18.O rfl (c_X1_sumOf l x D cy ad 18 24 isH_18 isH_18.a6 H.size M r15 hgr15) wd3_53 wd3_54 wd3_55 wd1_2 wd3_56 yd_X1_sumOf rfl rfl (Nat.le_of_ble_eq_true rfl) hl.1 ⟨Nat.le_trans (Nat.le_of_ble_eq_true rfl) hR.1, Nat.le_trans (Nat.le_of_ble_eq_true rfl) hR.2.1⟩ ⟨Nat.le_trans (Nat.le_of_ble_eq_true rfl) hR.2.2.1, Nat.le_trans (Nat.le_of_ble_eq_true rfl) hR.2.2.2⟩ dX5_count_192) (fun H locs hw => ?_)
                        refine W.widen (k := 1) (n := 6) (Nat.le_of_ble_eq_true rfl) (Nat.le_of_ble_eq_true rfl) ?_
                        exact E _ _ _ _ _ _ dX5_count_195 hw hF
                      · replace hF := st_f hk1_10 hF
                        by_cases hk1_11 : y9 = 11
                        · replace hF := st_t hk1_11 hF
                          subst hk1_11
                          refine lv_tableIn (off := 195) (tgt := 196) hx hb dX5_count_1 (by decide) (by decide) rfl (by decide) ?_
                          refine lv_aload_n hx hb dX5_count_196 rfl (lv_at hl 0 rfl) ?_
                          refine gX5_get fx hw isO_0 0 (by decide) wd1_205 rfl dX5_count_197 ?_
                          refine lv_aload_n hx hb dX5_count_200 rfl (lv_at hl 0 rfl) ?_
                          refine gX5_get fx hw isO_0 0 (by decide) wd1_205 rfl dX5_count_201 ?_
                          refine gX1_get fx hw isH_18.O 2 (by decide) wd1_41 rfl dX5_count_204 ?_
                          obtain ⟨r16, hgr16, hF⟩ := st_bnd hF
                          refine g_ci hw (g_runV (C := RX1) (As := [.ref (ad 21)]) (rest := []) fx hw isH_18.O rfl (c_X1_membersOf l x D cy ad 18 21 isH_18 isH_18.a3 H.size M r16 hgr16) wd3_205 wd3_206 wd3_207 wd1_2 wd3_208 yd_X1_membersOf rfl rfl (Nat.le_of_ble_eq_true rfl) hl.1 ⟨Nat.le_trans (Nat.le_of_ble_eq_true rfl) hR.1, Nat.le_trans (Nat.le_of_ble_eq_true rfl) hR.2.1⟩ ⟨Nat.le_trans (Nat.le_of_ble_eq_true rfl) hR.2.2.1, Nat.le_trans (Nat.le_of_ble_eq_true rfl) hR.2.2.2⟩ dX5_count_207) (fun H locs hw => ?_)
                          refine W.widen (k := 1) (n := 6) (Nat.le_of_ble_eq_true rfl) (Nat.le_of_ble_eq_true rfl) ?_
                          exact E _ _ _ _ _ _ dX5_count_210 hw hF
                        · replace hF := st_f hk1_11 hF
                          by_cases hk1_12 : y9 = 12
                          · replace hF := st_t hk1_12 hF
                            subst hk1_12
                            refine lv_tableIn (off := 210) (tgt := 211) hx hb dX5_count_1 (by decide) (by decide) rfl (by decide) ?_
                            refine lv_aload_n hx hb dX5_count_211 rfl (lv_at hl 0 rfl) ?_
                            refine gX5_get fx hw isO_0 2 (by decide) wd1_207 rfl dX5_count_212 ?_
                            refine gX0_get fx hw isO_3 2 (by decide) wd1_182 rfl dX5_count_215 ?_
                            refine W.widen (k := 1) (n := 6) (Nat.le_of_ble_eq_true rfl) (Nat.le_of_ble_eq_true rfl) ?_
                            exact E _ _ _ _ _ _ dX5_count_218 hw hF
                          · replace hF := st_f hk1_12 hF
                            refine lv_tableOut (tgt := 219) hx hb dX5_count_1 (by have e_0 := lv_neT (a := 0) hk1_0 (by decide); have e_1 := lv_neT (a := 1) hk1_1 (by decide); have e_2 := lv_neT (a := 2) hk1_2 (by decide); have e_3 := lv_neT (a := 3) hk1_3 (by decide); have e_4 := lv_neT (a := 4) hk1_4 (by decide); have e_5 := lv_neT (a := 5) hk1_5 (by decide); have e_6 := lv_neT (a := 6) hk1_6 (by decide); have e_7 := lv_neT (a := 7) hk1_7 (by decide); have e_8 := lv_neT (a := 8) hk1_8 (by decide); have e_9 := lv_neT (a := 9) hk1_9 (by decide); have e_10 := lv_neT (a := 10) hk1_10 (by decide); have e_11 := lv_neT (a := 11) hk1_11 (by decide); have e_12 := lv_neT (a := 12) hk1_12 (by decide); omega) (by decide) ?_
                            rw [hQ]
                            exact g_throwS (k := 2) (i := 1) fx hl9 htab hw hF (by decide) (by decide) (by decide) wd3_209 wd1_20 rfl xa_2 xb_2 xg_2 hl.1 dX5_count_219 dX5_count_222 dX5_count_223 dX5_count_225 dX5_count_228 (Nat.le_trans (Nat.le_of_ble_eq_true rfl) hR.1) (Nat.le_trans (Nat.le_of_ble_eq_true rfl) hR.2.1) (Nat.le_trans (Nat.le_of_ble_eq_true rfl) hR.2.2.1) (Nat.le_trans (Nat.le_of_ble_eq_true rfl) hR.2.2.2) (Nat.le_of_ble_eq_true rfl) (Nat.le_of_ble_eq_true rfl)
theorem c_X5_count (l : Launch) (x : SX) (D : va_G) (cy : Nat → ClassId) (ad : Nat → Nat) (p1 : Int32) (sz : Nat) (M : Mem) (ee : Nat) (z : Int32) (M' : Mem) (hl9 : l.stackTraces = false) (hF : f_X5_count p1 M = some (ee, z, M')) : vx_Met l yX5_count (.code yX5_count cX5_count 2 (some .int) :: GB) ({ frames := 6, cells := 1, slots := 6, locals := 90 } : Room) (PcW D cy ad x sz M [.ref (ad 0), .int p1]) (QxiW D cy ad sz ee z M') (XXW D cy ad sz ee M') 1 6 (AA ad sz) := by
  refine mk_x (own := RX5) (by decide) rfl (Nat.le_of_ble_eq_true rfl) ?_
  intro p e s m args below meth c ls fx htab hw hl hsz
  subst hsz
  exact b_X5_count fx ⟨Nat.le_refl _, Nat.le_refl _, Nat.le_refl _, Nat.le_refl _⟩ p1 M ee z M' hF hl9 htab rfl (fun pc ls H locs v M1 hd hw h => g_xiret fx hw h hd) _ _ ls hl hw
noncomputable def f_X5_account_10 : Mem → Option (Nat × Int32 × Mem) := fun M => (some (2, 0, M))
noncomputable def f_X5_account (p1 : Int32) (M : Mem) : Option (Nat × Int32 × Mem) := (if p1 < 0 then ((f_X5_account_10) M) else (if p1 < 14 then (chk (inB p1 14) (some (0, (M 30 (ix p1)), M))) else ((f_X5_account_10) M)))
set_option maxHeartbeats 4000000 in
set_option maxRecDepth 100000 in
theorem b_X5_account {p : Program} {l : Launch} {e : Env} {R : Room} {s : State} {m : MethodId} {args : Array Value} {below : List Frame} {meth : Method} {c : Code} {Q : State → Prop} {D : va_G} {cy : Nat → ClassId} {ad : Nat → Nat} {x : SX} (fx : FX p s m args meth c cX5_account 2 (some .int) RX5 D cy ad x) (hR : 6 ≤ R.frames ∧ 90 ≤ R.locals ∧ 1 ≤ R.cells ∧ 6 ≤ R.slots) (p1 : Int32) (M : Mem) (ee : Nat) (z : Int32) (M' : Mem) (hF : f_X5_account p1 M = some (ee, z, M')) {Qc : Array Value → State → Outcome → State → Prop} (hl9 : l.stackTraces = false) (htab : ∀ z ∈ c.exceptionTable.toList, False) (hQ : Q = vx_MQ below Qc (XXW D cy ad s.heap.size ee M') args s 1 6 (AA ad s.heap.size)) (E : ∀ (pc : Nat) (ls : Array Slot) (H : Heap) (locs : List Loc) (v : Int32) (M1 : Mem), decode cX5_account pc = .ok (.ireturn, 1) → WD D cy ad s M1 H locs → some ((0 : Nat), v, M1) = some (ee, z, M') → W p l e R s m args below meth c H locs 1 6 Q (F0 m pc ls [.int v])) (H : Heap) (locs : List Loc) (ls : Array Slot) (hl : lv_has ls 2 [(0, .ref (ad 0)), (1, .int p1)]) (hw : WD D cy ad s M H locs) : W p l e R s m args below meth c H locs 0 0 Q (F0 m 0 ls []) := by
  have hx := fx.1.1
  have hb := fx.1.2.1
  have hown := fx.1.2.2.2.1
  have hts := fx.1.2.2.2.2
  have n_10 : ∀ (M : Mem) (H : Heap) (locs : List Loc) (ls : Array Slot), lv_has ls 2 [] → WD D cy ad s M H locs → f_X5_account_10 M = some (ee, z, M') → W p l e R s m args below meth c H locs 0 0 Q (F0 m 10 ls []) := by
    intro M H locs ls hl hw hF
    unfold f_X5_account_10 at hF
    rw [hQ]
    exact g_throwS (k := 2) (i := 2) fx hl9 htab hw hF (by decide) (by decide) (by decide) wd3_209 wd1_20 rfl xa_2 xb_2 xg_2 hl.1 dX5_account_10 dX5_account_13 dX5_account_14 dX5_account_16 dX5_account_19 (Nat.le_trans (Nat.le_of_ble_eq_true rfl) hR.1) (Nat.le_trans (Nat.le_of_ble_eq_true rfl) hR.2.1) (Nat.le_trans (Nat.le_of_ble_eq_true rfl) hR.2.2.1) (Nat.le_trans (Nat.le_of_ble_eq_true rfl) hR.2.2.2) (Nat.le_of_ble_eq_true rfl) (Nat.le_of_ble_eq_true rfl)
  unfold f_X5_account at hF
  refine lv_iload_n hx hb dX5_account_0 rfl (lv_at hl 1 rfl) ?_
  refine lv_if_lt (tgt := 10) hx hb dX5_account_1 (by decide) (fun hc1 => ?_) (fun hc1 => ?_)
  · replace hF := st_t hc1 hF
    exact n_10 M H locs ls (lv_sub hl [] rfl) hw hF
  · replace hF := st_f hc1 hF
    refine lv_iload_n hx hb dX5_account_4 rfl (lv_at hl 1 rfl) ?_
    refine lv_bipush (v := 14) hx hb dX5_account_5 (by decide) ?_
    refine lv_icmp_lt (tgt := 20) hx hb dX5_account_7 (by decide) (fun hc7 => ?_) (fun hc7 => ?_)
    · replace hF := st_t hc7 hF
      refine lv_aload_n hx hb dX5_account_20 rfl (lv_at hl 0 rfl) ?_
      refine gX5_get fx hw isO_0 0 (by decide) wd1_205 rfl dX5_account_21 ?_
      refine gX1_get fx hw isH_18.O 11 (by decide) wd1_60 rfl dX5_account_24 ?_
      refine lv_iload_n hx hb dX5_account_27 rfl (lv_at hl 1 rfl) ?_
      obtain ⟨hi3, hF⟩ := st_chk hF
      refine g_iald fx hw isH_18.a12 hi3 dX5_account_28 ?_
      refine W.widen (k := 1) (n := 6) (Nat.le_of_ble_eq_true rfl) (Nat.le_of_ble_eq_true rfl) ?_
      exact E _ _ _ _ _ _ dX5_account_29 hw hF
    · replace hF := st_f hc7 hF
      exact n_10 M H locs ls (lv_sub hl [] rfl) hw hF
theorem c_X5_account (l : Launch) (x : SX) (D : va_G) (cy : Nat → ClassId) (ad : Nat → Nat) (p1 : Int32) (sz : Nat) (M : Mem) (ee : Nat) (z : Int32) (M' : Mem) (hl9 : l.stackTraces = false) (hF : f_X5_account p1 M = some (ee, z, M')) : vx_Met l yX5_account (.code yX5_account cX5_account 2 (some .int) :: GB) ({ frames := 6, cells := 1, slots := 6, locals := 90 } : Room) (PcW D cy ad x sz M [.ref (ad 0), .int p1]) (QxiW D cy ad sz ee z M') (XXW D cy ad sz ee M') 1 6 (AA ad sz) := by
  refine mk_x (own := RX5) (by decide) rfl (Nat.le_of_ble_eq_true rfl) ?_
  intro p e s m args below meth c ls fx htab hw hl hsz
  subst hsz
  exact b_X5_account fx ⟨Nat.le_refl _, Nat.le_refl _, Nat.le_refl _, Nat.le_refl _⟩ p1 M ee z M' hF hl9 htab rfl (fun pc ls H locs v M1 hd hw h => g_xiret fx hw h hd) _ _ ls hl hw
noncomputable def f_X5_requireMonk_15 : Mem → Option (Nat × Int32 × Mem) := fun M => (some (1, 0, M))
noncomputable def f_X5_requireMonk (p1 : Int32) (M : Mem) : Option (Nat × Int32 × Mem) := (if p1 < 0 then ((f_X5_requireMonk_15) M) else (if p1 < (M 18 12) then (some (0, 0, M)) else ((f_X5_requireMonk_15) M)))
set_option maxHeartbeats 4000000 in
set_option maxRecDepth 100000 in
theorem b_X5_requireMonk {p : Program} {l : Launch} {e : Env} {R : Room} {s : State} {m : MethodId} {args : Array Value} {below : List Frame} {meth : Method} {c : Code} {Q : State → Prop} {D : va_G} {cy : Nat → ClassId} {ad : Nat → Nat} {x : SX} (fx : FX p s m args meth c cX5_requireMonk 2 none RX5 D cy ad x) (hR : 6 ≤ R.frames ∧ 90 ≤ R.locals ∧ 1 ≤ R.cells ∧ 6 ≤ R.slots) (p1 : Int32) (M : Mem) (ee : Nat) (z : Int32) (M' : Mem) (hF : f_X5_requireMonk p1 M = some (ee, z, M')) {Qc : Array Value → State → Outcome → State → Prop} (hl9 : l.stackTraces = false) (htab : ∀ z ∈ c.exceptionTable.toList, False) (hQ : Q = vx_MQ below Qc (XXW D cy ad s.heap.size ee M') args s 1 6 (AA ad s.heap.size)) (E : ∀ (pc : Nat) (ls : Array Slot) (H : Heap) (locs : List Loc) (M1 : Mem), decode cX5_requireMonk pc = .ok (.return_, 1) → WD D cy ad s M1 H locs → some ((0 : Nat), (0 : Int32), M1) = some (ee, z, M') → W p l e R s m args below meth c H locs 1 6 Q (F0 m pc ls [])) (H : Heap) (locs : List Loc) (ls : Array Slot) (hl : lv_has ls 2 [(0, .ref (ad 0)), (1, .int p1)]) (hw : WD D cy ad s M H locs) : W p l e R s m args below meth c H locs 0 0 Q (F0 m 0 ls []) := by
  have hx := fx.1.1
  have hb := fx.1.2.1
  have hown := fx.1.2.2.2.1
  have hts := fx.1.2.2.2.2
  have n_15 : ∀ (M : Mem) (H : Heap) (locs : List Loc) (ls : Array Slot), lv_has ls 2 [] → WD D cy ad s M H locs → f_X5_requireMonk_15 M = some (ee, z, M') → W p l e R s m args below meth c H locs 0 0 Q (F0 m 15 ls []) := by
    intro M H locs ls hl hw hF
    unfold f_X5_requireMonk_15 at hF
    rw [hQ]
    exact g_throwSW (k := 1) (i := 8) fx hl9 htab hw hF (by decide) (by decide) (by decide) wd4_5 wd1_21 rfl xa_1 xb_1 xg_1 hl.1 dX5_requireMonk_15 dX5_requireMonk_18 dX5_requireMonk_19 dX5_requireMonk_22 dX5_requireMonk_25 (Nat.le_trans (Nat.le_of_ble_eq_true rfl) hR.1) (Nat.le_trans (Nat.le_of_ble_eq_true rfl) hR.2.1) (Nat.le_trans (Nat.le_of_ble_eq_true rfl) hR.2.2.1) (Nat.le_trans (Nat.le_of_ble_eq_true rfl) hR.2.2.2) (Nat.le_of_ble_eq_true rfl) (Nat.le_of_ble_eq_true rfl)
  unfold f_X5_requireMonk at hF
  refine lv_iload_n hx hb dX5_requireMonk_0 rfl (lv_at hl 1 rfl) ?_
  refine lv_if_lt (tgt := 15) hx hb dX5_requireMonk_1 (by decide) (fun hc1 => ?_) (fun hc1 => ?_)
  · replace hF := st_t hc1 hF
    exact n_15 M H locs ls (lv_sub hl [] rfl) hw hF
  · replace hF := st_f hc1 hF
    refine lv_iload_n hx hb dX5_requireMonk_4 rfl (lv_at hl 1 rfl) ?_
    refine lv_aload_n hx hb dX5_requireMonk_5 rfl (lv_at hl 0 rfl) ?_
    refine gX5_get fx hw isO_0 0 (by decide) wd1_205 rfl dX5_requireMonk_6 ?_
    refine gX1_get fx hw isH_18.O 12 (by decide) wd1_62 rfl dX5_requireMonk_9 ?_
    refine lv_icmp_lt (tgt := 26) hx hb dX5_requireMonk_12 (by decide) (fun hc12 => ?_) (fun hc12 => ?_)
    · replace hF := st_t hc12 hF
      refine W.widen (k := 1) (n := 6) (Nat.le_of_ble_eq_true rfl) (Nat.le_of_ble_eq_true rfl) ?_
      exact E _ _ _ _ _ dX5_requireMonk_26 hw hF
    · replace hF := st_f hc12 hF
      exact n_15 M H locs ls (lv_sub hl [] rfl) hw hF
theorem c_X5_requireMonk (l : Launch) (x : SX) (D : va_G) (cy : Nat → ClassId) (ad : Nat → Nat) (p1 : Int32) (sz : Nat) (M : Mem) (ee : Nat) (z : Int32) (M' : Mem) (hl9 : l.stackTraces = false) (hF : f_X5_requireMonk p1 M = some (ee, z, M')) : vx_Met l yX5_requireMonk (.code yX5_requireMonk cX5_requireMonk 2 none :: GB) ({ frames := 6, cells := 1, slots := 6, locals := 90 } : Room) (PcW D cy ad x sz M [.ref (ad 0), .int p1]) (QxvW D cy ad sz ee M') (XXW D cy ad sz ee M') 1 6 (AA ad sz) := by
  refine mk_x (own := RX5) (by decide) rfl (Nat.le_of_ble_eq_true rfl) ?_
  intro p e s m args below meth c ls fx htab hw hl hsz
  subst hsz
  exact b_X5_requireMonk fx ⟨Nat.le_refl _, Nat.le_refl _, Nat.le_refl _, Nat.le_refl _⟩ p1 M ee z M' hF hl9 htab rfl (fun pc ls H locs M1 hd hw h => g_xvret fx hw h hd) _ _ ls hl hw
noncomputable def f_X5_monk (p1 p2 : Int32) (M : Mem) : Option (Nat × Int32 × Mem) := (bnd3 (f_X5_requireMonk p1 M) (fun er16 r16 M17 => (if er16 = 0 then (letV p2 (fun y18 => (if y18 = 0 then (chk (inB p1 12) (some (0, (M17 20 (ix p1)), M17))) else (if y18 = 1 then (chk (inB p1 12) (some (0, (M17 23 (ix p1)), M17))) else (if y18 = 2 then (chk (inB p1 12) (some (0, (M17 24 (ix p1)), M17))) else (if y18 = 3 then (chk (inB p1 12) (some (0, (M17 25 (ix p1)), M17))) else (if y18 = 4 then (chk (inB p1 12) (some (0, (M17 26 (ix p1)), M17))) else (if y18 = 5 then (chk (inB p1 12) (bnd (f_J6_bitCount_0f7a4 (M17 21 (ix p1)) M17) (fun r25 => (some (0, r25, M17))))) else (if y18 = 6 then (chk (inB p1 12) (bnd (f_J6_bitCount_0f7a4 (M17 22 (ix p1)) M17) (fun r27 => (some (0, r27, M17))))) else (if y18 = 7 then (bnd (f_X1_othersWhoKnowAllOf 18 p1 M17) (fun r28 => (some (0, r28, M17)))) else (if y18 = 8 then (chk (inB p1 12) (bnd (f_X2_lettersIn (M17 19 (ix p1)) M17) (fun r30 => (some (0, r30, M17))))) else (some (2, 0, M17))))))))))))) else (some (er16, 0, M17)))))
set_option maxHeartbeats 4000000 in
set_option maxRecDepth 100000 in
theorem b_X5_monk {p : Program} {l : Launch} {e : Env} {R : Room} {s : State} {m : MethodId} {args : Array Value} {below : List Frame} {meth : Method} {c : Code} {Q : State → Prop} {D : va_G} {cy : Nat → ClassId} {ad : Nat → Nat} {x : SX} (fx : FX p s m args meth c cX5_monk 3 (some .int) RX5 D cy ad x) (hR : 7 ≤ R.frames ∧ 111 ≤ R.locals ∧ 2 ≤ R.cells ∧ 12 ≤ R.slots) (p1 p2 : Int32) (M : Mem) (ee : Nat) (z : Int32) (M' : Mem) (hF : f_X5_monk p1 p2 M = some (ee, z, M')) {Qc : Array Value → State → Outcome → State → Prop} (hl9 : l.stackTraces = false) (htab : ∀ z ∈ c.exceptionTable.toList, False) (hQ : Q = vx_MQ below Qc (XXW D cy ad s.heap.size ee M') args s 2 12 (AA ad s.heap.size)) (E : ∀ (pc : Nat) (ls : Array Slot) (H : Heap) (locs : List Loc) (v : Int32) (M1 : Mem), decode cX5_monk pc = .ok (.ireturn, 1) → WD D cy ad s M1 H locs → some ((0 : Nat), v, M1) = some (ee, z, M') → W p l e R s m args below meth c H locs 2 12 Q (F0 m pc ls [.int v])) (H : Heap) (locs : List Loc) (ls : Array Slot) (hl : lv_has ls 3 [(0, .ref (ad 0)), (1, .int p1), (2, .int p2)]) (hw : WD D cy ad s M H locs) : W p l e R s m args below meth c H locs 0 0 Q (F0 m 0 ls []) := by
  have hx := fx.1.1
  have hb := fx.1.2.1
  have hown := fx.1.2.2.2.1
  have hts := fx.1.2.2.2.2
  unfold f_X5_monk at hF
  refine lv_aload_n hx hb dX5_monk_0 rfl (lv_at hl 0 rfl) ?_
  refine lv_iload_n hx hb dX5_monk_1 rfl (lv_at hl 1 rfl) ?_
  obtain ⟨er16, r16, M17, hgr16, hF⟩ := st_bnd3 hF
  refine g_xcv hw (g_xrunV (C := RX5) (As := [.int p1]) (rest := []) fx hw isO_0 rfl (c_X5_requireMonk l x D cy ad p1 H.size M er16 r16 M17 hl9 hgr16) wd4_1 wd4_3 wd0_37 wd1_1 wd4_4 yd_X5_requireMonk rfl rfl (Nat.le_of_ble_eq_true rfl) hl.1 ⟨Nat.le_trans (Nat.le_of_ble_eq_true rfl) hR.1, Nat.le_trans (Nat.le_of_ble_eq_true rfl) hR.2.1⟩ ⟨Nat.le_trans (Nat.le_of_ble_eq_true rfl) hR.2.2.1, Nat.le_trans (Nat.le_of_ble_eq_true rfl) hR.2.2.2⟩ dX5_monk_2) (fun her16 ce q9 H locs hw hce hcv hcl => ?_) (fun her16 H locs hw => ?_)
  · replace hF := st_f her16 hF
    rw [hQ]
    exact g_xout fx htab hw hF her16 hce hcv hcl (Nat.le_of_ble_eq_true rfl) (Nat.le_of_ble_eq_true rfl)
  · replace hF := st_t her16 hF
    refine lv_iload_n hx hb dX5_monk_5 rfl (lv_at hl 2 rfl) ?_
    obtain ⟨y18, ey18, hF⟩ := st_letV hF
    refine g_top ey18 ?_
    by_cases hk6_0 : y18 = 0
    · replace hF := st_t hk6_0 hF
      subst hk6_0
      refine lv_tableIn (off := 50) (tgt := 56) hx hb dX5_monk_6 (by decide) (by decide) rfl (by decide) ?_
      refine lv_aload_n hx hb dX5_monk_56 rfl (lv_at hl 0 rfl) ?_
      refine gX5_get fx hw isO_0 0 (by decide) wd1_205 rfl dX5_monk_57 ?_
      refine gX1_get fx hw isH_18.O 1 (by decide) wd1_39 rfl dX5_monk_60 ?_
      refine lv_iload_n hx hb dX5_monk_63 rfl (lv_at hl 1 rfl) ?_
      obtain ⟨hi19, hF⟩ := st_chk hF
      refine g_iald fx hw isH_18.a2 hi19 dX5_monk_64 ?_
      refine W.widen (k := 2) (n := 12) (Nat.le_of_ble_eq_true rfl) (Nat.le_of_ble_eq_true rfl) ?_
      exact E _ _ _ _ _ _ dX5_monk_65 hw hF
    · replace hF := st_f hk6_0 hF
      by_cases hk6_1 : y18 = 1
      · replace hF := st_t hk6_1 hF
        subst hk6_1
        refine lv_tableIn (off := 60) (tgt := 66) hx hb dX5_monk_6 (by decide) (by decide) rfl (by decide) ?_
        refine lv_aload_n hx hb dX5_monk_66 rfl (lv_at hl 0 rfl) ?_
        refine gX5_get fx hw isO_0 0 (by decide) wd1_205 rfl dX5_monk_67 ?_
        refine gX1_get fx hw isH_18.O 4 (by decide) wd1_45 rfl dX5_monk_70 ?_
        refine lv_iload_n hx hb dX5_monk_73 rfl (lv_at hl 1 rfl) ?_
        obtain ⟨hi20, hF⟩ := st_chk hF
        refine g_iald fx hw isH_18.a5 hi20 dX5_monk_74 ?_
        refine W.widen (k := 2) (n := 12) (Nat.le_of_ble_eq_true rfl) (Nat.le_of_ble_eq_true rfl) ?_
        exact E _ _ _ _ _ _ dX5_monk_75 hw hF
      · replace hF := st_f hk6_1 hF
        by_cases hk6_2 : y18 = 2
        · replace hF := st_t hk6_2 hF
          subst hk6_2
          refine lv_tableIn (off := 70) (tgt := 76) hx hb dX5_monk_6 (by decide) (by decide) rfl (by decide) ?_
          refine lv_aload_n hx hb dX5_monk_76 rfl (lv_at hl 0 rfl) ?_
          refine gX5_get fx hw isO_0 0 (by decide) wd1_205 rfl dX5_monk_77 ?_
          refine gX1_get fx hw isH_18.O 5 (by decide) wd1_47 rfl dX5_monk_80 ?_
          refine lv_iload_n hx hb dX5_monk_83 rfl (lv_at hl 1 rfl) ?_
          obtain ⟨hi21, hF⟩ := st_chk hF
          refine g_iald fx hw isH_18.a6 hi21 dX5_monk_84 ?_
          refine W.widen (k := 2) (n := 12) (Nat.le_of_ble_eq_true rfl) (Nat.le_of_ble_eq_true rfl) ?_
          exact E _ _ _ _ _ _ dX5_monk_85 hw hF
        · replace hF := st_f hk6_2 hF
          by_cases hk6_3 : y18 = 3
          · replace hF := st_t hk6_3 hF
            subst hk6_3
            refine lv_tableIn (off := 80) (tgt := 86) hx hb dX5_monk_6 (by decide) (by decide) rfl (by decide) ?_
            refine lv_aload_n hx hb dX5_monk_86 rfl (lv_at hl 0 rfl) ?_
            refine gX5_get fx hw isO_0 0 (by decide) wd1_205 rfl dX5_monk_87 ?_
            refine gX1_get fx hw isH_18.O 6 (by decide) wd1_49 rfl dX5_monk_90 ?_
            refine lv_iload_n hx hb dX5_monk_93 rfl (lv_at hl 1 rfl) ?_
            obtain ⟨hi22, hF⟩ := st_chk hF
            refine g_iald fx hw isH_18.a7 hi22 dX5_monk_94 ?_
            refine W.widen (k := 2) (n := 12) (Nat.le_of_ble_eq_true rfl) (Nat.le_of_ble_eq_true rfl) ?_
            exact E _ _ _ _ _ _ dX5_monk_95 hw hF
          · replace hF := st_f hk6_3 hF
            by_cases hk6_4 : y18 = 4
            · replace hF := st_t hk6_4 hF
              subst hk6_4
              refine lv_tableIn (off := 90) (tgt := 96) hx hb dX5_monk_6 (by decide) (by decide) rfl (by decide) ?_
              refine lv_aload_n hx hb dX5_monk_96 rfl (lv_at hl 0 rfl) ?_
              refine gX5_get fx hw isO_0 0 (by decide) wd1_205 rfl dX5_monk_97 ?_
              refine gX1_get fx hw isH_18.O 7 (by decide) wd1_51 rfl dX5_monk_100 ?_
              refine lv_iload_n hx hb dX5_monk_103 rfl (lv_at hl 1 rfl) ?_
              obtain ⟨hi23, hF⟩ := st_chk hF
              refine g_iald fx hw isH_18.a8 hi23 dX5_monk_104 ?_
              refine W.widen (k := 2) (n := 12) (Nat.le_of_ble_eq_true rfl) (Nat.le_of_ble_eq_true rfl) ?_
              exact E _ _ _ _ _ _ dX5_monk_105 hw hF
            · replace hF := st_f hk6_4 hF
              by_cases hk6_5 : y18 = 5
              · replace hF := st_t hk6_5 hF
                subst hk6_5
                refine lv_tableIn (off := 100) (tgt := 106) hx hb dX5_monk_6 (by decide) (by decide) rfl (by decide) ?_
                refine lv_aload_n hx hb dX5_monk_106 rfl (lv_at hl 0 rfl) ?_
                refine gX5_get fx hw isO_0 0 (by decide) wd1_205 rfl dX5_monk_107 ?_
                refine gX1_get fx hw isH_18.O 2 (by decide) wd1_41 rfl dX5_monk_110 ?_
                refine lv_iload_n hx hb dX5_monk_113 rfl (lv_at hl 1 rfl) ?_
                obtain ⟨hi24, hF⟩ := st_chk hF
                refine g_iald fx hw isH_18.a3 hi24 dX5_monk_114 ?_
                obtain ⟨r25, hgr25, hF⟩ := st_bnd hF
                refine g_ci hw (g_runS (As := [.int (M17 21 (ix p1))]) (rest := []) fx hw (c_J6_bitCount_0f7a4 l x D cy ad (M17 21 (ix p1)) H.size M17 r25 hgr25) wd4_21 wd2_167 wd1_18 wd2_168 yd_J6_bitCount_0f7a4 rfl rfl (Nat.le_of_ble_eq_true rfl) hl.1 ⟨Nat.le_trans (Nat.le_of_ble_eq_true rfl) hR.1, Nat.le_trans (Nat.le_of_ble_eq_true rfl) hR.2.1⟩ ⟨Nat.le_trans (Nat.le_of_ble_eq_true rfl) hR.2.2.1, Nat.le_trans (Nat.le_of_ble_eq_true rfl) hR.2.2.2⟩ dX5_monk_115) (fun H locs hw => ?_)
                refine W.widen (k := 2) (n := 12) (Nat.le_of_ble_eq_true rfl) (Nat.le_of_ble_eq_true rfl) ?_
                exact E _ _ _ _ _ _ dX5_monk_118 hw hF
              · replace hF := st_f hk6_5 hF
                by_cases hk6_6 : y18 = 6
                · replace hF := st_t hk6_6 hF
                  subst hk6_6
                  refine lv_tableIn (off := 113) (tgt := 119) hx hb dX5_monk_6 (by decide) (by decide) rfl (by decide) ?_
                  refine lv_aload_n hx hb dX5_monk_119 rfl (lv_at hl 0 rfl) ?_
                  refine gX5_get fx hw isO_0 0 (by decide) wd1_205 rfl dX5_monk_120 ?_
                  refine gX1_get fx hw isH_18.O 3 (by decide) wd1_43 rfl dX5_monk_123 ?_
                  refine lv_iload_n hx hb dX5_monk_126 rfl (lv_at hl 1 rfl) ?_
                  obtain ⟨hi26, hF⟩ := st_chk hF
                  refine g_iald fx hw isH_18.a4 hi26 dX5_monk_127 ?_
                  obtain ⟨r27, hgr27, hF⟩ := st_bnd hF
                  refine g_ci hw (g_runS (As := [.int (M17 22 (ix p1))]) (rest := []) fx hw (c_J6_bitCount_0f7a4 l x D cy ad (M17 22 (ix p1)) H.size M17 r27 hgr27) wd4_21 wd2_167 wd1_18 wd2_168 yd_J6_bitCount_0f7a4 rfl rfl (Nat.le_of_ble_eq_true rfl) hl.1 ⟨Nat.le_trans (Nat.le_of_ble_eq_true rfl) hR.1, Nat.le_trans (Nat.le_of_ble_eq_true rfl) hR.2.1⟩ ⟨Nat.le_trans (Nat.le_of_ble_eq_true rfl) hR.2.2.1, Nat.le_trans (Nat.le_of_ble_eq_true rfl) hR.2.2.2⟩ dX5_monk_128) (fun H locs hw => ?_)
                  refine W.widen (k := 2) (n := 12) (Nat.le_of_ble_eq_true rfl) (Nat.le_of_ble_eq_true rfl) ?_
                  exact E _ _ _ _ _ _ dX5_monk_131 hw hF
                · replace hF := st_f hk6_6 hF
                  by_cases hk6_7 : y18 = 7
                  · replace hF := st_t hk6_7 hF
                    subst hk6_7
                    refine lv_tableIn (off := 126) (tgt := 132) hx hb dX5_monk_6 (by decide) (by decide) rfl (by decide) ?_
                    refine lv_aload_n hx hb dX5_monk_132 rfl (lv_at hl 0 rfl) ?_
                    refine gX5_get fx hw isO_0 0 (by decide) wd1_205 rfl dX5_monk_133 ?_
                    refine lv_iload_n hx hb dX5_monk_136 rfl (lv_at hl 1 rfl) ?_
                    obtain ⟨r28, hgr28, hF⟩ := st_bnd hF
                    refine g_ci hw (g_runV (C := RX1) (As := [.int p1]) (rest := []) fx hw isH_18.O rfl (c_X1_othersWhoKnowAllOf l x D cy ad 18 isH_18 p1 H.size M17 r28 hgr28) wd4_22 wd4_23 wd4_24 wd1_2 wd4_25 yd_X1_othersWhoKnowAllOf rfl rfl (Nat.le_of_ble_eq_true rfl) hl.1 ⟨Nat.le_trans (Nat.le_of_ble_eq_true rfl) hR.1, Nat.le_trans (Nat.le_of_ble_eq_true rfl) hR.2.1⟩ ⟨Nat.le_trans (Nat.le_of_ble_eq_true rfl) hR.2.2.1, Nat.le_trans (Nat.le_of_ble_eq_true rfl) hR.2.2.2⟩ dX5_monk_137) (fun H locs hw => ?_)
                    refine W.widen (k := 2) (n := 12) (Nat.le_of_ble_eq_true rfl) (Nat.le_of_ble_eq_true rfl) ?_
                    exact E _ _ _ _ _ _ dX5_monk_140 hw hF
                  · replace hF := st_f hk6_7 hF
                    by_cases hk6_8 : y18 = 8
                    · replace hF := st_t hk6_8 hF
                      subst hk6_8
                      refine lv_tableIn (off := 135) (tgt := 141) hx hb dX5_monk_6 (by decide) (by decide) rfl (by decide) ?_
                      refine lv_aload_n hx hb dX5_monk_141 rfl (lv_at hl 0 rfl) ?_
                      refine gX5_get fx hw isO_0 0 (by decide) wd1_205 rfl dX5_monk_142 ?_
                      refine gX1_get fx hw isH_18.O 0 (by decide) wd1_37 rfl dX5_monk_145 ?_
                      refine lv_iload_n hx hb dX5_monk_148 rfl (lv_at hl 1 rfl) ?_
                      obtain ⟨hi29, hF⟩ := st_chk hF
                      refine g_iald fx hw isH_18.a1 hi29 dX5_monk_149 ?_
                      obtain ⟨r30, hgr30, hF⟩ := st_bnd hF
                      refine g_ci hw (g_runS (As := [.int (M17 19 (ix p1))]) (rest := []) fx hw (c_X2_lettersIn l x D cy ad (M17 19 (ix p1)) H.size M17 r30 hgr30) wd4_26 wd4_27 wd1_4 wd4_28 yd_X2_lettersIn rfl rfl (Nat.le_of_ble_eq_true rfl) hl.1 ⟨Nat.le_trans (Nat.le_of_ble_eq_true rfl) hR.1, Nat.le_trans (Nat.le_of_ble_eq_true rfl) hR.2.1⟩ ⟨Nat.le_trans (Nat.le_of_ble_eq_true rfl) hR.2.2.1, Nat.le_trans (Nat.le_of_ble_eq_true rfl) hR.2.2.2⟩ dX5_monk_150) (fun H locs hw => ?_)
                      refine W.widen (k := 2) (n := 12) (Nat.le_of_ble_eq_true rfl) (Nat.le_of_ble_eq_true rfl) ?_
                      exact E _ _ _ _ _ _ dX5_monk_153 hw hF
                    · replace hF := st_f hk6_8 hF
                      refine lv_tableOut (tgt := 154) hx hb dX5_monk_6 (by have e_0 := lv_neT (a := 0) hk6_0 (by decide); have e_1 := lv_neT (a := 1) hk6_1 (by decide); have e_2 := lv_neT (a := 2) hk6_2 (by decide); have e_3 := lv_neT (a := 3) hk6_3 (by decide); have e_4 := lv_neT (a := 4) hk6_4 (by decide); have e_5 := lv_neT (a := 5) hk6_5 (by decide); have e_6 := lv_neT (a := 6) hk6_6 (by decide); have e_7 := lv_neT (a := 7) hk6_7 (by decide); have e_8 := lv_neT (a := 8) hk6_8 (by decide); omega) (by decide) ?_
                      rw [hQ]
                      exact g_throwS (k := 2) (i := 3) fx hl9 htab hw hF (by decide) (by decide) (by decide) wd3_209 wd1_20 rfl xa_2 xb_2 xg_2 hl.1 dX5_monk_154 dX5_monk_157 dX5_monk_158 dX5_monk_160 dX5_monk_163 (Nat.le_trans (Nat.le_of_ble_eq_true rfl) hR.1) (Nat.le_trans (Nat.le_of_ble_eq_true rfl) hR.2.1) (Nat.le_trans (Nat.le_of_ble_eq_true rfl) hR.2.2.1) (Nat.le_trans (Nat.le_of_ble_eq_true rfl) hR.2.2.2) (Nat.le_of_ble_eq_true rfl) (Nat.le_of_ble_eq_true rfl)
theorem c_X5_monk (l : Launch) (x : SX) (D : va_G) (cy : Nat → ClassId) (ad : Nat → Nat) (p1 p2 : Int32) (sz : Nat) (M : Mem) (ee : Nat) (z : Int32) (M' : Mem) (hl9 : l.stackTraces = false) (hF : f_X5_monk p1 p2 M = some (ee, z, M')) : vx_Met l yX5_monk (.code yX5_monk cX5_monk 3 (some .int) :: GB) ({ frames := 7, cells := 2, slots := 12, locals := 111 } : Room) (PcW D cy ad x sz M [.ref (ad 0), .int p1, .int p2]) (QxiW D cy ad sz ee z M') (XXW D cy ad sz ee M') 2 12 (AA ad sz) := by
  refine mk_x (own := RX5) (by decide) rfl (Nat.le_of_ble_eq_true rfl) ?_
  intro p e s m args below meth c ls fx htab hw hl hsz
  subst hsz
  exact b_X5_monk fx ⟨Nat.le_refl _, Nat.le_refl _, Nat.le_refl _, Nat.le_refl _⟩ p1 p2 M ee z M' hF hl9 htab rfl (fun pc ls H locs v M1 hd hw h => g_xiret fx hw h hd) _ _ ls hl hw
noncomputable def f_X5_requireNeed_15 : Mem → Option (Nat × Int32 × Mem) := fun M => (some (1, 0, M))
noncomputable def f_X5_requireNeed (p1 : Int32) (M : Mem) : Option (Nat × Int32 × Mem) := (if p1 < 0 then ((f_X5_requireNeed_15) M) else (if p1 < (M 18 13) then (some (0, 0, M)) else ((f_X5_requireNeed_15) M)))
set_option maxHeartbeats 4000000 in
set_option maxRecDepth 100000 in
theorem b_X5_requireNeed {p : Program} {l : Launch} {e : Env} {R : Room} {s : State} {m : MethodId} {args : Array Value} {below : List Frame} {meth : Method} {c : Code} {Q : State → Prop} {D : va_G} {cy : Nat → ClassId} {ad : Nat → Nat} {x : SX} (fx : FX p s m args meth c cX5_requireNeed 2 none RX5 D cy ad x) (hR : 6 ≤ R.frames ∧ 90 ≤ R.locals ∧ 1 ≤ R.cells ∧ 6 ≤ R.slots) (p1 : Int32) (M : Mem) (ee : Nat) (z : Int32) (M' : Mem) (hF : f_X5_requireNeed p1 M = some (ee, z, M')) {Qc : Array Value → State → Outcome → State → Prop} (hl9 : l.stackTraces = false) (htab : ∀ z ∈ c.exceptionTable.toList, False) (hQ : Q = vx_MQ below Qc (XXW D cy ad s.heap.size ee M') args s 1 6 (AA ad s.heap.size)) (E : ∀ (pc : Nat) (ls : Array Slot) (H : Heap) (locs : List Loc) (M1 : Mem), decode cX5_requireNeed pc = .ok (.return_, 1) → WD D cy ad s M1 H locs → some ((0 : Nat), (0 : Int32), M1) = some (ee, z, M') → W p l e R s m args below meth c H locs 1 6 Q (F0 m pc ls [])) (H : Heap) (locs : List Loc) (ls : Array Slot) (hl : lv_has ls 2 [(0, .ref (ad 0)), (1, .int p1)]) (hw : WD D cy ad s M H locs) : W p l e R s m args below meth c H locs 0 0 Q (F0 m 0 ls []) := by
  have hx := fx.1.1
  have hb := fx.1.2.1
  have hown := fx.1.2.2.2.1
  have hts := fx.1.2.2.2.2
  have n_15 : ∀ (M : Mem) (H : Heap) (locs : List Loc) (ls : Array Slot), lv_has ls 2 [] → WD D cy ad s M H locs → f_X5_requireNeed_15 M = some (ee, z, M') → W p l e R s m args below meth c H locs 0 0 Q (F0 m 15 ls []) := by
    intro M H locs ls hl hw hF
    unfold f_X5_requireNeed_15 at hF
    rw [hQ]
    exact g_throwSW (k := 1) (i := 9) fx hl9 htab hw hF (by decide) (by decide) (by decide) wd4_5 wd1_21 rfl xa_1 xb_1 xg_1 hl.1 dX5_requireNeed_15 dX5_requireNeed_18 dX5_requireNeed_19 dX5_requireNeed_22 dX5_requireNeed_25 (Nat.le_trans (Nat.le_of_ble_eq_true rfl) hR.1) (Nat.le_trans (Nat.le_of_ble_eq_true rfl) hR.2.1) (Nat.le_trans (Nat.le_of_ble_eq_true rfl) hR.2.2.1) (Nat.le_trans (Nat.le_of_ble_eq_true rfl) hR.2.2.2) (Nat.le_of_ble_eq_true rfl) (Nat.le_of_ble_eq_true rfl)
  unfold f_X5_requireNeed at hF
  refine lv_iload_n hx hb dX5_requireNeed_0 rfl (lv_at hl 1 rfl) ?_
  refine lv_if_lt (tgt := 15) hx hb dX5_requireNeed_1 (by decide) (fun hc1 => ?_) (fun hc1 => ?_)
  · replace hF := st_t hc1 hF
    exact n_15 M H locs ls (lv_sub hl [] rfl) hw hF
  · replace hF := st_f hc1 hF
    refine lv_iload_n hx hb dX5_requireNeed_4 rfl (lv_at hl 1 rfl) ?_
    refine lv_aload_n hx hb dX5_requireNeed_5 rfl (lv_at hl 0 rfl) ?_
    refine gX5_get fx hw isO_0 0 (by decide) wd1_205 rfl dX5_requireNeed_6 ?_
    refine gX1_get fx hw isH_18.O 13 (by decide) wd1_65 rfl dX5_requireNeed_9 ?_
    refine lv_icmp_lt (tgt := 26) hx hb dX5_requireNeed_12 (by decide) (fun hc12 => ?_) (fun hc12 => ?_)
    · replace hF := st_t hc12 hF
      refine W.widen (k := 1) (n := 6) (Nat.le_of_ble_eq_true rfl) (Nat.le_of_ble_eq_true rfl) ?_
      exact E _ _ _ _ _ dX5_requireNeed_26 hw hF
    · replace hF := st_f hc12 hF
      exact n_15 M H locs ls (lv_sub hl [] rfl) hw hF
theorem c_X5_requireNeed (l : Launch) (x : SX) (D : va_G) (cy : Nat → ClassId) (ad : Nat → Nat) (p1 : Int32) (sz : Nat) (M : Mem) (ee : Nat) (z : Int32) (M' : Mem) (hl9 : l.stackTraces = false) (hF : f_X5_requireNeed p1 M = some (ee, z, M')) : vx_Met l yX5_requireNeed (.code yX5_requireNeed cX5_requireNeed 2 none :: GB) ({ frames := 6, cells := 1, slots := 6, locals := 90 } : Room) (PcW D cy ad x sz M [.ref (ad 0), .int p1]) (QxvW D cy ad sz ee M') (XXW D cy ad sz ee M') 1 6 (AA ad sz) := by
  refine mk_x (own := RX5) (by decide) rfl (Nat.le_of_ble_eq_true rfl) ?_
  intro p e s m args below meth c ls fx htab hw hl hsz
  subst hsz
  exact b_X5_requireNeed fx ⟨Nat.le_refl _, Nat.le_refl _, Nat.le_refl _, Nat.le_refl _⟩ p1 M ee z M' hF hl9 htab rfl (fun pc ls H locs M1 hd hw h => g_xvret fx hw h hd) _ _ ls hl hw
noncomputable def f_X5_need (p1 p2 : Int32) (M : Mem) : Option (Nat × Int32 × Mem) := (bnd3 (f_X5_requireNeed p1 M) (fun er11 r11 M12 => (if er11 = 0 then (letV p2 (fun y13 => (if y13 = 0 then (chk (inB p1 8) (some (0, (M12 28 (ix p1)), M12))) else (if y13 = 1 then (bnd (f_X1_monksWith 18 21 p1 M12) (fun r15 => (some (0, r15, M12)))) else (if y13 = 2 then (bnd (f_X1_monksWith 18 22 p1 M12) (fun r16 => (some (0, r16, M12)))) else (if y13 = 3 then (chk (inB p1 8) (bnd (f_X1_pagesFor 1 (M12 28 (ix p1)) M12) (fun r18 => (some (0, r18, M12))))) else (if y13 = 4 then (chk (inB p1 8) (bnd (f_X1_fastFor 1 (M12 28 (ix p1)) M12) (fun r20 => (some (0, r20, M12))))) else (some (2, 0, M12))))))))) else (some (er11, 0, M12)))))
set_option maxHeartbeats 4000000 in
set_option maxRecDepth 100000 in
theorem b_X5_need {p : Program} {l : Launch} {e : Env} {R : Room} {s : State} {m : MethodId} {args : Array Value} {below : List Frame} {meth : Method} {c : Code} {Q : State → Prop} {D : va_G} {cy : Nat → ClassId} {ad : Nat → Nat} {x : SX} (fx : FX p s m args meth c cX5_need 3 (some .int) RX5 D cy ad x) (hR : 7 ≤ R.frames ∧ 111 ≤ R.locals ∧ 2 ≤ R.cells ∧ 12 ≤ R.slots) (p1 p2 : Int32) (M : Mem) (ee : Nat) (z : Int32) (M' : Mem) (hF : f_X5_need p1 p2 M = some (ee, z, M')) {Qc : Array Value → State → Outcome → State → Prop} (hl9 : l.stackTraces = false) (htab : ∀ z ∈ c.exceptionTable.toList, False) (hQ : Q = vx_MQ below Qc (XXW D cy ad s.heap.size ee M') args s 2 12 (AA ad s.heap.size)) (E : ∀ (pc : Nat) (ls : Array Slot) (H : Heap) (locs : List Loc) (v : Int32) (M1 : Mem), decode cX5_need pc = .ok (.ireturn, 1) → WD D cy ad s M1 H locs → some ((0 : Nat), v, M1) = some (ee, z, M') → W p l e R s m args below meth c H locs 2 12 Q (F0 m pc ls [.int v])) (H : Heap) (locs : List Loc) (ls : Array Slot) (hl : lv_has ls 3 [(0, .ref (ad 0)), (1, .int p1), (2, .int p2)]) (hw : WD D cy ad s M H locs) : W p l e R s m args below meth c H locs 0 0 Q (F0 m 0 ls []) := by
  have hx := fx.1.1
  have hb := fx.1.2.1
  have hown := fx.1.2.2.2.1
  have hts := fx.1.2.2.2.2
  unfold f_X5_need at hF
  refine lv_aload_n hx hb dX5_need_0 rfl (lv_at hl 0 rfl) ?_
  refine lv_iload_n hx hb dX5_need_1 rfl (lv_at hl 1 rfl) ?_
  obtain ⟨er11, r11, M12, hgr11, hF⟩ := st_bnd3 hF
  refine g_xcv hw (g_xrunV (C := RX5) (As := [.int p1]) (rest := []) fx hw isO_0 rfl (c_X5_requireNeed l x D cy ad p1 H.size M er11 r11 M12 hl9 hgr11) wd4_40 wd4_42 wd0_38 wd1_1 wd4_43 yd_X5_requireNeed rfl rfl (Nat.le_of_ble_eq_true rfl) hl.1 ⟨Nat.le_trans (Nat.le_of_ble_eq_true rfl) hR.1, Nat.le_trans (Nat.le_of_ble_eq_true rfl) hR.2.1⟩ ⟨Nat.le_trans (Nat.le_of_ble_eq_true rfl) hR.2.2.1, Nat.le_trans (Nat.le_of_ble_eq_true rfl) hR.2.2.2⟩ dX5_need_2) (fun her11 ce q9 H locs hw hce hcv hcl => ?_) (fun her11 H locs hw => ?_)
  · replace hF := st_f her11 hF
    rw [hQ]
    exact g_xout fx htab hw hF her11 hce hcv hcl (Nat.le_of_ble_eq_true rfl) (Nat.le_of_ble_eq_true rfl)
  · replace hF := st_t her11 hF
    refine lv_iload_n hx hb dX5_need_5 rfl (lv_at hl 2 rfl) ?_
    obtain ⟨y13, ey13, hF⟩ := st_letV hF
    refine g_top ey13 ?_
    by_cases hk6_0 : y13 = 0
    · replace hF := st_t hk6_0 hF
      subst hk6_0
      refine lv_tableIn (off := 34) (tgt := 40) hx hb dX5_need_6 (by decide) (by decide) rfl (by decide) ?_
      refine lv_aload_n hx hb dX5_need_40 rfl (lv_at hl 0 rfl) ?_
      refine gX5_get fx hw isO_0 0 (by decide) wd1_205 rfl dX5_need_41 ?_
      refine gX1_get fx hw isH_18.O 9 (by decide) wd1_55 rfl dX5_need_44 ?_
      refine lv_iload_n hx hb dX5_need_47 rfl (lv_at hl 1 rfl) ?_
      obtain ⟨hi14, hF⟩ := st_chk hF
      refine g_iald fx hw isH_18.a10 hi14 dX5_need_48 ?_
      refine W.widen (k := 2) (n := 12) (Nat.le_of_ble_eq_true rfl) (Nat.le_of_ble_eq_true rfl) ?_
      exact E _ _ _ _ _ _ dX5_need_49 hw hF
    · replace hF := st_f hk6_0 hF
      by_cases hk6_1 : y13 = 1
      · replace hF := st_t hk6_1 hF
        subst hk6_1
        refine lv_tableIn (off := 44) (tgt := 50) hx hb dX5_need_6 (by decide) (by decide) rfl (by decide) ?_
        refine lv_aload_n hx hb dX5_need_50 rfl (lv_at hl 0 rfl) ?_
        refine gX5_get fx hw isO_0 0 (by decide) wd1_205 rfl dX5_need_51 ?_
        refine lv_iload_n hx hb dX5_need_54 rfl (lv_at hl 1 rfl) ?_
        refine lv_aload_n hx hb dX5_need_55 rfl (lv_at hl 0 rfl) ?_
        refine gX5_get fx hw isO_0 0 (by decide) wd1_205 rfl dX5_need_56 ?_
        refine gX1_get fx hw isH_18.O 2 (by decide) wd1_41 rfl dX5_need_59 ?_
        obtain ⟨r15, hgr15, hF⟩ := st_bnd hF
        refine g_ci hw (g_runV (C := RX1) (As := [.int p1, .ref (ad 21)]) (rest := []) fx hw isH_18.O rfl (c_X1_monksWith l x D cy ad 18 21 isH_18 isH_18.a3 p1 H.size M12 r15 hgr15) wd4_45 wd4_46 wd4_47 wd1_2 wd4_48 yd_X1_monksWith rfl rfl (Nat.le_of_ble_eq_true rfl) hl.1 ⟨Nat.le_trans (Nat.le_of_ble_eq_true rfl) hR.1, Nat.le_trans (Nat.le_of_ble_eq_true rfl) hR.2.1⟩ ⟨Nat.le_trans (Nat.le_of_ble_eq_true rfl) hR.2.2.1, Nat.le_trans (Nat.le_of_ble_eq_true rfl) hR.2.2.2⟩ dX5_need_62) (fun H locs hw => ?_)
        refine W.widen (k := 2) (n := 12) (Nat.le_of_ble_eq_true rfl) (Nat.le_of_ble_eq_true rfl) ?_
        exact E _ _ _ _ _ _ dX5_need_65 hw hF
      · replace hF := st_f hk6_1 hF
        by_cases hk6_2 : y13 = 2
        · replace hF := st_t hk6_2 hF
          subst hk6_2
          refine lv_tableIn (off := 60) (tgt := 66) hx hb dX5_need_6 (by decide) (by decide) rfl (by decide) ?_
          refine lv_aload_n hx hb dX5_need_66 rfl (lv_at hl 0 rfl) ?_
          refine gX5_get fx hw isO_0 0 (by decide) wd1_205 rfl dX5_need_67 ?_
          refine lv_iload_n hx hb dX5_need_70 rfl (lv_at hl 1 rfl) ?_
          refine lv_aload_n hx hb dX5_need_71 rfl (lv_at hl 0 rfl) ?_
          refine gX5_get fx hw isO_0 0 (by decide) wd1_205 rfl dX5_need_72 ?_
          refine gX1_get fx hw isH_18.O 3 (by decide) wd1_43 rfl dX5_need_75 ?_
          obtain ⟨r16, hgr16, hF⟩ := st_bnd hF
          refine g_ci hw (g_runV (C := RX1) (As := [.int p1, .ref (ad 22)]) (rest := []) fx hw isH_18.O rfl (c_X1_monksWith l x D cy ad 18 22 isH_18 isH_18.a4 p1 H.size M12 r16 hgr16) wd4_45 wd4_46 wd4_47 wd1_2 wd4_48 yd_X1_monksWith rfl rfl (Nat.le_of_ble_eq_true rfl) hl.1 ⟨Nat.le_trans (Nat.le_of_ble_eq_true rfl) hR.1, Nat.le_trans (Nat.le_of_ble_eq_true rfl) hR.2.1⟩ ⟨Nat.le_trans (Nat.le_of_ble_eq_true rfl) hR.2.2.1, Nat.le_trans (Nat.le_of_ble_eq_true rfl) hR.2.2.2⟩ dX5_need_78) (fun H locs hw => ?_)
          refine W.widen (k := 2) (n := 12) (Nat.le_of_ble_eq_true rfl) (Nat.le_of_ble_eq_true rfl) ?_
          exact E _ _ _ _ _ _ dX5_need_81 hw hF
        · replace hF := st_f hk6_2 hF
          by_cases hk6_3 : y13 = 3
          · replace hF := st_t hk6_3 hF
            subst hk6_3
            refine lv_tableIn (off := 76) (tgt := 82) hx hb dX5_need_6 (by decide) (by decide) rfl (by decide) ?_
            refine lv_iconst (v := 1) hx hb dX5_need_82 (by decide) ?_
            refine lv_aload_n hx hb dX5_need_83 rfl (lv_at hl 0 rfl) ?_
            refine gX5_get fx hw isO_0 0 (by decide) wd1_205 rfl dX5_need_84 ?_
            refine gX1_get fx hw isH_18.O 9 (by decide) wd1_55 rfl dX5_need_87 ?_
            refine lv_iload_n hx hb dX5_need_90 rfl (lv_at hl 1 rfl) ?_
            obtain ⟨hi17, hF⟩ := st_chk hF
            refine g_iald fx hw isH_18.a10 hi17 dX5_need_91 ?_
            obtain ⟨r18, hgr18, hF⟩ := st_bnd hF
            refine g_ci hw (g_runS (As := [.int 1, .int (M12 28 (ix p1))]) (rest := []) fx hw (c_X1_pagesFor l x D cy ad 1 (M12 28 (ix p1)) H.size M12 r18 hgr18) wd4_49 wd2_193 wd1_2 wd2_194 yd_X1_pagesFor rfl rfl (Nat.le_of_ble_eq_true rfl) hl.1 ⟨Nat.le_trans (Nat.le_of_ble_eq_true rfl) hR.1, Nat.le_trans (Nat.le_of_ble_eq_true rfl) hR.2.1⟩ ⟨Nat.le_trans (Nat.le_of_ble_eq_true rfl) hR.2.2.1, Nat.le_trans (Nat.le_of_ble_eq_true rfl) hR.2.2.2⟩ dX5_need_92) (fun H locs hw => ?_)
            refine W.widen (k := 2) (n := 12) (Nat.le_of_ble_eq_true rfl) (Nat.le_of_ble_eq_true rfl) ?_
            exact E _ _ _ _ _ _ dX5_need_95 hw hF
          · replace hF := st_f hk6_3 hF
            by_cases hk6_4 : y13 = 4
            · replace hF := st_t hk6_4 hF
              subst hk6_4
              refine lv_tableIn (off := 90) (tgt := 96) hx hb dX5_need_6 (by decide) (by decide) rfl (by decide) ?_
              refine lv_iconst (v := 1) hx hb dX5_need_96 (by decide) ?_
              refine lv_aload_n hx hb dX5_need_97 rfl (lv_at hl 0 rfl) ?_
              refine gX5_get fx hw isO_0 0 (by decide) wd1_205 rfl dX5_need_98 ?_
              refine gX1_get fx hw isH_18.O 9 (by decide) wd1_55 rfl dX5_need_101 ?_
              refine lv_iload_n hx hb dX5_need_104 rfl (lv_at hl 1 rfl) ?_
              obtain ⟨hi19, hF⟩ := st_chk hF
              refine g_iald fx hw isH_18.a10 hi19 dX5_need_105 ?_
              obtain ⟨r20, hgr20, hF⟩ := st_bnd hF
              refine g_ci hw (g_runS (As := [.int 1, .int (M12 28 (ix p1))]) (rest := []) fx hw (c_X1_fastFor l x D cy ad 1 (M12 28 (ix p1)) H.size M12 r20 hgr20) wd4_50 wd2_215 wd1_2 wd2_216 yd_X1_fastFor rfl rfl (Nat.le_of_ble_eq_true rfl) hl.1 ⟨Nat.le_trans (Nat.le_of_ble_eq_true rfl) hR.1, Nat.le_trans (Nat.le_of_ble_eq_true rfl) hR.2.1⟩ ⟨Nat.le_trans (Nat.le_of_ble_eq_true rfl) hR.2.2.1, Nat.le_trans (Nat.le_of_ble_eq_true rfl) hR.2.2.2⟩ dX5_need_106) (fun H locs hw => ?_)
              refine W.widen (k := 2) (n := 12) (Nat.le_of_ble_eq_true rfl) (Nat.le_of_ble_eq_true rfl) ?_
              exact E _ _ _ _ _ _ dX5_need_109 hw hF
            · replace hF := st_f hk6_4 hF
              refine lv_tableOut (tgt := 110) hx hb dX5_need_6 (by have e_0 := lv_neT (a := 0) hk6_0 (by decide); have e_1 := lv_neT (a := 1) hk6_1 (by decide); have e_2 := lv_neT (a := 2) hk6_2 (by decide); have e_3 := lv_neT (a := 3) hk6_3 (by decide); have e_4 := lv_neT (a := 4) hk6_4 (by decide); omega) (by decide) ?_
              rw [hQ]
              exact g_throwS (k := 2) (i := 4) fx hl9 htab hw hF (by decide) (by decide) (by decide) wd3_209 wd1_20 rfl xa_2 xb_2 xg_2 hl.1 dX5_need_110 dX5_need_113 dX5_need_114 dX5_need_116 dX5_need_119 (Nat.le_trans (Nat.le_of_ble_eq_true rfl) hR.1) (Nat.le_trans (Nat.le_of_ble_eq_true rfl) hR.2.1) (Nat.le_trans (Nat.le_of_ble_eq_true rfl) hR.2.2.1) (Nat.le_trans (Nat.le_of_ble_eq_true rfl) hR.2.2.2) (Nat.le_of_ble_eq_true rfl) (Nat.le_of_ble_eq_true rfl)
theorem c_X5_need (l : Launch) (x : SX) (D : va_G) (cy : Nat → ClassId) (ad : Nat → Nat) (p1 p2 : Int32) (sz : Nat) (M : Mem) (ee : Nat) (z : Int32) (M' : Mem) (hl9 : l.stackTraces = false) (hF : f_X5_need p1 p2 M = some (ee, z, M')) : vx_Met l yX5_need (.code yX5_need cX5_need 3 (some .int) :: GB) ({ frames := 7, cells := 2, slots := 12, locals := 111 } : Room) (PcW D cy ad x sz M [.ref (ad 0), .int p1, .int p2]) (QxiW D cy ad sz ee z M') (XXW D cy ad sz ee M') 2 12 (AA ad sz) := by
  refine mk_x (own := RX5) (by decide) rfl (Nat.le_of_ble_eq_true rfl) ?_
  intro p e s m args below meth c ls fx htab hw hl hsz
  subst hsz
  exact b_X5_need fx ⟨Nat.le_refl _, Nat.le_refl _, Nat.le_refl _, Nat.le_refl _⟩ p1 p2 M ee z M' hF hl9 htab rfl (fun pc ls H locs v M1 hd hw h => g_xiret fx hw h hd) _ _ ls hl hw
noncomputable def f_X5_has_36 : Int32 → Int32 → Mem → Option (Nat × Int32 × Mem) := fun t0 t1 M => (bnd (f_X1_isMember t0 t1 M) (fun r15 => (some (0, r15, M))))
noncomputable def f_X5_has (p1 p2 p3 : Int32) (M : Mem) : Option (Nat × Int32 × Mem) := (bnd3 (f_X5_requireMonk p1 M) (fun er16 r16 M17 => (if er16 = 0 then (bnd3 (f_X5_requireNeed p2 M17) (fun er18 r18 M19 => (if er18 = 0 then (if p3 = 0 then (chk (inB p1 12) ((f_X5_has_36) p2 (M19 21 (ix p1)) M19)) else (chk (inB p1 12) ((f_X5_has_36) p2 (M19 22 (ix p1)) M19))) else (some (er18, 0, M19))))) else (some (er16, 0, M17)))))
set_option maxHeartbeats 4000000 in
set_option maxRecDepth 100000 in
theorem b_X5_has {p : Program} {l : Launch} {e : Env} {R : Room} {s : State} {m : MethodId} {args : Array Value} {below : List Frame} {meth : Method} {c : Code} {Q : State → Prop} {D : va_G} {cy : Nat → ClassId} {ad : Nat → Nat} {x : SX} (fx : FX p s m args meth c cX5_has 4 (some .boolean) RX5 D cy ad x) (hR : 7 ≤ R.frames ∧ 111 ≤ R.locals ∧ 2 ≤ R.cells ∧ 12 ≤ R.slots) (p1 p2 p3 : Int32) (M : Mem) (ee : Nat) (z : Int32) (M' : Mem) (hF : f_X5_has p1 p2 p3 M = some (ee, z, M')) {Qc : Array Value → State → Outcome → State → Prop} (hl9 : l.stackTraces = false) (htab : ∀ z ∈ c.exceptionTable.toList, False) (hQ : Q = vx_MQ below Qc (XXW D cy ad s.heap.size ee M') args s 2 12 (AA ad s.heap.size)) (E : ∀ (pc : Nat) (ls : Array Slot) (H : Heap) (locs : List Loc) (v : Int32) (M1 : Mem), decode cX5_has pc = .ok (.ireturn, 1) → (v = 0 ∨ v = 1) → WD D cy ad s M1 H locs → some ((0 : Nat), v, M1) = some (ee, z, M') → W p l e R s m args below meth c H locs 2 12 Q (F0 m pc ls [.int v])) (H : Heap) (locs : List Loc) (ls : Array Slot) (hl : lv_has ls 4 [(0, .ref (ad 0)), (1, .int p1), (2, .int p2), (3, .int p3)]) (hw : WD D cy ad s M H locs) : W p l e R s m args below meth c H locs 0 0 Q (F0 m 0 ls []) := by
  have hx := fx.1.1
  have hb := fx.1.2.1
  have hown := fx.1.2.2.2.1
  have hts := fx.1.2.2.2.2
  have n_36 : ∀ (t0 : Int32) (t1 : Int32) (M : Mem) (H : Heap) (locs : List Loc) (ls : Array Slot), lv_has ls 4 [] → WD D cy ad s M H locs → f_X5_has_36 t0 t1 M = some (ee, z, M') → W p l e R s m args below meth c H locs 2 12 Q (F0 m 36 ls [.int t1, .int t0]) := by
    intro t0 t1 M H locs ls hl hw hF
    unfold f_X5_has_36 at hF
    obtain ⟨r15, hgr15, hF⟩ := st_bnd hF
    refine g_cz hw (g_runS (As := [.int t0, .int t1]) (rest := []) fx hw (c_X1_isMember l x D cy ad t0 t1 H.size M r15 hgr15) wd4_59 wd2_126 wd1_2 wd2_127 yd_X1_isMember rfl rfl (Nat.le_of_ble_eq_true rfl) hl.1 ⟨Nat.le_trans (Nat.le_of_ble_eq_true rfl) hR.1, Nat.le_trans (Nat.le_of_ble_eq_true rfl) hR.2.1⟩ ⟨Nat.le_trans (Nat.le_of_ble_eq_true rfl) hR.2.2.1, Nat.le_trans (Nat.le_of_ble_eq_true rfl) hR.2.2.2⟩ dX5_has_36) (fun H locs hbr15 hw => ?_)
    exact E _ _ _ _ _ _ dX5_has_39 hbr15 hw hF
  unfold f_X5_has at hF
  refine lv_aload_n hx hb dX5_has_0 rfl (lv_at hl 0 rfl) ?_
  refine lv_iload_n hx hb dX5_has_1 rfl (lv_at hl 1 rfl) ?_
  obtain ⟨er16, r16, M17, hgr16, hF⟩ := st_bnd3 hF
  refine g_xcv hw (g_xrunV (C := RX5) (As := [.int p1]) (rest := []) fx hw isO_0 rfl (c_X5_requireMonk l x D cy ad p1 H.size M er16 r16 M17 hl9 hgr16) wd4_1 wd4_3 wd0_37 wd1_1 wd4_4 yd_X5_requireMonk rfl rfl (Nat.le_of_ble_eq_true rfl) hl.1 ⟨Nat.le_trans (Nat.le_of_ble_eq_true rfl) hR.1, Nat.le_trans (Nat.le_of_ble_eq_true rfl) hR.2.1⟩ ⟨Nat.le_trans (Nat.le_of_ble_eq_true rfl) hR.2.2.1, Nat.le_trans (Nat.le_of_ble_eq_true rfl) hR.2.2.2⟩ dX5_has_2) (fun her16 ce q9 H locs hw hce hcv hcl => ?_) (fun her16 H locs hw => ?_)
  · replace hF := st_f her16 hF
    rw [hQ]
    exact g_xout fx htab hw hF her16 hce hcv hcl (Nat.le_of_ble_eq_true rfl) (Nat.le_of_ble_eq_true rfl)
  · replace hF := st_t her16 hF
    refine lv_aload_n hx hb dX5_has_5 rfl (lv_at hl 0 rfl) ?_
    refine lv_iload_n hx hb dX5_has_6 rfl (lv_at hl 2 rfl) ?_
    obtain ⟨er18, r18, M19, hgr18, hF⟩ := st_bnd3 hF
    refine g_xcv hw (g_xrunV (C := RX5) (As := [.int p2]) (rest := []) fx hw isO_0 rfl (c_X5_requireNeed l x D cy ad p2 H.size M17 er18 r18 M19 hl9 hgr18) wd4_40 wd4_42 wd0_38 wd1_1 wd4_43 yd_X5_requireNeed rfl rfl (Nat.le_of_ble_eq_true rfl) hl.1 ⟨Nat.le_trans (Nat.le_of_ble_eq_true rfl) hR.1, Nat.le_trans (Nat.le_of_ble_eq_true rfl) hR.2.1⟩ ⟨Nat.le_trans (Nat.le_of_ble_eq_true rfl) hR.2.2.1, Nat.le_trans (Nat.le_of_ble_eq_true rfl) hR.2.2.2⟩ dX5_has_7) (fun her18 ce q9 H locs hw hce hcv hcl => ?_) (fun her18 H locs hw => ?_)
    · replace hF := st_f her18 hF
      rw [hQ]
      exact g_xout fx htab hw hF her18 hce hcv hcl (Nat.le_of_ble_eq_true rfl) (Nat.le_of_ble_eq_true rfl)
    · replace hF := st_t her18 hF
      refine lv_iload_n hx hb dX5_has_10 rfl (lv_at hl 2 rfl) ?_
      refine lv_iload_n hx hb dX5_has_11 rfl (lv_at hl 3 rfl) ?_
      refine lv_if_eq (tgt := 27) hx hb dX5_has_12 (by decide) (fun hc12 => ?_) (fun hc12 => ?_)
      · replace hF := st_t hc12 hF
        refine lv_aload_n hx hb dX5_has_27 rfl (lv_at hl 0 rfl) ?_
        refine gX5_get fx hw isO_0 0 (by decide) wd1_205 rfl dX5_has_28 ?_
        refine gX1_get fx hw isH_18.O 2 (by decide) wd1_41 rfl dX5_has_31 ?_
        refine lv_iload_n hx hb dX5_has_34 rfl (lv_at hl 1 rfl) ?_
        obtain ⟨hi20, hF⟩ := st_chk hF
        refine g_iald fx hw isH_18.a3 hi20 dX5_has_35 ?_
        exact n_36 p2 (M19 21 (ix p1)) M19 H locs ls (lv_sub hl [] rfl) hw hF
      · replace hF := st_f hc12 hF
        refine lv_aload_n hx hb dX5_has_15 rfl (lv_at hl 0 rfl) ?_
        refine gX5_get fx hw isO_0 0 (by decide) wd1_205 rfl dX5_has_16 ?_
        refine gX1_get fx hw isH_18.O 3 (by decide) wd1_43 rfl dX5_has_19 ?_
        refine lv_iload_n hx hb dX5_has_22 rfl (lv_at hl 1 rfl) ?_
        obtain ⟨hi21, hF⟩ := st_chk hF
        refine g_iald fx hw isH_18.a4 hi21 dX5_has_23 ?_
        refine lv_goto (tgt := 36) hx hb dX5_has_24 (by decide) ?_
        exact n_36 p2 (M19 22 (ix p1)) M19 H locs ls (lv_sub hl [] rfl) hw hF
theorem c_X5_has (l : Launch) (x : SX) (D : va_G) (cy : Nat → ClassId) (ad : Nat → Nat) (p1 p2 p3 : Int32) (sz : Nat) (M : Mem) (ee : Nat) (z : Int32) (M' : Mem) (hl9 : l.stackTraces = false) (hF : f_X5_has p1 p2 p3 M = some (ee, z, M')) : vx_Met l yX5_has (.code yX5_has cX5_has 4 (some .boolean) :: GB) ({ frames := 7, cells := 2, slots := 12, locals := 111 } : Room) (PcW D cy ad x sz M [.ref (ad 0), .int p1, .int p2, .int p3]) (QxzW D cy ad sz ee z M') (XXW D cy ad sz ee M') 2 12 (AA ad sz) := by
  refine mk_x (own := RX5) (by decide) rfl (Nat.le_of_ble_eq_true rfl) ?_
  intro p e s m args below meth c ls fx htab hw hl hsz
  subst hsz
  exact b_X5_has fx ⟨Nat.le_refl _, Nat.le_refl _, Nat.le_refl _, Nat.le_refl _⟩ p1 p2 p3 M ee z M' hF hl9 htab rfl (fun pc ls H locs v M1 hd hb hw h => g_xzret fx hw h hb hd) _ _ ls hl hw
noncomputable def f_X5_requireHour_10 : Mem → Option (Nat × Int32 × Mem) := fun M => (some (1, 0, M))
noncomputable def f_X5_requireHour (p1 : Int32) (M : Mem) : Option (Nat × Int32 × Mem) := (if p1 < 0 then ((f_X5_requireHour_10) M) else (if p1 < 24 then (some (0, 0, M)) else ((f_X5_requireHour_10) M)))
set_option maxHeartbeats 4000000 in
set_option maxRecDepth 100000 in
theorem b_X5_requireHour {p : Program} {l : Launch} {e : Env} {R : Room} {s : State} {m : MethodId} {args : Array Value} {below : List Frame} {meth : Method} {c : Code} {Q : State → Prop} {D : va_G} {cy : Nat → ClassId} {ad : Nat → Nat} {x : SX} (fx : FX p s m args meth c cX5_requireHour 1 none RX5 D cy ad x) (hR : 6 ≤ R.frames ∧ 90 ≤ R.locals ∧ 1 ≤ R.cells ∧ 6 ≤ R.slots) (p1 : Int32) (M : Mem) (ee : Nat) (z : Int32) (M' : Mem) (hF : f_X5_requireHour p1 M = some (ee, z, M')) {Qc : Array Value → State → Outcome → State → Prop} (hl9 : l.stackTraces = false) (htab : ∀ z ∈ c.exceptionTable.toList, False) (hQ : Q = vx_MQ below Qc (XXW D cy ad s.heap.size ee M') args s 1 6 (AA ad s.heap.size)) (E : ∀ (pc : Nat) (ls : Array Slot) (H : Heap) (locs : List Loc) (M1 : Mem), decode cX5_requireHour pc = .ok (.return_, 1) → WD D cy ad s M1 H locs → some ((0 : Nat), (0 : Int32), M1) = some (ee, z, M') → W p l e R s m args below meth c H locs 1 6 Q (F0 m pc ls [])) (H : Heap) (locs : List Loc) (ls : Array Slot) (hl : lv_has ls 1 [(0, .int p1)]) (hw : WD D cy ad s M H locs) : W p l e R s m args below meth c H locs 0 0 Q (F0 m 0 ls []) := by
  have hx := fx.1.1
  have hb := fx.1.2.1
  have hown := fx.1.2.2.2.1
  have hts := fx.1.2.2.2.2
  have n_10 : ∀ (M : Mem) (H : Heap) (locs : List Loc) (ls : Array Slot), lv_has ls 1 [] → WD D cy ad s M H locs → f_X5_requireHour_10 M = some (ee, z, M') → W p l e R s m args below meth c H locs 0 0 Q (F0 m 10 ls []) := by
    intro M H locs ls hl hw hF
    unfold f_X5_requireHour_10 at hF
    rw [hQ]
    exact g_throwSW (k := 1) (i := 10) fx hl9 htab hw hF (by decide) (by decide) (by decide) wd4_5 wd1_21 rfl xa_1 xb_1 xg_1 hl.1 dX5_requireHour_10 dX5_requireHour_13 dX5_requireHour_14 dX5_requireHour_17 dX5_requireHour_20 (Nat.le_trans (Nat.le_of_ble_eq_true rfl) hR.1) (Nat.le_trans (Nat.le_of_ble_eq_true rfl) hR.2.1) (Nat.le_trans (Nat.le_of_ble_eq_true rfl) hR.2.2.1) (Nat.le_trans (Nat.le_of_ble_eq_true rfl) hR.2.2.2) (Nat.le_of_ble_eq_true rfl) (Nat.le_of_ble_eq_true rfl)
  unfold f_X5_requireHour at hF
  refine lv_iload_n hx hb dX5_requireHour_0 rfl (lv_at hl 0 rfl) ?_
  refine lv_if_lt (tgt := 10) hx hb dX5_requireHour_1 (by decide) (fun hc1 => ?_) (fun hc1 => ?_)
  · replace hF := st_t hc1 hF
    exact n_10 M H locs ls (lv_sub hl [] rfl) hw hF
  · replace hF := st_f hc1 hF
    refine lv_iload_n hx hb dX5_requireHour_4 rfl (lv_at hl 0 rfl) ?_
    refine lv_bipush (v := 24) hx hb dX5_requireHour_5 (by decide) ?_
    refine lv_icmp_lt (tgt := 21) hx hb dX5_requireHour_7 (by decide) (fun hc7 => ?_) (fun hc7 => ?_)
    · replace hF := st_t hc7 hF
      refine W.widen (k := 1) (n := 6) (Nat.le_of_ble_eq_true rfl) (Nat.le_of_ble_eq_true rfl) ?_
      exact E _ _ _ _ _ dX5_requireHour_21 hw hF
    · replace hF := st_f hc7 hF
      exact n_10 M H locs ls (lv_sub hl [] rfl) hw hF
theorem c_X5_requireHour (l : Launch) (x : SX) (D : va_G) (cy : Nat → ClassId) (ad : Nat → Nat) (p1 : Int32) (sz : Nat) (M : Mem) (ee : Nat) (z : Int32) (M' : Mem) (hl9 : l.stackTraces = false) (hF : f_X5_requireHour p1 M = some (ee, z, M')) : vx_Met l yX5_requireHour (.code yX5_requireHour cX5_requireHour 1 none :: GB) ({ frames := 6, cells := 1, slots := 6, locals := 90 } : Room) (PcW D cy ad x sz M [.int p1]) (QxvW D cy ad sz ee M') (XXW D cy ad sz ee M') 1 6 (AA ad sz) := by
  refine mk_x (own := RX5) (by decide) rfl (Nat.le_of_ble_eq_true rfl) ?_
  intro p e s m args below meth c ls fx htab hw hl hsz
  subst hsz
  exact b_X5_requireHour fx ⟨Nat.le_refl _, Nat.le_refl _, Nat.le_refl _, Nat.le_refl _⟩ p1 M ee z M' hF hl9 htab rfl (fun pc ls H locs M1 hd hw h => g_xvret fx hw h hd) _ _ ls hl hw
noncomputable def f_X5_bell (p1 : Int32) (M : Mem) : Option (Nat × Int32 × Mem) := (bnd3 (f_X5_requireHour p1 M) (fun er4 r4 M5 => (if er4 = 0 then (chk (inB p1 24) (some (0, (M5 29 (ix p1)), M5))) else (some (er4, 0, M5)))))
set_option maxHeartbeats 4000000 in
set_option maxRecDepth 100000 in
theorem b_X5_bell {p : Program} {l : Launch} {e : Env} {R : Room} {s : State} {m : MethodId} {args : Array Value} {below : List Frame} {meth : Method} {c : Code} {Q : State → Prop} {D : va_G} {cy : Nat → ClassId} {ad : Nat → Nat} {x : SX} (fx : FX p s m args meth c cX5_bell 2 (some .int) RX5 D cy ad x) (hR : 7 ≤ R.frames ∧ 110 ≤ R.locals ∧ 1 ≤ R.cells ∧ 6 ≤ R.slots) (p1 : Int32) (M : Mem) (ee : Nat) (z : Int32) (M' : Mem) (hF : f_X5_bell p1 M = some (ee, z, M')) {Qc : Array Value → State → Outcome → State → Prop} (hl9 : l.stackTraces = false) (htab : ∀ z ∈ c.exceptionTable.toList, False) (hQ : Q = vx_MQ below Qc (XXW D cy ad s.heap.size ee M') args s 1 6 (AA ad s.heap.size)) (E : ∀ (pc : Nat) (ls : Array Slot) (H : Heap) (locs : List Loc) (v : Int32) (M1 : Mem), decode cX5_bell pc = .ok (.ireturn, 1) → WD D cy ad s M1 H locs → some ((0 : Nat), v, M1) = some (ee, z, M') → W p l e R s m args below meth c H locs 1 6 Q (F0 m pc ls [.int v])) (H : Heap) (locs : List Loc) (ls : Array Slot) (hl : lv_has ls 2 [(0, .ref (ad 0)), (1, .int p1)]) (hw : WD D cy ad s M H locs) : W p l e R s m args below meth c H locs 0 0 Q (F0 m 0 ls []) := by
  have hx := fx.1.1
  have hb := fx.1.2.1
  have hown := fx.1.2.2.2.1
  have hts := fx.1.2.2.2.2
  unfold f_X5_bell at hF
  refine lv_iload_n hx hb dX5_bell_0 rfl (lv_at hl 1 rfl) ?_
  obtain ⟨er4, r4, M5, hgr4, hF⟩ := st_bnd3 hF
  refine g_xcv hw (g_xrunS (As := [.int p1]) (rest := []) fx hw (c_X5_requireHour l x D cy ad p1 H.size M er4 r4 M5 hl9 hgr4) wd4_67 wd4_68 wd1_1 wd4_69 yd_X5_requireHour rfl rfl (Nat.le_of_ble_eq_true rfl) hl.1 ⟨Nat.le_trans (Nat.le_of_ble_eq_true rfl) hR.1, Nat.le_trans (Nat.le_of_ble_eq_true rfl) hR.2.1⟩ ⟨Nat.le_trans (Nat.le_of_ble_eq_true rfl) hR.2.2.1, Nat.le_trans (Nat.le_of_ble_eq_true rfl) hR.2.2.2⟩ dX5_bell_1) (fun her4 ce q9 H locs hw hce hcv hcl => ?_) (fun her4 H locs hw => ?_)
  · replace hF := st_f her4 hF
    rw [hQ]
    exact g_xout fx htab hw hF her4 hce hcv hcl (Nat.le_of_ble_eq_true rfl) (Nat.le_of_ble_eq_true rfl)
  · replace hF := st_t her4 hF
    refine lv_aload_n hx hb dX5_bell_4 rfl (lv_at hl 0 rfl) ?_
    refine gX5_get fx hw isO_0 0 (by decide) wd1_205 rfl dX5_bell_5 ?_
    refine gX1_get fx hw isH_18.O 10 (by decide) wd1_57 rfl dX5_bell_8 ?_
    refine lv_iload_n hx hb dX5_bell_11 rfl (lv_at hl 1 rfl) ?_
    obtain ⟨hi6, hF⟩ := st_chk hF
    refine g_iald fx hw isH_18.a11 hi6 dX5_bell_12 ?_
    exact E _ _ _ _ _ _ dX5_bell_13 hw hF
theorem c_X5_bell (l : Launch) (x : SX) (D : va_G) (cy : Nat → ClassId) (ad : Nat → Nat) (p1 : Int32) (sz : Nat) (M : Mem) (ee : Nat) (z : Int32) (M' : Mem) (hl9 : l.stackTraces = false) (hF : f_X5_bell p1 M = some (ee, z, M')) : vx_Met l yX5_bell (.code yX5_bell cX5_bell 2 (some .int) :: GB) ({ frames := 7, cells := 1, slots := 6, locals := 110 } : Room) (PcW D cy ad x sz M [.ref (ad 0), .int p1]) (QxiW D cy ad sz ee z M') (XXW D cy ad sz ee M') 1 6 (AA ad sz) := by
  refine mk_x (own := RX5) (by decide) rfl (Nat.le_of_ble_eq_true rfl) ?_
  intro p e s m args below meth c ls fx htab hw hl hsz
  subst hsz
  exact b_X5_bell fx ⟨Nat.le_refl _, Nat.le_refl _, Nat.le_refl _, Nat.le_refl _⟩ p1 M ee z M' hF hl9 htab rfl (fun pc ls H locs v M1 hd hw h => g_xiret fx hw h hd) _ _ ls hl hw
noncomputable def f_X5_requireTwo (p1 p2 : Int32) (M : Mem) : Option (Nat × Int32 × Mem) := (if p1 = p2 then (some (2, 0, M)) else (some (0, 0, M)))
set_option maxHeartbeats 4000000 in
set_option maxRecDepth 100000 in
theorem b_X5_requireTwo {p : Program} {l : Launch} {e : Env} {R : Room} {s : State} {m : MethodId} {args : Array Value} {below : List Frame} {meth : Method} {c : Code} {Q : State → Prop} {D : va_G} {cy : Nat → ClassId} {ad : Nat → Nat} {x : SX} (fx : FX p s m args meth c cX5_requireTwo 2 none RX5 D cy ad x) (hR : 6 ≤ R.frames ∧ 90 ≤ R.locals ∧ 1 ≤ R.cells ∧ 6 ≤ R.slots) (p1 p2 : Int32) (M : Mem) (ee : Nat) (z : Int32) (M' : Mem) (hF : f_X5_requireTwo p1 p2 M = some (ee, z, M')) {Qc : Array Value → State → Outcome → State → Prop} (hl9 : l.stackTraces = false) (htab : ∀ z ∈ c.exceptionTable.toList, False) (hQ : Q = vx_MQ below Qc (XXW D cy ad s.heap.size ee M') args s 1 6 (AA ad s.heap.size)) (E : ∀ (pc : Nat) (ls : Array Slot) (H : Heap) (locs : List Loc) (M1 : Mem), decode cX5_requireTwo pc = .ok (.return_, 1) → WD D cy ad s M1 H locs → some ((0 : Nat), (0 : Int32), M1) = some (ee, z, M') → W p l e R s m args below meth c H locs 1 6 Q (F0 m pc ls [])) (H : Heap) (locs : List Loc) (ls : Array Slot) (hl : lv_has ls 2 [(0, .int p1), (1, .int p2)]) (hw : WD D cy ad s M H locs) : W p l e R s m args below meth c H locs 0 0 Q (F0 m 0 ls []) := by
  have hx := fx.1.1
  have hb := fx.1.2.1
  have hown := fx.1.2.2.2.1
  have hts := fx.1.2.2.2.2
  unfold f_X5_requireTwo at hF
  refine lv_iload_n hx hb dX5_requireTwo_0 rfl (lv_at hl 0 rfl) ?_
  refine lv_iload_n hx hb dX5_requireTwo_1 rfl (lv_at hl 1 rfl) ?_
  refine lv_icmp_ne (tgt := 16) hx hb dX5_requireTwo_2 (by decide) (fun hc2 => ?_) (fun hc2 => ?_)
  · replace hF := st_f hc2 hF
    refine W.widen (k := 1) (n := 6) (Nat.le_of_ble_eq_true rfl) (Nat.le_of_ble_eq_true rfl) ?_
    exact E _ _ _ _ _ dX5_requireTwo_16 hw hF
  · replace hF := st_t hc2 hF
    rw [hQ]
    exact g_throwSW (k := 2) (i := 12) fx hl9 htab hw hF (by decide) (by decide) (by decide) wd3_209 wd1_20 rfl xa_2 xb_2 xg_2 hl.1 dX5_requireTwo_5 dX5_requireTwo_8 dX5_requireTwo_9 dX5_requireTwo_12 dX5_requireTwo_15 (Nat.le_trans (Nat.le_of_ble_eq_true rfl) hR.1) (Nat.le_trans (Nat.le_of_ble_eq_true rfl) hR.2.1) (Nat.le_trans (Nat.le_of_ble_eq_true rfl) hR.2.2.1) (Nat.le_trans (Nat.le_of_ble_eq_true rfl) hR.2.2.2) (Nat.le_of_ble_eq_true rfl) (Nat.le_of_ble_eq_true rfl)
theorem c_X5_requireTwo (l : Launch) (x : SX) (D : va_G) (cy : Nat → ClassId) (ad : Nat → Nat) (p1 p2 : Int32) (sz : Nat) (M : Mem) (ee : Nat) (z : Int32) (M' : Mem) (hl9 : l.stackTraces = false) (hF : f_X5_requireTwo p1 p2 M = some (ee, z, M')) : vx_Met l yX5_requireTwo (.code yX5_requireTwo cX5_requireTwo 2 none :: GB) ({ frames := 6, cells := 1, slots := 6, locals := 90 } : Room) (PcW D cy ad x sz M [.int p1, .int p2]) (QxvW D cy ad sz ee M') (XXW D cy ad sz ee M') 1 6 (AA ad sz) := by
  refine mk_x (own := RX5) (by decide) rfl (Nat.le_of_ble_eq_true rfl) ?_
  intro p e s m args below meth c ls fx htab hw hl hsz
  subst hsz
  exact b_X5_requireTwo fx ⟨Nat.le_refl _, Nat.le_refl _, Nat.le_refl _, Nat.le_refl _⟩ p1 p2 M ee z M' hF hl9 htab rfl (fun pc ls H locs M1 hd hw h => g_xvret fx hw h hd) _ _ ls hl hw
noncomputable def f_X5_requireTelling (p1 p2 p3 : Int32) (M : Mem) : Option (Nat × Int32 × Mem) := (bnd3 (f_X5_requireMonk p1 M) (fun er9 r9 M10 => (if er9 = 0 then (bnd3 (f_X5_requireMonk p2 M10) (fun er11 r11 M12 => (if er11 = 0 then (bnd3 (f_X5_requireNeed p3 M12) (fun er13 r13 M14 => (if er13 = 0 then (bnd3 (f_X5_requireTwo p1 p2 M14) (fun er15 r15 M16 => (if er15 = 0 then (some (0, 0, M16)) else (some (er15, 0, M16))))) else (some (er13, 0, M14))))) else (some (er11, 0, M12))))) else (some (er9, 0, M10)))))
set_option maxHeartbeats 4000000 in
set_option maxRecDepth 100000 in
theorem b_X5_requireTelling {p : Program} {l : Launch} {e : Env} {R : Room} {s : State} {m : MethodId} {args : Array Value} {below : List Frame} {meth : Method} {c : Code} {Q : State → Prop} {D : va_G} {cy : Nat → ClassId} {ad : Nat → Nat} {x : SX} (fx : FX p s m args meth c cX5_requireTelling 4 none RX5 D cy ad x) (hR : 7 ≤ R.frames ∧ 111 ≤ R.locals ∧ 4 ≤ R.cells ∧ 24 ≤ R.slots) (p1 p2 p3 : Int32) (M : Mem) (ee : Nat) (z : Int32) (M' : Mem) (hF : f_X5_requireTelling p1 p2 p3 M = some (ee, z, M')) {Qc : Array Value → State → Outcome → State → Prop} (hl9 : l.stackTraces = false) (htab : ∀ z ∈ c.exceptionTable.toList, False) (hQ : Q = vx_MQ below Qc (XXW D cy ad s.heap.size ee M') args s 4 24 (AA ad s.heap.size)) (E : ∀ (pc : Nat) (ls : Array Slot) (H : Heap) (locs : List Loc) (M1 : Mem), decode cX5_requireTelling pc = .ok (.return_, 1) → WD D cy ad s M1 H locs → some ((0 : Nat), (0 : Int32), M1) = some (ee, z, M') → W p l e R s m args below meth c H locs 4 24 Q (F0 m pc ls [])) (H : Heap) (locs : List Loc) (ls : Array Slot) (hl : lv_has ls 4 [(0, .ref (ad 0)), (1, .int p1), (2, .int p2), (3, .int p3)]) (hw : WD D cy ad s M H locs) : W p l e R s m args below meth c H locs 0 0 Q (F0 m 0 ls []) := by
  have hx := fx.1.1
  have hb := fx.1.2.1
  have hown := fx.1.2.2.2.1
  have hts := fx.1.2.2.2.2
  unfold f_X5_requireTelling at hF
  refine lv_aload_n hx hb dX5_requireTelling_0 rfl (lv_at hl 0 rfl) ?_
  refine lv_iload_n hx hb dX5_requireTelling_1 rfl (lv_at hl 1 rfl) ?_
  obtain ⟨er9, r9, M10, hgr9, hF⟩ := st_bnd3 hF
  refine g_xcv hw (g_xrunV (C := RX5) (As := [.int p1]) (rest := []) fx hw isO_0 rfl (c_X5_requireMonk l x D cy ad p1 H.size M er9 r9 M10 hl9 hgr9) wd4_1 wd4_3 wd0_37 wd1_1 wd4_4 yd_X5_requireMonk rfl rfl (Nat.le_of_ble_eq_true rfl) hl.1 ⟨Nat.le_trans (Nat.le_of_ble_eq_true rfl) hR.1, Nat.le_trans (Nat.le_of_ble_eq_true rfl) hR.2.1⟩ ⟨Nat.le_trans (Nat.le_of_ble_eq_true rfl) hR.2.2.1, Nat.le_trans (Nat.le_of_ble_eq_true rfl) hR.2.2.2⟩ dX5_requireTelling_2) (fun her9 ce q9 H locs hw hce hcv hcl => ?_) (fun her9 H locs hw => ?_)
  · replace hF := st_f her9 hF
    rw [hQ]
    exact g_xout fx htab hw hF her9 hce hcv hcl (Nat.le_of_ble_eq_true rfl) (Nat.le_of_ble_eq_true rfl)
  · replace hF := st_t her9 hF
    refine lv_aload_n hx hb dX5_requireTelling_5 rfl (lv_at hl 0 rfl) ?_
    refine lv_iload_n hx hb dX5_requireTelling_6 rfl (lv_at hl 2 rfl) ?_
    obtain ⟨er11, r11, M12, hgr11, hF⟩ := st_bnd3 hF
    refine g_xcv hw (g_xrunV (C := RX5) (As := [.int p2]) (rest := []) fx hw isO_0 rfl (c_X5_requireMonk l x D cy ad p2 H.size M10 er11 r11 M12 hl9 hgr11) wd4_1 wd4_3 wd0_37 wd1_1 wd4_4 yd_X5_requireMonk rfl rfl (Nat.le_of_ble_eq_true rfl) hl.1 ⟨Nat.le_trans (Nat.le_of_ble_eq_true rfl) hR.1, Nat.le_trans (Nat.le_of_ble_eq_true rfl) hR.2.1⟩ ⟨Nat.le_trans (Nat.le_of_ble_eq_true rfl) hR.2.2.1, Nat.le_trans (Nat.le_of_ble_eq_true rfl) hR.2.2.2⟩ dX5_requireTelling_7) (fun her11 ce q9 H locs hw hce hcv hcl => ?_) (fun her11 H locs hw => ?_)
    · replace hF := st_f her11 hF
      rw [hQ]
      exact g_xout fx htab hw hF her11 hce hcv hcl (Nat.le_of_ble_eq_true rfl) (Nat.le_of_ble_eq_true rfl)
    · replace hF := st_t her11 hF
      refine lv_aload_n hx hb dX5_requireTelling_10 rfl (lv_at hl 0 rfl) ?_
      refine lv_iload_n hx hb dX5_requireTelling_11 rfl (lv_at hl 3 rfl) ?_
      obtain ⟨er13, r13, M14, hgr13, hF⟩ := st_bnd3 hF
      refine g_xcv hw (g_xrunV (C := RX5) (As := [.int p3]) (rest := []) fx hw isO_0 rfl (c_X5_requireNeed l x D cy ad p3 H.size M12 er13 r13 M14 hl9 hgr13) wd4_40 wd4_42 wd0_38 wd1_1 wd4_43 yd_X5_requireNeed rfl rfl (Nat.le_of_ble_eq_true rfl) hl.1 ⟨Nat.le_trans (Nat.le_of_ble_eq_true rfl) hR.1, Nat.le_trans (Nat.le_of_ble_eq_true rfl) hR.2.1⟩ ⟨Nat.le_trans (Nat.le_of_ble_eq_true rfl) hR.2.2.1, Nat.le_trans (Nat.le_of_ble_eq_true rfl) hR.2.2.2⟩ dX5_requireTelling_12) (fun her13 ce q9 H locs hw hce hcv hcl => ?_) (fun her13 H locs hw => ?_)
      · replace hF := st_f her13 hF
        rw [hQ]
        exact g_xout fx htab hw hF her13 hce hcv hcl (Nat.le_of_ble_eq_true rfl) (Nat.le_of_ble_eq_true rfl)
      · replace hF := st_t her13 hF
        refine lv_iload_n hx hb dX5_requireTelling_15 rfl (lv_at hl 1 rfl) ?_
        refine lv_iload_n hx hb dX5_requireTelling_16 rfl (lv_at hl 2 rfl) ?_
        obtain ⟨er15, r15, M16, hgr15, hF⟩ := st_bnd3 hF
        refine g_xcv hw (g_xrunS (As := [.int p1, .int p2]) (rest := []) fx hw (c_X5_requireTwo l x D cy ad p1 p2 H.size M14 er15 r15 M16 hl9 hgr15) wd4_82 wd4_83 wd1_1 wd4_84 yd_X5_requireTwo rfl rfl (Nat.le_of_ble_eq_true rfl) hl.1 ⟨Nat.le_trans (Nat.le_of_ble_eq_true rfl) hR.1, Nat.le_trans (Nat.le_of_ble_eq_true rfl) hR.2.1⟩ ⟨Nat.le_trans (Nat.le_of_ble_eq_true rfl) hR.2.2.1, Nat.le_trans (Nat.le_of_ble_eq_true rfl) hR.2.2.2⟩ dX5_requireTelling_17) (fun her15 ce q9 H locs hw hce hcv hcl => ?_) (fun her15 H locs hw => ?_)
        · replace hF := st_f her15 hF
          rw [hQ]
          exact g_xout fx htab hw hF her15 hce hcv hcl (Nat.le_of_ble_eq_true rfl) (Nat.le_of_ble_eq_true rfl)
        · replace hF := st_t her15 hF
          exact E _ _ _ _ _ dX5_requireTelling_20 hw hF
theorem c_X5_requireTelling (l : Launch) (x : SX) (D : va_G) (cy : Nat → ClassId) (ad : Nat → Nat) (p1 p2 p3 : Int32) (sz : Nat) (M : Mem) (ee : Nat) (z : Int32) (M' : Mem) (hl9 : l.stackTraces = false) (hF : f_X5_requireTelling p1 p2 p3 M = some (ee, z, M')) : vx_Met l yX5_requireTelling (.code yX5_requireTelling cX5_requireTelling 4 none :: GB) ({ frames := 7, cells := 4, slots := 24, locals := 111 } : Room) (PcW D cy ad x sz M [.ref (ad 0), .int p1, .int p2, .int p3]) (QxvW D cy ad sz ee M') (XXW D cy ad sz ee M') 4 24 (AA ad sz) := by
  refine mk_x (own := RX5) (by decide) rfl (Nat.le_of_ble_eq_true rfl) ?_
  intro p e s m args below meth c ls fx htab hw hl hsz
  subst hsz
  exact b_X5_requireTelling fx ⟨Nat.le_refl _, Nat.le_refl _, Nat.le_refl _, Nat.le_refl _⟩ p1 p2 p3 M ee z M' hF hl9 htab rfl (fun pc ls H locs M1 hd hw h => g_xvret fx hw h hd) _ _ ls hl hw
noncomputable def f_X5_requireWithin_10 : Mem → Option (Nat × Int32 × Mem) := fun M => (some (2, 0, M))
noncomputable def f_X5_requireWithin (p1 p2 p3 : Int32) (M : Mem) : Option (Nat × Int32 × Mem) := (if p1 < p2 then ((f_X5_requireWithin_10) M) else (if p1 ≤ p3 then (some (0, 0, M)) else ((f_X5_requireWithin_10) M)))
set_option maxHeartbeats 4000000 in
set_option maxRecDepth 100000 in
theorem b_X5_requireWithin {p : Program} {l : Launch} {e : Env} {R : Room} {s : State} {m : MethodId} {args : Array Value} {below : List Frame} {meth : Method} {c : Code} {Q : State → Prop} {D : va_G} {cy : Nat → ClassId} {ad : Nat → Nat} {x : SX} (fx : FX p s m args meth c cX5_requireWithin 3 none RX5 D cy ad x) (hR : 6 ≤ R.frames ∧ 90 ≤ R.locals ∧ 1 ≤ R.cells ∧ 6 ≤ R.slots) (p1 p2 p3 : Int32) (M : Mem) (ee : Nat) (z : Int32) (M' : Mem) (hF : f_X5_requireWithin p1 p2 p3 M = some (ee, z, M')) {Qc : Array Value → State → Outcome → State → Prop} (hl9 : l.stackTraces = false) (htab : ∀ z ∈ c.exceptionTable.toList, False) (hQ : Q = vx_MQ below Qc (XXW D cy ad s.heap.size ee M') args s 1 6 (AA ad s.heap.size)) (E : ∀ (pc : Nat) (ls : Array Slot) (H : Heap) (locs : List Loc) (M1 : Mem), decode cX5_requireWithin pc = .ok (.return_, 1) → WD D cy ad s M1 H locs → some ((0 : Nat), (0 : Int32), M1) = some (ee, z, M') → W p l e R s m args below meth c H locs 1 6 Q (F0 m pc ls [])) (H : Heap) (locs : List Loc) (ls : Array Slot) (hl : lv_has ls 3 [(0, .int p1), (1, .int p2), (2, .int p3)]) (hw : WD D cy ad s M H locs) : W p l e R s m args below meth c H locs 0 0 Q (F0 m 0 ls []) := by
  have hx := fx.1.1
  have hb := fx.1.2.1
  have hown := fx.1.2.2.2.1
  have hts := fx.1.2.2.2.2
  have n_10 : ∀ (M : Mem) (H : Heap) (locs : List Loc) (ls : Array Slot), lv_has ls 3 [] → WD D cy ad s M H locs → f_X5_requireWithin_10 M = some (ee, z, M') → W p l e R s m args below meth c H locs 0 0 Q (F0 m 10 ls []) := by
    intro M H locs ls hl hw hF
    unfold f_X5_requireWithin_10 at hF
    rw [hQ]
    exact g_throwSW (k := 2) (i := 13) fx hl9 htab hw hF (by decide) (by decide) (by decide) wd3_209 wd1_20 rfl xa_2 xb_2 xg_2 hl.1 dX5_requireWithin_10 dX5_requireWithin_13 dX5_requireWithin_14 dX5_requireWithin_17 dX5_requireWithin_20 (Nat.le_trans (Nat.le_of_ble_eq_true rfl) hR.1) (Nat.le_trans (Nat.le_of_ble_eq_true rfl) hR.2.1) (Nat.le_trans (Nat.le_of_ble_eq_true rfl) hR.2.2.1) (Nat.le_trans (Nat.le_of_ble_eq_true rfl) hR.2.2.2) (Nat.le_of_ble_eq_true rfl) (Nat.le_of_ble_eq_true rfl)
  unfold f_X5_requireWithin at hF
  refine lv_iload_n hx hb dX5_requireWithin_0 rfl (lv_at hl 0 rfl) ?_
  refine lv_iload_n hx hb dX5_requireWithin_1 rfl (lv_at hl 1 rfl) ?_
  refine lv_icmp_lt (tgt := 10) hx hb dX5_requireWithin_2 (by decide) (fun hc2 => ?_) (fun hc2 => ?_)
  · replace hF := st_t hc2 hF
    exact n_10 M H locs ls (lv_sub hl [] rfl) hw hF
  · replace hF := st_f hc2 hF
    refine lv_iload_n hx hb dX5_requireWithin_5 rfl (lv_at hl 0 rfl) ?_
    refine lv_iload_n hx hb dX5_requireWithin_6 rfl (lv_at hl 2 rfl) ?_
    refine lv_icmp_le (tgt := 21) hx hb dX5_requireWithin_7 (by decide) (fun hc7 => ?_) (fun hc7 => ?_)
    · replace hF := st_t hc7 hF
      refine W.widen (k := 1) (n := 6) (Nat.le_of_ble_eq_true rfl) (Nat.le_of_ble_eq_true rfl) ?_
      exact E _ _ _ _ _ dX5_requireWithin_21 hw hF
    · replace hF := st_f hc7 hF
      exact n_10 M H locs ls (lv_sub hl [] rfl) hw hF
theorem c_X5_requireWithin (l : Launch) (x : SX) (D : va_G) (cy : Nat → ClassId) (ad : Nat → Nat) (p1 p2 p3 : Int32) (sz : Nat) (M : Mem) (ee : Nat) (z : Int32) (M' : Mem) (hl9 : l.stackTraces = false) (hF : f_X5_requireWithin p1 p2 p3 M = some (ee, z, M')) : vx_Met l yX5_requireWithin (.code yX5_requireWithin cX5_requireWithin 3 none :: GB) ({ frames := 6, cells := 1, slots := 6, locals := 90 } : Room) (PcW D cy ad x sz M [.int p1, .int p2, .int p3]) (QxvW D cy ad sz ee M') (XXW D cy ad sz ee M') 1 6 (AA ad sz) := by
  refine mk_x (own := RX5) (by decide) rfl (Nat.le_of_ble_eq_true rfl) ?_
  intro p e s m args below meth c ls fx htab hw hl hsz
  subst hsz
  exact b_X5_requireWithin fx ⟨Nat.le_refl _, Nat.le_refl _, Nat.le_refl _, Nat.le_refl _⟩ p1 p2 p3 M ee z M' hF hl9 htab rfl (fun pc ls H locs M1 hd hw h => g_xvret fx hw h hd) _ _ ls hl hw
noncomputable def f_X5_why (p1 p2 p3 p4 p5 : Int32) (M : Mem) : Option (Nat × Int32 × Mem) := (bnd3 (f_X5_requireTelling p1 p2 p3 M) (fun er10 r10 M11 => (if er10 = 0 then (bnd3 (f_X5_requireWithin p4 0 2 M11) (fun er12 r12 M13 => (if er12 = 0 then (bnd3 (f_X5_requireWithin p5 0 2 M13) (fun er14 r14 M15 => (if er14 = 0 then (bnd (f_X1_tellingReason 18 p1 p2 p3 p4 M15) (fun r16 => (if p5 = 0 then (some (0, r16, M15)) else (if p5 = 1 then (bnd (f_X1_causeOf 18 r16 p1 p2 p3 p4 M15) (fun r18 => (some (0, r18, M15)))) else (bnd (f_X1_causeBehind 18 r16 p1 p3 M15) (fun r17 => (some (0, r17, M15)))))))) else (some (er14, 0, M15))))) else (some (er12, 0, M13))))) else (some (er10, 0, M11)))))
set_option maxHeartbeats 4000000 in
set_option maxRecDepth 100000 in
theorem b_X5_why {p : Program} {l : Launch} {e : Env} {R : Room} {s : State} {m : MethodId} {args : Array Value} {below : List Frame} {meth : Method} {c : Code} {Q : State → Prop} {D : va_G} {cy : Nat → ClassId} {ad : Nat → Nat} {x : SX} (fx : FX p s m args meth c cX5_why 7 (some .int) RX5 D cy ad x) (hR : 8 ≤ R.frames ∧ 134 ≤ R.locals ∧ 6 ≤ R.cells ∧ 36 ≤ R.slots) (p1 p2 p3 p4 p5 : Int32) (M : Mem) (ee : Nat) (z : Int32) (M' : Mem) (hF : f_X5_why p1 p2 p3 p4 p5 M = some (ee, z, M')) {Qc : Array Value → State → Outcome → State → Prop} (hl9 : l.stackTraces = false) (htab : ∀ z ∈ c.exceptionTable.toList, False) (hQ : Q = vx_MQ below Qc (XXW D cy ad s.heap.size ee M') args s 6 36 (AA ad s.heap.size)) (E : ∀ (pc : Nat) (ls : Array Slot) (H : Heap) (locs : List Loc) (v : Int32) (M1 : Mem), decode cX5_why pc = .ok (.ireturn, 1) → WD D cy ad s M1 H locs → some ((0 : Nat), v, M1) = some (ee, z, M') → W p l e R s m args below meth c H locs 6 36 Q (F0 m pc ls [.int v])) (H : Heap) (locs : List Loc) (ls : Array Slot) (hl : lv_has ls 7 [(0, .ref (ad 0)), (1, .int p1), (2, .int p2), (3, .int p3), (4, .int p4), (5, .int p5)]) (hw : WD D cy ad s M H locs) : W p l e R s m args below meth c H locs 0 0 Q (F0 m 0 ls []) := by
  have hx := fx.1.1
  have hb := fx.1.2.1
  have hown := fx.1.2.2.2.1
  have hts := fx.1.2.2.2.2
  unfold f_X5_why at hF
  refine lv_aload_n hx hb dX5_why_0 rfl (lv_at hl 0 rfl) ?_
  refine lv_iload_n hx hb dX5_why_1 rfl (lv_at hl 1 rfl) ?_
  refine lv_iload_n hx hb dX5_why_2 rfl (lv_at hl 2 rfl) ?_
  refine lv_iload_n hx hb dX5_why_3 rfl (lv_at hl 3 rfl) ?_
  obtain ⟨er10, r10, M11, hgr10, hF⟩ := st_bnd3 hF
  refine g_xcv hw (g_xrunV (C := RX5) (As := [.int p1, .int p2, .int p3]) (rest := []) fx hw isO_0 rfl (c_X5_requireTelling l x D cy ad p1 p2 p3 H.size M er10 r10 M11 hl9 hgr10) wd4_78 wd4_80 wd0_39 wd1_1 wd4_81 yd_X5_requireTelling rfl rfl (Nat.le_of_ble_eq_true rfl) hl.1 ⟨Nat.le_trans (Nat.le_of_ble_eq_true rfl) hR.1, Nat.le_trans (Nat.le_of_ble_eq_true rfl) hR.2.1⟩ ⟨Nat.le_trans (Nat.le_of_ble_eq_true rfl) hR.2.2.1, Nat.le_trans (Nat.le_of_ble_eq_true rfl) hR.2.2.2⟩ dX5_why_4) (fun her10 ce q9 H locs hw hce hcv hcl => ?_) (fun her10 H locs hw => ?_)
  · replace hF := st_f her10 hF
    rw [hQ]
    exact g_xout fx htab hw hF her10 hce hcv hcl (Nat.le_of_ble_eq_true rfl) (Nat.le_of_ble_eq_true rfl)
  · replace hF := st_t her10 hF
    refine lv_iload hx hb dX5_why_7 (lv_at hl 4 rfl) ?_
    refine lv_iconst (v := 0) hx hb dX5_why_9 (by decide) ?_
    refine lv_iconst (v := 2) hx hb dX5_why_10 (by decide) ?_
    obtain ⟨er12, r12, M13, hgr12, hF⟩ := st_bnd3 hF
    refine g_xcv hw (g_xrunS (As := [.int p4, .int 0, .int 2]) (rest := []) fx hw (c_X5_requireWithin l x D cy ad p4 0 2 H.size M11 er12 r12 M13 hl9 hgr12) wd4_86 wd4_87 wd1_1 wd4_88 yd_X5_requireWithin rfl rfl (Nat.le_of_ble_eq_true rfl) hl.1 ⟨Nat.le_trans (Nat.le_of_ble_eq_true rfl) hR.1, Nat.le_trans (Nat.le_of_ble_eq_true rfl) hR.2.1⟩ ⟨Nat.le_trans (Nat.le_of_ble_eq_true rfl) hR.2.2.1, Nat.le_trans (Nat.le_of_ble_eq_true rfl) hR.2.2.2⟩ dX5_why_11) (fun her12 ce q9 H locs hw hce hcv hcl => ?_) (fun her12 H locs hw => ?_)
    · replace hF := st_f her12 hF
      rw [hQ]
      exact g_xout fx htab hw hF her12 hce hcv hcl (Nat.le_of_ble_eq_true rfl) (Nat.le_of_ble_eq_true rfl)
    · replace hF := st_t her12 hF
      refine lv_iload hx hb dX5_why_14 (lv_at hl 5 rfl) ?_
      refine lv_iconst (v := 0) hx hb dX5_why_16 (by decide) ?_
      refine lv_iconst (v := 2) hx hb dX5_why_17 (by decide) ?_
      obtain ⟨er14, r14, M15, hgr14, hF⟩ := st_bnd3 hF
      refine g_xcv hw (g_xrunS (As := [.int p5, .int 0, .int 2]) (rest := []) fx hw (c_X5_requireWithin l x D cy ad p5 0 2 H.size M13 er14 r14 M15 hl9 hgr14) wd4_86 wd4_87 wd1_1 wd4_88 yd_X5_requireWithin rfl rfl (Nat.le_of_ble_eq_true rfl) hl.1 ⟨Nat.le_trans (Nat.le_of_ble_eq_true rfl) hR.1, Nat.le_trans (Nat.le_of_ble_eq_true rfl) hR.2.1⟩ ⟨Nat.le_trans (Nat.le_of_ble_eq_true rfl) hR.2.2.1, Nat.le_trans (Nat.le_of_ble_eq_true rfl) hR.2.2.2⟩ dX5_why_18) (fun her14 ce q9 H locs hw hce hcv hcl => ?_) (fun her14 H locs hw => ?_)
      · replace hF := st_f her14 hF
        rw [hQ]
        exact g_xout fx htab hw hF her14 hce hcv hcl (Nat.le_of_ble_eq_true rfl) (Nat.le_of_ble_eq_true rfl)
      · replace hF := st_t her14 hF
        refine lv_aload_n hx hb dX5_why_21 rfl (lv_at hl 0 rfl) ?_
        refine gX5_get fx hw isO_0 0 (by decide) wd1_205 rfl dX5_why_22 ?_
        refine lv_iload_n hx hb dX5_why_25 rfl (lv_at hl 1 rfl) ?_
        refine lv_iload_n hx hb dX5_why_26 rfl (lv_at hl 2 rfl) ?_
        refine lv_iload_n hx hb dX5_why_27 rfl (lv_at hl 3 rfl) ?_
        refine lv_iload hx hb dX5_why_28 (lv_at hl 4 rfl) ?_
        obtain ⟨r16, hgr16, hF⟩ := st_bnd hF
        refine g_ci hw (g_runV (C := RX1) (As := [.int p1, .int p2, .int p3, .int p4]) (rest := []) fx hw isH_18.O rfl (c_X1_tellingReason l x D cy ad 18 isH_18 p1 p2 p3 p4 H.size M15 r16 hgr16) wd4_90 wd4_91 wd4_92 wd1_2 wd4_93 yd_X1_tellingReason rfl rfl (Nat.le_of_ble_eq_true rfl) hl.1 ⟨Nat.le_trans (Nat.le_of_ble_eq_true rfl) hR.1, Nat.le_trans (Nat.le_of_ble_eq_true rfl) hR.2.1⟩ ⟨Nat.le_trans (Nat.le_of_ble_eq_true rfl) hR.2.2.1, Nat.le_trans (Nat.le_of_ble_eq_true rfl) hR.2.2.2⟩ dX5_why_30) (fun H locs hw => ?_)
        refine lv_istore (lv' := [(6, .int r16), (0, .ref (ad 0)), (1, .int p1), (2, .int p2), (3, .int p3), (4, .int p4), (5, .int p5)]) hx hb dX5_why_33 hl (by decide) rfl (fun ls hl => ?_)
        refine lv_iload hx hb dX5_why_35 (lv_at hl 6 rfl) ?_
        refine lv_if_ne (tgt := 43) hx hb dX5_why_37 (by decide) (fun hc37 => ?_) (fun hc37 => ?_)
        · replace hF := st_f hc37 hF
          refine lv_iload hx hb dX5_why_43 (lv_at hl 6 rfl) ?_
          refine lv_iconst (v := 1) hx hb dX5_why_45 (by decide) ?_
          refine lv_icmp_ne (tgt := 66) hx hb dX5_why_46 (by decide) (fun hc46 => ?_) (fun hc46 => ?_)
          · replace hF := st_f hc46 hF
            refine lv_aload_n hx hb dX5_why_66 rfl (lv_at hl 1 rfl) ?_
            refine gX5_get fx hw isO_0 0 (by decide) wd1_205 rfl dX5_why_67 ?_
            refine lv_iload hx hb dX5_why_70 (lv_at hl 0 rfl) ?_
            refine lv_iload_n hx hb dX5_why_72 rfl (lv_at hl 2 rfl) ?_
            refine lv_iload_n hx hb dX5_why_73 rfl (lv_at hl 4 rfl) ?_
            obtain ⟨r17, hgr17, hF⟩ := st_bnd hF
            refine g_ci hw (g_runV (C := RX1) (As := [.int r16, .int p1, .int p3]) (rest := []) fx hw isH_18.O rfl (c_X1_causeBehind l x D cy ad 18 isH_18 r16 p1 p3 H.size M15 r17 hgr17) wd4_99 wd4_100 wd4_101 wd1_2 wd4_102 yd_X1_causeBehind rfl rfl (Nat.le_of_ble_eq_true rfl) hl.1 ⟨Nat.le_trans (Nat.le_of_ble_eq_true rfl) hR.1, Nat.le_trans (Nat.le_of_ble_eq_true rfl) hR.2.1⟩ ⟨Nat.le_trans (Nat.le_of_ble_eq_true rfl) hR.2.2.1, Nat.le_trans (Nat.le_of_ble_eq_true rfl) hR.2.2.2⟩ dX5_why_74) (fun H locs hw => ?_)
            exact E _ _ _ _ _ _ dX5_why_77 hw hF
          · replace hF := st_t hc46 hF
            refine lv_aload_n hx hb dX5_why_49 rfl (lv_at hl 1 rfl) ?_
            refine gX5_get fx hw isO_0 0 (by decide) wd1_205 rfl dX5_why_50 ?_
            refine lv_iload hx hb dX5_why_53 (lv_at hl 0 rfl) ?_
            refine lv_iload_n hx hb dX5_why_55 rfl (lv_at hl 2 rfl) ?_
            refine lv_iload_n hx hb dX5_why_56 rfl (lv_at hl 3 rfl) ?_
            refine lv_iload_n hx hb dX5_why_57 rfl (lv_at hl 4 rfl) ?_
            refine lv_iload hx hb dX5_why_58 (lv_at hl 5 rfl) ?_
            obtain ⟨r18, hgr18, hF⟩ := st_bnd hF
            refine g_ci hw (g_runV (C := RX1) (As := [.int r16, .int p1, .int p2, .int p3, .int p4]) (rest := []) fx hw isH_18.O rfl (c_X1_causeOf l x D cy ad 18 isH_18 r16 p1 p2 p3 p4 H.size M15 r18 hgr18) wd4_95 wd4_96 wd4_97 wd1_2 wd4_98 yd_X1_causeOf rfl rfl (Nat.le_of_ble_eq_true rfl) hl.1 ⟨Nat.le_trans (Nat.le_of_ble_eq_true rfl) hR.1, Nat.le_trans (Nat.le_of_ble_eq_true rfl) hR.2.1⟩ ⟨Nat.le_trans (Nat.le_of_ble_eq_true rfl) hR.2.2.1, Nat.le_trans (Nat.le_of_ble_eq_true rfl) hR.2.2.2⟩ dX5_why_60) (fun H locs hw => ?_)
            refine lv_goto (tgt := 77) hx hb dX5_why_63 (by decide) ?_
            exact E _ _ _ _ _ _ dX5_why_77 hw hF
        · replace hF := st_t hc37 hF
          refine lv_iload hx hb dX5_why_40 (lv_at hl 0 rfl) ?_
          exact E _ _ _ _ _ _ dX5_why_42 hw hF
theorem c_X5_why (l : Launch) (x : SX) (D : va_G) (cy : Nat → ClassId) (ad : Nat → Nat) (p1 p2 p3 p4 p5 : Int32) (sz : Nat) (M : Mem) (ee : Nat) (z : Int32) (M' : Mem) (hl9 : l.stackTraces = false) (hF : f_X5_why p1 p2 p3 p4 p5 M = some (ee, z, M')) : vx_Met l yX5_why (.code yX5_why cX5_why 7 (some .int) :: GB) ({ frames := 8, cells := 6, slots := 36, locals := 134 } : Room) (PcW D cy ad x sz M [.ref (ad 0), .int p1, .int p2, .int p3, .int p4, .int p5]) (QxiW D cy ad sz ee z M') (XXW D cy ad sz ee M') 6 36 (AA ad sz) := by
  refine mk_x (own := RX5) (by decide) rfl (Nat.le_of_ble_eq_true rfl) ?_
  intro p e s m args below meth c ls fx htab hw hl hsz
  subst hsz
  exact b_X5_why fx ⟨Nat.le_refl _, Nat.le_refl _, Nat.le_refl _, Nat.le_refl _⟩ p1 p2 p3 p4 p5 M ee z M' hF hl9 htab rfl (fun pc ls H locs v M1 hd hw h => g_xiret fx hw h hd) _ _ ls hl hw
noncomputable def f_X5_gap (M : Mem) : Option Int32 := (bnd (f_X1_sumOf 18 24 M) (fun r3 => (bnd (f_X1_sumOf 18 23 M) (fun r4 => (some ((((((M 30 4) + (M 30 5)) + (M 30 6)) - (M 18 17)) + (((M 30 8) - (M 30 9)) - r3)) + ((((M 30 10) - (M 30 5)) - (M 30 11)) - r4)))))))
set_option maxHeartbeats 4000000 in
set_option maxRecDepth 100000 in
theorem b_X5_gap {p : Program} {l : Launch} {e : Env} {R : Room} {s : State} {m : MethodId} {args : Array Value} {below : List Frame} {meth : Method} {c : Code} {Q : State → Prop} {D : va_G} {cy : Nat → ClassId} {ad : Nat → Nat} {x : SX} (fx : FX p s m args meth c cX5_gap 5 (some .int) RX5 D cy ad x) (hR : 1 ≤ R.frames ∧ 23 ≤ R.locals ∧ 0 ≤ R.cells ∧ 0 ≤ R.slots) (M : Mem) (z : Int32) (hF : f_X5_gap M = some z) (E : ∀ (pc : Nat) (ls : Array Slot) (H : Heap) (locs : List Loc) (v : Int32), decode cX5_gap pc = .ok (.ireturn, 1) → WD D cy ad s M H locs → some v = some z → W p l e R s m args below meth c H locs 0 0 Q (F0 m pc ls [.int v])) (H : Heap) (locs : List Loc) (ls : Array Slot) (hl : lv_has ls 5 [(0, .ref (ad 0))]) (hw : WD D cy ad s M H locs) : W p l e R s m args below meth c H locs 0 0 Q (F0 m 0 ls []) := by
  have hx := fx.1.1
  have hb := fx.1.2.1
  have hown := fx.1.2.2.2.1
  have hts := fx.1.2.2.2.2
  unfold f_X5_gap at hF
  refine lv_aload_n hx hb dX5_gap_0 rfl (lv_at hl 0 rfl) ?_
  refine gX5_get fx hw isO_0 0 (by decide) wd1_205 rfl dX5_gap_1 ?_
  refine gX1_get fx hw isH_18.O 11 (by decide) wd1_60 rfl dX5_gap_4 ?_
  refine lv_astore_n (lv' := [(1, .ref (ad 30)), (0, .ref (ad 0))]) hx hb dX5_gap_7 rfl hl (by decide) rfl (fun ls hl => ?_)
  refine lv_aload_n hx hb dX5_gap_8 rfl (lv_at hl 0 rfl) ?_
  refine lv_iconst (v := 4) hx hb dX5_gap_9 (by decide) ?_
  refine g_ialdc fx hw isH_18.a12 (k := 4) rfl (by decide) dX5_gap_10 ?_
  refine lv_aload_n hx hb dX5_gap_11 rfl (lv_at hl 0 rfl) ?_
  refine lv_iconst (v := 5) hx hb dX5_gap_12 (by decide) ?_
  refine g_ialdc fx hw isH_18.a12 (k := 5) rfl (by decide) dX5_gap_13 ?_
  refine lv_iadd hx hb dX5_gap_14 ?_
  refine lv_aload_n hx hb dX5_gap_15 rfl (lv_at hl 0 rfl) ?_
  refine lv_bipush (v := 6) hx hb dX5_gap_16 (by decide) ?_
  refine g_ialdc fx hw isH_18.a12 (k := 6) rfl (by decide) dX5_gap_18 ?_
  refine lv_iadd hx hb dX5_gap_19 ?_
  refine lv_aload_n hx hb dX5_gap_20 rfl (lv_at hl 1 rfl) ?_
  refine gX5_get fx hw isO_0 0 (by decide) wd1_205 rfl dX5_gap_21 ?_
  refine gX1_get fx hw isH_18.O 17 (by decide) wd1_75 rfl dX5_gap_24 ?_
  refine lv_isub hx hb dX5_gap_27 ?_
  refine lv_istore_n (lv' := [(2, .int ((((M 30 4) + (M 30 5)) + (M 30 6)) - (M 18 17))), (1, .ref (ad 30)), (0, .ref (ad 0))]) hx hb dX5_gap_28 rfl hl (by decide) rfl (fun ls hl => ?_)
  refine lv_aload_n hx hb dX5_gap_29 rfl (lv_at hl 1 rfl) ?_
  refine lv_bipush (v := 8) hx hb dX5_gap_30 (by decide) ?_
  refine g_ialdc fx hw isH_18.a12 (k := 8) rfl (by decide) dX5_gap_32 ?_
  refine lv_aload_n hx hb dX5_gap_33 rfl (lv_at hl 1 rfl) ?_
  refine lv_bipush (v := 9) hx hb dX5_gap_34 (by decide) ?_
  refine g_ialdc fx hw isH_18.a12 (k := 9) rfl (by decide) dX5_gap_36 ?_
  refine lv_isub hx hb dX5_gap_37 ?_
  refine lv_aload_n hx hb dX5_gap_38 rfl (lv_at hl 2 rfl) ?_
  refine gX5_get fx hw isO_0 0 (by decide) wd1_205 rfl dX5_gap_39 ?_
  refine lv_aload_n hx hb dX5_gap_42 rfl (lv_at hl 2 rfl) ?_
  refine gX5_get fx hw isO_0 0 (by decide) wd1_205 rfl dX5_gap_43 ?_
  refine gX1_get fx hw isH_18.O 5 (by decide) wd1_47 rfl dX5_gap_46 ?_
  obtain ⟨r3, hgr3, hF⟩ := st_bnd hF
  refine g_ci hw (g_runV (C := RX1) (As := [.ref (ad 24)]) (rest := [.int ((M 30 8) - (M 30 9))]) fx hw isH_18.O rfl (c_X1_sumOf l x D cy ad 18 24 isH_18 isH_18.a6 H.size M r3 hgr3) wd3_53 wd3_54 wd3_55 wd1_2 wd3_56 yd_X1_sumOf rfl rfl (Nat.le_of_ble_eq_true rfl) hl.1 ⟨Nat.le_trans (Nat.le_of_ble_eq_true rfl) hR.1, Nat.le_trans (Nat.le_of_ble_eq_true rfl) hR.2.1⟩ ⟨Nat.le_trans (Nat.le_of_ble_eq_true rfl) hR.2.2.1, Nat.le_trans (Nat.le_of_ble_eq_true rfl) hR.2.2.2⟩ dX5_gap_49) (fun H locs hw => ?_)
  refine lv_isub hx hb dX5_gap_52 ?_
  refine lv_istore_n (lv' := [(3, .int (((M 30 8) - (M 30 9)) - r3)), (2, .int ((((M 30 4) + (M 30 5)) + (M 30 6)) - (M 18 17))), (1, .ref (ad 30)), (0, .ref (ad 0))]) hx hb dX5_gap_53 rfl hl (by decide) rfl (fun ls hl => ?_)
  refine lv_aload_n hx hb dX5_gap_54 rfl (lv_at hl 2 rfl) ?_
  refine lv_bipush (v := 10) hx hb dX5_gap_55 (by decide) ?_
  refine g_ialdc fx hw isH_18.a12 (k := 10) rfl (by decide) dX5_gap_57 ?_
  refine lv_aload_n hx hb dX5_gap_58 rfl (lv_at hl 2 rfl) ?_
  refine lv_iconst (v := 5) hx hb dX5_gap_59 (by decide) ?_
  refine g_ialdc fx hw isH_18.a12 (k := 5) rfl (by decide) dX5_gap_60 ?_
  refine lv_isub hx hb dX5_gap_61 ?_
  refine lv_aload_n hx hb dX5_gap_62 rfl (lv_at hl 2 rfl) ?_
  refine lv_bipush (v := 11) hx hb dX5_gap_63 (by decide) ?_
  refine g_ialdc fx hw isH_18.a12 (k := 11) rfl (by decide) dX5_gap_65 ?_
  refine lv_isub hx hb dX5_gap_66 ?_
  refine lv_aload_n hx hb dX5_gap_67 rfl (lv_at hl 3 rfl) ?_
  refine gX5_get fx hw isO_0 0 (by decide) wd1_205 rfl dX5_gap_68 ?_
  refine lv_aload_n hx hb dX5_gap_71 rfl (lv_at hl 3 rfl) ?_
  refine gX5_get fx hw isO_0 0 (by decide) wd1_205 rfl dX5_gap_72 ?_
  refine gX1_get fx hw isH_18.O 4 (by decide) wd1_45 rfl dX5_gap_75 ?_
  obtain ⟨r4, hgr4, hF⟩ := st_bnd hF
  refine g_ci hw (g_runV (C := RX1) (As := [.ref (ad 23)]) (rest := [.int (((M 30 10) - (M 30 5)) - (M 30 11))]) fx hw isH_18.O rfl (c_X1_sumOf l x D cy ad 18 23 isH_18 isH_18.a5 H.size M r4 hgr4) wd3_53 wd3_54 wd3_55 wd1_2 wd3_56 yd_X1_sumOf rfl rfl (Nat.le_of_ble_eq_true rfl) hl.1 ⟨Nat.le_trans (Nat.le_of_ble_eq_true rfl) hR.1, Nat.le_trans (Nat.le_of_ble_eq_true rfl) hR.2.1⟩ ⟨Nat.le_trans (Nat.le_of_ble_eq_true rfl) hR.2.2.1, Nat.le_trans (Nat.le_of_ble_eq_true rfl) hR.2.2.2⟩ dX5_gap_78) (fun H locs hw => ?_)
  refine lv_isub hx hb dX5_gap_81 ?_
  refine lv_istore (lv' := [(4, .int ((((M 30 10) - (M 30 5)) - (M 30 11)) - r4)), (3, .int (((M 30 8) - (M 30 9)) - r3)), (2, .int ((((M 30 4) + (M 30 5)) + (M 30 6)) - (M 18 17))), (1, .ref (ad 30)), (0, .ref (ad 0))]) hx hb dX5_gap_82 hl (by decide) rfl (fun ls hl => ?_)
  refine lv_iload_n hx hb dX5_gap_84 rfl (lv_at hl 2 rfl) ?_
  refine lv_iload_n hx hb dX5_gap_85 rfl (lv_at hl 1 rfl) ?_
  refine lv_iadd hx hb dX5_gap_86 ?_
  refine lv_iload hx hb dX5_gap_87 (lv_at hl 0 rfl) ?_
  refine lv_iadd hx hb dX5_gap_89 ?_
  exact E _ _ _ _ _ dX5_gap_90 hw hF
theorem c_X5_gap (l : Launch) (x : SX) (D : va_G) (cy : Nat → ClassId) (ad : Nat → Nat) (sz : Nat) (M : Mem) (z : Int32) (hF : f_X5_gap M = some z) : Met l yX5_gap (.code yX5_gap cX5_gap 5 (some .int) :: GB) ({ frames := 1, cells := 0, slots := 0, locals := 23 } : Room) (PcW D cy ad x sz M [.ref (ad 0)]) (QiW D cy ad sz z M) 0 0 (AA ad sz) := by
  refine mk_m (own := RX5) (by decide) rfl (Nat.le_of_ble_eq_true rfl) ?_
  intro p e s m args below meth c ls fx hw hl hsz
  subst hsz
  exact b_X5_gap fx ⟨Nat.le_refl _, Nat.le_refl _, Nat.le_refl _, Nat.le_refl _⟩ M z hF (fun pc ls H locs v hd hw h => by cases h; exact g_iret fx hw rfl hd) _ _ ls hl hw
noncomputable def f_X5_ranked_2 (M : Mem) (rec2 : Int32 → Int32 → Option Int32) : Int32 → Int32 → Option Int32 := fun a1 a2 => (if (M 18 12) ≤ a2 then (some (-1)) else (bnd (f_X1_monksAheadOf 18 a2 M) (fun r3 => (if r3 = a1 then (some a2) else (rec2 a1 (a2 + 1))))))
noncomputable def f_X5_ranked (p1 : Int32) (M : Mem) : Option Int32 := ((lp (fun _ _ => none) (f_X5_ranked_2 M) FU) p1 0)
set_option maxHeartbeats 4000000 in
set_option maxRecDepth 100000 in
theorem b_X5_ranked {p : Program} {l : Launch} {e : Env} {R : Room} {s : State} {m : MethodId} {args : Array Value} {below : List Frame} {meth : Method} {c : Code} {Q : State → Prop} {D : va_G} {cy : Nat → ClassId} {ad : Nat → Nat} {x : SX} (fx : FX p s m args meth c cX5_ranked 3 (some .int) RX5 D cy ad x) (hR : 2 ≤ R.frames ∧ 45 ≤ R.locals ∧ 0 ≤ R.cells ∧ 0 ≤ R.slots) (p1 : Int32) (M : Mem) (z : Int32) (hF : f_X5_ranked p1 M = some z) (E : ∀ (pc : Nat) (ls : Array Slot) (H : Heap) (locs : List Loc) (v : Int32), decode cX5_ranked pc = .ok (.ireturn, 1) → WD D cy ad s M H locs → some v = some z → W p l e R s m args below meth c H locs 0 0 Q (F0 m pc ls [.int v])) (H : Heap) (locs : List Loc) (ls : Array Slot) (hl : lv_has ls 3 [(0, .ref (ad 0)), (1, .int p1)]) (hw : WD D cy ad s M H locs) : W p l e R s m args below meth c H locs 0 0 Q (F0 m 0 ls []) := by
  have hx := fx.1.1
  have hb := fx.1.2.1
  have hown := fx.1.2.2.2.1
  have hts := fx.1.2.2.2.2
  have n_2 : ∀ (n9 : Nat), ∀ (a1 : Int32) (a2 : Int32) (H : Heap) (locs : List Loc) (ls : Array Slot), lv_has ls 3 [(0, .ref (ad 0)), (1, .int a1), (2, .int a2)] → WD D cy ad s M H locs → (lp (fun _ _ => none) (f_X5_ranked_2 M) n9) a1 a2 = some z → W p l e R s m args below meth c H locs 0 0 Q (F0 m 2 ls []) := by
    intro n9
    refine lp_ind (fun (rec2 : Int32 → Int32 → Option Int32) => ∀ (a1 : Int32) (a2 : Int32) (H : Heap) (locs : List Loc) (ls : Array Slot), lv_has ls 3 [(0, .ref (ad 0)), (1, .int a1), (2, .int a2)] → WD D cy ad s M H locs → rec2 a1 a2 = some z → W p l e R s m args below meth c H locs 0 0 Q (F0 m 2 ls [])) ?_ ?_ n9
    · intro a1 a2 H locs ls hl hw hF
      exact nomatch hF
    · intro rec2 hr2 a1 a2 H locs ls hl hw hF
      unfold f_X5_ranked_2 at hF
      refine lv_iload_n hx hb dX5_ranked_2 rfl (lv_at hl 2 rfl) ?_
      refine lv_aload_n hx hb dX5_ranked_3 rfl (lv_at hl 0 rfl) ?_
      refine gX5_get fx hw isO_0 0 (by decide) wd1_205 rfl dX5_ranked_4 ?_
      refine gX1_get fx hw isH_18.O 12 (by decide) wd1_62 rfl dX5_ranked_7 ?_
      refine lv_icmp_ge (tgt := 33) hx hb dX5_ranked_10 (by decide) (fun hc10 => ?_) (fun hc10 => ?_)
      · replace hF := st_t hc10 hF
        refine lv_iconst (v := (-1)) hx hb dX5_ranked_33 (by decide) ?_
        exact E _ _ _ _ _ dX5_ranked_34 hw hF
      · replace hF := st_f hc10 hF
        refine lv_aload_n hx hb dX5_ranked_13 rfl (lv_at hl 0 rfl) ?_
        refine gX5_get fx hw isO_0 0 (by decide) wd1_205 rfl dX5_ranked_14 ?_
        refine lv_iload_n hx hb dX5_ranked_17 rfl (lv_at hl 2 rfl) ?_
        obtain ⟨r3, hgr3, hF⟩ := st_bnd hF
        refine g_ci hw (g_runV (C := RX1) (As := [.int a2]) (rest := []) fx hw isH_18.O rfl (c_X1_monksAheadOf l x D cy ad 18 isH_18 a2 H.size M r3 hgr3) wd3_69 wd3_70 wd3_71 wd1_2 wd3_72 yd_X1_monksAheadOf rfl rfl (Nat.le_of_ble_eq_true rfl) hl.1 ⟨Nat.le_trans (Nat.le_of_ble_eq_true rfl) hR.1, Nat.le_trans (Nat.le_of_ble_eq_true rfl) hR.2.1⟩ ⟨Nat.le_trans (Nat.le_of_ble_eq_true rfl) hR.2.2.1, Nat.le_trans (Nat.le_of_ble_eq_true rfl) hR.2.2.2⟩ dX5_ranked_18) (fun H locs hw => ?_)
        refine lv_iload_n hx hb dX5_ranked_21 rfl (lv_at hl 1 rfl) ?_
        refine lv_icmp_ne (tgt := 27) hx hb dX5_ranked_22 (by decide) (fun hc22 => ?_) (fun hc22 => ?_)
        · replace hF := st_f hc22 hF
          refine lv_iinc (v := (a2 + 1)) (lv' := [(2, .int (a2 + 1)), (0, .ref (ad 0)), (1, .int a1)]) hx hb dX5_ranked_27 hl (k := 2) rfl rfl (by decide) rfl (fun ls hl => ?_)
          refine lv_goto (tgt := 2) hx hb dX5_ranked_30 (by decide) ?_
          exact hr2 a1 (a2 + 1) H locs ls (lv_sub hl [1, 2, 0] rfl) hw hF
        · replace hF := st_t hc22 hF
          refine lv_iload_n hx hb dX5_ranked_25 rfl (lv_at hl 2 rfl) ?_
          exact E _ _ _ _ _ dX5_ranked_26 hw hF
  unfold f_X5_ranked at hF
  refine lv_iconst (v := 0) hx hb dX5_ranked_0 (by decide) ?_
  refine lv_istore_n (lv' := [(2, .int 0), (0, .ref (ad 0)), (1, .int p1)]) hx hb dX5_ranked_1 rfl hl (by decide) rfl (fun ls hl => ?_)
  exact n_2 FU p1 0 H locs ls (lv_sub hl [1, 2, 0] rfl) hw hF
theorem c_X5_ranked (l : Launch) (x : SX) (D : va_G) (cy : Nat → ClassId) (ad : Nat → Nat) (p1 : Int32) (sz : Nat) (M : Mem) (z : Int32) (hF : f_X5_ranked p1 M = some z) : Met l yX5_ranked (.code yX5_ranked cX5_ranked 3 (some .int) :: GB) ({ frames := 2, cells := 0, slots := 0, locals := 45 } : Room) (PcW D cy ad x sz M [.ref (ad 0), .int p1]) (QiW D cy ad sz z M) 0 0 (AA ad sz) := by
  refine mk_m (own := RX5) (by decide) rfl (Nat.le_of_ble_eq_true rfl) ?_
  intro p e s m args below meth c ls fx hw hl hsz
  subst hsz
  exact b_X5_ranked fx ⟨Nat.le_refl _, Nat.le_refl _, Nat.le_refl _, Nat.le_refl _⟩ p1 M z hF (fun pc ls H locs v hd hw h => by cases h; exact g_iret fx hw rfl hd) _ _ ls hl hw
noncomputable def f_X5_bestWay_71 (rec16 : Int32 → Int32 → Int32 → Int32 → Int32 → Int32 → Mem → Option (Nat × Int32 × Mem)) : Int32 → Int32 → Int32 → Int32 → Int32 → Int32 → Mem → Option (Nat × Int32 × Mem) := fun a1 a2 a3 a4 a5 a6 M => (rec16 a1 a2 a3 a4 a5 (a6 + 1) M)
noncomputable def f_X5_bestWay_63 (rec16 : Int32 → Int32 → Int32 → Int32 → Int32 → Int32 → Mem → Option (Nat × Int32 × Mem)) : Int32 → Int32 → Int32 → Int32 → Int32 → Mem → Option (Nat × Int32 × Mem) := fun a1 a2 a3 a6 a7 M => ((f_X5_bestWay_71 rec16) a1 a2 a3 a6 a7 a6 M)
noncomputable def f_X5_bestWay_16 (rec16 : Int32 → Int32 → Int32 → Int32 → Int32 → Int32 → Mem → Option (Nat × Int32 × Mem)) : Int32 → Int32 → Int32 → Int32 → Int32 → Int32 → Mem → Option (Nat × Int32 × Mem) := fun a1 a2 a3 a4 a5 a6 M => (if 2 < a6 then (some (0, a4, M)) else (bnd (f_X1_tellRefusal 18 a1 a2 a3 a6 M) (fun r9 => (if r9 = 0 then (bnd (f_X1_costOf 18 a1 a3 a6 M) (fun r10 => (if a4 = (-1) then ((f_X5_bestWay_63 rec16) a1 a2 a3 a6 r10 M) else (if a5 ≤ r10 then ((f_X5_bestWay_71 rec16) a1 a2 a3 a4 a5 a6 M) else ((f_X5_bestWay_63 rec16) a1 a2 a3 a6 r10 M))))) else ((f_X5_bestWay_71 rec16) a1 a2 a3 a4 a5 a6 M)))))
noncomputable def f_X5_bestWay (p1 p2 p3 : Int32) (M : Mem) : Option (Nat × Int32 × Mem) := (bnd3 (f_X5_requireTelling p1 p2 p3 M) (fun er11 r11 M12 => (if er11 = 0 then ((lp (fun _ _ _ _ _ _ _ => none) (f_X5_bestWay_16) FU) p1 p2 p3 (-1) 0 0 M12) else (some (er11, 0, M12)))))
set_option maxHeartbeats 4000000 in
set_option maxRecDepth 100000 in
theorem b_X5_bestWay {p : Program} {l : Launch} {e : Env} {R : Room} {s : State} {m : MethodId} {args : Array Value} {below : List Frame} {meth : Method} {c : Code} {Q : State → Prop} {D : va_G} {cy : Nat → ClassId} {ad : Nat → Nat} {x : SX} (fx : FX p s m args meth c cX5_bestWay 8 (some .int) RX5 D cy ad x) (hR : 8 ≤ R.frames ∧ 134 ≤ R.locals ∧ 4 ≤ R.cells ∧ 24 ≤ R.slots) (p1 p2 p3 : Int32) (M : Mem) (ee : Nat) (z : Int32) (M' : Mem) (hF : f_X5_bestWay p1 p2 p3 M = some (ee, z, M')) {Qc : Array Value → State → Outcome → State → Prop} (hl9 : l.stackTraces = false) (htab : ∀ z ∈ c.exceptionTable.toList, False) (hQ : Q = vx_MQ below Qc (XXW D cy ad s.heap.size ee M') args s 4 24 (AA ad s.heap.size)) (E : ∀ (pc : Nat) (ls : Array Slot) (H : Heap) (locs : List Loc) (v : Int32) (M1 : Mem), decode cX5_bestWay pc = .ok (.ireturn, 1) → WD D cy ad s M1 H locs → some ((0 : Nat), v, M1) = some (ee, z, M') → W p l e R s m args below meth c H locs 4 24 Q (F0 m pc ls [.int v])) (H : Heap) (locs : List Loc) (ls : Array Slot) (hl : lv_has ls 8 [(0, .ref (ad 0)), (1, .int p1), (2, .int p2), (3, .int p3)]) (hw : WD D cy ad s M H locs) : W p l e R s m args below meth c H locs 0 0 Q (F0 m 0 ls []) := by
  have hx := fx.1.1
  have hb := fx.1.2.1
  have hown := fx.1.2.2.2.1
  have hts := fx.1.2.2.2.2
  have n_71 : ∀ (rec16 : Int32 → Int32 → Int32 → Int32 → Int32 → Int32 → Mem → Option (Nat × Int32 × Mem)) (_ : ∀ (a1 : Int32) (a2 : Int32) (a3 : Int32) (a4 : Int32) (a5 : Int32) (a6 : Int32) (M : Mem) (H : Heap) (locs : List Loc) (ls : Array Slot), lv_has ls 8 [(0, .ref (ad 0)), (1, .int a1), (2, .int a2), (3, .int a3), (4, .int a4), (5, .int a5), (6, .int a6)] → WD D cy ad s M H locs → rec16 a1 a2 a3 a4 a5 a6 M = some (ee, z, M') → W p l e R s m args below meth c H locs 4 24 Q (F0 m 16 ls [])) , ∀ (a1 : Int32) (a2 : Int32) (a3 : Int32) (a4 : Int32) (a5 : Int32) (a6 : Int32) (M : Mem) (H : Heap) (locs : List Loc) (ls : Array Slot), lv_has ls 8 [(0, .ref (ad 0)), (1, .int a1), (2, .int a2), (3, .int a3), (4, .int a4), (5, .int a5), (6, .int a6)] → WD D cy ad s M H locs → f_X5_bestWay_71 rec16 a1 a2 a3 a4 a5 a6 M = some (ee, z, M') → W p l e R s m args below meth c H locs 4 24 Q (F0 m 71 ls []) := by
    intro rec16 hr16 a1 a2 a3 a4 a5 a6 M H locs ls hl hw hF
    unfold f_X5_bestWay_71 at hF
    refine lv_iinc (v := (a6 + 1)) (lv' := [(6, .int (a6 + 1)), (0, .ref (ad 0)), (1, .int a1), (2, .int a2), (3, .int a3), (4, .int a4), (5, .int a5)]) hx hb dX5_bestWay_71 hl (k := 6) rfl rfl (by decide) rfl (fun ls hl => ?_)
    refine lv_goto (tgt := 16) hx hb dX5_bestWay_74 (by decide) ?_
    exact hr16 a1 a2 a3 a4 a5 (a6 + 1) M H locs ls (lv_sub hl [1, 2, 3, 4, 5, 6, 0] rfl) hw hF
  have n_63 : ∀ (rec16 : Int32 → Int32 → Int32 → Int32 → Int32 → Int32 → Mem → Option (Nat × Int32 × Mem)) (_ : ∀ (a1 : Int32) (a2 : Int32) (a3 : Int32) (a4 : Int32) (a5 : Int32) (a6 : Int32) (M : Mem) (H : Heap) (locs : List Loc) (ls : Array Slot), lv_has ls 8 [(0, .ref (ad 0)), (1, .int a1), (2, .int a2), (3, .int a3), (4, .int a4), (5, .int a5), (6, .int a6)] → WD D cy ad s M H locs → rec16 a1 a2 a3 a4 a5 a6 M = some (ee, z, M') → W p l e R s m args below meth c H locs 4 24 Q (F0 m 16 ls [])) , ∀ (a1 : Int32) (a2 : Int32) (a3 : Int32) (a6 : Int32) (a7 : Int32) (M : Mem) (H : Heap) (locs : List Loc) (ls : Array Slot), lv_has ls 8 [(0, .ref (ad 0)), (1, .int a1), (2, .int a2), (3, .int a3), (6, .int a6), (7, .int a7)] → WD D cy ad s M H locs → f_X5_bestWay_63 rec16 a1 a2 a3 a6 a7 M = some (ee, z, M') → W p l e R s m args below meth c H locs 4 24 Q (F0 m 63 ls []) := by
    intro rec16 hr16 a1 a2 a3 a6 a7 M H locs ls hl hw hF
    unfold f_X5_bestWay_63 at hF
    refine lv_iload hx hb dX5_bestWay_63 (lv_at hl 4 rfl) ?_
    refine lv_istore (lv' := [(4, .int a6), (0, .ref (ad 0)), (1, .int a1), (2, .int a2), (3, .int a3), (6, .int a6), (7, .int a7)]) hx hb dX5_bestWay_65 hl (by decide) rfl (fun ls hl => ?_)
    refine lv_iload hx hb dX5_bestWay_67 (lv_at hl 6 rfl) ?_
    refine lv_istore (lv' := [(5, .int a7), (4, .int a6), (0, .ref (ad 0)), (1, .int a1), (2, .int a2), (3, .int a3), (6, .int a6), (7, .int a7)]) hx hb dX5_bestWay_69 hl (by decide) rfl (fun ls hl => ?_)
    exact n_71 rec16 hr16 a1 a2 a3 a6 a7 a6 M H locs ls (lv_sub hl [2, 3, 4, 5, 1, 0, 6] rfl) hw hF
  have n_16 : ∀ (n9 : Nat), ∀ (a1 : Int32) (a2 : Int32) (a3 : Int32) (a4 : Int32) (a5 : Int32) (a6 : Int32) (M : Mem) (H : Heap) (locs : List Loc) (ls : Array Slot), lv_has ls 8 [(0, .ref (ad 0)), (1, .int a1), (2, .int a2), (3, .int a3), (4, .int a4), (5, .int a5), (6, .int a6)] → WD D cy ad s M H locs → (lp (fun _ _ _ _ _ _ _ => none) (f_X5_bestWay_16) n9) a1 a2 a3 a4 a5 a6 M = some (ee, z, M') → W p l e R s m args below meth c H locs 4 24 Q (F0 m 16 ls []) := by
    intro n9
    refine lp_ind (fun (rec16 : Int32 → Int32 → Int32 → Int32 → Int32 → Int32 → Mem → Option (Nat × Int32 × Mem)) => ∀ (a1 : Int32) (a2 : Int32) (a3 : Int32) (a4 : Int32) (a5 : Int32) (a6 : Int32) (M : Mem) (H : Heap) (locs : List Loc) (ls : Array Slot), lv_has ls 8 [(0, .ref (ad 0)), (1, .int a1), (2, .int a2), (3, .int a3), (4, .int a4), (5, .int a5), (6, .int a6)] → WD D cy ad s M H locs → rec16 a1 a2 a3 a4 a5 a6 M = some (ee, z, M') → W p l e R s m args below meth c H locs 4 24 Q (F0 m 16 ls [])) ?_ ?_ n9
    · intro a1 a2 a3 a4 a5 a6 M H locs ls hl hw hF
      exact nomatch hF
    · intro rec16 hr16 a1 a2 a3 a4 a5 a6 M H locs ls hl hw hF
      unfold f_X5_bestWay_16 at hF
      refine lv_iload hx hb dX5_bestWay_16 (lv_at hl 6 rfl) ?_
      refine lv_iconst (v := 2) hx hb dX5_bestWay_18 (by decide) ?_
      refine lv_icmp_gt (tgt := 77) hx hb dX5_bestWay_19 (by decide) (fun hc19 => ?_) (fun hc19 => ?_)
      · replace hF := st_t hc19 hF
        refine lv_iload hx hb dX5_bestWay_77 (lv_at hl 4 rfl) ?_
        exact E _ _ _ _ _ _ dX5_bestWay_79 hw hF
      · replace hF := st_f hc19 hF
        refine lv_aload_n hx hb dX5_bestWay_22 rfl (lv_at hl 0 rfl) ?_
        refine gX5_get fx hw isO_0 0 (by decide) wd1_205 rfl dX5_bestWay_23 ?_
        refine lv_iload_n hx hb dX5_bestWay_26 rfl (lv_at hl 1 rfl) ?_
        refine lv_iload_n hx hb dX5_bestWay_27 rfl (lv_at hl 2 rfl) ?_
        refine lv_iload_n hx hb dX5_bestWay_28 rfl (lv_at hl 3 rfl) ?_
        refine lv_iload hx hb dX5_bestWay_29 (lv_at hl 6 rfl) ?_
        obtain ⟨r9, hgr9, hF⟩ := st_bnd hF
        refine g_ci hw (g_runV (C := RX1) (As := [.int a1, .int a2, .int a3, .int a6]) (rest := []) fx hw isH_18.O rfl (c_X1_tellRefusal l x D cy ad 18 isH_18 a1 a2 a3 a6 H.size M r9 hgr9) wd4_110 wd2_185 wd2_186 wd1_2 wd2_187 yd_X1_tellRefusal rfl rfl (Nat.le_of_ble_eq_true rfl) hl.1 ⟨Nat.le_trans (Nat.le_of_ble_eq_true rfl) hR.1, Nat.le_trans (Nat.le_of_ble_eq_true rfl) hR.2.1⟩ ⟨Nat.le_trans (Nat.le_of_ble_eq_true rfl) hR.2.2.1, Nat.le_trans (Nat.le_of_ble_eq_true rfl) hR.2.2.2⟩ dX5_bestWay_31) (fun H locs hw => ?_)
        refine lv_if_ne (tgt := 71) hx hb dX5_bestWay_34 (by decide) (fun hc34 => ?_) (fun hc34 => ?_)
        · replace hF := st_f hc34 hF
          exact n_71 rec16 hr16 a1 a2 a3 a4 a5 a6 M H locs ls (lv_sub hl [0, 1, 2, 3, 4, 5, 6] rfl) hw hF
        · replace hF := st_t hc34 hF
          refine lv_aload_n hx hb dX5_bestWay_37 rfl (lv_at hl 0 rfl) ?_
          refine gX5_get fx hw isO_0 0 (by decide) wd1_205 rfl dX5_bestWay_38 ?_
          refine lv_iload_n hx hb dX5_bestWay_41 rfl (lv_at hl 1 rfl) ?_
          refine lv_iload_n hx hb dX5_bestWay_42 rfl (lv_at hl 3 rfl) ?_
          refine lv_iload hx hb dX5_bestWay_43 (lv_at hl 6 rfl) ?_
          obtain ⟨r10, hgr10, hF⟩ := st_bnd hF
          refine g_ci hw (g_runV (C := RX1) (As := [.int a1, .int a3, .int a6]) (rest := []) fx hw isH_18.O rfl (c_X1_costOf l x D cy ad 18 isH_18 a1 a3 a6 H.size M r10 hgr10) wd4_111 wd4_112 wd4_113 wd1_2 wd4_114 yd_X1_costOf rfl rfl (Nat.le_of_ble_eq_true rfl) hl.1 ⟨Nat.le_trans (Nat.le_of_ble_eq_true rfl) hR.1, Nat.le_trans (Nat.le_of_ble_eq_true rfl) hR.2.1⟩ ⟨Nat.le_trans (Nat.le_of_ble_eq_true rfl) hR.2.2.1, Nat.le_trans (Nat.le_of_ble_eq_true rfl) hR.2.2.2⟩ dX5_bestWay_45) (fun H locs hw => ?_)
          refine lv_istore (lv' := [(7, .int r10), (0, .ref (ad 0)), (1, .int a1), (2, .int a2), (3, .int a3), (4, .int a4), (5, .int a5), (6, .int a6)]) hx hb dX5_bestWay_48 hl (by decide) rfl (fun ls hl => ?_)
          refine lv_iload hx hb dX5_bestWay_50 (lv_at hl 5 rfl) ?_
          refine lv_iconst (v := (-1)) hx hb dX5_bestWay_52 (by decide) ?_
          refine lv_icmp_eq (tgt := 63) hx hb dX5_bestWay_53 (by decide) (fun hc53 => ?_) (fun hc53 => ?_)
          · replace hF := st_t hc53 hF
            exact n_63 rec16 hr16 a1 a2 a3 a6 r10 M H locs ls (lv_sub hl [1, 2, 3, 4, 7, 0] rfl) hw hF
          · replace hF := st_f hc53 hF
            refine lv_iload hx hb dX5_bestWay_56 (lv_at hl 0 rfl) ?_
            refine lv_iload hx hb dX5_bestWay_58 (lv_at hl 6 rfl) ?_
            refine lv_icmp_ge (tgt := 71) hx hb dX5_bestWay_60 (by decide) (fun hc60 => ?_) (fun hc60 => ?_)
            · replace hF := st_t hc60 hF
              exact n_71 rec16 hr16 a1 a2 a3 a4 a5 a6 M H locs ls (lv_sub hl [1, 2, 3, 4, 5, 6, 7] rfl) hw hF
            · replace hF := st_f hc60 hF
              exact n_63 rec16 hr16 a1 a2 a3 a6 r10 M H locs ls (lv_sub hl [1, 2, 3, 4, 7, 0] rfl) hw hF
  unfold f_X5_bestWay at hF
  refine lv_aload_n hx hb dX5_bestWay_0 rfl (lv_at hl 0 rfl) ?_
  refine lv_iload_n hx hb dX5_bestWay_1 rfl (lv_at hl 1 rfl) ?_
  refine lv_iload_n hx hb dX5_bestWay_2 rfl (lv_at hl 2 rfl) ?_
  refine lv_iload_n hx hb dX5_bestWay_3 rfl (lv_at hl 3 rfl) ?_
  obtain ⟨er11, r11, M12, hgr11, hF⟩ := st_bnd3 hF
  refine g_xcv hw (g_xrunV (C := RX5) (As := [.int p1, .int p2, .int p3]) (rest := []) fx hw isO_0 rfl (c_X5_requireTelling l x D cy ad p1 p2 p3 H.size M er11 r11 M12 hl9 hgr11) wd4_78 wd4_80 wd0_39 wd1_1 wd4_81 yd_X5_requireTelling rfl rfl (Nat.le_of_ble_eq_true rfl) hl.1 ⟨Nat.le_trans (Nat.le_of_ble_eq_true rfl) hR.1, Nat.le_trans (Nat.le_of_ble_eq_true rfl) hR.2.1⟩ ⟨Nat.le_trans (Nat.le_of_ble_eq_true rfl) hR.2.2.1, Nat.le_trans (Nat.le_of_ble_eq_true rfl) hR.2.2.2⟩ dX5_bestWay_4) (fun her11 ce q9 H locs hw hce hcv hcl => ?_) (fun her11 H locs hw => ?_)
  · replace hF := st_f her11 hF
    rw [hQ]
    exact g_xout fx htab hw hF her11 hce hcv hcl (Nat.le_of_ble_eq_true rfl) (Nat.le_of_ble_eq_true rfl)
  · replace hF := st_t her11 hF
    refine lv_iconst (v := (-1)) hx hb dX5_bestWay_7 (by decide) ?_
    refine lv_istore (lv' := [(4, .int (-1)), (0, .ref (ad 0)), (1, .int p1), (2, .int p2), (3, .int p3)]) hx hb dX5_bestWay_8 hl (by decide) rfl (fun ls hl => ?_)
    refine lv_iconst (v := 0) hx hb dX5_bestWay_10 (by decide) ?_
    refine lv_istore (lv' := [(5, .int 0), (4, .int (-1)), (0, .ref (ad 0)), (1, .int p1), (2, .int p2), (3, .int p3)]) hx hb dX5_bestWay_11 hl (by decide) rfl (fun ls hl => ?_)
    refine lv_iconst (v := 0) hx hb dX5_bestWay_13 (by decide) ?_
    refine lv_istore (lv' := [(6, .int 0), (5, .int 0), (4, .int (-1)), (0, .ref (ad 0)), (1, .int p1), (2, .int p2), (3, .int p3)]) hx hb dX5_bestWay_14 hl (by decide) rfl (fun ls hl => ?_)
    exact n_16 FU p1 p2 p3 (-1) 0 0 M12 H locs ls (lv_sub hl [3, 4, 5, 6, 2, 1, 0] rfl) hw hF
theorem c_X5_bestWay (l : Launch) (x : SX) (D : va_G) (cy : Nat → ClassId) (ad : Nat → Nat) (p1 p2 p3 : Int32) (sz : Nat) (M : Mem) (ee : Nat) (z : Int32) (M' : Mem) (hl9 : l.stackTraces = false) (hF : f_X5_bestWay p1 p2 p3 M = some (ee, z, M')) : vx_Met l yX5_bestWay (.code yX5_bestWay cX5_bestWay 8 (some .int) :: GB) ({ frames := 8, cells := 4, slots := 24, locals := 134 } : Room) (PcW D cy ad x sz M [.ref (ad 0), .int p1, .int p2, .int p3]) (QxiW D cy ad sz ee z M') (XXW D cy ad sz ee M') 4 24 (AA ad sz) := by
  refine mk_x (own := RX5) (by decide) rfl (Nat.le_of_ble_eq_true rfl) ?_
  intro p e s m args below meth c ls fx htab hw hl hsz
  subst hsz
  exact b_X5_bestWay fx ⟨Nat.le_refl _, Nat.le_refl _, Nat.le_refl _, Nat.le_refl _⟩ p1 p2 p3 M ee z M' hF hl9 htab rfl (fun pc ls H locs v M1 hd hw h => g_xiret fx hw h hd) _ _ ls hl hw
noncomputable def f_X5_speechIn_2 (M : Mem) (rec2 : Int32 → Option Int32) : Int32 → Option Int32 := fun a1 => (if 24 ≤ a1 then (some (-1)) else (bnd (f_X1_isSpeechAt 18 (irem ((M 18 16) + a1) 24) M) (fun r3 => (if r3 = 0 then (rec2 (a1 + 1)) else (some a1)))))
noncomputable def f_X5_speechIn (M : Mem) : Option Int32 := ((lp (fun _ => none) (f_X5_speechIn_2 M) FU) 0)
set_option maxHeartbeats 4000000 in
set_option maxRecDepth 100000 in
theorem b_X5_speechIn {p : Program} {l : Launch} {e : Env} {R : Room} {s : State} {m : MethodId} {args : Array Value} {below : List Frame} {meth : Method} {c : Code} {Q : State → Prop} {D : va_G} {cy : Nat → ClassId} {ad : Nat → Nat} {x : SX} (fx : FX p s m args meth c cX5_speechIn 2 (some .int) RX5 D cy ad x) (hR : 2 ≤ R.frames ∧ 45 ≤ R.locals ∧ 0 ≤ R.cells ∧ 0 ≤ R.slots) (M : Mem) (z : Int32) (hF : f_X5_speechIn M = some z) (E : ∀ (pc : Nat) (ls : Array Slot) (H : Heap) (locs : List Loc) (v : Int32), decode cX5_speechIn pc = .ok (.ireturn, 1) → WD D cy ad s M H locs → some v = some z → W p l e R s m args below meth c H locs 0 0 Q (F0 m pc ls [.int v])) (H : Heap) (locs : List Loc) (ls : Array Slot) (hl : lv_has ls 2 [(0, .ref (ad 0))]) (hw : WD D cy ad s M H locs) : W p l e R s m args below meth c H locs 0 0 Q (F0 m 0 ls []) := by
  have hx := fx.1.1
  have hb := fx.1.2.1
  have hown := fx.1.2.2.2.1
  have hts := fx.1.2.2.2.2
  have n_2 : ∀ (n9 : Nat), ∀ (a1 : Int32) (H : Heap) (locs : List Loc) (ls : Array Slot), lv_has ls 2 [(0, .ref (ad 0)), (1, .int a1)] → WD D cy ad s M H locs → (lp (fun _ => none) (f_X5_speechIn_2 M) n9) a1 = some z → W p l e R s m args below meth c H locs 0 0 Q (F0 m 2 ls []) := by
    intro n9
    refine lp_ind (fun (rec2 : Int32 → Option Int32) => ∀ (a1 : Int32) (H : Heap) (locs : List Loc) (ls : Array Slot), lv_has ls 2 [(0, .ref (ad 0)), (1, .int a1)] → WD D cy ad s M H locs → rec2 a1 = some z → W p l e R s m args below meth c H locs 0 0 Q (F0 m 2 ls [])) ?_ ?_ n9
    · intro a1 H locs ls hl hw hF
      exact nomatch hF
    · intro rec2 hr2 a1 H locs ls hl hw hF
      unfold f_X5_speechIn_2 at hF
      refine lv_iload_n hx hb dX5_speechIn_2 rfl (lv_at hl 1 rfl) ?_
      refine lv_bipush (v := 24) hx hb dX5_speechIn_3 (by decide) ?_
      refine lv_icmp_ge (tgt := 38) hx hb dX5_speechIn_5 (by decide) (fun hc5 => ?_) (fun hc5 => ?_)
      · replace hF := st_t hc5 hF
        refine lv_iconst (v := (-1)) hx hb dX5_speechIn_38 (by decide) ?_
        exact E _ _ _ _ _ dX5_speechIn_39 hw hF
      · replace hF := st_f hc5 hF
        refine lv_aload_n hx hb dX5_speechIn_8 rfl (lv_at hl 0 rfl) ?_
        refine gX5_get fx hw isO_0 0 (by decide) wd1_205 rfl dX5_speechIn_9 ?_
        refine lv_aload_n hx hb dX5_speechIn_12 rfl (lv_at hl 0 rfl) ?_
        refine gX5_get fx hw isO_0 0 (by decide) wd1_205 rfl dX5_speechIn_13 ?_
        refine gX1_get fx hw isH_18.O 16 (by decide) wd1_73 rfl dX5_speechIn_16 ?_
        refine lv_iload_n hx hb dX5_speechIn_19 rfl (lv_at hl 1 rfl) ?_
        refine lv_iadd hx hb dX5_speechIn_20 ?_
        refine lv_bipush (v := 24) hx hb dX5_speechIn_21 (by decide) ?_
        refine g_irem hx hb dX5_speechIn_23 (by decide) ?_
        obtain ⟨r3, hgr3, hF⟩ := st_bnd hF
        refine g_cz hw (g_runV (C := RX1) (As := [.int (irem ((M 18 16) + a1) 24)]) (rest := []) fx hw isH_18.O rfl (c_X1_isSpeechAt l x D cy ad 18 isH_18 (irem ((M 18 16) + a1) 24) H.size M r3 hgr3) wd3_81 wd2_196 wd2_197 wd1_2 wd2_198 yd_X1_isSpeechAt rfl rfl (Nat.le_of_ble_eq_true rfl) hl.1 ⟨Nat.le_trans (Nat.le_of_ble_eq_true rfl) hR.1, Nat.le_trans (Nat.le_of_ble_eq_true rfl) hR.2.1⟩ ⟨Nat.le_trans (Nat.le_of_ble_eq_true rfl) hR.2.2.1, Nat.le_trans (Nat.le_of_ble_eq_true rfl) hR.2.2.2⟩ dX5_speechIn_24) (fun H locs hbr3 hw => ?_)
        refine lv_if_eq (tgt := 32) hx hb dX5_speechIn_27 (by decide) (fun hc27 => ?_) (fun hc27 => ?_)
        · replace hF := st_t hc27 hF
          refine lv_iinc (v := (a1 + 1)) (lv' := [(1, .int (a1 + 1)), (0, .ref (ad 0))]) hx hb dX5_speechIn_32 hl (k := 1) rfl rfl (by decide) rfl (fun ls hl => ?_)
          refine lv_goto (tgt := 2) hx hb dX5_speechIn_35 (by decide) ?_
          exact hr2 (a1 + 1) H locs ls (lv_sub hl [1, 0] rfl) hw hF
        · replace hF := st_f hc27 hF
          refine lv_iload_n hx hb dX5_speechIn_30 rfl (lv_at hl 1 rfl) ?_
          exact E _ _ _ _ _ dX5_speechIn_31 hw hF
  unfold f_X5_speechIn at hF
  refine lv_iconst (v := 0) hx hb dX5_speechIn_0 (by decide) ?_
  refine lv_istore_n (lv' := [(1, .int 0), (0, .ref (ad 0))]) hx hb dX5_speechIn_1 rfl hl (by decide) rfl (fun ls hl => ?_)
  exact n_2 FU 0 H locs ls (lv_sub hl [1, 0] rfl) hw hF
theorem c_X5_speechIn (l : Launch) (x : SX) (D : va_G) (cy : Nat → ClassId) (ad : Nat → Nat) (sz : Nat) (M : Mem) (z : Int32) (hF : f_X5_speechIn M = some z) : Met l yX5_speechIn (.code yX5_speechIn cX5_speechIn 2 (some .int) :: GB) ({ frames := 2, cells := 0, slots := 0, locals := 45 } : Room) (PcW D cy ad x sz M [.ref (ad 0)]) (QiW D cy ad sz z M) 0 0 (AA ad sz) := by
  refine mk_m (own := RX5) (by decide) rfl (Nat.le_of_ble_eq_true rfl) ?_
  intro p e s m args below meth c ls fx hw hl hsz
  subst hsz
  exact b_X5_speechIn fx ⟨Nat.le_refl _, Nat.le_refl _, Nat.le_refl _, Nat.le_refl _⟩ M z hF (fun pc ls H locs v hd hw h => by cases h; exact g_iret fx hw rfl hd) _ _ ls hl hw
noncomputable def f_X5_fastIn (p1 : Int32) (M : Mem) : Option (Nat × Int32 × Mem) := (bnd3 (f_X5_requireWithin p1 0 999 M) (fun er4 r4 M5 => (if er4 = 0 then (bnd (f_X1_fastBehind 18 p1 M5) (fun r6 => (some (0, r6, M5)))) else (some (er4, 0, M5)))))
set_option maxHeartbeats 4000000 in
set_option maxRecDepth 100000 in
theorem b_X5_fastIn {p : Program} {l : Launch} {e : Env} {R : Room} {s : State} {m : MethodId} {args : Array Value} {below : List Frame} {meth : Method} {c : Code} {Q : State → Prop} {D : va_G} {cy : Nat → ClassId} {ad : Nat → Nat} {x : SX} (fx : FX p s m args meth c cX5_fastIn 2 (some .int) RX5 D cy ad x) (hR : 7 ≤ R.frames ∧ 112 ≤ R.locals ∧ 1 ≤ R.cells ∧ 6 ≤ R.slots) (p1 : Int32) (M : Mem) (ee : Nat) (z : Int32) (M' : Mem) (hF : f_X5_fastIn p1 M = some (ee, z, M')) {Qc : Array Value → State → Outcome → State → Prop} (hl9 : l.stackTraces = false) (htab : ∀ z ∈ c.exceptionTable.toList, False) (hQ : Q = vx_MQ below Qc (XXW D cy ad s.heap.size ee M') args s 1 6 (AA ad s.heap.size)) (E : ∀ (pc : Nat) (ls : Array Slot) (H : Heap) (locs : List Loc) (v : Int32) (M1 : Mem), decode cX5_fastIn pc = .ok (.ireturn, 1) → WD D cy ad s M1 H locs → some ((0 : Nat), v, M1) = some (ee, z, M') → W p l e R s m args below meth c H locs 1 6 Q (F0 m pc ls [.int v])) (H : Heap) (locs : List Loc) (ls : Array Slot) (hl : lv_has ls 2 [(0, .ref (ad 0)), (1, .int p1)]) (hw : WD D cy ad s M H locs) : W p l e R s m args below meth c H locs 0 0 Q (F0 m 0 ls []) := by
  have hx := fx.1.1
  have hb := fx.1.2.1
  have hown := fx.1.2.2.2.1
  have hts := fx.1.2.2.2.2
  unfold f_X5_fastIn at hF
  refine lv_iload_n hx hb dX5_fastIn_0 rfl (lv_at hl 1 rfl) ?_
  refine lv_iconst (v := 0) hx hb dX5_fastIn_1 (by decide) ?_
  refine lv_sipush (v := 999) hx hb dX5_fastIn_2 (by decide) ?_
  obtain ⟨er4, r4, M5, hgr4, hF⟩ := st_bnd3 hF
  refine g_xcv hw (g_xrunS (As := [.int p1, .int 0, .int 999]) (rest := []) fx hw (c_X5_requireWithin l x D cy ad p1 0 999 H.size M er4 r4 M5 hl9 hgr4) wd4_86 wd4_87 wd1_1 wd4_88 yd_X5_requireWithin rfl rfl (Nat.le_of_ble_eq_true rfl) hl.1 ⟨Nat.le_trans (Nat.le_of_ble_eq_true rfl) hR.1, Nat.le_trans (Nat.le_of_ble_eq_true rfl) hR.2.1⟩ ⟨Nat.le_trans (Nat.le_of_ble_eq_true rfl) hR.2.2.1, Nat.le_trans (Nat.le_of_ble_eq_true rfl) hR.2.2.2⟩ dX5_fastIn_5) (fun her4 ce q9 H locs hw hce hcv hcl => ?_) (fun her4 H locs hw => ?_)
  · replace hF := st_f her4 hF
    rw [hQ]
    exact g_xout fx htab hw hF her4 hce hcv hcl (Nat.le_of_ble_eq_true rfl) (Nat.le_of_ble_eq_true rfl)
  · replace hF := st_t her4 hF
    refine lv_aload_n hx hb dX5_fastIn_8 rfl (lv_at hl 0 rfl) ?_
    refine gX5_get fx hw isO_0 0 (by decide) wd1_205 rfl dX5_fastIn_9 ?_
    refine lv_iload_n hx hb dX5_fastIn_12 rfl (lv_at hl 1 rfl) ?_
    obtain ⟨r6, hgr6, hF⟩ := st_bnd hF
    refine g_ci hw (g_runV (C := RX1) (As := [.int p1]) (rest := []) fx hw isH_18.O rfl (c_X1_fastBehind l x D cy ad 18 isH_18 p1 H.size M5 r6 hgr6) wd4_122 wd4_123 wd4_124 wd1_2 wd4_125 yd_X1_fastBehind rfl rfl (Nat.le_of_ble_eq_true rfl) hl.1 ⟨Nat.le_trans (Nat.le_of_ble_eq_true rfl) hR.1, Nat.le_trans (Nat.le_of_ble_eq_true rfl) hR.2.1⟩ ⟨Nat.le_trans (Nat.le_of_ble_eq_true rfl) hR.2.2.1, Nat.le_trans (Nat.le_of_ble_eq_true rfl) hR.2.2.2⟩ dX5_fastIn_13) (fun H locs hw => ?_)
    exact E _ _ _ _ _ _ dX5_fastIn_16 hw hF
theorem c_X5_fastIn (l : Launch) (x : SX) (D : va_G) (cy : Nat → ClassId) (ad : Nat → Nat) (p1 : Int32) (sz : Nat) (M : Mem) (ee : Nat) (z : Int32) (M' : Mem) (hl9 : l.stackTraces = false) (hF : f_X5_fastIn p1 M = some (ee, z, M')) : vx_Met l yX5_fastIn (.code yX5_fastIn cX5_fastIn 2 (some .int) :: GB) ({ frames := 7, cells := 1, slots := 6, locals := 112 } : Room) (PcW D cy ad x sz M [.ref (ad 0), .int p1]) (QxiW D cy ad sz ee z M') (XXW D cy ad sz ee M') 1 6 (AA ad sz) := by
  refine mk_x (own := RX5) (by decide) rfl (Nat.le_of_ble_eq_true rfl) ?_
  intro p e s m args below meth c ls fx htab hw hl hsz
  subst hsz
  exact b_X5_fastIn fx ⟨Nat.le_refl _, Nat.le_refl _, Nat.le_refl _, Nat.le_refl _⟩ p1 M ee z M' hF hl9 htab rfl (fun pc ls H locs v M1 hd hw h => g_xiret fx hw h hd) _ _ ls hl hw
noncomputable def f_X5_freeIn (p1 : Int32) (M : Mem) : Option (Nat × Int32 × Mem) := (bnd3 (f_X5_requireMonk p1 M) (fun er6 r6 M7 => (if er6 = 0 then (chk (inB p1 12) (if (M7 24 (ix p1)) = 0 then (some (0, 0, M7)) else (chk (inB p1 12) (chk (inB p1 12) (some (0, ((((M7 24 (ix p1)) + (M7 26 (ix p1))) * 24) - (irem (M7 18 16) 24)), M7)))))) else (some (er6, 0, M7)))))
set_option maxHeartbeats 4000000 in
set_option maxRecDepth 100000 in
theorem b_X5_freeIn {p : Program} {l : Launch} {e : Env} {R : Room} {s : State} {m : MethodId} {args : Array Value} {below : List Frame} {meth : Method} {c : Code} {Q : State → Prop} {D : va_G} {cy : Nat → ClassId} {ad : Nat → Nat} {x : SX} (fx : FX p s m args meth c cX5_freeIn 3 (some .int) RX5 D cy ad x) (hR : 7 ≤ R.frames ∧ 111 ≤ R.locals ∧ 1 ≤ R.cells ∧ 6 ≤ R.slots) (p1 : Int32) (M : Mem) (ee : Nat) (z : Int32) (M' : Mem) (hF : f_X5_freeIn p1 M = some (ee, z, M')) {Qc : Array Value → State → Outcome → State → Prop} (hl9 : l.stackTraces = false) (htab : ∀ z ∈ c.exceptionTable.toList, False) (hQ : Q = vx_MQ below Qc (XXW D cy ad s.heap.size ee M') args s 1 6 (AA ad s.heap.size)) (E : ∀ (pc : Nat) (ls : Array Slot) (H : Heap) (locs : List Loc) (v : Int32) (M1 : Mem), decode cX5_freeIn pc = .ok (.ireturn, 1) → WD D cy ad s M1 H locs → some ((0 : Nat), v, M1) = some (ee, z, M') → W p l e R s m args below meth c H locs 1 6 Q (F0 m pc ls [.int v])) (H : Heap) (locs : List Loc) (ls : Array Slot) (hl : lv_has ls 3 [(0, .ref (ad 0)), (1, .int p1)]) (hw : WD D cy ad s M H locs) : W p l e R s m args below meth c H locs 0 0 Q (F0 m 0 ls []) := by
  have hx := fx.1.1
  have hb := fx.1.2.1
  have hown := fx.1.2.2.2.1
  have hts := fx.1.2.2.2.2
  unfold f_X5_freeIn at hF
  refine lv_aload_n hx hb dX5_freeIn_0 rfl (lv_at hl 0 rfl) ?_
  refine lv_iload_n hx hb dX5_freeIn_1 rfl (lv_at hl 1 rfl) ?_
  obtain ⟨er6, r6, M7, hgr6, hF⟩ := st_bnd3 hF
  refine g_xcv hw (g_xrunV (C := RX5) (As := [.int p1]) (rest := []) fx hw isO_0 rfl (c_X5_requireMonk l x D cy ad p1 H.size M er6 r6 M7 hl9 hgr6) wd4_1 wd4_3 wd0_37 wd1_1 wd4_4 yd_X5_requireMonk rfl rfl (Nat.le_of_ble_eq_true rfl) hl.1 ⟨Nat.le_trans (Nat.le_of_ble_eq_true rfl) hR.1, Nat.le_trans (Nat.le_of_ble_eq_true rfl) hR.2.1⟩ ⟨Nat.le_trans (Nat.le_of_ble_eq_true rfl) hR.2.2.1, Nat.le_trans (Nat.le_of_ble_eq_true rfl) hR.2.2.2⟩ dX5_freeIn_2) (fun her6 ce q9 H locs hw hce hcv hcl => ?_) (fun her6 H locs hw => ?_)
  · replace hF := st_f her6 hF
    rw [hQ]
    exact g_xout fx htab hw hF her6 hce hcv hcl (Nat.le_of_ble_eq_true rfl) (Nat.le_of_ble_eq_true rfl)
  · replace hF := st_t her6 hF
    refine lv_aload_n hx hb dX5_freeIn_5 rfl (lv_at hl 0 rfl) ?_
    refine gX5_get fx hw isO_0 0 (by decide) wd1_205 rfl dX5_freeIn_6 ?_
    refine gX1_get fx hw isH_18.O 5 (by decide) wd1_47 rfl dX5_freeIn_9 ?_
    refine lv_iload_n hx hb dX5_freeIn_12 rfl (lv_at hl 1 rfl) ?_
    obtain ⟨hi8, hF⟩ := st_chk hF
    refine g_iald fx hw isH_18.a6 hi8 dX5_freeIn_13 ?_
    refine lv_if_ne (tgt := 19) hx hb dX5_freeIn_14 (by decide) (fun hc14 => ?_) (fun hc14 => ?_)
    · replace hF := st_f hc14 hF
      refine lv_aload_n hx hb dX5_freeIn_19 rfl (lv_at hl 0 rfl) ?_
      refine gX5_get fx hw isO_0 0 (by decide) wd1_205 rfl dX5_freeIn_20 ?_
      refine gX1_get fx hw isH_18.O 5 (by decide) wd1_47 rfl dX5_freeIn_23 ?_
      refine lv_iload_n hx hb dX5_freeIn_26 rfl (lv_at hl 1 rfl) ?_
      obtain ⟨hi9, hF⟩ := st_chk hF
      refine g_iald fx hw isH_18.a6 hi9 dX5_freeIn_27 ?_
      refine lv_aload_n hx hb dX5_freeIn_28 rfl (lv_at hl 0 rfl) ?_
      refine gX5_get fx hw isO_0 0 (by decide) wd1_205 rfl dX5_freeIn_29 ?_
      refine gX1_get fx hw isH_18.O 7 (by decide) wd1_51 rfl dX5_freeIn_32 ?_
      refine lv_iload_n hx hb dX5_freeIn_35 rfl (lv_at hl 1 rfl) ?_
      obtain ⟨hi10, hF⟩ := st_chk hF
      refine g_iald fx hw isH_18.a8 hi10 dX5_freeIn_36 ?_
      refine lv_iadd hx hb dX5_freeIn_37 ?_
      refine lv_istore_n (lv' := [(2, .int ((M7 24 (ix p1)) + (M7 26 (ix p1)))), (0, .ref (ad 0)), (1, .int p1)]) hx hb dX5_freeIn_38 rfl hl (by decide) rfl (fun ls hl => ?_)
      refine lv_iload_n hx hb dX5_freeIn_39 rfl (lv_at hl 0 rfl) ?_
      refine lv_bipush (v := 24) hx hb dX5_freeIn_40 (by decide) ?_
      refine lv_imul hx hb dX5_freeIn_42 ?_
      refine lv_aload_n hx hb dX5_freeIn_43 rfl (lv_at hl 1 rfl) ?_
      refine gX5_get fx hw isO_0 0 (by decide) wd1_205 rfl dX5_freeIn_44 ?_
      refine gX1_get fx hw isH_18.O 16 (by decide) wd1_73 rfl dX5_freeIn_47 ?_
      refine lv_bipush (v := 24) hx hb dX5_freeIn_50 (by decide) ?_
      refine g_irem hx hb dX5_freeIn_52 (by decide) ?_
      refine lv_isub hx hb dX5_freeIn_53 ?_
      exact E _ _ _ _ _ _ dX5_freeIn_54 hw hF
    · replace hF := st_t hc14 hF
      refine lv_iconst (v := 0) hx hb dX5_freeIn_17 (by decide) ?_
      exact E _ _ _ _ _ _ dX5_freeIn_18 hw hF
theorem c_X5_freeIn (l : Launch) (x : SX) (D : va_G) (cy : Nat → ClassId) (ad : Nat → Nat) (p1 : Int32) (sz : Nat) (M : Mem) (ee : Nat) (z : Int32) (M' : Mem) (hl9 : l.stackTraces = false) (hF : f_X5_freeIn p1 M = some (ee, z, M')) : vx_Met l yX5_freeIn (.code yX5_freeIn cX5_freeIn 3 (some .int) :: GB) ({ frames := 7, cells := 1, slots := 6, locals := 111 } : Room) (PcW D cy ad x sz M [.ref (ad 0), .int p1]) (QxiW D cy ad sz ee z M') (XXW D cy ad sz ee M') 1 6 (AA ad sz) := by
  refine mk_x (own := RX5) (by decide) rfl (Nat.le_of_ble_eq_true rfl) ?_
  intro p e s m args below meth c ls fx htab hw hl hsz
  subst hsz
  exact b_X5_freeIn fx ⟨Nat.le_refl _, Nat.le_refl _, Nat.le_refl _, Nat.le_refl _⟩ p1 M ee z M' hF hl9 htab rfl (fun pc ls H locs v M1 hd hw h => g_xiret fx hw h hd) _ _ ls hl hw
noncomputable def f_X5_bestBell_31 (M : Mem) (rec4 : Int32 → Int32 → Option Int32) : Int32 → Int32 → Option Int32 := fun a1 a2 => (rec4 a1 (a2 + 1))
noncomputable def f_X5_bestBell_4 (M : Mem) (rec4 : Int32 → Int32 → Option Int32) : Int32 → Int32 → Option Int32 := fun a1 a2 => (if 24 ≤ a2 then (some a1) else (bnd (f_X1_speechHours 18 a2 M) (fun r5 => (bnd (f_X1_speechHours 18 a1 M) (fun r6 => (if r5 ≤ r6 then ((f_X5_bestBell_31 M rec4) a1 a2) else ((f_X5_bestBell_31 M rec4) a2 a2)))))))
noncomputable def f_X5_bestBell (M : Mem) : Option Int32 := ((lp (fun _ _ => none) (f_X5_bestBell_4 M) FU) 0 1)
set_option maxHeartbeats 4000000 in
set_option maxRecDepth 100000 in
theorem b_X5_bestBell {p : Program} {l : Launch} {e : Env} {R : Room} {s : State} {m : MethodId} {args : Array Value} {below : List Frame} {meth : Method} {c : Code} {Q : State → Prop} {D : va_G} {cy : Nat → ClassId} {ad : Nat → Nat} {x : SX} (fx : FX p s m args meth c cX5_bestBell 3 (some .int) RX5 D cy ad x) (hR : 1 ≤ R.frames ∧ 26 ≤ R.locals ∧ 0 ≤ R.cells ∧ 0 ≤ R.slots) (M : Mem) (z : Int32) (hF : f_X5_bestBell M = some z) (E : ∀ (pc : Nat) (ls : Array Slot) (H : Heap) (locs : List Loc) (v : Int32), decode cX5_bestBell pc = .ok (.ireturn, 1) → WD D cy ad s M H locs → some v = some z → W p l e R s m args below meth c H locs 0 0 Q (F0 m pc ls [.int v])) (H : Heap) (locs : List Loc) (ls : Array Slot) (hl : lv_has ls 3 [(0, .ref (ad 0))]) (hw : WD D cy ad s M H locs) : W p l e R s m args below meth c H locs 0 0 Q (F0 m 0 ls []) := by
  have hx := fx.1.1
  have hb := fx.1.2.1
  have hown := fx.1.2.2.2.1
  have hts := fx.1.2.2.2.2
  have n_31 : ∀ (rec4 : Int32 → Int32 → Option Int32) (_ : ∀ (a1 : Int32) (a2 : Int32) (H : Heap) (locs : List Loc) (ls : Array Slot), lv_has ls 3 [(0, .ref (ad 0)), (1, .int a1), (2, .int a2)] → WD D cy ad s M H locs → rec4 a1 a2 = some z → W p l e R s m args below meth c H locs 0 0 Q (F0 m 4 ls [])) , ∀ (a1 : Int32) (a2 : Int32) (H : Heap) (locs : List Loc) (ls : Array Slot), lv_has ls 3 [(0, .ref (ad 0)), (1, .int a1), (2, .int a2)] → WD D cy ad s M H locs → f_X5_bestBell_31 M rec4 a1 a2 = some z → W p l e R s m args below meth c H locs 0 0 Q (F0 m 31 ls []) := by
    intro rec4 hr4 a1 a2 H locs ls hl hw hF
    unfold f_X5_bestBell_31 at hF
    refine lv_iinc (v := (a2 + 1)) (lv' := [(2, .int (a2 + 1)), (0, .ref (ad 0)), (1, .int a1)]) hx hb dX5_bestBell_31 hl (k := 2) rfl rfl (by decide) rfl (fun ls hl => ?_)
    refine lv_goto (tgt := 4) hx hb dX5_bestBell_34 (by decide) ?_
    exact hr4 a1 (a2 + 1) H locs ls (lv_sub hl [1, 2, 0] rfl) hw hF
  have n_4 : ∀ (n9 : Nat), ∀ (a1 : Int32) (a2 : Int32) (H : Heap) (locs : List Loc) (ls : Array Slot), lv_has ls 3 [(0, .ref (ad 0)), (1, .int a1), (2, .int a2)] → WD D cy ad s M H locs → (lp (fun _ _ => none) (f_X5_bestBell_4 M) n9) a1 a2 = some z → W p l e R s m args below meth c H locs 0 0 Q (F0 m 4 ls []) := by
    intro n9
    refine lp_ind (fun (rec4 : Int32 → Int32 → Option Int32) => ∀ (a1 : Int32) (a2 : Int32) (H : Heap) (locs : List Loc) (ls : Array Slot), lv_has ls 3 [(0, .ref (ad 0)), (1, .int a1), (2, .int a2)] → WD D cy ad s M H locs → rec4 a1 a2 = some z → W p l e R s m args below meth c H locs 0 0 Q (F0 m 4 ls [])) ?_ ?_ n9
    · intro a1 a2 H locs ls hl hw hF
      exact nomatch hF
    · intro rec4 hr4 a1 a2 H locs ls hl hw hF
      unfold f_X5_bestBell_4 at hF
      refine lv_iload_n hx hb dX5_bestBell_4 rfl (lv_at hl 2 rfl) ?_
      refine lv_bipush (v := 24) hx hb dX5_bestBell_5 (by decide) ?_
      refine lv_icmp_ge (tgt := 37) hx hb dX5_bestBell_7 (by decide) (fun hc7 => ?_) (fun hc7 => ?_)
      · replace hF := st_t hc7 hF
        refine lv_iload_n hx hb dX5_bestBell_37 rfl (lv_at hl 1 rfl) ?_
        exact E _ _ _ _ _ dX5_bestBell_38 hw hF
      · replace hF := st_f hc7 hF
        refine lv_aload_n hx hb dX5_bestBell_10 rfl (lv_at hl 0 rfl) ?_
        refine gX5_get fx hw isO_0 0 (by decide) wd1_205 rfl dX5_bestBell_11 ?_
        refine lv_iload_n hx hb dX5_bestBell_14 rfl (lv_at hl 2 rfl) ?_
        obtain ⟨r5, hgr5, hF⟩ := st_bnd hF
        refine g_ci hw (g_runV (C := RX1) (As := [.int a2]) (rest := []) fx hw isH_18.O rfl (c_X1_speechHours l x D cy ad 18 isH_18 a2 H.size M r5 hgr5) wd3_86 wd3_87 wd3_88 wd1_2 wd3_89 yd_X1_speechHours rfl rfl (Nat.le_of_ble_eq_true rfl) hl.1 ⟨Nat.le_trans (Nat.le_of_ble_eq_true rfl) hR.1, Nat.le_trans (Nat.le_of_ble_eq_true rfl) hR.2.1⟩ ⟨Nat.le_trans (Nat.le_of_ble_eq_true rfl) hR.2.2.1, Nat.le_trans (Nat.le_of_ble_eq_true rfl) hR.2.2.2⟩ dX5_bestBell_15) (fun H locs hw => ?_)
        refine lv_aload_n hx hb dX5_bestBell_18 rfl (lv_at hl 0 rfl) ?_
        refine gX5_get fx hw isO_0 0 (by decide) wd1_205 rfl dX5_bestBell_19 ?_
        refine lv_iload_n hx hb dX5_bestBell_22 rfl (lv_at hl 1 rfl) ?_
        obtain ⟨r6, hgr6, hF⟩ := st_bnd hF
        refine g_ci hw (g_runV (C := RX1) (As := [.int a1]) (rest := [.int r5]) fx hw isH_18.O rfl (c_X1_speechHours l x D cy ad 18 isH_18 a1 H.size M r6 hgr6) wd3_86 wd3_87 wd3_88 wd1_2 wd3_89 yd_X1_speechHours rfl rfl (Nat.le_of_ble_eq_true rfl) hl.1 ⟨Nat.le_trans (Nat.le_of_ble_eq_true rfl) hR.1, Nat.le_trans (Nat.le_of_ble_eq_true rfl) hR.2.1⟩ ⟨Nat.le_trans (Nat.le_of_ble_eq_true rfl) hR.2.2.1, Nat.le_trans (Nat.le_of_ble_eq_true rfl) hR.2.2.2⟩ dX5_bestBell_23) (fun H locs hw => ?_)
        refine lv_icmp_le (tgt := 31) hx hb dX5_bestBell_26 (by decide) (fun hc26 => ?_) (fun hc26 => ?_)
        · replace hF := st_t hc26 hF
          exact n_31 rec4 hr4 a1 a2 H locs ls (lv_sub hl [0, 1, 2] rfl) hw hF
        · replace hF := st_f hc26 hF
          refine lv_iload_n hx hb dX5_bestBell_29 rfl (lv_at hl 2 rfl) ?_
          refine lv_istore_n (lv' := [(1, .int a2), (0, .ref (ad 0)), (2, .int a2)]) hx hb dX5_bestBell_30 rfl hl (by decide) rfl (fun ls hl => ?_)
          exact n_31 rec4 hr4 a2 a2 H locs ls (lv_sub hl [1, 0, 2] rfl) hw hF
  unfold f_X5_bestBell at hF
  refine lv_iconst (v := 0) hx hb dX5_bestBell_0 (by decide) ?_
  refine lv_istore_n (lv' := [(1, .int 0), (0, .ref (ad 0))]) hx hb dX5_bestBell_1 rfl hl (by decide) rfl (fun ls hl => ?_)
  refine lv_iconst (v := 1) hx hb dX5_bestBell_2 (by decide) ?_
  refine lv_istore_n (lv' := [(2, .int 1), (1, .int 0), (0, .ref (ad 0))]) hx hb dX5_bestBell_3 rfl hl (by decide) rfl (fun ls hl => ?_)
  exact n_4 FU 0 1 H locs ls (lv_sub hl [2, 1, 0] rfl) hw hF
theorem c_X5_bestBell (l : Launch) (x : SX) (D : va_G) (cy : Nat → ClassId) (ad : Nat → Nat) (sz : Nat) (M : Mem) (z : Int32) (hF : f_X5_bestBell M = some z) : Met l yX5_bestBell (.code yX5_bestBell cX5_bestBell 3 (some .int) :: GB) ({ frames := 1, cells := 0, slots := 0, locals := 26 } : Room) (PcW D cy ad x sz M [.ref (ad 0)]) (QiW D cy ad sz z M) 0 0 (AA ad sz) := by
  refine mk_m (own := RX5) (by decide) rfl (Nat.le_of_ble_eq_true rfl) ?_
  intro p e s m args below meth c ls fx hw hl hsz
  subst hsz
  exact b_X5_bestBell fx ⟨Nat.le_refl _, Nat.le_refl _, Nat.le_refl _, Nat.le_refl _⟩ M z hF (fun pc ls H locs v hd hw h => by cases h; exact g_iret fx hw rfl hd) _ _ ls hl hw
noncomputable def f_X5_bestHearer_36 (M : Mem) (rec4 : Int32 → Int32 → Option Int32) : Int32 → Int32 → Option Int32 := fun a1 a2 => (rec4 a1 (a2 + 1))
noncomputable def f_X5_bestHearer_4 (M : Mem) (rec4 : Int32 → Int32 → Option Int32) : Int32 → Int32 → Option Int32 := fun a1 a2 => (if (M 18 12) ≤ a2 then (some a1) else (bnd (f_X1_wantsMetBy 18 a2 M) (fun r5 => (bnd (f_X1_wantsMetBy 18 a1 M) (fun r6 => (if r5 ≤ r6 then ((f_X5_bestHearer_36 M rec4) a1 a2) else ((f_X5_bestHearer_36 M rec4) a2 a2)))))))
noncomputable def f_X5_bestHearer (M : Mem) : Option Int32 := ((lp (fun _ _ => none) (f_X5_bestHearer_4 M) FU) 0 1)
set_option maxHeartbeats 4000000 in
set_option maxRecDepth 100000 in
theorem b_X5_bestHearer {p : Program} {l : Launch} {e : Env} {R : Room} {s : State} {m : MethodId} {args : Array Value} {below : List Frame} {meth : Method} {c : Code} {Q : State → Prop} {D : va_G} {cy : Nat → ClassId} {ad : Nat → Nat} {x : SX} (fx : FX p s m args meth c cX5_bestHearer 3 (some .int) RX5 D cy ad x) (hR : 2 ≤ R.frames ∧ 43 ≤ R.locals ∧ 0 ≤ R.cells ∧ 0 ≤ R.slots) (M : Mem) (z : Int32) (hF : f_X5_bestHearer M = some z) (E : ∀ (pc : Nat) (ls : Array Slot) (H : Heap) (locs : List Loc) (v : Int32), decode cX5_bestHearer pc = .ok (.ireturn, 1) → WD D cy ad s M H locs → some v = some z → W p l e R s m args below meth c H locs 0 0 Q (F0 m pc ls [.int v])) (H : Heap) (locs : List Loc) (ls : Array Slot) (hl : lv_has ls 3 [(0, .ref (ad 0))]) (hw : WD D cy ad s M H locs) : W p l e R s m args below meth c H locs 0 0 Q (F0 m 0 ls []) := by
  have hx := fx.1.1
  have hb := fx.1.2.1
  have hown := fx.1.2.2.2.1
  have hts := fx.1.2.2.2.2
  have n_36 : ∀ (rec4 : Int32 → Int32 → Option Int32) (_ : ∀ (a1 : Int32) (a2 : Int32) (H : Heap) (locs : List Loc) (ls : Array Slot), lv_has ls 3 [(0, .ref (ad 0)), (1, .int a1), (2, .int a2)] → WD D cy ad s M H locs → rec4 a1 a2 = some z → W p l e R s m args below meth c H locs 0 0 Q (F0 m 4 ls [])) , ∀ (a1 : Int32) (a2 : Int32) (H : Heap) (locs : List Loc) (ls : Array Slot), lv_has ls 3 [(0, .ref (ad 0)), (1, .int a1), (2, .int a2)] → WD D cy ad s M H locs → f_X5_bestHearer_36 M rec4 a1 a2 = some z → W p l e R s m args below meth c H locs 0 0 Q (F0 m 36 ls []) := by
    intro rec4 hr4 a1 a2 H locs ls hl hw hF
    unfold f_X5_bestHearer_36 at hF
    refine lv_iinc (v := (a2 + 1)) (lv' := [(2, .int (a2 + 1)), (0, .ref (ad 0)), (1, .int a1)]) hx hb dX5_bestHearer_36 hl (k := 2) rfl rfl (by decide) rfl (fun ls hl => ?_)
    refine lv_goto (tgt := 4) hx hb dX5_bestHearer_39 (by decide) ?_
    exact hr4 a1 (a2 + 1) H locs ls (lv_sub hl [1, 2, 0] rfl) hw hF
  have n_4 : ∀ (n9 : Nat), ∀ (a1 : Int32) (a2 : Int32) (H : Heap) (locs : List Loc) (ls : Array Slot), lv_has ls 3 [(0, .ref (ad 0)), (1, .int a1), (2, .int a2)] → WD D cy ad s M H locs → (lp (fun _ _ => none) (f_X5_bestHearer_4 M) n9) a1 a2 = some z → W p l e R s m args below meth c H locs 0 0 Q (F0 m 4 ls []) := by
    intro n9
    refine lp_ind (fun (rec4 : Int32 → Int32 → Option Int32) => ∀ (a1 : Int32) (a2 : Int32) (H : Heap) (locs : List Loc) (ls : Array Slot), lv_has ls 3 [(0, .ref (ad 0)), (1, .int a1), (2, .int a2)] → WD D cy ad s M H locs → rec4 a1 a2 = some z → W p l e R s m args below meth c H locs 0 0 Q (F0 m 4 ls [])) ?_ ?_ n9
    · intro a1 a2 H locs ls hl hw hF
      exact nomatch hF
    · intro rec4 hr4 a1 a2 H locs ls hl hw hF
      unfold f_X5_bestHearer_4 at hF
      refine lv_iload_n hx hb dX5_bestHearer_4 rfl (lv_at hl 2 rfl) ?_
      refine lv_aload_n hx hb dX5_bestHearer_5 rfl (lv_at hl 0 rfl) ?_
      refine gX5_get fx hw isO_0 0 (by decide) wd1_205 rfl dX5_bestHearer_6 ?_
      refine gX1_get fx hw isH_18.O 12 (by decide) wd1_62 rfl dX5_bestHearer_9 ?_
      refine lv_icmp_ge (tgt := 42) hx hb dX5_bestHearer_12 (by decide) (fun hc12 => ?_) (fun hc12 => ?_)
      · replace hF := st_t hc12 hF
        refine lv_iload_n hx hb dX5_bestHearer_42 rfl (lv_at hl 1 rfl) ?_
        exact E _ _ _ _ _ dX5_bestHearer_43 hw hF
      · replace hF := st_f hc12 hF
        refine lv_aload_n hx hb dX5_bestHearer_15 rfl (lv_at hl 0 rfl) ?_
        refine gX5_get fx hw isO_0 0 (by decide) wd1_205 rfl dX5_bestHearer_16 ?_
        refine lv_iload_n hx hb dX5_bestHearer_19 rfl (lv_at hl 2 rfl) ?_
        obtain ⟨r5, hgr5, hF⟩ := st_bnd hF
        refine g_ci hw (g_runV (C := RX1) (As := [.int a2]) (rest := []) fx hw isH_18.O rfl (c_X1_wantsMetBy l x D cy ad 18 isH_18 a2 H.size M r5 hgr5) wd3_94 wd3_95 wd3_96 wd1_2 wd3_97 yd_X1_wantsMetBy rfl rfl (Nat.le_of_ble_eq_true rfl) hl.1 ⟨Nat.le_trans (Nat.le_of_ble_eq_true rfl) hR.1, Nat.le_trans (Nat.le_of_ble_eq_true rfl) hR.2.1⟩ ⟨Nat.le_trans (Nat.le_of_ble_eq_true rfl) hR.2.2.1, Nat.le_trans (Nat.le_of_ble_eq_true rfl) hR.2.2.2⟩ dX5_bestHearer_20) (fun H locs hw => ?_)
        refine lv_aload_n hx hb dX5_bestHearer_23 rfl (lv_at hl 0 rfl) ?_
        refine gX5_get fx hw isO_0 0 (by decide) wd1_205 rfl dX5_bestHearer_24 ?_
        refine lv_iload_n hx hb dX5_bestHearer_27 rfl (lv_at hl 1 rfl) ?_
        obtain ⟨r6, hgr6, hF⟩ := st_bnd hF
        refine g_ci hw (g_runV (C := RX1) (As := [.int a1]) (rest := [.int r5]) fx hw isH_18.O rfl (c_X1_wantsMetBy l x D cy ad 18 isH_18 a1 H.size M r6 hgr6) wd3_94 wd3_95 wd3_96 wd1_2 wd3_97 yd_X1_wantsMetBy rfl rfl (Nat.le_of_ble_eq_true rfl) hl.1 ⟨Nat.le_trans (Nat.le_of_ble_eq_true rfl) hR.1, Nat.le_trans (Nat.le_of_ble_eq_true rfl) hR.2.1⟩ ⟨Nat.le_trans (Nat.le_of_ble_eq_true rfl) hR.2.2.1, Nat.le_trans (Nat.le_of_ble_eq_true rfl) hR.2.2.2⟩ dX5_bestHearer_28) (fun H locs hw => ?_)
        refine lv_icmp_le (tgt := 36) hx hb dX5_bestHearer_31 (by decide) (fun hc31 => ?_) (fun hc31 => ?_)
        · replace hF := st_t hc31 hF
          exact n_36 rec4 hr4 a1 a2 H locs ls (lv_sub hl [0, 1, 2] rfl) hw hF
        · replace hF := st_f hc31 hF
          refine lv_iload_n hx hb dX5_bestHearer_34 rfl (lv_at hl 2 rfl) ?_
          refine lv_istore_n (lv' := [(1, .int a2), (0, .ref (ad 0)), (2, .int a2)]) hx hb dX5_bestHearer_35 rfl hl (by decide) rfl (fun ls hl => ?_)
          exact n_36 rec4 hr4 a2 a2 H locs ls (lv_sub hl [1, 0, 2] rfl) hw hF
  unfold f_X5_bestHearer at hF
  refine lv_iconst (v := 0) hx hb dX5_bestHearer_0 (by decide) ?_
  refine lv_istore_n (lv' := [(1, .int 0), (0, .ref (ad 0))]) hx hb dX5_bestHearer_1 rfl hl (by decide) rfl (fun ls hl => ?_)
  refine lv_iconst (v := 1) hx hb dX5_bestHearer_2 (by decide) ?_
  refine lv_istore_n (lv' := [(2, .int 1), (1, .int 0), (0, .ref (ad 0))]) hx hb dX5_bestHearer_3 rfl hl (by decide) rfl (fun ls hl => ?_)
  exact n_4 FU 0 1 H locs ls (lv_sub hl [2, 1, 0] rfl) hw hF
theorem c_X5_bestHearer (l : Launch) (x : SX) (D : va_G) (cy : Nat → ClassId) (ad : Nat → Nat) (sz : Nat) (M : Mem) (z : Int32) (hF : f_X5_bestHearer M = some z) : Met l yX5_bestHearer (.code yX5_bestHearer cX5_bestHearer 3 (some .int) :: GB) ({ frames := 2, cells := 0, slots := 0, locals := 43 } : Room) (PcW D cy ad x sz M [.ref (ad 0)]) (QiW D cy ad sz z M) 0 0 (AA ad sz) := by
  refine mk_m (own := RX5) (by decide) rfl (Nat.le_of_ble_eq_true rfl) ?_
  intro p e s m args below meth c ls fx hw hl hsz
  subst hsz
  exact b_X5_bestHearer fx ⟨Nat.le_refl _, Nat.le_refl _, Nat.le_refl _, Nat.le_refl _⟩ M z hF (fun pc ls H locs v hd hw h => by cases h; exact g_iret fx hw rfl hd) _ _ ls hl hw
noncomputable def f_X5_refusal (p1 : Int32) (M : Mem) : Option Int32 := (some ((-10) - p1))
set_option maxHeartbeats 4000000 in
set_option maxRecDepth 100000 in
theorem b_X5_refusal {p : Program} {l : Launch} {e : Env} {R : Room} {s : State} {m : MethodId} {args : Array Value} {below : List Frame} {meth : Method} {c : Code} {Q : State → Prop} {D : va_G} {cy : Nat → ClassId} {ad : Nat → Nat} {x : SX} (fx : FX p s m args meth c cX5_refusal 1 (some .int) RX5 D cy ad x) (hR : 0 ≤ R.frames ∧ 0 ≤ R.locals ∧ 0 ≤ R.cells ∧ 0 ≤ R.slots) (p1 : Int32) (M : Mem) (z : Int32) (hF : f_X5_refusal p1 M = some z) (E : ∀ (pc : Nat) (ls : Array Slot) (H : Heap) (locs : List Loc) (v : Int32), decode cX5_refusal pc = .ok (.ireturn, 1) → WD D cy ad s M H locs → some v = some z → W p l e R s m args below meth c H locs 0 0 Q (F0 m pc ls [.int v])) (H : Heap) (locs : List Loc) (ls : Array Slot) (hl : lv_has ls 1 [(0, .int p1)]) (hw : WD D cy ad s M H locs) : W p l e R s m args below meth c H locs 0 0 Q (F0 m 0 ls []) := by
  have hx := fx.1.1
  have hb := fx.1.2.1
  have hown := fx.1.2.2.2.1
  have hts := fx.1.2.2.2.2
  unfold f_X5_refusal at hF
  refine lv_bipush (v := (-10)) hx hb dX5_refusal_0 (by decide) ?_
  refine lv_iload_n hx hb dX5_refusal_2 rfl (lv_at hl 0 rfl) ?_
  refine lv_isub hx hb dX5_refusal_3 ?_
  exact E _ _ _ _ _ dX5_refusal_4 hw hF
theorem c_X5_refusal (l : Launch) (x : SX) (D : va_G) (cy : Nat → ClassId) (ad : Nat → Nat) (p1 : Int32) (sz : Nat) (M : Mem) (z : Int32) (hF : f_X5_refusal p1 M = some z) : Met l yX5_refusal (.code yX5_refusal cX5_refusal 1 (some .int) :: GB) ({ frames := 0, cells := 0, slots := 0, locals := 0 } : Room) (PcW D cy ad x sz M [.int p1]) (QiW D cy ad sz z M) 0 0 (AA ad sz) := by
  refine mk_m (own := RX5) (by decide) rfl (Nat.le_of_ble_eq_true rfl) ?_
  intro p e s m args below meth c ls fx hw hl hsz
  subst hsz
  exact b_X5_refusal fx ⟨Nat.le_refl _, Nat.le_refl _, Nat.le_refl _, Nat.le_refl _⟩ p1 M z hF (fun pc ls H locs v hd hw h => by cases h; exact g_iret fx hw rfl hd) _ _ ls hl hw
noncomputable def f_X5_want (p1 p2 : Int32) (M : Mem) : Option (Nat × Int32 × Mem) := (bnd3 (f_X5_requireMonk p1 M) (fun er11 r11 M12 => (if er11 = 0 then (bnd3 (f_X5_requireNeed p2 M12) (fun er13 r13 M14 => (if er13 = 0 then (bnd (f_X1_wantRefusal 18 p1 p2 M14) (fun r15 => (if r15 = 0 then (bnd (f_X0_remember 18 M14) (fun M17 => (bnd2 (f_X1_addWant 18 p1 p2 M17) (fun r18 M19 => (some (0, r18, M19)))))) else (bnd (f_X5_refusal r15 M14) (fun r20 => (some (0, r20, M14))))))) else (some (er13, 0, M14))))) else (some (er11, 0, M12)))))
set_option maxHeartbeats 4000000 in
set_option maxRecDepth 100000 in
theorem b_X5_want {p : Program} {l : Launch} {e : Env} {R : Room} {s : State} {m : MethodId} {args : Array Value} {below : List Frame} {meth : Method} {c : Code} {Q : State → Prop} {D : va_G} {cy : Nat → ClassId} {ad : Nat → Nat} {x : SX} (fx : FX p s m args meth c cX5_want 4 (some .int) RX5 D cy ad x) (hR : 7 ≤ R.frames ∧ 111 ≤ R.locals ∧ 2 ≤ R.cells ∧ 12 ≤ R.slots) (p1 p2 : Int32) (M : Mem) (ee : Nat) (z : Int32) (M' : Mem) (hF : f_X5_want p1 p2 M = some (ee, z, M')) {Qc : Array Value → State → Outcome → State → Prop} (hl9 : l.stackTraces = false) (htab : ∀ z ∈ c.exceptionTable.toList, False) (hQ : Q = vx_MQ below Qc (XXW D cy ad s.heap.size ee M') args s 2 12 (AA ad s.heap.size)) (E : ∀ (pc : Nat) (ls : Array Slot) (H : Heap) (locs : List Loc) (v : Int32) (M1 : Mem), decode cX5_want pc = .ok (.ireturn, 1) → WD D cy ad s M1 H locs → some ((0 : Nat), v, M1) = some (ee, z, M') → W p l e R s m args below meth c H locs 2 12 Q (F0 m pc ls [.int v])) (H : Heap) (locs : List Loc) (ls : Array Slot) (hl : lv_has ls 4 [(0, .ref (ad 0)), (1, .int p1), (2, .int p2)]) (hw : WD D cy ad s M H locs) : W p l e R s m args below meth c H locs 0 0 Q (F0 m 0 ls []) := by
  have hx := fx.1.1
  have hb := fx.1.2.1
  have hown := fx.1.2.2.2.1
  have hts := fx.1.2.2.2.2
  unfold f_X5_want at hF
  refine lv_aload_n hx hb dX5_want_0 rfl (lv_at hl 0 rfl) ?_
  refine lv_iload_n hx hb dX5_want_1 rfl (lv_at hl 1 rfl) ?_
  obtain ⟨er11, r11, M12, hgr11, hF⟩ := st_bnd3 hF
  refine g_xcv hw (g_xrunV (C := RX5) (As := [.int p1]) (rest := []) fx hw isO_0 rfl (c_X5_requireMonk l x D cy ad p1 H.size M er11 r11 M12 hl9 hgr11) wd4_1 wd4_3 wd0_37 wd1_1 wd4_4 yd_X5_requireMonk rfl rfl (Nat.le_of_ble_eq_true rfl) hl.1 ⟨Nat.le_trans (Nat.le_of_ble_eq_true rfl) hR.1, Nat.le_trans (Nat.le_of_ble_eq_true rfl) hR.2.1⟩ ⟨Nat.le_trans (Nat.le_of_ble_eq_true rfl) hR.2.2.1, Nat.le_trans (Nat.le_of_ble_eq_true rfl) hR.2.2.2⟩ dX5_want_2) (fun her11 ce q9 H locs hw hce hcv hcl => ?_) (fun her11 H locs hw => ?_)
  · replace hF := st_f her11 hF
    rw [hQ]
    exact g_xout fx htab hw hF her11 hce hcv hcl (Nat.le_of_ble_eq_true rfl) (Nat.le_of_ble_eq_true rfl)
  · replace hF := st_t her11 hF
    refine lv_aload_n hx hb dX5_want_5 rfl (lv_at hl 0 rfl) ?_
    refine lv_iload_n hx hb dX5_want_6 rfl (lv_at hl 2 rfl) ?_
    obtain ⟨er13, r13, M14, hgr13, hF⟩ := st_bnd3 hF
    refine g_xcv hw (g_xrunV (C := RX5) (As := [.int p2]) (rest := []) fx hw isO_0 rfl (c_X5_requireNeed l x D cy ad p2 H.size M12 er13 r13 M14 hl9 hgr13) wd4_40 wd4_42 wd0_38 wd1_1 wd4_43 yd_X5_requireNeed rfl rfl (Nat.le_of_ble_eq_true rfl) hl.1 ⟨Nat.le_trans (Nat.le_of_ble_eq_true rfl) hR.1, Nat.le_trans (Nat.le_of_ble_eq_true rfl) hR.2.1⟩ ⟨Nat.le_trans (Nat.le_of_ble_eq_true rfl) hR.2.2.1, Nat.le_trans (Nat.le_of_ble_eq_true rfl) hR.2.2.2⟩ dX5_want_7) (fun her13 ce q9 H locs hw hce hcv hcl => ?_) (fun her13 H locs hw => ?_)
    · replace hF := st_f her13 hF
      rw [hQ]
      exact g_xout fx htab hw hF her13 hce hcv hcl (Nat.le_of_ble_eq_true rfl) (Nat.le_of_ble_eq_true rfl)
    · replace hF := st_t her13 hF
      refine lv_aload_n hx hb dX5_want_10 rfl (lv_at hl 0 rfl) ?_
      refine gX5_get fx hw isO_0 0 (by decide) wd1_205 rfl dX5_want_11 ?_
      refine lv_iload_n hx hb dX5_want_14 rfl (lv_at hl 1 rfl) ?_
      refine lv_iload_n hx hb dX5_want_15 rfl (lv_at hl 2 rfl) ?_
      obtain ⟨r15, hgr15, hF⟩ := st_bnd hF
      refine g_ci hw (g_runV (C := RX1) (As := [.int p1, .int p2]) (rest := []) fx hw isH_18.O rfl (c_X1_wantRefusal l x D cy ad 18 isH_18 p1 p2 H.size M14 r15 hgr15) wd4_140 wd2_154 wd2_155 wd1_2 wd2_156 yd_X1_wantRefusal rfl rfl (Nat.le_of_ble_eq_true rfl) hl.1 ⟨Nat.le_trans (Nat.le_of_ble_eq_true rfl) hR.1, Nat.le_trans (Nat.le_of_ble_eq_true rfl) hR.2.1⟩ ⟨Nat.le_trans (Nat.le_of_ble_eq_true rfl) hR.2.2.1, Nat.le_trans (Nat.le_of_ble_eq_true rfl) hR.2.2.2⟩ dX5_want_16) (fun H locs hw => ?_)
      refine lv_istore_n (lv' := [(3, .int r15), (0, .ref (ad 0)), (1, .int p1), (2, .int p2)]) hx hb dX5_want_19 rfl hl (by decide) rfl (fun ls hl => ?_)
      refine lv_iload_n hx hb dX5_want_20 rfl (lv_at hl 0 rfl) ?_
      refine lv_if_eq (tgt := 29) hx hb dX5_want_21 (by decide) (fun hc21 => ?_) (fun hc21 => ?_)
      · replace hF := st_t hc21 hF
        refine lv_aload_n hx hb dX5_want_29 rfl (lv_at hl 1 rfl) ?_
        refine gX5_get fx hw isO_0 2 (by decide) wd1_207 rfl dX5_want_30 ?_
        refine lv_aload_n hx hb dX5_want_33 rfl (lv_at hl 1 rfl) ?_
        refine gX5_get fx hw isO_0 0 (by decide) wd1_205 rfl dX5_want_34 ?_
        obtain ⟨M17, hgr16, hF⟩ := st_bnd hF
        refine g_cv hw (g_runV (C := RX0) (As := [.ref (ad 18)]) (rest := []) fx hw isO_3 rfl (c_X0_remember l x D cy ad 18 isH_18 H.size M14 M17 hgr16) wd3_32 wd3_33 wd3_34 wd1_6 wd3_35 yd_X0_remember rfl rfl (Nat.le_of_ble_eq_true rfl) hl.1 ⟨Nat.le_trans (Nat.le_of_ble_eq_true rfl) hR.1, Nat.le_trans (Nat.le_of_ble_eq_true rfl) hR.2.1⟩ ⟨Nat.le_trans (Nat.le_of_ble_eq_true rfl) hR.2.2.1, Nat.le_trans (Nat.le_of_ble_eq_true rfl) hR.2.2.2⟩ dX5_want_37) (fun H locs hw => ?_)
        refine lv_aload_n hx hb dX5_want_40 rfl (lv_at hl 1 rfl) ?_
        refine gX5_get fx hw isO_0 0 (by decide) wd1_205 rfl dX5_want_41 ?_
        refine lv_iload_n hx hb dX5_want_44 rfl (lv_at hl 2 rfl) ?_
        refine lv_iload_n hx hb dX5_want_45 rfl (lv_at hl 3 rfl) ?_
        obtain ⟨r18, M19, hgr18, hF⟩ := st_bnd2 hF
        refine g_ci hw (g_runV (C := RX1) (As := [.int p1, .int p2]) (rest := []) fx hw isH_18.O rfl (c_X1_addWant l x D cy ad 18 isH_18 p1 p2 H.size M17 r18 M19 hgr18) wd4_144 wd2_163 wd2_164 wd1_2 wd2_165 yd_X1_addWant rfl rfl (Nat.le_of_ble_eq_true rfl) hl.1 ⟨Nat.le_trans (Nat.le_of_ble_eq_true rfl) hR.1, Nat.le_trans (Nat.le_of_ble_eq_true rfl) hR.2.1⟩ ⟨Nat.le_trans (Nat.le_of_ble_eq_true rfl) hR.2.2.1, Nat.le_trans (Nat.le_of_ble_eq_true rfl) hR.2.2.2⟩ dX5_want_46) (fun H locs hw => ?_)
        exact E _ _ _ _ _ _ dX5_want_49 hw hF
      · replace hF := st_f hc21 hF
        refine lv_iload_n hx hb dX5_want_24 rfl (lv_at hl 0 rfl) ?_
        obtain ⟨r20, hgr20, hF⟩ := st_bnd hF
        refine g_ci hw (g_runS (As := [.int r15]) (rest := []) fx hw (c_X5_refusal l x D cy ad r15 H.size M14 r20 hgr20) wd4_141 wd4_142 wd1_1 wd4_143 yd_X5_refusal rfl rfl (Nat.le_of_ble_eq_true rfl) hl.1 ⟨Nat.le_trans (Nat.le_of_ble_eq_true rfl) hR.1, Nat.le_trans (Nat.le_of_ble_eq_true rfl) hR.2.1⟩ ⟨Nat.le_trans (Nat.le_of_ble_eq_true rfl) hR.2.2.1, Nat.le_trans (Nat.le_of_ble_eq_true rfl) hR.2.2.2⟩ dX5_want_25) (fun H locs hw => ?_)
        exact E _ _ _ _ _ _ dX5_want_28 hw hF
theorem c_X5_want (l : Launch) (x : SX) (D : va_G) (cy : Nat → ClassId) (ad : Nat → Nat) (p1 p2 : Int32) (sz : Nat) (M : Mem) (ee : Nat) (z : Int32) (M' : Mem) (hl9 : l.stackTraces = false) (hF : f_X5_want p1 p2 M = some (ee, z, M')) : vx_Met l yX5_want (.code yX5_want cX5_want 4 (some .int) :: GB) ({ frames := 7, cells := 2, slots := 12, locals := 111 } : Room) (PcW D cy ad x sz M [.ref (ad 0), .int p1, .int p2]) (QxiW D cy ad sz ee z M') (XXW D cy ad sz ee M') 2 12 (AA ad sz) := by
  refine mk_x (own := RX5) (by decide) rfl (Nat.le_of_ble_eq_true rfl) ?_
  intro p e s m args below meth c ls fx htab hw hl hsz
  subst hsz
  exact b_X5_want fx ⟨Nat.le_refl _, Nat.le_refl _, Nat.le_refl _, Nat.le_refl _⟩ p1 p2 M ee z M' hF hl9 htab rfl (fun pc ls H locs v M1 hd hw h => g_xiret fx hw h hd) _ _ ls hl hw
noncomputable def f_X5_tell (p1 p2 p3 p4 : Int32) (M : Mem) : Option (Nat × Int32 × Mem) := (bnd3 (f_X5_requireTelling p1 p2 p3 M) (fun er11 r11 M12 => (if er11 = 0 then (bnd3 (f_X5_requireWithin p4 0 2 M12) (fun er13 r13 M14 => (if er13 = 0 then (bnd (f_X1_tellRefusal 18 p1 p2 p3 p4 M14) (fun r15 => (if r15 = 0 then (bnd (f_X0_remember 18 M14) (fun M17 => (bnd2 (f_X1_tellNeed 18 p1 p2 p3 p4 M17) (fun r18 M19 => (some (0, r18, M19)))))) else (bnd (f_X5_refusal r15 M14) (fun r20 => (some (0, r20, M14))))))) else (some (er13, 0, M14))))) else (some (er11, 0, M12)))))
set_option maxHeartbeats 4000000 in
set_option maxRecDepth 100000 in
theorem b_X5_tell {p : Program} {l : Launch} {e : Env} {R : Room} {s : State} {m : MethodId} {args : Array Value} {below : List Frame} {meth : Method} {c : Code} {Q : State → Prop} {D : va_G} {cy : Nat → ClassId} {ad : Nat → Nat} {x : SX} (fx : FX p s m args meth c cX5_tell 6 (some .int) RX5 D cy ad x) (hR : 8 ≤ R.frames ∧ 134 ≤ R.locals ∧ 5 ≤ R.cells ∧ 30 ≤ R.slots) (p1 p2 p3 p4 : Int32) (M : Mem) (ee : Nat) (z : Int32) (M' : Mem) (hF : f_X5_tell p1 p2 p3 p4 M = some (ee, z, M')) {Qc : Array Value → State → Outcome → State → Prop} (hl9 : l.stackTraces = false) (htab : ∀ z ∈ c.exceptionTable.toList, False) (hQ : Q = vx_MQ below Qc (XXW D cy ad s.heap.size ee M') args s 5 30 (AA ad s.heap.size)) (E : ∀ (pc : Nat) (ls : Array Slot) (H : Heap) (locs : List Loc) (v : Int32) (M1 : Mem), decode cX5_tell pc = .ok (.ireturn, 1) → WD D cy ad s M1 H locs → some ((0 : Nat), v, M1) = some (ee, z, M') → W p l e R s m args below meth c H locs 5 30 Q (F0 m pc ls [.int v])) (H : Heap) (locs : List Loc) (ls : Array Slot) (hl : lv_has ls 6 [(0, .ref (ad 0)), (1, .int p1), (2, .int p2), (3, .int p3), (4, .int p4)]) (hw : WD D cy ad s M H locs) : W p l e R s m args below meth c H locs 0 0 Q (F0 m 0 ls []) := by
  have hx := fx.1.1
  have hb := fx.1.2.1
  have hown := fx.1.2.2.2.1
  have hts := fx.1.2.2.2.2
  unfold f_X5_tell at hF
  refine lv_aload_n hx hb dX5_tell_0 rfl (lv_at hl 0 rfl) ?_
  refine lv_iload_n hx hb dX5_tell_1 rfl (lv_at hl 1 rfl) ?_
  refine lv_iload_n hx hb dX5_tell_2 rfl (lv_at hl 2 rfl) ?_
  refine lv_iload_n hx hb dX5_tell_3 rfl (lv_at hl 3 rfl) ?_
  obtain ⟨er11, r11, M12, hgr11, hF⟩ := st_bnd3 hF
  refine g_xcv hw (g_xrunV (C := RX5) (As := [.int p1, .int p2, .int p3]) (rest := []) fx hw isO_0 rfl (c_X5_requireTelling l x D cy ad p1 p2 p3 H.size M er11 r11 M12 hl9 hgr11) wd4_78 wd4_80 wd0_39 wd1_1 wd4_81 yd_X5_requireTelling rfl rfl (Nat.le_of_ble_eq_true rfl) hl.1 ⟨Nat.le_trans (Nat.le_of_ble_eq_true rfl) hR.1, Nat.le_trans (Nat.le_of_ble_eq_true rfl) hR.2.1⟩ ⟨Nat.le_trans (Nat.le_of_ble_eq_true rfl) hR.2.2.1, Nat.le_trans (Nat.le_of_ble_eq_true rfl) hR.2.2.2⟩ dX5_tell_4) (fun her11 ce q9 H locs hw hce hcv hcl => ?_) (fun her11 H locs hw => ?_)
  · replace hF := st_f her11 hF
    rw [hQ]
    exact g_xout fx htab hw hF her11 hce hcv hcl (Nat.le_of_ble_eq_true rfl) (Nat.le_of_ble_eq_true rfl)
  · replace hF := st_t her11 hF
    refine lv_iload hx hb dX5_tell_7 (lv_at hl 4 rfl) ?_
    refine lv_iconst (v := 0) hx hb dX5_tell_9 (by decide) ?_
    refine lv_iconst (v := 2) hx hb dX5_tell_10 (by decide) ?_
    obtain ⟨er13, r13, M14, hgr13, hF⟩ := st_bnd3 hF
    refine g_xcv hw (g_xrunS (As := [.int p4, .int 0, .int 2]) (rest := []) fx hw (c_X5_requireWithin l x D cy ad p4 0 2 H.size M12 er13 r13 M14 hl9 hgr13) wd4_86 wd4_87 wd1_1 wd4_88 yd_X5_requireWithin rfl rfl (Nat.le_of_ble_eq_true rfl) hl.1 ⟨Nat.le_trans (Nat.le_of_ble_eq_true rfl) hR.1, Nat.le_trans (Nat.le_of_ble_eq_true rfl) hR.2.1⟩ ⟨Nat.le_trans (Nat.le_of_ble_eq_true rfl) hR.2.2.1, Nat.le_trans (Nat.le_of_ble_eq_true rfl) hR.2.2.2⟩ dX5_tell_11) (fun her13 ce q9 H locs hw hce hcv hcl => ?_) (fun her13 H locs hw => ?_)
    · replace hF := st_f her13 hF
      rw [hQ]
      exact g_xout fx htab hw hF her13 hce hcv hcl (Nat.le_of_ble_eq_true rfl) (Nat.le_of_ble_eq_true rfl)
    · replace hF := st_t her13 hF
      refine lv_aload_n hx hb dX5_tell_14 rfl (lv_at hl 0 rfl) ?_
      refine gX5_get fx hw isO_0 0 (by decide) wd1_205 rfl dX5_tell_15 ?_
      refine lv_iload_n hx hb dX5_tell_18 rfl (lv_at hl 1 rfl) ?_
      refine lv_iload_n hx hb dX5_tell_19 rfl (lv_at hl 2 rfl) ?_
      refine lv_iload_n hx hb dX5_tell_20 rfl (lv_at hl 3 rfl) ?_
      refine lv_iload hx hb dX5_tell_21 (lv_at hl 4 rfl) ?_
      obtain ⟨r15, hgr15, hF⟩ := st_bnd hF
      refine g_ci hw (g_runV (C := RX1) (As := [.int p1, .int p2, .int p3, .int p4]) (rest := []) fx hw isH_18.O rfl (c_X1_tellRefusal l x D cy ad 18 isH_18 p1 p2 p3 p4 H.size M14 r15 hgr15) wd4_110 wd2_185 wd2_186 wd1_2 wd2_187 yd_X1_tellRefusal rfl rfl (Nat.le_of_ble_eq_true rfl) hl.1 ⟨Nat.le_trans (Nat.le_of_ble_eq_true rfl) hR.1, Nat.le_trans (Nat.le_of_ble_eq_true rfl) hR.2.1⟩ ⟨Nat.le_trans (Nat.le_of_ble_eq_true rfl) hR.2.2.1, Nat.le_trans (Nat.le_of_ble_eq_true rfl) hR.2.2.2⟩ dX5_tell_23) (fun H locs hw => ?_)
      refine lv_istore (lv' := [(5, .int r15), (0, .ref (ad 0)), (1, .int p1), (2, .int p2), (3, .int p3), (4, .int p4)]) hx hb dX5_tell_26 hl (by decide) rfl (fun ls hl => ?_)
      refine lv_iload hx hb dX5_tell_28 (lv_at hl 0 rfl) ?_
      refine lv_if_eq (tgt := 39) hx hb dX5_tell_30 (by decide) (fun hc30 => ?_) (fun hc30 => ?_)
      · replace hF := st_t hc30 hF
        refine lv_aload_n hx hb dX5_tell_39 rfl (lv_at hl 1 rfl) ?_
        refine gX5_get fx hw isO_0 2 (by decide) wd1_207 rfl dX5_tell_40 ?_
        refine lv_aload_n hx hb dX5_tell_43 rfl (lv_at hl 1 rfl) ?_
        refine gX5_get fx hw isO_0 0 (by decide) wd1_205 rfl dX5_tell_44 ?_
        obtain ⟨M17, hgr16, hF⟩ := st_bnd hF
        refine g_cv hw (g_runV (C := RX0) (As := [.ref (ad 18)]) (rest := []) fx hw isO_3 rfl (c_X0_remember l x D cy ad 18 isH_18 H.size M14 M17 hgr16) wd3_32 wd3_33 wd3_34 wd1_6 wd3_35 yd_X0_remember rfl rfl (Nat.le_of_ble_eq_true rfl) hl.1 ⟨Nat.le_trans (Nat.le_of_ble_eq_true rfl) hR.1, Nat.le_trans (Nat.le_of_ble_eq_true rfl) hR.2.1⟩ ⟨Nat.le_trans (Nat.le_of_ble_eq_true rfl) hR.2.2.1, Nat.le_trans (Nat.le_of_ble_eq_true rfl) hR.2.2.2⟩ dX5_tell_47) (fun H locs hw => ?_)
        refine lv_aload_n hx hb dX5_tell_50 rfl (lv_at hl 1 rfl) ?_
        refine gX5_get fx hw isO_0 0 (by decide) wd1_205 rfl dX5_tell_51 ?_
        refine lv_iload_n hx hb dX5_tell_54 rfl (lv_at hl 2 rfl) ?_
        refine lv_iload_n hx hb dX5_tell_55 rfl (lv_at hl 3 rfl) ?_
        refine lv_iload_n hx hb dX5_tell_56 rfl (lv_at hl 4 rfl) ?_
        refine lv_iload hx hb dX5_tell_57 (lv_at hl 5 rfl) ?_
        obtain ⟨r18, M19, hgr18, hF⟩ := st_bnd2 hF
        refine g_ci hw (g_runV (C := RX1) (As := [.int p1, .int p2, .int p3, .int p4]) (rest := []) fx hw isH_18.O rfl (c_X1_tellNeed l x D cy ad 18 isH_18 p1 p2 p3 p4 H.size M17 r18 M19 hgr18) wd4_152 wd2_218 wd2_219 wd1_2 wd2_220 yd_X1_tellNeed rfl rfl (Nat.le_of_ble_eq_true rfl) hl.1 ⟨Nat.le_trans (Nat.le_of_ble_eq_true rfl) hR.1, Nat.le_trans (Nat.le_of_ble_eq_true rfl) hR.2.1⟩ ⟨Nat.le_trans (Nat.le_of_ble_eq_true rfl) hR.2.2.1, Nat.le_trans (Nat.le_of_ble_eq_true rfl) hR.2.2.2⟩ dX5_tell_59) (fun H locs hw => ?_)
        exact E _ _ _ _ _ _ dX5_tell_62 hw hF
      · replace hF := st_f hc30 hF
        refine lv_iload hx hb dX5_tell_33 (lv_at hl 0 rfl) ?_
        obtain ⟨r20, hgr20, hF⟩ := st_bnd hF
        refine g_ci hw (g_runS (As := [.int r15]) (rest := []) fx hw (c_X5_refusal l x D cy ad r15 H.size M14 r20 hgr20) wd4_141 wd4_142 wd1_1 wd4_143 yd_X5_refusal rfl rfl (Nat.le_of_ble_eq_true rfl) hl.1 ⟨Nat.le_trans (Nat.le_of_ble_eq_true rfl) hR.1, Nat.le_trans (Nat.le_of_ble_eq_true rfl) hR.2.1⟩ ⟨Nat.le_trans (Nat.le_of_ble_eq_true rfl) hR.2.2.1, Nat.le_trans (Nat.le_of_ble_eq_true rfl) hR.2.2.2⟩ dX5_tell_35) (fun H locs hw => ?_)
        exact E _ _ _ _ _ _ dX5_tell_38 hw hF
theorem c_X5_tell (l : Launch) (x : SX) (D : va_G) (cy : Nat → ClassId) (ad : Nat → Nat) (p1 p2 p3 p4 : Int32) (sz : Nat) (M : Mem) (ee : Nat) (z : Int32) (M' : Mem) (hl9 : l.stackTraces = false) (hF : f_X5_tell p1 p2 p3 p4 M = some (ee, z, M')) : vx_Met l yX5_tell (.code yX5_tell cX5_tell 6 (some .int) :: GB) ({ frames := 8, cells := 5, slots := 30, locals := 134 } : Room) (PcW D cy ad x sz M [.ref (ad 0), .int p1, .int p2, .int p3, .int p4]) (QxiW D cy ad sz ee z M') (XXW D cy ad sz ee M') 5 30 (AA ad sz) := by
  refine mk_x (own := RX5) (by decide) rfl (Nat.le_of_ble_eq_true rfl) ?_
  intro p e s m args below meth c ls fx htab hw hl hsz
  subst hsz
  exact b_X5_tell fx ⟨Nat.le_refl _, Nat.le_refl _, Nat.le_refl _, Nat.le_refl _⟩ p1 p2 p3 p4 M ee z M' hF hl9 htab rfl (fun pc ls H locs v M1 hd hw h => g_xiret fx hw h hd) _ _ ls hl hw
noncomputable def f_X5_give (p1 p2 p3 : Int32) (M : Mem) : Option (Nat × Int32 × Mem) := (bnd3 (f_X5_requireMonk p1 M) (fun er15 r15 M16 => (if er15 = 0 then (bnd3 (f_X5_requireMonk p2 M16) (fun er17 r17 M18 => (if er17 = 0 then (bnd3 (f_X5_requireTwo p1 p2 M18) (fun er19 r19 M20 => (if er19 = 0 then (bnd3 (f_X5_requireWithin p3 1 50 M20) (fun er21 r21 M22 => (if er21 = 0 then (bnd (f_X1_giveRefusal 18 p1 p2 p3 M22) (fun r23 => (if r23 = 0 then (bnd (f_X0_remember 18 M22) (fun M25 => (bnd2 (f_X1_giveLeave 18 p1 p2 p3 M25) (fun r26 M27 => (some (0, r26, M27)))))) else (bnd (f_X5_refusal r23 M22) (fun r28 => (some (0, r28, M22))))))) else (some (er21, 0, M22))))) else (some (er19, 0, M20))))) else (some (er17, 0, M18))))) else (some (er15, 0, M16)))))
set_option maxHeartbeats 4000000 in
set_option maxRecDepth 100000 in
theorem b_X5_give {p : Program} {l : Launch} {e : Env} {R : Room} {s : State} {m : MethodId} {args : Array Value} {below : List Frame} {meth : Method} {c : Code} {Q : State → Prop} {D : va_G} {cy : Nat → ClassId} {ad : Nat → Nat} {x : SX} (fx : FX p s m args meth c cX5_give 5 (some .int) RX5 D cy ad x) (hR : 7 ≤ R.frames ∧ 112 ≤ R.locals ∧ 4 ≤ R.cells ∧ 24 ≤ R.slots) (p1 p2 p3 : Int32) (M : Mem) (ee : Nat) (z : Int32) (M' : Mem) (hF : f_X5_give p1 p2 p3 M = some (ee, z, M')) {Qc : Array Value → State → Outcome → State → Prop} (hl9 : l.stackTraces = false) (htab : ∀ z ∈ c.exceptionTable.toList, False) (hQ : Q = vx_MQ below Qc (XXW D cy ad s.heap.size ee M') args s 4 24 (AA ad s.heap.size)) (E : ∀ (pc : Nat) (ls : Array Slot) (H : Heap) (locs : List Loc) (v : Int32) (M1 : Mem), decode cX5_give pc = .ok (.ireturn, 1) → WD D cy ad s M1 H locs → some ((0 : Nat), v, M1) = some (ee, z, M') → W p l e R s m args below meth c H locs 4 24 Q (F0 m pc ls [.int v])) (H : Heap) (locs : List Loc) (ls : Array Slot) (hl : lv_has ls 5 [(0, .ref (ad 0)), (1, .int p1), (2, .int p2), (3, .int p3)]) (hw : WD D cy ad s M H locs) : W p l e R s m args below meth c H locs 0 0 Q (F0 m 0 ls []) := by
  have hx := fx.1.1
  have hb := fx.1.2.1
  have hown := fx.1.2.2.2.1
  have hts := fx.1.2.2.2.2
  unfold f_X5_give at hF
  refine lv_aload_n hx hb dX5_give_0 rfl (lv_at hl 0 rfl) ?_
  refine lv_iload_n hx hb dX5_give_1 rfl (lv_at hl 1 rfl) ?_
  obtain ⟨er15, r15, M16, hgr15, hF⟩ := st_bnd3 hF
  refine g_xcv hw (g_xrunV (C := RX5) (As := [.int p1]) (rest := []) fx hw isO_0 rfl (c_X5_requireMonk l x D cy ad p1 H.size M er15 r15 M16 hl9 hgr15) wd4_1 wd4_3 wd0_37 wd1_1 wd4_4 yd_X5_requireMonk rfl rfl (Nat.le_of_ble_eq_true rfl) hl.1 ⟨Nat.le_trans (Nat.le_of_ble_eq_true rfl) hR.1, Nat.le_trans (Nat.le_of_ble_eq_true rfl) hR.2.1⟩ ⟨Nat.le_trans (Nat.le_of_ble_eq_true rfl) hR.2.2.1, Nat.le_trans (Nat.le_of_ble_eq_true rfl) hR.2.2.2⟩ dX5_give_2) (fun her15 ce q9 H locs hw hce hcv hcl => ?_) (fun her15 H locs hw => ?_)
  · replace hF := st_f her15 hF
    rw [hQ]
    exact g_xout fx htab hw hF her15 hce hcv hcl (Nat.le_of_ble_eq_true rfl) (Nat.le_of_ble_eq_true rfl)
  · replace hF := st_t her15 hF
    refine lv_aload_n hx hb dX5_give_5 rfl (lv_at hl 0 rfl) ?_
    refine lv_iload_n hx hb dX5_give_6 rfl (lv_at hl 2 rfl) ?_
    obtain ⟨er17, r17, M18, hgr17, hF⟩ := st_bnd3 hF
    refine g_xcv hw (g_xrunV (C := RX5) (As := [.int p2]) (rest := []) fx hw isO_0 rfl (c_X5_requireMonk l x D cy ad p2 H.size M16 er17 r17 M18 hl9 hgr17) wd4_1 wd4_3 wd0_37 wd1_1 wd4_4 yd_X5_requireMonk rfl rfl (Nat.le_of_ble_eq_true rfl) hl.1 ⟨Nat.le_trans (Nat.le_of_ble_eq_true rfl) hR.1, Nat.le_trans (Nat.le_of_ble_eq_true rfl) hR.2.1⟩ ⟨Nat.le_trans (Nat.le_of_ble_eq_true rfl) hR.2.2.1, Nat.le_trans (Nat.le_of_ble_eq_true rfl) hR.2.2.2⟩ dX5_give_7) (fun her17 ce q9 H locs hw hce hcv hcl => ?_) (fun her17 H locs hw => ?_)
    · replace hF := st_f her17 hF
      rw [hQ]
      exact g_xout fx htab hw hF her17 hce hcv hcl (Nat.le_of_ble_eq_true rfl) (Nat.le_of_ble_eq_true rfl)
    · replace hF := st_t her17 hF
      refine lv_iload_n hx hb dX5_give_10 rfl (lv_at hl 1 rfl) ?_
      refine lv_iload_n hx hb dX5_give_11 rfl (lv_at hl 2 rfl) ?_
      obtain ⟨er19, r19, M20, hgr19, hF⟩ := st_bnd3 hF
      refine g_xcv hw (g_xrunS (As := [.int p1, .int p2]) (rest := []) fx hw (c_X5_requireTwo l x D cy ad p1 p2 H.size M18 er19 r19 M20 hl9 hgr19) wd4_82 wd4_83 wd1_1 wd4_84 yd_X5_requireTwo rfl rfl (Nat.le_of_ble_eq_true rfl) hl.1 ⟨Nat.le_trans (Nat.le_of_ble_eq_true rfl) hR.1, Nat.le_trans (Nat.le_of_ble_eq_true rfl) hR.2.1⟩ ⟨Nat.le_trans (Nat.le_of_ble_eq_true rfl) hR.2.2.1, Nat.le_trans (Nat.le_of_ble_eq_true rfl) hR.2.2.2⟩ dX5_give_12) (fun her19 ce q9 H locs hw hce hcv hcl => ?_) (fun her19 H locs hw => ?_)
      · replace hF := st_f her19 hF
        rw [hQ]
        exact g_xout fx htab hw hF her19 hce hcv hcl (Nat.le_of_ble_eq_true rfl) (Nat.le_of_ble_eq_true rfl)
      · replace hF := st_t her19 hF
        refine lv_iload_n hx hb dX5_give_15 rfl (lv_at hl 3 rfl) ?_
        refine lv_iconst (v := 1) hx hb dX5_give_16 (by decide) ?_
        refine lv_bipush (v := 50) hx hb dX5_give_17 (by decide) ?_
        obtain ⟨er21, r21, M22, hgr21, hF⟩ := st_bnd3 hF
        refine g_xcv hw (g_xrunS (As := [.int p3, .int 1, .int 50]) (rest := []) fx hw (c_X5_requireWithin l x D cy ad p3 1 50 H.size M20 er21 r21 M22 hl9 hgr21) wd4_86 wd4_87 wd1_1 wd4_88 yd_X5_requireWithin rfl rfl (Nat.le_of_ble_eq_true rfl) hl.1 ⟨Nat.le_trans (Nat.le_of_ble_eq_true rfl) hR.1, Nat.le_trans (Nat.le_of_ble_eq_true rfl) hR.2.1⟩ ⟨Nat.le_trans (Nat.le_of_ble_eq_true rfl) hR.2.2.1, Nat.le_trans (Nat.le_of_ble_eq_true rfl) hR.2.2.2⟩ dX5_give_19) (fun her21 ce q9 H locs hw hce hcv hcl => ?_) (fun her21 H locs hw => ?_)
        · replace hF := st_f her21 hF
          rw [hQ]
          exact g_xout fx htab hw hF her21 hce hcv hcl (Nat.le_of_ble_eq_true rfl) (Nat.le_of_ble_eq_true rfl)
        · replace hF := st_t her21 hF
          refine lv_aload_n hx hb dX5_give_22 rfl (lv_at hl 0 rfl) ?_
          refine gX5_get fx hw isO_0 0 (by decide) wd1_205 rfl dX5_give_23 ?_
          refine lv_iload_n hx hb dX5_give_26 rfl (lv_at hl 1 rfl) ?_
          refine lv_iload_n hx hb dX5_give_27 rfl (lv_at hl 2 rfl) ?_
          refine lv_iload_n hx hb dX5_give_28 rfl (lv_at hl 3 rfl) ?_
          obtain ⟨r23, hgr23, hF⟩ := st_bnd hF
          refine g_ci hw (g_runV (C := RX1) (As := [.int p1, .int p2, .int p3]) (rest := []) fx hw isH_18.O rfl (c_X1_giveRefusal l x D cy ad 18 isH_18 p1 p2 p3 H.size M22 r23 hgr23) wd4_160 wd3_8 wd3_9 wd1_2 wd3_10 yd_X1_giveRefusal rfl rfl (Nat.le_of_ble_eq_true rfl) hl.1 ⟨Nat.le_trans (Nat.le_of_ble_eq_true rfl) hR.1, Nat.le_trans (Nat.le_of_ble_eq_true rfl) hR.2.1⟩ ⟨Nat.le_trans (Nat.le_of_ble_eq_true rfl) hR.2.2.1, Nat.le_trans (Nat.le_of_ble_eq_true rfl) hR.2.2.2⟩ dX5_give_29) (fun H locs hw => ?_)
          refine lv_istore (lv' := [(4, .int r23), (0, .ref (ad 0)), (1, .int p1), (2, .int p2), (3, .int p3)]) hx hb dX5_give_32 hl (by decide) rfl (fun ls hl => ?_)
          refine lv_iload hx hb dX5_give_34 (lv_at hl 0 rfl) ?_
          refine lv_if_eq (tgt := 45) hx hb dX5_give_36 (by decide) (fun hc36 => ?_) (fun hc36 => ?_)
          · replace hF := st_t hc36 hF
            refine lv_aload_n hx hb dX5_give_45 rfl (lv_at hl 1 rfl) ?_
            refine gX5_get fx hw isO_0 2 (by decide) wd1_207 rfl dX5_give_46 ?_
            refine lv_aload_n hx hb dX5_give_49 rfl (lv_at hl 1 rfl) ?_
            refine gX5_get fx hw isO_0 0 (by decide) wd1_205 rfl dX5_give_50 ?_
            obtain ⟨M25, hgr24, hF⟩ := st_bnd hF
            refine g_cv hw (g_runV (C := RX0) (As := [.ref (ad 18)]) (rest := []) fx hw isO_3 rfl (c_X0_remember l x D cy ad 18 isH_18 H.size M22 M25 hgr24) wd3_32 wd3_33 wd3_34 wd1_6 wd3_35 yd_X0_remember rfl rfl (Nat.le_of_ble_eq_true rfl) hl.1 ⟨Nat.le_trans (Nat.le_of_ble_eq_true rfl) hR.1, Nat.le_trans (Nat.le_of_ble_eq_true rfl) hR.2.1⟩ ⟨Nat.le_trans (Nat.le_of_ble_eq_true rfl) hR.2.2.1, Nat.le_trans (Nat.le_of_ble_eq_true rfl) hR.2.2.2⟩ dX5_give_53) (fun H locs hw => ?_)
            refine lv_aload_n hx hb dX5_give_56 rfl (lv_at hl 1 rfl) ?_
            refine gX5_get fx hw isO_0 0 (by decide) wd1_205 rfl dX5_give_57 ?_
            refine lv_iload_n hx hb dX5_give_60 rfl (lv_at hl 2 rfl) ?_
            refine lv_iload_n hx hb dX5_give_61 rfl (lv_at hl 3 rfl) ?_
            refine lv_iload_n hx hb dX5_give_62 rfl (lv_at hl 4 rfl) ?_
            obtain ⟨r26, M27, hgr26, hF⟩ := st_bnd2 hF
            refine g_ci hw (g_runV (C := RX1) (As := [.int p1, .int p2, .int p3]) (rest := []) fx hw isH_18.O rfl (c_X1_giveLeave l x D cy ad 18 isH_18 p1 p2 p3 H.size M25 r26 M27 hgr26) wd4_161 wd3_12 wd3_13 wd1_2 wd3_14 yd_X1_giveLeave rfl rfl (Nat.le_of_ble_eq_true rfl) hl.1 ⟨Nat.le_trans (Nat.le_of_ble_eq_true rfl) hR.1, Nat.le_trans (Nat.le_of_ble_eq_true rfl) hR.2.1⟩ ⟨Nat.le_trans (Nat.le_of_ble_eq_true rfl) hR.2.2.1, Nat.le_trans (Nat.le_of_ble_eq_true rfl) hR.2.2.2⟩ dX5_give_63) (fun H locs hw => ?_)
            exact E _ _ _ _ _ _ dX5_give_66 hw hF
          · replace hF := st_f hc36 hF
            refine lv_iload hx hb dX5_give_39 (lv_at hl 0 rfl) ?_
            obtain ⟨r28, hgr28, hF⟩ := st_bnd hF
            refine g_ci hw (g_runS (As := [.int r23]) (rest := []) fx hw (c_X5_refusal l x D cy ad r23 H.size M22 r28 hgr28) wd4_141 wd4_142 wd1_1 wd4_143 yd_X5_refusal rfl rfl (Nat.le_of_ble_eq_true rfl) hl.1 ⟨Nat.le_trans (Nat.le_of_ble_eq_true rfl) hR.1, Nat.le_trans (Nat.le_of_ble_eq_true rfl) hR.2.1⟩ ⟨Nat.le_trans (Nat.le_of_ble_eq_true rfl) hR.2.2.1, Nat.le_trans (Nat.le_of_ble_eq_true rfl) hR.2.2.2⟩ dX5_give_41) (fun H locs hw => ?_)
            exact E _ _ _ _ _ _ dX5_give_44 hw hF
theorem c_X5_give (l : Launch) (x : SX) (D : va_G) (cy : Nat → ClassId) (ad : Nat → Nat) (p1 p2 p3 : Int32) (sz : Nat) (M : Mem) (ee : Nat) (z : Int32) (M' : Mem) (hl9 : l.stackTraces = false) (hF : f_X5_give p1 p2 p3 M = some (ee, z, M')) : vx_Met l yX5_give (.code yX5_give cX5_give 5 (some .int) :: GB) ({ frames := 7, cells := 4, slots := 24, locals := 112 } : Room) (PcW D cy ad x sz M [.ref (ad 0), .int p1, .int p2, .int p3]) (QxiW D cy ad sz ee z M') (XXW D cy ad sz ee M') 4 24 (AA ad sz) := by
  refine mk_x (own := RX5) (by decide) rfl (Nat.le_of_ble_eq_true rfl) ?_
  intro p e s m args below meth c ls fx htab hw hl hsz
  subst hsz
  exact b_X5_give fx ⟨Nat.le_refl _, Nat.le_refl _, Nat.le_refl _, Nat.le_refl _⟩ p1 p2 p3 M ee z M' hF hl9 htab rfl (fun pc ls H locs v M1 hd hw h => g_xiret fx hw h hd) _ _ ls hl hw
noncomputable def f_X5_pass (p1 : Int32) (M : Mem) : Option (Nat × Int32 × Mem) := (bnd3 (f_X5_requireWithin p1 1 99 M) (fun er9 r9 M10 => (if er9 = 0 then (bnd (f_X1_passRefusal 18 p1 M10) (fun r11 => (if r11 = 0 then (bnd (f_X0_remember 18 M10) (fun M13 => (bnd2 (f_X1_passHours 18 p1 M13) (fun r14 M15 => (some (0, r14, M15)))))) else (bnd (f_X5_refusal r11 M10) (fun r16 => (some (0, r16, M10))))))) else (some (er9, 0, M10)))))
set_option maxHeartbeats 4000000 in
set_option maxRecDepth 100000 in
theorem b_X5_pass {p : Program} {l : Launch} {e : Env} {R : Room} {s : State} {m : MethodId} {args : Array Value} {below : List Frame} {meth : Method} {c : Code} {Q : State → Prop} {D : va_G} {cy : Nat → ClassId} {ad : Nat → Nat} {x : SX} (fx : FX p s m args meth c cX5_pass 3 (some .int) RX5 D cy ad x) (hR : 7 ≤ R.frames ∧ 112 ≤ R.locals ∧ 1 ≤ R.cells ∧ 6 ≤ R.slots) (p1 : Int32) (M : Mem) (ee : Nat) (z : Int32) (M' : Mem) (hF : f_X5_pass p1 M = some (ee, z, M')) {Qc : Array Value → State → Outcome → State → Prop} (hl9 : l.stackTraces = false) (htab : ∀ z ∈ c.exceptionTable.toList, False) (hQ : Q = vx_MQ below Qc (XXW D cy ad s.heap.size ee M') args s 1 6 (AA ad s.heap.size)) (E : ∀ (pc : Nat) (ls : Array Slot) (H : Heap) (locs : List Loc) (v : Int32) (M1 : Mem), decode cX5_pass pc = .ok (.ireturn, 1) → WD D cy ad s M1 H locs → some ((0 : Nat), v, M1) = some (ee, z, M') → W p l e R s m args below meth c H locs 1 6 Q (F0 m pc ls [.int v])) (H : Heap) (locs : List Loc) (ls : Array Slot) (hl : lv_has ls 3 [(0, .ref (ad 0)), (1, .int p1)]) (hw : WD D cy ad s M H locs) : W p l e R s m args below meth c H locs 0 0 Q (F0 m 0 ls []) := by
  have hx := fx.1.1
  have hb := fx.1.2.1
  have hown := fx.1.2.2.2.1
  have hts := fx.1.2.2.2.2
  unfold f_X5_pass at hF
  refine lv_iload_n hx hb dX5_pass_0 rfl (lv_at hl 1 rfl) ?_
  refine lv_iconst (v := 1) hx hb dX5_pass_1 (by decide) ?_
  refine lv_bipush (v := 99) hx hb dX5_pass_2 (by decide) ?_
  obtain ⟨er9, r9, M10, hgr9, hF⟩ := st_bnd3 hF
  refine g_xcv hw (g_xrunS (As := [.int p1, .int 1, .int 99]) (rest := []) fx hw (c_X5_requireWithin l x D cy ad p1 1 99 H.size M er9 r9 M10 hl9 hgr9) wd4_86 wd4_87 wd1_1 wd4_88 yd_X5_requireWithin rfl rfl (Nat.le_of_ble_eq_true rfl) hl.1 ⟨Nat.le_trans (Nat.le_of_ble_eq_true rfl) hR.1, Nat.le_trans (Nat.le_of_ble_eq_true rfl) hR.2.1⟩ ⟨Nat.le_trans (Nat.le_of_ble_eq_true rfl) hR.2.2.1, Nat.le_trans (Nat.le_of_ble_eq_true rfl) hR.2.2.2⟩ dX5_pass_4) (fun her9 ce q9 H locs hw hce hcv hcl => ?_) (fun her9 H locs hw => ?_)
  · replace hF := st_f her9 hF
    rw [hQ]
    exact g_xout fx htab hw hF her9 hce hcv hcl (Nat.le_of_ble_eq_true rfl) (Nat.le_of_ble_eq_true rfl)
  · replace hF := st_t her9 hF
    refine lv_aload_n hx hb dX5_pass_7 rfl (lv_at hl 0 rfl) ?_
    refine gX5_get fx hw isO_0 0 (by decide) wd1_205 rfl dX5_pass_8 ?_
    refine lv_iload_n hx hb dX5_pass_11 rfl (lv_at hl 1 rfl) ?_
    obtain ⟨r11, hgr11, hF⟩ := st_bnd hF
    refine g_ci hw (g_runV (C := RX1) (As := [.int p1]) (rest := []) fx hw isH_18.O rfl (c_X1_passRefusal l x D cy ad 18 isH_18 p1 H.size M10 r11 hgr11) wd4_169 wd3_21 wd3_22 wd1_2 wd3_23 yd_X1_passRefusal rfl rfl (Nat.le_of_ble_eq_true rfl) hl.1 ⟨Nat.le_trans (Nat.le_of_ble_eq_true rfl) hR.1, Nat.le_trans (Nat.le_of_ble_eq_true rfl) hR.2.1⟩ ⟨Nat.le_trans (Nat.le_of_ble_eq_true rfl) hR.2.2.1, Nat.le_trans (Nat.le_of_ble_eq_true rfl) hR.2.2.2⟩ dX5_pass_12) (fun H locs hw => ?_)
    refine lv_istore_n (lv' := [(2, .int r11), (0, .ref (ad 0)), (1, .int p1)]) hx hb dX5_pass_15 rfl hl (by decide) rfl (fun ls hl => ?_)
    refine lv_iload_n hx hb dX5_pass_16 rfl (lv_at hl 0 rfl) ?_
    refine lv_if_eq (tgt := 25) hx hb dX5_pass_17 (by decide) (fun hc17 => ?_) (fun hc17 => ?_)
    · replace hF := st_t hc17 hF
      refine lv_aload_n hx hb dX5_pass_25 rfl (lv_at hl 1 rfl) ?_
      refine gX5_get fx hw isO_0 2 (by decide) wd1_207 rfl dX5_pass_26 ?_
      refine lv_aload_n hx hb dX5_pass_29 rfl (lv_at hl 1 rfl) ?_
      refine gX5_get fx hw isO_0 0 (by decide) wd1_205 rfl dX5_pass_30 ?_
      obtain ⟨M13, hgr12, hF⟩ := st_bnd hF
      refine g_cv hw (g_runV (C := RX0) (As := [.ref (ad 18)]) (rest := []) fx hw isO_3 rfl (c_X0_remember l x D cy ad 18 isH_18 H.size M10 M13 hgr12) wd3_32 wd3_33 wd3_34 wd1_6 wd3_35 yd_X0_remember rfl rfl (Nat.le_of_ble_eq_true rfl) hl.1 ⟨Nat.le_trans (Nat.le_of_ble_eq_true rfl) hR.1, Nat.le_trans (Nat.le_of_ble_eq_true rfl) hR.2.1⟩ ⟨Nat.le_trans (Nat.le_of_ble_eq_true rfl) hR.2.2.1, Nat.le_trans (Nat.le_of_ble_eq_true rfl) hR.2.2.2⟩ dX5_pass_33) (fun H locs hw => ?_)
      refine lv_aload_n hx hb dX5_pass_36 rfl (lv_at hl 1 rfl) ?_
      refine gX5_get fx hw isO_0 0 (by decide) wd1_205 rfl dX5_pass_37 ?_
      refine lv_iload_n hx hb dX5_pass_40 rfl (lv_at hl 2 rfl) ?_
      obtain ⟨r14, M15, hgr14, hF⟩ := st_bnd2 hF
      refine g_ci hw (g_runV (C := RX1) (As := [.int p1]) (rest := []) fx hw isH_18.O rfl (c_X1_passHours l x D cy ad 18 isH_18 p1 H.size M13 r14 M15 hgr14) wd4_170 wd3_25 wd3_26 wd1_2 wd3_27 yd_X1_passHours rfl rfl (Nat.le_of_ble_eq_true rfl) hl.1 ⟨Nat.le_trans (Nat.le_of_ble_eq_true rfl) hR.1, Nat.le_trans (Nat.le_of_ble_eq_true rfl) hR.2.1⟩ ⟨Nat.le_trans (Nat.le_of_ble_eq_true rfl) hR.2.2.1, Nat.le_trans (Nat.le_of_ble_eq_true rfl) hR.2.2.2⟩ dX5_pass_41) (fun H locs hw => ?_)
      exact E _ _ _ _ _ _ dX5_pass_44 hw hF
    · replace hF := st_f hc17 hF
      refine lv_iload_n hx hb dX5_pass_20 rfl (lv_at hl 0 rfl) ?_
      obtain ⟨r16, hgr16, hF⟩ := st_bnd hF
      refine g_ci hw (g_runS (As := [.int r11]) (rest := []) fx hw (c_X5_refusal l x D cy ad r11 H.size M10 r16 hgr16) wd4_141 wd4_142 wd1_1 wd4_143 yd_X5_refusal rfl rfl (Nat.le_of_ble_eq_true rfl) hl.1 ⟨Nat.le_trans (Nat.le_of_ble_eq_true rfl) hR.1, Nat.le_trans (Nat.le_of_ble_eq_true rfl) hR.2.1⟩ ⟨Nat.le_trans (Nat.le_of_ble_eq_true rfl) hR.2.2.1, Nat.le_trans (Nat.le_of_ble_eq_true rfl) hR.2.2.2⟩ dX5_pass_21) (fun H locs hw => ?_)
      exact E _ _ _ _ _ _ dX5_pass_24 hw hF
theorem c_X5_pass (l : Launch) (x : SX) (D : va_G) (cy : Nat → ClassId) (ad : Nat → Nat) (p1 : Int32) (sz : Nat) (M : Mem) (ee : Nat) (z : Int32) (M' : Mem) (hl9 : l.stackTraces = false) (hF : f_X5_pass p1 M = some (ee, z, M')) : vx_Met l yX5_pass (.code yX5_pass cX5_pass 3 (some .int) :: GB) ({ frames := 7, cells := 1, slots := 6, locals := 112 } : Room) (PcW D cy ad x sz M [.ref (ad 0), .int p1]) (QxiW D cy ad sz ee z M') (XXW D cy ad sz ee M') 1 6 (AA ad sz) := by
  refine mk_x (own := RX5) (by decide) rfl (Nat.le_of_ble_eq_true rfl) ?_
  intro p e s m args below meth c ls fx htab hw hl hsz
  subst hsz
  exact b_X5_pass fx ⟨Nat.le_refl _, Nat.le_refl _, Nat.le_refl _, Nat.le_refl _⟩ p1 M ee z M' hF hl9 htab rfl (fun pc ls H locs v M1 hd hw h => g_xiret fx hw h hd) _ _ ls hl hw
noncomputable def f_X5_setBell (p1 p2 : Int32) (M : Mem) : Option (Nat × Int32 × Mem) := (bnd3 (f_X5_requireHour p1 M) (fun er10 r10 M11 => (if er10 = 0 then (bnd3 (f_X5_requireWithin p2 0 2 M11) (fun er12 r12 M13 => (if er12 = 0 then (bnd (f_X0_remember 18 M13) (fun M15 => (chk (inB p1 24) (chk (inB p1 24) (letM (mput M15 29 (ix p1) p2) (fun M17 => (some (0, (M15 29 (ix p1)), M17)))))))) else (some (er12, 0, M13))))) else (some (er10, 0, M11)))))
set_option maxHeartbeats 4000000 in
set_option maxRecDepth 100000 in
theorem b_X5_setBell {p : Program} {l : Launch} {e : Env} {R : Room} {s : State} {m : MethodId} {args : Array Value} {below : List Frame} {meth : Method} {c : Code} {Q : State → Prop} {D : va_G} {cy : Nat → ClassId} {ad : Nat → Nat} {x : SX} (fx : FX p s m args meth c cX5_setBell 4 (some .int) RX5 D cy ad x) (hR : 7 ≤ R.frames ∧ 112 ≤ R.locals ∧ 2 ≤ R.cells ∧ 12 ≤ R.slots) (p1 p2 : Int32) (M : Mem) (ee : Nat) (z : Int32) (M' : Mem) (hF : f_X5_setBell p1 p2 M = some (ee, z, M')) {Qc : Array Value → State → Outcome → State → Prop} (hl9 : l.stackTraces = false) (htab : ∀ z ∈ c.exceptionTable.toList, False) (hQ : Q = vx_MQ below Qc (XXW D cy ad s.heap.size ee M') args s 2 12 (AA ad s.heap.size)) (E : ∀ (pc : Nat) (ls : Array Slot) (H : Heap) (locs : List Loc) (v : Int32) (M1 : Mem), decode cX5_setBell pc = .ok (.ireturn, 1) → WD D cy ad s M1 H locs → some ((0 : Nat), v, M1) = some (ee, z, M') → W p l e R s m args below meth c H locs 2 12 Q (F0 m pc ls [.int v])) (H : Heap) (locs : List Loc) (ls : Array Slot) (hl : lv_has ls 4 [(0, .ref (ad 0)), (1, .int p1), (2, .int p2)]) (hw : WD D cy ad s M H locs) : W p l e R s m args below meth c H locs 0 0 Q (F0 m 0 ls []) := by
  have hx := fx.1.1
  have hb := fx.1.2.1
  have hown := fx.1.2.2.2.1
  have hts := fx.1.2.2.2.2
  unfold f_X5_setBell at hF
  refine lv_iload_n hx hb dX5_setBell_0 rfl (lv_at hl 1 rfl) ?_
  obtain ⟨er10, r10, M11, hgr10, hF⟩ := st_bnd3 hF
  refine g_xcv hw (g_xrunS (As := [.int p1]) (rest := []) fx hw (c_X5_requireHour l x D cy ad p1 H.size M er10 r10 M11 hl9 hgr10) wd4_67 wd4_68 wd1_1 wd4_69 yd_X5_requireHour rfl rfl (Nat.le_of_ble_eq_true rfl) hl.1 ⟨Nat.le_trans (Nat.le_of_ble_eq_true rfl) hR.1, Nat.le_trans (Nat.le_of_ble_eq_true rfl) hR.2.1⟩ ⟨Nat.le_trans (Nat.le_of_ble_eq_true rfl) hR.2.2.1, Nat.le_trans (Nat.le_of_ble_eq_true rfl) hR.2.2.2⟩ dX5_setBell_1) (fun her10 ce q9 H locs hw hce hcv hcl => ?_) (fun her10 H locs hw => ?_)
  · replace hF := st_f her10 hF
    rw [hQ]
    exact g_xout fx htab hw hF her10 hce hcv hcl (Nat.le_of_ble_eq_true rfl) (Nat.le_of_ble_eq_true rfl)
  · replace hF := st_t her10 hF
    refine lv_iload_n hx hb dX5_setBell_4 rfl (lv_at hl 2 rfl) ?_
    refine lv_iconst (v := 0) hx hb dX5_setBell_5 (by decide) ?_
    refine lv_iconst (v := 2) hx hb dX5_setBell_6 (by decide) ?_
    obtain ⟨er12, r12, M13, hgr12, hF⟩ := st_bnd3 hF
    refine g_xcv hw (g_xrunS (As := [.int p2, .int 0, .int 2]) (rest := []) fx hw (c_X5_requireWithin l x D cy ad p2 0 2 H.size M11 er12 r12 M13 hl9 hgr12) wd4_86 wd4_87 wd1_1 wd4_88 yd_X5_requireWithin rfl rfl (Nat.le_of_ble_eq_true rfl) hl.1 ⟨Nat.le_trans (Nat.le_of_ble_eq_true rfl) hR.1, Nat.le_trans (Nat.le_of_ble_eq_true rfl) hR.2.1⟩ ⟨Nat.le_trans (Nat.le_of_ble_eq_true rfl) hR.2.2.1, Nat.le_trans (Nat.le_of_ble_eq_true rfl) hR.2.2.2⟩ dX5_setBell_7) (fun her12 ce q9 H locs hw hce hcv hcl => ?_) (fun her12 H locs hw => ?_)
    · replace hF := st_f her12 hF
      rw [hQ]
      exact g_xout fx htab hw hF her12 hce hcv hcl (Nat.le_of_ble_eq_true rfl) (Nat.le_of_ble_eq_true rfl)
    · replace hF := st_t her12 hF
      refine lv_aload_n hx hb dX5_setBell_10 rfl (lv_at hl 0 rfl) ?_
      refine gX5_get fx hw isO_0 2 (by decide) wd1_207 rfl dX5_setBell_11 ?_
      refine lv_aload_n hx hb dX5_setBell_14 rfl (lv_at hl 0 rfl) ?_
      refine gX5_get fx hw isO_0 0 (by decide) wd1_205 rfl dX5_setBell_15 ?_
      obtain ⟨M15, hgr14, hF⟩ := st_bnd hF
      refine g_cv hw (g_runV (C := RX0) (As := [.ref (ad 18)]) (rest := []) fx hw isO_3 rfl (c_X0_remember l x D cy ad 18 isH_18 H.size M13 M15 hgr14) wd3_32 wd3_33 wd3_34 wd1_6 wd3_35 yd_X0_remember rfl rfl (Nat.le_of_ble_eq_true rfl) hl.1 ⟨Nat.le_trans (Nat.le_of_ble_eq_true rfl) hR.1, Nat.le_trans (Nat.le_of_ble_eq_true rfl) hR.2.1⟩ ⟨Nat.le_trans (Nat.le_of_ble_eq_true rfl) hR.2.2.1, Nat.le_trans (Nat.le_of_ble_eq_true rfl) hR.2.2.2⟩ dX5_setBell_18) (fun H locs hw => ?_)
      refine lv_aload_n hx hb dX5_setBell_21 rfl (lv_at hl 0 rfl) ?_
      refine gX5_get fx hw isO_0 0 (by decide) wd1_205 rfl dX5_setBell_22 ?_
      refine gX1_get fx hw isH_18.O 10 (by decide) wd1_57 rfl dX5_setBell_25 ?_
      refine lv_iload_n hx hb dX5_setBell_28 rfl (lv_at hl 1 rfl) ?_
      obtain ⟨hi16, hF⟩ := st_chk hF
      refine g_iald fx hw isH_18.a11 hi16 dX5_setBell_29 ?_
      refine lv_istore_n (lv' := [(3, .int (M15 29 (ix p1))), (0, .ref (ad 0)), (1, .int p1), (2, .int p2)]) hx hb dX5_setBell_30 rfl hl (by decide) rfl (fun ls hl => ?_)
      refine lv_aload_n hx hb dX5_setBell_31 rfl (lv_at hl 1 rfl) ?_
      refine gX5_get fx hw isO_0 0 (by decide) wd1_205 rfl dX5_setBell_32 ?_
      refine gX1_get fx hw isH_18.O 10 (by decide) wd1_57 rfl dX5_setBell_35 ?_
      refine lv_iload_n hx hb dX5_setBell_38 rfl (lv_at hl 2 rfl) ?_
      refine lv_iload_n hx hb dX5_setBell_39 rfl (lv_at hl 3 rfl) ?_
      obtain ⟨hi18, hF⟩ := st_chk hF
      obtain ⟨M17, eM17, hF⟩ := st_letM hF
      refine g_iast fx hw isH_18.a11 hi18 eM17 dX5_setBell_40 (fun H locs hw => ?_)
      refine lv_iload_n hx hb dX5_setBell_41 rfl (lv_at hl 0 rfl) ?_
      exact E _ _ _ _ _ _ dX5_setBell_42 hw hF
theorem c_X5_setBell (l : Launch) (x : SX) (D : va_G) (cy : Nat → ClassId) (ad : Nat → Nat) (p1 p2 : Int32) (sz : Nat) (M : Mem) (ee : Nat) (z : Int32) (M' : Mem) (hl9 : l.stackTraces = false) (hF : f_X5_setBell p1 p2 M = some (ee, z, M')) : vx_Met l yX5_setBell (.code yX5_setBell cX5_setBell 4 (some .int) :: GB) ({ frames := 7, cells := 2, slots := 12, locals := 112 } : Room) (PcW D cy ad x sz M [.ref (ad 0), .int p1, .int p2]) (QxiW D cy ad sz ee z M') (XXW D cy ad sz ee M') 2 12 (AA ad sz) := by
  refine mk_x (own := RX5) (by decide) rfl (Nat.le_of_ble_eq_true rfl) ?_
  intro p e s m args below meth c ls fx htab hw hl hsz
  subst hsz
  exact b_X5_setBell fx ⟨Nat.le_refl _, Nat.le_refl _, Nat.le_refl _, Nat.le_refl _⟩ p1 p2 M ee z M' hF hl9 htab rfl (fun pc ls H locs v M1 hd hw h => g_xiret fx hw h hd) _ _ ls hl hw
noncomputable def f_X5_set_65 : Int32 → Int32 → Int32 → Mem → Option (Nat × Int32 × Mem) := fun a2 a3 t0 M => (if a3 = 0 then (letM (mput M 18 15 a2) (fun M17 => (some (0, t0, M17)))) else (letM (mput M 18 14 a2) (fun M18 => (some (0, t0, M18)))))
noncomputable def f_X5_set_30 : Int32 → Int32 → Int32 → Int32 → Int32 → Mem → Option (Nat × Int32 × Mem) := fun a2 a3 t0 t1 t2 M => (bnd3 (f_X5_requireWithin t0 t1 t2 M) (fun er19 r19 M20 => (if er19 = 0 then (bnd (f_X0_remember 18 M20) (fun M22 => (if a3 = 0 then ((f_X5_set_65) a2 a3 (M22 18 15) M22) else ((f_X5_set_65) a2 a3 (M22 18 14) M22)))) else (some (er19, 0, M20)))))
noncomputable def f_X5_set_16 : Int32 → Int32 → Mem → Option (Nat × Int32 × Mem) := fun a2 t0 M => (if t0 = 0 then ((f_X5_set_30) a2 t0 a2 0 50 M) else ((f_X5_set_30) a2 t0 a2 0 99 M))
noncomputable def f_X5_set (p1 p2 : Int32) (M : Mem) : Option (Nat × Int32 × Mem) := (bnd3 (f_X5_requireWithin p1 2 3 M) (fun er23 r23 M24 => (if er23 = 0 then (if p1 = 2 then ((f_X5_set_16) p2 1 M24) else ((f_X5_set_16) p2 0 M24)) else (some (er23, 0, M24)))))
set_option maxHeartbeats 4000000 in
set_option maxRecDepth 100000 in
theorem b_X5_set {p : Program} {l : Launch} {e : Env} {R : Room} {s : State} {m : MethodId} {args : Array Value} {below : List Frame} {meth : Method} {c : Code} {Q : State → Prop} {D : va_G} {cy : Nat → ClassId} {ad : Nat → Nat} {x : SX} (fx : FX p s m args meth c cX5_set 5 (some .int) RX5 D cy ad x) (hR : 7 ≤ R.frames ∧ 112 ≤ R.locals ∧ 2 ≤ R.cells ∧ 12 ≤ R.slots) (p1 p2 : Int32) (M : Mem) (ee : Nat) (z : Int32) (M' : Mem) (hF : f_X5_set p1 p2 M = some (ee, z, M')) {Qc : Array Value → State → Outcome → State → Prop} (hl9 : l.stackTraces = false) (htab : ∀ z ∈ c.exceptionTable.toList, False) (hQ : Q = vx_MQ below Qc (XXW D cy ad s.heap.size ee M') args s 2 12 (AA ad s.heap.size)) (E : ∀ (pc : Nat) (ls : Array Slot) (H : Heap) (locs : List Loc) (v : Int32) (M1 : Mem), decode cX5_set pc = .ok (.ireturn, 1) → WD D cy ad s M1 H locs → some ((0 : Nat), v, M1) = some (ee, z, M') → W p l e R s m args below meth c H locs 2 12 Q (F0 m pc ls [.int v])) (H : Heap) (locs : List Loc) (ls : Array Slot) (hl : lv_has ls 5 [(0, .ref (ad 0)), (1, .int p1), (2, .int p2)]) (hw : WD D cy ad s M H locs) : W p l e R s m args below meth c H locs 0 0 Q (F0 m 0 ls []) := by
  have hx := fx.1.1
  have hb := fx.1.2.1
  have hown := fx.1.2.2.2.1
  have hts := fx.1.2.2.2.2
  have n_65 : ∀ (a2 : Int32) (a3 : Int32) (t0 : Int32) (M : Mem) (H : Heap) (locs : List Loc) (ls : Array Slot), lv_has ls 5 [(0, .ref (ad 0)), (2, .int a2), (3, .int a3)] → WD D cy ad s M H locs → f_X5_set_65 a2 a3 t0 M = some (ee, z, M') → W p l e R s m args below meth c H locs 2 12 Q (F0 m 65 ls [.int t0]) := by
    intro a2 a3 t0 M H locs ls hl hw hF
    unfold f_X5_set_65 at hF
    refine lv_istore (lv' := [(4, .int t0), (0, .ref (ad 0)), (2, .int a2), (3, .int a3)]) hx hb dX5_set_65 hl (by decide) rfl (fun ls hl => ?_)
    refine lv_iload_n hx hb dX5_set_67 rfl (lv_at hl 3 rfl) ?_
    refine lv_if_eq (tgt := 82) hx hb dX5_set_68 (by decide) (fun hc68 => ?_) (fun hc68 => ?_)
    · replace hF := st_t hc68 hF
      refine lv_aload_n hx hb dX5_set_82 rfl (lv_at hl 1 rfl) ?_
      refine gX5_get fx hw isO_0 0 (by decide) wd1_205 rfl dX5_set_83 ?_
      refine lv_iload_n hx hb dX5_set_86 rfl (lv_at hl 2 rfl) ?_
      obtain ⟨M17, eM17, hF⟩ := st_letM hF
      refine gX1_put fx hw isH_18.O 15 (by decide) wd1_70 rfl eM17 rfl (Nat.le_of_ble_eq_true rfl) dX5_set_87 (fun H locs hw => ?_)
      refine lv_iload hx hb dX5_set_90 (lv_at hl 0 rfl) ?_
      exact E _ _ _ _ _ _ dX5_set_92 hw hF
    · replace hF := st_f hc68 hF
      refine lv_aload_n hx hb dX5_set_71 rfl (lv_at hl 1 rfl) ?_
      refine gX5_get fx hw isO_0 0 (by decide) wd1_205 rfl dX5_set_72 ?_
      refine lv_iload_n hx hb dX5_set_75 rfl (lv_at hl 2 rfl) ?_
      obtain ⟨M18, eM18, hF⟩ := st_letM hF
      refine gX1_put fx hw isH_18.O 14 (by decide) wd1_67 rfl eM18 rfl (Nat.le_of_ble_eq_true rfl) dX5_set_76 (fun H locs hw => ?_)
      refine lv_goto (tgt := 90) hx hb dX5_set_79 (by decide) ?_
      refine lv_iload hx hb dX5_set_90 (lv_at hl 0 rfl) ?_
      exact E _ _ _ _ _ _ dX5_set_92 hw hF
  have n_30 : ∀ (a2 : Int32) (a3 : Int32) (t0 : Int32) (t1 : Int32) (t2 : Int32) (M : Mem) (H : Heap) (locs : List Loc) (ls : Array Slot), lv_has ls 5 [(0, .ref (ad 0)), (2, .int a2), (3, .int a3)] → WD D cy ad s M H locs → f_X5_set_30 a2 a3 t0 t1 t2 M = some (ee, z, M') → W p l e R s m args below meth c H locs 1 6 Q (F0 m 30 ls [.int t2, .int t1, .int t0]) := by
    intro a2 a3 t0 t1 t2 M H locs ls hl hw hF
    unfold f_X5_set_30 at hF
    obtain ⟨er19, r19, M20, hgr19, hF⟩ := st_bnd3 hF
    refine g_xcv hw (g_xrunS (As := [.int t0, .int t1, .int t2]) (rest := []) fx hw (c_X5_requireWithin l x D cy ad t0 t1 t2 H.size M er19 r19 M20 hl9 hgr19) wd4_86 wd4_87 wd1_1 wd4_88 yd_X5_requireWithin rfl rfl (Nat.le_of_ble_eq_true rfl) hl.1 ⟨Nat.le_trans (Nat.le_of_ble_eq_true rfl) hR.1, Nat.le_trans (Nat.le_of_ble_eq_true rfl) hR.2.1⟩ ⟨Nat.le_trans (Nat.le_of_ble_eq_true rfl) hR.2.2.1, Nat.le_trans (Nat.le_of_ble_eq_true rfl) hR.2.2.2⟩ dX5_set_30) (fun her19 ce q9 H locs hw hce hcv hcl => ?_) (fun her19 H locs hw => ?_)
    · replace hF := st_f her19 hF
      rw [hQ]
      exact g_xout fx htab hw hF her19 hce hcv hcl (Nat.le_of_ble_eq_true rfl) (Nat.le_of_ble_eq_true rfl)
    · replace hF := st_t her19 hF
      refine lv_aload_n hx hb dX5_set_33 rfl (lv_at hl 0 rfl) ?_
      refine gX5_get fx hw isO_0 2 (by decide) wd1_207 rfl dX5_set_34 ?_
      refine lv_aload_n hx hb dX5_set_37 rfl (lv_at hl 0 rfl) ?_
      refine gX5_get fx hw isO_0 0 (by decide) wd1_205 rfl dX5_set_38 ?_
      obtain ⟨M22, hgr21, hF⟩ := st_bnd hF
      refine g_cv hw (g_runV (C := RX0) (As := [.ref (ad 18)]) (rest := []) fx hw isO_3 rfl (c_X0_remember l x D cy ad 18 isH_18 H.size M20 M22 hgr21) wd3_32 wd3_33 wd3_34 wd1_6 wd3_35 yd_X0_remember rfl rfl (Nat.le_of_ble_eq_true rfl) hl.1 ⟨Nat.le_trans (Nat.le_of_ble_eq_true rfl) hR.1, Nat.le_trans (Nat.le_of_ble_eq_true rfl) hR.2.1⟩ ⟨Nat.le_trans (Nat.le_of_ble_eq_true rfl) hR.2.2.1, Nat.le_trans (Nat.le_of_ble_eq_true rfl) hR.2.2.2⟩ dX5_set_41) (fun H locs hw => ?_)
      refine lv_iload_n hx hb dX5_set_44 rfl (lv_at hl 2 rfl) ?_
      refine lv_if_eq (tgt := 58) hx hb dX5_set_45 (by decide) (fun hc45 => ?_) (fun hc45 => ?_)
      · replace hF := st_t hc45 hF
        refine lv_aload_n hx hb dX5_set_58 rfl (lv_at hl 0 rfl) ?_
        refine gX5_get fx hw isO_0 0 (by decide) wd1_205 rfl dX5_set_59 ?_
        refine gX1_get fx hw isH_18.O 15 (by decide) wd1_70 rfl dX5_set_62 ?_
        exact n_65 a2 a3 (M22 18 15) M22 H locs ls (lv_sub hl [0, 1, 2] rfl) hw hF
      · replace hF := st_f hc45 hF
        refine lv_aload_n hx hb dX5_set_48 rfl (lv_at hl 0 rfl) ?_
        refine gX5_get fx hw isO_0 0 (by decide) wd1_205 rfl dX5_set_49 ?_
        refine gX1_get fx hw isH_18.O 14 (by decide) wd1_67 rfl dX5_set_52 ?_
        refine lv_goto (tgt := 65) hx hb dX5_set_55 (by decide) ?_
        exact n_65 a2 a3 (M22 18 14) M22 H locs ls (lv_sub hl [0, 1, 2] rfl) hw hF
  have n_16 : ∀ (a2 : Int32) (t0 : Int32) (M : Mem) (H : Heap) (locs : List Loc) (ls : Array Slot), lv_has ls 5 [(0, .ref (ad 0)), (2, .int a2)] → WD D cy ad s M H locs → f_X5_set_16 a2 t0 M = some (ee, z, M') → W p l e R s m args below meth c H locs 1 6 Q (F0 m 16 ls [.int t0]) := by
    intro a2 t0 M H locs ls hl hw hF
    unfold f_X5_set_16 at hF
    refine lv_istore_n (lv' := [(3, .int t0), (0, .ref (ad 0)), (2, .int a2)]) hx hb dX5_set_16 rfl hl (by decide) rfl (fun ls hl => ?_)
    refine lv_iload_n hx hb dX5_set_17 rfl (lv_at hl 2 rfl) ?_
    refine lv_iconst (v := 0) hx hb dX5_set_18 (by decide) ?_
    refine lv_iload_n hx hb dX5_set_19 rfl (lv_at hl 0 rfl) ?_
    refine lv_if_eq (tgt := 28) hx hb dX5_set_20 (by decide) (fun hc20 => ?_) (fun hc20 => ?_)
    · replace hF := st_t hc20 hF
      refine lv_bipush (v := 50) hx hb dX5_set_28 (by decide) ?_
      exact n_30 a2 t0 a2 0 50 M H locs ls (lv_sub hl [1, 2, 0] rfl) hw hF
    · replace hF := st_f hc20 hF
      refine lv_bipush (v := 99) hx hb dX5_set_23 (by decide) ?_
      refine lv_goto (tgt := 30) hx hb dX5_set_25 (by decide) ?_
      exact n_30 a2 t0 a2 0 99 M H locs ls (lv_sub hl [1, 2, 0] rfl) hw hF
  unfold f_X5_set at hF
  refine lv_iload_n hx hb dX5_set_0 rfl (lv_at hl 1 rfl) ?_
  refine lv_iconst (v := 2) hx hb dX5_set_1 (by decide) ?_
  refine lv_iconst (v := 3) hx hb dX5_set_2 (by decide) ?_
  obtain ⟨er23, r23, M24, hgr23, hF⟩ := st_bnd3 hF
  refine g_xcv hw (g_xrunS (As := [.int p1, .int 2, .int 3]) (rest := []) fx hw (c_X5_requireWithin l x D cy ad p1 2 3 H.size M er23 r23 M24 hl9 hgr23) wd4_86 wd4_87 wd1_1 wd4_88 yd_X5_requireWithin rfl rfl (Nat.le_of_ble_eq_true rfl) hl.1 ⟨Nat.le_trans (Nat.le_of_ble_eq_true rfl) hR.1, Nat.le_trans (Nat.le_of_ble_eq_true rfl) hR.2.1⟩ ⟨Nat.le_trans (Nat.le_of_ble_eq_true rfl) hR.2.2.1, Nat.le_trans (Nat.le_of_ble_eq_true rfl) hR.2.2.2⟩ dX5_set_3) (fun her23 ce q9 H locs hw hce hcv hcl => ?_) (fun her23 H locs hw => ?_)
  · replace hF := st_f her23 hF
    rw [hQ]
    exact g_xout fx htab hw hF her23 hce hcv hcl (Nat.le_of_ble_eq_true rfl) (Nat.le_of_ble_eq_true rfl)
  · replace hF := st_t her23 hF
    refine lv_iload_n hx hb dX5_set_6 rfl (lv_at hl 1 rfl) ?_
    refine lv_iconst (v := 2) hx hb dX5_set_7 (by decide) ?_
    refine lv_icmp_ne (tgt := 15) hx hb dX5_set_8 (by decide) (fun hc8 => ?_) (fun hc8 => ?_)
    · replace hF := st_f hc8 hF
      refine lv_iconst (v := 0) hx hb dX5_set_15 (by decide) ?_
      exact n_16 p2 0 M24 H locs ls (lv_sub hl [0, 2] rfl) hw hF
    · replace hF := st_t hc8 hF
      refine lv_iconst (v := 1) hx hb dX5_set_11 (by decide) ?_
      refine lv_goto (tgt := 16) hx hb dX5_set_12 (by decide) ?_
      exact n_16 p2 1 M24 H locs ls (lv_sub hl [0, 2] rfl) hw hF
theorem c_X5_set (l : Launch) (x : SX) (D : va_G) (cy : Nat → ClassId) (ad : Nat → Nat) (p1 p2 : Int32) (sz : Nat) (M : Mem) (ee : Nat) (z : Int32) (M' : Mem) (hl9 : l.stackTraces = false) (hF : f_X5_set p1 p2 M = some (ee, z, M')) : vx_Met l yX5_set (.code yX5_set cX5_set 5 (some .int) :: GB) ({ frames := 7, cells := 2, slots := 12, locals := 112 } : Room) (PcW D cy ad x sz M [.ref (ad 0), .int p1, .int p2]) (QxiW D cy ad sz ee z M') (XXW D cy ad sz ee M') 2 12 (AA ad sz) := by
  refine mk_x (own := RX5) (by decide) rfl (Nat.le_of_ble_eq_true rfl) ?_
  intro p e s m args below meth c ls fx htab hw hl hsz
  subst hsz
  exact b_X5_set fx ⟨Nat.le_refl _, Nat.le_refl _, Nat.le_refl _, Nat.le_refl _⟩ p1 p2 M ee z M' hF hl9 htab rfl (fun pc ls H locs v M1 hd hw h => g_xiret fx hw h hd) _ _ ls hl hw
noncomputable def f_X5_undo (M : Mem) : Option (Nat × Int32 × Mem) := (if (M 3 2) = 0 then (some (3, 0, M)) else (bnd (f_X0_bringBack 18 M) (fun M4 => (some (0, (M4 3 2), M4)))))
set_option maxHeartbeats 4000000 in
set_option maxRecDepth 100000 in
theorem b_X5_undo {p : Program} {l : Launch} {e : Env} {R : Room} {s : State} {m : MethodId} {args : Array Value} {below : List Frame} {meth : Method} {c : Code} {Q : State → Prop} {D : va_G} {cy : Nat → ClassId} {ad : Nat → Nat} {x : SX} (fx : FX p s m args meth c cX5_undo 1 (some .int) RX5 D cy ad x) (hR : 6 ≤ R.frames ∧ 102 ≤ R.locals ∧ 1 ≤ R.cells ∧ 6 ≤ R.slots) (M : Mem) (ee : Nat) (z : Int32) (M' : Mem) (hF : f_X5_undo M = some (ee, z, M')) {Qc : Array Value → State → Outcome → State → Prop} (hl9 : l.stackTraces = false) (htab : ∀ z ∈ c.exceptionTable.toList, False) (hQ : Q = vx_MQ below Qc (XXW D cy ad s.heap.size ee M') args s 1 6 (AA ad s.heap.size)) (E : ∀ (pc : Nat) (ls : Array Slot) (H : Heap) (locs : List Loc) (v : Int32) (M1 : Mem), decode cX5_undo pc = .ok (.ireturn, 1) → WD D cy ad s M1 H locs → some ((0 : Nat), v, M1) = some (ee, z, M') → W p l e R s m args below meth c H locs 1 6 Q (F0 m pc ls [.int v])) (H : Heap) (locs : List Loc) (ls : Array Slot) (hl : lv_has ls 1 [(0, .ref (ad 0))]) (hw : WD D cy ad s M H locs) : W p l e R s m args below meth c H locs 0 0 Q (F0 m 0 ls []) := by
  have hx := fx.1.1
  have hb := fx.1.2.1
  have hown := fx.1.2.2.2.1
  have hts := fx.1.2.2.2.2
  unfold f_X5_undo at hF
  refine lv_aload_n hx hb dX5_undo_0 rfl (lv_at hl 0 rfl) ?_
  refine gX5_get fx hw isO_0 2 (by decide) wd1_207 rfl dX5_undo_1 ?_
  refine gX0_get fx hw isO_3 2 (by decide) wd1_182 rfl dX5_undo_4 ?_
  refine lv_if_ne (tgt := 21) hx hb dX5_undo_7 (by decide) (fun hc7 => ?_) (fun hc7 => ?_)
  · replace hF := st_f hc7 hF
    refine lv_aload_n hx hb dX5_undo_21 rfl (lv_at hl 0 rfl) ?_
    refine gX5_get fx hw isO_0 2 (by decide) wd1_207 rfl dX5_undo_22 ?_
    refine lv_aload_n hx hb dX5_undo_25 rfl (lv_at hl 0 rfl) ?_
    refine gX5_get fx hw isO_0 0 (by decide) wd1_205 rfl dX5_undo_26 ?_
    obtain ⟨M4, hgr3, hF⟩ := st_bnd hF
    refine g_cv hw (g_runV (C := RX0) (As := [.ref (ad 18)]) (rest := []) fx hw isO_3 rfl (c_X0_bringBack l x D cy ad 18 isH_18 H.size M M4 hgr3) wd4_193 wd4_194 wd4_195 wd1_6 wd4_196 yd_X0_bringBack rfl rfl (Nat.le_of_ble_eq_true rfl) hl.1 ⟨Nat.le_trans (Nat.le_of_ble_eq_true rfl) hR.1, Nat.le_trans (Nat.le_of_ble_eq_true rfl) hR.2.1⟩ ⟨Nat.le_trans (Nat.le_of_ble_eq_true rfl) hR.2.2.1, Nat.le_trans (Nat.le_of_ble_eq_true rfl) hR.2.2.2⟩ dX5_undo_29) (fun H locs hw => ?_)
    refine lv_aload_n hx hb dX5_undo_32 rfl (lv_at hl 0 rfl) ?_
    refine gX5_get fx hw isO_0 2 (by decide) wd1_207 rfl dX5_undo_33 ?_
    refine gX0_get fx hw isO_3 2 (by decide) wd1_182 rfl dX5_undo_36 ?_
    refine W.widen (k := 1) (n := 6) (Nat.le_of_ble_eq_true rfl) (Nat.le_of_ble_eq_true rfl) ?_
    exact E _ _ _ _ _ _ dX5_undo_39 hw hF
  · replace hF := st_t hc7 hF
    rw [hQ]
    exact g_throwSW (k := 3) (i := 5) fx hl9 htab hw hF (by decide) (by decide) (by decide) wd3_122 wd1_12 rfl xa_3 xb_3 xg_3 hl.1 dX5_undo_10 dX5_undo_13 dX5_undo_14 dX5_undo_17 dX5_undo_20 (Nat.le_trans (Nat.le_of_ble_eq_true rfl) hR.1) (Nat.le_trans (Nat.le_of_ble_eq_true rfl) hR.2.1) (Nat.le_trans (Nat.le_of_ble_eq_true rfl) hR.2.2.1) (Nat.le_trans (Nat.le_of_ble_eq_true rfl) hR.2.2.2) (Nat.le_of_ble_eq_true rfl) (Nat.le_of_ble_eq_true rfl)
theorem c_X5_undo (l : Launch) (x : SX) (D : va_G) (cy : Nat → ClassId) (ad : Nat → Nat) (sz : Nat) (M : Mem) (ee : Nat) (z : Int32) (M' : Mem) (hl9 : l.stackTraces = false) (hF : f_X5_undo M = some (ee, z, M')) : vx_Met l yX5_undo (.code yX5_undo cX5_undo 1 (some .int) :: GB) ({ frames := 6, cells := 1, slots := 6, locals := 102 } : Room) (PcW D cy ad x sz M [.ref (ad 0)]) (QxiW D cy ad sz ee z M') (XXW D cy ad sz ee M') 1 6 (AA ad sz) := by
  refine mk_x (own := RX5) (by decide) rfl (Nat.le_of_ble_eq_true rfl) ?_
  intro p e s m args below meth c ls fx htab hw hl hsz
  subst hsz
  exact b_X5_undo fx ⟨Nat.le_refl _, Nat.le_refl _, Nat.le_refl _, Nat.le_refl _⟩ M ee z M' hF hl9 htab rfl (fun pc ls H locs v M1 hd hw h => g_xiret fx hw h hd) _ _ ls hl hw
noncomputable def f_X5_requireSlot_9 : Mem → Option (Nat × Int32 × Mem) := fun M => (some (1, 0, M))
noncomputable def f_X5_requireSlot (p1 : Int32) (M : Mem) : Option (Nat × Int32 × Mem) := (if p1 < 0 then ((f_X5_requireSlot_9) M) else (if p1 < 2 then (some (0, 0, M)) else ((f_X5_requireSlot_9) M)))
set_option maxHeartbeats 4000000 in
set_option maxRecDepth 100000 in
theorem b_X5_requireSlot {p : Program} {l : Launch} {e : Env} {R : Room} {s : State} {m : MethodId} {args : Array Value} {below : List Frame} {meth : Method} {c : Code} {Q : State → Prop} {D : va_G} {cy : Nat → ClassId} {ad : Nat → Nat} {x : SX} (fx : FX p s m args meth c cX5_requireSlot 1 none RX5 D cy ad x) (hR : 6 ≤ R.frames ∧ 90 ≤ R.locals ∧ 1 ≤ R.cells ∧ 6 ≤ R.slots) (p1 : Int32) (M : Mem) (ee : Nat) (z : Int32) (M' : Mem) (hF : f_X5_requireSlot p1 M = some (ee, z, M')) {Qc : Array Value → State → Outcome → State → Prop} (hl9 : l.stackTraces = false) (htab : ∀ z ∈ c.exceptionTable.toList, False) (hQ : Q = vx_MQ below Qc (XXW D cy ad s.heap.size ee M') args s 1 6 (AA ad s.heap.size)) (E : ∀ (pc : Nat) (ls : Array Slot) (H : Heap) (locs : List Loc) (M1 : Mem), decode cX5_requireSlot pc = .ok (.return_, 1) → WD D cy ad s M1 H locs → some ((0 : Nat), (0 : Int32), M1) = some (ee, z, M') → W p l e R s m args below meth c H locs 1 6 Q (F0 m pc ls [])) (H : Heap) (locs : List Loc) (ls : Array Slot) (hl : lv_has ls 1 [(0, .int p1)]) (hw : WD D cy ad s M H locs) : W p l e R s m args below meth c H locs 0 0 Q (F0 m 0 ls []) := by
  have hx := fx.1.1
  have hb := fx.1.2.1
  have hown := fx.1.2.2.2.1
  have hts := fx.1.2.2.2.2
  have n_9 : ∀ (M : Mem) (H : Heap) (locs : List Loc) (ls : Array Slot), lv_has ls 1 [] → WD D cy ad s M H locs → f_X5_requireSlot_9 M = some (ee, z, M') → W p l e R s m args below meth c H locs 0 0 Q (F0 m 9 ls []) := by
    intro M H locs ls hl hw hF
    unfold f_X5_requireSlot_9 at hF
    rw [hQ]
    exact g_throwSW (k := 1) (i := 11) fx hl9 htab hw hF (by decide) (by decide) (by decide) wd4_5 wd1_21 rfl xa_1 xb_1 xg_1 hl.1 dX5_requireSlot_9 dX5_requireSlot_12 dX5_requireSlot_13 dX5_requireSlot_16 dX5_requireSlot_19 (Nat.le_trans (Nat.le_of_ble_eq_true rfl) hR.1) (Nat.le_trans (Nat.le_of_ble_eq_true rfl) hR.2.1) (Nat.le_trans (Nat.le_of_ble_eq_true rfl) hR.2.2.1) (Nat.le_trans (Nat.le_of_ble_eq_true rfl) hR.2.2.2) (Nat.le_of_ble_eq_true rfl) (Nat.le_of_ble_eq_true rfl)
  unfold f_X5_requireSlot at hF
  refine lv_iload_n hx hb dX5_requireSlot_0 rfl (lv_at hl 0 rfl) ?_
  refine lv_if_lt (tgt := 9) hx hb dX5_requireSlot_1 (by decide) (fun hc1 => ?_) (fun hc1 => ?_)
  · replace hF := st_t hc1 hF
    exact n_9 M H locs ls (lv_sub hl [] rfl) hw hF
  · replace hF := st_f hc1 hF
    refine lv_iload_n hx hb dX5_requireSlot_4 rfl (lv_at hl 0 rfl) ?_
    refine lv_iconst (v := 2) hx hb dX5_requireSlot_5 (by decide) ?_
    refine lv_icmp_lt (tgt := 20) hx hb dX5_requireSlot_6 (by decide) (fun hc6 => ?_) (fun hc6 => ?_)
    · replace hF := st_t hc6 hF
      refine W.widen (k := 1) (n := 6) (Nat.le_of_ble_eq_true rfl) (Nat.le_of_ble_eq_true rfl) ?_
      exact E _ _ _ _ _ dX5_requireSlot_20 hw hF
    · replace hF := st_f hc6 hF
      exact n_9 M H locs ls (lv_sub hl [] rfl) hw hF
theorem c_X5_requireSlot (l : Launch) (x : SX) (D : va_G) (cy : Nat → ClassId) (ad : Nat → Nat) (p1 : Int32) (sz : Nat) (M : Mem) (ee : Nat) (z : Int32) (M' : Mem) (hl9 : l.stackTraces = false) (hF : f_X5_requireSlot p1 M = some (ee, z, M')) : vx_Met l yX5_requireSlot (.code yX5_requireSlot cX5_requireSlot 1 none :: GB) ({ frames := 6, cells := 1, slots := 6, locals := 90 } : Room) (PcW D cy ad x sz M [.int p1]) (QxvW D cy ad sz ee M') (XXW D cy ad sz ee M') 1 6 (AA ad sz) := by
  refine mk_x (own := RX5) (by decide) rfl (Nat.le_of_ble_eq_true rfl) ?_
  intro p e s m args below meth c ls fx htab hw hl hsz
  subst hsz
  exact b_X5_requireSlot fx ⟨Nat.le_refl _, Nat.le_refl _, Nat.le_refl _, Nat.le_refl _⟩ p1 M ee z M' hF hl9 htab rfl (fun pc ls H locs M1 hd hw h => g_xvret fx hw h hd) _ _ ls hl hw
noncomputable def f_X5_save (p1 : Int32) (M : Mem) : Option (Nat × Int32 × Mem) := (bnd3 (f_X5_requireSlot p1 M) (fun er8 r8 M9 => (if er8 = 0 then (chk (inB p1 2) (bnd (f_X1_copyFrom (148 + 13 * ix p1) 18 M9) (fun M12 => (chk (inB p1 2) (letM (mput M12 8 (ix p1) 1) (fun M13 => (some (0, 0, M13)))))))) else (some (er8, 0, M9)))))
set_option maxHeartbeats 4000000 in
set_option maxRecDepth 100000 in
theorem b_X5_save {p : Program} {l : Launch} {e : Env} {R : Room} {s : State} {m : MethodId} {args : Array Value} {below : List Frame} {meth : Method} {c : Code} {Q : State → Prop} {D : va_G} {cy : Nat → ClassId} {ad : Nat → Nat} {x : SX} (fx : FX p s m args meth c cX5_save 2 none RX5 D cy ad x) (hR : 7 ≤ R.frames ∧ 110 ≤ R.locals ∧ 1 ≤ R.cells ∧ 6 ≤ R.slots) (p1 : Int32) (M : Mem) (ee : Nat) (z : Int32) (M' : Mem) (hF : f_X5_save p1 M = some (ee, z, M')) {Qc : Array Value → State → Outcome → State → Prop} (hl9 : l.stackTraces = false) (htab : ∀ z ∈ c.exceptionTable.toList, False) (hQ : Q = vx_MQ below Qc (XXW D cy ad s.heap.size ee M') args s 1 6 (AA ad s.heap.size)) (E : ∀ (pc : Nat) (ls : Array Slot) (H : Heap) (locs : List Loc) (M1 : Mem), decode cX5_save pc = .ok (.return_, 1) → WD D cy ad s M1 H locs → some ((0 : Nat), (0 : Int32), M1) = some (ee, z, M') → W p l e R s m args below meth c H locs 1 6 Q (F0 m pc ls [])) (H : Heap) (locs : List Loc) (ls : Array Slot) (hl : lv_has ls 2 [(0, .ref (ad 0)), (1, .int p1)]) (hw : WD D cy ad s M H locs) : W p l e R s m args below meth c H locs 0 0 Q (F0 m 0 ls []) := by
  have hx := fx.1.1
  have hb := fx.1.2.1
  have hown := fx.1.2.2.2.1
  have hts := fx.1.2.2.2.2
  unfold f_X5_save at hF
  refine lv_iload_n hx hb dX5_save_0 rfl (lv_at hl 1 rfl) ?_
  obtain ⟨er8, r8, M9, hgr8, hF⟩ := st_bnd3 hF
  refine g_xcv hw (g_xrunS (As := [.int p1]) (rest := []) fx hw (c_X5_requireSlot l x D cy ad p1 H.size M er8 r8 M9 hl9 hgr8) wd4_204 wd4_205 wd1_1 wd4_206 yd_X5_requireSlot rfl rfl (Nat.le_of_ble_eq_true rfl) hl.1 ⟨Nat.le_trans (Nat.le_of_ble_eq_true rfl) hR.1, Nat.le_trans (Nat.le_of_ble_eq_true rfl) hR.2.1⟩ ⟨Nat.le_trans (Nat.le_of_ble_eq_true rfl) hR.2.2.1, Nat.le_trans (Nat.le_of_ble_eq_true rfl) hR.2.2.2⟩ dX5_save_1) (fun her8 ce q9 H locs hw hce hcv hcl => ?_) (fun her8 H locs hw => ?_)
  · replace hF := st_f her8 hF
    rw [hQ]
    exact g_xout fx htab hw hF her8 hce hcv hcl (Nat.le_of_ble_eq_true rfl) (Nat.le_of_ble_eq_true rfl)
  · replace hF := st_t her8 hF
    refine lv_aload_n hx hb dX5_save_4 rfl (lv_at hl 0 rfl) ?_
    refine gX5_get fx hw isO_0 4 (by decide) wd1_209 rfl dX5_save_5 ?_
    refine lv_iload_n hx hb dX5_save_8 rfl (lv_at hl 1 rfl) ?_
    obtain ⟨hi10, hF⟩ := st_chk hF
    refine g_aald fx hw isQ_7 hi10 dX5_save_9 ?_
    refine lv_aload_n hx hb dX5_save_10 rfl (lv_at hl 0 rfl) ?_
    refine gX5_get fx hw isO_0 0 (by decide) wd1_205 rfl dX5_save_11 ?_
    obtain ⟨M12, hgr11, hF⟩ := st_bnd hF
    refine g_cv hw (g_runV (C := RX1) (As := [.ref (ad 18)]) (rest := []) fx hw ((isH_saved (inB_lt hi10))).O rfl (c_X1_copyFrom l x D cy ad (148 + 13 * ix p1) 18 (isH_saved (inB_lt hi10)) isH_18 H.size M9 M12 hgr11) wd3_43 wd3_37 wd3_38 wd1_2 wd3_39 yd_X1_copyFrom rfl rfl (Nat.le_of_ble_eq_true rfl) hl.1 ⟨Nat.le_trans (Nat.le_of_ble_eq_true rfl) hR.1, Nat.le_trans (Nat.le_of_ble_eq_true rfl) hR.2.1⟩ ⟨Nat.le_trans (Nat.le_of_ble_eq_true rfl) hR.2.2.1, Nat.le_trans (Nat.le_of_ble_eq_true rfl) hR.2.2.2⟩ dX5_save_14) (fun H locs hw => ?_)
    refine lv_aload_n hx hb dX5_save_17 rfl (lv_at hl 0 rfl) ?_
    refine gX5_get fx hw isO_0 5 (by decide) wd1_210 rfl dX5_save_18 ?_
    refine lv_iload_n hx hb dX5_save_21 rfl (lv_at hl 1 rfl) ?_
    refine lv_iconst (v := 1) hx hb dX5_save_22 (by decide) ?_
    obtain ⟨hi14, hF⟩ := st_chk hF
    obtain ⟨M13, eM13, hF⟩ := st_letM hF
    refine g_zast fx hw isZ_8 hi14 rfl eM13 dX5_save_23 (fun H locs hw => ?_)
    exact E _ _ _ _ _ dX5_save_24 hw hF
theorem c_X5_save (l : Launch) (x : SX) (D : va_G) (cy : Nat → ClassId) (ad : Nat → Nat) (p1 : Int32) (sz : Nat) (M : Mem) (ee : Nat) (z : Int32) (M' : Mem) (hl9 : l.stackTraces = false) (hF : f_X5_save p1 M = some (ee, z, M')) : vx_Met l yX5_save (.code yX5_save cX5_save 2 none :: GB) ({ frames := 7, cells := 1, slots := 6, locals := 110 } : Room) (PcW D cy ad x sz M [.ref (ad 0), .int p1]) (QxvW D cy ad sz ee M') (XXW D cy ad sz ee M') 1 6 (AA ad sz) := by
  refine mk_x (own := RX5) (by decide) rfl (Nat.le_of_ble_eq_true rfl) ?_
  intro p e s m args below meth c ls fx htab hw hl hsz
  subst hsz
  exact b_X5_save fx ⟨Nat.le_refl _, Nat.le_refl _, Nat.le_refl _, Nat.le_refl _⟩ p1 M ee z M' hF hl9 htab rfl (fun pc ls H locs M1 hd hw h => g_xvret fx hw h hd) _ _ ls hl hw
noncomputable def f_X5_restore (p1 : Int32) (M : Mem) : Option (Nat × Int32 × Mem) := (bnd3 (f_X5_requireSlot p1 M) (fun er9 r9 M10 => (if er9 = 0 then (chk (inB p1 2) (if (M10 8 (ix p1)) = 0 then (some (3, 0, M10)) else (bnd (f_X0_remember 18 M10) (fun M13 => (chk (inB p1 2) (bnd (f_X1_copyFrom 18 (148 + 13 * ix p1) M13) (fun M16 => (some (0, (M16 18 16), M16))))))))) else (some (er9, 0, M10)))))
set_option maxHeartbeats 4000000 in
set_option maxRecDepth 100000 in
theorem b_X5_restore {p : Program} {l : Launch} {e : Env} {R : Room} {s : State} {m : MethodId} {args : Array Value} {below : List Frame} {meth : Method} {c : Code} {Q : State → Prop} {D : va_G} {cy : Nat → ClassId} {ad : Nat → Nat} {x : SX} (fx : FX p s m args meth c cX5_restore 2 (some .int) RX5 D cy ad x) (hR : 7 ≤ R.frames ∧ 110 ≤ R.locals ∧ 2 ≤ R.cells ∧ 12 ≤ R.slots) (p1 : Int32) (M : Mem) (ee : Nat) (z : Int32) (M' : Mem) (hF : f_X5_restore p1 M = some (ee, z, M')) {Qc : Array Value → State → Outcome → State → Prop} (hl9 : l.stackTraces = false) (htab : ∀ z ∈ c.exceptionTable.toList, False) (hQ : Q = vx_MQ below Qc (XXW D cy ad s.heap.size ee M') args s 2 12 (AA ad s.heap.size)) (E : ∀ (pc : Nat) (ls : Array Slot) (H : Heap) (locs : List Loc) (v : Int32) (M1 : Mem), decode cX5_restore pc = .ok (.ireturn, 1) → WD D cy ad s M1 H locs → some ((0 : Nat), v, M1) = some (ee, z, M') → W p l e R s m args below meth c H locs 2 12 Q (F0 m pc ls [.int v])) (H : Heap) (locs : List Loc) (ls : Array Slot) (hl : lv_has ls 2 [(0, .ref (ad 0)), (1, .int p1)]) (hw : WD D cy ad s M H locs) : W p l e R s m args below meth c H locs 0 0 Q (F0 m 0 ls []) := by
  have hx := fx.1.1
  have hb := fx.1.2.1
  have hown := fx.1.2.2.2.1
  have hts := fx.1.2.2.2.2
  unfold f_X5_restore at hF
  refine lv_iload_n hx hb dX5_restore_0 rfl (lv_at hl 1 rfl) ?_
  obtain ⟨er9, r9, M10, hgr9, hF⟩ := st_bnd3 hF
  refine g_xcv hw (g_xrunS (As := [.int p1]) (rest := []) fx hw (c_X5_requireSlot l x D cy ad p1 H.size M er9 r9 M10 hl9 hgr9) wd4_204 wd4_205 wd1_1 wd4_206 yd_X5_requireSlot rfl rfl (Nat.le_of_ble_eq_true rfl) hl.1 ⟨Nat.le_trans (Nat.le_of_ble_eq_true rfl) hR.1, Nat.le_trans (Nat.le_of_ble_eq_true rfl) hR.2.1⟩ ⟨Nat.le_trans (Nat.le_of_ble_eq_true rfl) hR.2.2.1, Nat.le_trans (Nat.le_of_ble_eq_true rfl) hR.2.2.2⟩ dX5_restore_1) (fun her9 ce q9 H locs hw hce hcv hcl => ?_) (fun her9 H locs hw => ?_)
  · replace hF := st_f her9 hF
    rw [hQ]
    exact g_xout fx htab hw hF her9 hce hcv hcl (Nat.le_of_ble_eq_true rfl) (Nat.le_of_ble_eq_true rfl)
  · replace hF := st_t her9 hF
    refine lv_aload_n hx hb dX5_restore_4 rfl (lv_at hl 0 rfl) ?_
    refine gX5_get fx hw isO_0 5 (by decide) wd1_210 rfl dX5_restore_5 ?_
    refine lv_iload_n hx hb dX5_restore_8 rfl (lv_at hl 1 rfl) ?_
    obtain ⟨hi11, hF⟩ := st_chk hF
    refine g_zald fx hw isZ_8 hi11 dX5_restore_9 ?_
    refine lv_if_ne (tgt := 24) hx hb dX5_restore_10 (by decide) (fun hc10 => ?_) (fun hc10 => ?_)
    · replace hF := st_f hc10 hF
      refine lv_aload_n hx hb dX5_restore_24 rfl (lv_at hl 0 rfl) ?_
      refine gX5_get fx hw isO_0 2 (by decide) wd1_207 rfl dX5_restore_25 ?_
      refine lv_aload_n hx hb dX5_restore_28 rfl (lv_at hl 0 rfl) ?_
      refine gX5_get fx hw isO_0 0 (by decide) wd1_205 rfl dX5_restore_29 ?_
      obtain ⟨M13, hgr12, hF⟩ := st_bnd hF
      refine g_cv hw (g_runV (C := RX0) (As := [.ref (ad 18)]) (rest := []) fx hw isO_3 rfl (c_X0_remember l x D cy ad 18 isH_18 H.size M10 M13 hgr12) wd3_32 wd3_33 wd3_34 wd1_6 wd3_35 yd_X0_remember rfl rfl (Nat.le_of_ble_eq_true rfl) hl.1 ⟨Nat.le_trans (Nat.le_of_ble_eq_true rfl) hR.1, Nat.le_trans (Nat.le_of_ble_eq_true rfl) hR.2.1⟩ ⟨Nat.le_trans (Nat.le_of_ble_eq_true rfl) hR.2.2.1, Nat.le_trans (Nat.le_of_ble_eq_true rfl) hR.2.2.2⟩ dX5_restore_32) (fun H locs hw => ?_)
      refine lv_aload_n hx hb dX5_restore_35 rfl (lv_at hl 0 rfl) ?_
      refine gX5_get fx hw isO_0 0 (by decide) wd1_205 rfl dX5_restore_36 ?_
      refine lv_aload_n hx hb dX5_restore_39 rfl (lv_at hl 0 rfl) ?_
      refine gX5_get fx hw isO_0 4 (by decide) wd1_209 rfl dX5_restore_40 ?_
      refine lv_iload_n hx hb dX5_restore_43 rfl (lv_at hl 1 rfl) ?_
      obtain ⟨hi14, hF⟩ := st_chk hF
      refine g_aald fx hw isQ_7 hi14 dX5_restore_44 ?_
      obtain ⟨M16, hgr15, hF⟩ := st_bnd hF
      refine g_cv hw (g_runV (C := RX1) (As := [.ref (ad (148 + 13 * ix p1))]) (rest := []) fx hw isH_18.O rfl (c_X1_copyFrom l x D cy ad 18 (148 + 13 * ix p1) isH_18 (isH_saved (inB_lt hi14)) H.size M13 M16 hgr15) wd3_43 wd3_37 wd3_38 wd1_2 wd3_39 yd_X1_copyFrom rfl rfl (Nat.le_of_ble_eq_true rfl) hl.1 ⟨Nat.le_trans (Nat.le_of_ble_eq_true rfl) hR.1, Nat.le_trans (Nat.le_of_ble_eq_true rfl) hR.2.1⟩ ⟨Nat.le_trans (Nat.le_of_ble_eq_true rfl) hR.2.2.1, Nat.le_trans (Nat.le_of_ble_eq_true rfl) hR.2.2.2⟩ dX5_restore_45) (fun H locs hw => ?_)
      refine lv_aload_n hx hb dX5_restore_48 rfl (lv_at hl 0 rfl) ?_
      refine gX5_get fx hw isO_0 0 (by decide) wd1_205 rfl dX5_restore_49 ?_
      refine gX1_get fx hw isH_18.O 16 (by decide) wd1_73 rfl dX5_restore_52 ?_
      refine W.widen (k := 2) (n := 12) (Nat.le_of_ble_eq_true rfl) (Nat.le_of_ble_eq_true rfl) ?_
      exact E _ _ _ _ _ _ dX5_restore_55 hw hF
    · replace hF := st_t hc10 hF
      rw [hQ]
      exact g_throwSW (k := 3) (i := 6) fx hl9 htab hw hF (by decide) (by decide) (by decide) wd3_122 wd1_12 rfl xa_3 xb_3 xg_3 hl.1 dX5_restore_13 dX5_restore_16 dX5_restore_17 dX5_restore_20 dX5_restore_23 (Nat.le_trans (Nat.le_of_ble_eq_true rfl) hR.1) (Nat.le_trans (Nat.le_of_ble_eq_true rfl) hR.2.1) (Nat.le_trans (Nat.le_of_ble_eq_true rfl) hR.2.2.1) (Nat.le_trans (Nat.le_of_ble_eq_true rfl) hR.2.2.2) (Nat.le_of_ble_eq_true rfl) (Nat.le_of_ble_eq_true rfl)
theorem c_X5_restore (l : Launch) (x : SX) (D : va_G) (cy : Nat → ClassId) (ad : Nat → Nat) (p1 : Int32) (sz : Nat) (M : Mem) (ee : Nat) (z : Int32) (M' : Mem) (hl9 : l.stackTraces = false) (hF : f_X5_restore p1 M = some (ee, z, M')) : vx_Met l yX5_restore (.code yX5_restore cX5_restore 2 (some .int) :: GB) ({ frames := 7, cells := 2, slots := 12, locals := 110 } : Room) (PcW D cy ad x sz M [.ref (ad 0), .int p1]) (QxiW D cy ad sz ee z M') (XXW D cy ad sz ee M') 2 12 (AA ad sz) := by
  refine mk_x (own := RX5) (by decide) rfl (Nat.le_of_ble_eq_true rfl) ?_
  intro p e s m args below meth c ls fx htab hw hl hsz
  subst hsz
  exact b_X5_restore fx ⟨Nat.le_refl _, Nat.le_refl _, Nat.le_refl _, Nat.le_refl _⟩ p1 M ee z M' hF hl9 htab rfl (fun pc ls H locs v M1 hd hw h => g_xiret fx hw h hd) _ _ ls hl hw
noncomputable def f_X5_writeMonk (p1 : Int32) (M : Mem) : Option (Nat × Int32 × Mem) := (bnd3 (f_X5_requireMonk p1 M) (fun er17 r17 M18 => (if er17 = 0 then (letM (mput M18 5 1 0) (fun M19 => (chk (inB p1 12) (bnd (f_X4_addName (M19 19 (ix p1)) M19) (fun M22 => (bnd (f_X4_addByte 58 M22) (fun M24 => (chk (inB p1 12) (bnd (f_X4_addNeeds 18 (M24 21 (ix p1)) M24) (fun M27 => (bnd (f_X4_addByte 47 M27) (fun M29 => (chk (inB p1 12) (bnd (f_X4_addNeeds 18 (M29 22 (ix p1)) M29) (fun M32 => (some (0, (M32 5 1), M32))))))))))))))))) else (some (er17, 0, M18)))))
set_option maxHeartbeats 4000000 in
set_option maxRecDepth 100000 in
theorem b_X5_writeMonk {p : Program} {l : Launch} {e : Env} {R : Room} {s : State} {m : MethodId} {args : Array Value} {below : List Frame} {meth : Method} {c : Code} {Q : State → Prop} {D : va_G} {cy : Nat → ClassId} {ad : Nat → Nat} {x : SX} (fx : FX p s m args meth c cX5_writeMonk 2 (some .int) RX5 D cy ad x) (hR : 7 ≤ R.frames ∧ 111 ≤ R.locals ∧ 1 ≤ R.cells ∧ 6 ≤ R.slots) (p1 : Int32) (M : Mem) (ee : Nat) (z : Int32) (M' : Mem) (hF : f_X5_writeMonk p1 M = some (ee, z, M')) {Qc : Array Value → State → Outcome → State → Prop} (hl9 : l.stackTraces = false) (htab : ∀ z ∈ c.exceptionTable.toList, False) (hQ : Q = vx_MQ below Qc (XXW D cy ad s.heap.size ee M') args s 1 6 (AA ad s.heap.size)) (E : ∀ (pc : Nat) (ls : Array Slot) (H : Heap) (locs : List Loc) (v : Int32) (M1 : Mem), decode cX5_writeMonk pc = .ok (.ireturn, 1) → WD D cy ad s M1 H locs → some ((0 : Nat), v, M1) = some (ee, z, M') → W p l e R s m args below meth c H locs 1 6 Q (F0 m pc ls [.int v])) (H : Heap) (locs : List Loc) (ls : Array Slot) (hl : lv_has ls 2 [(0, .ref (ad 0)), (1, .int p1)]) (hw : WD D cy ad s M H locs) : W p l e R s m args below meth c H locs 0 0 Q (F0 m 0 ls []) := by
  have hx := fx.1.1
  have hb := fx.1.2.1
  have hown := fx.1.2.2.2.1
  have hts := fx.1.2.2.2.2
  unfold f_X5_writeMonk at hF
  refine lv_aload_n hx hb dX5_writeMonk_0 rfl (lv_at hl 0 rfl) ?_
  refine lv_iload_n hx hb dX5_writeMonk_1 rfl (lv_at hl 1 rfl) ?_
  obtain ⟨er17, r17, M18, hgr17, hF⟩ := st_bnd3 hF
  refine g_xcv hw (g_xrunV (C := RX5) (As := [.int p1]) (rest := []) fx hw isO_0 rfl (c_X5_requireMonk l x D cy ad p1 H.size M er17 r17 M18 hl9 hgr17) wd4_1 wd4_3 wd0_37 wd1_1 wd4_4 yd_X5_requireMonk rfl rfl (Nat.le_of_ble_eq_true rfl) hl.1 ⟨Nat.le_trans (Nat.le_of_ble_eq_true rfl) hR.1, Nat.le_trans (Nat.le_of_ble_eq_true rfl) hR.2.1⟩ ⟨Nat.le_trans (Nat.le_of_ble_eq_true rfl) hR.2.2.1, Nat.le_trans (Nat.le_of_ble_eq_true rfl) hR.2.2.2⟩ dX5_writeMonk_2) (fun her17 ce q9 H locs hw hce hcv hcl => ?_) (fun her17 H locs hw => ?_)
  · replace hF := st_f her17 hF
    rw [hQ]
    exact g_xout fx htab hw hF her17 hce hcv hcl (Nat.le_of_ble_eq_true rfl) (Nat.le_of_ble_eq_true rfl)
  · replace hF := st_t her17 hF
    refine lv_aload_n hx hb dX5_writeMonk_5 rfl (lv_at hl 0 rfl) ?_
    refine gX5_get fx hw isO_0 3 (by decide) wd1_208 rfl dX5_writeMonk_6 ?_
    refine lv_iconst (v := 0) hx hb dX5_writeMonk_9 (by decide) ?_
    obtain ⟨M19, eM19, hF⟩ := st_letM hF
    refine gX4_put fx hw isO_5 1 (by decide) wd1_199 rfl eM19 rfl (Nat.le_of_ble_eq_true rfl) dX5_writeMonk_10 (fun H locs hw => ?_)
    refine lv_aload_n hx hb dX5_writeMonk_13 rfl (lv_at hl 0 rfl) ?_
    refine gX5_get fx hw isO_0 3 (by decide) wd1_208 rfl dX5_writeMonk_14 ?_
    refine lv_aload_n hx hb dX5_writeMonk_17 rfl (lv_at hl 0 rfl) ?_
    refine gX5_get fx hw isO_0 0 (by decide) wd1_205 rfl dX5_writeMonk_18 ?_
    refine gX1_get fx hw isH_18.O 0 (by decide) wd1_37 rfl dX5_writeMonk_21 ?_
    refine lv_iload_n hx hb dX5_writeMonk_24 rfl (lv_at hl 1 rfl) ?_
    obtain ⟨hi20, hF⟩ := st_chk hF
    refine g_iald fx hw isH_18.a1 hi20 dX5_writeMonk_25 ?_
    obtain ⟨M22, hgr21, hF⟩ := st_bnd hF
    refine g_cv hw (g_runV (C := RX4) (As := [.int (M19 19 (ix p1))]) (rest := []) fx hw isO_5 rfl (c_X4_addName l x D cy ad (M19 19 (ix p1)) H.size M19 M22 hgr21) wd4_223 wd4_224 wd4_225 wd1_7 wd4_226 yd_X4_addName rfl rfl (Nat.le_of_ble_eq_true rfl) hl.1 ⟨Nat.le_trans (Nat.le_of_ble_eq_true rfl) hR.1, Nat.le_trans (Nat.le_of_ble_eq_true rfl) hR.2.1⟩ ⟨Nat.le_trans (Nat.le_of_ble_eq_true rfl) hR.2.2.1, Nat.le_trans (Nat.le_of_ble_eq_true rfl) hR.2.2.2⟩ dX5_writeMonk_26) (fun H locs hw => ?_)
    refine lv_aload_n hx hb dX5_writeMonk_29 rfl (lv_at hl 0 rfl) ?_
    refine gX5_get fx hw isO_0 3 (by decide) wd1_208 rfl dX5_writeMonk_30 ?_
    refine lv_bipush (v := 58) hx hb dX5_writeMonk_33 (by decide) ?_
    obtain ⟨M24, hgr23, hF⟩ := st_bnd hF
    refine g_cv hw (g_runV (C := RX4) (As := [.int 58]) (rest := []) fx hw isO_5 rfl (c_X4_addByte l x D cy ad 58 H.size M22 M24 hgr23) wd3_102 wd3_103 wd3_104 wd1_7 wd3_105 yd_X4_addByte rfl rfl (Nat.le_of_ble_eq_true rfl) hl.1 ⟨Nat.le_trans (Nat.le_of_ble_eq_true rfl) hR.1, Nat.le_trans (Nat.le_of_ble_eq_true rfl) hR.2.1⟩ ⟨Nat.le_trans (Nat.le_of_ble_eq_true rfl) hR.2.2.1, Nat.le_trans (Nat.le_of_ble_eq_true rfl) hR.2.2.2⟩ dX5_writeMonk_35) (fun H locs hw => ?_)
    refine lv_aload_n hx hb dX5_writeMonk_38 rfl (lv_at hl 0 rfl) ?_
    refine gX5_get fx hw isO_0 3 (by decide) wd1_208 rfl dX5_writeMonk_39 ?_
    refine lv_aload_n hx hb dX5_writeMonk_42 rfl (lv_at hl 0 rfl) ?_
    refine gX5_get fx hw isO_0 0 (by decide) wd1_205 rfl dX5_writeMonk_43 ?_
    refine lv_aload_n hx hb dX5_writeMonk_46 rfl (lv_at hl 0 rfl) ?_
    refine gX5_get fx hw isO_0 0 (by decide) wd1_205 rfl dX5_writeMonk_47 ?_
    refine gX1_get fx hw isH_18.O 2 (by decide) wd1_41 rfl dX5_writeMonk_50 ?_
    refine lv_iload_n hx hb dX5_writeMonk_53 rfl (lv_at hl 1 rfl) ?_
    obtain ⟨hi25, hF⟩ := st_chk hF
    refine g_iald fx hw isH_18.a3 hi25 dX5_writeMonk_54 ?_
    obtain ⟨M27, hgr26, hF⟩ := st_bnd hF
    refine g_cv hw (g_runV (C := RX4) (As := [.ref (ad 18), .int (M24 21 (ix p1))]) (rest := []) fx hw isO_5 rfl (c_X4_addNeeds l x D cy ad 18 isH_18 (M24 21 (ix p1)) H.size M24 M27 hgr26) wd4_228 wd4_229 wd4_230 wd1_7 wd4_231 yd_X4_addNeeds rfl rfl (Nat.le_of_ble_eq_true rfl) hl.1 ⟨Nat.le_trans (Nat.le_of_ble_eq_true rfl) hR.1, Nat.le_trans (Nat.le_of_ble_eq_true rfl) hR.2.1⟩ ⟨Nat.le_trans (Nat.le_of_ble_eq_true rfl) hR.2.2.1, Nat.le_trans (Nat.le_of_ble_eq_true rfl) hR.2.2.2⟩ dX5_writeMonk_55) (fun H locs hw => ?_)
    refine lv_aload_n hx hb dX5_writeMonk_58 rfl (lv_at hl 0 rfl) ?_
    refine gX5_get fx hw isO_0 3 (by decide) wd1_208 rfl dX5_writeMonk_59 ?_
    refine lv_bipush (v := 47) hx hb dX5_writeMonk_62 (by decide) ?_
    obtain ⟨M29, hgr28, hF⟩ := st_bnd hF
    refine g_cv hw (g_runV (C := RX4) (As := [.int 47]) (rest := []) fx hw isO_5 rfl (c_X4_addByte l x D cy ad 47 H.size M27 M29 hgr28) wd3_102 wd3_103 wd3_104 wd1_7 wd3_105 yd_X4_addByte rfl rfl (Nat.le_of_ble_eq_true rfl) hl.1 ⟨Nat.le_trans (Nat.le_of_ble_eq_true rfl) hR.1, Nat.le_trans (Nat.le_of_ble_eq_true rfl) hR.2.1⟩ ⟨Nat.le_trans (Nat.le_of_ble_eq_true rfl) hR.2.2.1, Nat.le_trans (Nat.le_of_ble_eq_true rfl) hR.2.2.2⟩ dX5_writeMonk_64) (fun H locs hw => ?_)
    refine lv_aload_n hx hb dX5_writeMonk_67 rfl (lv_at hl 0 rfl) ?_
    refine gX5_get fx hw isO_0 3 (by decide) wd1_208 rfl dX5_writeMonk_68 ?_
    refine lv_aload_n hx hb dX5_writeMonk_71 rfl (lv_at hl 0 rfl) ?_
    refine gX5_get fx hw isO_0 0 (by decide) wd1_205 rfl dX5_writeMonk_72 ?_
    refine lv_aload_n hx hb dX5_writeMonk_75 rfl (lv_at hl 0 rfl) ?_
    refine gX5_get fx hw isO_0 0 (by decide) wd1_205 rfl dX5_writeMonk_76 ?_
    refine gX1_get fx hw isH_18.O 3 (by decide) wd1_43 rfl dX5_writeMonk_79 ?_
    refine lv_iload_n hx hb dX5_writeMonk_82 rfl (lv_at hl 1 rfl) ?_
    obtain ⟨hi30, hF⟩ := st_chk hF
    refine g_iald fx hw isH_18.a4 hi30 dX5_writeMonk_83 ?_
    obtain ⟨M32, hgr31, hF⟩ := st_bnd hF
    refine g_cv hw (g_runV (C := RX4) (As := [.ref (ad 18), .int (M29 22 (ix p1))]) (rest := []) fx hw isO_5 rfl (c_X4_addNeeds l x D cy ad 18 isH_18 (M29 22 (ix p1)) H.size M29 M32 hgr31) wd4_228 wd4_229 wd4_230 wd1_7 wd4_231 yd_X4_addNeeds rfl rfl (Nat.le_of_ble_eq_true rfl) hl.1 ⟨Nat.le_trans (Nat.le_of_ble_eq_true rfl) hR.1, Nat.le_trans (Nat.le_of_ble_eq_true rfl) hR.2.1⟩ ⟨Nat.le_trans (Nat.le_of_ble_eq_true rfl) hR.2.2.1, Nat.le_trans (Nat.le_of_ble_eq_true rfl) hR.2.2.2⟩ dX5_writeMonk_84) (fun H locs hw => ?_)
    refine lv_aload_n hx hb dX5_writeMonk_87 rfl (lv_at hl 0 rfl) ?_
    refine gX5_get fx hw isO_0 3 (by decide) wd1_208 rfl dX5_writeMonk_88 ?_
    refine gX4_get fx hw isO_5 1 (by decide) wd1_199 rfl dX5_writeMonk_91 ?_
    exact E _ _ _ _ _ _ dX5_writeMonk_94 hw hF
theorem c_X5_writeMonk (l : Launch) (x : SX) (D : va_G) (cy : Nat → ClassId) (ad : Nat → Nat) (p1 : Int32) (sz : Nat) (M : Mem) (ee : Nat) (z : Int32) (M' : Mem) (hl9 : l.stackTraces = false) (hF : f_X5_writeMonk p1 M = some (ee, z, M')) : vx_Met l yX5_writeMonk (.code yX5_writeMonk cX5_writeMonk 2 (some .int) :: GB) ({ frames := 7, cells := 1, slots := 6, locals := 111 } : Room) (PcW D cy ad x sz M [.ref (ad 0), .int p1]) (QxiW D cy ad sz ee z M') (XXW D cy ad sz ee M') 1 6 (AA ad sz) := by
  refine mk_x (own := RX5) (by decide) rfl (Nat.le_of_ble_eq_true rfl) ?_
  intro p e s m args below meth c ls fx htab hw hl hsz
  subst hsz
  exact b_X5_writeMonk fx ⟨Nat.le_refl _, Nat.le_refl _, Nat.le_refl _, Nat.le_refl _⟩ p1 M ee z M' hF hl9 htab rfl (fun pc ls H locs v M1 hd hw h => g_xiret fx hw h hd) _ _ ls hl hw
noncomputable def f_X5_writeDay_38 (rec10 : Int32 → Mem → Option (Int32 × Mem)) : Int32 → Int32 → Mem → Option (Int32 × Mem) := fun a1 t1 M => (bnd (f_X4_addByte t1 M) (fun M16 => (rec10 (a1 + 1) M16)))
noncomputable def f_X5_writeDay_10 (rec10 : Int32 → Mem → Option (Int32 × Mem)) : Int32 → Mem → Option (Int32 × Mem) := fun a1 M => (if 24 ≤ a1 then (bnd (f_X4_addByte 47 M) (fun M18 => (bnd (f_X4_addNumber (M18 18 16) M18) (fun M20 => (some ((M20 5 1), M20)))))) else (bnd (f_X1_isSpeechAt 18 a1 M) (fun r21 => (if r21 = 0 then ((f_X5_writeDay_38 rec10) a1 46 M) else ((f_X5_writeDay_38 rec10) a1 115 M)))))
noncomputable def f_X5_writeDay (M : Mem) : Option (Int32 × Mem) := (letM (mput M 5 1 0) (fun M22 => ((lp (fun _ _ => none) (f_X5_writeDay_10) FU) 0 M22)))
set_option maxHeartbeats 4000000 in
set_option maxRecDepth 100000 in
theorem b_X5_writeDay {p : Program} {l : Launch} {e : Env} {R : Room} {s : State} {m : MethodId} {args : Array Value} {below : List Frame} {meth : Method} {c : Code} {Q : State → Prop} {D : va_G} {cy : Nat → ClassId} {ad : Nat → Nat} {x : SX} (fx : FX p s m args meth c cX5_writeDay 2 (some .int) RX5 D cy ad x) (hR : 2 ≤ R.frames ∧ 45 ≤ R.locals ∧ 0 ≤ R.cells ∧ 0 ≤ R.slots) (M : Mem) (z : Int32) (M' : Mem) (hF : f_X5_writeDay M = some (z, M')) (E : ∀ (pc : Nat) (ls : Array Slot) (H : Heap) (locs : List Loc) (v : Int32) (M1 : Mem), decode cX5_writeDay pc = .ok (.ireturn, 1) → WD D cy ad s M1 H locs → some (v, M1) = some (z, M') → W p l e R s m args below meth c H locs 0 0 Q (F0 m pc ls [.int v])) (H : Heap) (locs : List Loc) (ls : Array Slot) (hl : lv_has ls 2 [(0, .ref (ad 0))]) (hw : WD D cy ad s M H locs) : W p l e R s m args below meth c H locs 0 0 Q (F0 m 0 ls []) := by
  have hx := fx.1.1
  have hb := fx.1.2.1
  have hown := fx.1.2.2.2.1
  have hts := fx.1.2.2.2.2
  have n_38 : ∀ (rec10 : Int32 → Mem → Option (Int32 × Mem)) (_ : ∀ (a1 : Int32) (M : Mem) (H : Heap) (locs : List Loc) (ls : Array Slot), lv_has ls 2 [(0, .ref (ad 0)), (1, .int a1)] → WD D cy ad s M H locs → rec10 a1 M = some (z, M') → W p l e R s m args below meth c H locs 0 0 Q (F0 m 10 ls [])) , ∀ (a1 : Int32) (t1 : Int32) (M : Mem) (H : Heap) (locs : List Loc) (ls : Array Slot), lv_has ls 2 [(0, .ref (ad 0)), (1, .int a1)] → WD D cy ad s M H locs → f_X5_writeDay_38 rec10 a1 t1 M = some (z, M') → W p l e R s m args below meth c H locs 0 0 Q (F0 m 38 ls [.int t1, .ref (ad 5)]) := by
    intro rec10 hr10 a1 t1 M H locs ls hl hw hF
    unfold f_X5_writeDay_38 at hF
    obtain ⟨M16, hgr15, hF⟩ := st_bnd hF
    refine g_cv hw (g_runV (C := RX4) (As := [.int t1]) (rest := []) fx hw isO_5 rfl (c_X4_addByte l x D cy ad t1 H.size M M16 hgr15) wd3_102 wd3_103 wd3_104 wd1_7 wd3_105 yd_X4_addByte rfl rfl (Nat.le_of_ble_eq_true rfl) hl.1 ⟨Nat.le_trans (Nat.le_of_ble_eq_true rfl) hR.1, Nat.le_trans (Nat.le_of_ble_eq_true rfl) hR.2.1⟩ ⟨Nat.le_trans (Nat.le_of_ble_eq_true rfl) hR.2.2.1, Nat.le_trans (Nat.le_of_ble_eq_true rfl) hR.2.2.2⟩ dX5_writeDay_38) (fun H locs hw => ?_)
    refine lv_iinc (v := (a1 + 1)) (lv' := [(1, .int (a1 + 1)), (0, .ref (ad 0))]) hx hb dX5_writeDay_41 hl (k := 1) rfl rfl (by decide) rfl (fun ls hl => ?_)
    refine lv_goto (tgt := 10) hx hb dX5_writeDay_44 (by decide) ?_
    exact hr10 (a1 + 1) M16 H locs ls (lv_sub hl [1, 0] rfl) hw hF
  have n_10 : ∀ (n9 : Nat), ∀ (a1 : Int32) (M : Mem) (H : Heap) (locs : List Loc) (ls : Array Slot), lv_has ls 2 [(0, .ref (ad 0)), (1, .int a1)] → WD D cy ad s M H locs → (lp (fun _ _ => none) (f_X5_writeDay_10) n9) a1 M = some (z, M') → W p l e R s m args below meth c H locs 0 0 Q (F0 m 10 ls []) := by
    intro n9
    refine lp_ind (fun (rec10 : Int32 → Mem → Option (Int32 × Mem)) => ∀ (a1 : Int32) (M : Mem) (H : Heap) (locs : List Loc) (ls : Array Slot), lv_has ls 2 [(0, .ref (ad 0)), (1, .int a1)] → WD D cy ad s M H locs → rec10 a1 M = some (z, M') → W p l e R s m args below meth c H locs 0 0 Q (F0 m 10 ls [])) ?_ ?_ n9
    · intro a1 M H locs ls hl hw hF
      exact nomatch hF
    · intro rec10 hr10 a1 M H locs ls hl hw hF
      unfold f_X5_writeDay_10 at hF
      refine lv_iload_n hx hb dX5_writeDay_10 rfl (lv_at hl 1 rfl) ?_
      refine lv_bipush (v := 24) hx hb dX5_writeDay_11 (by decide) ?_
      refine lv_icmp_ge (tgt := 47) hx hb dX5_writeDay_13 (by decide) (fun hc13 => ?_) (fun hc13 => ?_)
      · replace hF := st_t hc13 hF
        refine lv_aload_n hx hb dX5_writeDay_47 rfl (lv_at hl 0 rfl) ?_
        refine gX5_get fx hw isO_0 3 (by decide) wd1_208 rfl dX5_writeDay_48 ?_
        refine lv_bipush (v := 47) hx hb dX5_writeDay_51 (by decide) ?_
        obtain ⟨M18, hgr17, hF⟩ := st_bnd hF
        refine g_cv hw (g_runV (C := RX4) (As := [.int 47]) (rest := []) fx hw isO_5 rfl (c_X4_addByte l x D cy ad 47 H.size M M18 hgr17) wd3_102 wd3_103 wd3_104 wd1_7 wd3_105 yd_X4_addByte rfl rfl (Nat.le_of_ble_eq_true rfl) hl.1 ⟨Nat.le_trans (Nat.le_of_ble_eq_true rfl) hR.1, Nat.le_trans (Nat.le_of_ble_eq_true rfl) hR.2.1⟩ ⟨Nat.le_trans (Nat.le_of_ble_eq_true rfl) hR.2.2.1, Nat.le_trans (Nat.le_of_ble_eq_true rfl) hR.2.2.2⟩ dX5_writeDay_53) (fun H locs hw => ?_)
        refine lv_aload_n hx hb dX5_writeDay_56 rfl (lv_at hl 0 rfl) ?_
        refine gX5_get fx hw isO_0 3 (by decide) wd1_208 rfl dX5_writeDay_57 ?_
        refine lv_aload_n hx hb dX5_writeDay_60 rfl (lv_at hl 0 rfl) ?_
        refine gX5_get fx hw isO_0 0 (by decide) wd1_205 rfl dX5_writeDay_61 ?_
        refine gX1_get fx hw isH_18.O 16 (by decide) wd1_73 rfl dX5_writeDay_64 ?_
        obtain ⟨M20, hgr19, hF⟩ := st_bnd hF
        refine g_cv hw (g_runV (C := RX4) (As := [.int (M18 18 16)]) (rest := []) fx hw isO_5 rfl (c_X4_addNumber l x D cy ad (M18 18 16) H.size M18 M20 hgr19) wd3_106 wd3_107 wd3_108 wd1_7 wd3_109 yd_X4_addNumber rfl rfl (Nat.le_of_ble_eq_true rfl) hl.1 ⟨Nat.le_trans (Nat.le_of_ble_eq_true rfl) hR.1, Nat.le_trans (Nat.le_of_ble_eq_true rfl) hR.2.1⟩ ⟨Nat.le_trans (Nat.le_of_ble_eq_true rfl) hR.2.2.1, Nat.le_trans (Nat.le_of_ble_eq_true rfl) hR.2.2.2⟩ dX5_writeDay_67) (fun H locs hw => ?_)
        refine lv_aload_n hx hb dX5_writeDay_70 rfl (lv_at hl 0 rfl) ?_
        refine gX5_get fx hw isO_0 3 (by decide) wd1_208 rfl dX5_writeDay_71 ?_
        refine gX4_get fx hw isO_5 1 (by decide) wd1_199 rfl dX5_writeDay_74 ?_
        exact E _ _ _ _ _ _ dX5_writeDay_77 hw hF
      · replace hF := st_f hc13 hF
        refine lv_aload_n hx hb dX5_writeDay_16 rfl (lv_at hl 0 rfl) ?_
        refine gX5_get fx hw isO_0 3 (by decide) wd1_208 rfl dX5_writeDay_17 ?_
        refine lv_aload_n hx hb dX5_writeDay_20 rfl (lv_at hl 0 rfl) ?_
        refine gX5_get fx hw isO_0 0 (by decide) wd1_205 rfl dX5_writeDay_21 ?_
        refine lv_iload_n hx hb dX5_writeDay_24 rfl (lv_at hl 1 rfl) ?_
        obtain ⟨r21, hgr21, hF⟩ := st_bnd hF
        refine g_cz hw (g_runV (C := RX1) (As := [.int a1]) (rest := [.ref (ad 5)]) fx hw isH_18.O rfl (c_X1_isSpeechAt l x D cy ad 18 isH_18 a1 H.size M r21 hgr21) wd3_81 wd2_196 wd2_197 wd1_2 wd2_198 yd_X1_isSpeechAt rfl rfl (Nat.le_of_ble_eq_true rfl) hl.1 ⟨Nat.le_trans (Nat.le_of_ble_eq_true rfl) hR.1, Nat.le_trans (Nat.le_of_ble_eq_true rfl) hR.2.1⟩ ⟨Nat.le_trans (Nat.le_of_ble_eq_true rfl) hR.2.2.1, Nat.le_trans (Nat.le_of_ble_eq_true rfl) hR.2.2.2⟩ dX5_writeDay_25) (fun H locs hbr21 hw => ?_)
        refine lv_if_eq (tgt := 36) hx hb dX5_writeDay_28 (by decide) (fun hc28 => ?_) (fun hc28 => ?_)
        · replace hF := st_t hc28 hF
          refine lv_bipush (v := 46) hx hb dX5_writeDay_36 (by decide) ?_
          exact n_38 rec10 hr10 a1 46 M H locs ls (lv_sub hl [0, 1] rfl) hw hF
        · replace hF := st_f hc28 hF
          refine lv_bipush (v := 115) hx hb dX5_writeDay_31 (by decide) ?_
          refine lv_goto (tgt := 38) hx hb dX5_writeDay_33 (by decide) ?_
          exact n_38 rec10 hr10 a1 115 M H locs ls (lv_sub hl [0, 1] rfl) hw hF
  unfold f_X5_writeDay at hF
  refine lv_aload_n hx hb dX5_writeDay_0 rfl (lv_at hl 0 rfl) ?_
  refine gX5_get fx hw isO_0 3 (by decide) wd1_208 rfl dX5_writeDay_1 ?_
  refine lv_iconst (v := 0) hx hb dX5_writeDay_4 (by decide) ?_
  obtain ⟨M22, eM22, hF⟩ := st_letM hF
  refine gX4_put fx hw isO_5 1 (by decide) wd1_199 rfl eM22 rfl (Nat.le_of_ble_eq_true rfl) dX5_writeDay_5 (fun H locs hw => ?_)
  refine lv_iconst (v := 0) hx hb dX5_writeDay_8 (by decide) ?_
  refine lv_istore_n (lv' := [(1, .int 0), (0, .ref (ad 0))]) hx hb dX5_writeDay_9 rfl hl (by decide) rfl (fun ls hl => ?_)
  exact n_10 FU 0 M22 H locs ls (lv_sub hl [1, 0] rfl) hw hF
theorem c_X5_writeDay (l : Launch) (x : SX) (D : va_G) (cy : Nat → ClassId) (ad : Nat → Nat) (sz : Nat) (M : Mem) (z : Int32) (M' : Mem) (hF : f_X5_writeDay M = some (z, M')) : Met l yX5_writeDay (.code yX5_writeDay cX5_writeDay 2 (some .int) :: GB) ({ frames := 2, cells := 0, slots := 0, locals := 45 } : Room) (PcW D cy ad x sz M [.ref (ad 0)]) (QiW D cy ad sz z M') 0 0 (AA ad sz) := by
  refine mk_m (own := RX5) (by decide) rfl (Nat.le_of_ble_eq_true rfl) ?_
  intro p e s m args below meth c ls fx hw hl hsz
  subst hsz
  exact b_X5_writeDay fx ⟨Nat.le_refl _, Nat.le_refl _, Nat.le_refl _, Nat.le_refl _⟩ M z M' hF (fun pc ls H locs v M1 hd hw h => by cases h; exact g_iret fx hw rfl hd) _ _ ls hl hw
noncomputable def f_X5_writtenByte_15 : Mem → Option (Nat × Int32 × Mem) := fun M => (some (1, 0, M))
noncomputable def f_X5_writtenByte (p1 : Int32) (M : Mem) : Option (Nat × Int32 × Mem) := (if p1 < 0 then ((f_X5_writtenByte_15) M) else (if p1 < (M 5 1) then (chk (inB p1 119) (some (0, (M 6 (ix p1)), M))) else ((f_X5_writtenByte_15) M)))
set_option maxHeartbeats 4000000 in
set_option maxRecDepth 100000 in
theorem b_X5_writtenByte {p : Program} {l : Launch} {e : Env} {R : Room} {s : State} {m : MethodId} {args : Array Value} {below : List Frame} {meth : Method} {c : Code} {Q : State → Prop} {D : va_G} {cy : Nat → ClassId} {ad : Nat → Nat} {x : SX} (fx : FX p s m args meth c cX5_writtenByte 2 (some .int) RX5 D cy ad x) (hR : 6 ≤ R.frames ∧ 90 ≤ R.locals ∧ 1 ≤ R.cells ∧ 6 ≤ R.slots) (p1 : Int32) (M : Mem) (ee : Nat) (z : Int32) (M' : Mem) (hF : f_X5_writtenByte p1 M = some (ee, z, M')) {Qc : Array Value → State → Outcome → State → Prop} (hl9 : l.stackTraces = false) (htab : ∀ z ∈ c.exceptionTable.toList, False) (hQ : Q = vx_MQ below Qc (XXW D cy ad s.heap.size ee M') args s 1 6 (AA ad s.heap.size)) (E : ∀ (pc : Nat) (ls : Array Slot) (H : Heap) (locs : List Loc) (v : Int32) (M1 : Mem), decode cX5_writtenByte pc = .ok (.ireturn, 1) → WD D cy ad s M1 H locs → some ((0 : Nat), v, M1) = some (ee, z, M') → W p l e R s m args below meth c H locs 1 6 Q (F0 m pc ls [.int v])) (H : Heap) (locs : List Loc) (ls : Array Slot) (hl : lv_has ls 2 [(0, .ref (ad 0)), (1, .int p1)]) (hw : WD D cy ad s M H locs) : W p l e R s m args below meth c H locs 0 0 Q (F0 m 0 ls []) := by
  have hx := fx.1.1
  have hb := fx.1.2.1
  have hown := fx.1.2.2.2.1
  have hts := fx.1.2.2.2.2
  have n_15 : ∀ (M : Mem) (H : Heap) (locs : List Loc) (ls : Array Slot), lv_has ls 2 [] → WD D cy ad s M H locs → f_X5_writtenByte_15 M = some (ee, z, M') → W p l e R s m args below meth c H locs 0 0 Q (F0 m 15 ls []) := by
    intro M H locs ls hl hw hF
    unfold f_X5_writtenByte_15 at hF
    rw [hQ]
    exact g_throwSW (k := 1) (i := 7) fx hl9 htab hw hF (by decide) (by decide) (by decide) wd4_5 wd1_21 rfl xa_1 xb_1 xg_1 hl.1 dX5_writtenByte_15 dX5_writtenByte_18 dX5_writtenByte_19 dX5_writtenByte_22 dX5_writtenByte_25 (Nat.le_trans (Nat.le_of_ble_eq_true rfl) hR.1) (Nat.le_trans (Nat.le_of_ble_eq_true rfl) hR.2.1) (Nat.le_trans (Nat.le_of_ble_eq_true rfl) hR.2.2.1) (Nat.le_trans (Nat.le_of_ble_eq_true rfl) hR.2.2.2) (Nat.le_of_ble_eq_true rfl) (Nat.le_of_ble_eq_true rfl)
  unfold f_X5_writtenByte at hF
  refine lv_iload_n hx hb dX5_writtenByte_0 rfl (lv_at hl 1 rfl) ?_
  refine lv_if_lt (tgt := 15) hx hb dX5_writtenByte_1 (by decide) (fun hc1 => ?_) (fun hc1 => ?_)
  · replace hF := st_t hc1 hF
    exact n_15 M H locs ls (lv_sub hl [] rfl) hw hF
  · replace hF := st_f hc1 hF
    refine lv_iload_n hx hb dX5_writtenByte_4 rfl (lv_at hl 1 rfl) ?_
    refine lv_aload_n hx hb dX5_writtenByte_5 rfl (lv_at hl 0 rfl) ?_
    refine gX5_get fx hw isO_0 3 (by decide) wd1_208 rfl dX5_writtenByte_6 ?_
    refine gX4_get fx hw isO_5 1 (by decide) wd1_199 rfl dX5_writtenByte_9 ?_
    refine lv_icmp_lt (tgt := 26) hx hb dX5_writtenByte_12 (by decide) (fun hc12 => ?_) (fun hc12 => ?_)
    · replace hF := st_t hc12 hF
      refine lv_aload_n hx hb dX5_writtenByte_26 rfl (lv_at hl 0 rfl) ?_
      refine gX5_get fx hw isO_0 3 (by decide) wd1_208 rfl dX5_writtenByte_27 ?_
      refine gX4_get fx hw isO_5 0 (by decide) wd1_197 rfl dX5_writtenByte_30 ?_
      refine lv_iload_n hx hb dX5_writtenByte_33 rfl (lv_at hl 1 rfl) ?_
      obtain ⟨hi3, hF⟩ := st_chk hF
      refine g_iald fx hw isA_6 hi3 dX5_writtenByte_34 ?_
      refine W.widen (k := 1) (n := 6) (Nat.le_of_ble_eq_true rfl) (Nat.le_of_ble_eq_true rfl) ?_
      exact E _ _ _ _ _ _ dX5_writtenByte_35 hw hF
    · replace hF := st_f hc12 hF
      exact n_15 M H locs ls (lv_sub hl [] rfl) hw hF
theorem c_X5_writtenByte (l : Launch) (x : SX) (D : va_G) (cy : Nat → ClassId) (ad : Nat → Nat) (p1 : Int32) (sz : Nat) (M : Mem) (ee : Nat) (z : Int32) (M' : Mem) (hl9 : l.stackTraces = false) (hF : f_X5_writtenByte p1 M = some (ee, z, M')) : vx_Met l yX5_writtenByte (.code yX5_writtenByte cX5_writtenByte 2 (some .int) :: GB) ({ frames := 6, cells := 1, slots := 6, locals := 90 } : Room) (PcW D cy ad x sz M [.ref (ad 0), .int p1]) (QxiW D cy ad sz ee z M') (XXW D cy ad sz ee M') 1 6 (AA ad sz) := by
  refine mk_x (own := RX5) (by decide) rfl (Nat.le_of_ble_eq_true rfl) ?_
  intro p e s m args below meth c ls fx htab hw hl hsz
  subst hsz
  exact b_X5_writtenByte fx ⟨Nat.le_refl _, Nat.le_refl _, Nat.le_refl _, Nat.le_refl _⟩ p1 M ee z M' hF hl9 htab rfl (fun pc ls H locs v M1 hd hw h => g_xiret fx hw h hd) _ _ ls hl hw
