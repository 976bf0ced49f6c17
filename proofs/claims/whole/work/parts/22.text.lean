theorem wd1_179 : Cond.fieldLink RX0 11 RX0 (TX0 0).2.1 (TX0 0).2.2.1 ∈ GB := gb_1 179 rfl rfl
theorem wd1_180 : Cond.fieldLink RX0 18 RX0 (TX0 1).2.1 (TX0 1).2.2.1 ∈ GB := gb_1 180 rfl rfl
theorem wd1_181 : Cond.fieldLink RX0 22 RX0 (TX0 2).2.1 (TX0 2).2.2.1 ∈ GB := gb_1 181 rfl rfl
theorem wd3_36 : Cond.methodLink RX0 25 yX1_copyFrom ∈ GB := gb_3 36 rfl rfl
theorem wd3_37 : Cond.instanceMethod yX1_copyFrom ∈ GB := gb_3 37 rfl rfl
theorem wd3_38 : Cond.selects RX1 yX1_copyFrom yX1_copyFrom ∈ GB := gb_3 38 rfl rfl
theorem wd3_39 : Cond.code yX1_copyFrom cX1_copyFrom 2 none ∈ GB := gb_3 39 rfl rfl
theorem yd_X1_copyFrom : yX1_copyFrom.cls ≠ "java/lang/invoke/MethodHandle" ∧ yX1_copyFrom.cls ≠ "java/lang/invoke/VarHandle" ∧ (parseMethodDescriptor yX1_copyFrom.desc).map (fun d => d.parameters.length) = some 1 := by decide +kernel
theorem wd1_198 : Cond.fieldLink RX4 15 RX4 (TX4 1).2.1 (TX4 1).2.2.1 ∈ GB := gb_1 198 rfl rfl
theorem wd1_196 : Cond.fieldLink RX4 11 RX4 (TX4 0).2.1 (TX4 0).2.2.1 ∈ GB := gb_1 196 rfl rfl
theorem wd4_227 : Cond.methodLink RX4 19 yX2_letterAt ∈ GB := gb_4 227 rfl rfl
theorem wd3_110 : Cond.methodLink RX4 25 yX4_addByte ∈ GB := gb_3 110 rfl rfl
theorem wd3_103 : Cond.instanceMethod yX4_addByte ∈ GB := gb_3 103 rfl rfl
theorem wd3_104 : Cond.selects RX4 yX4_addByte yX4_addByte ∈ GB := gb_3 104 rfl rfl
theorem wd1_7 : Cond.initialized RX4 ∈ GB := gb_1 7 rfl rfl
theorem wd3_105 : Cond.code yX4_addByte cX4_addByte 2 none ∈ GB := gb_3 105 rfl rfl
theorem yd_X4_addByte : yX4_addByte.cls ≠ "java/lang/invoke/MethodHandle" ∧ yX4_addByte.cls ≠ "java/lang/invoke/VarHandle" ∧ (parseMethodDescriptor yX4_addByte.desc).map (fun d => d.parameters.length) = some 1 := by decide +kernel
theorem wd1_64 : Cond.fieldLink RX4 29 RX1 (TX1 13).2.1 (TX1 13).2.2.1 ∈ GB := gb_1 64 rfl rfl
theorem wd4_232 : Cond.methodLink RX4 34 yX1_isMember ∈ GB := gb_4 232 rfl rfl
theorem wd1_53 : Cond.fieldLink RX4 38 RX1 (TX1 8).2.1 (TX1 8).2.2.1 ∈ GB := gb_1 53 rfl rfl
theorem wd4_233 : Cond.methodLink RX4 41 yX4_addName ∈ GB := gb_4 233 rfl rfl
theorem wd4_224 : Cond.instanceMethod yX4_addName ∈ GB := gb_4 224 rfl rfl
theorem wd4_225 : Cond.selects RX4 yX4_addName yX4_addName ∈ GB := gb_4 225 rfl rfl
theorem wd4_226 : Cond.code yX4_addName cX4_addName 4 none ∈ GB := gb_4 226 rfl rfl
theorem yd_X4_addName : yX4_addName.cls ≠ "java/lang/invoke/MethodHandle" ∧ yX4_addName.cls ≠ "java/lang/invoke/VarHandle" ∧ (parseMethodDescriptor yX4_addName.desc).map (fun d => d.parameters.length) = some 1 := by decide +kernel
theorem wd1_148 : Cond.fieldLink RX3 26 RX3 (TX3 2).2.1 (TX3 2).2.2.1 ∈ GB := gb_1 148 rfl rfl
theorem wd1_144 : Cond.fieldLink RX3 9 RX3 (TX3 0).2.1 (TX3 0).2.2.1 ∈ GB := gb_1 144 rfl rfl
theorem wd1_154 : Cond.fieldLink RX3 29 RX3 (TX3 6).2.1 (TX3 6).2.2.1 ∈ GB := gb_1 154 rfl rfl
theorem wd1_153 : Cond.fieldLink RX3 54 RX3 (TX3 5).2.1 (TX3 5).2.2.1 ∈ GB := gb_1 153 rfl rfl
theorem wd2_11 : Cond.methodLink RX3 63 yJ0_length_8abf5 ∈ GB := gb_2 11 rfl rfl
theorem wd2_12 : Cond.instanceMethod yJ0_length_8abf5 ∈ GB := gb_2 12 rfl rfl
theorem wd2_13 : Cond.selects RJ0 yJ0_length_8abf5 yJ0_length_8abf5 ∈ GB := gb_2 13 rfl rfl
theorem wd2_14 : Cond.code yJ0_length_8abf5 cJ0_length_8abf5 1 (some .int) ∈ GB := gb_2 14 rfl rfl
theorem yd_J0_length_8abf5 : yJ0_length_8abf5.cls ≠ "java/lang/invoke/MethodHandle" ∧ yJ0_length_8abf5.cls ≠ "java/lang/invoke/VarHandle" ∧ (parseMethodDescriptor yJ0_length_8abf5.desc).map (fun d => d.parameters.length) = some 0 := by decide +kernel
theorem wd2_21 : Cond.methodLink RX3 68 yJ0_charAt_5068e ∈ GB := gb_2 21 rfl rfl
theorem wd2_22 : Cond.instanceMethod yJ0_charAt_5068e ∈ GB := gb_2 22 rfl rfl
theorem wd2_23 : Cond.selects RJ0 yJ0_charAt_5068e yJ0_charAt_5068e ∈ GB := gb_2 23 rfl rfl
theorem wd2_24 : Cond.code yJ0_charAt_5068e cJ0_charAt_5068e 2 (some .char) ∈ GB := gb_2 24 rfl rfl
theorem yd_J0_charAt_5068e : yJ0_charAt_5068e.cls ≠ "java/lang/invoke/MethodHandle" ∧ yJ0_charAt_5068e.cls ≠ "java/lang/invoke/VarHandle" ∧ (parseMethodDescriptor yJ0_charAt_5068e.desc).map (fun d => d.parameters.length) = some 1 := by decide +kernel
theorem wd2_7 : Cond.methodLink RX3 72 yX3_isWord ∈ GB := gb_2 7 rfl rfl
theorem wd2_9 : Cond.instanceMethod yX3_isWord ∈ GB := gb_2 9 rfl rfl
theorem wd0_3 : Cond.selects RX3 yX3_isWord yX3_isWord ∈ GB := gb_0 3 rfl rfl
theorem wd1_5 : Cond.initialized RX3 ∈ GB := gb_1 5 rfl rfl
theorem wd2_10 : Cond.code yX3_isWord cX3_isWord 3 (some .boolean) ∈ GB := gb_2 10 rfl rfl
theorem yd_X3_isWord : yX3_isWord.cls ≠ "java/lang/invoke/MethodHandle" ∧ yX3_isWord.cls ≠ "java/lang/invoke/VarHandle" ∧ (parseMethodDescriptor yX3_isWord.desc).map (fun d => d.parameters.length) = some 1 := by decide +kernel
theorem wd1_234 : Cond.methodLink RX3 35 yX3_nextToken ∈ GB := gb_1 234 rfl rfl
theorem wd1_236 : Cond.instanceMethod yX3_nextToken ∈ GB := gb_1 236 rfl rfl
theorem wd0_0 : Cond.selects RX3 yX3_nextToken yX3_nextToken ∈ GB := gb_0 0 rfl rfl
theorem wd1_237 : Cond.code yX3_nextToken cX3_nextToken 2 none ∈ GB := gb_1 237 rfl rfl
theorem yd_X3_nextToken : yX3_nextToken.cls ≠ "java/lang/invoke/MethodHandle" ∧ yX3_nextToken.cls ≠ "java/lang/invoke/VarHandle" ∧ (parseMethodDescriptor yX3_nextToken.desc).map (fun d => d.parameters.length) = some 0 := by decide +kernel
theorem wd1_150 : Cond.fieldLink RX3 60 RX3 (TX3 3).2.1 (TX3 3).2.2.1 ∈ GB := gb_1 150 rfl rfl
theorem wd1_151 : Cond.fieldLink RX3 22 RX3 (TX3 4).2.1 (TX3 4).2.2.1 ∈ GB := gb_1 151 rfl rfl
theorem wd2_63 : Cond.methodLink RX3 76 yX3_firstByte ∈ GB := gb_2 63 rfl rfl
theorem wd2_65 : Cond.instanceMethod yX3_firstByte ∈ GB := gb_2 65 rfl rfl
theorem wd0_5 : Cond.selects RX3 yX3_firstByte yX3_firstByte ∈ GB := gb_0 5 rfl rfl
theorem wd2_66 : Cond.code yX3_firstByte cX3_firstByte 1 (some .int) ∈ GB := gb_2 66 rfl rfl
theorem yd_X3_firstByte : yX3_firstByte.cls ≠ "java/lang/invoke/MethodHandle" ∧ yX3_firstByte.cls ≠ "java/lang/invoke/VarHandle" ∧ (parseMethodDescriptor yX3_firstByte.desc).map (fun d => d.parameters.length) = some 0 := by decide +kernel
theorem wd2_67 : Cond.methodLink RX3 79 yX3_fail ∈ GB := gb_2 67 rfl rfl
theorem wd2_69 : Cond.instanceMethod yX3_fail ∈ GB := gb_2 69 rfl rfl
theorem wd0_6 : Cond.selects RX3 yX3_fail yX3_fail ∈ GB := gb_0 6 rfl rfl
theorem wd2_70 : Cond.code yX3_fail cX3_fail 2 (some .boolean) ∈ GB := gb_2 70 rfl rfl
theorem yd_X3_fail : yX3_fail.cls ≠ "java/lang/invoke/MethodHandle" ∧ yX3_fail.cls ≠ "java/lang/invoke/VarHandle" ∧ (parseMethodDescriptor yX3_fail.desc).map (fun d => d.parameters.length) = some 1 := by decide +kernel
theorem wd2_71 : Cond.methodLink RX3 83 Lib.Math.min.name ∈ GB := gb_2 71 rfl rfl
theorem wd2_3 : Cond.methodLink RX3 110 yX3_takeWord ∈ GB := gb_2 3 rfl rfl
theorem wd2_5 : Cond.instanceMethod yX3_takeWord ∈ GB := gb_2 5 rfl rfl
theorem wd0_2 : Cond.selects RX3 yX3_takeWord yX3_takeWord ∈ GB := gb_0 2 rfl rfl
theorem wd2_6 : Cond.code yX3_takeWord cX3_takeWord 2 (some .boolean) ∈ GB := gb_2 6 rfl rfl
theorem yd_X3_takeWord : yX3_takeWord.cls ≠ "java/lang/invoke/MethodHandle" ∧ yX3_takeWord.cls ≠ "java/lang/invoke/VarHandle" ∧ (parseMethodDescriptor yX3_takeWord.desc).map (fun d => d.parameters.length) = some 1 := by decide +kernel
theorem wd2_59 : Cond.methodLink RX3 113 yX3_takeNumber ∈ GB := gb_2 59 rfl rfl
theorem wd2_61 : Cond.instanceMethod yX3_takeNumber ∈ GB := gb_2 61 rfl rfl
theorem wd0_4 : Cond.selects RX3 yX3_takeNumber yX3_takeNumber ∈ GB := gb_0 4 rfl rfl
theorem wd2_62 : Cond.code yX3_takeNumber cX3_takeNumber 5 (some .int) ∈ GB := gb_2 62 rfl rfl
theorem yd_X3_takeNumber : yX3_takeNumber.cls ≠ "java/lang/invoke/MethodHandle" ∧ yX3_takeNumber.cls ≠ "java/lang/invoke/VarHandle" ∧ (parseMethodDescriptor yX3_takeNumber.desc).map (fun d => d.parameters.length) = some 2 := by decide +kernel
theorem wd1_145 : Cond.fieldLink RX3 18 RX3 (TX3 1).2.1 (TX3 1).2.2.1 ∈ GB := gb_1 145 rfl rfl
theorem wd1_68 : Cond.fieldLink RX3 116 RX1 (TX1 14).2.1 (TX1 14).2.2.1 ∈ GB := gb_1 68 rfl rfl
theorem wd2_74 : Cond.methodLink RX3 118 yX3_takeSemicolon ∈ GB := gb_2 74 rfl rfl
theorem wd2_76 : Cond.instanceMethod yX3_takeSemicolon ∈ GB := gb_2 76 rfl rfl
theorem wd0_7 : Cond.selects RX3 yX3_takeSemicolon yX3_takeSemicolon ∈ GB := gb_0 7 rfl rfl
theorem wd2_77 : Cond.code yX3_takeSemicolon cX3_takeSemicolon 1 (some .boolean) ∈ GB := gb_2 77 rfl rfl
theorem yd_X3_takeSemicolon : yX3_takeSemicolon.cls ≠ "java/lang/invoke/MethodHandle" ∧ yX3_takeSemicolon.cls ≠ "java/lang/invoke/VarHandle" ∧ (parseMethodDescriptor yX3_takeSemicolon.desc).map (fun d => d.parameters.length) = some 0 := by decide +kernel
theorem wd1_71 : Cond.fieldLink RX3 123 RX1 (TX1 15).2.1 (TX1 15).2.2.1 ∈ GB := gb_1 71 rfl rfl
theorem wd2_96 : Cond.methodLink RX3 91 yX2_with ∈ GB := gb_2 96 rfl rfl
theorem wd2_92 : Cond.methodLink RX3 94 yX3_nameHere ∈ GB := gb_2 92 rfl rfl
theorem wd2_94 : Cond.instanceMethod yX3_nameHere ∈ GB := gb_2 94 rfl rfl
theorem wd0_11 : Cond.selects RX3 yX3_nameHere yX3_nameHere ∈ GB := gb_0 11 rfl rfl
theorem wd2_95 : Cond.code yX3_nameHere cX3_nameHere 3 (some .int) ∈ GB := gb_2 95 rfl rfl
theorem yd_X3_nameHere : yX3_nameHere.cls ≠ "java/lang/invoke/MethodHandle" ∧ yX3_nameHere.cls ≠ "java/lang/invoke/VarHandle" ∧ (parseMethodDescriptor yX3_nameHere.desc).map (fun d => d.parameters.length) = some 0 := by decide +kernel
theorem wd2_97 : Cond.methodLink RX3 101 yX1_needNamed ∈ GB := gb_2 97 rfl rfl
theorem wd2_98 : Cond.instanceMethod yX1_needNamed ∈ GB := gb_2 98 rfl rfl
theorem wd2_99 : Cond.selects RX1 yX1_needNamed yX1_needNamed ∈ GB := gb_2 99 rfl rfl
theorem wd2_100 : Cond.code yX1_needNamed cX1_needNamed 3 (some .int) ∈ GB := gb_2 100 rfl rfl
theorem yd_X1_needNamed : yX1_needNamed.cls ≠ "java/lang/invoke/MethodHandle" ∧ yX1_needNamed.cls ≠ "java/lang/invoke/VarHandle" ∧ (parseMethodDescriptor yX1_needNamed.desc).map (fun d => d.parameters.length) = some 1 := by decide +kernel
theorem wd2_101 : Cond.methodLink RX3 130 yX1_addNeed ∈ GB := gb_2 101 rfl rfl
theorem wd2_88 : Cond.methodLink RX3 127 yX3_readNeed ∈ GB := gb_2 88 rfl rfl
theorem wd2_90 : Cond.instanceMethod yX3_readNeed ∈ GB := gb_2 90 rfl rfl
theorem wd0_10 : Cond.selects RX3 yX3_readNeed yX3_readNeed ∈ GB := gb_0 10 rfl rfl
theorem wd2_91 : Cond.code yX3_readNeed cX3_readNeed 3 (some .boolean) ∈ GB := gb_2 91 rfl rfl
theorem yd_X3_readNeed : yX3_readNeed.cls ≠ "java/lang/invoke/MethodHandle" ∧ yX3_readNeed.cls ≠ "java/lang/invoke/VarHandle" ∧ (parseMethodDescriptor yX3_readNeed.desc).map (fun d => d.parameters.length) = some 0 := by decide +kernel
theorem wd2_125 : Cond.methodLink RX3 104 yX1_isMember ∈ GB := gb_2 125 rfl rfl
theorem wd2_117 : Cond.methodLink RX3 97 yX1_monkNamed ∈ GB := gb_2 117 rfl rfl
theorem wd2_118 : Cond.instanceMethod yX1_monkNamed ∈ GB := gb_2 118 rfl rfl
theorem wd2_119 : Cond.selects RX1 yX1_monkNamed yX1_monkNamed ∈ GB := gb_2 119 rfl rfl
theorem wd2_120 : Cond.code yX1_monkNamed cX1_monkNamed 3 (some .int) ∈ GB := gb_2 120 rfl rfl
theorem yd_X1_monkNamed : yX1_monkNamed.cls ≠ "java/lang/invoke/MethodHandle" ∧ yX1_monkNamed.cls ≠ "java/lang/invoke/VarHandle" ∧ (parseMethodDescriptor yX1_monkNamed.desc).map (fun d => d.parameters.length) = some 1 := by decide +kernel
theorem wd2_121 : Cond.methodLink RX3 146 yX3_takeNeed ∈ GB := gb_2 121 rfl rfl
theorem wd2_123 : Cond.instanceMethod yX3_takeNeed ∈ GB := gb_2 123 rfl rfl
theorem wd0_15 : Cond.selects RX3 yX3_takeNeed yX3_takeNeed ∈ GB := gb_0 15 rfl rfl
theorem wd2_124 : Cond.code yX3_takeNeed cX3_takeNeed 4 (some .int) ∈ GB := gb_2 124 rfl rfl
theorem yd_X3_takeNeed : yX3_takeNeed.cls ≠ "java/lang/invoke/MethodHandle" ∧ yX3_takeNeed.cls ≠ "java/lang/invoke/VarHandle" ∧ (parseMethodDescriptor yX3_takeNeed.desc).map (fun d => d.parameters.length) = some 1 := by decide +kernel
theorem wd2_128 : Cond.methodLink RX3 149 yX1_addMonk ∈ GB := gb_2 128 rfl rfl
theorem wd2_106 : Cond.methodLink RX3 134 yX3_rankHere ∈ GB := gb_2 106 rfl rfl
theorem wd2_108 : Cond.instanceMethod yX3_rankHere ∈ GB := gb_2 108 rfl rfl
theorem wd0_13 : Cond.selects RX3 yX3_rankHere yX3_rankHere ∈ GB := gb_0 13 rfl rfl
theorem wd2_109 : Cond.code yX3_rankHere cX3_rankHere 1 (some .int) ∈ GB := gb_2 109 rfl rfl
theorem yd_X3_rankHere : yX3_rankHere.cls ≠ "java/lang/invoke/MethodHandle" ∧ yX3_rankHere.cls ≠ "java/lang/invoke/VarHandle" ∧ (parseMethodDescriptor yX3_rankHere.desc).map (fun d => d.parameters.length) = some 0 := by decide +kernel
theorem wd2_113 : Cond.methodLink RX3 137 yX3_readMonk ∈ GB := gb_2 113 rfl rfl
theorem wd2_115 : Cond.instanceMethod yX3_readMonk ∈ GB := gb_2 115 rfl rfl
theorem wd0_14 : Cond.selects RX3 yX3_readMonk yX3_readMonk ∈ GB := gb_0 14 rfl rfl
theorem wd2_116 : Cond.code yX3_readMonk cX3_readMonk 6 (some .boolean) ∈ GB := gb_2 116 rfl rfl
theorem yd_X3_readMonk : yX3_readMonk.cls ≠ "java/lang/invoke/MethodHandle" ∧ yX3_readMonk.cls ≠ "java/lang/invoke/VarHandle" ∧ (parseMethodDescriptor yX3_readMonk.desc).map (fun d => d.parameters.length) = some 1 := by decide +kernel
theorem wd1_58 : Cond.fieldLink RX3 160 RX1 (TX1 10).2.1 (TX1 10).2.2.1 ∈ GB := gb_1 58 rfl rfl
theorem wd2_134 : Cond.methodLink RX3 155 yX3_readBell ∈ GB := gb_2 134 rfl rfl
theorem wd2_136 : Cond.instanceMethod yX3_readBell ∈ GB := gb_2 136 rfl rfl
theorem wd0_17 : Cond.selects RX3 yX3_readBell yX3_readBell ∈ GB := gb_0 17 rfl rfl
theorem wd2_137 : Cond.code yX3_readBell cX3_readBell 2 (some .boolean) ∈ GB := gb_2 137 rfl rfl
theorem yd_X3_readBell : yX3_readBell.cls ≠ "java/lang/invoke/MethodHandle" ∧ yX3_readBell.cls ≠ "java/lang/invoke/VarHandle" ∧ (parseMethodDescriptor yX3_readBell.desc).map (fun d => d.parameters.length) = some 0 := by decide +kernel
theorem wd2_149 : Cond.methodLink RX3 185 yX3_takeMonk ∈ GB := gb_2 149 rfl rfl
theorem wd2_151 : Cond.instanceMethod yX3_takeMonk ∈ GB := gb_2 151 rfl rfl
theorem wd0_20 : Cond.selects RX3 yX3_takeMonk yX3_takeMonk ∈ GB := gb_0 20 rfl rfl
theorem wd2_152 : Cond.code yX3_takeMonk cX3_takeMonk 4 (some .int) ∈ GB := gb_2 152 rfl rfl
theorem yd_X3_takeMonk : yX3_takeMonk.cls ≠ "java/lang/invoke/MethodHandle" ∧ yX3_takeMonk.cls ≠ "java/lang/invoke/VarHandle" ∧ (parseMethodDescriptor yX3_takeMonk.desc).map (fun d => d.parameters.length) = some 1 := by decide +kernel
theorem wd2_153 : Cond.methodLink RX3 188 yX1_wantRefusal ∈ GB := gb_2 153 rfl rfl
theorem wd2_154 : Cond.instanceMethod yX1_wantRefusal ∈ GB := gb_2 154 rfl rfl
theorem wd2_155 : Cond.selects RX1 yX1_wantRefusal yX1_wantRefusal ∈ GB := gb_2 155 rfl rfl
theorem wd2_156 : Cond.code yX1_wantRefusal cX1_wantRefusal 3 (some .int) ∈ GB := gb_2 156 rfl rfl
theorem yd_X1_wantRefusal : yX1_wantRefusal.cls ≠ "java/lang/invoke/MethodHandle" ∧ yX1_wantRefusal.cls ≠ "java/lang/invoke/VarHandle" ∧ (parseMethodDescriptor yX1_wantRefusal.desc).map (fun d => d.parameters.length) = some 2 := by decide +kernel
theorem wd2_158 : Cond.methodLink RX3 191 yX3_takeEndOfDeed ∈ GB := gb_2 158 rfl rfl
theorem wd2_160 : Cond.instanceMethod yX3_takeEndOfDeed ∈ GB := gb_2 160 rfl rfl
theorem wd0_21 : Cond.selects RX3 yX3_takeEndOfDeed yX3_takeEndOfDeed ∈ GB := gb_0 21 rfl rfl
theorem wd2_161 : Cond.code yX3_takeEndOfDeed cX3_takeEndOfDeed 2 (some .boolean) ∈ GB := gb_2 161 rfl rfl
theorem yd_X3_takeEndOfDeed : yX3_takeEndOfDeed.cls ≠ "java/lang/invoke/MethodHandle" ∧ yX3_takeEndOfDeed.cls ≠ "java/lang/invoke/VarHandle" ∧ (parseMethodDescriptor yX3_takeEndOfDeed.desc).map (fun d => d.parameters.length) = some 1 := by decide +kernel
theorem wd2_162 : Cond.methodLink RX3 194 yX1_addWant ∈ GB := gb_2 162 rfl rfl
theorem wd2_163 : Cond.instanceMethod yX1_addWant ∈ GB := gb_2 163 rfl rfl
theorem wd2_164 : Cond.selects RX1 yX1_addWant yX1_addWant ∈ GB := gb_2 164 rfl rfl
theorem wd2_165 : Cond.code yX1_addWant cX1_addWant 3 (some .int) ∈ GB := gb_2 165 rfl rfl
theorem yd_X1_addWant : yX1_addWant.cls ≠ "java/lang/invoke/MethodHandle" ∧ yX1_addWant.cls ≠ "java/lang/invoke/VarHandle" ∧ (parseMethodDescriptor yX1_addWant.desc).map (fun d => d.parameters.length) = some 2 := by decide +kernel
theorem wd2_177 : Cond.methodLink RX3 197 yX3_wayHere ∈ GB := gb_2 177 rfl rfl
theorem wd2_179 : Cond.instanceMethod yX3_wayHere ∈ GB := gb_2 179 rfl rfl
theorem wd0_23 : Cond.selects RX3 yX3_wayHere yX3_wayHere ∈ GB := gb_0 23 rfl rfl
theorem wd2_180 : Cond.code yX3_wayHere cX3_wayHere 1 (some .int) ∈ GB := gb_2 180 rfl rfl
theorem yd_X3_wayHere : yX3_wayHere.cls ≠ "java/lang/invoke/MethodHandle" ∧ yX3_wayHere.cls ≠ "java/lang/invoke/VarHandle" ∧ (parseMethodDescriptor yX3_wayHere.desc).map (fun d => d.parameters.length) = some 0 := by decide +kernel
theorem wd2_184 : Cond.methodLink RX3 200 yX1_tellRefusal ∈ GB := gb_2 184 rfl rfl
theorem wd2_217 : Cond.methodLink RX3 204 yX1_tellNeed ∈ GB := gb_2 217 rfl rfl
theorem wd2_218 : Cond.instanceMethod yX1_tellNeed ∈ GB := gb_2 218 rfl rfl
theorem wd2_219 : Cond.selects RX1 yX1_tellNeed yX1_tellNeed ∈ GB := gb_2 219 rfl rfl
theorem wd2_220 : Cond.code yX1_tellNeed cX1_tellNeed 6 (some .int) ∈ GB := gb_2 220 rfl rfl
theorem yd_X1_tellNeed : yX1_tellNeed.cls ≠ "java/lang/invoke/MethodHandle" ∧ yX1_tellNeed.cls ≠ "java/lang/invoke/VarHandle" ∧ (parseMethodDescriptor yX1_tellNeed.desc).map (fun d => d.parameters.length) = some 4 := by decide +kernel
theorem wd3_7 : Cond.methodLink RX3 213 yX1_giveRefusal ∈ GB := gb_3 7 rfl rfl
theorem wd3_8 : Cond.instanceMethod yX1_giveRefusal ∈ GB := gb_3 8 rfl rfl
theorem wd3_9 : Cond.selects RX1 yX1_giveRefusal yX1_giveRefusal ∈ GB := gb_3 9 rfl rfl
theorem wd3_10 : Cond.code yX1_giveRefusal cX1_giveRefusal 4 (some .int) ∈ GB := gb_3 10 rfl rfl
theorem yd_X1_giveRefusal : yX1_giveRefusal.cls ≠ "java/lang/invoke/MethodHandle" ∧ yX1_giveRefusal.cls ≠ "java/lang/invoke/VarHandle" ∧ (parseMethodDescriptor yX1_giveRefusal.desc).map (fun d => d.parameters.length) = some 3 := by decide +kernel
theorem wd3_11 : Cond.methodLink RX3 217 yX1_giveLeave ∈ GB := gb_3 11 rfl rfl
theorem wd3_12 : Cond.instanceMethod yX1_giveLeave ∈ GB := gb_3 12 rfl rfl
theorem wd3_13 : Cond.selects RX1 yX1_giveLeave yX1_giveLeave ∈ GB := gb_3 13 rfl rfl
theorem wd3_14 : Cond.code yX1_giveLeave cX1_giveLeave 4 (some .int) ∈ GB := gb_3 14 rfl rfl
theorem yd_X1_giveLeave : yX1_giveLeave.cls ≠ "java/lang/invoke/MethodHandle" ∧ yX1_giveLeave.cls ≠ "java/lang/invoke/VarHandle" ∧ (parseMethodDescriptor yX1_giveLeave.desc).map (fun d => d.parameters.length) = some 3 := by decide +kernel
theorem wd3_20 : Cond.methodLink RX3 220 yX1_passRefusal ∈ GB := gb_3 20 rfl rfl
theorem wd3_21 : Cond.instanceMethod yX1_passRefusal ∈ GB := gb_3 21 rfl rfl
theorem wd3_22 : Cond.selects RX1 yX1_passRefusal yX1_passRefusal ∈ GB := gb_3 22 rfl rfl
theorem wd3_23 : Cond.code yX1_passRefusal cX1_passRefusal 2 (some .int) ∈ GB := gb_3 23 rfl rfl
theorem yd_X1_passRefusal : yX1_passRefusal.cls ≠ "java/lang/invoke/MethodHandle" ∧ yX1_passRefusal.cls ≠ "java/lang/invoke/VarHandle" ∧ (parseMethodDescriptor yX1_passRefusal.desc).map (fun d => d.parameters.length) = some 1 := by decide +kernel
theorem wd3_24 : Cond.methodLink RX3 223 yX1_passHours ∈ GB := gb_3 24 rfl rfl
theorem wd3_25 : Cond.instanceMethod yX1_passHours ∈ GB := gb_3 25 rfl rfl
theorem wd3_26 : Cond.selects RX1 yX1_passHours yX1_passHours ∈ GB := gb_3 26 rfl rfl
theorem wd3_27 : Cond.code yX1_passHours cX1_passHours 4 (some .int) ∈ GB := gb_3 27 rfl rfl
theorem yd_X1_passHours : yX1_passHours.cls ≠ "java/lang/invoke/MethodHandle" ∧ yX1_passHours.cls ≠ "java/lang/invoke/VarHandle" ∧ (parseMethodDescriptor yX1_passHours.desc).map (fun d => d.parameters.length) = some 1 := by decide +kernel
theorem wd3_16 : Cond.methodLink RX3 182 yX3_readWait ∈ GB := gb_3 16 rfl rfl
theorem wd3_18 : Cond.instanceMethod yX3_readWait ∈ GB := gb_3 18 rfl rfl
theorem wd0_33 : Cond.selects RX3 yX3_readWait yX3_readWait ∈ GB := gb_0 33 rfl rfl
theorem wd3_19 : Cond.code yX3_readWait cX3_readWait 2 (some .boolean) ∈ GB := gb_3 19 rfl rfl
theorem yd_X3_readWait : yX3_readWait.cls ≠ "java/lang/invoke/MethodHandle" ∧ yX3_readWait.cls ≠ "java/lang/invoke/VarHandle" ∧ (parseMethodDescriptor yX3_readWait.desc).map (fun d => d.parameters.length) = some 0 := by decide +kernel
theorem wd3_3 : Cond.methodLink RX3 177 yX3_readGive ∈ GB := gb_3 3 rfl rfl
theorem wd3_5 : Cond.instanceMethod yX3_readGive ∈ GB := gb_3 5 rfl rfl
theorem wd0_32 : Cond.selects RX3 yX3_readGive yX3_readGive ∈ GB := gb_0 32 rfl rfl
theorem wd3_6 : Cond.code yX3_readGive cX3_readGive 4 (some .boolean) ∈ GB := gb_3 6 rfl rfl
theorem yd_X3_readGive : yX3_readGive.cls ≠ "java/lang/invoke/MethodHandle" ∧ yX3_readGive.cls ≠ "java/lang/invoke/VarHandle" ∧ (parseMethodDescriptor yX3_readGive.desc).map (fun d => d.parameters.length) = some 0 := by decide +kernel
theorem wd2_173 : Cond.methodLink RX3 172 yX3_readTell ∈ GB := gb_2 173 rfl rfl
theorem wd2_175 : Cond.instanceMethod yX3_readTell ∈ GB := gb_2 175 rfl rfl
theorem wd0_22 : Cond.selects RX3 yX3_readTell yX3_readTell ∈ GB := gb_0 22 rfl rfl
theorem wd2_176 : Cond.code yX3_readTell cX3_readTell 5 (some .boolean) ∈ GB := gb_2 176 rfl rfl
theorem yd_X3_readTell : yX3_readTell.cls ≠ "java/lang/invoke/MethodHandle" ∧ yX3_readTell.cls ≠ "java/lang/invoke/VarHandle" ∧ (parseMethodDescriptor yX3_readTell.desc).map (fun d => d.parameters.length) = some 0 := by decide +kernel
theorem wd2_145 : Cond.methodLink RX3 167 yX3_readWant ∈ GB := gb_2 145 rfl rfl
theorem wd2_147 : Cond.instanceMethod yX3_readWant ∈ GB := gb_2 147 rfl rfl
theorem wd0_19 : Cond.selects RX3 yX3_readWant yX3_readWant ∈ GB := gb_0 19 rfl rfl
theorem wd2_148 : Cond.code yX3_readWant cX3_readWant 3 (some .boolean) ∈ GB := gb_2 148 rfl rfl
theorem yd_X3_readWant : yX3_readWant.cls ≠ "java/lang/invoke/MethodHandle" ∧ yX3_readWant.cls ≠ "java/lang/invoke/VarHandle" ∧ (parseMethodDescriptor yX3_readWant.desc).map (fun d => d.parameters.length) = some 0 := by decide +kernel
theorem wd1_233 : Cond.methodLink RX3 32 yX1_clear ∈ GB := gb_1 233 rfl rfl
theorem wd1_238 : Cond.methodLink RX3 38 yX3_readPaper ∈ GB := gb_1 238 rfl rfl
theorem wd2_0 : Cond.instanceMethod yX3_readPaper ∈ GB := gb_2 0 rfl rfl
theorem wd0_1 : Cond.selects RX3 yX3_readPaper yX3_readPaper ∈ GB := gb_0 1 rfl rfl
theorem wd2_1 : Cond.code yX3_readPaper cX3_readPaper 2 (some .boolean) ∈ GB := gb_2 1 rfl rfl
theorem yd_X3_readPaper : yX3_readPaper.cls ≠ "java/lang/invoke/MethodHandle" ∧ yX3_readPaper.cls ≠ "java/lang/invoke/VarHandle" ∧ (parseMethodDescriptor yX3_readPaper.desc).map (fun d => d.parameters.length) = some 0 := by decide +kernel
theorem wd2_78 : Cond.methodLink RX3 42 yX3_readGrant ∈ GB := gb_2 78 rfl rfl
theorem wd2_80 : Cond.instanceMethod yX3_readGrant ∈ GB := gb_2 80 rfl rfl
theorem wd0_8 : Cond.selects RX3 yX3_readGrant yX3_readGrant ∈ GB := gb_0 8 rfl rfl
theorem wd2_81 : Cond.code yX3_readGrant cX3_readGrant 2 (some .boolean) ∈ GB := gb_2 81 rfl rfl
theorem yd_X3_readGrant : yX3_readGrant.cls ≠ "java/lang/invoke/MethodHandle" ∧ yX3_readGrant.cls ≠ "java/lang/invoke/VarHandle" ∧ (parseMethodDescriptor yX3_readGrant.desc).map (fun d => d.parameters.length) = some 0 := by decide +kernel
theorem wd2_83 : Cond.methodLink RX3 45 yX3_readNeeds ∈ GB := gb_2 83 rfl rfl
theorem wd2_85 : Cond.instanceMethod yX3_readNeeds ∈ GB := gb_2 85 rfl rfl
theorem wd0_9 : Cond.selects RX3 yX3_readNeeds yX3_readNeeds ∈ GB := gb_0 9 rfl rfl
theorem wd2_86 : Cond.code yX3_readNeeds cX3_readNeeds 2 (some .boolean) ∈ GB := gb_2 86 rfl rfl
theorem yd_X3_readNeeds : yX3_readNeeds.cls ≠ "java/lang/invoke/MethodHandle" ∧ yX3_readNeeds.cls ≠ "java/lang/invoke/VarHandle" ∧ (parseMethodDescriptor yX3_readNeeds.desc).map (fun d => d.parameters.length) = some 0 := by decide +kernel
theorem wd2_102 : Cond.methodLink RX3 48 yX3_readMonks ∈ GB := gb_2 102 rfl rfl
theorem wd2_104 : Cond.instanceMethod yX3_readMonks ∈ GB := gb_2 104 rfl rfl
theorem wd0_12 : Cond.selects RX3 yX3_readMonks yX3_readMonks ∈ GB := gb_0 12 rfl rfl
theorem wd2_105 : Cond.code yX3_readMonks cX3_readMonks 3 (some .boolean) ∈ GB := gb_2 105 rfl rfl
theorem yd_X3_readMonks : yX3_readMonks.cls ≠ "java/lang/invoke/MethodHandle" ∧ yX3_readMonks.cls ≠ "java/lang/invoke/VarHandle" ∧ (parseMethodDescriptor yX3_readMonks.desc).map (fun d => d.parameters.length) = some 0 := by decide +kernel
theorem wd2_129 : Cond.methodLink RX3 51 yX3_readBells ∈ GB := gb_2 129 rfl rfl
theorem wd2_131 : Cond.instanceMethod yX3_readBells ∈ GB := gb_2 131 rfl rfl
theorem wd0_16 : Cond.selects RX3 yX3_readBells yX3_readBells ∈ GB := gb_0 16 rfl rfl
theorem wd2_132 : Cond.code yX3_readBells cX3_readBells 2 (some .boolean) ∈ GB := gb_2 132 rfl rfl
theorem yd_X3_readBells : yX3_readBells.cls ≠ "java/lang/invoke/MethodHandle" ∧ yX3_readBells.cls ≠ "java/lang/invoke/VarHandle" ∧ (parseMethodDescriptor yX3_readBells.desc).map (fun d => d.parameters.length) = some 0 := by decide +kernel
theorem wd2_140 : Cond.methodLink RX3 57 yX3_readDeed ∈ GB := gb_2 140 rfl rfl
theorem wd2_142 : Cond.instanceMethod yX3_readDeed ∈ GB := gb_2 142 rfl rfl
theorem wd0_18 : Cond.selects RX3 yX3_readDeed yX3_readDeed ∈ GB := gb_0 18 rfl rfl
theorem wd2_143 : Cond.code yX3_readDeed cX3_readDeed 1 (some .boolean) ∈ GB := gb_2 143 rfl rfl
theorem yd_X3_readDeed : yX3_readDeed.cls ≠ "java/lang/invoke/MethodHandle" ∧ yX3_readDeed.cls ≠ "java/lang/invoke/VarHandle" ∧ (parseMethodDescriptor yX3_readDeed.desc).map (fun d => d.parameters.length) = some 0 := by decide +kernel
noncomputable def f_X0_remember (q1 : Nat) (M : Mem) : Option Mem := (chk (inB (irem ((M 3 1) + (M 3 2)) 8) 8) (bnd (f_X1_copyFrom (44 + 13 * ix (irem ((M 3 1) + (M 3 2)) 8)) q1 M) (fun M8 => (if 8 ≤ (M8 3 2) then (letM (mput M8 3 1 (irem ((M8 3 1) + 1) 8)) (fun M9 => (some M9))) else (letM (mput M8 3 2 ((M8 3 2) + 1)) (fun M10 => (some M10)))))))
set_option maxHeartbeats 4000000 in
set_option maxRecDepth 100000 in
theorem b_X0_remember {p : Program} {l : Launch} {e : Env} {R : Room} {s : State} {m : MethodId} {args : Array Value} {below : List Frame} {meth : Method} {c : Code} {Q : State → Prop} {D : va_G} {cy : Nat → ClassId} {ad : Nat → Nat} {x : SX} (fx : FX p s m args meth c cX0_remember 2 none RX0 D cy ad x) (hR : 2 ≤ R.frames ∧ 81 ≤ R.locals ∧ 0 ≤ R.cells ∧ 0 ≤ R.slots) (q1 : Nat) (hq1 : isH q1) (M : Mem) (M' : Mem) (hF : f_X0_remember q1 M = some M') (E : ∀ (pc : Nat) (ls : Array Slot) (H : Heap) (locs : List Loc) (M1 : Mem), decode cX0_remember pc = .ok (.return_, 1) → WD D cy ad s M1 H locs → some M1 = some M' → W p l e R s m args below meth c H locs 0 0 Q (F0 m pc ls [])) (H : Heap) (locs : List Loc) (ls : Array Slot) (hl : lv_has ls 2 [(0, .ref (ad 3)), (1, .ref (ad q1))]) (hw : WD D cy ad s M H locs) : W p l e R s m args below meth c H locs 0 0 Q (F0 m 0 ls []) := by
  have hx := fx.1.1
  have hb := fx.1.2.1
  have hown := fx.1.2.2.2.1
  have hts := fx.1.2.2.2.2
  unfold f_X0_remember at hF
  refine lv_aload_n hx hb dX0_remember_0 rfl (lv_at hl 0 rfl) ?_
  refine gX0_get fx hw isO_3 0 (by decide) wd1_179 rfl dX0_remember_1 ?_
  refine lv_aload_n hx hb dX0_remember_4 rfl (lv_at hl 0 rfl) ?_
  refine gX0_get fx hw isO_3 1 (by decide) wd1_180 rfl dX0_remember_5 ?_
  refine lv_aload_n hx hb dX0_remember_8 rfl (lv_at hl 0 rfl) ?_
  refine gX0_get fx hw isO_3 2 (by decide) wd1_181 rfl dX0_remember_9 ?_
  refine lv_iadd hx hb dX0_remember_12 ?_
  refine lv_bipush (v := 8) hx hb dX0_remember_13 (by decide) ?_
  refine g_irem hx hb dX0_remember_15 (by decide) ?_
  obtain ⟨hi6, hF⟩ := st_chk hF
  refine g_aald fx hw isQ_4 hi6 dX0_remember_16 ?_
  refine lv_aload_n hx hb dX0_remember_17 rfl (lv_at hl 1 rfl) ?_
  obtain ⟨M8, hgr7, hF⟩ := st_bnd hF
  refine g_cv hw (g_runV (C := RX1) (As := [.ref (ad q1)]) (rest := []) fx hw ((isH_past (inB_lt hi6))).O rfl (c_X1_copyFrom l x D cy ad (44 + 13 * ix (irem ((M 3 1) + (M 3 2)) 8)) q1 (isH_past (inB_lt hi6)) hq1 H.size M M8 hgr7) wd3_36 wd3_37 wd3_38 wd1_2 wd3_39 yd_X1_copyFrom rfl rfl (Nat.le_of_ble_eq_true rfl) hl.1 ⟨Nat.le_trans (Nat.le_of_ble_eq_true rfl) hR.1, Nat.le_trans (Nat.le_of_ble_eq_true rfl) hR.2.1⟩ ⟨Nat.le_trans (Nat.le_of_ble_eq_true rfl) hR.2.2.1, Nat.le_trans (Nat.le_of_ble_eq_true rfl) hR.2.2.2⟩ dX0_remember_18) (fun H locs hw => ?_)
  refine lv_aload_n hx hb dX0_remember_21 rfl (lv_at hl 0 rfl) ?_
  refine gX0_get fx hw isO_3 2 (by decide) wd1_181 rfl dX0_remember_22 ?_
  refine lv_bipush (v := 8) hx hb dX0_remember_25 (by decide) ?_
  refine lv_icmp_ge (tgt := 43) hx hb dX0_remember_27 (by decide) (fun hc27 => ?_) (fun hc27 => ?_)
  · replace hF := st_t hc27 hF
    refine lv_aload_n hx hb dX0_remember_43 rfl (lv_at hl 0 rfl) ?_
    refine lv_aload_n hx hb dX0_remember_44 rfl (lv_at hl 0 rfl) ?_
    refine gX0_get fx hw isO_3 1 (by decide) wd1_180 rfl dX0_remember_45 ?_
    refine lv_iconst (v := 1) hx hb dX0_remember_48 (by decide) ?_
    refine lv_iadd hx hb dX0_remember_49 ?_
    refine lv_bipush (v := 8) hx hb dX0_remember_50 (by decide) ?_
    refine g_irem hx hb dX0_remember_52 (by decide) ?_
    obtain ⟨M9, eM9, hF⟩ := st_letM hF
    refine gX0_put fx hw isO_3 1 (by decide) wd1_180 rfl eM9 rfl (Nat.le_of_ble_eq_true rfl) dX0_remember_53 (fun H locs hw => ?_)
    exact E _ _ _ _ _ dX0_remember_56 hw hF
  · replace hF := st_f hc27 hF
    refine lv_aload_n hx hb dX0_remember_30 rfl (lv_at hl 0 rfl) ?_
    refine lv_dup hx hb dX0_remember_31 rfl ?_
    refine gX0_get fx hw isO_3 2 (by decide) wd1_181 rfl dX0_remember_32 ?_
    refine lv_iconst (v := 1) hx hb dX0_remember_35 (by decide) ?_
    refine lv_iadd hx hb dX0_remember_36 ?_
    obtain ⟨M10, eM10, hF⟩ := st_letM hF
    refine gX0_put fx hw isO_3 2 (by decide) wd1_181 rfl eM10 rfl (Nat.le_of_ble_eq_true rfl) dX0_remember_37 (fun H locs hw => ?_)
    refine lv_goto (tgt := 56) hx hb dX0_remember_40 (by decide) ?_
    exact E _ _ _ _ _ dX0_remember_56 hw hF
theorem c_X0_remember (l : Launch) (x : SX) (D : va_G) (cy : Nat → ClassId) (ad : Nat → Nat) (q1 : Nat) (hq1 : isH q1) (sz : Nat) (M : Mem) (M' : Mem) (hF : f_X0_remember q1 M = some M') : Met l yX0_remember (.code yX0_remember cX0_remember 2 none :: GB) ({ frames := 2, cells := 0, slots := 0, locals := 81 } : Room) (PcW D cy ad x sz M [.ref (ad 3), .ref (ad q1)]) (QvW D cy ad sz M') 0 0 (AA ad sz) := by
  refine mk_m (own := RX0) (by decide) rfl (Nat.le_of_ble_eq_true rfl) ?_
  intro p e s m args below meth c ls fx hw hl hsz
  subst hsz
  exact b_X0_remember fx ⟨Nat.le_refl _, Nat.le_refl _, Nat.le_refl _, Nat.le_refl _⟩ q1 hq1 M M' hF (fun pc ls H locs M1 hd hw h => by cases h; exact g_vret fx hw hd) _ _ ls hl hw
noncomputable def f_X0_bringBack (q1 : Nat) (M : Mem) : Option Mem := (if (M 3 2) ≤ 0 then (some M) else (letM (mput M 3 2 ((M 3 2) - 1)) (fun M5 => (chk (inB (irem ((M5 3 1) + (M5 3 2)) 8) 8) (bnd (f_X1_copyFrom q1 (44 + 13 * ix (irem ((M5 3 1) + (M5 3 2)) 8)) M5) (fun M8 => (some M8)))))))
set_option maxHeartbeats 4000000 in
set_option maxRecDepth 100000 in
theorem b_X0_bringBack {p : Program} {l : Launch} {e : Env} {R : Room} {s : State} {m : MethodId} {args : Array Value} {below : List Frame} {meth : Method} {c : Code} {Q : State → Prop} {D : va_G} {cy : Nat → ClassId} {ad : Nat → Nat} {x : SX} (fx : FX p s m args meth c cX0_bringBack 2 none RX0 D cy ad x) (hR : 2 ≤ R.frames ∧ 81 ≤ R.locals ∧ 0 ≤ R.cells ∧ 0 ≤ R.slots) (q1 : Nat) (hq1 : isH q1) (M : Mem) (M' : Mem) (hF : f_X0_bringBack q1 M = some M') (E : ∀ (pc : Nat) (ls : Array Slot) (H : Heap) (locs : List Loc) (M1 : Mem), decode cX0_bringBack pc = .ok (.return_, 1) → WD D cy ad s M1 H locs → some M1 = some M' → W p l e R s m args below meth c H locs 0 0 Q (F0 m pc ls [])) (H : Heap) (locs : List Loc) (ls : Array Slot) (hl : lv_has ls 2 [(0, .ref (ad 3)), (1, .ref (ad q1))]) (hw : WD D cy ad s M H locs) : W p l e R s m args below meth c H locs 0 0 Q (F0 m 0 ls []) := by
  have hx := fx.1.1
  have hb := fx.1.2.1
  have hown := fx.1.2.2.2.1
  have hts := fx.1.2.2.2.2
  unfold f_X0_bringBack at hF
  refine lv_aload_n hx hb dX0_bringBack_0 rfl (lv_at hl 0 rfl) ?_
  refine gX0_get fx hw isO_3 2 (by decide) wd1_181 rfl dX0_bringBack_1 ?_
  refine lv_if_le (tgt := 38) hx hb dX0_bringBack_4 (by decide) (fun hc4 => ?_) (fun hc4 => ?_)
  · replace hF := st_t hc4 hF
    exact E _ _ _ _ _ dX0_bringBack_38 hw hF
  · replace hF := st_f hc4 hF
    refine lv_aload_n hx hb dX0_bringBack_7 rfl (lv_at hl 0 rfl) ?_
    refine lv_dup hx hb dX0_bringBack_8 rfl ?_
    refine gX0_get fx hw isO_3 2 (by decide) wd1_181 rfl dX0_bringBack_9 ?_
    refine lv_iconst (v := 1) hx hb dX0_bringBack_12 (by decide) ?_
    refine lv_isub hx hb dX0_bringBack_13 ?_
    obtain ⟨M5, eM5, hF⟩ := st_letM hF
    refine gX0_put fx hw isO_3 2 (by decide) wd1_181 rfl eM5 rfl (Nat.le_of_ble_eq_true rfl) dX0_bringBack_14 (fun H locs hw => ?_)
    refine lv_aload_n hx hb dX0_bringBack_17 rfl (lv_at hl 1 rfl) ?_
    refine lv_aload_n hx hb dX0_bringBack_18 rfl (lv_at hl 0 rfl) ?_
    refine gX0_get fx hw isO_3 0 (by decide) wd1_179 rfl dX0_bringBack_19 ?_
    refine lv_aload_n hx hb dX0_bringBack_22 rfl (lv_at hl 0 rfl) ?_
    refine gX0_get fx hw isO_3 1 (by decide) wd1_180 rfl dX0_bringBack_23 ?_
    refine lv_aload_n hx hb dX0_bringBack_26 rfl (lv_at hl 0 rfl) ?_
    refine gX0_get fx hw isO_3 2 (by decide) wd1_181 rfl dX0_bringBack_27 ?_
    refine lv_iadd hx hb dX0_bringBack_30 ?_
    refine lv_bipush (v := 8) hx hb dX0_bringBack_31 (by decide) ?_
    refine g_irem hx hb dX0_bringBack_33 (by decide) ?_
    obtain ⟨hi6, hF⟩ := st_chk hF
    refine g_aald fx hw isQ_4 hi6 dX0_bringBack_34 ?_
    obtain ⟨M8, hgr7, hF⟩ := st_bnd hF
    refine g_cv hw (g_runV (C := RX1) (As := [.ref (ad (44 + 13 * ix (irem ((M5 3 1) + (M5 3 2)) 8)))]) (rest := []) fx hw hq1.O rfl (c_X1_copyFrom l x D cy ad q1 (44 + 13 * ix (irem ((M5 3 1) + (M5 3 2)) 8)) hq1 (isH_past (inB_lt hi6)) H.size M5 M8 hgr7) wd3_36 wd3_37 wd3_38 wd1_2 wd3_39 yd_X1_copyFrom rfl rfl (Nat.le_of_ble_eq_true rfl) hl.1 ⟨Nat.le_trans (Nat.le_of_ble_eq_true rfl) hR.1, Nat.le_trans (Nat.le_of_ble_eq_true rfl) hR.2.1⟩ ⟨Nat.le_trans (Nat.le_of_ble_eq_true rfl) hR.2.2.1, Nat.le_trans (Nat.le_of_ble_eq_true rfl) hR.2.2.2⟩ dX0_bringBack_35) (fun H locs hw => ?_)
    exact E _ _ _ _ _ dX0_bringBack_38 hw hF
theorem c_X0_bringBack (l : Launch) (x : SX) (D : va_G) (cy : Nat → ClassId) (ad : Nat → Nat) (q1 : Nat) (hq1 : isH q1) (sz : Nat) (M : Mem) (M' : Mem) (hF : f_X0_bringBack q1 M = some M') : Met l yX0_bringBack (.code yX0_bringBack cX0_bringBack 2 none :: GB) ({ frames := 2, cells := 0, slots := 0, locals := 81 } : Room) (PcW D cy ad x sz M [.ref (ad 3), .ref (ad q1)]) (QvW D cy ad sz M') 0 0 (AA ad sz) := by
  refine mk_m (own := RX0) (by decide) rfl (Nat.le_of_ble_eq_true rfl) ?_
  intro p e s m args below meth c ls fx hw hl hsz
  subst hsz
  exact b_X0_bringBack fx ⟨Nat.le_refl _, Nat.le_refl _, Nat.le_refl _, Nat.le_refl _⟩ q1 hq1 M M' hF (fun pc ls H locs M1 hd hw h => by cases h; exact g_vret fx hw hd) _ _ ls hl hw
noncomputable def f_X4_addByte (p1 : Int32) (M : Mem) : Option Mem := (if 119 ≤ (M 5 1) then (some M) else (chk (inB (M 5 1) 119) (letM (mput M 6 (ix (M 5 1)) p1) (fun M4 => (letM (mput M4 5 1 ((M4 5 1) + 1)) (fun M6 => (some M6)))))))
set_option maxHeartbeats 4000000 in
set_option maxRecDepth 100000 in
theorem b_X4_addByte {p : Program} {l : Launch} {e : Env} {R : Room} {s : State} {m : MethodId} {args : Array Value} {below : List Frame} {meth : Method} {c : Code} {Q : State → Prop} {D : va_G} {cy : Nat → ClassId} {ad : Nat → Nat} {x : SX} (fx : FX p s m args meth c cX4_addByte 2 none RX4 D cy ad x) (hR : 0 ≤ R.frames ∧ 0 ≤ R.locals ∧ 0 ≤ R.cells ∧ 0 ≤ R.slots) (p1 : Int32) (M : Mem) (M' : Mem) (hF : f_X4_addByte p1 M = some M') (E : ∀ (pc : Nat) (ls : Array Slot) (H : Heap) (locs : List Loc) (M1 : Mem), decode cX4_addByte pc = .ok (.return_, 1) → WD D cy ad s M1 H locs → some M1 = some M' → W p l e R s m args below meth c H locs 0 0 Q (F0 m pc ls [])) (H : Heap) (locs : List Loc) (ls : Array Slot) (hl : lv_has ls 2 [(0, .ref (ad 5)), (1, .int p1)]) (hw : WD D cy ad s M H locs) : W p l e R s m args below meth c H locs 0 0 Q (F0 m 0 ls []) := by
  have hx := fx.1.1
  have hb := fx.1.2.1
  have hown := fx.1.2.2.2.1
  have hts := fx.1.2.2.2.2
  unfold f_X4_addByte at hF
  refine lv_aload_n hx hb dX4_addByte_0 rfl (lv_at hl 0 rfl) ?_
  refine gX4_get fx hw isO_5 1 (by decide) wd1_198 rfl dX4_addByte_1 ?_
  refine lv_bipush (v := 119) hx hb dX4_addByte_4 (by decide) ?_
  refine lv_icmp_ge (tgt := 29) hx hb dX4_addByte_6 (by decide) (fun hc6 => ?_) (fun hc6 => ?_)
  · replace hF := st_t hc6 hF
    exact E _ _ _ _ _ dX4_addByte_29 hw hF
  · replace hF := st_f hc6 hF
    refine lv_aload_n hx hb dX4_addByte_9 rfl (lv_at hl 0 rfl) ?_
    refine gX4_get fx hw isO_5 0 (by decide) wd1_196 rfl dX4_addByte_10 ?_
    refine lv_aload_n hx hb dX4_addByte_13 rfl (lv_at hl 0 rfl) ?_
    refine gX4_get fx hw isO_5 1 (by decide) wd1_198 rfl dX4_addByte_14 ?_
    refine lv_iload_n hx hb dX4_addByte_17 rfl (lv_at hl 1 rfl) ?_
    obtain ⟨hi5, hF⟩ := st_chk hF
    obtain ⟨M4, eM4, hF⟩ := st_letM hF
    refine g_iast fx hw isA_6 hi5 eM4 dX4_addByte_18 (fun H locs hw => ?_)
    refine lv_aload_n hx hb dX4_addByte_19 rfl (lv_at hl 0 rfl) ?_
    refine lv_dup hx hb dX4_addByte_20 rfl ?_
    refine gX4_get fx hw isO_5 1 (by decide) wd1_198 rfl dX4_addByte_21 ?_
    refine lv_iconst (v := 1) hx hb dX4_addByte_24 (by decide) ?_
    refine lv_iadd hx hb dX4_addByte_25 ?_
    obtain ⟨M6, eM6, hF⟩ := st_letM hF
    refine gX4_put fx hw isO_5 1 (by decide) wd1_198 rfl eM6 rfl (Nat.le_of_ble_eq_true rfl) dX4_addByte_26 (fun H locs hw => ?_)
    exact E _ _ _ _ _ dX4_addByte_29 hw hF
theorem c_X4_addByte (l : Launch) (x : SX) (D : va_G) (cy : Nat → ClassId) (ad : Nat → Nat) (p1 : Int32) (sz : Nat) (M : Mem) (M' : Mem) (hF : f_X4_addByte p1 M = some M') : Met l yX4_addByte (.code yX4_addByte cX4_addByte 2 none :: GB) ({ frames := 0, cells := 0, slots := 0, locals := 0 } : Room) (PcW D cy ad x sz M [.ref (ad 5), .int p1]) (QvW D cy ad sz M') 0 0 (AA ad sz) := by
  refine mk_m (own := RX4) (by decide) rfl (Nat.le_of_ble_eq_true rfl) ?_
  intro p e s m args below meth c ls fx hw hl hsz
  subst hsz
  exact b_X4_addByte fx ⟨Nat.le_refl _, Nat.le_refl _, Nat.le_refl _, Nat.le_refl _⟩ p1 M M' hF (fun pc ls H locs M1 hd hw h => by cases h; exact g_vret fx hw hd) _ _ ls hl hw
noncomputable def f_X4_addName_23 (rec2 : Int32 → Int32 → Mem → Option Mem) : Int32 → Int32 → Mem → Option Mem := fun a1 a2 M => (rec2 a1 (a2 + 1) M)
noncomputable def f_X4_addName_2 (rec2 : Int32 → Int32 → Mem → Option Mem) : Int32 → Int32 → Mem → Option Mem := fun a1 a2 M => (if 6 ≤ a2 then (some M) else (bnd (f_X2_letterAt a1 a2 M) (fun r7 => (if r7 = 0 then ((f_X4_addName_23 rec2) a1 a2 M) else (bnd (f_X4_addByte r7 M) (fun M9 => ((f_X4_addName_23 rec2) a1 a2 M9)))))))
noncomputable def f_X4_addName (p1 : Int32) (M : Mem) : Option Mem := ((lp (fun _ _ _ => none) (f_X4_addName_2) FU) p1 0 M)
set_option maxHeartbeats 4000000 in
set_option maxRecDepth 100000 in
theorem b_X4_addName {p : Program} {l : Launch} {e : Env} {R : Room} {s : State} {m : MethodId} {args : Array Value} {below : List Frame} {meth : Method} {c : Code} {Q : State → Prop} {D : va_G} {cy : Nat → ClassId} {ad : Nat → Nat} {x : SX} (fx : FX p s m args meth c cX4_addName 4 none RX4 D cy ad x) (hR : 1 ≤ R.frames ∧ 22 ≤ R.locals ∧ 0 ≤ R.cells ∧ 0 ≤ R.slots) (p1 : Int32) (M : Mem) (M' : Mem) (hF : f_X4_addName p1 M = some M') (E : ∀ (pc : Nat) (ls : Array Slot) (H : Heap) (locs : List Loc) (M1 : Mem), decode cX4_addName pc = .ok (.return_, 1) → WD D cy ad s M1 H locs → some M1 = some M' → W p l e R s m args below meth c H locs 0 0 Q (F0 m pc ls [])) (H : Heap) (locs : List Loc) (ls : Array Slot) (hl : lv_has ls 4 [(0, .ref (ad 5)), (1, .int p1)]) (hw : WD D cy ad s M H locs) : W p l e R s m args below meth c H locs 0 0 Q (F0 m 0 ls []) := by
  have hx := fx.1.1
  have hb := fx.1.2.1
  have hown := fx.1.2.2.2.1
  have hts := fx.1.2.2.2.2
  have n_23 : ∀ (rec2 : Int32 → Int32 → Mem → Option Mem) (_ : ∀ (a1 : Int32) (a2 : Int32) (M : Mem) (H : Heap) (locs : List Loc) (ls : Array Slot), lv_has ls 4 [(0, .ref (ad 5)), (1, .int a1), (2, .int a2)] → WD D cy ad s M H locs → rec2 a1 a2 M = some M' → W p l e R s m args below meth c H locs 0 0 Q (F0 m 2 ls [])) , ∀ (a1 : Int32) (a2 : Int32) (M : Mem) (H : Heap) (locs : List Loc) (ls : Array Slot), lv_has ls 4 [(0, .ref (ad 5)), (1, .int a1), (2, .int a2)] → WD D cy ad s M H locs → f_X4_addName_23 rec2 a1 a2 M = some M' → W p l e R s m args below meth c H locs 0 0 Q (F0 m 23 ls []) := by
    intro rec2 hr2 a1 a2 M H locs ls hl hw hF
    unfold f_X4_addName_23 at hF
    refine lv_iinc (v := (a2 + 1)) (lv' := [(2, .int (a2 + 1)), (0, .ref (ad 5)), (1, .int a1)]) hx hb dX4_addName_23 hl (k := 2) rfl rfl (by decide) rfl (fun ls hl => ?_)
    refine lv_goto (tgt := 2) hx hb dX4_addName_26 (by decide) ?_
    exact hr2 a1 (a2 + 1) M H locs ls (lv_sub hl [1, 2, 0] rfl) hw hF
  have n_2 : ∀ (n9 : Nat), ∀ (a1 : Int32) (a2 : Int32) (M : Mem) (H : Heap) (locs : List Loc) (ls : Array Slot), lv_has ls 4 [(0, .ref (ad 5)), (1, .int a1), (2, .int a2)] → WD D cy ad s M H locs → (lp (fun _ _ _ => none) (f_X4_addName_2) n9) a1 a2 M = some M' → W p l e R s m args below meth c H locs 0 0 Q (F0 m 2 ls []) := by
    intro n9
    refine lp_ind (fun (rec2 : Int32 → Int32 → Mem → Option Mem) => ∀ (a1 : Int32) (a2 : Int32) (M : Mem) (H : Heap) (locs : List Loc) (ls : Array Slot), lv_has ls 4 [(0, .ref (ad 5)), (1, .int a1), (2, .int a2)] → WD D cy ad s M H locs → rec2 a1 a2 M = some M' → W p l e R s m args below meth c H locs 0 0 Q (F0 m 2 ls [])) ?_ ?_ n9
    · intro a1 a2 M H locs ls hl hw hF
      exact nomatch hF
    · intro rec2 hr2 a1 a2 M H locs ls hl hw hF
      unfold f_X4_addName_2 at hF
      refine lv_iload_n hx hb dX4_addName_2 rfl (lv_at hl 2 rfl) ?_
      refine lv_bipush (v := 6) hx hb dX4_addName_3 (by decide) ?_
      refine lv_icmp_ge (tgt := 29) hx hb dX4_addName_5 (by decide) (fun hc5 => ?_) (fun hc5 => ?_)
      · replace hF := st_t hc5 hF
        exact E _ _ _ _ _ dX4_addName_29 hw hF
      · replace hF := st_f hc5 hF
        refine lv_iload_n hx hb dX4_addName_8 rfl (lv_at hl 1 rfl) ?_
        refine lv_iload_n hx hb dX4_addName_9 rfl (lv_at hl 2 rfl) ?_
        obtain ⟨r7, hgr7, hF⟩ := st_bnd hF
        refine g_ci hw (g_runS (As := [.int a1, .int a2]) (rest := []) fx hw (c_X2_letterAt l x D cy ad a1 a2 H.size M r7 hgr7) wd4_227 wd4_30 wd1_4 wd4_31 yd_X2_letterAt rfl rfl (Nat.le_of_ble_eq_true rfl) hl.1 ⟨Nat.le_trans (Nat.le_of_ble_eq_true rfl) hR.1, Nat.le_trans (Nat.le_of_ble_eq_true rfl) hR.2.1⟩ ⟨Nat.le_trans (Nat.le_of_ble_eq_true rfl) hR.2.2.1, Nat.le_trans (Nat.le_of_ble_eq_true rfl) hR.2.2.2⟩ dX4_addName_10) (fun H locs hw => ?_)
        refine lv_istore_n (lv' := [(3, .int r7), (0, .ref (ad 5)), (1, .int a1), (2, .int a2)]) hx hb dX4_addName_13 rfl hl (by decide) rfl (fun ls hl => ?_)
        refine lv_iload_n hx hb dX4_addName_14 rfl (lv_at hl 0 rfl) ?_
        refine lv_if_eq (tgt := 23) hx hb dX4_addName_15 (by decide) (fun hc15 => ?_) (fun hc15 => ?_)
        · replace hF := st_t hc15 hF
          exact n_23 rec2 hr2 a1 a2 M H locs ls (lv_sub hl [1, 2, 3] rfl) hw hF
        · replace hF := st_f hc15 hF
          refine lv_aload_n hx hb dX4_addName_18 rfl (lv_at hl 1 rfl) ?_
          refine lv_iload_n hx hb dX4_addName_19 rfl (lv_at hl 0 rfl) ?_
          obtain ⟨M9, hgr8, hF⟩ := st_bnd hF
          refine g_cv hw (g_runV (C := RX4) (As := [.int r7]) (rest := []) fx hw isO_5 rfl (c_X4_addByte l x D cy ad r7 H.size M M9 hgr8) wd3_110 wd3_103 wd3_104 wd1_7 wd3_105 yd_X4_addByte rfl rfl (Nat.le_of_ble_eq_true rfl) hl.1 ⟨Nat.le_trans (Nat.le_of_ble_eq_true rfl) hR.1, Nat.le_trans (Nat.le_of_ble_eq_true rfl) hR.2.1⟩ ⟨Nat.le_trans (Nat.le_of_ble_eq_true rfl) hR.2.2.1, Nat.le_trans (Nat.le_of_ble_eq_true rfl) hR.2.2.2⟩ dX4_addName_20) (fun H locs hw => ?_)
          exact n_23 rec2 hr2 a1 a2 M9 H locs ls (lv_sub hl [1, 2, 3] rfl) hw hF
  unfold f_X4_addName at hF
  refine lv_iconst (v := 0) hx hb dX4_addName_0 (by decide) ?_
  refine lv_istore_n (lv' := [(2, .int 0), (0, .ref (ad 5)), (1, .int p1)]) hx hb dX4_addName_1 rfl hl (by decide) rfl (fun ls hl => ?_)
  exact n_2 FU p1 0 M H locs ls (lv_sub hl [1, 2, 0] rfl) hw hF
theorem c_X4_addName (l : Launch) (x : SX) (D : va_G) (cy : Nat → ClassId) (ad : Nat → Nat) (p1 : Int32) (sz : Nat) (M : Mem) (M' : Mem) (hF : f_X4_addName p1 M = some M') : Met l yX4_addName (.code yX4_addName cX4_addName 4 none :: GB) ({ frames := 1, cells := 0, slots := 0, locals := 22 } : Room) (PcW D cy ad x sz M [.ref (ad 5), .int p1]) (QvW D cy ad sz M') 0 0 (AA ad sz) := by
  refine mk_m (own := RX4) (by decide) rfl (Nat.le_of_ble_eq_true rfl) ?_
  intro p e s m args below meth c ls fx hw hl hsz
  subst hsz
  exact b_X4_addName fx ⟨Nat.le_refl _, Nat.le_refl _, Nat.le_refl _, Nat.le_refl _⟩ p1 M M' hF (fun pc ls H locs M1 hd hw h => by cases h; exact g_vret fx hw hd) _ _ ls hl hw
noncomputable def f_X4_addNeeds_46 (q1 : Nat) (rec5 : Int32 → Int32 → Int32 → Mem → Option Mem) : Int32 → Int32 → Int32 → Mem → Option Mem := fun a2 a3 a4 M => (rec5 a2 a3 (a4 + 1) M)
noncomputable def f_X4_addNeeds_33 (q1 : Nat) (rec5 : Int32 → Int32 → Int32 → Mem → Option Mem) : Int32 → Int32 → Mem → Option Mem := fun a2 a4 M => (chk (inB a4 8) (bnd (f_X4_addName (M (q1 + 9) (ix a4)) M) (fun M12 => ((f_X4_addNeeds_46 q1 rec5) a2 0 a4 M12))))
noncomputable def f_X4_addNeeds_5 (q1 : Nat) (rec5 : Int32 → Int32 → Int32 → Mem → Option Mem) : Int32 → Int32 → Int32 → Mem → Option Mem := fun a2 a3 a4 M => (if (M q1 13) ≤ a4 then (some M) else (bnd (f_X1_isMember a4 a2 M) (fun r13 => (if r13 = 0 then ((f_X4_addNeeds_46 q1 rec5) a2 a3 a4 M) else (if a3 = 0 then (bnd (f_X4_addByte 32 M) (fun M15 => ((f_X4_addNeeds_33 q1 rec5) a2 a4 M15))) else ((f_X4_addNeeds_33 q1 rec5) a2 a4 M))))))
noncomputable def f_X4_addNeeds (q1 : Nat) (p2 : Int32) (M : Mem) : Option Mem := ((lp (fun _ _ _ _ => none) (f_X4_addNeeds_5 q1) FU) p2 1 0 M)
set_option maxHeartbeats 4000000 in
set_option maxRecDepth 100000 in
theorem b_X4_addNeeds {p : Program} {l : Launch} {e : Env} {R : Room} {s : State} {m : MethodId} {args : Array Value} {below : List Frame} {meth : Method} {c : Code} {Q : State → Prop} {D : va_G} {cy : Nat → ClassId} {ad : Nat → Nat} {x : SX} (fx : FX p s m args meth c cX4_addNeeds 5 none RX4 D cy ad x) (hR : 2 ≤ R.frames ∧ 45 ≤ R.locals ∧ 0 ≤ R.cells ∧ 0 ≤ R.slots) (q1 : Nat) (hq1 : isH q1) (p2 : Int32) (M : Mem) (M' : Mem) (hF : f_X4_addNeeds q1 p2 M = some M') (E : ∀ (pc : Nat) (ls : Array Slot) (H : Heap) (locs : List Loc) (M1 : Mem), decode cX4_addNeeds pc = .ok (.return_, 1) → WD D cy ad s M1 H locs → some M1 = some M' → W p l e R s m args below meth c H locs 0 0 Q (F0 m pc ls [])) (H : Heap) (locs : List Loc) (ls : Array Slot) (hl : lv_has ls 5 [(0, .ref (ad 5)), (1, .ref (ad q1)), (2, .int p2)]) (hw : WD D cy ad s M H locs) : W p l e R s m args below meth c H locs 0 0 Q (F0 m 0 ls []) := by
  have hx := fx.1.1
  have hb := fx.1.2.1
  have hown := fx.1.2.2.2.1
  have hts := fx.1.2.2.2.2
  have n_46 : ∀ (rec5 : Int32 → Int32 → Int32 → Mem → Option Mem) (_ : ∀ (a2 : Int32) (a3 : Int32) (a4 : Int32) (M : Mem) (H : Heap) (locs : List Loc) (ls : Array Slot), lv_has ls 5 [(0, .ref (ad 5)), (1, .ref (ad q1)), (2, .int a2), (3, .int a3), (4, .int a4)] → WD D cy ad s M H locs → rec5 a2 a3 a4 M = some M' → W p l e R s m args below meth c H locs 0 0 Q (F0 m 5 ls [])) , ∀ (a2 : Int32) (a3 : Int32) (a4 : Int32) (M : Mem) (H : Heap) (locs : List Loc) (ls : Array Slot), lv_has ls 5 [(0, .ref (ad 5)), (1, .ref (ad q1)), (2, .int a2), (3, .int a3), (4, .int a4)] → WD D cy ad s M H locs → f_X4_addNeeds_46 q1 rec5 a2 a3 a4 M = some M' → W p l e R s m args below meth c H locs 0 0 Q (F0 m 46 ls []) := by
    intro rec5 hr5 a2 a3 a4 M H locs ls hl hw hF
    unfold f_X4_addNeeds_46 at hF
    refine lv_iinc (v := (a4 + 1)) (lv' := [(4, .int (a4 + 1)), (0, .ref (ad 5)), (1, .ref (ad q1)), (2, .int a2), (3, .int a3)]) hx hb dX4_addNeeds_46 hl (k := 4) rfl rfl (by decide) rfl (fun ls hl => ?_)
    refine lv_goto (tgt := 5) hx hb dX4_addNeeds_49 (by decide) ?_
    exact hr5 a2 a3 (a4 + 1) M H locs ls (lv_sub hl [1, 2, 3, 4, 0] rfl) hw hF
  have n_33 : ∀ (rec5 : Int32 → Int32 → Int32 → Mem → Option Mem) (_ : ∀ (a2 : Int32) (a3 : Int32) (a4 : Int32) (M : Mem) (H : Heap) (locs : List Loc) (ls : Array Slot), lv_has ls 5 [(0, .ref (ad 5)), (1, .ref (ad q1)), (2, .int a2), (3, .int a3), (4, .int a4)] → WD D cy ad s M H locs → rec5 a2 a3 a4 M = some M' → W p l e R s m args below meth c H locs 0 0 Q (F0 m 5 ls [])) , ∀ (a2 : Int32) (a4 : Int32) (M : Mem) (H : Heap) (locs : List Loc) (ls : Array Slot), lv_has ls 5 [(0, .ref (ad 5)), (1, .ref (ad q1)), (2, .int a2), (4, .int a4)] → WD D cy ad s M H locs → f_X4_addNeeds_33 q1 rec5 a2 a4 M = some M' → W p l e R s m args below meth c H locs 0 0 Q (F0 m 33 ls []) := by
    intro rec5 hr5 a2 a4 M H locs ls hl hw hF
    unfold f_X4_addNeeds_33 at hF
    refine lv_aload_n hx hb dX4_addNeeds_33 rfl (lv_at hl 0 rfl) ?_
    refine lv_aload_n hx hb dX4_addNeeds_34 rfl (lv_at hl 1 rfl) ?_
    refine gX1_get fx hw hq1.O 8 (by decide) wd1_53 rfl dX4_addNeeds_35 ?_
    refine lv_iload hx hb dX4_addNeeds_38 (lv_at hl 3 rfl) ?_
    obtain ⟨hi10, hF⟩ := st_chk hF
    refine g_iald fx hw hq1.a9 hi10 dX4_addNeeds_40 ?_
    obtain ⟨M12, hgr11, hF⟩ := st_bnd hF
    refine g_cv hw (g_runV (C := RX4) (As := [.int (M (q1 + 9) (ix a4))]) (rest := []) fx hw isO_5 rfl (c_X4_addName l x D cy ad (M (q1 + 9) (ix a4)) H.size M M12 hgr11) wd4_233 wd4_224 wd4_225 wd1_7 wd4_226 yd_X4_addName rfl rfl (Nat.le_of_ble_eq_true rfl) hl.1 ⟨Nat.le_trans (Nat.le_of_ble_eq_true rfl) hR.1, Nat.le_trans (Nat.le_of_ble_eq_true rfl) hR.2.1⟩ ⟨Nat.le_trans (Nat.le_of_ble_eq_true rfl) hR.2.2.1, Nat.le_trans (Nat.le_of_ble_eq_true rfl) hR.2.2.2⟩ dX4_addNeeds_41) (fun H locs hw => ?_)
    refine lv_iconst (v := 0) hx hb dX4_addNeeds_44 (by decide) ?_
    refine lv_istore_n (lv' := [(3, .int 0), (0, .ref (ad 5)), (1, .ref (ad q1)), (2, .int a2), (4, .int a4)]) hx hb dX4_addNeeds_45 rfl hl (by decide) rfl (fun ls hl => ?_)
    exact n_46 rec5 hr5 a2 0 a4 M12 H locs ls (lv_sub hl [1, 2, 3, 0, 4] rfl) hw hF
  have n_5 : ∀ (n9 : Nat), ∀ (a2 : Int32) (a3 : Int32) (a4 : Int32) (M : Mem) (H : Heap) (locs : List Loc) (ls : Array Slot), lv_has ls 5 [(0, .ref (ad 5)), (1, .ref (ad q1)), (2, .int a2), (3, .int a3), (4, .int a4)] → WD D cy ad s M H locs → (lp (fun _ _ _ _ => none) (f_X4_addNeeds_5 q1) n9) a2 a3 a4 M = some M' → W p l e R s m args below meth c H locs 0 0 Q (F0 m 5 ls []) := by
    intro n9
    refine lp_ind (fun (rec5 : Int32 → Int32 → Int32 → Mem → Option Mem) => ∀ (a2 : Int32) (a3 : Int32) (a4 : Int32) (M : Mem) (H : Heap) (locs : List Loc) (ls : Array Slot), lv_has ls 5 [(0, .ref (ad 5)), (1, .ref (ad q1)), (2, .int a2), (3, .int a3), (4, .int a4)] → WD D cy ad s M H locs → rec5 a2 a3 a4 M = some M' → W p l e R s m args below meth c H locs 0 0 Q (F0 m 5 ls [])) ?_ ?_ n9
    · intro a2 a3 a4 M H locs ls hl hw hF
      exact nomatch hF
    · intro rec5 hr5 a2 a3 a4 M H locs ls hl hw hF
      unfold f_X4_addNeeds_5 at hF
      refine lv_iload hx hb dX4_addNeeds_5 (lv_at hl 4 rfl) ?_
      refine lv_aload_n hx hb dX4_addNeeds_7 rfl (lv_at hl 1 rfl) ?_
      refine gX1_get fx hw hq1.O 13 (by decide) wd1_64 rfl dX4_addNeeds_8 ?_
      refine lv_icmp_ge (tgt := 52) hx hb dX4_addNeeds_11 (by decide) (fun hc11 => ?_) (fun hc11 => ?_)
      · replace hF := st_t hc11 hF
        exact E _ _ _ _ _ dX4_addNeeds_52 hw hF
      · replace hF := st_f hc11 hF
        refine lv_iload hx hb dX4_addNeeds_14 (lv_at hl 4 rfl) ?_
        refine lv_iload_n hx hb dX4_addNeeds_16 rfl (lv_at hl 2 rfl) ?_
        obtain ⟨r13, hgr13, hF⟩ := st_bnd hF
        refine g_cz hw (g_runS (As := [.int a4, .int a2]) (rest := []) fx hw (c_X1_isMember l x D cy ad a4 a2 H.size M r13 hgr13) wd4_232 wd2_126 wd1_2 wd2_127 yd_X1_isMember rfl rfl (Nat.le_of_ble_eq_true rfl) hl.1 ⟨Nat.le_trans (Nat.le_of_ble_eq_true rfl) hR.1, Nat.le_trans (Nat.le_of_ble_eq_true rfl) hR.2.1⟩ ⟨Nat.le_trans (Nat.le_of_ble_eq_true rfl) hR.2.2.1, Nat.le_trans (Nat.le_of_ble_eq_true rfl) hR.2.2.2⟩ dX4_addNeeds_17) (fun H locs hbr13 hw => ?_)
        refine lv_if_eq (tgt := 46) hx hb dX4_addNeeds_20 (by decide) (fun hc20 => ?_) (fun hc20 => ?_)
        · replace hF := st_t hc20 hF
          exact n_46 rec5 hr5 a2 a3 a4 M H locs ls (lv_sub hl [0, 1, 2, 3, 4] rfl) hw hF
        · replace hF := st_f hc20 hF
          refine lv_iload_n hx hb dX4_addNeeds_23 rfl (lv_at hl 3 rfl) ?_
          refine lv_if_ne (tgt := 33) hx hb dX4_addNeeds_24 (by decide) (fun hc24 => ?_) (fun hc24 => ?_)
          · replace hF := st_f hc24 hF
            exact n_33 rec5 hr5 a2 a4 M H locs ls (lv_sub hl [0, 1, 2, 4] rfl) hw hF
          · replace hF := st_t hc24 hF
            refine lv_aload_n hx hb dX4_addNeeds_27 rfl (lv_at hl 0 rfl) ?_
            refine lv_bipush (v := 32) hx hb dX4_addNeeds_28 (by decide) ?_
            obtain ⟨M15, hgr14, hF⟩ := st_bnd hF
            refine g_cv hw (g_runV (C := RX4) (As := [.int 32]) (rest := []) fx hw isO_5 rfl (c_X4_addByte l x D cy ad 32 H.size M M15 hgr14) wd3_110 wd3_103 wd3_104 wd1_7 wd3_105 yd_X4_addByte rfl rfl (Nat.le_of_ble_eq_true rfl) hl.1 ⟨Nat.le_trans (Nat.le_of_ble_eq_true rfl) hR.1, Nat.le_trans (Nat.le_of_ble_eq_true rfl) hR.2.1⟩ ⟨Nat.le_trans (Nat.le_of_ble_eq_true rfl) hR.2.2.1, Nat.le_trans (Nat.le_of_ble_eq_true rfl) hR.2.2.2⟩ dX4_addNeeds_30) (fun H locs hw => ?_)
            exact n_33 rec5 hr5 a2 a4 M15 H locs ls (lv_sub hl [0, 1, 2, 4] rfl) hw hF
  unfold f_X4_addNeeds at hF
  refine lv_iconst (v := 1) hx hb dX4_addNeeds_0 (by decide) ?_
  refine lv_istore_n (lv' := [(3, .int 1), (0, .ref (ad 5)), (1, .ref (ad q1)), (2, .int p2)]) hx hb dX4_addNeeds_1 rfl hl (by decide) rfl (fun ls hl => ?_)
  refine lv_iconst (v := 0) hx hb dX4_addNeeds_2 (by decide) ?_
  refine lv_istore (lv' := [(4, .int 0), (3, .int 1), (0, .ref (ad 5)), (1, .ref (ad q1)), (2, .int p2)]) hx hb dX4_addNeeds_3 hl (by decide) rfl (fun ls hl => ?_)
  exact n_5 FU p2 1 0 M H locs ls (lv_sub hl [2, 3, 4, 1, 0] rfl) hw hF
theorem c_X4_addNeeds (l : Launch) (x : SX) (D : va_G) (cy : Nat → ClassId) (ad : Nat → Nat) (q1 : Nat) (hq1 : isH q1) (p2 : Int32) (sz : Nat) (M : Mem) (M' : Mem) (hF : f_X4_addNeeds q1 p2 M = some M') : Met l yX4_addNeeds (.code yX4_addNeeds cX4_addNeeds 5 none :: GB) ({ frames := 2, cells := 0, slots := 0, locals := 45 } : Room) (PcW D cy ad x sz M [.ref (ad 5), .ref (ad q1), .int p2]) (QvW D cy ad sz M') 0 0 (AA ad sz) := by
  refine mk_m (own := RX4) (by decide) rfl (Nat.le_of_ble_eq_true rfl) ?_
  intro p e s m args below meth c ls fx hw hl hsz
  subst hsz
  exact b_X4_addNeeds fx ⟨Nat.le_refl _, Nat.le_refl _, Nat.le_refl _, Nat.le_refl _⟩ q1 hq1 p2 M M' hF (fun pc ls H locs M1 hd hw h => by cases h; exact g_vret fx hw hd) _ _ ls hl hw
noncomputable def f_X4_addNumber_43 (rec6 : Int32 → Int32 → Int32 → Mem → Option Mem) : Int32 → Int32 → Int32 → Mem → Option Mem := fun a1 a2 a3 M => (rec6 a1 a2 (a3 / 10) M)
noncomputable def f_X4_addNumber_32 (rec6 : Int32 → Int32 → Int32 → Mem → Option Mem) : Int32 → Int32 → Int32 → Mem → Option Mem := fun a1 a3 a4 M => (bnd (f_X4_addByte (48 + a4) M) (fun M4 => ((f_X4_addNumber_43 rec6) a1 1 a3 M4)))
noncomputable def f_X4_addNumber_6 (rec6 : Int32 → Int32 → Int32 → Mem → Option Mem) : Int32 → Int32 → Int32 → Mem → Option Mem := fun a1 a2 a3 M => (if a3 ≤ 0 then (some M) else (chk (nz a3) (if (irem (a1 / a3) 10) = 0 then (if a2 = 0 then (if a3 = 1 then ((f_X4_addNumber_32 rec6) a1 a3 (irem (a1 / a3) 10) M) else ((f_X4_addNumber_43 rec6) a1 a2 a3 M)) else ((f_X4_addNumber_32 rec6) a1 a3 (irem (a1 / a3) 10) M)) else ((f_X4_addNumber_32 rec6) a1 a3 (irem (a1 / a3) 10) M))))
noncomputable def f_X4_addNumber (p1 : Int32) (M : Mem) : Option Mem := ((lp (fun _ _ _ _ => none) (f_X4_addNumber_6) FU) p1 0 1000 M)
set_option maxHeartbeats 4000000 in
set_option maxRecDepth 100000 in
theorem b_X4_addNumber {p : Program} {l : Launch} {e : Env} {R : Room} {s : State} {m : MethodId} {args : Array Value} {below : List Frame} {meth : Method} {c : Code} {Q : State → Prop} {D : va_G} {cy : Nat → ClassId} {ad : Nat → Nat} {x : SX} (fx : FX p s m args meth c cX4_addNumber 5 none RX4 D cy ad x) (hR : 1 ≤ R.frames ∧ 21 ≤ R.locals ∧ 0 ≤ R.cells ∧ 0 ≤ R.slots) (p1 : Int32) (M : Mem) (M' : Mem) (hF : f_X4_addNumber p1 M = some M') (E : ∀ (pc : Nat) (ls : Array Slot) (H : Heap) (locs : List Loc) (M1 : Mem), decode cX4_addNumber pc = .ok (.return_, 1) → WD D cy ad s M1 H locs → some M1 = some M' → W p l e R s m args below meth c H locs 0 0 Q (F0 m pc ls [])) (H : Heap) (locs : List Loc) (ls : Array Slot) (hl : lv_has ls 5 [(0, .ref (ad 5)), (1, .int p1)]) (hw : WD D cy ad s M H locs) : W p l e R s m args below meth c H locs 0 0 Q (F0 m 0 ls []) := by
  have hx := fx.1.1
  have hb := fx.1.2.1
  have hown := fx.1.2.2.2.1
  have hts := fx.1.2.2.2.2
  have n_43 : ∀ (rec6 : Int32 → Int32 → Int32 → Mem → Option Mem) (_ : ∀ (a1 : Int32) (a2 : Int32) (a3 : Int32) (M : Mem) (H : Heap) (locs : List Loc) (ls : Array Slot), lv_has ls 5 [(0, .ref (ad 5)), (1, .int a1), (2, .int a2), (3, .int a3)] → WD D cy ad s M H locs → rec6 a1 a2 a3 M = some M' → W p l e R s m args below meth c H locs 0 0 Q (F0 m 6 ls [])) , ∀ (a1 : Int32) (a2 : Int32) (a3 : Int32) (M : Mem) (H : Heap) (locs : List Loc) (ls : Array Slot), lv_has ls 5 [(0, .ref (ad 5)), (1, .int a1), (2, .int a2), (3, .int a3)] → WD D cy ad s M H locs → f_X4_addNumber_43 rec6 a1 a2 a3 M = some M' → W p l e R s m args below meth c H locs 0 0 Q (F0 m 43 ls []) := by
    intro rec6 hr6 a1 a2 a3 M H locs ls hl hw hF
    unfold f_X4_addNumber_43 at hF
    refine lv_iload_n hx hb dX4_addNumber_43 rfl (lv_at hl 3 rfl) ?_
    refine lv_bipush (v := 10) hx hb dX4_addNumber_44 (by decide) ?_
    refine lv_idiv hx hb dX4_addNumber_46 (by decide) ?_
    refine lv_istore_n (lv' := [(3, .int (a3 / 10)), (0, .ref (ad 5)), (1, .int a1), (2, .int a2)]) hx hb dX4_addNumber_47 rfl hl (by decide) rfl (fun ls hl => ?_)
    refine lv_goto (tgt := 6) hx hb dX4_addNumber_48 (by decide) ?_
    exact hr6 a1 a2 (a3 / 10) M H locs ls (lv_sub hl [1, 2, 3, 0] rfl) hw hF
  have n_32 : ∀ (rec6 : Int32 → Int32 → Int32 → Mem → Option Mem) (_ : ∀ (a1 : Int32) (a2 : Int32) (a3 : Int32) (M : Mem) (H : Heap) (locs : List Loc) (ls : Array Slot), lv_has ls 5 [(0, .ref (ad 5)), (1, .int a1), (2, .int a2), (3, .int a3)] → WD D cy ad s M H locs → rec6 a1 a2 a3 M = some M' → W p l e R s m args below meth c H locs 0 0 Q (F0 m 6 ls [])) , ∀ (a1 : Int32) (a3 : Int32) (a4 : Int32) (M : Mem) (H : Heap) (locs : List Loc) (ls : Array Slot), lv_has ls 5 [(0, .ref (ad 5)), (1, .int a1), (3, .int a3), (4, .int a4)] → WD D cy ad s M H locs → f_X4_addNumber_32 rec6 a1 a3 a4 M = some M' → W p l e R s m args below meth c H locs 0 0 Q (F0 m 32 ls []) := by
    intro rec6 hr6 a1 a3 a4 M H locs ls hl hw hF
    unfold f_X4_addNumber_32 at hF
    refine lv_aload_n hx hb dX4_addNumber_32 rfl (lv_at hl 0 rfl) ?_
    refine lv_bipush (v := 48) hx hb dX4_addNumber_33 (by decide) ?_
    refine lv_iload hx hb dX4_addNumber_35 (lv_at hl 3 rfl) ?_
    refine lv_iadd hx hb dX4_addNumber_37 ?_
    obtain ⟨M4, hgr3, hF⟩ := st_bnd hF
    refine g_cv hw (g_runV (C := RX4) (As := [.int (48 + a4)]) (rest := []) fx hw isO_5 rfl (c_X4_addByte l x D cy ad (48 + a4) H.size M M4 hgr3) wd3_110 wd3_103 wd3_104 wd1_7 wd3_105 yd_X4_addByte rfl rfl (Nat.le_of_ble_eq_true rfl) hl.1 ⟨Nat.le_trans (Nat.le_of_ble_eq_true rfl) hR.1, Nat.le_trans (Nat.le_of_ble_eq_true rfl) hR.2.1⟩ ⟨Nat.le_trans (Nat.le_of_ble_eq_true rfl) hR.2.2.1, Nat.le_trans (Nat.le_of_ble_eq_true rfl) hR.2.2.2⟩ dX4_addNumber_38) (fun H locs hw => ?_)
    refine lv_iconst (v := 1) hx hb dX4_addNumber_41 (by decide) ?_
    refine lv_istore_n (lv' := [(2, .int 1), (0, .ref (ad 5)), (1, .int a1), (3, .int a3), (4, .int a4)]) hx hb dX4_addNumber_42 rfl hl (by decide) rfl (fun ls hl => ?_)
    exact n_43 rec6 hr6 a1 1 a3 M4 H locs ls (lv_sub hl [1, 2, 0, 3] rfl) hw hF
  have n_6 : ∀ (n9 : Nat), ∀ (a1 : Int32) (a2 : Int32) (a3 : Int32) (M : Mem) (H : Heap) (locs : List Loc) (ls : Array Slot), lv_has ls 5 [(0, .ref (ad 5)), (1, .int a1), (2, .int a2), (3, .int a3)] → WD D cy ad s M H locs → (lp (fun _ _ _ _ => none) (f_X4_addNumber_6) n9) a1 a2 a3 M = some M' → W p l e R s m args below meth c H locs 0 0 Q (F0 m 6 ls []) := by
    intro n9
    refine lp_ind (fun (rec6 : Int32 → Int32 → Int32 → Mem → Option Mem) => ∀ (a1 : Int32) (a2 : Int32) (a3 : Int32) (M : Mem) (H : Heap) (locs : List Loc) (ls : Array Slot), lv_has ls 5 [(0, .ref (ad 5)), (1, .int a1), (2, .int a2), (3, .int a3)] → WD D cy ad s M H locs → rec6 a1 a2 a3 M = some M' → W p l e R s m args below meth c H locs 0 0 Q (F0 m 6 ls [])) ?_ ?_ n9
    · intro a1 a2 a3 M H locs ls hl hw hF
      exact nomatch hF
    · intro rec6 hr6 a1 a2 a3 M H locs ls hl hw hF
      unfold f_X4_addNumber_6 at hF
      refine lv_iload_n hx hb dX4_addNumber_6 rfl (lv_at hl 3 rfl) ?_
      refine lv_if_le (tgt := 51) hx hb dX4_addNumber_7 (by decide) (fun hc7 => ?_) (fun hc7 => ?_)
      · replace hF := st_t hc7 hF
        exact E _ _ _ _ _ dX4_addNumber_51 hw hF
      · replace hF := st_f hc7 hF
        refine lv_iload_n hx hb dX4_addNumber_10 rfl (lv_at hl 1 rfl) ?_
        refine lv_iload_n hx hb dX4_addNumber_11 rfl (lv_at hl 3 rfl) ?_
        have hz_12 := st_chk hF
        obtain ⟨hz_12, hF⟩ := hz_12
        refine lv_idiv hx hb dX4_addNumber_12 (nz_of hz_12) ?_
        refine lv_bipush (v := 10) hx hb dX4_addNumber_13 (by decide) ?_
        refine g_irem hx hb dX4_addNumber_15 (by decide) ?_
        refine lv_istore (lv' := [(4, .int (irem (a1 / a3) 10)), (0, .ref (ad 5)), (1, .int a1), (2, .int a2), (3, .int a3)]) hx hb dX4_addNumber_16 hl (by decide) rfl (fun ls hl => ?_)
        refine lv_iload hx hb dX4_addNumber_18 (lv_at hl 0 rfl) ?_
        refine lv_if_ne (tgt := 32) hx hb dX4_addNumber_20 (by decide) (fun hc20 => ?_) (fun hc20 => ?_)
        · replace hF := st_f hc20 hF
          exact n_32 rec6 hr6 a1 a3 (irem (a1 / a3) 10) M H locs ls (lv_sub hl [1, 2, 4, 0] rfl) hw hF
        · replace hF := st_t hc20 hF
          refine lv_iload_n hx hb dX4_addNumber_23 rfl (lv_at hl 3 rfl) ?_
          refine lv_if_ne (tgt := 32) hx hb dX4_addNumber_24 (by decide) (fun hc24 => ?_) (fun hc24 => ?_)
          · replace hF := st_f hc24 hF
            exact n_32 rec6 hr6 a1 a3 (irem (a1 / a3) 10) M H locs ls (lv_sub hl [1, 2, 4, 0] rfl) hw hF
          · replace hF := st_t hc24 hF
            refine lv_iload_n hx hb dX4_addNumber_27 rfl (lv_at hl 4 rfl) ?_
            refine lv_iconst (v := 1) hx hb dX4_addNumber_28 (by decide) ?_
            refine lv_icmp_ne (tgt := 43) hx hb dX4_addNumber_29 (by decide) (fun hc29 => ?_) (fun hc29 => ?_)
            · replace hF := st_f hc29 hF
              exact n_43 rec6 hr6 a1 a2 a3 M H locs ls (lv_sub hl [1, 2, 3, 4] rfl) hw hF
            · replace hF := st_t hc29 hF
              exact n_32 rec6 hr6 a1 a3 (irem (a1 / a3) 10) M H locs ls (lv_sub hl [1, 2, 4, 0] rfl) hw hF
  unfold f_X4_addNumber at hF
  refine lv_iconst (v := 0) hx hb dX4_addNumber_0 (by decide) ?_
  refine lv_istore_n (lv' := [(2, .int 0), (0, .ref (ad 5)), (1, .int p1)]) hx hb dX4_addNumber_1 rfl hl (by decide) rfl (fun ls hl => ?_)
  refine lv_sipush (v := 1000) hx hb dX4_addNumber_2 (by decide) ?_
  refine lv_istore_n (lv' := [(3, .int 1000), (2, .int 0), (0, .ref (ad 5)), (1, .int p1)]) hx hb dX4_addNumber_5 rfl hl (by decide) rfl (fun ls hl => ?_)
  exact n_6 FU p1 0 1000 M H locs ls (lv_sub hl [2, 3, 1, 0] rfl) hw hF
theorem c_X4_addNumber (l : Launch) (x : SX) (D : va_G) (cy : Nat → ClassId) (ad : Nat → Nat) (p1 : Int32) (sz : Nat) (M : Mem) (M' : Mem) (hF : f_X4_addNumber p1 M = some M') : Met l yX4_addNumber (.code yX4_addNumber cX4_addNumber 5 none :: GB) ({ frames := 1, cells := 0, slots := 0, locals := 21 } : Room) (PcW D cy ad x sz M [.ref (ad 5), .int p1]) (QvW D cy ad sz M') 0 0 (AA ad sz) := by
  refine mk_m (own := RX4) (by decide) rfl (Nat.le_of_ble_eq_true rfl) ?_
  intro p e s m args below meth c ls fx hw hl hsz
  subst hsz
  exact b_X4_addNumber fx ⟨Nat.le_refl _, Nat.le_refl _, Nat.le_refl _, Nat.le_refl _⟩ p1 M M' hF (fun pc ls H locs M1 hd hw h => by cases h; exact g_vret fx hw hd) _ _ ls hl hw
noncomputable def f_X3_bytesIn_22 (M : Mem) (rec5 : Int32 → Int32 → Int32 → Option Int32) : Int32 → Int32 → Int32 → Option Int32 := fun a0 a1 a2 => (rec5 a0 a1 (a2 + (-8)))
noncomputable def f_X3_bytesIn_5 (M : Mem) (rec5 : Int32 → Int32 → Int32 → Option Int32) : Int32 → Int32 → Int32 → Option Int32 := fun a0 a1 a2 => (if a2 < 0 then (some a1) else (if ((iushr a0 a2) &&& 255) = 0 then ((f_X3_bytesIn_22 M rec5) a0 a1 a2) else ((f_X3_bytesIn_22 M rec5) a0 (a1 + 1) a2)))
noncomputable def f_X3_bytesIn (p1 : Int32) (M : Mem) : Option Int32 := ((lp (fun _ _ _ => none) (f_X3_bytesIn_5 M) FU) p1 0 24)
set_option maxHeartbeats 4000000 in
set_option maxRecDepth 100000 in
theorem b_X3_bytesIn {p : Program} {l : Launch} {e : Env} {R : Room} {s : State} {m : MethodId} {args : Array Value} {below : List Frame} {meth : Method} {c : Code} {Q : State → Prop} {D : va_G} {cy : Nat → ClassId} {ad : Nat → Nat} {x : SX} (fx : FX p s m args meth c cX3_bytesIn 3 (some .int) RX3 D cy ad x) (hR : 0 ≤ R.frames ∧ 0 ≤ R.locals ∧ 0 ≤ R.cells ∧ 0 ≤ R.slots) (p1 : Int32) (M : Mem) (z : Int32) (hF : f_X3_bytesIn p1 M = some z) (E : ∀ (pc : Nat) (ls : Array Slot) (H : Heap) (locs : List Loc) (v : Int32), decode cX3_bytesIn pc = .ok (.ireturn, 1) → WD D cy ad s M H locs → some v = some z → W p l e R s m args below meth c H locs 0 0 Q (F0 m pc ls [.int v])) (H : Heap) (locs : List Loc) (ls : Array Slot) (hl : lv_has ls 3 [(0, .int p1)]) (hw : WD D cy ad s M H locs) : W p l e R s m args below meth c H locs 0 0 Q (F0 m 0 ls []) := by
  have hx := fx.1.1
  have hb := fx.1.2.1
  have hown := fx.1.2.2.2.1
  have hts := fx.1.2.2.2.2
  have n_22 : ∀ (rec5 : Int32 → Int32 → Int32 → Option Int32) (_ : ∀ (a0 : Int32) (a1 : Int32) (a2 : Int32) (H : Heap) (locs : List Loc) (ls : Array Slot), lv_has ls 3 [(0, .int a0), (1, .int a1), (2, .int a2)] → WD D cy ad s M H locs → rec5 a0 a1 a2 = some z → W p l e R s m args below meth c H locs 0 0 Q (F0 m 5 ls [])) , ∀ (a0 : Int32) (a1 : Int32) (a2 : Int32) (H : Heap) (locs : List Loc) (ls : Array Slot), lv_has ls 3 [(0, .int a0), (1, .int a1), (2, .int a2)] → WD D cy ad s M H locs → f_X3_bytesIn_22 M rec5 a0 a1 a2 = some z → W p l e R s m args below meth c H locs 0 0 Q (F0 m 22 ls []) := by
    intro rec5 hr5 a0 a1 a2 H locs ls hl hw hF
    unfold f_X3_bytesIn_22 at hF
    refine lv_iinc (v := (a2 + (-8))) (lv' := [(2, .int (a2 + (-8))), (0, .int a0), (1, .int a1)]) hx hb dX3_bytesIn_22 hl (k := 2) rfl rfl (by decide) rfl (fun ls hl => ?_)
    refine lv_goto (tgt := 5) hx hb dX3_bytesIn_25 (by decide) ?_
    exact hr5 a0 a1 (a2 + (-8)) H locs ls (lv_sub hl [1, 2, 0] rfl) hw hF
  have n_5 : ∀ (n9 : Nat), ∀ (a0 : Int32) (a1 : Int32) (a2 : Int32) (H : Heap) (locs : List Loc) (ls : Array Slot), lv_has ls 3 [(0, .int a0), (1, .int a1), (2, .int a2)] → WD D cy ad s M H locs → (lp (fun _ _ _ => none) (f_X3_bytesIn_5 M) n9) a0 a1 a2 = some z → W p l e R s m args below meth c H locs 0 0 Q (F0 m 5 ls []) := by
    intro n9
    refine lp_ind (fun (rec5 : Int32 → Int32 → Int32 → Option Int32) => ∀ (a0 : Int32) (a1 : Int32) (a2 : Int32) (H : Heap) (locs : List Loc) (ls : Array Slot), lv_has ls 3 [(0, .int a0), (1, .int a1), (2, .int a2)] → WD D cy ad s M H locs → rec5 a0 a1 a2 = some z → W p l e R s m args below meth c H locs 0 0 Q (F0 m 5 ls [])) ?_ ?_ n9
    · intro a0 a1 a2 H locs ls hl hw hF
      exact nomatch hF
    · intro rec5 hr5 a0 a1 a2 H locs ls hl hw hF
      unfold f_X3_bytesIn_5 at hF
      refine lv_iload_n hx hb dX3_bytesIn_5 rfl (lv_at hl 2 rfl) ?_
      refine lv_if_lt (tgt := 28) hx hb dX3_bytesIn_6 (by decide) (fun hc6 => ?_) (fun hc6 => ?_)
      · replace hF := st_t hc6 hF
        refine lv_iload_n hx hb dX3_bytesIn_28 rfl (lv_at hl 1 rfl) ?_
        exact E _ _ _ _ _ dX3_bytesIn_29 hw hF
      · replace hF := st_f hc6 hF
        refine lv_iload_n hx hb dX3_bytesIn_9 rfl (lv_at hl 0 rfl) ?_
        refine lv_iload_n hx hb dX3_bytesIn_10 rfl (lv_at hl 2 rfl) ?_
        refine g_iushr hx hb dX3_bytesIn_11 ?_
        refine lv_sipush (v := 255) hx hb dX3_bytesIn_12 (by decide) ?_
        refine lv_iand hx hb dX3_bytesIn_15 ?_
        refine lv_if_eq (tgt := 22) hx hb dX3_bytesIn_16 (by decide) (fun hc16 => ?_) (fun hc16 => ?_)
        · replace hF := st_t hc16 hF
          exact n_22 rec5 hr5 a0 a1 a2 H locs ls (lv_sub hl [0, 1, 2] rfl) hw hF
        · replace hF := st_f hc16 hF
          refine lv_iinc (v := (a1 + 1)) (lv' := [(1, .int (a1 + 1)), (0, .int a0), (2, .int a2)]) hx hb dX3_bytesIn_19 hl (k := 1) rfl rfl (by decide) rfl (fun ls hl => ?_)
          exact n_22 rec5 hr5 a0 (a1 + 1) a2 H locs ls (lv_sub hl [1, 0, 2] rfl) hw hF
  unfold f_X3_bytesIn at hF
  refine lv_iconst (v := 0) hx hb dX3_bytesIn_0 (by decide) ?_
  refine lv_istore_n (lv' := [(1, .int 0), (0, .int p1)]) hx hb dX3_bytesIn_1 rfl hl (by decide) rfl (fun ls hl => ?_)
  refine lv_bipush (v := 24) hx hb dX3_bytesIn_2 (by decide) ?_
  refine lv_istore_n (lv' := [(2, .int 24), (1, .int 0), (0, .int p1)]) hx hb dX3_bytesIn_4 rfl hl (by decide) rfl (fun ls hl => ?_)
  exact n_5 FU p1 0 24 H locs ls (lv_sub hl [2, 1, 0] rfl) hw hF
theorem c_X3_bytesIn (l : Launch) (x : SX) (D : va_G) (cy : Nat → ClassId) (ad : Nat → Nat) (p1 : Int32) (sz : Nat) (M : Mem) (z : Int32) (hF : f_X3_bytesIn p1 M = some z) : Met l yX3_bytesIn (.code yX3_bytesIn cX3_bytesIn 3 (some .int) :: GB) ({ frames := 0, cells := 0, slots := 0, locals := 0 } : Room) (PcW D cy ad x sz M [.int p1]) (QiW D cy ad sz z M) 0 0 (AA ad sz) := by
  refine mk_m (own := RX3) (by decide) rfl (Nat.le_of_ble_eq_true rfl) ?_
  intro p e s m args below meth c ls fx hw hl hsz
  subst hsz
  exact b_X3_bytesIn fx ⟨Nat.le_refl _, Nat.le_refl _, Nat.le_refl _, Nat.le_refl _⟩ p1 M z hF (fun pc ls H locs v hd hw h => by cases h; exact g_iret fx hw rfl hd) _ _ ls hl hw
noncomputable def f_X3_addBytes_49 (rec3 : Int32 → Int32 → Mem → Option Mem) : Int32 → Int32 → Mem → Option Mem := fun a1 a2 M => (rec3 a1 (a2 + (-8)) M)
noncomputable def f_X3_addBytes_3 (rec3 : Int32 → Int32 → Mem → Option Mem) : Int32 → Int32 → Mem → Option Mem := fun a1 a2 M => (if a2 < 0 then (some M) else (if ((iushr a1 a2) &&& 255) = 0 then ((f_X3_addBytes_49 rec3) a1 a2 M) else (if 800 ≤ (M 1 2) then ((f_X3_addBytes_49 rec3) a1 a2 M) else (chk (inB (M 1 2) 800) (letM (mput M 2 (ix (M 1 2)) ((iushr a1 a2) &&& 255)) (fun M7 => (letM (mput M7 1 2 ((M7 1 2) + 1)) (fun M9 => ((f_X3_addBytes_49 rec3) a1 a2 M9)))))))))
noncomputable def f_X3_addBytes (p1 : Int32) (M : Mem) : Option Mem := ((lp (fun _ _ _ => none) (f_X3_addBytes_3) FU) p1 24 M)
set_option maxHeartbeats 4000000 in
set_option maxRecDepth 100000 in
theorem b_X3_addBytes {p : Program} {l : Launch} {e : Env} {R : Room} {s : State} {m : MethodId} {args : Array Value} {below : List Frame} {meth : Method} {c : Code} {Q : State → Prop} {D : va_G} {cy : Nat → ClassId} {ad : Nat → Nat} {x : SX} (fx : FX p s m args meth c cX3_addBytes 4 none RX3 D cy ad x) (hR : 0 ≤ R.frames ∧ 0 ≤ R.locals ∧ 0 ≤ R.cells ∧ 0 ≤ R.slots) (p1 : Int32) (M : Mem) (M' : Mem) (hF : f_X3_addBytes p1 M = some M') (E : ∀ (pc : Nat) (ls : Array Slot) (H : Heap) (locs : List Loc) (M1 : Mem), decode cX3_addBytes pc = .ok (.return_, 1) → WD D cy ad s M1 H locs → some M1 = some M' → W p l e R s m args below meth c H locs 0 0 Q (F0 m pc ls [])) (H : Heap) (locs : List Loc) (ls : Array Slot) (hl : lv_has ls 4 [(0, .ref (ad 1)), (1, .int p1)]) (hw : WD D cy ad s M H locs) : W p l e R s m args below meth c H locs 0 0 Q (F0 m 0 ls []) := by
  have hx := fx.1.1
  have hb := fx.1.2.1
  have hown := fx.1.2.2.2.1
  have hts := fx.1.2.2.2.2
  have n_49 : ∀ (rec3 : Int32 → Int32 → Mem → Option Mem) (_ : ∀ (a1 : Int32) (a2 : Int32) (M : Mem) (H : Heap) (locs : List Loc) (ls : Array Slot), lv_has ls 4 [(0, .ref (ad 1)), (1, .int a1), (2, .int a2)] → WD D cy ad s M H locs → rec3 a1 a2 M = some M' → W p l e R s m args below meth c H locs 0 0 Q (F0 m 3 ls [])) , ∀ (a1 : Int32) (a2 : Int32) (M : Mem) (H : Heap) (locs : List Loc) (ls : Array Slot), lv_has ls 4 [(0, .ref (ad 1)), (1, .int a1), (2, .int a2)] → WD D cy ad s M H locs → f_X3_addBytes_49 rec3 a1 a2 M = some M' → W p l e R s m args below meth c H locs 0 0 Q (F0 m 49 ls []) := by
    intro rec3 hr3 a1 a2 M H locs ls hl hw hF
    unfold f_X3_addBytes_49 at hF
    refine lv_iinc (v := (a2 + (-8))) (lv' := [(2, .int (a2 + (-8))), (0, .ref (ad 1)), (1, .int a1)]) hx hb dX3_addBytes_49 hl (k := 2) rfl rfl (by decide) rfl (fun ls hl => ?_)
    refine lv_goto (tgt := 3) hx hb dX3_addBytes_52 (by decide) ?_
    exact hr3 a1 (a2 + (-8)) M H locs ls (lv_sub hl [1, 2, 0] rfl) hw hF
  have n_3 : ∀ (n9 : Nat), ∀ (a1 : Int32) (a2 : Int32) (M : Mem) (H : Heap) (locs : List Loc) (ls : Array Slot), lv_has ls 4 [(0, .ref (ad 1)), (1, .int a1), (2, .int a2)] → WD D cy ad s M H locs → (lp (fun _ _ _ => none) (f_X3_addBytes_3) n9) a1 a2 M = some M' → W p l e R s m args below meth c H locs 0 0 Q (F0 m 3 ls []) := by
    intro n9
    refine lp_ind (fun (rec3 : Int32 → Int32 → Mem → Option Mem) => ∀ (a1 : Int32) (a2 : Int32) (M : Mem) (H : Heap) (locs : List Loc) (ls : Array Slot), lv_has ls 4 [(0, .ref (ad 1)), (1, .int a1), (2, .int a2)] → WD D cy ad s M H locs → rec3 a1 a2 M = some M' → W p l e R s m args below meth c H locs 0 0 Q (F0 m 3 ls [])) ?_ ?_ n9
    · intro a1 a2 M H locs ls hl hw hF
      exact nomatch hF
    · intro rec3 hr3 a1 a2 M H locs ls hl hw hF
      unfold f_X3_addBytes_3 at hF
      refine lv_iload_n hx hb dX3_addBytes_3 rfl (lv_at hl 2 rfl) ?_
      refine lv_if_lt (tgt := 55) hx hb dX3_addBytes_4 (by decide) (fun hc4 => ?_) (fun hc4 => ?_)
      · replace hF := st_t hc4 hF
        exact E _ _ _ _ _ dX3_addBytes_55 hw hF
      · replace hF := st_f hc4 hF
        refine lv_iload_n hx hb dX3_addBytes_7 rfl (lv_at hl 1 rfl) ?_
        refine lv_iload_n hx hb dX3_addBytes_8 rfl (lv_at hl 2 rfl) ?_
        refine g_iushr hx hb dX3_addBytes_9 ?_
        refine lv_sipush (v := 255) hx hb dX3_addBytes_10 (by decide) ?_
        refine lv_iand hx hb dX3_addBytes_13 ?_
        refine lv_istore_n (lv' := [(3, .int ((iushr a1 a2) &&& 255)), (0, .ref (ad 1)), (1, .int a1), (2, .int a2)]) hx hb dX3_addBytes_14 rfl hl (by decide) rfl (fun ls hl => ?_)
        refine lv_iload_n hx hb dX3_addBytes_15 rfl (lv_at hl 0 rfl) ?_
        refine lv_if_eq (tgt := 49) hx hb dX3_addBytes_16 (by decide) (fun hc16 => ?_) (fun hc16 => ?_)
        · replace hF := st_t hc16 hF
          exact n_49 rec3 hr3 a1 a2 M H locs ls (lv_sub hl [1, 2, 3] rfl) hw hF
        · replace hF := st_f hc16 hF
          refine lv_aload_n hx hb dX3_addBytes_19 rfl (lv_at hl 1 rfl) ?_
          refine gX3_get fx hw isO_1 2 (by decide) wd1_148 rfl dX3_addBytes_20 ?_
          refine lv_sipush (v := 800) hx hb dX3_addBytes_23 (by decide) ?_
          refine lv_icmp_ge (tgt := 49) hx hb dX3_addBytes_26 (by decide) (fun hc26 => ?_) (fun hc26 => ?_)
          · replace hF := st_t hc26 hF
            exact n_49 rec3 hr3 a1 a2 M H locs ls (lv_sub hl [1, 2, 3] rfl) hw hF
          · replace hF := st_f hc26 hF
            refine lv_aload_n hx hb dX3_addBytes_29 rfl (lv_at hl 1 rfl) ?_
            refine gX3_get fx hw isO_1 0 (by decide) wd1_144 rfl dX3_addBytes_30 ?_
            refine lv_aload_n hx hb dX3_addBytes_33 rfl (lv_at hl 1 rfl) ?_
            refine gX3_get fx hw isO_1 2 (by decide) wd1_148 rfl dX3_addBytes_34 ?_
            refine lv_iload_n hx hb dX3_addBytes_37 rfl (lv_at hl 0 rfl) ?_
            obtain ⟨hi8, hF⟩ := st_chk hF
            obtain ⟨M7, eM7, hF⟩ := st_letM hF
            refine g_iast fx hw isA_2 hi8 eM7 dX3_addBytes_38 (fun H locs hw => ?_)
            refine lv_aload_n hx hb dX3_addBytes_39 rfl (lv_at hl 1 rfl) ?_
            refine lv_dup hx hb dX3_addBytes_40 rfl ?_
            refine gX3_get fx hw isO_1 2 (by decide) wd1_148 rfl dX3_addBytes_41 ?_
            refine lv_iconst (v := 1) hx hb dX3_addBytes_44 (by decide) ?_
            refine lv_iadd hx hb dX3_addBytes_45 ?_
            obtain ⟨M9, eM9, hF⟩ := st_letM hF
            refine gX3_put fx hw isO_1 2 (by decide) wd1_148 rfl eM9 rfl (Nat.le_of_ble_eq_true rfl) dX3_addBytes_46 (fun H locs hw => ?_)
            exact n_49 rec3 hr3 a1 a2 M9 H locs ls (lv_sub hl [1, 2, 3] rfl) hw hF
  unfold f_X3_addBytes at hF
  refine lv_bipush (v := 24) hx hb dX3_addBytes_0 (by decide) ?_
  refine lv_istore_n (lv' := [(2, .int 24), (0, .ref (ad 1)), (1, .int p1)]) hx hb dX3_addBytes_2 rfl hl (by decide) rfl (fun ls hl => ?_)
  exact n_3 FU p1 24 M H locs ls (lv_sub hl [1, 2, 0] rfl) hw hF
theorem c_X3_addBytes (l : Launch) (x : SX) (D : va_G) (cy : Nat → ClassId) (ad : Nat → Nat) (p1 : Int32) (sz : Nat) (M : Mem) (M' : Mem) (hF : f_X3_addBytes p1 M = some M') : Met l yX3_addBytes (.code yX3_addBytes cX3_addBytes 4 none :: GB) ({ frames := 0, cells := 0, slots := 0, locals := 0 } : Room) (PcW D cy ad x sz M [.ref (ad 1), .int p1]) (QvW D cy ad sz M') 0 0 (AA ad sz) := by
  refine mk_m (own := RX3) (by decide) rfl (Nat.le_of_ble_eq_true rfl) ?_
  intro p e s m args below meth c ls fx hw hl hsz
  subst hsz
  exact b_X3_addBytes fx ⟨Nat.le_refl _, Nat.le_refl _, Nat.le_refl _, Nat.le_refl _⟩ p1 M M' hF (fun pc ls H locs M1 hd hw h => by cases h; exact g_vret fx hw hd) _ _ ls hl hw
noncomputable def f_X3_nextToken_134 : Int32 → Mem → Option Mem := fun a1 M => (letM (mput M 1 6 a1) (fun M25 => (some M25)))
noncomputable def f_X3_nextToken_115 : Int32 → Mem → Option Mem := fun a1 M => (if a1 = (M 1 5) then (if (M 1 2) ≤ a1 then ((f_X3_nextToken_134) a1 M) else ((f_X3_nextToken_134) (a1 + 1) M)) else ((f_X3_nextToken_134) a1 M))
noncomputable def f_X3_nextToken_79 (rec79 : Int32 → Mem → Option Mem) : Int32 → Mem → Option Mem := fun a1 M => (if (M 1 2) ≤ a1 then ((f_X3_nextToken_115) a1 M) else (chk (inB a1 800) (if (M 2 (ix a1)) < 48 then ((f_X3_nextToken_115) a1 M) else (chk (inB a1 800) (if 57 < (M 2 (ix a1)) then ((f_X3_nextToken_115) a1 M) else (rec79 (a1 + 1) M))))))
noncomputable def f_X3_nextToken_71 : Int32 → Mem → Option Mem := fun a1 M => (if a1 = (M 1 5) then ((lp (fun _ _ => none) (f_X3_nextToken_79) FU) a1 M) else ((f_X3_nextToken_115) a1 M))
noncomputable def f_X3_nextToken_35 (rec35 : Int32 → Mem → Option Mem) : Int32 → Mem → Option Mem := fun a1 M => (if (M 1 2) ≤ a1 then ((f_X3_nextToken_71) a1 M) else (chk (inB a1 800) (if (M 2 (ix a1)) < 97 then ((f_X3_nextToken_71) a1 M) else (chk (inB a1 800) (if 122 < (M 2 (ix a1)) then ((f_X3_nextToken_71) a1 M) else (rec35 (a1 + 1) M))))))
noncomputable def f_X3_nextToken_30 : Int32 → Mem → Option Mem := fun a1 M => (letM (mput M 1 5 a1) (fun M30 => ((lp (fun _ _ => none) (f_X3_nextToken_35) FU) a1 M30)))
noncomputable def f_X3_nextToken_5 (rec5 : Int32 → Mem → Option Mem) : Int32 → Mem → Option Mem := fun a1 M => (if (M 1 2) ≤ a1 then ((f_X3_nextToken_30) a1 M) else (chk (inB a1 800) (if (M 2 (ix a1)) = 32 then (rec5 (a1 + 1) M) else ((f_X3_nextToken_30) a1 M))))
noncomputable def f_X3_nextToken (M : Mem) : Option Mem := ((lp (fun _ _ => none) (f_X3_nextToken_5) FU) (M 1 6) M)
set_option maxHeartbeats 4000000 in
set_option maxRecDepth 100000 in
theorem b_X3_nextToken {p : Program} {l : Launch} {e : Env} {R : Room} {s : State} {m : MethodId} {args : Array Value} {below : List Frame} {meth : Method} {c : Code} {Q : State → Prop} {D : va_G} {cy : Nat → ClassId} {ad : Nat → Nat} {x : SX} (fx : FX p s m args meth c cX3_nextToken 2 none RX3 D cy ad x) (hR : 0 ≤ R.frames ∧ 0 ≤ R.locals ∧ 0 ≤ R.cells ∧ 0 ≤ R.slots) (M : Mem) (M' : Mem) (hF : f_X3_nextToken M = some M') (E : ∀ (pc : Nat) (ls : Array Slot) (H : Heap) (locs : List Loc) (M1 : Mem), decode cX3_nextToken pc = .ok (.return_, 1) → WD D cy ad s M1 H locs → some M1 = some M' → W p l e R s m args below meth c H locs 0 0 Q (F0 m pc ls [])) (H : Heap) (locs : List Loc) (ls : Array Slot) (hl : lv_has ls 2 [(0, .ref (ad 1))]) (hw : WD D cy ad s M H locs) : W p l e R s m args below meth c H locs 0 0 Q (F0 m 0 ls []) := by
  have hx := fx.1.1
  have hb := fx.1.2.1
  have hown := fx.1.2.2.2.1
  have hts := fx.1.2.2.2.2
  have n_134 : ∀ (a1 : Int32) (M : Mem) (H : Heap) (locs : List Loc) (ls : Array Slot), lv_has ls 2 [(0, .ref (ad 1)), (1, .int a1)] → WD D cy ad s M H locs → f_X3_nextToken_134 a1 M = some M' → W p l e R s m args below meth c H locs 0 0 Q (F0 m 134 ls []) := by
    intro a1 M H locs ls hl hw hF
    unfold f_X3_nextToken_134 at hF
    refine lv_aload_n hx hb dX3_nextToken_134 rfl (lv_at hl 0 rfl) ?_
    refine lv_iload_n hx hb dX3_nextToken_135 rfl (lv_at hl 1 rfl) ?_
    obtain ⟨M25, eM25, hF⟩ := st_letM hF
    refine gX3_put fx hw isO_1 6 (by decide) wd1_154 rfl eM25 rfl (Nat.le_of_ble_eq_true rfl) dX3_nextToken_136 (fun H locs hw => ?_)
    exact E _ _ _ _ _ dX3_nextToken_139 hw hF
  have n_115 : ∀ (a1 : Int32) (M : Mem) (H : Heap) (locs : List Loc) (ls : Array Slot), lv_has ls 2 [(0, .ref (ad 1)), (1, .int a1)] → WD D cy ad s M H locs → f_X3_nextToken_115 a1 M = some M' → W p l e R s m args below meth c H locs 0 0 Q (F0 m 115 ls []) := by
    intro a1 M H locs ls hl hw hF
    unfold f_X3_nextToken_115 at hF
    refine lv_iload_n hx hb dX3_nextToken_115 rfl (lv_at hl 1 rfl) ?_
    refine lv_aload_n hx hb dX3_nextToken_116 rfl (lv_at hl 0 rfl) ?_
    refine gX3_get fx hw isO_1 5 (by decide) wd1_153 rfl dX3_nextToken_117 ?_
    refine lv_icmp_ne (tgt := 134) hx hb dX3_nextToken_120 (by decide) (fun hc120 => ?_) (fun hc120 => ?_)
    · replace hF := st_f hc120 hF
      exact n_134 a1 M H locs ls (lv_sub hl [0, 1] rfl) hw hF
    · replace hF := st_t hc120 hF
      refine lv_iload_n hx hb dX3_nextToken_123 rfl (lv_at hl 1 rfl) ?_
      refine lv_aload_n hx hb dX3_nextToken_124 rfl (lv_at hl 0 rfl) ?_
      refine gX3_get fx hw isO_1 2 (by decide) wd1_148 rfl dX3_nextToken_125 ?_
      refine lv_icmp_ge (tgt := 134) hx hb dX3_nextToken_128 (by decide) (fun hc128 => ?_) (fun hc128 => ?_)
      · replace hF := st_t hc128 hF
        exact n_134 a1 M H locs ls (lv_sub hl [0, 1] rfl) hw hF
      · replace hF := st_f hc128 hF
        refine lv_iinc (v := (a1 + 1)) (lv' := [(1, .int (a1 + 1)), (0, .ref (ad 1))]) hx hb dX3_nextToken_131 hl (k := 1) rfl rfl (by decide) rfl (fun ls hl => ?_)
        exact n_134 (a1 + 1) M H locs ls (lv_sub hl [1, 0] rfl) hw hF
  have n_79 : ∀ (n9 : Nat), ∀ (a1 : Int32) (M : Mem) (H : Heap) (locs : List Loc) (ls : Array Slot), lv_has ls 2 [(0, .ref (ad 1)), (1, .int a1)] → WD D cy ad s M H locs → (lp (fun _ _ => none) (f_X3_nextToken_79) n9) a1 M = some M' → W p l e R s m args below meth c H locs 0 0 Q (F0 m 79 ls []) := by
    intro n9
    refine lp_ind (fun (rec79 : Int32 → Mem → Option Mem) => ∀ (a1 : Int32) (M : Mem) (H : Heap) (locs : List Loc) (ls : Array Slot), lv_has ls 2 [(0, .ref (ad 1)), (1, .int a1)] → WD D cy ad s M H locs → rec79 a1 M = some M' → W p l e R s m args below meth c H locs 0 0 Q (F0 m 79 ls [])) ?_ ?_ n9
    · intro a1 M H locs ls hl hw hF
      exact nomatch hF
    · intro rec79 hr79 a1 M H locs ls hl hw hF
      unfold f_X3_nextToken_79 at hF
      refine lv_iload_n hx hb dX3_nextToken_79 rfl (lv_at hl 1 rfl) ?_
      refine lv_aload_n hx hb dX3_nextToken_80 rfl (lv_at hl 0 rfl) ?_
      refine gX3_get fx hw isO_1 2 (by decide) wd1_148 rfl dX3_nextToken_81 ?_
      refine lv_icmp_ge (tgt := 115) hx hb dX3_nextToken_84 (by decide) (fun hc84 => ?_) (fun hc84 => ?_)
      · replace hF := st_t hc84 hF
        exact n_115 a1 M H locs ls (lv_sub hl [0, 1] rfl) hw hF
      · replace hF := st_f hc84 hF
        refine lv_aload_n hx hb dX3_nextToken_87 rfl (lv_at hl 0 rfl) ?_
        refine gX3_get fx hw isO_1 0 (by decide) wd1_144 rfl dX3_nextToken_88 ?_
        refine lv_iload_n hx hb dX3_nextToken_91 rfl (lv_at hl 1 rfl) ?_
        obtain ⟨hi26, hF⟩ := st_chk hF
        refine g_iald fx hw isA_2 hi26 dX3_nextToken_92 ?_
        refine lv_bipush (v := 48) hx hb dX3_nextToken_93 (by decide) ?_
        refine lv_icmp_lt (tgt := 115) hx hb dX3_nextToken_95 (by decide) (fun hc95 => ?_) (fun hc95 => ?_)
        · replace hF := st_t hc95 hF
          exact n_115 a1 M H locs ls (lv_sub hl [0, 1] rfl) hw hF
        · replace hF := st_f hc95 hF
          refine lv_aload_n hx hb dX3_nextToken_98 rfl (lv_at hl 0 rfl) ?_
          refine gX3_get fx hw isO_1 0 (by decide) wd1_144 rfl dX3_nextToken_99 ?_
          refine lv_iload_n hx hb dX3_nextToken_102 rfl (lv_at hl 1 rfl) ?_
          obtain ⟨hi27, hF⟩ := st_chk hF
          refine g_iald fx hw isA_2 hi27 dX3_nextToken_103 ?_
          refine lv_bipush (v := 57) hx hb dX3_nextToken_104 (by decide) ?_
          refine lv_icmp_gt (tgt := 115) hx hb dX3_nextToken_106 (by decide) (fun hc106 => ?_) (fun hc106 => ?_)
          · replace hF := st_t hc106 hF
            exact n_115 a1 M H locs ls (lv_sub hl [0, 1] rfl) hw hF
          · replace hF := st_f hc106 hF
            refine lv_iinc (v := (a1 + 1)) (lv' := [(1, .int (a1 + 1)), (0, .ref (ad 1))]) hx hb dX3_nextToken_109 hl (k := 1) rfl rfl (by decide) rfl (fun ls hl => ?_)
            refine lv_goto (tgt := 79) hx hb dX3_nextToken_112 (by decide) ?_
            exact hr79 (a1 + 1) M H locs ls (lv_sub hl [1, 0] rfl) hw hF
  have n_71 : ∀ (a1 : Int32) (M : Mem) (H : Heap) (locs : List Loc) (ls : Array Slot), lv_has ls 2 [(0, .ref (ad 1)), (1, .int a1)] → WD D cy ad s M H locs → f_X3_nextToken_71 a1 M = some M' → W p l e R s m args below meth c H locs 0 0 Q (F0 m 71 ls []) := by
    intro a1 M H locs ls hl hw hF
    unfold f_X3_nextToken_71 at hF
    refine lv_iload_n hx hb dX3_nextToken_71 rfl (lv_at hl 1 rfl) ?_
    refine lv_aload_n hx hb dX3_nextToken_72 rfl (lv_at hl 0 rfl) ?_
    refine gX3_get fx hw isO_1 5 (by decide) wd1_153 rfl dX3_nextToken_73 ?_
    refine lv_icmp_ne (tgt := 115) hx hb dX3_nextToken_76 (by decide) (fun hc76 => ?_) (fun hc76 => ?_)
    · replace hF := st_f hc76 hF
      exact n_115 a1 M H locs ls (lv_sub hl [0, 1] rfl) hw hF
    · replace hF := st_t hc76 hF
      exact n_79 FU a1 M H locs ls (lv_sub hl [0, 1] rfl) hw hF
  have n_35 : ∀ (n9 : Nat), ∀ (a1 : Int32) (M : Mem) (H : Heap) (locs : List Loc) (ls : Array Slot), lv_has ls 2 [(0, .ref (ad 1)), (1, .int a1)] → WD D cy ad s M H locs → (lp (fun _ _ => none) (f_X3_nextToken_35) n9) a1 M = some M' → W p l e R s m args below meth c H locs 0 0 Q (F0 m 35 ls []) := by
    intro n9
    refine lp_ind (fun (rec35 : Int32 → Mem → Option Mem) => ∀ (a1 : Int32) (M : Mem) (H : Heap) (locs : List Loc) (ls : Array Slot), lv_has ls 2 [(0, .ref (ad 1)), (1, .int a1)] → WD D cy ad s M H locs → rec35 a1 M = some M' → W p l e R s m args below meth c H locs 0 0 Q (F0 m 35 ls [])) ?_ ?_ n9
    · intro a1 M H locs ls hl hw hF
      exact nomatch hF
    · intro rec35 hr35 a1 M H locs ls hl hw hF
      unfold f_X3_nextToken_35 at hF
      refine lv_iload_n hx hb dX3_nextToken_35 rfl (lv_at hl 1 rfl) ?_
      refine lv_aload_n hx hb dX3_nextToken_36 rfl (lv_at hl 0 rfl) ?_
      refine gX3_get fx hw isO_1 2 (by decide) wd1_148 rfl dX3_nextToken_37 ?_
      refine lv_icmp_ge (tgt := 71) hx hb dX3_nextToken_40 (by decide) (fun hc40 => ?_) (fun hc40 => ?_)
      · replace hF := st_t hc40 hF
        exact n_71 a1 M H locs ls (lv_sub hl [0, 1] rfl) hw hF
      · replace hF := st_f hc40 hF
        refine lv_aload_n hx hb dX3_nextToken_43 rfl (lv_at hl 0 rfl) ?_
        refine gX3_get fx hw isO_1 0 (by decide) wd1_144 rfl dX3_nextToken_44 ?_
        refine lv_iload_n hx hb dX3_nextToken_47 rfl (lv_at hl 1 rfl) ?_
        obtain ⟨hi28, hF⟩ := st_chk hF
        refine g_iald fx hw isA_2 hi28 dX3_nextToken_48 ?_
        refine lv_bipush (v := 97) hx hb dX3_nextToken_49 (by decide) ?_
        refine lv_icmp_lt (tgt := 71) hx hb dX3_nextToken_51 (by decide) (fun hc51 => ?_) (fun hc51 => ?_)
        · replace hF := st_t hc51 hF
          exact n_71 a1 M H locs ls (lv_sub hl [0, 1] rfl) hw hF
        · replace hF := st_f hc51 hF
          refine lv_aload_n hx hb dX3_nextToken_54 rfl (lv_at hl 0 rfl) ?_
          refine gX3_get fx hw isO_1 0 (by decide) wd1_144 rfl dX3_nextToken_55 ?_
          refine lv_iload_n hx hb dX3_nextToken_58 rfl (lv_at hl 1 rfl) ?_
          obtain ⟨hi29, hF⟩ := st_chk hF
          refine g_iald fx hw isA_2 hi29 dX3_nextToken_59 ?_
          refine lv_bipush (v := 122) hx hb dX3_nextToken_60 (by decide) ?_
          refine lv_icmp_gt (tgt := 71) hx hb dX3_nextToken_62 (by decide) (fun hc62 => ?_) (fun hc62 => ?_)
          · replace hF := st_t hc62 hF
            exact n_71 a1 M H locs ls (lv_sub hl [0, 1] rfl) hw hF
          · replace hF := st_f hc62 hF
            refine lv_iinc (v := (a1 + 1)) (lv' := [(1, .int (a1 + 1)), (0, .ref (ad 1))]) hx hb dX3_nextToken_65 hl (k := 1) rfl rfl (by decide) rfl (fun ls hl => ?_)
            refine lv_goto (tgt := 35) hx hb dX3_nextToken_68 (by decide) ?_
            exact hr35 (a1 + 1) M H locs ls (lv_sub hl [1, 0] rfl) hw hF
  have n_30 : ∀ (a1 : Int32) (M : Mem) (H : Heap) (locs : List Loc) (ls : Array Slot), lv_has ls 2 [(0, .ref (ad 1)), (1, .int a1)] → WD D cy ad s M H locs → f_X3_nextToken_30 a1 M = some M' → W p l e R s m args below meth c H locs 0 0 Q (F0 m 30 ls []) := by
    intro a1 M H locs ls hl hw hF
    unfold f_X3_nextToken_30 at hF
    refine lv_aload_n hx hb dX3_nextToken_30 rfl (lv_at hl 0 rfl) ?_
    refine lv_iload_n hx hb dX3_nextToken_31 rfl (lv_at hl 1 rfl) ?_
    obtain ⟨M30, eM30, hF⟩ := st_letM hF
    refine gX3_put fx hw isO_1 5 (by decide) wd1_153 rfl eM30 rfl (Nat.le_of_ble_eq_true rfl) dX3_nextToken_32 (fun H locs hw => ?_)
    exact n_35 FU a1 M30 H locs ls (lv_sub hl [0, 1] rfl) hw hF
  have n_5 : ∀ (n9 : Nat), ∀ (a1 : Int32) (M : Mem) (H : Heap) (locs : List Loc) (ls : Array Slot), lv_has ls 2 [(0, .ref (ad 1)), (1, .int a1)] → WD D cy ad s M H locs → (lp (fun _ _ => none) (f_X3_nextToken_5) n9) a1 M = some M' → W p l e R s m args below meth c H locs 0 0 Q (F0 m 5 ls []) := by
    intro n9
    refine lp_ind (fun (rec5 : Int32 → Mem → Option Mem) => ∀ (a1 : Int32) (M : Mem) (H : Heap) (locs : List Loc) (ls : Array Slot), lv_has ls 2 [(0, .ref (ad 1)), (1, .int a1)] → WD D cy ad s M H locs → rec5 a1 M = some M' → W p l e R s m args below meth c H locs 0 0 Q (F0 m 5 ls [])) ?_ ?_ n9
    · intro a1 M H locs ls hl hw hF
      exact nomatch hF
    · intro rec5 hr5 a1 M H locs ls hl hw hF
      unfold f_X3_nextToken_5 at hF
      refine lv_iload_n hx hb dX3_nextToken_5 rfl (lv_at hl 1 rfl) ?_
      refine lv_aload_n hx hb dX3_nextToken_6 rfl (lv_at hl 0 rfl) ?_
      refine gX3_get fx hw isO_1 2 (by decide) wd1_148 rfl dX3_nextToken_7 ?_
      refine lv_icmp_ge (tgt := 30) hx hb dX3_nextToken_10 (by decide) (fun hc10 => ?_) (fun hc10 => ?_)
      · replace hF := st_t hc10 hF
        exact n_30 a1 M H locs ls (lv_sub hl [0, 1] rfl) hw hF
      · replace hF := st_f hc10 hF
        refine lv_aload_n hx hb dX3_nextToken_13 rfl (lv_at hl 0 rfl) ?_
        refine gX3_get fx hw isO_1 0 (by decide) wd1_144 rfl dX3_nextToken_14 ?_
        refine lv_iload_n hx hb dX3_nextToken_17 rfl (lv_at hl 1 rfl) ?_
        obtain ⟨hi31, hF⟩ := st_chk hF
        refine g_iald fx hw isA_2 hi31 dX3_nextToken_18 ?_
        refine lv_bipush (v := 32) hx hb dX3_nextToken_19 (by decide) ?_
        refine lv_icmp_ne (tgt := 30) hx hb dX3_nextToken_21 (by decide) (fun hc21 => ?_) (fun hc21 => ?_)
        · replace hF := st_f hc21 hF
          exact n_30 a1 M H locs ls (lv_sub hl [0, 1] rfl) hw hF
        · replace hF := st_t hc21 hF
          refine lv_iinc (v := (a1 + 1)) (lv' := [(1, .int (a1 + 1)), (0, .ref (ad 1))]) hx hb dX3_nextToken_24 hl (k := 1) rfl rfl (by decide) rfl (fun ls hl => ?_)
          refine lv_goto (tgt := 5) hx hb dX3_nextToken_27 (by decide) ?_
          exact hr5 (a1 + 1) M H locs ls (lv_sub hl [1, 0] rfl) hw hF
  unfold f_X3_nextToken at hF
  refine lv_aload_n hx hb dX3_nextToken_0 rfl (lv_at hl 0 rfl) ?_
  refine gX3_get fx hw isO_1 6 (by decide) wd1_154 rfl dX3_nextToken_1 ?_
  refine lv_istore_n (lv' := [(1, .int (M 1 6)), (0, .ref (ad 1))]) hx hb dX3_nextToken_4 rfl hl (by decide) rfl (fun ls hl => ?_)
  exact n_5 FU (M 1 6) M H locs ls (lv_sub hl [1, 0] rfl) hw hF
theorem c_X3_nextToken (l : Launch) (x : SX) (D : va_G) (cy : Nat → ClassId) (ad : Nat → Nat) (sz : Nat) (M : Mem) (M' : Mem) (hF : f_X3_nextToken M = some M') : Met l yX3_nextToken (.code yX3_nextToken cX3_nextToken 2 none :: GB) ({ frames := 0, cells := 0, slots := 0, locals := 0 } : Room) (PcW D cy ad x sz M [.ref (ad 1)]) (QvW D cy ad sz M') 0 0 (AA ad sz) := by
  refine mk_m (own := RX3) (by decide) rfl (Nat.le_of_ble_eq_true rfl) ?_
  intro p e s m args below meth c ls fx hw hl hsz
  subst hsz
  exact b_X3_nextToken fx ⟨Nat.le_refl _, Nat.le_refl _, Nat.le_refl _, Nat.le_refl _⟩ M M' hF (fun pc ls H locs M1 hd hw h => by cases h; exact g_vret fx hw hd) _ _ ls hl hw
noncomputable def f_X3_isWord_20 (w1 : Nat) (M : Mem) (rec20 : Int32 → Option Int32) : Int32 → Option Int32 := fun a2 => (bnd (f_J0_length_8abf5 w1 M) (fun r9 => (if r9 ≤ a2 then (some 1) else (chk (inB ((M 1 5) + a2) 800) (bnd (f_J0_charAt_5068e w1 a2 M) (fun r11 => (if (M 2 (ix ((M 1 5) + a2))) = r11 then (rec20 (a2 + 1)) else (some 0))))))))
noncomputable def f_X3_isWord (w1 : Nat) (M : Mem) : Option Int32 := (bnd (f_J0_length_8abf5 w1 M) (fun r12 => (if ((M 1 6) - (M 1 5)) = r12 then ((lp (fun _ => none) (f_X3_isWord_20 w1 M) FU) 0) else (some 0))))
set_option maxHeartbeats 4000000 in
set_option maxRecDepth 100000 in
theorem b_X3_isWord {p : Program} {l : Launch} {e : Env} {R : Room} {s : State} {m : MethodId} {args : Array Value} {below : List Frame} {meth : Method} {c : Code} {Q : State → Prop} {D : va_G} {cy : Nat → ClassId} {ad : Nat → Nat} {x : SX} (fx : FX p s m args meth c cX3_isWord 3 (some .boolean) RX3 D cy ad x) (hR : 4 ≤ R.frames ∧ 85 ≤ R.locals ∧ 0 ≤ R.cells ∧ 0 ≤ R.slots) (w1 : Nat) (hw1 : w1 < 32) (M : Mem) (z : Int32) (hF : f_X3_isWord w1 M = some z) (E : ∀ (pc : Nat) (ls : Array Slot) (H : Heap) (locs : List Loc) (v : Int32), decode cX3_isWord pc = .ok (.ireturn, 1) → (v = 0 ∨ v = 1) → WD D cy ad s M H locs → some v = some z → W p l e R s m args below meth c H locs 0 0 Q (F0 m pc ls [.int v])) (H : Heap) (locs : List Loc) (ls : Array Slot) (hl : lv_has ls 3 [(0, .ref (ad 1)), (1, .ref (x.1 w1))]) (hw : WD D cy ad s M H locs) : W p l e R s m args below meth c H locs 0 0 Q (F0 m 0 ls []) := by
  have hx := fx.1.1
  have hb := fx.1.2.1
  have hown := fx.1.2.2.2.1
  have hts := fx.1.2.2.2.2
  have n_20 : ∀ (n9 : Nat), ∀ (a2 : Int32) (H : Heap) (locs : List Loc) (ls : Array Slot), lv_has ls 3 [(0, .ref (ad 1)), (1, .ref (x.1 w1)), (2, .int a2)] → WD D cy ad s M H locs → (lp (fun _ => none) (f_X3_isWord_20 w1 M) n9) a2 = some z → W p l e R s m args below meth c H locs 0 0 Q (F0 m 20 ls []) := by
    intro n9
    refine lp_ind (fun (rec20 : Int32 → Option Int32) => ∀ (a2 : Int32) (H : Heap) (locs : List Loc) (ls : Array Slot), lv_has ls 3 [(0, .ref (ad 1)), (1, .ref (x.1 w1)), (2, .int a2)] → WD D cy ad s M H locs → rec20 a2 = some z → W p l e R s m args below meth c H locs 0 0 Q (F0 m 20 ls [])) ?_ ?_ n9
    · intro a2 H locs ls hl hw hF
      exact nomatch hF
    · intro rec20 hr20 a2 H locs ls hl hw hF
      unfold f_X3_isWord_20 at hF
      refine lv_iload_n hx hb dX3_isWord_20 rfl (lv_at hl 2 rfl) ?_
      refine lv_aload_n hx hb dX3_isWord_21 rfl (lv_at hl 1 rfl) ?_
      obtain ⟨r9, hgr9, hF⟩ := st_bnd hF
      refine g_ci hw (g_runT (As := []) (rest := [.int a2]) fx hw hw1 (c_J0_length_8abf5 l x D cy ad w1 hw1 H.size M r9 hgr9) wd2_11 wd2_12 wd2_13 wd1_13 wd2_14 yd_J0_length_8abf5 rfl rfl (Nat.le_of_ble_eq_true rfl) hl.1 ⟨Nat.le_trans (Nat.le_of_ble_eq_true rfl) hR.1, Nat.le_trans (Nat.le_of_ble_eq_true rfl) hR.2.1⟩ ⟨Nat.le_trans (Nat.le_of_ble_eq_true rfl) hR.2.2.1, Nat.le_trans (Nat.le_of_ble_eq_true rfl) hR.2.2.2⟩ dX3_isWord_22) (fun H locs hw => ?_)
      refine lv_icmp_ge (tgt := 55) hx hb dX3_isWord_25 (by decide) (fun hc25 => ?_) (fun hc25 => ?_)
      · replace hF := st_t hc25 hF
        refine lv_iconst (v := 1) hx hb dX3_isWord_55 (by decide) ?_
        exact E _ _ _ _ _ dX3_isWord_56 (Or.inr rfl) hw hF
      · replace hF := st_f hc25 hF
        refine lv_aload_n hx hb dX3_isWord_28 rfl (lv_at hl 0 rfl) ?_
        refine gX3_get fx hw isO_1 0 (by decide) wd1_144 rfl dX3_isWord_29 ?_
        refine lv_aload_n hx hb dX3_isWord_32 rfl (lv_at hl 0 rfl) ?_
        refine gX3_get fx hw isO_1 5 (by decide) wd1_153 rfl dX3_isWord_33 ?_
        refine lv_iload_n hx hb dX3_isWord_36 rfl (lv_at hl 2 rfl) ?_
        refine lv_iadd hx hb dX3_isWord_37 ?_
        obtain ⟨hi10, hF⟩ := st_chk hF
        refine g_iald fx hw isA_2 hi10 dX3_isWord_38 ?_
        refine lv_aload_n hx hb dX3_isWord_39 rfl (lv_at hl 1 rfl) ?_
        refine lv_iload_n hx hb dX3_isWord_40 rfl (lv_at hl 2 rfl) ?_
        obtain ⟨r11, hgr11, hF⟩ := st_bnd hF
        refine g_ci hw (g_runT (As := [.int a2]) (rest := [.int (M 2 (ix ((M 1 5) + a2)))]) fx hw hw1 (c_J0_charAt_5068e l x D cy ad w1 hw1 a2 H.size M r11 hgr11) wd2_21 wd2_22 wd2_23 wd1_13 wd2_24 yd_J0_charAt_5068e rfl rfl (Nat.le_of_ble_eq_true rfl) hl.1 ⟨Nat.le_trans (Nat.le_of_ble_eq_true rfl) hR.1, Nat.le_trans (Nat.le_of_ble_eq_true rfl) hR.2.1⟩ ⟨Nat.le_trans (Nat.le_of_ble_eq_true rfl) hR.2.2.1, Nat.le_trans (Nat.le_of_ble_eq_true rfl) hR.2.2.2⟩ dX3_isWord_41) (fun H locs hw => ?_)
        refine lv_icmp_eq (tgt := 49) hx hb dX3_isWord_44 (by decide) (fun hc44 => ?_) (fun hc44 => ?_)
        · replace hF := st_t hc44 hF
          refine lv_iinc (v := (a2 + 1)) (lv' := [(2, .int (a2 + 1)), (0, .ref (ad 1)), (1, .ref (x.1 w1))]) hx hb dX3_isWord_49 hl (k := 2) rfl rfl (by decide) rfl (fun ls hl => ?_)
          refine lv_goto (tgt := 20) hx hb dX3_isWord_52 (by decide) ?_
          exact hr20 (a2 + 1) H locs ls (lv_sub hl [1, 2, 0] rfl) hw hF
        · replace hF := st_f hc44 hF
          refine lv_iconst (v := 0) hx hb dX3_isWord_47 (by decide) ?_
          exact E _ _ _ _ _ dX3_isWord_48 (Or.inl rfl) hw hF
  unfold f_X3_isWord at hF
  refine lv_aload_n hx hb dX3_isWord_0 rfl (lv_at hl 0 rfl) ?_
  refine gX3_get fx hw isO_1 6 (by decide) wd1_154 rfl dX3_isWord_1 ?_
  refine lv_aload_n hx hb dX3_isWord_4 rfl (lv_at hl 0 rfl) ?_
  refine gX3_get fx hw isO_1 5 (by decide) wd1_153 rfl dX3_isWord_5 ?_
  refine lv_isub hx hb dX3_isWord_8 ?_
  refine lv_aload_n hx hb dX3_isWord_9 rfl (lv_at hl 1 rfl) ?_
  obtain ⟨r12, hgr12, hF⟩ := st_bnd hF
  refine g_ci hw (g_runT (As := []) (rest := [.int ((M 1 6) - (M 1 5))]) fx hw hw1 (c_J0_length_8abf5 l x D cy ad w1 hw1 H.size M r12 hgr12) wd2_11 wd2_12 wd2_13 wd1_13 wd2_14 yd_J0_length_8abf5 rfl rfl (Nat.le_of_ble_eq_true rfl) hl.1 ⟨Nat.le_trans (Nat.le_of_ble_eq_true rfl) hR.1, Nat.le_trans (Nat.le_of_ble_eq_true rfl) hR.2.1⟩ ⟨Nat.le_trans (Nat.le_of_ble_eq_true rfl) hR.2.2.1, Nat.le_trans (Nat.le_of_ble_eq_true rfl) hR.2.2.2⟩ dX3_isWord_10) (fun H locs hw => ?_)
  refine lv_icmp_eq (tgt := 18) hx hb dX3_isWord_13 (by decide) (fun hc13 => ?_) (fun hc13 => ?_)
  · replace hF := st_t hc13 hF
    refine lv_iconst (v := 0) hx hb dX3_isWord_18 (by decide) ?_
    refine lv_istore_n (lv' := [(2, .int 0), (0, .ref (ad 1)), (1, .ref (x.1 w1))]) hx hb dX3_isWord_19 rfl hl (by decide) rfl (fun ls hl => ?_)
    exact n_20 FU 0 H locs ls (lv_sub hl [1, 2, 0] rfl) hw hF
  · replace hF := st_f hc13 hF
    refine lv_iconst (v := 0) hx hb dX3_isWord_16 (by decide) ?_
    exact E _ _ _ _ _ dX3_isWord_17 (Or.inl rfl) hw hF
theorem c_X3_isWord (l : Launch) (x : SX) (D : va_G) (cy : Nat → ClassId) (ad : Nat → Nat) (w1 : Nat) (hw1 : w1 < 32) (sz : Nat) (M : Mem) (z : Int32) (hF : f_X3_isWord w1 M = some z) : Met l yX3_isWord (.code yX3_isWord cX3_isWord 3 (some .boolean) :: GB) ({ frames := 4, cells := 0, slots := 0, locals := 85 } : Room) (PcW D cy ad x sz M [.ref (ad 1), .ref (x.1 w1)]) (QzW D cy ad sz z M) 0 0 (AA ad sz) := by
  refine mk_m (own := RX3) (by decide) rfl (Nat.le_of_ble_eq_true rfl) ?_
  intro p e s m args below meth c ls fx hw hl hsz
  subst hsz
  exact b_X3_isWord fx ⟨Nat.le_refl _, Nat.le_refl _, Nat.le_refl _, Nat.le_refl _⟩ w1 hw1 M z hF (fun pc ls H locs v hd hb hw h => by cases h; exact g_zret fx hw rfl hb hd) _ _ ls hl hw
noncomputable def f_X3_takeWord (w1 : Nat) (M : Mem) : Option (Int32 × Mem) := (bnd (f_X3_isWord w1 M) (fun r4 => (if r4 = 0 then (some (0, M)) else (bnd (f_X3_nextToken M) (fun M6 => (some (1, M6)))))))
set_option maxHeartbeats 4000000 in
set_option maxRecDepth 100000 in
theorem b_X3_takeWord {p : Program} {l : Launch} {e : Env} {R : Room} {s : State} {m : MethodId} {args : Array Value} {below : List Frame} {meth : Method} {c : Code} {Q : State → Prop} {D : va_G} {cy : Nat → ClassId} {ad : Nat → Nat} {x : SX} (fx : FX p s m args meth c cX3_takeWord 2 (some .boolean) RX3 D cy ad x) (hR : 5 ≤ R.frames ∧ 107 ≤ R.locals ∧ 0 ≤ R.cells ∧ 0 ≤ R.slots) (w1 : Nat) (hw1 : w1 < 32) (M : Mem) (z : Int32) (M' : Mem) (hF : f_X3_takeWord w1 M = some (z, M')) (E : ∀ (pc : Nat) (ls : Array Slot) (H : Heap) (locs : List Loc) (v : Int32) (M1 : Mem), decode cX3_takeWord pc = .ok (.ireturn, 1) → (v = 0 ∨ v = 1) → WD D cy ad s M1 H locs → some (v, M1) = some (z, M') → W p l e R s m args below meth c H locs 0 0 Q (F0 m pc ls [.int v])) (H : Heap) (locs : List Loc) (ls : Array Slot) (hl : lv_has ls 2 [(0, .ref (ad 1)), (1, .ref (x.1 w1))]) (hw : WD D cy ad s M H locs) : W p l e R s m args below meth c H locs 0 0 Q (F0 m 0 ls []) := by
  have hx := fx.1.1
  have hb := fx.1.2.1
  have hown := fx.1.2.2.2.1
  have hts := fx.1.2.2.2.2
  unfold f_X3_takeWord at hF
  refine lv_aload_n hx hb dX3_takeWord_0 rfl (lv_at hl 0 rfl) ?_
  refine lv_aload_n hx hb dX3_takeWord_1 rfl (lv_at hl 1 rfl) ?_
  obtain ⟨r4, hgr4, hF⟩ := st_bnd hF
  refine g_cz hw (g_runV (C := RX3) (As := [.ref (x.1 w1)]) (rest := []) fx hw isO_1 rfl (c_X3_isWord l x D cy ad w1 hw1 H.size M r4 hgr4) wd2_7 wd2_9 wd0_3 wd1_5 wd2_10 yd_X3_isWord rfl rfl (Nat.le_of_ble_eq_true rfl) hl.1 ⟨Nat.le_trans (Nat.le_of_ble_eq_true rfl) hR.1, Nat.le_trans (Nat.le_of_ble_eq_true rfl) hR.2.1⟩ ⟨Nat.le_trans (Nat.le_of_ble_eq_true rfl) hR.2.2.1, Nat.le_trans (Nat.le_of_ble_eq_true rfl) hR.2.2.2⟩ dX3_takeWord_2) (fun H locs hbr4 hw => ?_)
  refine lv_if_ne (tgt := 10) hx hb dX3_takeWord_5 (by decide) (fun hc5 => ?_) (fun hc5 => ?_)
  · replace hF := st_f hc5 hF
    refine lv_aload_n hx hb dX3_takeWord_10 rfl (lv_at hl 0 rfl) ?_
    obtain ⟨M6, hgr5, hF⟩ := st_bnd hF
    refine g_cv hw (g_runV (C := RX3) (As := []) (rest := []) fx hw isO_1 rfl (c_X3_nextToken l x D cy ad H.size M M6 hgr5) wd1_234 wd1_236 wd0_0 wd1_5 wd1_237 yd_X3_nextToken rfl rfl (Nat.le_of_ble_eq_true rfl) hl.1 ⟨Nat.le_trans (Nat.le_of_ble_eq_true rfl) hR.1, Nat.le_trans (Nat.le_of_ble_eq_true rfl) hR.2.1⟩ ⟨Nat.le_trans (Nat.le_of_ble_eq_true rfl) hR.2.2.1, Nat.le_trans (Nat.le_of_ble_eq_true rfl) hR.2.2.2⟩ dX3_takeWord_11) (fun H locs hw => ?_)
    refine lv_iconst (v := 1) hx hb dX3_takeWord_14 (by decide) ?_
    exact E _ _ _ _ _ _ dX3_takeWord_15 (Or.inr rfl) hw hF
  · replace hF := st_t hc5 hF
    refine lv_iconst (v := 0) hx hb dX3_takeWord_8 (by decide) ?_
    exact E _ _ _ _ _ _ dX3_takeWord_9 (Or.inl rfl) hw hF
theorem c_X3_takeWord (l : Launch) (x : SX) (D : va_G) (cy : Nat → ClassId) (ad : Nat → Nat) (w1 : Nat) (hw1 : w1 < 32) (sz : Nat) (M : Mem) (z : Int32) (M' : Mem) (hF : f_X3_takeWord w1 M = some (z, M')) : Met l yX3_takeWord (.code yX3_takeWord cX3_takeWord 2 (some .boolean) :: GB) ({ frames := 5, cells := 0, slots := 0, locals := 107 } : Room) (PcW D cy ad x sz M [.ref (ad 1), .ref (x.1 w1)]) (QzW D cy ad sz z M') 0 0 (AA ad sz) := by
  refine mk_m (own := RX3) (by decide) rfl (Nat.le_of_ble_eq_true rfl) ?_
  intro p e s m args below meth c ls fx hw hl hsz
  subst hsz
  exact b_X3_takeWord fx ⟨Nat.le_refl _, Nat.le_refl _, Nat.le_refl _, Nat.le_refl _⟩ w1 hw1 M z M' hF (fun pc ls H locs v M1 hd hb hw h => by cases h; exact g_zret fx hw rfl hb hd) _ _ ls hl hw
noncomputable def f_X3_firstByte (M : Mem) : Option Int32 := (if (M 1 2) ≤ (M 1 5) then (some 0) else (chk (inB (M 1 5) 800) (some (M 2 (ix (M 1 5))))))
set_option maxHeartbeats 4000000 in
set_option maxRecDepth 100000 in
theorem b_X3_firstByte {p : Program} {l : Launch} {e : Env} {R : Room} {s : State} {m : MethodId} {args : Array Value} {below : List Frame} {meth : Method} {c : Code} {Q : State → Prop} {D : va_G} {cy : Nat → ClassId} {ad : Nat → Nat} {x : SX} (fx : FX p s m args meth c cX3_firstByte 1 (some .int) RX3 D cy ad x) (hR : 0 ≤ R.frames ∧ 0 ≤ R.locals ∧ 0 ≤ R.cells ∧ 0 ≤ R.slots) (M : Mem) (z : Int32) (hF : f_X3_firstByte M = some z) (E : ∀ (pc : Nat) (ls : Array Slot) (H : Heap) (locs : List Loc) (v : Int32), decode cX3_firstByte pc = .ok (.ireturn, 1) → WD D cy ad s M H locs → some v = some z → W p l e R s m args below meth c H locs 0 0 Q (F0 m pc ls [.int v])) (H : Heap) (locs : List Loc) (ls : Array Slot) (hl : lv_has ls 1 [(0, .ref (ad 1))]) (hw : WD D cy ad s M H locs) : W p l e R s m args below meth c H locs 0 0 Q (F0 m 0 ls []) := by
  have hx := fx.1.1
  have hb := fx.1.2.1
  have hown := fx.1.2.2.2.1
  have hts := fx.1.2.2.2.2
  unfold f_X3_firstByte at hF
  refine lv_aload_n hx hb dX3_firstByte_0 rfl (lv_at hl 0 rfl) ?_
  refine gX3_get fx hw isO_1 5 (by decide) wd1_153 rfl dX3_firstByte_1 ?_
  refine lv_aload_n hx hb dX3_firstByte_4 rfl (lv_at hl 0 rfl) ?_
  refine gX3_get fx hw isO_1 2 (by decide) wd1_148 rfl dX3_firstByte_5 ?_
  refine lv_icmp_ge (tgt := 23) hx hb dX3_firstByte_8 (by decide) (fun hc8 => ?_) (fun hc8 => ?_)
  · replace hF := st_t hc8 hF
    refine lv_iconst (v := 0) hx hb dX3_firstByte_23 (by decide) ?_
    exact E _ _ _ _ _ dX3_firstByte_24 hw hF
  · replace hF := st_f hc8 hF
    refine lv_aload_n hx hb dX3_firstByte_11 rfl (lv_at hl 0 rfl) ?_
    refine gX3_get fx hw isO_1 0 (by decide) wd1_144 rfl dX3_firstByte_12 ?_
    refine lv_aload_n hx hb dX3_firstByte_15 rfl (lv_at hl 0 rfl) ?_
    refine gX3_get fx hw isO_1 5 (by decide) wd1_153 rfl dX3_firstByte_16 ?_
    obtain ⟨hi2, hF⟩ := st_chk hF
    refine g_iald fx hw isA_2 hi2 dX3_firstByte_19 ?_
    refine lv_goto (tgt := 24) hx hb dX3_firstByte_20 (by decide) ?_
    exact E _ _ _ _ _ dX3_firstByte_24 hw hF
theorem c_X3_firstByte (l : Launch) (x : SX) (D : va_G) (cy : Nat → ClassId) (ad : Nat → Nat) (sz : Nat) (M : Mem) (z : Int32) (hF : f_X3_firstByte M = some z) : Met l yX3_firstByte (.code yX3_firstByte cX3_firstByte 1 (some .int) :: GB) ({ frames := 0, cells := 0, slots := 0, locals := 0 } : Room) (PcW D cy ad x sz M [.ref (ad 1)]) (QiW D cy ad sz z M) 0 0 (AA ad sz) := by
  refine mk_m (own := RX3) (by decide) rfl (Nat.le_of_ble_eq_true rfl) ?_
  intro p e s m args below meth c ls fx hw hl hsz
  subst hsz
  exact b_X3_firstByte fx ⟨Nat.le_refl _, Nat.le_refl _, Nat.le_refl _, Nat.le_refl _⟩ M z hF (fun pc ls H locs v hd hw h => by cases h; exact g_iret fx hw rfl hd) _ _ ls hl hw
noncomputable def f_X3_fail (p1 : Int32) (M : Mem) : Option (Int32 × Mem) := (letM (mput M 1 3 p1) (fun M3 => (letM (mput M3 1 4 (M3 1 5)) (fun M4 => (some (0, M4))))))
set_option maxHeartbeats 4000000 in
set_option maxRecDepth 100000 in
theorem b_X3_fail {p : Program} {l : Launch} {e : Env} {R : Room} {s : State} {m : MethodId} {args : Array Value} {below : List Frame} {meth : Method} {c : Code} {Q : State → Prop} {D : va_G} {cy : Nat → ClassId} {ad : Nat → Nat} {x : SX} (fx : FX p s m args meth c cX3_fail 2 (some .boolean) RX3 D cy ad x) (hR : 0 ≤ R.frames ∧ 0 ≤ R.locals ∧ 0 ≤ R.cells ∧ 0 ≤ R.slots) (p1 : Int32) (M : Mem) (z : Int32) (M' : Mem) (hF : f_X3_fail p1 M = some (z, M')) (E : ∀ (pc : Nat) (ls : Array Slot) (H : Heap) (locs : List Loc) (v : Int32) (M1 : Mem), decode cX3_fail pc = .ok (.ireturn, 1) → (v = 0 ∨ v = 1) → WD D cy ad s M1 H locs → some (v, M1) = some (z, M') → W p l e R s m args below meth c H locs 0 0 Q (F0 m pc ls [.int v])) (H : Heap) (locs : List Loc) (ls : Array Slot) (hl : lv_has ls 2 [(0, .ref (ad 1)), (1, .int p1)]) (hw : WD D cy ad s M H locs) : W p l e R s m args below meth c H locs 0 0 Q (F0 m 0 ls []) := by
  have hx := fx.1.1
  have hb := fx.1.2.1
  have hown := fx.1.2.2.2.1
  have hts := fx.1.2.2.2.2
  unfold f_X3_fail at hF
  refine lv_aload_n hx hb dX3_fail_0 rfl (lv_at hl 0 rfl) ?_
  refine lv_iload_n hx hb dX3_fail_1 rfl (lv_at hl 1 rfl) ?_
  obtain ⟨M3, eM3, hF⟩ := st_letM hF
  refine gX3_put fx hw isO_1 3 (by decide) wd1_150 rfl eM3 rfl (Nat.le_of_ble_eq_true rfl) dX3_fail_2 (fun H locs hw => ?_)
  refine lv_aload_n hx hb dX3_fail_5 rfl (lv_at hl 0 rfl) ?_
  refine lv_aload_n hx hb dX3_fail_6 rfl (lv_at hl 0 rfl) ?_
  refine gX3_get fx hw isO_1 5 (by decide) wd1_153 rfl dX3_fail_7 ?_
  obtain ⟨M4, eM4, hF⟩ := st_letM hF
  refine gX3_put fx hw isO_1 4 (by decide) wd1_151 rfl eM4 rfl (Nat.le_of_ble_eq_true rfl) dX3_fail_10 (fun H locs hw => ?_)
  refine lv_iconst (v := 0) hx hb dX3_fail_13 (by decide) ?_
  exact E _ _ _ _ _ _ dX3_fail_14 (Or.inl rfl) hw hF
theorem c_X3_fail (l : Launch) (x : SX) (D : va_G) (cy : Nat → ClassId) (ad : Nat → Nat) (p1 : Int32) (sz : Nat) (M : Mem) (z : Int32) (M' : Mem) (hF : f_X3_fail p1 M = some (z, M')) : Met l yX3_fail (.code yX3_fail cX3_fail 2 (some .boolean) :: GB) ({ frames := 0, cells := 0, slots := 0, locals := 0 } : Room) (PcW D cy ad x sz M [.ref (ad 1), .int p1]) (QzW D cy ad sz z M') 0 0 (AA ad sz) := by
  refine mk_m (own := RX3) (by decide) rfl (Nat.le_of_ble_eq_true rfl) ?_
  intro p e s m args below meth c ls fx hw hl hsz
  subst hsz
  exact b_X3_fail fx ⟨Nat.le_refl _, Nat.le_refl _, Nat.le_refl _, Nat.le_refl _⟩ p1 M z M' hF (fun pc ls H locs v M1 hd hb hw h => by cases h; exact g_zret fx hw rfl hb hd) _ _ ls hl hw
noncomputable def f_X3_takeNumber_18 : Mem → Option (Int32 × Mem) := fun M => (bnd2 (f_X3_fail (-2) M) (fun r17 M18 => (some ((-1), M18))))
noncomputable def f_X3_takeNumber_82 : Mem → Option (Int32 × Mem) := fun M => (bnd2 (f_X3_fail (-3) M) (fun r19 M20 => (some ((-1), M20))))
noncomputable def f_X3_takeNumber_35 (rec35 : Int32 → Int32 → Int32 → Int32 → Mem → Option (Int32 × Mem)) : Int32 → Int32 → Int32 → Int32 → Mem → Option (Int32 × Mem) := fun a1 a2 a3 a4 M => (if (M 1 6) ≤ a4 then (if a3 < a1 then ((f_X3_takeNumber_82) M) else (if a3 ≤ a2 then (bnd (f_X3_nextToken M) (fun M22 => (some (a3, M22)))) else ((f_X3_takeNumber_82) M))) else (chk (inB a4 800) (rec35 a1 a2 (imin (((a3 * 10) + (M 2 (ix a4))) - 48) (a2 + 1)) (a4 + 1) M)))
noncomputable def f_X3_takeNumber (p1 p2 : Int32) (M : Mem) : Option (Int32 × Mem) := (bnd (f_X3_firstByte M) (fun r24 => (if r24 < 48 then ((f_X3_takeNumber_18) M) else (bnd (f_X3_firstByte M) (fun r25 => (if r25 ≤ 57 then ((lp (fun _ _ _ _ _ => none) (f_X3_takeNumber_35) FU) p1 p2 0 (M 1 5) M) else ((f_X3_takeNumber_18) M)))))))
set_option maxHeartbeats 4000000 in
set_option maxRecDepth 100000 in
theorem b_X3_takeNumber {p : Program} {l : Launch} {e : Env} {R : Room} {s : State} {m : MethodId} {args : Array Value} {below : List Frame} {meth : Method} {c : Code} {Q : State → Prop} {D : va_G} {cy : Nat → ClassId} {ad : Nat → Nat} {x : SX} (fx : FX p s m args meth c cX3_takeNumber 5 (some .int) RX3 D cy ad x) (hR : 1 ≤ R.frames ∧ 21 ≤ R.locals ∧ 0 ≤ R.cells ∧ 0 ≤ R.slots) (p1 p2 : Int32) (M : Mem) (z : Int32) (M' : Mem) (hF : f_X3_takeNumber p1 p2 M = some (z, M')) (E : ∀ (pc : Nat) (ls : Array Slot) (H : Heap) (locs : List Loc) (v : Int32) (M1 : Mem), decode cX3_takeNumber pc = .ok (.ireturn, 1) → WD D cy ad s M1 H locs → some (v, M1) = some (z, M') → W p l e R s m args below meth c H locs 0 0 Q (F0 m pc ls [.int v])) (H : Heap) (locs : List Loc) (ls : Array Slot) (hl : lv_has ls 5 [(0, .ref (ad 1)), (1, .int p1), (2, .int p2)]) (hw : WD D cy ad s M H locs) : W p l e R s m args below meth c H locs 0 0 Q (F0 m 0 ls []) := by
  have hx := fx.1.1
  have hb := fx.1.2.1
  have hown := fx.1.2.2.2.1
  have hts := fx.1.2.2.2.2
  have n_18 : ∀ (M : Mem) (H : Heap) (locs : List Loc) (ls : Array Slot), lv_has ls 5 [(0, .ref (ad 1))] → WD D cy ad s M H locs → f_X3_takeNumber_18 M = some (z, M') → W p l e R s m args below meth c H locs 0 0 Q (F0 m 18 ls []) := by
    intro M H locs ls hl hw hF
    unfold f_X3_takeNumber_18 at hF
    refine lv_aload_n hx hb dX3_takeNumber_18 rfl (lv_at hl 0 rfl) ?_
    refine lv_bipush (v := (-2)) hx hb dX3_takeNumber_19 (by decide) ?_
    obtain ⟨r17, M18, hgr17, hF⟩ := st_bnd2 hF
    refine g_cz hw (g_runV (C := RX3) (As := [.int (-2)]) (rest := []) fx hw isO_1 rfl (c_X3_fail l x D cy ad (-2) H.size M r17 M18 hgr17) wd2_67 wd2_69 wd0_6 wd1_5 wd2_70 yd_X3_fail rfl rfl (Nat.le_of_ble_eq_true rfl) hl.1 ⟨Nat.le_trans (Nat.le_of_ble_eq_true rfl) hR.1, Nat.le_trans (Nat.le_of_ble_eq_true rfl) hR.2.1⟩ ⟨Nat.le_trans (Nat.le_of_ble_eq_true rfl) hR.2.2.1, Nat.le_trans (Nat.le_of_ble_eq_true rfl) hR.2.2.2⟩ dX3_takeNumber_21) (fun H locs hbr17 hw => ?_)
    refine lv_pop hx hb dX3_takeNumber_24 rfl ?_
    refine lv_iconst (v := (-1)) hx hb dX3_takeNumber_25 (by decide) ?_
    exact E _ _ _ _ _ _ dX3_takeNumber_26 hw hF
  have n_82 : ∀ (M : Mem) (H : Heap) (locs : List Loc) (ls : Array Slot), lv_has ls 5 [(0, .ref (ad 1))] → WD D cy ad s M H locs → f_X3_takeNumber_82 M = some (z, M') → W p l e R s m args below meth c H locs 0 0 Q (F0 m 82 ls []) := by
    intro M H locs ls hl hw hF
    unfold f_X3_takeNumber_82 at hF
    refine lv_aload_n hx hb dX3_takeNumber_82 rfl (lv_at hl 0 rfl) ?_
    refine lv_bipush (v := (-3)) hx hb dX3_takeNumber_83 (by decide) ?_
    obtain ⟨r19, M20, hgr19, hF⟩ := st_bnd2 hF
    refine g_cz hw (g_runV (C := RX3) (As := [.int (-3)]) (rest := []) fx hw isO_1 rfl (c_X3_fail l x D cy ad (-3) H.size M r19 M20 hgr19) wd2_67 wd2_69 wd0_6 wd1_5 wd2_70 yd_X3_fail rfl rfl (Nat.le_of_ble_eq_true rfl) hl.1 ⟨Nat.le_trans (Nat.le_of_ble_eq_true rfl) hR.1, Nat.le_trans (Nat.le_of_ble_eq_true rfl) hR.2.1⟩ ⟨Nat.le_trans (Nat.le_of_ble_eq_true rfl) hR.2.2.1, Nat.le_trans (Nat.le_of_ble_eq_true rfl) hR.2.2.2⟩ dX3_takeNumber_85) (fun H locs hbr19 hw => ?_)
    refine lv_pop hx hb dX3_takeNumber_88 rfl ?_
    refine lv_iconst (v := (-1)) hx hb dX3_takeNumber_89 (by decide) ?_
    exact E _ _ _ _ _ _ dX3_takeNumber_90 hw hF
  have n_35 : ∀ (n9 : Nat), ∀ (a1 : Int32) (a2 : Int32) (a3 : Int32) (a4 : Int32) (M : Mem) (H : Heap) (locs : List Loc) (ls : Array Slot), lv_has ls 5 [(0, .ref (ad 1)), (1, .int a1), (2, .int a2), (3, .int a3), (4, .int a4)] → WD D cy ad s M H locs → (lp (fun _ _ _ _ _ => none) (f_X3_takeNumber_35) n9) a1 a2 a3 a4 M = some (z, M') → W p l e R s m args below meth c H locs 0 0 Q (F0 m 35 ls []) := by
    intro n9
    refine lp_ind (fun (rec35 : Int32 → Int32 → Int32 → Int32 → Mem → Option (Int32 × Mem)) => ∀ (a1 : Int32) (a2 : Int32) (a3 : Int32) (a4 : Int32) (M : Mem) (H : Heap) (locs : List Loc) (ls : Array Slot), lv_has ls 5 [(0, .ref (ad 1)), (1, .int a1), (2, .int a2), (3, .int a3), (4, .int a4)] → WD D cy ad s M H locs → rec35 a1 a2 a3 a4 M = some (z, M') → W p l e R s m args below meth c H locs 0 0 Q (F0 m 35 ls [])) ?_ ?_ n9
    · intro a1 a2 a3 a4 M H locs ls hl hw hF
      exact nomatch hF
    · intro rec35 hr35 a1 a2 a3 a4 M H locs ls hl hw hF
      unfold f_X3_takeNumber_35 at hF
      refine lv_iload hx hb dX3_takeNumber_35 (lv_at hl 4 rfl) ?_
      refine lv_aload_n hx hb dX3_takeNumber_37 rfl (lv_at hl 0 rfl) ?_
      refine gX3_get fx hw isO_1 6 (by decide) wd1_154 rfl dX3_takeNumber_38 ?_
      refine lv_icmp_ge (tgt := 72) hx hb dX3_takeNumber_41 (by decide) (fun hc41 => ?_) (fun hc41 => ?_)
      · replace hF := st_t hc41 hF
        refine lv_iload_n hx hb dX3_takeNumber_72 rfl (lv_at hl 3 rfl) ?_
        refine lv_iload_n hx hb dX3_takeNumber_73 rfl (lv_at hl 1 rfl) ?_
        refine lv_icmp_lt (tgt := 82) hx hb dX3_takeNumber_74 (by decide) (fun hc74 => ?_) (fun hc74 => ?_)
        · replace hF := st_t hc74 hF
          exact n_82 M H locs ls (lv_sub hl [0] rfl) hw hF
        · replace hF := st_f hc74 hF
          refine lv_iload_n hx hb dX3_takeNumber_77 rfl (lv_at hl 3 rfl) ?_
          refine lv_iload_n hx hb dX3_takeNumber_78 rfl (lv_at hl 2 rfl) ?_
          refine lv_icmp_le (tgt := 91) hx hb dX3_takeNumber_79 (by decide) (fun hc79 => ?_) (fun hc79 => ?_)
          · replace hF := st_t hc79 hF
            refine lv_aload_n hx hb dX3_takeNumber_91 rfl (lv_at hl 0 rfl) ?_
            obtain ⟨M22, hgr21, hF⟩ := st_bnd hF
            refine g_cv hw (g_runV (C := RX3) (As := []) (rest := []) fx hw isO_1 rfl (c_X3_nextToken l x D cy ad H.size M M22 hgr21) wd1_234 wd1_236 wd0_0 wd1_5 wd1_237 yd_X3_nextToken rfl rfl (Nat.le_of_ble_eq_true rfl) hl.1 ⟨Nat.le_trans (Nat.le_of_ble_eq_true rfl) hR.1, Nat.le_trans (Nat.le_of_ble_eq_true rfl) hR.2.1⟩ ⟨Nat.le_trans (Nat.le_of_ble_eq_true rfl) hR.2.2.1, Nat.le_trans (Nat.le_of_ble_eq_true rfl) hR.2.2.2⟩ dX3_takeNumber_92) (fun H locs hw => ?_)
            refine lv_iload_n hx hb dX3_takeNumber_95 rfl (lv_at hl 3 rfl) ?_
            exact E _ _ _ _ _ _ dX3_takeNumber_96 hw hF
          · replace hF := st_f hc79 hF
            exact n_82 M H locs ls (lv_sub hl [0] rfl) hw hF
      · replace hF := st_f hc41 hF
        refine lv_iload_n hx hb dX3_takeNumber_44 rfl (lv_at hl 3 rfl) ?_
        refine lv_bipush (v := 10) hx hb dX3_takeNumber_45 (by decide) ?_
        refine lv_imul hx hb dX3_takeNumber_47 ?_
        refine lv_aload_n hx hb dX3_takeNumber_48 rfl (lv_at hl 0 rfl) ?_
        refine gX3_get fx hw isO_1 0 (by decide) wd1_144 rfl dX3_takeNumber_49 ?_
        refine lv_iload hx hb dX3_takeNumber_52 (lv_at hl 4 rfl) ?_
        obtain ⟨hi23, hF⟩ := st_chk hF
        refine g_iald fx hw isA_2 hi23 dX3_takeNumber_54 ?_
        refine lv_iadd hx hb dX3_takeNumber_55 ?_
        refine lv_bipush (v := 48) hx hb dX3_takeNumber_56 (by decide) ?_
        refine lv_isub hx hb dX3_takeNumber_58 ?_
        refine lv_iload_n hx hb dX3_takeNumber_59 rfl (lv_at hl 2 rfl) ?_
        refine lv_iconst (v := 1) hx hb dX3_takeNumber_60 (by decide) ?_
        refine lv_iadd hx hb dX3_takeNumber_61 ?_
        refine g_mmin fx wd2_71 wd2_72 wd1_17 wd2_73 hl.1 (Nat.le_trans (Nat.le_of_ble_eq_true rfl) hR.1) (Nat.le_trans (Nat.le_of_ble_eq_true rfl) hR.2.1) ⟨Nat.le_trans (Nat.le_of_ble_eq_true rfl) hR.2.2.1, Nat.le_trans (Nat.le_of_ble_eq_true rfl) hR.2.2.2⟩ dX3_takeNumber_62 ?_
        refine lv_istore_n (lv' := [(3, .int (imin (((a3 * 10) + (M 2 (ix a4))) - 48) (a2 + 1))), (0, .ref (ad 1)), (1, .int a1), (2, .int a2), (4, .int a4)]) hx hb dX3_takeNumber_65 rfl hl (by decide) rfl (fun ls hl => ?_)
        refine lv_iinc (v := (a4 + 1)) (lv' := [(4, .int (a4 + 1)), (3, .int (imin (((a3 * 10) + (M 2 (ix a4))) - 48) (a2 + 1))), (0, .ref (ad 1)), (1, .int a1), (2, .int a2)]) hx hb dX3_takeNumber_66 hl (k := 4) rfl rfl (by decide) rfl (fun ls hl => ?_)
        refine lv_goto (tgt := 35) hx hb dX3_takeNumber_69 (by decide) ?_
        exact hr35 a1 a2 (imin (((a3 * 10) + (M 2 (ix a4))) - 48) (a2 + 1)) (a4 + 1) M H locs ls (lv_sub hl [2, 3, 4, 1, 0] rfl) hw hF
  unfold f_X3_takeNumber at hF
  refine lv_aload_n hx hb dX3_takeNumber_0 rfl (lv_at hl 0 rfl) ?_
  obtain ⟨r24, hgr24, hF⟩ := st_bnd hF
  refine g_ci hw (g_runV (C := RX3) (As := []) (rest := []) fx hw isO_1 rfl (c_X3_firstByte l x D cy ad H.size M r24 hgr24) wd2_63 wd2_65 wd0_5 wd1_5 wd2_66 yd_X3_firstByte rfl rfl (Nat.le_of_ble_eq_true rfl) hl.1 ⟨Nat.le_trans (Nat.le_of_ble_eq_true rfl) hR.1, Nat.le_trans (Nat.le_of_ble_eq_true rfl) hR.2.1⟩ ⟨Nat.le_trans (Nat.le_of_ble_eq_true rfl) hR.2.2.1, Nat.le_trans (Nat.le_of_ble_eq_true rfl) hR.2.2.2⟩ dX3_takeNumber_1) (fun H locs hw => ?_)
  refine lv_bipush (v := 48) hx hb dX3_takeNumber_4 (by decide) ?_
  refine lv_icmp_lt (tgt := 18) hx hb dX3_takeNumber_6 (by decide) (fun hc6 => ?_) (fun hc6 => ?_)
  · replace hF := st_t hc6 hF
    exact n_18 M H locs ls (lv_sub hl [0] rfl) hw hF
  · replace hF := st_f hc6 hF
    refine lv_aload_n hx hb dX3_takeNumber_9 rfl (lv_at hl 0 rfl) ?_
    obtain ⟨r25, hgr25, hF⟩ := st_bnd hF
    refine g_ci hw (g_runV (C := RX3) (As := []) (rest := []) fx hw isO_1 rfl (c_X3_firstByte l x D cy ad H.size M r25 hgr25) wd2_63 wd2_65 wd0_5 wd1_5 wd2_66 yd_X3_firstByte rfl rfl (Nat.le_of_ble_eq_true rfl) hl.1 ⟨Nat.le_trans (Nat.le_of_ble_eq_true rfl) hR.1, Nat.le_trans (Nat.le_of_ble_eq_true rfl) hR.2.1⟩ ⟨Nat.le_trans (Nat.le_of_ble_eq_true rfl) hR.2.2.1, Nat.le_trans (Nat.le_of_ble_eq_true rfl) hR.2.2.2⟩ dX3_takeNumber_10) (fun H locs hw => ?_)
    refine lv_bipush (v := 57) hx hb dX3_takeNumber_13 (by decide) ?_
    refine lv_icmp_le (tgt := 27) hx hb dX3_takeNumber_15 (by decide) (fun hc15 => ?_) (fun hc15 => ?_)
    · replace hF := st_t hc15 hF
      refine lv_iconst (v := 0) hx hb dX3_takeNumber_27 (by decide) ?_
      refine lv_istore_n (lv' := [(3, .int 0), (0, .ref (ad 1)), (1, .int p1), (2, .int p2)]) hx hb dX3_takeNumber_28 rfl hl (by decide) rfl (fun ls hl => ?_)
      refine lv_aload_n hx hb dX3_takeNumber_29 rfl (lv_at hl 1 rfl) ?_
      refine gX3_get fx hw isO_1 5 (by decide) wd1_153 rfl dX3_takeNumber_30 ?_
      refine lv_istore (lv' := [(4, .int (M 1 5)), (3, .int 0), (0, .ref (ad 1)), (1, .int p1), (2, .int p2)]) hx hb dX3_takeNumber_33 hl (by decide) rfl (fun ls hl => ?_)
      exact n_35 FU p1 p2 0 (M 1 5) M H locs ls (lv_sub hl [2, 3, 4, 1, 0] rfl) hw hF
    · replace hF := st_f hc15 hF
      exact n_18 M H locs ls (lv_sub hl [0] rfl) hw hF
theorem c_X3_takeNumber (l : Launch) (x : SX) (D : va_G) (cy : Nat → ClassId) (ad : Nat → Nat) (p1 p2 : Int32) (sz : Nat) (M : Mem) (z : Int32) (M' : Mem) (hF : f_X3_takeNumber p1 p2 M = some (z, M')) : Met l yX3_takeNumber (.code yX3_takeNumber cX3_takeNumber 5 (some .int) :: GB) ({ frames := 1, cells := 0, slots := 0, locals := 21 } : Room) (PcW D cy ad x sz M [.ref (ad 1), .int p1, .int p2]) (QiW D cy ad sz z M') 0 0 (AA ad sz) := by
  refine mk_m (own := RX3) (by decide) rfl (Nat.le_of_ble_eq_true rfl) ?_
  intro p e s m args below meth c ls fx hw hl hsz
  subst hsz
  exact b_X3_takeNumber fx ⟨Nat.le_refl _, Nat.le_refl _, Nat.le_refl _, Nat.le_refl _⟩ p1 p2 M z M' hF (fun pc ls H locs v M1 hd hw h => by cases h; exact g_iret fx hw rfl hd) _ _ ls hl hw
noncomputable def f_X3_takeSemicolon (M : Mem) : Option (Int32 × Mem) := (bnd (f_X3_firstByte M) (fun r6 => (if r6 = 59 then (bnd (f_X3_nextToken M) (fun M8 => (some (1, M8)))) else (bnd2 (f_X3_fail (-2) M) (fun r9 M10 => (some (r9, M10)))))))
set_option maxHeartbeats 4000000 in
set_option maxRecDepth 100000 in
theorem b_X3_takeSemicolon {p : Program} {l : Launch} {e : Env} {R : Room} {s : State} {m : MethodId} {args : Array Value} {below : List Frame} {meth : Method} {c : Code} {Q : State → Prop} {D : va_G} {cy : Nat → ClassId} {ad : Nat → Nat} {x : SX} (fx : FX p s m args meth c cX3_takeSemicolon 1 (some .boolean) RX3 D cy ad x) (hR : 1 ≤ R.frames ∧ 21 ≤ R.locals ∧ 0 ≤ R.cells ∧ 0 ≤ R.slots) (M : Mem) (z : Int32) (M' : Mem) (hF : f_X3_takeSemicolon M = some (z, M')) (E : ∀ (pc : Nat) (ls : Array Slot) (H : Heap) (locs : List Loc) (v : Int32) (M1 : Mem), decode cX3_takeSemicolon pc = .ok (.ireturn, 1) → (v = 0 ∨ v = 1) → WD D cy ad s M1 H locs → some (v, M1) = some (z, M') → W p l e R s m args below meth c H locs 0 0 Q (F0 m pc ls [.int v])) (H : Heap) (locs : List Loc) (ls : Array Slot) (hl : lv_has ls 1 [(0, .ref (ad 1))]) (hw : WD D cy ad s M H locs) : W p l e R s m args below meth c H locs 0 0 Q (F0 m 0 ls []) := by
  have hx := fx.1.1
  have hb := fx.1.2.1
  have hown := fx.1.2.2.2.1
  have hts := fx.1.2.2.2.2
  unfold f_X3_takeSemicolon at hF
  refine lv_aload_n hx hb dX3_takeSemicolon_0 rfl (lv_at hl 0 rfl) ?_
  obtain ⟨r6, hgr6, hF⟩ := st_bnd hF
  refine g_ci hw (g_runV (C := RX3) (As := []) (rest := []) fx hw isO_1 rfl (c_X3_firstByte l x D cy ad H.size M r6 hgr6) wd2_63 wd2_65 wd0_5 wd1_5 wd2_66 yd_X3_firstByte rfl rfl (Nat.le_of_ble_eq_true rfl) hl.1 ⟨Nat.le_trans (Nat.le_of_ble_eq_true rfl) hR.1, Nat.le_trans (Nat.le_of_ble_eq_true rfl) hR.2.1⟩ ⟨Nat.le_trans (Nat.le_of_ble_eq_true rfl) hR.2.2.1, Nat.le_trans (Nat.le_of_ble_eq_true rfl) hR.2.2.2⟩ dX3_takeSemicolon_1) (fun H locs hw => ?_)
  refine lv_bipush (v := 59) hx hb dX3_takeSemicolon_4 (by decide) ?_
  refine lv_icmp_eq (tgt := 16) hx hb dX3_takeSemicolon_6 (by decide) (fun hc6 => ?_) (fun hc6 => ?_)
  · replace hF := st_t hc6 hF
    refine lv_aload_n hx hb dX3_takeSemicolon_16 rfl (lv_at hl 0 rfl) ?_
    obtain ⟨M8, hgr7, hF⟩ := st_bnd hF
    refine g_cv hw (g_runV (C := RX3) (As := []) (rest := []) fx hw isO_1 rfl (c_X3_nextToken l x D cy ad H.size M M8 hgr7) wd1_234 wd1_236 wd0_0 wd1_5 wd1_237 yd_X3_nextToken rfl rfl (Nat.le_of_ble_eq_true rfl) hl.1 ⟨Nat.le_trans (Nat.le_of_ble_eq_true rfl) hR.1, Nat.le_trans (Nat.le_of_ble_eq_true rfl) hR.2.1⟩ ⟨Nat.le_trans (Nat.le_of_ble_eq_true rfl) hR.2.2.1, Nat.le_trans (Nat.le_of_ble_eq_true rfl) hR.2.2.2⟩ dX3_takeSemicolon_17) (fun H locs hw => ?_)
    refine lv_iconst (v := 1) hx hb dX3_takeSemicolon_20 (by decide) ?_
    exact E _ _ _ _ _ _ dX3_takeSemicolon_21 (Or.inr rfl) hw hF
  · replace hF := st_f hc6 hF
    refine lv_aload_n hx hb dX3_takeSemicolon_9 rfl (lv_at hl 0 rfl) ?_
    refine lv_bipush (v := (-2)) hx hb dX3_takeSemicolon_10 (by decide) ?_
    obtain ⟨r9, M10, hgr9, hF⟩ := st_bnd2 hF
    refine g_cz hw (g_runV (C := RX3) (As := [.int (-2)]) (rest := []) fx hw isO_1 rfl (c_X3_fail l x D cy ad (-2) H.size M r9 M10 hgr9) wd2_67 wd2_69 wd0_6 wd1_5 wd2_70 yd_X3_fail rfl rfl (Nat.le_of_ble_eq_true rfl) hl.1 ⟨Nat.le_trans (Nat.le_of_ble_eq_true rfl) hR.1, Nat.le_trans (Nat.le_of_ble_eq_true rfl) hR.2.1⟩ ⟨Nat.le_trans (Nat.le_of_ble_eq_true rfl) hR.2.2.1, Nat.le_trans (Nat.le_of_ble_eq_true rfl) hR.2.2.2⟩ dX3_takeSemicolon_12) (fun H locs hbr9 hw => ?_)
    exact E _ _ _ _ _ _ dX3_takeSemicolon_15 hbr9 hw hF
theorem c_X3_takeSemicolon (l : Launch) (x : SX) (D : va_G) (cy : Nat → ClassId) (ad : Nat → Nat) (sz : Nat) (M : Mem) (z : Int32) (M' : Mem) (hF : f_X3_takeSemicolon M = some (z, M')) : Met l yX3_takeSemicolon (.code yX3_takeSemicolon cX3_takeSemicolon 1 (some .boolean) :: GB) ({ frames := 1, cells := 0, slots := 0, locals := 21 } : Room) (PcW D cy ad x sz M [.ref (ad 1)]) (QzW D cy ad sz z M') 0 0 (AA ad sz) := by
  refine mk_m (own := RX3) (by decide) rfl (Nat.le_of_ble_eq_true rfl) ?_
  intro p e s m args below meth c ls fx hw hl hsz
  subst hsz
  exact b_X3_takeSemicolon fx ⟨Nat.le_refl _, Nat.le_refl _, Nat.le_refl _, Nat.le_refl _⟩ M z M' hF (fun pc ls H locs v M1 hd hb hw h => by cases h; exact g_zret fx hw rfl hb hd) _ _ ls hl hw
noncomputable def f_X3_readPaper (M : Mem) : Option (Int32 × Mem) := (bnd2 (f_X3_takeWord 0 M) (fun r8 M9 => (if r8 = 0 then (some (1, M9)) else (bnd2 (f_X3_takeNumber 0 99 M9) (fun r10 M11 => (if r10 = (-1) then (some (0, M11)) else (letM (mput M11 31 14 r10) (fun M12 => (bnd2 (f_X3_takeSemicolon M12) (fun r13 M14 => (some (r13, M14))))))))))))
set_option maxHeartbeats 4000000 in
set_option maxRecDepth 100000 in
theorem b_X3_readPaper {p : Program} {l : Launch} {e : Env} {R : Room} {s : State} {m : MethodId} {args : Array Value} {below : List Frame} {meth : Method} {c : Code} {Q : State → Prop} {D : va_G} {cy : Nat → ClassId} {ad : Nat → Nat} {x : SX} (fx : FX p s m args meth c cX3_readPaper 2 (some .boolean) RX3 D cy ad x) (hR : 6 ≤ R.frames ∧ 128 ≤ R.locals ∧ 0 ≤ R.cells ∧ 0 ≤ R.slots) (M : Mem) (z : Int32) (M' : Mem) (hF : f_X3_readPaper M = some (z, M')) (E : ∀ (pc : Nat) (ls : Array Slot) (H : Heap) (locs : List Loc) (v : Int32) (M1 : Mem), decode cX3_readPaper pc = .ok (.ireturn, 1) → (v = 0 ∨ v = 1) → WD D cy ad s M1 H locs → some (v, M1) = some (z, M') → W p l e R s m args below meth c H locs 0 0 Q (F0 m pc ls [.int v])) (H : Heap) (locs : List Loc) (ls : Array Slot) (hl : lv_has ls 2 [(0, .ref (ad 1))]) (hw : WD D cy ad s M H locs) : W p l e R s m args below meth c H locs 0 0 Q (F0 m 0 ls []) := by
  have hx := fx.1.1
  have hb := fx.1.2.1
  have hown := fx.1.2.2.2.1
  have hts := fx.1.2.2.2.2
  unfold f_X3_readPaper at hF
  refine lv_aload_n hx hb dX3_readPaper_0 rfl (lv_at hl 0 rfl) ?_
  refine va_ldcS hx hb hown (fx.2.2.2.2.str (w := 0) (by decide)).1 dX3_readPaper_1 ?_
  obtain ⟨r8, M9, hgr8, hF⟩ := st_bnd2 hF
  refine g_cz hw (g_runV (C := RX3) (As := [.ref (x.1 0)]) (rest := []) fx hw isO_1 rfl (c_X3_takeWord l x D cy ad 0 (by decide) H.size M r8 M9 hgr8) wd2_3 wd2_5 wd0_2 wd1_5 wd2_6 yd_X3_takeWord rfl rfl (Nat.le_of_ble_eq_true rfl) hl.1 ⟨Nat.le_trans (Nat.le_of_ble_eq_true rfl) hR.1, Nat.le_trans (Nat.le_of_ble_eq_true rfl) hR.2.1⟩ ⟨Nat.le_trans (Nat.le_of_ble_eq_true rfl) hR.2.2.1, Nat.le_trans (Nat.le_of_ble_eq_true rfl) hR.2.2.2⟩ dX3_readPaper_3) (fun H locs hbr8 hw => ?_)
  refine lv_if_ne (tgt := 11) hx hb dX3_readPaper_6 (by decide) (fun hc6 => ?_) (fun hc6 => ?_)
  · replace hF := st_f hc6 hF
    refine lv_aload_n hx hb dX3_readPaper_11 rfl (lv_at hl 0 rfl) ?_
    refine lv_iconst (v := 0) hx hb dX3_readPaper_12 (by decide) ?_
    refine lv_bipush (v := 99) hx hb dX3_readPaper_13 (by decide) ?_
    obtain ⟨r10, M11, hgr10, hF⟩ := st_bnd2 hF
    refine g_ci hw (g_runV (C := RX3) (As := [.int 0, .int 99]) (rest := []) fx hw isO_1 rfl (c_X3_takeNumber l x D cy ad 0 99 H.size M9 r10 M11 hgr10) wd2_59 wd2_61 wd0_4 wd1_5 wd2_62 yd_X3_takeNumber rfl rfl (Nat.le_of_ble_eq_true rfl) hl.1 ⟨Nat.le_trans (Nat.le_of_ble_eq_true rfl) hR.1, Nat.le_trans (Nat.le_of_ble_eq_true rfl) hR.2.1⟩ ⟨Nat.le_trans (Nat.le_of_ble_eq_true rfl) hR.2.2.1, Nat.le_trans (Nat.le_of_ble_eq_true rfl) hR.2.2.2⟩ dX3_readPaper_15) (fun H locs hw => ?_)
    refine lv_istore_n (lv' := [(1, .int r10), (0, .ref (ad 1))]) hx hb dX3_readPaper_18 rfl hl (by decide) rfl (fun ls hl => ?_)
    refine lv_iload_n hx hb dX3_readPaper_19 rfl (lv_at hl 0 rfl) ?_
    refine lv_iconst (v := (-1)) hx hb dX3_readPaper_20 (by decide) ?_
    refine lv_icmp_ne (tgt := 26) hx hb dX3_readPaper_21 (by decide) (fun hc21 => ?_) (fun hc21 => ?_)
    · replace hF := st_f hc21 hF
      refine lv_aload_n hx hb dX3_readPaper_26 rfl (lv_at hl 1 rfl) ?_
      refine gX3_get fx hw isO_1 1 (by decide) wd1_145 rfl dX3_readPaper_27 ?_
      refine lv_iload_n hx hb dX3_readPaper_30 rfl (lv_at hl 0 rfl) ?_
      obtain ⟨M12, eM12, hF⟩ := st_letM hF
      refine gX1_put fx hw isH_31.O 14 (by decide) wd1_68 rfl eM12 rfl (Nat.le_of_ble_eq_true rfl) dX3_readPaper_31 (fun H locs hw => ?_)
      refine lv_aload_n hx hb dX3_readPaper_34 rfl (lv_at hl 1 rfl) ?_
      obtain ⟨r13, M14, hgr13, hF⟩ := st_bnd2 hF
      refine g_cz hw (g_runV (C := RX3) (As := []) (rest := []) fx hw isO_1 rfl (c_X3_takeSemicolon l x D cy ad H.size M12 r13 M14 hgr13) wd2_74 wd2_76 wd0_7 wd1_5 wd2_77 yd_X3_takeSemicolon rfl rfl (Nat.le_of_ble_eq_true rfl) hl.1 ⟨Nat.le_trans (Nat.le_of_ble_eq_true rfl) hR.1, Nat.le_trans (Nat.le_of_ble_eq_true rfl) hR.2.1⟩ ⟨Nat.le_trans (Nat.le_of_ble_eq_true rfl) hR.2.2.1, Nat.le_trans (Nat.le_of_ble_eq_true rfl) hR.2.2.2⟩ dX3_readPaper_35) (fun H locs hbr13 hw => ?_)
      exact E _ _ _ _ _ _ dX3_readPaper_38 hbr13 hw hF
    · replace hF := st_t hc21 hF
      refine lv_iconst (v := 0) hx hb dX3_readPaper_24 (by decide) ?_
      exact E _ _ _ _ _ _ dX3_readPaper_25 (Or.inl rfl) hw hF
  · replace hF := st_t hc6 hF
    refine lv_iconst (v := 1) hx hb dX3_readPaper_9 (by decide) ?_
    exact E _ _ _ _ _ _ dX3_readPaper_10 (Or.inr rfl) hw hF
theorem c_X3_readPaper (l : Launch) (x : SX) (D : va_G) (cy : Nat → ClassId) (ad : Nat → Nat) (sz : Nat) (M : Mem) (z : Int32) (M' : Mem) (hF : f_X3_readPaper M = some (z, M')) : Met l yX3_readPaper (.code yX3_readPaper cX3_readPaper 2 (some .boolean) :: GB) ({ frames := 6, cells := 0, slots := 0, locals := 128 } : Room) (PcW D cy ad x sz M [.ref (ad 1)]) (QzW D cy ad sz z M') 0 0 (AA ad sz) := by
  refine mk_m (own := RX3) (by decide) rfl (Nat.le_of_ble_eq_true rfl) ?_
  intro p e s m args below meth c ls fx hw hl hsz
  subst hsz
  exact b_X3_readPaper fx ⟨Nat.le_refl _, Nat.le_refl _, Nat.le_refl _, Nat.le_refl _⟩ M z M' hF (fun pc ls H locs v M1 hd hb hw h => by cases h; exact g_zret fx hw rfl hb hd) _ _ ls hl hw
noncomputable def f_X3_readGrant (M : Mem) : Option (Int32 × Mem) := (bnd2 (f_X3_takeWord 1 M) (fun r8 M9 => (if r8 = 0 then (some (1, M9)) else (bnd2 (f_X3_takeNumber 0 50 M9) (fun r10 M11 => (if r10 = (-1) then (some (0, M11)) else (letM (mput M11 31 15 r10) (fun M12 => (bnd2 (f_X3_takeSemicolon M12) (fun r13 M14 => (some (r13, M14))))))))))))
set_option maxHeartbeats 4000000 in
set_option maxRecDepth 100000 in
theorem b_X3_readGrant {p : Program} {l : Launch} {e : Env} {R : Room} {s : State} {m : MethodId} {args : Array Value} {below : List Frame} {meth : Method} {c : Code} {Q : State → Prop} {D : va_G} {cy : Nat → ClassId} {ad : Nat → Nat} {x : SX} (fx : FX p s m args meth c cX3_readGrant 2 (some .boolean) RX3 D cy ad x) (hR : 6 ≤ R.frames ∧ 128 ≤ R.locals ∧ 0 ≤ R.cells ∧ 0 ≤ R.slots) (M : Mem) (z : Int32) (M' : Mem) (hF : f_X3_readGrant M = some (z, M')) (E : ∀ (pc : Nat) (ls : Array Slot) (H : Heap) (locs : List Loc) (v : Int32) (M1 : Mem), decode cX3_readGrant pc = .ok (.ireturn, 1) → (v = 0 ∨ v = 1) → WD D cy ad s M1 H locs → some (v, M1) = some (z, M') → W p l e R s m args below meth c H locs 0 0 Q (F0 m pc ls [.int v])) (H : Heap) (locs : List Loc) (ls : Array Slot) (hl : lv_has ls 2 [(0, .ref (ad 1))]) (hw : WD D cy ad s M H locs) : W p l e R s m args below meth c H locs 0 0 Q (F0 m 0 ls []) := by
  have hx := fx.1.1
  have hb := fx.1.2.1
  have hown := fx.1.2.2.2.1
  have hts := fx.1.2.2.2.2
  unfold f_X3_readGrant at hF
  refine lv_aload_n hx hb dX3_readGrant_0 rfl (lv_at hl 0 rfl) ?_
  refine va_ldcS hx hb hown (fx.2.2.2.2.str (w := 1) (by decide)).1 dX3_readGrant_1 ?_
  obtain ⟨r8, M9, hgr8, hF⟩ := st_bnd2 hF
  refine g_cz hw (g_runV (C := RX3) (As := [.ref (x.1 1)]) (rest := []) fx hw isO_1 rfl (c_X3_takeWord l x D cy ad 1 (by decide) H.size M r8 M9 hgr8) wd2_3 wd2_5 wd0_2 wd1_5 wd2_6 yd_X3_takeWord rfl rfl (Nat.le_of_ble_eq_true rfl) hl.1 ⟨Nat.le_trans (Nat.le_of_ble_eq_true rfl) hR.1, Nat.le_trans (Nat.le_of_ble_eq_true rfl) hR.2.1⟩ ⟨Nat.le_trans (Nat.le_of_ble_eq_true rfl) hR.2.2.1, Nat.le_trans (Nat.le_of_ble_eq_true rfl) hR.2.2.2⟩ dX3_readGrant_3) (fun H locs hbr8 hw => ?_)
  refine lv_if_ne (tgt := 11) hx hb dX3_readGrant_6 (by decide) (fun hc6 => ?_) (fun hc6 => ?_)
  · replace hF := st_f hc6 hF
    refine lv_aload_n hx hb dX3_readGrant_11 rfl (lv_at hl 0 rfl) ?_
    refine lv_iconst (v := 0) hx hb dX3_readGrant_12 (by decide) ?_
    refine lv_bipush (v := 50) hx hb dX3_readGrant_13 (by decide) ?_
    obtain ⟨r10, M11, hgr10, hF⟩ := st_bnd2 hF
    refine g_ci hw (g_runV (C := RX3) (As := [.int 0, .int 50]) (rest := []) fx hw isO_1 rfl (c_X3_takeNumber l x D cy ad 0 50 H.size M9 r10 M11 hgr10) wd2_59 wd2_61 wd0_4 wd1_5 wd2_62 yd_X3_takeNumber rfl rfl (Nat.le_of_ble_eq_true rfl) hl.1 ⟨Nat.le_trans (Nat.le_of_ble_eq_true rfl) hR.1, Nat.le_trans (Nat.le_of_ble_eq_true rfl) hR.2.1⟩ ⟨Nat.le_trans (Nat.le_of_ble_eq_true rfl) hR.2.2.1, Nat.le_trans (Nat.le_of_ble_eq_true rfl) hR.2.2.2⟩ dX3_readGrant_15) (fun H locs hw => ?_)
    refine lv_istore_n (lv' := [(1, .int r10), (0, .ref (ad 1))]) hx hb dX3_readGrant_18 rfl hl (by decide) rfl (fun ls hl => ?_)
    refine lv_iload_n hx hb dX3_readGrant_19 rfl (lv_at hl 0 rfl) ?_
    refine lv_iconst (v := (-1)) hx hb dX3_readGrant_20 (by decide) ?_
    refine lv_icmp_ne (tgt := 26) hx hb dX3_readGrant_21 (by decide) (fun hc21 => ?_) (fun hc21 => ?_)
    · replace hF := st_f hc21 hF
      refine lv_aload_n hx hb dX3_readGrant_26 rfl (lv_at hl 1 rfl) ?_
      refine gX3_get fx hw isO_1 1 (by decide) wd1_145 rfl dX3_readGrant_27 ?_
      refine lv_iload_n hx hb dX3_readGrant_30 rfl (lv_at hl 0 rfl) ?_
      obtain ⟨M12, eM12, hF⟩ := st_letM hF
      refine gX1_put fx hw isH_31.O 15 (by decide) wd1_71 rfl eM12 rfl (Nat.le_of_ble_eq_true rfl) dX3_readGrant_31 (fun H locs hw => ?_)
      refine lv_aload_n hx hb dX3_readGrant_34 rfl (lv_at hl 1 rfl) ?_
      obtain ⟨r13, M14, hgr13, hF⟩ := st_bnd2 hF
      refine g_cz hw (g_runV (C := RX3) (As := []) (rest := []) fx hw isO_1 rfl (c_X3_takeSemicolon l x D cy ad H.size M12 r13 M14 hgr13) wd2_74 wd2_76 wd0_7 wd1_5 wd2_77 yd_X3_takeSemicolon rfl rfl (Nat.le_of_ble_eq_true rfl) hl.1 ⟨Nat.le_trans (Nat.le_of_ble_eq_true rfl) hR.1, Nat.le_trans (Nat.le_of_ble_eq_true rfl) hR.2.1⟩ ⟨Nat.le_trans (Nat.le_of_ble_eq_true rfl) hR.2.2.1, Nat.le_trans (Nat.le_of_ble_eq_true rfl) hR.2.2.2⟩ dX3_readGrant_35) (fun H locs hbr13 hw => ?_)
      exact E _ _ _ _ _ _ dX3_readGrant_38 hbr13 hw hF
    · replace hF := st_t hc21 hF
      refine lv_iconst (v := 0) hx hb dX3_readGrant_24 (by decide) ?_
      exact E _ _ _ _ _ _ dX3_readGrant_25 (Or.inl rfl) hw hF
  · replace hF := st_t hc6 hF
    refine lv_iconst (v := 1) hx hb dX3_readGrant_9 (by decide) ?_
    exact E _ _ _ _ _ _ dX3_readGrant_10 (Or.inr rfl) hw hF
theorem c_X3_readGrant (l : Launch) (x : SX) (D : va_G) (cy : Nat → ClassId) (ad : Nat → Nat) (sz : Nat) (M : Mem) (z : Int32) (M' : Mem) (hF : f_X3_readGrant M = some (z, M')) : Met l yX3_readGrant (.code yX3_readGrant cX3_readGrant 2 (some .boolean) :: GB) ({ frames := 6, cells := 0, slots := 0, locals := 128 } : Room) (PcW D cy ad x sz M [.ref (ad 1)]) (QzW D cy ad sz z M') 0 0 (AA ad sz) := by
  refine mk_m (own := RX3) (by decide) rfl (Nat.le_of_ble_eq_true rfl) ?_
  intro p e s m args below meth c ls fx hw hl hsz
  subst hsz
  exact b_X3_readGrant fx ⟨Nat.le_refl _, Nat.le_refl _, Nat.le_refl _, Nat.le_refl _⟩ M z M' hF (fun pc ls H locs v M1 hd hb hw h => by cases h; exact g_zret fx hw rfl hb hd) _ _ ls hl hw
noncomputable def f_X3_nameHere_32 : Mem → Option (Int32 × Mem) := fun M => (bnd2 (f_X3_fail (-2) M) (fun r13 M14 => (some (0, M14))))
noncomputable def f_X3_nameHere_48 (rec48 : Int32 → Int32 → Mem → Option (Int32 × Mem)) : Int32 → Int32 → Mem → Option (Int32 × Mem) := fun a1 a2 M => (if (M 1 6) ≤ a2 then (some (a1, M)) else (chk (inB a2 800) (bnd (f_X2_with a1 (M 2 (ix a2)) M) (fun r16 => (rec48 r16 (a2 + 1) M)))))
noncomputable def f_X3_nameHere (M : Mem) : Option (Int32 × Mem) := (bnd (f_X3_firstByte M) (fun r17 => (if r17 < 97 then ((f_X3_nameHere_32) M) else (bnd (f_X3_firstByte M) (fun r18 => (if 122 < r18 then ((f_X3_nameHere_32) M) else (if ((M 1 6) - (M 1 5)) ≤ 6 then ((lp (fun _ _ _ => none) (f_X3_nameHere_48) FU) 0 (M 1 5) M) else ((f_X3_nameHere_32) M))))))))
set_option maxHeartbeats 4000000 in
set_option maxRecDepth 100000 in
theorem b_X3_nameHere {p : Program} {l : Launch} {e : Env} {R : Room} {s : State} {m : MethodId} {args : Array Value} {below : List Frame} {meth : Method} {c : Code} {Q : State → Prop} {D : va_G} {cy : Nat → ClassId} {ad : Nat → Nat} {x : SX} (fx : FX p s m args meth c cX3_nameHere 3 (some .int) RX3 D cy ad x) (hR : 1 ≤ R.frames ∧ 21 ≤ R.locals ∧ 0 ≤ R.cells ∧ 0 ≤ R.slots) (M : Mem) (z : Int32) (M' : Mem) (hF : f_X3_nameHere M = some (z, M')) (E : ∀ (pc : Nat) (ls : Array Slot) (H : Heap) (locs : List Loc) (v : Int32) (M1 : Mem), decode cX3_nameHere pc = .ok (.ireturn, 1) → WD D cy ad s M1 H locs → some (v, M1) = some (z, M') → W p l e R s m args below meth c H locs 0 0 Q (F0 m pc ls [.int v])) (H : Heap) (locs : List Loc) (ls : Array Slot) (hl : lv_has ls 3 [(0, .ref (ad 1))]) (hw : WD D cy ad s M H locs) : W p l e R s m args below meth c H locs 0 0 Q (F0 m 0 ls []) := by
  have hx := fx.1.1
  have hb := fx.1.2.1
  have hown := fx.1.2.2.2.1
  have hts := fx.1.2.2.2.2
  have n_32 : ∀ (M : Mem) (H : Heap) (locs : List Loc) (ls : Array Slot), lv_has ls 3 [(0, .ref (ad 1))] → WD D cy ad s M H locs → f_X3_nameHere_32 M = some (z, M') → W p l e R s m args below meth c H locs 0 0 Q (F0 m 32 ls []) := by
    intro M H locs ls hl hw hF
    unfold f_X3_nameHere_32 at hF
    refine lv_aload_n hx hb dX3_nameHere_32 rfl (lv_at hl 0 rfl) ?_
    refine lv_bipush (v := (-2)) hx hb dX3_nameHere_33 (by decide) ?_
    obtain ⟨r13, M14, hgr13, hF⟩ := st_bnd2 hF
    refine g_cz hw (g_runV (C := RX3) (As := [.int (-2)]) (rest := []) fx hw isO_1 rfl (c_X3_fail l x D cy ad (-2) H.size M r13 M14 hgr13) wd2_67 wd2_69 wd0_6 wd1_5 wd2_70 yd_X3_fail rfl rfl (Nat.le_of_ble_eq_true rfl) hl.1 ⟨Nat.le_trans (Nat.le_of_ble_eq_true rfl) hR.1, Nat.le_trans (Nat.le_of_ble_eq_true rfl) hR.2.1⟩ ⟨Nat.le_trans (Nat.le_of_ble_eq_true rfl) hR.2.2.1, Nat.le_trans (Nat.le_of_ble_eq_true rfl) hR.2.2.2⟩ dX3_nameHere_35) (fun H locs hbr13 hw => ?_)
    refine lv_pop hx hb dX3_nameHere_38 rfl ?_
    refine lv_iconst (v := 0) hx hb dX3_nameHere_39 (by decide) ?_
    exact E _ _ _ _ _ _ dX3_nameHere_40 hw hF
  have n_48 : ∀ (n9 : Nat), ∀ (a1 : Int32) (a2 : Int32) (M : Mem) (H : Heap) (locs : List Loc) (ls : Array Slot), lv_has ls 3 [(0, .ref (ad 1)), (1, .int a1), (2, .int a2)] → WD D cy ad s M H locs → (lp (fun _ _ _ => none) (f_X3_nameHere_48) n9) a1 a2 M = some (z, M') → W p l e R s m args below meth c H locs 0 0 Q (F0 m 48 ls []) := by
    intro n9
    refine lp_ind (fun (rec48 : Int32 → Int32 → Mem → Option (Int32 × Mem)) => ∀ (a1 : Int32) (a2 : Int32) (M : Mem) (H : Heap) (locs : List Loc) (ls : Array Slot), lv_has ls 3 [(0, .ref (ad 1)), (1, .int a1), (2, .int a2)] → WD D cy ad s M H locs → rec48 a1 a2 M = some (z, M') → W p l e R s m args below meth c H locs 0 0 Q (F0 m 48 ls [])) ?_ ?_ n9
    · intro a1 a2 M H locs ls hl hw hF
      exact nomatch hF
    · intro rec48 hr48 a1 a2 M H locs ls hl hw hF
      unfold f_X3_nameHere_48 at hF
      refine lv_iload_n hx hb dX3_nameHere_48 rfl (lv_at hl 2 rfl) ?_
      refine lv_aload_n hx hb dX3_nameHere_49 rfl (lv_at hl 0 rfl) ?_
      refine gX3_get fx hw isO_1 6 (by decide) wd1_154 rfl dX3_nameHere_50 ?_
      refine lv_icmp_ge (tgt := 73) hx hb dX3_nameHere_53 (by decide) (fun hc53 => ?_) (fun hc53 => ?_)
      · replace hF := st_t hc53 hF
        refine lv_iload_n hx hb dX3_nameHere_73 rfl (lv_at hl 1 rfl) ?_
        exact E _ _ _ _ _ _ dX3_nameHere_74 hw hF
      · replace hF := st_f hc53 hF
        refine lv_iload_n hx hb dX3_nameHere_56 rfl (lv_at hl 1 rfl) ?_
        refine lv_aload_n hx hb dX3_nameHere_57 rfl (lv_at hl 0 rfl) ?_
        refine gX3_get fx hw isO_1 0 (by decide) wd1_144 rfl dX3_nameHere_58 ?_
        refine lv_iload_n hx hb dX3_nameHere_61 rfl (lv_at hl 2 rfl) ?_
        obtain ⟨hi15, hF⟩ := st_chk hF
        refine g_iald fx hw isA_2 hi15 dX3_nameHere_62 ?_
        obtain ⟨r16, hgr16, hF⟩ := st_bnd hF
        refine g_ci hw (g_runS (As := [.int a1, .int (M 2 (ix a2))]) (rest := []) fx hw (c_X2_with l x D cy ad a1 (M 2 (ix a2)) H.size M r16 hgr16) wd2_96 wd1_126 wd1_4 wd1_127 yd_X2_with rfl rfl (Nat.le_of_ble_eq_true rfl) hl.1 ⟨Nat.le_trans (Nat.le_of_ble_eq_true rfl) hR.1, Nat.le_trans (Nat.le_of_ble_eq_true rfl) hR.2.1⟩ ⟨Nat.le_trans (Nat.le_of_ble_eq_true rfl) hR.2.2.1, Nat.le_trans (Nat.le_of_ble_eq_true rfl) hR.2.2.2⟩ dX3_nameHere_63) (fun H locs hw => ?_)
        refine lv_istore_n (lv' := [(1, .int r16), (0, .ref (ad 1)), (2, .int a2)]) hx hb dX3_nameHere_66 rfl hl (by decide) rfl (fun ls hl => ?_)
        refine lv_iinc (v := (a2 + 1)) (lv' := [(2, .int (a2 + 1)), (1, .int r16), (0, .ref (ad 1))]) hx hb dX3_nameHere_67 hl (k := 2) rfl rfl (by decide) rfl (fun ls hl => ?_)
        refine lv_goto (tgt := 48) hx hb dX3_nameHere_70 (by decide) ?_
        exact hr48 r16 (a2 + 1) M H locs ls (lv_sub hl [2, 1, 0] rfl) hw hF
  unfold f_X3_nameHere at hF
  refine lv_aload_n hx hb dX3_nameHere_0 rfl (lv_at hl 0 rfl) ?_
  obtain ⟨r17, hgr17, hF⟩ := st_bnd hF
  refine g_ci hw (g_runV (C := RX3) (As := []) (rest := []) fx hw isO_1 rfl (c_X3_firstByte l x D cy ad H.size M r17 hgr17) wd2_63 wd2_65 wd0_5 wd1_5 wd2_66 yd_X3_firstByte rfl rfl (Nat.le_of_ble_eq_true rfl) hl.1 ⟨Nat.le_trans (Nat.le_of_ble_eq_true rfl) hR.1, Nat.le_trans (Nat.le_of_ble_eq_true rfl) hR.2.1⟩ ⟨Nat.le_trans (Nat.le_of_ble_eq_true rfl) hR.2.2.1, Nat.le_trans (Nat.le_of_ble_eq_true rfl) hR.2.2.2⟩ dX3_nameHere_1) (fun H locs hw => ?_)
  refine lv_bipush (v := 97) hx hb dX3_nameHere_4 (by decide) ?_
  refine lv_icmp_lt (tgt := 32) hx hb dX3_nameHere_6 (by decide) (fun hc6 => ?_) (fun hc6 => ?_)
  · replace hF := st_t hc6 hF
    exact n_32 M H locs ls (lv_sub hl [0] rfl) hw hF
  · replace hF := st_f hc6 hF
    refine lv_aload_n hx hb dX3_nameHere_9 rfl (lv_at hl 0 rfl) ?_
    obtain ⟨r18, hgr18, hF⟩ := st_bnd hF
    refine g_ci hw (g_runV (C := RX3) (As := []) (rest := []) fx hw isO_1 rfl (c_X3_firstByte l x D cy ad H.size M r18 hgr18) wd2_63 wd2_65 wd0_5 wd1_5 wd2_66 yd_X3_firstByte rfl rfl (Nat.le_of_ble_eq_true rfl) hl.1 ⟨Nat.le_trans (Nat.le_of_ble_eq_true rfl) hR.1, Nat.le_trans (Nat.le_of_ble_eq_true rfl) hR.2.1⟩ ⟨Nat.le_trans (Nat.le_of_ble_eq_true rfl) hR.2.2.1, Nat.le_trans (Nat.le_of_ble_eq_true rfl) hR.2.2.2⟩ dX3_nameHere_10) (fun H locs hw => ?_)
    refine lv_bipush (v := 122) hx hb dX3_nameHere_13 (by decide) ?_
    refine lv_icmp_gt (tgt := 32) hx hb dX3_nameHere_15 (by decide) (fun hc15 => ?_) (fun hc15 => ?_)
    · replace hF := st_t hc15 hF
      exact n_32 M H locs ls (lv_sub hl [0] rfl) hw hF
    · replace hF := st_f hc15 hF
      refine lv_aload_n hx hb dX3_nameHere_18 rfl (lv_at hl 0 rfl) ?_
      refine gX3_get fx hw isO_1 6 (by decide) wd1_154 rfl dX3_nameHere_19 ?_
      refine lv_aload_n hx hb dX3_nameHere_22 rfl (lv_at hl 0 rfl) ?_
      refine gX3_get fx hw isO_1 5 (by decide) wd1_153 rfl dX3_nameHere_23 ?_
      refine lv_isub hx hb dX3_nameHere_26 ?_
      refine lv_bipush (v := 6) hx hb dX3_nameHere_27 (by decide) ?_
      refine lv_icmp_le (tgt := 41) hx hb dX3_nameHere_29 (by decide) (fun hc29 => ?_) (fun hc29 => ?_)
      · replace hF := st_t hc29 hF
        refine lv_iconst (v := 0) hx hb dX3_nameHere_41 (by decide) ?_
        refine lv_istore_n (lv' := [(1, .int 0), (0, .ref (ad 1))]) hx hb dX3_nameHere_42 rfl hl (by decide) rfl (fun ls hl => ?_)
        refine lv_aload_n hx hb dX3_nameHere_43 rfl (lv_at hl 1 rfl) ?_
        refine gX3_get fx hw isO_1 5 (by decide) wd1_153 rfl dX3_nameHere_44 ?_
        refine lv_istore_n (lv' := [(2, .int (M 1 5)), (1, .int 0), (0, .ref (ad 1))]) hx hb dX3_nameHere_47 rfl hl (by decide) rfl (fun ls hl => ?_)
        exact n_48 FU 0 (M 1 5) M H locs ls (lv_sub hl [2, 1, 0] rfl) hw hF
      · replace hF := st_f hc29 hF
        exact n_32 M H locs ls (lv_sub hl [0] rfl) hw hF
theorem c_X3_nameHere (l : Launch) (x : SX) (D : va_G) (cy : Nat → ClassId) (ad : Nat → Nat) (sz : Nat) (M : Mem) (z : Int32) (M' : Mem) (hF : f_X3_nameHere M = some (z, M')) : Met l yX3_nameHere (.code yX3_nameHere cX3_nameHere 3 (some .int) :: GB) ({ frames := 1, cells := 0, slots := 0, locals := 21 } : Room) (PcW D cy ad x sz M [.ref (ad 1)]) (QiW D cy ad sz z M') 0 0 (AA ad sz) := by
  refine mk_m (own := RX3) (by decide) rfl (Nat.le_of_ble_eq_true rfl) ?_
  intro p e s m args below meth c ls fx hw hl hsz
  subst hsz
  exact b_X3_nameHere fx ⟨Nat.le_refl _, Nat.le_refl _, Nat.le_refl _, Nat.le_refl _⟩ M z M' hF (fun pc ls H locs v M1 hd hw h => by cases h; exact g_iret fx hw rfl hd) _ _ ls hl hw
noncomputable def f_X3_readNeed (M : Mem) : Option (Int32 × Mem) := (bnd2 (f_X3_nameHere M) (fun r14 M15 => (if r14 = 0 then (some (0, M15)) else (bnd (f_X1_needNamed 31 r14 M15) (fun r16 => (if r16 = (-1) then (bnd (f_X3_nextToken M15) (fun M18 => (bnd2 (f_X3_takeNumber 1 20 M18) (fun r19 M20 => (if r19 = (-1) then (some (0, M20)) else (bnd (f_X1_addNeed 31 r14 r19 M20) (fun M22 => (bnd2 (f_X3_takeSemicolon M22) (fun r23 M24 => (some (r23, M24))))))))))) else (bnd2 (f_X3_fail (-5) M15) (fun r25 M26 => (some (r25, M26))))))))))
set_option maxHeartbeats 4000000 in
set_option maxRecDepth 100000 in
theorem b_X3_readNeed {p : Program} {l : Launch} {e : Env} {R : Room} {s : State} {m : MethodId} {args : Array Value} {below : List Frame} {meth : Method} {c : Code} {Q : State → Prop} {D : va_G} {cy : Nat → ClassId} {ad : Nat → Nat} {x : SX} (fx : FX p s m args meth c cX3_readNeed 3 (some .boolean) RX3 D cy ad x) (hR : 2 ≤ R.frames ∧ 45 ≤ R.locals ∧ 0 ≤ R.cells ∧ 0 ≤ R.slots) (M : Mem) (z : Int32) (M' : Mem) (hF : f_X3_readNeed M = some (z, M')) (E : ∀ (pc : Nat) (ls : Array Slot) (H : Heap) (locs : List Loc) (v : Int32) (M1 : Mem), decode cX3_readNeed pc = .ok (.ireturn, 1) → (v = 0 ∨ v = 1) → WD D cy ad s M1 H locs → some (v, M1) = some (z, M') → W p l e R s m args below meth c H locs 0 0 Q (F0 m pc ls [.int v])) (H : Heap) (locs : List Loc) (ls : Array Slot) (hl : lv_has ls 3 [(0, .ref (ad 1))]) (hw : WD D cy ad s M H locs) : W p l e R s m args below meth c H locs 0 0 Q (F0 m 0 ls []) := by
  have hx := fx.1.1
  have hb := fx.1.2.1
  have hown := fx.1.2.2.2.1
  have hts := fx.1.2.2.2.2
  unfold f_X3_readNeed at hF
  refine lv_aload_n hx hb dX3_readNeed_0 rfl (lv_at hl 0 rfl) ?_
  obtain ⟨r14, M15, hgr14, hF⟩ := st_bnd2 hF
  refine g_ci hw (g_runV (C := RX3) (As := []) (rest := []) fx hw isO_1 rfl (c_X3_nameHere l x D cy ad H.size M r14 M15 hgr14) wd2_92 wd2_94 wd0_11 wd1_5 wd2_95 yd_X3_nameHere rfl rfl (Nat.le_of_ble_eq_true rfl) hl.1 ⟨Nat.le_trans (Nat.le_of_ble_eq_true rfl) hR.1, Nat.le_trans (Nat.le_of_ble_eq_true rfl) hR.2.1⟩ ⟨Nat.le_trans (Nat.le_of_ble_eq_true rfl) hR.2.2.1, Nat.le_trans (Nat.le_of_ble_eq_true rfl) hR.2.2.2⟩ dX3_readNeed_1) (fun H locs hw => ?_)
  refine lv_istore_n (lv' := [(1, .int r14), (0, .ref (ad 1))]) hx hb dX3_readNeed_4 rfl hl (by decide) rfl (fun ls hl => ?_)
  refine lv_iload_n hx hb dX3_readNeed_5 rfl (lv_at hl 0 rfl) ?_
  refine lv_if_ne (tgt := 11) hx hb dX3_readNeed_6 (by decide) (fun hc6 => ?_) (fun hc6 => ?_)
  · replace hF := st_f hc6 hF
    refine lv_aload_n hx hb dX3_readNeed_11 rfl (lv_at hl 1 rfl) ?_
    refine gX3_get fx hw isO_1 1 (by decide) wd1_145 rfl dX3_readNeed_12 ?_
    refine lv_iload_n hx hb dX3_readNeed_15 rfl (lv_at hl 0 rfl) ?_
    obtain ⟨r16, hgr16, hF⟩ := st_bnd hF
    refine g_ci hw (g_runV (C := RX1) (As := [.int r14]) (rest := []) fx hw isH_31.O rfl (c_X1_needNamed l x D cy ad 31 isH_31 r14 H.size M15 r16 hgr16) wd2_97 wd2_98 wd2_99 wd1_2 wd2_100 yd_X1_needNamed rfl rfl (Nat.le_of_ble_eq_true rfl) hl.1 ⟨Nat.le_trans (Nat.le_of_ble_eq_true rfl) hR.1, Nat.le_trans (Nat.le_of_ble_eq_true rfl) hR.2.1⟩ ⟨Nat.le_trans (Nat.le_of_ble_eq_true rfl) hR.2.2.1, Nat.le_trans (Nat.le_of_ble_eq_true rfl) hR.2.2.2⟩ dX3_readNeed_16) (fun H locs hw => ?_)
    refine lv_iconst (v := (-1)) hx hb dX3_readNeed_19 (by decide) ?_
    refine lv_icmp_eq (tgt := 30) hx hb dX3_readNeed_20 (by decide) (fun hc20 => ?_) (fun hc20 => ?_)
    · replace hF := st_t hc20 hF
      refine lv_aload_n hx hb dX3_readNeed_30 rfl (lv_at hl 1 rfl) ?_
      obtain ⟨M18, hgr17, hF⟩ := st_bnd hF
      refine g_cv hw (g_runV (C := RX3) (As := []) (rest := []) fx hw isO_1 rfl (c_X3_nextToken l x D cy ad H.size M15 M18 hgr17) wd1_234 wd1_236 wd0_0 wd1_5 wd1_237 yd_X3_nextToken rfl rfl (Nat.le_of_ble_eq_true rfl) hl.1 ⟨Nat.le_trans (Nat.le_of_ble_eq_true rfl) hR.1, Nat.le_trans (Nat.le_of_ble_eq_true rfl) hR.2.1⟩ ⟨Nat.le_trans (Nat.le_of_ble_eq_true rfl) hR.2.2.1, Nat.le_trans (Nat.le_of_ble_eq_true rfl) hR.2.2.2⟩ dX3_readNeed_31) (fun H locs hw => ?_)
      refine lv_aload_n hx hb dX3_readNeed_34 rfl (lv_at hl 1 rfl) ?_
      refine lv_iconst (v := 1) hx hb dX3_readNeed_35 (by decide) ?_
      refine lv_bipush (v := 20) hx hb dX3_readNeed_36 (by decide) ?_
      obtain ⟨r19, M20, hgr19, hF⟩ := st_bnd2 hF
      refine g_ci hw (g_runV (C := RX3) (As := [.int 1, .int 20]) (rest := []) fx hw isO_1 rfl (c_X3_takeNumber l x D cy ad 1 20 H.size M18 r19 M20 hgr19) wd2_59 wd2_61 wd0_4 wd1_5 wd2_62 yd_X3_takeNumber rfl rfl (Nat.le_of_ble_eq_true rfl) hl.1 ⟨Nat.le_trans (Nat.le_of_ble_eq_true rfl) hR.1, Nat.le_trans (Nat.le_of_ble_eq_true rfl) hR.2.1⟩ ⟨Nat.le_trans (Nat.le_of_ble_eq_true rfl) hR.2.2.1, Nat.le_trans (Nat.le_of_ble_eq_true rfl) hR.2.2.2⟩ dX3_readNeed_38) (fun H locs hw => ?_)
      refine lv_istore_n (lv' := [(2, .int r19), (1, .int r14), (0, .ref (ad 1))]) hx hb dX3_readNeed_41 rfl hl (by decide) rfl (fun ls hl => ?_)
      refine lv_iload_n hx hb dX3_readNeed_42 rfl (lv_at hl 0 rfl) ?_
      refine lv_iconst (v := (-1)) hx hb dX3_readNeed_43 (by decide) ?_
      refine lv_icmp_ne (tgt := 49) hx hb dX3_readNeed_44 (by decide) (fun hc44 => ?_) (fun hc44 => ?_)
      · replace hF := st_f hc44 hF
        refine lv_aload_n hx hb dX3_readNeed_49 rfl (lv_at hl 2 rfl) ?_
        refine gX3_get fx hw isO_1 1 (by decide) wd1_145 rfl dX3_readNeed_50 ?_
        refine lv_iload_n hx hb dX3_readNeed_53 rfl (lv_at hl 1 rfl) ?_
        refine lv_iload_n hx hb dX3_readNeed_54 rfl (lv_at hl 0 rfl) ?_
        obtain ⟨M22, hgr21, hF⟩ := st_bnd hF
        refine g_cv hw (g_runV (C := RX1) (As := [.int r14, .int r19]) (rest := []) fx hw isH_31.O rfl (c_X1_addNeed l x D cy ad 31 isH_31 r14 r19 H.size M20 M22 hgr21) wd2_101 wd1_129 wd1_130 wd1_2 wd1_131 yd_X1_addNeed rfl rfl (Nat.le_of_ble_eq_true rfl) hl.1 ⟨Nat.le_trans (Nat.le_of_ble_eq_true rfl) hR.1, Nat.le_trans (Nat.le_of_ble_eq_true rfl) hR.2.1⟩ ⟨Nat.le_trans (Nat.le_of_ble_eq_true rfl) hR.2.2.1, Nat.le_trans (Nat.le_of_ble_eq_true rfl) hR.2.2.2⟩ dX3_readNeed_55) (fun H locs hw => ?_)
        refine lv_aload_n hx hb dX3_readNeed_58 rfl (lv_at hl 2 rfl) ?_
        obtain ⟨r23, M24, hgr23, hF⟩ := st_bnd2 hF
        refine g_cz hw (g_runV (C := RX3) (As := []) (rest := []) fx hw isO_1 rfl (c_X3_takeSemicolon l x D cy ad H.size M22 r23 M24 hgr23) wd2_74 wd2_76 wd0_7 wd1_5 wd2_77 yd_X3_takeSemicolon rfl rfl (Nat.le_of_ble_eq_true rfl) hl.1 ⟨Nat.le_trans (Nat.le_of_ble_eq_true rfl) hR.1, Nat.le_trans (Nat.le_of_ble_eq_true rfl) hR.2.1⟩ ⟨Nat.le_trans (Nat.le_of_ble_eq_true rfl) hR.2.2.1, Nat.le_trans (Nat.le_of_ble_eq_true rfl) hR.2.2.2⟩ dX3_readNeed_59) (fun H locs hbr23 hw => ?_)
        exact E _ _ _ _ _ _ dX3_readNeed_62 hbr23 hw hF
      · replace hF := st_t hc44 hF
        refine lv_iconst (v := 0) hx hb dX3_readNeed_47 (by decide) ?_
        exact E _ _ _ _ _ _ dX3_readNeed_48 (Or.inl rfl) hw hF
    · replace hF := st_f hc20 hF
      refine lv_aload_n hx hb dX3_readNeed_23 rfl (lv_at hl 1 rfl) ?_
      refine lv_bipush (v := (-5)) hx hb dX3_readNeed_24 (by decide) ?_
      obtain ⟨r25, M26, hgr25, hF⟩ := st_bnd2 hF
      refine g_cz hw (g_runV (C := RX3) (As := [.int (-5)]) (rest := []) fx hw isO_1 rfl (c_X3_fail l x D cy ad (-5) H.size M15 r25 M26 hgr25) wd2_67 wd2_69 wd0_6 wd1_5 wd2_70 yd_X3_fail rfl rfl (Nat.le_of_ble_eq_true rfl) hl.1 ⟨Nat.le_trans (Nat.le_of_ble_eq_true rfl) hR.1, Nat.le_trans (Nat.le_of_ble_eq_true rfl) hR.2.1⟩ ⟨Nat.le_trans (Nat.le_of_ble_eq_true rfl) hR.2.2.1, Nat.le_trans (Nat.le_of_ble_eq_true rfl) hR.2.2.2⟩ dX3_readNeed_26) (fun H locs hbr25 hw => ?_)
      exact E _ _ _ _ _ _ dX3_readNeed_29 hbr25 hw hF
  · replace hF := st_t hc6 hF
    refine lv_iconst (v := 0) hx hb dX3_readNeed_9 (by decide) ?_
    exact E _ _ _ _ _ _ dX3_readNeed_10 (Or.inl rfl) hw hF
theorem c_X3_readNeed (l : Launch) (x : SX) (D : va_G) (cy : Nat → ClassId) (ad : Nat → Nat) (sz : Nat) (M : Mem) (z : Int32) (M' : Mem) (hF : f_X3_readNeed M = some (z, M')) : Met l yX3_readNeed (.code yX3_readNeed cX3_readNeed 3 (some .boolean) :: GB) ({ frames := 2, cells := 0, slots := 0, locals := 45 } : Room) (PcW D cy ad x sz M [.ref (ad 1)]) (QzW D cy ad sz z M') 0 0 (AA ad sz) := by
  refine mk_m (own := RX3) (by decide) rfl (Nat.le_of_ble_eq_true rfl) ?_
  intro p e s m args below meth c ls fx hw hl hsz
  subst hsz
  exact b_X3_readNeed fx ⟨Nat.le_refl _, Nat.le_refl _, Nat.le_refl _, Nat.le_refl _⟩ M z M' hF (fun pc ls H locs v M1 hd hb hw h => by cases h; exact g_zret fx hw rfl hb hd) _ _ ls hl hw
noncomputable def f_X3_readNeeds_69 : Mem → Option (Int32 × Mem) := fun M => (some (1, M))
noncomputable def f_X3_readNeeds_30 : Mem → Option (Int32 × Mem) := fun M => (some (1, M))
noncomputable def f_X3_readNeeds_2 (rec2 : Int32 → Mem → Option (Int32 × Mem)) : Int32 → Mem → Option (Int32 × Mem) := fun a1 M => (if 8 ≤ a1 then (bnd (f_X3_isWord 2 M) (fun r19 => (if r19 = 0 then ((f_X3_readNeeds_69) M) else (bnd2 (f_X3_fail (-6) M) (fun r20 M21 => (if r20 = 0 then (some (0, M21)) else ((f_X3_readNeeds_69) M21))))))) else (bnd2 (f_X3_takeWord 2 M) (fun r22 M23 => (if r22 = 0 then (if 0 < a1 then ((f_X3_readNeeds_30) M23) else (bnd2 (f_X3_fail (-2) M23) (fun r26 M27 => (if r26 = 0 then (some (0, M27)) else ((f_X3_readNeeds_30) M27))))) else (bnd2 (f_X3_readNeed M23) (fun r24 M25 => (if r24 = 0 then (some (0, M25)) else (rec2 (a1 + 1) M25))))))))
noncomputable def f_X3_readNeeds (M : Mem) : Option (Int32 × Mem) := ((lp (fun _ _ => none) (f_X3_readNeeds_2) FU) 0 M)
set_option maxHeartbeats 4000000 in
set_option maxRecDepth 100000 in
theorem b_X3_readNeeds {p : Program} {l : Launch} {e : Env} {R : Room} {s : State} {m : MethodId} {args : Array Value} {below : List Frame} {meth : Method} {c : Code} {Q : State → Prop} {D : va_G} {cy : Nat → ClassId} {ad : Nat → Nat} {x : SX} (fx : FX p s m args meth c cX3_readNeeds 2 (some .boolean) RX3 D cy ad x) (hR : 6 ≤ R.frames ∧ 128 ≤ R.locals ∧ 0 ≤ R.cells ∧ 0 ≤ R.slots) (M : Mem) (z : Int32) (M' : Mem) (hF : f_X3_readNeeds M = some (z, M')) (E : ∀ (pc : Nat) (ls : Array Slot) (H : Heap) (locs : List Loc) (v : Int32) (M1 : Mem), decode cX3_readNeeds pc = .ok (.ireturn, 1) → (v = 0 ∨ v = 1) → WD D cy ad s M1 H locs → some (v, M1) = some (z, M') → W p l e R s m args below meth c H locs 0 0 Q (F0 m pc ls [.int v])) (H : Heap) (locs : List Loc) (ls : Array Slot) (hl : lv_has ls 2 [(0, .ref (ad 1))]) (hw : WD D cy ad s M H locs) : W p l e R s m args below meth c H locs 0 0 Q (F0 m 0 ls []) := by
  have hx := fx.1.1
  have hb := fx.1.2.1
  have hown := fx.1.2.2.2.1
  have hts := fx.1.2.2.2.2
  have n_69 : ∀ (M : Mem) (H : Heap) (locs : List Loc) (ls : Array Slot), lv_has ls 2 [] → WD D cy ad s M H locs → f_X3_readNeeds_69 M = some (z, M') → W p l e R s m args below meth c H locs 0 0 Q (F0 m 69 ls []) := by
    intro M H locs ls hl hw hF
    unfold f_X3_readNeeds_69 at hF
    refine lv_iconst (v := 1) hx hb dX3_readNeeds_69 (by decide) ?_
    refine lv_goto (tgt := 74) hx hb dX3_readNeeds_70 (by decide) ?_
    exact E _ _ _ _ _ _ dX3_readNeeds_74 (Or.inr rfl) hw hF
  have n_30 : ∀ (M : Mem) (H : Heap) (locs : List Loc) (ls : Array Slot), lv_has ls 2 [] → WD D cy ad s M H locs → f_X3_readNeeds_30 M = some (z, M') → W p l e R s m args below meth c H locs 0 0 Q (F0 m 30 ls []) := by
    intro M H locs ls hl hw hF
    unfold f_X3_readNeeds_30 at hF
    refine lv_iconst (v := 1) hx hb dX3_readNeeds_30 (by decide) ?_
    refine lv_goto (tgt := 35) hx hb dX3_readNeeds_31 (by decide) ?_
    exact E _ _ _ _ _ _ dX3_readNeeds_35 (Or.inr rfl) hw hF
  have n_2 : ∀ (n9 : Nat), ∀ (a1 : Int32) (M : Mem) (H : Heap) (locs : List Loc) (ls : Array Slot), lv_has ls 2 [(0, .ref (ad 1)), (1, .int a1)] → WD D cy ad s M H locs → (lp (fun _ _ => none) (f_X3_readNeeds_2) n9) a1 M = some (z, M') → W p l e R s m args below meth c H locs 0 0 Q (F0 m 2 ls []) := by
    intro n9
    refine lp_ind (fun (rec2 : Int32 → Mem → Option (Int32 × Mem)) => ∀ (a1 : Int32) (M : Mem) (H : Heap) (locs : List Loc) (ls : Array Slot), lv_has ls 2 [(0, .ref (ad 1)), (1, .int a1)] → WD D cy ad s M H locs → rec2 a1 M = some (z, M') → W p l e R s m args below meth c H locs 0 0 Q (F0 m 2 ls [])) ?_ ?_ n9
    · intro a1 M H locs ls hl hw hF
      exact nomatch hF
    · intro rec2 hr2 a1 M H locs ls hl hw hF
      unfold f_X3_readNeeds_2 at hF
      refine lv_iload_n hx hb dX3_readNeeds_2 rfl (lv_at hl 1 rfl) ?_
      refine lv_bipush (v := 8) hx hb dX3_readNeeds_3 (by decide) ?_
      refine lv_icmp_ge (tgt := 51) hx hb dX3_readNeeds_5 (by decide) (fun hc5 => ?_) (fun hc5 => ?_)
      · replace hF := st_t hc5 hF
        refine lv_aload_n hx hb dX3_readNeeds_51 rfl (lv_at hl 0 rfl) ?_
        refine va_ldcS hx hb hown (fx.2.2.2.2.str (w := 2) (by decide)).1 dX3_readNeeds_52 ?_
        obtain ⟨r19, hgr19, hF⟩ := st_bnd hF
        refine g_cz hw (g_runV (C := RX3) (As := [.ref (x.1 2)]) (rest := []) fx hw isO_1 rfl (c_X3_isWord l x D cy ad 2 (by decide) H.size M r19 hgr19) wd2_7 wd2_9 wd0_3 wd1_5 wd2_10 yd_X3_isWord rfl rfl (Nat.le_of_ble_eq_true rfl) hl.1 ⟨Nat.le_trans (Nat.le_of_ble_eq_true rfl) hR.1, Nat.le_trans (Nat.le_of_ble_eq_true rfl) hR.2.1⟩ ⟨Nat.le_trans (Nat.le_of_ble_eq_true rfl) hR.2.2.1, Nat.le_trans (Nat.le_of_ble_eq_true rfl) hR.2.2.2⟩ dX3_readNeeds_54) (fun H locs hbr19 hw => ?_)
        refine lv_if_eq (tgt := 69) hx hb dX3_readNeeds_57 (by decide) (fun hc57 => ?_) (fun hc57 => ?_)
        · replace hF := st_t hc57 hF
          exact n_69 M H locs ls (lv_sub hl [] rfl) hw hF
        · replace hF := st_f hc57 hF
          refine lv_aload_n hx hb dX3_readNeeds_60 rfl (lv_at hl 0 rfl) ?_
          refine lv_bipush (v := (-6)) hx hb dX3_readNeeds_61 (by decide) ?_
          obtain ⟨r20, M21, hgr20, hF⟩ := st_bnd2 hF
          refine g_cz hw (g_runV (C := RX3) (As := [.int (-6)]) (rest := []) fx hw isO_1 rfl (c_X3_fail l x D cy ad (-6) H.size M r20 M21 hgr20) wd2_67 wd2_69 wd0_6 wd1_5 wd2_70 yd_X3_fail rfl rfl (Nat.le_of_ble_eq_true rfl) hl.1 ⟨Nat.le_trans (Nat.le_of_ble_eq_true rfl) hR.1, Nat.le_trans (Nat.le_of_ble_eq_true rfl) hR.2.1⟩ ⟨Nat.le_trans (Nat.le_of_ble_eq_true rfl) hR.2.2.1, Nat.le_trans (Nat.le_of_ble_eq_true rfl) hR.2.2.2⟩ dX3_readNeeds_63) (fun H locs hbr20 hw => ?_)
          refine lv_if_eq (tgt := 73) hx hb dX3_readNeeds_66 (by decide) (fun hc66 => ?_) (fun hc66 => ?_)
          · replace hF := st_t hc66 hF
            refine lv_iconst (v := 0) hx hb dX3_readNeeds_73 (by decide) ?_
            exact E _ _ _ _ _ _ dX3_readNeeds_74 (Or.inl rfl) hw hF
          · replace hF := st_f hc66 hF
            exact n_69 M21 H locs ls (lv_sub hl [] rfl) hw hF
      · replace hF := st_f hc5 hF
        refine lv_aload_n hx hb dX3_readNeeds_8 rfl (lv_at hl 0 rfl) ?_
        refine va_ldcS hx hb hown (fx.2.2.2.2.str (w := 2) (by decide)).1 dX3_readNeeds_9 ?_
        obtain ⟨r22, M23, hgr22, hF⟩ := st_bnd2 hF
        refine g_cz hw (g_runV (C := RX3) (As := [.ref (x.1 2)]) (rest := []) fx hw isO_1 rfl (c_X3_takeWord l x D cy ad 2 (by decide) H.size M r22 M23 hgr22) wd2_3 wd2_5 wd0_2 wd1_5 wd2_6 yd_X3_takeWord rfl rfl (Nat.le_of_ble_eq_true rfl) hl.1 ⟨Nat.le_trans (Nat.le_of_ble_eq_true rfl) hR.1, Nat.le_trans (Nat.le_of_ble_eq_true rfl) hR.2.1⟩ ⟨Nat.le_trans (Nat.le_of_ble_eq_true rfl) hR.2.2.1, Nat.le_trans (Nat.le_of_ble_eq_true rfl) hR.2.2.2⟩ dX3_readNeeds_11) (fun H locs hbr22 hw => ?_)
        refine lv_if_ne (tgt := 36) hx hb dX3_readNeeds_14 (by decide) (fun hc14 => ?_) (fun hc14 => ?_)
        · replace hF := st_f hc14 hF
          refine lv_aload_n hx hb dX3_readNeeds_36 rfl (lv_at hl 0 rfl) ?_
          obtain ⟨r24, M25, hgr24, hF⟩ := st_bnd2 hF
          refine g_cz hw (g_runV (C := RX3) (As := []) (rest := []) fx hw isO_1 rfl (c_X3_readNeed l x D cy ad H.size M23 r24 M25 hgr24) wd2_88 wd2_90 wd0_10 wd1_5 wd2_91 yd_X3_readNeed rfl rfl (Nat.le_of_ble_eq_true rfl) hl.1 ⟨Nat.le_trans (Nat.le_of_ble_eq_true rfl) hR.1, Nat.le_trans (Nat.le_of_ble_eq_true rfl) hR.2.1⟩ ⟨Nat.le_trans (Nat.le_of_ble_eq_true rfl) hR.2.2.1, Nat.le_trans (Nat.le_of_ble_eq_true rfl) hR.2.2.2⟩ dX3_readNeeds_37) (fun H locs hbr24 hw => ?_)
          refine lv_if_ne (tgt := 45) hx hb dX3_readNeeds_40 (by decide) (fun hc40 => ?_) (fun hc40 => ?_)
          · replace hF := st_f hc40 hF
            refine lv_iinc (v := (a1 + 1)) (lv' := [(1, .int (a1 + 1)), (0, .ref (ad 1))]) hx hb dX3_readNeeds_45 hl (k := 1) rfl rfl (by decide) rfl (fun ls hl => ?_)
            refine lv_goto (tgt := 2) hx hb dX3_readNeeds_48 (by decide) ?_
            exact hr2 (a1 + 1) M25 H locs ls (lv_sub hl [1, 0] rfl) hw hF
          · replace hF := st_t hc40 hF
            refine lv_iconst (v := 0) hx hb dX3_readNeeds_43 (by decide) ?_
            exact E _ _ _ _ _ _ dX3_readNeeds_44 (Or.inl rfl) hw hF
        · replace hF := st_t hc14 hF
          refine lv_iload_n hx hb dX3_readNeeds_17 rfl (lv_at hl 1 rfl) ?_
          refine lv_if_gt (tgt := 30) hx hb dX3_readNeeds_18 (by decide) (fun hc18 => ?_) (fun hc18 => ?_)
          · replace hF := st_t hc18 hF
            exact n_30 M23 H locs ls (lv_sub hl [] rfl) hw hF
          · replace hF := st_f hc18 hF
            refine lv_aload_n hx hb dX3_readNeeds_21 rfl (lv_at hl 0 rfl) ?_
            refine lv_bipush (v := (-2)) hx hb dX3_readNeeds_22 (by decide) ?_
            obtain ⟨r26, M27, hgr26, hF⟩ := st_bnd2 hF
            refine g_cz hw (g_runV (C := RX3) (As := [.int (-2)]) (rest := []) fx hw isO_1 rfl (c_X3_fail l x D cy ad (-2) H.size M23 r26 M27 hgr26) wd2_67 wd2_69 wd0_6 wd1_5 wd2_70 yd_X3_fail rfl rfl (Nat.le_of_ble_eq_true rfl) hl.1 ⟨Nat.le_trans (Nat.le_of_ble_eq_true rfl) hR.1, Nat.le_trans (Nat.le_of_ble_eq_true rfl) hR.2.1⟩ ⟨Nat.le_trans (Nat.le_of_ble_eq_true rfl) hR.2.2.1, Nat.le_trans (Nat.le_of_ble_eq_true rfl) hR.2.2.2⟩ dX3_readNeeds_24) (fun H locs hbr26 hw => ?_)
            refine lv_if_eq (tgt := 34) hx hb dX3_readNeeds_27 (by decide) (fun hc27 => ?_) (fun hc27 => ?_)
            · replace hF := st_t hc27 hF
              refine lv_iconst (v := 0) hx hb dX3_readNeeds_34 (by decide) ?_
              exact E _ _ _ _ _ _ dX3_readNeeds_35 (Or.inl rfl) hw hF
            · replace hF := st_f hc27 hF
              exact n_30 M27 H locs ls (lv_sub hl [] rfl) hw hF
  unfold f_X3_readNeeds at hF
  refine lv_iconst (v := 0) hx hb dX3_readNeeds_0 (by decide) ?_
  refine lv_istore_n (lv' := [(1, .int 0), (0, .ref (ad 1))]) hx hb dX3_readNeeds_1 rfl hl (by decide) rfl (fun ls hl => ?_)
  exact n_2 FU 0 M H locs ls (lv_sub hl [1, 0] rfl) hw hF
theorem c_X3_readNeeds (l : Launch) (x : SX) (D : va_G) (cy : Nat → ClassId) (ad : Nat → Nat) (sz : Nat) (M : Mem) (z : Int32) (M' : Mem) (hF : f_X3_readNeeds M = some (z, M')) : Met l yX3_readNeeds (.code yX3_readNeeds cX3_readNeeds 2 (some .boolean) :: GB) ({ frames := 6, cells := 0, slots := 0, locals := 128 } : Room) (PcW D cy ad x sz M [.ref (ad 1)]) (QzW D cy ad sz z M') 0 0 (AA ad sz) := by
  refine mk_m (own := RX3) (by decide) rfl (Nat.le_of_ble_eq_true rfl) ?_
  intro p e s m args below meth c ls fx hw hl hsz
  subst hsz
  exact b_X3_readNeeds fx ⟨Nat.le_refl _, Nat.le_refl _, Nat.le_refl _, Nat.le_refl _⟩ M z M' hF (fun pc ls H locs v M1 hd hb hw h => by cases h; exact g_zret fx hw rfl hb hd) _ _ ls hl hw
noncomputable def f_X3_rankHere (M : Mem) : Option Int32 := (bnd (f_X3_isWord 3 M) (fun r4 => (if r4 = 0 then (bnd (f_X3_isWord 4 M) (fun r5 => (if r5 = 0 then (bnd (f_X3_isWord 5 M) (fun r6 => (if r6 = 0 then (some (-1)) else (some 2)))) else (some 1)))) else (some 0))))
set_option maxHeartbeats 4000000 in
set_option maxRecDepth 100000 in
theorem b_X3_rankHere {p : Program} {l : Launch} {e : Env} {R : Room} {s : State} {m : MethodId} {args : Array Value} {below : List Frame} {meth : Method} {c : Code} {Q : State → Prop} {D : va_G} {cy : Nat → ClassId} {ad : Nat → Nat} {x : SX} (fx : FX p s m args meth c cX3_rankHere 1 (some .int) RX3 D cy ad x) (hR : 5 ≤ R.frames ∧ 107 ≤ R.locals ∧ 0 ≤ R.cells ∧ 0 ≤ R.slots) (M : Mem) (z : Int32) (hF : f_X3_rankHere M = some z) (E : ∀ (pc : Nat) (ls : Array Slot) (H : Heap) (locs : List Loc) (v : Int32), decode cX3_rankHere pc = .ok (.ireturn, 1) → WD D cy ad s M H locs → some v = some z → W p l e R s m args below meth c H locs 0 0 Q (F0 m pc ls [.int v])) (H : Heap) (locs : List Loc) (ls : Array Slot) (hl : lv_has ls 1 [(0, .ref (ad 1))]) (hw : WD D cy ad s M H locs) : W p l e R s m args below meth c H locs 0 0 Q (F0 m 0 ls []) := by
  have hx := fx.1.1
  have hb := fx.1.2.1
  have hown := fx.1.2.2.2.1
  have hts := fx.1.2.2.2.2
  unfold f_X3_rankHere at hF
  refine lv_aload_n hx hb dX3_rankHere_0 rfl (lv_at hl 0 rfl) ?_
  refine va_ldcS hx hb hown (fx.2.2.2.2.str (w := 3) (by decide)).1 dX3_rankHere_1 ?_
  obtain ⟨r4, hgr4, hF⟩ := st_bnd hF
  refine g_cz hw (g_runV (C := RX3) (As := [.ref (x.1 3)]) (rest := []) fx hw isO_1 rfl (c_X3_isWord l x D cy ad 3 (by decide) H.size M r4 hgr4) wd2_7 wd2_9 wd0_3 wd1_5 wd2_10 yd_X3_isWord rfl rfl (Nat.le_of_ble_eq_true rfl) hl.1 ⟨Nat.le_trans (Nat.le_of_ble_eq_true rfl) hR.1, Nat.le_trans (Nat.le_of_ble_eq_true rfl) hR.2.1⟩ ⟨Nat.le_trans (Nat.le_of_ble_eq_true rfl) hR.2.2.1, Nat.le_trans (Nat.le_of_ble_eq_true rfl) hR.2.2.2⟩ dX3_rankHere_3) (fun H locs hbr4 hw => ?_)
  refine lv_if_eq (tgt := 11) hx hb dX3_rankHere_6 (by decide) (fun hc6 => ?_) (fun hc6 => ?_)
  · replace hF := st_t hc6 hF
    refine lv_aload_n hx hb dX3_rankHere_11 rfl (lv_at hl 0 rfl) ?_
    refine va_ldcS hx hb hown (fx.2.2.2.2.str (w := 4) (by decide)).1 dX3_rankHere_12 ?_
    obtain ⟨r5, hgr5, hF⟩ := st_bnd hF
    refine g_cz hw (g_runV (C := RX3) (As := [.ref (x.1 4)]) (rest := []) fx hw isO_1 rfl (c_X3_isWord l x D cy ad 4 (by decide) H.size M r5 hgr5) wd2_7 wd2_9 wd0_3 wd1_5 wd2_10 yd_X3_isWord rfl rfl (Nat.le_of_ble_eq_true rfl) hl.1 ⟨Nat.le_trans (Nat.le_of_ble_eq_true rfl) hR.1, Nat.le_trans (Nat.le_of_ble_eq_true rfl) hR.2.1⟩ ⟨Nat.le_trans (Nat.le_of_ble_eq_true rfl) hR.2.2.1, Nat.le_trans (Nat.le_of_ble_eq_true rfl) hR.2.2.2⟩ dX3_rankHere_14) (fun H locs hbr5 hw => ?_)
    refine lv_if_eq (tgt := 22) hx hb dX3_rankHere_17 (by decide) (fun hc17 => ?_) (fun hc17 => ?_)
    · replace hF := st_t hc17 hF
      refine lv_aload_n hx hb dX3_rankHere_22 rfl (lv_at hl 0 rfl) ?_
      refine va_ldcS hx hb hown (fx.2.2.2.2.str (w := 5) (by decide)).1 dX3_rankHere_23 ?_
      obtain ⟨r6, hgr6, hF⟩ := st_bnd hF
      refine g_cz hw (g_runV (C := RX3) (As := [.ref (x.1 5)]) (rest := []) fx hw isO_1 rfl (c_X3_isWord l x D cy ad 5 (by decide) H.size M r6 hgr6) wd2_7 wd2_9 wd0_3 wd1_5 wd2_10 yd_X3_isWord rfl rfl (Nat.le_of_ble_eq_true rfl) hl.1 ⟨Nat.le_trans (Nat.le_of_ble_eq_true rfl) hR.1, Nat.le_trans (Nat.le_of_ble_eq_true rfl) hR.2.1⟩ ⟨Nat.le_trans (Nat.le_of_ble_eq_true rfl) hR.2.2.1, Nat.le_trans (Nat.le_of_ble_eq_true rfl) hR.2.2.2⟩ dX3_rankHere_25) (fun H locs hbr6 hw => ?_)
      refine lv_if_eq (tgt := 35) hx hb dX3_rankHere_28 (by decide) (fun hc28 => ?_) (fun hc28 => ?_)
      · replace hF := st_t hc28 hF
        refine lv_iconst (v := (-1)) hx hb dX3_rankHere_35 (by decide) ?_
        exact E _ _ _ _ _ dX3_rankHere_36 hw hF
      · replace hF := st_f hc28 hF
        refine lv_iconst (v := 2) hx hb dX3_rankHere_31 (by decide) ?_
        refine lv_goto (tgt := 36) hx hb dX3_rankHere_32 (by decide) ?_
        exact E _ _ _ _ _ dX3_rankHere_36 hw hF
    · replace hF := st_f hc17 hF
      refine lv_iconst (v := 1) hx hb dX3_rankHere_20 (by decide) ?_
      exact E _ _ _ _ _ dX3_rankHere_21 hw hF
  · replace hF := st_f hc6 hF
    refine lv_iconst (v := 0) hx hb dX3_rankHere_9 (by decide) ?_
    exact E _ _ _ _ _ dX3_rankHere_10 hw hF
theorem c_X3_rankHere (l : Launch) (x : SX) (D : va_G) (cy : Nat → ClassId) (ad : Nat → Nat) (sz : Nat) (M : Mem) (z : Int32) (hF : f_X3_rankHere M = some z) : Met l yX3_rankHere (.code yX3_rankHere cX3_rankHere 1 (some .int) :: GB) ({ frames := 5, cells := 0, slots := 0, locals := 107 } : Room) (PcW D cy ad x sz M [.ref (ad 1)]) (QiW D cy ad sz z M) 0 0 (AA ad sz) := by
  refine mk_m (own := RX3) (by decide) rfl (Nat.le_of_ble_eq_true rfl) ?_
  intro p e s m args below meth c ls fx hw hl hsz
  subst hsz
  exact b_X3_rankHere fx ⟨Nat.le_refl _, Nat.le_refl _, Nat.le_refl _, Nat.le_refl _⟩ M z hF (fun pc ls H locs v hd hw h => by cases h; exact g_iret fx hw rfl hd) _ _ ls hl hw
noncomputable def f_X3_takeNeed (p1 : Int32) (M : Mem) : Option (Int32 × Mem) := (bnd2 (f_X3_nameHere M) (fun r11 M12 => (if r11 = 0 then (some ((-1), M12)) else (bnd (f_X1_needNamed 31 r11 M12) (fun r13 => (if r13 = (-1) then (bnd2 (f_X3_fail (-4) M12) (fun r19 M20 => (some ((-1), M20)))) else (bnd (f_X1_isMember r13 p1 M12) (fun r14 => (if r14 = 0 then (bnd (f_X3_nextToken M12) (fun M16 => (some (r13, M16)))) else (bnd2 (f_X3_fail (-5) M12) (fun r17 M18 => (some ((-1), M18)))))))))))))
set_option maxHeartbeats 4000000 in
set_option maxRecDepth 100000 in
theorem b_X3_takeNeed {p : Program} {l : Launch} {e : Env} {R : Room} {s : State} {m : MethodId} {args : Array Value} {below : List Frame} {meth : Method} {c : Code} {Q : State → Prop} {D : va_G} {cy : Nat → ClassId} {ad : Nat → Nat} {x : SX} (fx : FX p s m args meth c cX3_takeNeed 4 (some .int) RX3 D cy ad x) (hR : 2 ≤ R.frames ∧ 43 ≤ R.locals ∧ 0 ≤ R.cells ∧ 0 ≤ R.slots) (p1 : Int32) (M : Mem) (z : Int32) (M' : Mem) (hF : f_X3_takeNeed p1 M = some (z, M')) (E : ∀ (pc : Nat) (ls : Array Slot) (H : Heap) (locs : List Loc) (v : Int32) (M1 : Mem), decode cX3_takeNeed pc = .ok (.ireturn, 1) → WD D cy ad s M1 H locs → some (v, M1) = some (z, M') → W p l e R s m args below meth c H locs 0 0 Q (F0 m pc ls [.int v])) (H : Heap) (locs : List Loc) (ls : Array Slot) (hl : lv_has ls 4 [(0, .ref (ad 1)), (1, .int p1)]) (hw : WD D cy ad s M H locs) : W p l e R s m args below meth c H locs 0 0 Q (F0 m 0 ls []) := by
  have hx := fx.1.1
  have hb := fx.1.2.1
  have hown := fx.1.2.2.2.1
  have hts := fx.1.2.2.2.2
  unfold f_X3_takeNeed at hF
  refine lv_aload_n hx hb dX3_takeNeed_0 rfl (lv_at hl 0 rfl) ?_
  obtain ⟨r11, M12, hgr11, hF⟩ := st_bnd2 hF
  refine g_ci hw (g_runV (C := RX3) (As := []) (rest := []) fx hw isO_1 rfl (c_X3_nameHere l x D cy ad H.size M r11 M12 hgr11) wd2_92 wd2_94 wd0_11 wd1_5 wd2_95 yd_X3_nameHere rfl rfl (Nat.le_of_ble_eq_true rfl) hl.1 ⟨Nat.le_trans (Nat.le_of_ble_eq_true rfl) hR.1, Nat.le_trans (Nat.le_of_ble_eq_true rfl) hR.2.1⟩ ⟨Nat.le_trans (Nat.le_of_ble_eq_true rfl) hR.2.2.1, Nat.le_trans (Nat.le_of_ble_eq_true rfl) hR.2.2.2⟩ dX3_takeNeed_1) (fun H locs hw => ?_)
  refine lv_istore_n (lv' := [(2, .int r11), (0, .ref (ad 1)), (1, .int p1)]) hx hb dX3_takeNeed_4 rfl hl (by decide) rfl (fun ls hl => ?_)
  refine lv_iload_n hx hb dX3_takeNeed_5 rfl (lv_at hl 0 rfl) ?_
  refine lv_if_ne (tgt := 11) hx hb dX3_takeNeed_6 (by decide) (fun hc6 => ?_) (fun hc6 => ?_)
  · replace hF := st_f hc6 hF
    refine lv_aload_n hx hb dX3_takeNeed_11 rfl (lv_at hl 1 rfl) ?_
    refine gX3_get fx hw isO_1 1 (by decide) wd1_145 rfl dX3_takeNeed_12 ?_
    refine lv_iload_n hx hb dX3_takeNeed_15 rfl (lv_at hl 0 rfl) ?_
    obtain ⟨r13, hgr13, hF⟩ := st_bnd hF
    refine g_ci hw (g_runV (C := RX1) (As := [.int r11]) (rest := []) fx hw isH_31.O rfl (c_X1_needNamed l x D cy ad 31 isH_31 r11 H.size M12 r13 hgr13) wd2_97 wd2_98 wd2_99 wd1_2 wd2_100 yd_X1_needNamed rfl rfl (Nat.le_of_ble_eq_true rfl) hl.1 ⟨Nat.le_trans (Nat.le_of_ble_eq_true rfl) hR.1, Nat.le_trans (Nat.le_of_ble_eq_true rfl) hR.2.1⟩ ⟨Nat.le_trans (Nat.le_of_ble_eq_true rfl) hR.2.2.1, Nat.le_trans (Nat.le_of_ble_eq_true rfl) hR.2.2.2⟩ dX3_takeNeed_16) (fun H locs hw => ?_)
    refine lv_istore_n (lv' := [(3, .int r13), (2, .int r11), (0, .ref (ad 1)), (1, .int p1)]) hx hb dX3_takeNeed_19 rfl hl (by decide) rfl (fun ls hl => ?_)
    refine lv_iload_n hx hb dX3_takeNeed_20 rfl (lv_at hl 0 rfl) ?_
    refine lv_iconst (v := (-1)) hx hb dX3_takeNeed_21 (by decide) ?_
    refine lv_icmp_ne (tgt := 34) hx hb dX3_takeNeed_22 (by decide) (fun hc22 => ?_) (fun hc22 => ?_)
    · replace hF := st_f hc22 hF
      refine lv_iload_n hx hb dX3_takeNeed_34 rfl (lv_at hl 0 rfl) ?_
      refine lv_iload_n hx hb dX3_takeNeed_35 rfl (lv_at hl 3 rfl) ?_
      obtain ⟨r14, hgr14, hF⟩ := st_bnd hF
      refine g_cz hw (g_runS (As := [.int r13, .int p1]) (rest := []) fx hw (c_X1_isMember l x D cy ad r13 p1 H.size M12 r14 hgr14) wd2_125 wd2_126 wd1_2 wd2_127 yd_X1_isMember rfl rfl (Nat.le_of_ble_eq_true rfl) hl.1 ⟨Nat.le_trans (Nat.le_of_ble_eq_true rfl) hR.1, Nat.le_trans (Nat.le_of_ble_eq_true rfl) hR.2.1⟩ ⟨Nat.le_trans (Nat.le_of_ble_eq_true rfl) hR.2.2.1, Nat.le_trans (Nat.le_of_ble_eq_true rfl) hR.2.2.2⟩ dX3_takeNeed_36) (fun H locs hbr14 hw => ?_)
      refine lv_if_eq (tgt := 51) hx hb dX3_takeNeed_39 (by decide) (fun hc39 => ?_) (fun hc39 => ?_)
      · replace hF := st_t hc39 hF
        refine lv_aload_n hx hb dX3_takeNeed_51 rfl (lv_at hl 2 rfl) ?_
        obtain ⟨M16, hgr15, hF⟩ := st_bnd hF
        refine g_cv hw (g_runV (C := RX3) (As := []) (rest := []) fx hw isO_1 rfl (c_X3_nextToken l x D cy ad H.size M12 M16 hgr15) wd1_234 wd1_236 wd0_0 wd1_5 wd1_237 yd_X3_nextToken rfl rfl (Nat.le_of_ble_eq_true rfl) hl.1 ⟨Nat.le_trans (Nat.le_of_ble_eq_true rfl) hR.1, Nat.le_trans (Nat.le_of_ble_eq_true rfl) hR.2.1⟩ ⟨Nat.le_trans (Nat.le_of_ble_eq_true rfl) hR.2.2.1, Nat.le_trans (Nat.le_of_ble_eq_true rfl) hR.2.2.2⟩ dX3_takeNeed_52) (fun H locs hw => ?_)
        refine lv_iload_n hx hb dX3_takeNeed_55 rfl (lv_at hl 0 rfl) ?_
        exact E _ _ _ _ _ _ dX3_takeNeed_56 hw hF
      · replace hF := st_f hc39 hF
        refine lv_aload_n hx hb dX3_takeNeed_42 rfl (lv_at hl 2 rfl) ?_
        refine lv_bipush (v := (-5)) hx hb dX3_takeNeed_43 (by decide) ?_
        obtain ⟨r17, M18, hgr17, hF⟩ := st_bnd2 hF
        refine g_cz hw (g_runV (C := RX3) (As := [.int (-5)]) (rest := []) fx hw isO_1 rfl (c_X3_fail l x D cy ad (-5) H.size M12 r17 M18 hgr17) wd2_67 wd2_69 wd0_6 wd1_5 wd2_70 yd_X3_fail rfl rfl (Nat.le_of_ble_eq_true rfl) hl.1 ⟨Nat.le_trans (Nat.le_of_ble_eq_true rfl) hR.1, Nat.le_trans (Nat.le_of_ble_eq_true rfl) hR.2.1⟩ ⟨Nat.le_trans (Nat.le_of_ble_eq_true rfl) hR.2.2.1, Nat.le_trans (Nat.le_of_ble_eq_true rfl) hR.2.2.2⟩ dX3_takeNeed_45) (fun H locs hbr17 hw => ?_)
        refine lv_pop hx hb dX3_takeNeed_48 rfl ?_
        refine lv_iconst (v := (-1)) hx hb dX3_takeNeed_49 (by decide) ?_
        exact E _ _ _ _ _ _ dX3_takeNeed_50 hw hF
    · replace hF := st_t hc22 hF
      refine lv_aload_n hx hb dX3_takeNeed_25 rfl (lv_at hl 2 rfl) ?_
      refine lv_bipush (v := (-4)) hx hb dX3_takeNeed_26 (by decide) ?_
      obtain ⟨r19, M20, hgr19, hF⟩ := st_bnd2 hF
      refine g_cz hw (g_runV (C := RX3) (As := [.int (-4)]) (rest := []) fx hw isO_1 rfl (c_X3_fail l x D cy ad (-4) H.size M12 r19 M20 hgr19) wd2_67 wd2_69 wd0_6 wd1_5 wd2_70 yd_X3_fail rfl rfl (Nat.le_of_ble_eq_true rfl) hl.1 ⟨Nat.le_trans (Nat.le_of_ble_eq_true rfl) hR.1, Nat.le_trans (Nat.le_of_ble_eq_true rfl) hR.2.1⟩ ⟨Nat.le_trans (Nat.le_of_ble_eq_true rfl) hR.2.2.1, Nat.le_trans (Nat.le_of_ble_eq_true rfl) hR.2.2.2⟩ dX3_takeNeed_28) (fun H locs hbr19 hw => ?_)
      refine lv_pop hx hb dX3_takeNeed_31 rfl ?_
      refine lv_iconst (v := (-1)) hx hb dX3_takeNeed_32 (by decide) ?_
      exact E _ _ _ _ _ _ dX3_takeNeed_33 hw hF
  · replace hF := st_t hc6 hF
    refine lv_iconst (v := (-1)) hx hb dX3_takeNeed_9 (by decide) ?_
    exact E _ _ _ _ _ _ dX3_takeNeed_10 hw hF
theorem c_X3_takeNeed (l : Launch) (x : SX) (D : va_G) (cy : Nat → ClassId) (ad : Nat → Nat) (p1 : Int32) (sz : Nat) (M : Mem) (z : Int32) (M' : Mem) (hF : f_X3_takeNeed p1 M = some (z, M')) : Met l yX3_takeNeed (.code yX3_takeNeed cX3_takeNeed 4 (some .int) :: GB) ({ frames := 2, cells := 0, slots := 0, locals := 43 } : Room) (PcW D cy ad x sz M [.ref (ad 1), .int p1]) (QiW D cy ad sz z M') 0 0 (AA ad sz) := by
  refine mk_m (own := RX3) (by decide) rfl (Nat.le_of_ble_eq_true rfl) ?_
  intro p e s m args below meth c ls fx hw hl hsz
  subst hsz
  exact b_X3_takeNeed fx ⟨Nat.le_refl _, Nat.le_refl _, Nat.le_refl _, Nat.le_refl _⟩ p1 M z M' hF (fun pc ls H locs v M1 hd hw h => by cases h; exact g_iret fx hw rfl hd) _ _ ls hl hw
noncomputable def f_X3_readMonk_83 : Int32 → Int32 → Int32 → Mem → Option (Int32 × Mem) := fun a1 a2 a3 M => (bnd (f_X1_addMonk 31 a2 a1 a3 M) (fun M26 => (bnd2 (f_X3_takeSemicolon M26) (fun r27 M28 => (some (r27, M28))))))
noncomputable def f_X3_readMonk_39 (rec39 : Int32 → Int32 → Int32 → Int32 → Mem → Option (Int32 × Mem)) : Int32 → Int32 → Int32 → Int32 → Mem → Option (Int32 × Mem) := fun a1 a2 a3 a4 M => (if 8 < a4 then ((f_X3_readMonk_83) a1 a2 a3 M) else (bnd (f_X3_firstByte M) (fun r29 => (if r29 = 59 then ((f_X3_readMonk_83) a1 a2 a3 M) else (bnd2 (f_X3_takeNeed a3 M) (fun r30 M31 => (if r30 = (-1) then (some (0, M31)) else (rec39 a1 a2 (a3 ||| (ishl 1 r30)) (a4 + 1) M31))))))))
noncomputable def f_X3_readMonk (p1 : Int32) (M : Mem) : Option (Int32 × Mem) := (bnd2 (f_X3_nameHere M) (fun r32 M33 => (if r32 = 0 then (some (0, M33)) else (bnd (f_X1_monkNamed 31 r32 M33) (fun r34 => (if r34 = (-1) then (bnd (f_X3_nextToken M33) (fun M36 => ((lp (fun _ _ _ _ _ => none) (f_X3_readMonk_39) FU) p1 r32 0 0 M36))) else (bnd2 (f_X3_fail (-5) M33) (fun r37 M38 => (some (r37, M38))))))))))
set_option maxHeartbeats 4000000 in
set_option maxRecDepth 100000 in
theorem b_X3_readMonk {p : Program} {l : Launch} {e : Env} {R : Room} {s : State} {m : MethodId} {args : Array Value} {below : List Frame} {meth : Method} {c : Code} {Q : State → Prop} {D : va_G} {cy : Nat → ClassId} {ad : Nat → Nat} {x : SX} (fx : FX p s m args meth c cX3_readMonk 6 (some .boolean) RX3 D cy ad x) (hR : 3 ≤ R.frames ∧ 66 ≤ R.locals ∧ 0 ≤ R.cells ∧ 0 ≤ R.slots) (p1 : Int32) (M : Mem) (z : Int32) (M' : Mem) (hF : f_X3_readMonk p1 M = some (z, M')) (E : ∀ (pc : Nat) (ls : Array Slot) (H : Heap) (locs : List Loc) (v : Int32) (M1 : Mem), decode cX3_readMonk pc = .ok (.ireturn, 1) → (v = 0 ∨ v = 1) → WD D cy ad s M1 H locs → some (v, M1) = some (z, M') → W p l e R s m args below meth c H locs 0 0 Q (F0 m pc ls [.int v])) (H : Heap) (locs : List Loc) (ls : Array Slot) (hl : lv_has ls 6 [(0, .ref (ad 1)), (1, .int p1)]) (hw : WD D cy ad s M H locs) : W p l e R s m args below meth c H locs 0 0 Q (F0 m 0 ls []) := by
  have hx := fx.1.1
  have hb := fx.1.2.1
  have hown := fx.1.2.2.2.1
  have hts := fx.1.2.2.2.2
  have n_83 : ∀ (a1 : Int32) (a2 : Int32) (a3 : Int32) (M : Mem) (H : Heap) (locs : List Loc) (ls : Array Slot), lv_has ls 6 [(0, .ref (ad 1)), (1, .int a1), (2, .int a2), (3, .int a3)] → WD D cy ad s M H locs → f_X3_readMonk_83 a1 a2 a3 M = some (z, M') → W p l e R s m args below meth c H locs 0 0 Q (F0 m 83 ls []) := by
    intro a1 a2 a3 M H locs ls hl hw hF
    unfold f_X3_readMonk_83 at hF
    refine lv_aload_n hx hb dX3_readMonk_83 rfl (lv_at hl 0 rfl) ?_
    refine gX3_get fx hw isO_1 1 (by decide) wd1_145 rfl dX3_readMonk_84 ?_
    refine lv_iload_n hx hb dX3_readMonk_87 rfl (lv_at hl 2 rfl) ?_
    refine lv_iload_n hx hb dX3_readMonk_88 rfl (lv_at hl 1 rfl) ?_
    refine lv_iload_n hx hb dX3_readMonk_89 rfl (lv_at hl 3 rfl) ?_
    obtain ⟨M26, hgr25, hF⟩ := st_bnd hF
    refine g_cv hw (g_runV (C := RX1) (As := [.int a2, .int a1, .int a3]) (rest := []) fx hw isH_31.O rfl (c_X1_addMonk l x D cy ad 31 isH_31 a2 a1 a3 H.size M M26 hgr25) wd2_128 wd1_133 wd1_134 wd1_2 wd1_135 yd_X1_addMonk rfl rfl (Nat.le_of_ble_eq_true rfl) hl.1 ⟨Nat.le_trans (Nat.le_of_ble_eq_true rfl) hR.1, Nat.le_trans (Nat.le_of_ble_eq_true rfl) hR.2.1⟩ ⟨Nat.le_trans (Nat.le_of_ble_eq_true rfl) hR.2.2.1, Nat.le_trans (Nat.le_of_ble_eq_true rfl) hR.2.2.2⟩ dX3_readMonk_90) (fun H locs hw => ?_)
    refine lv_aload_n hx hb dX3_readMonk_93 rfl (lv_at hl 0 rfl) ?_
    obtain ⟨r27, M28, hgr27, hF⟩ := st_bnd2 hF
    refine g_cz hw (g_runV (C := RX3) (As := []) (rest := []) fx hw isO_1 rfl (c_X3_takeSemicolon l x D cy ad H.size M26 r27 M28 hgr27) wd2_74 wd2_76 wd0_7 wd1_5 wd2_77 yd_X3_takeSemicolon rfl rfl (Nat.le_of_ble_eq_true rfl) hl.1 ⟨Nat.le_trans (Nat.le_of_ble_eq_true rfl) hR.1, Nat.le_trans (Nat.le_of_ble_eq_true rfl) hR.2.1⟩ ⟨Nat.le_trans (Nat.le_of_ble_eq_true rfl) hR.2.2.1, Nat.le_trans (Nat.le_of_ble_eq_true rfl) hR.2.2.2⟩ dX3_readMonk_94) (fun H locs hbr27 hw => ?_)
    exact E _ _ _ _ _ _ dX3_readMonk_97 hbr27 hw hF
  have n_39 : ∀ (n9 : Nat), ∀ (a1 : Int32) (a2 : Int32) (a3 : Int32) (a4 : Int32) (M : Mem) (H : Heap) (locs : List Loc) (ls : Array Slot), lv_has ls 6 [(0, .ref (ad 1)), (1, .int a1), (2, .int a2), (3, .int a3), (4, .int a4)] → WD D cy ad s M H locs → (lp (fun _ _ _ _ _ => none) (f_X3_readMonk_39) n9) a1 a2 a3 a4 M = some (z, M') → W p l e R s m args below meth c H locs 0 0 Q (F0 m 39 ls []) := by
    intro n9
    refine lp_ind (fun (rec39 : Int32 → Int32 → Int32 → Int32 → Mem → Option (Int32 × Mem)) => ∀ (a1 : Int32) (a2 : Int32) (a3 : Int32) (a4 : Int32) (M : Mem) (H : Heap) (locs : List Loc) (ls : Array Slot), lv_has ls 6 [(0, .ref (ad 1)), (1, .int a1), (2, .int a2), (3, .int a3), (4, .int a4)] → WD D cy ad s M H locs → rec39 a1 a2 a3 a4 M = some (z, M') → W p l e R s m args below meth c H locs 0 0 Q (F0 m 39 ls [])) ?_ ?_ n9
    · intro a1 a2 a3 a4 M H locs ls hl hw hF
      exact nomatch hF
    · intro rec39 hr39 a1 a2 a3 a4 M H locs ls hl hw hF
      unfold f_X3_readMonk_39 at hF
      refine lv_iload hx hb dX3_readMonk_39 (lv_at hl 4 rfl) ?_
      refine lv_bipush (v := 8) hx hb dX3_readMonk_41 (by decide) ?_
      refine lv_icmp_gt (tgt := 83) hx hb dX3_readMonk_43 (by decide) (fun hc43 => ?_) (fun hc43 => ?_)
      · replace hF := st_t hc43 hF
        exact n_83 a1 a2 a3 M H locs ls (lv_sub hl [0, 1, 2, 3] rfl) hw hF
      · replace hF := st_f hc43 hF
        refine lv_aload_n hx hb dX3_readMonk_46 rfl (lv_at hl 0 rfl) ?_
        obtain ⟨r29, hgr29, hF⟩ := st_bnd hF
        refine g_ci hw (g_runV (C := RX3) (As := []) (rest := []) fx hw isO_1 rfl (c_X3_firstByte l x D cy ad H.size M r29 hgr29) wd2_63 wd2_65 wd0_5 wd1_5 wd2_66 yd_X3_firstByte rfl rfl (Nat.le_of_ble_eq_true rfl) hl.1 ⟨Nat.le_trans (Nat.le_of_ble_eq_true rfl) hR.1, Nat.le_trans (Nat.le_of_ble_eq_true rfl) hR.2.1⟩ ⟨Nat.le_trans (Nat.le_of_ble_eq_true rfl) hR.2.2.1, Nat.le_trans (Nat.le_of_ble_eq_true rfl) hR.2.2.2⟩ dX3_readMonk_47) (fun H locs hw => ?_)
        refine lv_bipush (v := 59) hx hb dX3_readMonk_50 (by decide) ?_
        refine lv_icmp_eq (tgt := 83) hx hb dX3_readMonk_52 (by decide) (fun hc52 => ?_) (fun hc52 => ?_)
        · replace hF := st_t hc52 hF
          exact n_83 a1 a2 a3 M H locs ls (lv_sub hl [0, 1, 2, 3] rfl) hw hF
        · replace hF := st_f hc52 hF
          refine lv_aload_n hx hb dX3_readMonk_55 rfl (lv_at hl 0 rfl) ?_
          refine lv_iload_n hx hb dX3_readMonk_56 rfl (lv_at hl 3 rfl) ?_
          obtain ⟨r30, M31, hgr30, hF⟩ := st_bnd2 hF
          refine g_ci hw (g_runV (C := RX3) (As := [.int a3]) (rest := []) fx hw isO_1 rfl (c_X3_takeNeed l x D cy ad a3 H.size M r30 M31 hgr30) wd2_121 wd2_123 wd0_15 wd1_5 wd2_124 yd_X3_takeNeed rfl rfl (Nat.le_of_ble_eq_true rfl) hl.1 ⟨Nat.le_trans (Nat.le_of_ble_eq_true rfl) hR.1, Nat.le_trans (Nat.le_of_ble_eq_true rfl) hR.2.1⟩ ⟨Nat.le_trans (Nat.le_of_ble_eq_true rfl) hR.2.2.1, Nat.le_trans (Nat.le_of_ble_eq_true rfl) hR.2.2.2⟩ dX3_readMonk_57) (fun H locs hw => ?_)
          refine lv_istore (lv' := [(5, .int r30), (0, .ref (ad 1)), (1, .int a1), (2, .int a2), (3, .int a3), (4, .int a4)]) hx hb dX3_readMonk_60 hl (by decide) rfl (fun ls hl => ?_)
          refine lv_iload hx hb dX3_readMonk_62 (lv_at hl 0 rfl) ?_
          refine lv_iconst (v := (-1)) hx hb dX3_readMonk_64 (by decide) ?_
          refine lv_icmp_ne (tgt := 70) hx hb dX3_readMonk_65 (by decide) (fun hc65 => ?_) (fun hc65 => ?_)
          · replace hF := st_f hc65 hF
            refine lv_iload_n hx hb dX3_readMonk_70 rfl (lv_at hl 4 rfl) ?_
            refine lv_iconst (v := 1) hx hb dX3_readMonk_71 (by decide) ?_
            refine lv_iload hx hb dX3_readMonk_72 (lv_at hl 0 rfl) ?_
            refine g_ishl hx hb dX3_readMonk_74 ?_
            refine lv_ior hx hb dX3_readMonk_75 ?_
            refine lv_istore_n (lv' := [(3, .int (a3 ||| (ishl 1 r30))), (5, .int r30), (0, .ref (ad 1)), (1, .int a1), (2, .int a2), (4, .int a4)]) hx hb dX3_readMonk_76 rfl hl (by decide) rfl (fun ls hl => ?_)
            refine lv_iinc (v := (a4 + 1)) (lv' := [(4, .int (a4 + 1)), (3, .int (a3 ||| (ishl 1 r30))), (5, .int r30), (0, .ref (ad 1)), (1, .int a1), (2, .int a2)]) hx hb dX3_readMonk_77 hl (k := 5) rfl rfl (by decide) rfl (fun ls hl => ?_)
            refine lv_goto (tgt := 39) hx hb dX3_readMonk_80 (by decide) ?_
            exact hr39 a1 a2 (a3 ||| (ishl 1 r30)) (a4 + 1) M31 H locs ls (lv_sub hl [3, 4, 5, 1, 0] rfl) hw hF
          · replace hF := st_t hc65 hF
            refine lv_iconst (v := 0) hx hb dX3_readMonk_68 (by decide) ?_
            exact E _ _ _ _ _ _ dX3_readMonk_69 (Or.inl rfl) hw hF
  unfold f_X3_readMonk at hF
  refine lv_aload_n hx hb dX3_readMonk_0 rfl (lv_at hl 0 rfl) ?_
  obtain ⟨r32, M33, hgr32, hF⟩ := st_bnd2 hF
  refine g_ci hw (g_runV (C := RX3) (As := []) (rest := []) fx hw isO_1 rfl (c_X3_nameHere l x D cy ad H.size M r32 M33 hgr32) wd2_92 wd2_94 wd0_11 wd1_5 wd2_95 yd_X3_nameHere rfl rfl (Nat.le_of_ble_eq_true rfl) hl.1 ⟨Nat.le_trans (Nat.le_of_ble_eq_true rfl) hR.1, Nat.le_trans (Nat.le_of_ble_eq_true rfl) hR.2.1⟩ ⟨Nat.le_trans (Nat.le_of_ble_eq_true rfl) hR.2.2.1, Nat.le_trans (Nat.le_of_ble_eq_true rfl) hR.2.2.2⟩ dX3_readMonk_1) (fun H locs hw => ?_)
  refine lv_istore_n (lv' := [(2, .int r32), (0, .ref (ad 1)), (1, .int p1)]) hx hb dX3_readMonk_4 rfl hl (by decide) rfl (fun ls hl => ?_)
  refine lv_iload_n hx hb dX3_readMonk_5 rfl (lv_at hl 0 rfl) ?_
  refine lv_if_ne (tgt := 11) hx hb dX3_readMonk_6 (by decide) (fun hc6 => ?_) (fun hc6 => ?_)
  · replace hF := st_f hc6 hF
    refine lv_aload_n hx hb dX3_readMonk_11 rfl (lv_at hl 1 rfl) ?_
    refine gX3_get fx hw isO_1 1 (by decide) wd1_145 rfl dX3_readMonk_12 ?_
    refine lv_iload_n hx hb dX3_readMonk_15 rfl (lv_at hl 0 rfl) ?_
    obtain ⟨r34, hgr34, hF⟩ := st_bnd hF
    refine g_ci hw (g_runV (C := RX1) (As := [.int r32]) (rest := []) fx hw isH_31.O rfl (c_X1_monkNamed l x D cy ad 31 isH_31 r32 H.size M33 r34 hgr34) wd2_117 wd2_118 wd2_119 wd1_2 wd2_120 yd_X1_monkNamed rfl rfl (Nat.le_of_ble_eq_true rfl) hl.1 ⟨Nat.le_trans (Nat.le_of_ble_eq_true rfl) hR.1, Nat.le_trans (Nat.le_of_ble_eq_true rfl) hR.2.1⟩ ⟨Nat.le_trans (Nat.le_of_ble_eq_true rfl) hR.2.2.1, Nat.le_trans (Nat.le_of_ble_eq_true rfl) hR.2.2.2⟩ dX3_readMonk_16) (fun H locs hw => ?_)
    refine lv_iconst (v := (-1)) hx hb dX3_readMonk_19 (by decide) ?_
    refine lv_icmp_eq (tgt := 30) hx hb dX3_readMonk_20 (by decide) (fun hc20 => ?_) (fun hc20 => ?_)
    · replace hF := st_t hc20 hF
      refine lv_aload_n hx hb dX3_readMonk_30 rfl (lv_at hl 1 rfl) ?_
      obtain ⟨M36, hgr35, hF⟩ := st_bnd hF
      refine g_cv hw (g_runV (C := RX3) (As := []) (rest := []) fx hw isO_1 rfl (c_X3_nextToken l x D cy ad H.size M33 M36 hgr35) wd1_234 wd1_236 wd0_0 wd1_5 wd1_237 yd_X3_nextToken rfl rfl (Nat.le_of_ble_eq_true rfl) hl.1 ⟨Nat.le_trans (Nat.le_of_ble_eq_true rfl) hR.1, Nat.le_trans (Nat.le_of_ble_eq_true rfl) hR.2.1⟩ ⟨Nat.le_trans (Nat.le_of_ble_eq_true rfl) hR.2.2.1, Nat.le_trans (Nat.le_of_ble_eq_true rfl) hR.2.2.2⟩ dX3_readMonk_31) (fun H locs hw => ?_)
      refine lv_iconst (v := 0) hx hb dX3_readMonk_34 (by decide) ?_
      refine lv_istore_n (lv' := [(3, .int 0), (2, .int r32), (0, .ref (ad 1)), (1, .int p1)]) hx hb dX3_readMonk_35 rfl hl (by decide) rfl (fun ls hl => ?_)
      refine lv_iconst (v := 0) hx hb dX3_readMonk_36 (by decide) ?_
      refine lv_istore (lv' := [(4, .int 0), (3, .int 0), (2, .int r32), (0, .ref (ad 1)), (1, .int p1)]) hx hb dX3_readMonk_37 hl (by decide) rfl (fun ls hl => ?_)
      exact n_39 FU p1 r32 0 0 M36 H locs ls (lv_sub hl [3, 4, 2, 1, 0] rfl) hw hF
    · replace hF := st_f hc20 hF
      refine lv_aload_n hx hb dX3_readMonk_23 rfl (lv_at hl 1 rfl) ?_
      refine lv_bipush (v := (-5)) hx hb dX3_readMonk_24 (by decide) ?_
      obtain ⟨r37, M38, hgr37, hF⟩ := st_bnd2 hF
      refine g_cz hw (g_runV (C := RX3) (As := [.int (-5)]) (rest := []) fx hw isO_1 rfl (c_X3_fail l x D cy ad (-5) H.size M33 r37 M38 hgr37) wd2_67 wd2_69 wd0_6 wd1_5 wd2_70 yd_X3_fail rfl rfl (Nat.le_of_ble_eq_true rfl) hl.1 ⟨Nat.le_trans (Nat.le_of_ble_eq_true rfl) hR.1, Nat.le_trans (Nat.le_of_ble_eq_true rfl) hR.2.1⟩ ⟨Nat.le_trans (Nat.le_of_ble_eq_true rfl) hR.2.2.1, Nat.le_trans (Nat.le_of_ble_eq_true rfl) hR.2.2.2⟩ dX3_readMonk_26) (fun H locs hbr37 hw => ?_)
      exact E _ _ _ _ _ _ dX3_readMonk_29 hbr37 hw hF
  · replace hF := st_t hc6 hF
    refine lv_iconst (v := 0) hx hb dX3_readMonk_9 (by decide) ?_
    exact E _ _ _ _ _ _ dX3_readMonk_10 (Or.inl rfl) hw hF
theorem c_X3_readMonk (l : Launch) (x : SX) (D : va_G) (cy : Nat → ClassId) (ad : Nat → Nat) (p1 : Int32) (sz : Nat) (M : Mem) (z : Int32) (M' : Mem) (hF : f_X3_readMonk p1 M = some (z, M')) : Met l yX3_readMonk (.code yX3_readMonk cX3_readMonk 6 (some .boolean) :: GB) ({ frames := 3, cells := 0, slots := 0, locals := 66 } : Room) (PcW D cy ad x sz M [.ref (ad 1), .int p1]) (QzW D cy ad sz z M') 0 0 (AA ad sz) := by
  refine mk_m (own := RX3) (by decide) rfl (Nat.le_of_ble_eq_true rfl) ?_
  intro p e s m args below meth c ls fx hw hl hsz
  subst hsz
  exact b_X3_readMonk fx ⟨Nat.le_refl _, Nat.le_refl _, Nat.le_refl _, Nat.le_refl _⟩ p1 M z M' hF (fun pc ls H locs v M1 hd hb hw h => by cases h; exact g_zret fx hw rfl hb hd) _ _ ls hl hw
noncomputable def f_X3_readMonks_74 : Mem → Option (Int32 × Mem) := fun M => (some (1, M))
noncomputable def f_X3_readMonks_31 : Mem → Option (Int32 × Mem) := fun M => (some (1, M))
noncomputable def f_X3_readMonks_2 (rec2 : Int32 → Mem → Option (Int32 × Mem)) : Int32 → Mem → Option (Int32 × Mem) := fun a1 M => (if 12 ≤ a1 then (bnd (f_X3_rankHere M) (fun r21 => (if r21 = (-1) then ((f_X3_readMonks_74) M) else (bnd2 (f_X3_fail (-6) M) (fun r22 M23 => (if r22 = 0 then (some (0, M23)) else ((f_X3_readMonks_74) M23))))))) else (bnd (f_X3_rankHere M) (fun r24 => (if r24 = (-1) then (if 0 < a1 then ((f_X3_readMonks_31) M) else (bnd2 (f_X3_fail (-2) M) (fun r29 M30 => (if r29 = 0 then (some (0, M30)) else ((f_X3_readMonks_31) M30))))) else (bnd (f_X3_nextToken M) (fun M26 => (bnd2 (f_X3_readMonk r24 M26) (fun r27 M28 => (if r27 = 0 then (some (0, M28)) else (rec2 (a1 + 1) M28))))))))))
noncomputable def f_X3_readMonks (M : Mem) : Option (Int32 × Mem) := ((lp (fun _ _ => none) (f_X3_readMonks_2) FU) 0 M)
set_option maxHeartbeats 4000000 in
set_option maxRecDepth 100000 in
theorem b_X3_readMonks {p : Program} {l : Launch} {e : Env} {R : Room} {s : State} {m : MethodId} {args : Array Value} {below : List Frame} {meth : Method} {c : Code} {Q : State → Prop} {D : va_G} {cy : Nat → ClassId} {ad : Nat → Nat} {x : SX} (fx : FX p s m args meth c cX3_readMonks 3 (some .boolean) RX3 D cy ad x) (hR : 6 ≤ R.frames ∧ 127 ≤ R.locals ∧ 0 ≤ R.cells ∧ 0 ≤ R.slots) (M : Mem) (z : Int32) (M' : Mem) (hF : f_X3_readMonks M = some (z, M')) (E : ∀ (pc : Nat) (ls : Array Slot) (H : Heap) (locs : List Loc) (v : Int32) (M1 : Mem), decode cX3_readMonks pc = .ok (.ireturn, 1) → (v = 0 ∨ v = 1) → WD D cy ad s M1 H locs → some (v, M1) = some (z, M') → W p l e R s m args below meth c H locs 0 0 Q (F0 m pc ls [.int v])) (H : Heap) (locs : List Loc) (ls : Array Slot) (hl : lv_has ls 3 [(0, .ref (ad 1))]) (hw : WD D cy ad s M H locs) : W p l e R s m args below meth c H locs 0 0 Q (F0 m 0 ls []) := by
  have hx := fx.1.1
  have hb := fx.1.2.1
  have hown := fx.1.2.2.2.1
  have hts := fx.1.2.2.2.2
  have n_74 : ∀ (M : Mem) (H : Heap) (locs : List Loc) (ls : Array Slot), lv_has ls 3 [] → WD D cy ad s M H locs → f_X3_readMonks_74 M = some (z, M') → W p l e R s m args below meth c H locs 0 0 Q (F0 m 74 ls []) := by
    intro M H locs ls hl hw hF
    unfold f_X3_readMonks_74 at hF
    refine lv_iconst (v := 1) hx hb dX3_readMonks_74 (by decide) ?_
    refine lv_goto (tgt := 79) hx hb dX3_readMonks_75 (by decide) ?_
    exact E _ _ _ _ _ _ dX3_readMonks_79 (Or.inr rfl) hw hF
  have n_31 : ∀ (M : Mem) (H : Heap) (locs : List Loc) (ls : Array Slot), lv_has ls 3 [] → WD D cy ad s M H locs → f_X3_readMonks_31 M = some (z, M') → W p l e R s m args below meth c H locs 0 0 Q (F0 m 31 ls []) := by
    intro M H locs ls hl hw hF
    unfold f_X3_readMonks_31 at hF
    refine lv_iconst (v := 1) hx hb dX3_readMonks_31 (by decide) ?_
    refine lv_goto (tgt := 36) hx hb dX3_readMonks_32 (by decide) ?_
    exact E _ _ _ _ _ _ dX3_readMonks_36 (Or.inr rfl) hw hF
  have n_2 : ∀ (n9 : Nat), ∀ (a1 : Int32) (M : Mem) (H : Heap) (locs : List Loc) (ls : Array Slot), lv_has ls 3 [(0, .ref (ad 1)), (1, .int a1)] → WD D cy ad s M H locs → (lp (fun _ _ => none) (f_X3_readMonks_2) n9) a1 M = some (z, M') → W p l e R s m args below meth c H locs 0 0 Q (F0 m 2 ls []) := by
    intro n9
    refine lp_ind (fun (rec2 : Int32 → Mem → Option (Int32 × Mem)) => ∀ (a1 : Int32) (M : Mem) (H : Heap) (locs : List Loc) (ls : Array Slot), lv_has ls 3 [(0, .ref (ad 1)), (1, .int a1)] → WD D cy ad s M H locs → rec2 a1 M = some (z, M') → W p l e R s m args below meth c H locs 0 0 Q (F0 m 2 ls [])) ?_ ?_ n9
    · intro a1 M H locs ls hl hw hF
      exact nomatch hF
    · intro rec2 hr2 a1 M H locs ls hl hw hF
      unfold f_X3_readMonks_2 at hF
      refine lv_iload_n hx hb dX3_readMonks_2 rfl (lv_at hl 1 rfl) ?_
      refine lv_bipush (v := 12) hx hb dX3_readMonks_3 (by decide) ?_
      refine lv_icmp_ge (tgt := 57) hx hb dX3_readMonks_5 (by decide) (fun hc5 => ?_) (fun hc5 => ?_)
      · replace hF := st_t hc5 hF
        refine lv_aload_n hx hb dX3_readMonks_57 rfl (lv_at hl 0 rfl) ?_
        obtain ⟨r21, hgr21, hF⟩ := st_bnd hF
        refine g_ci hw (g_runV (C := RX3) (As := []) (rest := []) fx hw isO_1 rfl (c_X3_rankHere l x D cy ad H.size M r21 hgr21) wd2_106 wd2_108 wd0_13 wd1_5 wd2_109 yd_X3_rankHere rfl rfl (Nat.le_of_ble_eq_true rfl) hl.1 ⟨Nat.le_trans (Nat.le_of_ble_eq_true rfl) hR.1, Nat.le_trans (Nat.le_of_ble_eq_true rfl) hR.2.1⟩ ⟨Nat.le_trans (Nat.le_of_ble_eq_true rfl) hR.2.2.1, Nat.le_trans (Nat.le_of_ble_eq_true rfl) hR.2.2.2⟩ dX3_readMonks_58) (fun H locs hw => ?_)
        refine lv_iconst (v := (-1)) hx hb dX3_readMonks_61 (by decide) ?_
        refine lv_icmp_eq (tgt := 74) hx hb dX3_readMonks_62 (by decide) (fun hc62 => ?_) (fun hc62 => ?_)
        · replace hF := st_t hc62 hF
          exact n_74 M H locs ls (lv_sub hl [] rfl) hw hF
        · replace hF := st_f hc62 hF
          refine lv_aload_n hx hb dX3_readMonks_65 rfl (lv_at hl 0 rfl) ?_
          refine lv_bipush (v := (-6)) hx hb dX3_readMonks_66 (by decide) ?_
          obtain ⟨r22, M23, hgr22, hF⟩ := st_bnd2 hF
          refine g_cz hw (g_runV (C := RX3) (As := [.int (-6)]) (rest := []) fx hw isO_1 rfl (c_X3_fail l x D cy ad (-6) H.size M r22 M23 hgr22) wd2_67 wd2_69 wd0_6 wd1_5 wd2_70 yd_X3_fail rfl rfl (Nat.le_of_ble_eq_true rfl) hl.1 ⟨Nat.le_trans (Nat.le_of_ble_eq_true rfl) hR.1, Nat.le_trans (Nat.le_of_ble_eq_true rfl) hR.2.1⟩ ⟨Nat.le_trans (Nat.le_of_ble_eq_true rfl) hR.2.2.1, Nat.le_trans (Nat.le_of_ble_eq_true rfl) hR.2.2.2⟩ dX3_readMonks_68) (fun H locs hbr22 hw => ?_)
          refine lv_if_eq (tgt := 78) hx hb dX3_readMonks_71 (by decide) (fun hc71 => ?_) (fun hc71 => ?_)
          · replace hF := st_t hc71 hF
            refine lv_iconst (v := 0) hx hb dX3_readMonks_78 (by decide) ?_
            exact E _ _ _ _ _ _ dX3_readMonks_79 (Or.inl rfl) hw hF
          · replace hF := st_f hc71 hF
            exact n_74 M23 H locs ls (lv_sub hl [] rfl) hw hF
      · replace hF := st_f hc5 hF
        refine lv_aload_n hx hb dX3_readMonks_8 rfl (lv_at hl 0 rfl) ?_
        obtain ⟨r24, hgr24, hF⟩ := st_bnd hF
        refine g_ci hw (g_runV (C := RX3) (As := []) (rest := []) fx hw isO_1 rfl (c_X3_rankHere l x D cy ad H.size M r24 hgr24) wd2_106 wd2_108 wd0_13 wd1_5 wd2_109 yd_X3_rankHere rfl rfl (Nat.le_of_ble_eq_true rfl) hl.1 ⟨Nat.le_trans (Nat.le_of_ble_eq_true rfl) hR.1, Nat.le_trans (Nat.le_of_ble_eq_true rfl) hR.2.1⟩ ⟨Nat.le_trans (Nat.le_of_ble_eq_true rfl) hR.2.2.1, Nat.le_trans (Nat.le_of_ble_eq_true rfl) hR.2.2.2⟩ dX3_readMonks_9) (fun H locs hw => ?_)
        refine lv_istore_n (lv' := [(2, .int r24), (0, .ref (ad 1)), (1, .int a1)]) hx hb dX3_readMonks_12 rfl hl (by decide) rfl (fun ls hl => ?_)
        refine lv_iload_n hx hb dX3_readMonks_13 rfl (lv_at hl 0 rfl) ?_
        refine lv_iconst (v := (-1)) hx hb dX3_readMonks_14 (by decide) ?_
        refine lv_icmp_ne (tgt := 37) hx hb dX3_readMonks_15 (by decide) (fun hc15 => ?_) (fun hc15 => ?_)
        · replace hF := st_f hc15 hF
          refine lv_aload_n hx hb dX3_readMonks_37 rfl (lv_at hl 1 rfl) ?_
          obtain ⟨M26, hgr25, hF⟩ := st_bnd hF
          refine g_cv hw (g_runV (C := RX3) (As := []) (rest := []) fx hw isO_1 rfl (c_X3_nextToken l x D cy ad H.size M M26 hgr25) wd1_234 wd1_236 wd0_0 wd1_5 wd1_237 yd_X3_nextToken rfl rfl (Nat.le_of_ble_eq_true rfl) hl.1 ⟨Nat.le_trans (Nat.le_of_ble_eq_true rfl) hR.1, Nat.le_trans (Nat.le_of_ble_eq_true rfl) hR.2.1⟩ ⟨Nat.le_trans (Nat.le_of_ble_eq_true rfl) hR.2.2.1, Nat.le_trans (Nat.le_of_ble_eq_true rfl) hR.2.2.2⟩ dX3_readMonks_38) (fun H locs hw => ?_)
          refine lv_aload_n hx hb dX3_readMonks_41 rfl (lv_at hl 1 rfl) ?_
          refine lv_iload_n hx hb dX3_readMonks_42 rfl (lv_at hl 0 rfl) ?_
          obtain ⟨r27, M28, hgr27, hF⟩ := st_bnd2 hF
          refine g_cz hw (g_runV (C := RX3) (As := [.int r24]) (rest := []) fx hw isO_1 rfl (c_X3_readMonk l x D cy ad r24 H.size M26 r27 M28 hgr27) wd2_113 wd2_115 wd0_14 wd1_5 wd2_116 yd_X3_readMonk rfl rfl (Nat.le_of_ble_eq_true rfl) hl.1 ⟨Nat.le_trans (Nat.le_of_ble_eq_true rfl) hR.1, Nat.le_trans (Nat.le_of_ble_eq_true rfl) hR.2.1⟩ ⟨Nat.le_trans (Nat.le_of_ble_eq_true rfl) hR.2.2.1, Nat.le_trans (Nat.le_of_ble_eq_true rfl) hR.2.2.2⟩ dX3_readMonks_43) (fun H locs hbr27 hw => ?_)
          refine lv_if_ne (tgt := 51) hx hb dX3_readMonks_46 (by decide) (fun hc46 => ?_) (fun hc46 => ?_)
          · replace hF := st_f hc46 hF
            refine lv_iinc (v := (a1 + 1)) (lv' := [(1, .int (a1 + 1)), (2, .int r24), (0, .ref (ad 1))]) hx hb dX3_readMonks_51 hl (k := 2) rfl rfl (by decide) rfl (fun ls hl => ?_)
            refine lv_goto (tgt := 2) hx hb dX3_readMonks_54 (by decide) ?_
            exact hr2 (a1 + 1) M28 H locs ls (lv_sub hl [2, 0] rfl) hw hF
          · replace hF := st_t hc46 hF
            refine lv_iconst (v := 0) hx hb dX3_readMonks_49 (by decide) ?_
            exact E _ _ _ _ _ _ dX3_readMonks_50 (Or.inl rfl) hw hF
        · replace hF := st_t hc15 hF
          refine lv_iload_n hx hb dX3_readMonks_18 rfl (lv_at hl 2 rfl) ?_
          refine lv_if_gt (tgt := 31) hx hb dX3_readMonks_19 (by decide) (fun hc19 => ?_) (fun hc19 => ?_)
          · replace hF := st_t hc19 hF
            exact n_31 M H locs ls (lv_sub hl [] rfl) hw hF
          · replace hF := st_f hc19 hF
            refine lv_aload_n hx hb dX3_readMonks_22 rfl (lv_at hl 1 rfl) ?_
            refine lv_bipush (v := (-2)) hx hb dX3_readMonks_23 (by decide) ?_
            obtain ⟨r29, M30, hgr29, hF⟩ := st_bnd2 hF
            refine g_cz hw (g_runV (C := RX3) (As := [.int (-2)]) (rest := []) fx hw isO_1 rfl (c_X3_fail l x D cy ad (-2) H.size M r29 M30 hgr29) wd2_67 wd2_69 wd0_6 wd1_5 wd2_70 yd_X3_fail rfl rfl (Nat.le_of_ble_eq_true rfl) hl.1 ⟨Nat.le_trans (Nat.le_of_ble_eq_true rfl) hR.1, Nat.le_trans (Nat.le_of_ble_eq_true rfl) hR.2.1⟩ ⟨Nat.le_trans (Nat.le_of_ble_eq_true rfl) hR.2.2.1, Nat.le_trans (Nat.le_of_ble_eq_true rfl) hR.2.2.2⟩ dX3_readMonks_25) (fun H locs hbr29 hw => ?_)
            refine lv_if_eq (tgt := 35) hx hb dX3_readMonks_28 (by decide) (fun hc28 => ?_) (fun hc28 => ?_)
            · replace hF := st_t hc28 hF
              refine lv_iconst (v := 0) hx hb dX3_readMonks_35 (by decide) ?_
              exact E _ _ _ _ _ _ dX3_readMonks_36 (Or.inl rfl) hw hF
            · replace hF := st_f hc28 hF
              exact n_31 M30 H locs ls (lv_sub hl [] rfl) hw hF
  unfold f_X3_readMonks at hF
  refine lv_iconst (v := 0) hx hb dX3_readMonks_0 (by decide) ?_
  refine lv_istore_n (lv' := [(1, .int 0), (0, .ref (ad 1))]) hx hb dX3_readMonks_1 rfl hl (by decide) rfl (fun ls hl => ?_)
  exact n_2 FU 0 M H locs ls (lv_sub hl [1, 0] rfl) hw hF
theorem c_X3_readMonks (l : Launch) (x : SX) (D : va_G) (cy : Nat → ClassId) (ad : Nat → Nat) (sz : Nat) (M : Mem) (z : Int32) (M' : Mem) (hF : f_X3_readMonks M = some (z, M')) : Met l yX3_readMonks (.code yX3_readMonks cX3_readMonks 3 (some .boolean) :: GB) ({ frames := 6, cells := 0, slots := 0, locals := 127 } : Room) (PcW D cy ad x sz M [.ref (ad 1)]) (QzW D cy ad sz z M') 0 0 (AA ad sz) := by
  refine mk_m (own := RX3) (by decide) rfl (Nat.le_of_ble_eq_true rfl) ?_
  intro p e s m args below meth c ls fx hw hl hsz
  subst hsz
  exact b_X3_readMonks fx ⟨Nat.le_refl _, Nat.le_refl _, Nat.le_refl _, Nat.le_refl _⟩ M z M' hF (fun pc ls H locs v M1 hd hb hw h => by cases h; exact g_zret fx hw rfl hb hd) _ _ ls hl hw
noncomputable def f_X3_readBell_66 : Mem → Option (Int32 × Mem) := fun M => (bnd2 (f_X3_takeSemicolon M) (fun r29 M30 => (some (r29, M30))))
noncomputable def f_X3_readBell (M : Mem) : Option (Int32 × Mem) := (bnd2 (f_X3_takeNumber 0 23 M) (fun r31 M32 => (if r31 = (-1) then (some (0, M32)) else (bnd2 (f_X3_takeWord 7 M32) (fun r33 M34 => (if r33 = 0 then (bnd2 (f_X3_takeWord 8 M34) (fun r35 M36 => (if r35 = 0 then (bnd2 (f_X3_fail (-2) M36) (fun r37 M38 => (some (r37, M38)))) else (chk (inB r31 24) (letM (mput M36 42 (ix r31) 1) (fun M39 => ((f_X3_readBell_66) M39))))))) else (chk (inB r31 24) (letM (mput M34 42 (ix r31) 2) (fun M41 => ((f_X3_readBell_66) M41))))))))))
set_option maxHeartbeats 4000000 in
set_option maxRecDepth 100000 in
theorem b_X3_readBell {p : Program} {l : Launch} {e : Env} {R : Room} {s : State} {m : MethodId} {args : Array Value} {below : List Frame} {meth : Method} {c : Code} {Q : State → Prop} {D : va_G} {cy : Nat → ClassId} {ad : Nat → Nat} {x : SX} (fx : FX p s m args meth c cX3_readBell 2 (some .boolean) RX3 D cy ad x) (hR : 6 ≤ R.frames ∧ 128 ≤ R.locals ∧ 0 ≤ R.cells ∧ 0 ≤ R.slots) (M : Mem) (z : Int32) (M' : Mem) (hF : f_X3_readBell M = some (z, M')) (E : ∀ (pc : Nat) (ls : Array Slot) (H : Heap) (locs : List Loc) (v : Int32) (M1 : Mem), decode cX3_readBell pc = .ok (.ireturn, 1) → (v = 0 ∨ v = 1) → WD D cy ad s M1 H locs → some (v, M1) = some (z, M') → W p l e R s m args below meth c H locs 0 0 Q (F0 m pc ls [.int v])) (H : Heap) (locs : List Loc) (ls : Array Slot) (hl : lv_has ls 2 [(0, .ref (ad 1))]) (hw : WD D cy ad s M H locs) : W p l e R s m args below meth c H locs 0 0 Q (F0 m 0 ls []) := by
  have hx := fx.1.1
  have hb := fx.1.2.1
  have hown := fx.1.2.2.2.1
  have hts := fx.1.2.2.2.2
  have n_66 : ∀ (M : Mem) (H : Heap) (locs : List Loc) (ls : Array Slot), lv_has ls 2 [(0, .ref (ad 1))] → WD D cy ad s M H locs → f_X3_readBell_66 M = some (z, M') → W p l e R s m args below meth c H locs 0 0 Q (F0 m 66 ls []) := by
    intro M H locs ls hl hw hF
    unfold f_X3_readBell_66 at hF
    refine lv_aload_n hx hb dX3_readBell_66 rfl (lv_at hl 0 rfl) ?_
    obtain ⟨r29, M30, hgr29, hF⟩ := st_bnd2 hF
    refine g_cz hw (g_runV (C := RX3) (As := []) (rest := []) fx hw isO_1 rfl (c_X3_takeSemicolon l x D cy ad H.size M r29 M30 hgr29) wd2_74 wd2_76 wd0_7 wd1_5 wd2_77 yd_X3_takeSemicolon rfl rfl (Nat.le_of_ble_eq_true rfl) hl.1 ⟨Nat.le_trans (Nat.le_of_ble_eq_true rfl) hR.1, Nat.le_trans (Nat.le_of_ble_eq_true rfl) hR.2.1⟩ ⟨Nat.le_trans (Nat.le_of_ble_eq_true rfl) hR.2.2.1, Nat.le_trans (Nat.le_of_ble_eq_true rfl) hR.2.2.2⟩ dX3_readBell_67) (fun H locs hbr29 hw => ?_)
    exact E _ _ _ _ _ _ dX3_readBell_70 hbr29 hw hF
  unfold f_X3_readBell at hF
  refine lv_aload_n hx hb dX3_readBell_0 rfl (lv_at hl 0 rfl) ?_
  refine lv_iconst (v := 0) hx hb dX3_readBell_1 (by decide) ?_
  refine lv_bipush (v := 23) hx hb dX3_readBell_2 (by decide) ?_
  obtain ⟨r31, M32, hgr31, hF⟩ := st_bnd2 hF
  refine g_ci hw (g_runV (C := RX3) (As := [.int 0, .int 23]) (rest := []) fx hw isO_1 rfl (c_X3_takeNumber l x D cy ad 0 23 H.size M r31 M32 hgr31) wd2_59 wd2_61 wd0_4 wd1_5 wd2_62 yd_X3_takeNumber rfl rfl (Nat.le_of_ble_eq_true rfl) hl.1 ⟨Nat.le_trans (Nat.le_of_ble_eq_true rfl) hR.1, Nat.le_trans (Nat.le_of_ble_eq_true rfl) hR.2.1⟩ ⟨Nat.le_trans (Nat.le_of_ble_eq_true rfl) hR.2.2.1, Nat.le_trans (Nat.le_of_ble_eq_true rfl) hR.2.2.2⟩ dX3_readBell_4) (fun H locs hw => ?_)
  refine lv_istore_n (lv' := [(1, .int r31), (0, .ref (ad 1))]) hx hb dX3_readBell_7 rfl hl (by decide) rfl (fun ls hl => ?_)
  refine lv_iload_n hx hb dX3_readBell_8 rfl (lv_at hl 0 rfl) ?_
  refine lv_iconst (v := (-1)) hx hb dX3_readBell_9 (by decide) ?_
  refine lv_icmp_ne (tgt := 15) hx hb dX3_readBell_10 (by decide) (fun hc10 => ?_) (fun hc10 => ?_)
  · replace hF := st_f hc10 hF
    refine lv_aload_n hx hb dX3_readBell_15 rfl (lv_at hl 1 rfl) ?_
    refine va_ldcS hx hb hown (fx.2.2.2.2.str (w := 7) (by decide)).1 dX3_readBell_16 ?_
    obtain ⟨r33, M34, hgr33, hF⟩ := st_bnd2 hF
    refine g_cz hw (g_runV (C := RX3) (As := [.ref (x.1 7)]) (rest := []) fx hw isO_1 rfl (c_X3_takeWord l x D cy ad 7 (by decide) H.size M32 r33 M34 hgr33) wd2_3 wd2_5 wd0_2 wd1_5 wd2_6 yd_X3_takeWord rfl rfl (Nat.le_of_ble_eq_true rfl) hl.1 ⟨Nat.le_trans (Nat.le_of_ble_eq_true rfl) hR.1, Nat.le_trans (Nat.le_of_ble_eq_true rfl) hR.2.1⟩ ⟨Nat.le_trans (Nat.le_of_ble_eq_true rfl) hR.2.2.1, Nat.le_trans (Nat.le_of_ble_eq_true rfl) hR.2.2.2⟩ dX3_readBell_18) (fun H locs hbr33 hw => ?_)
    refine lv_if_eq (tgt := 37) hx hb dX3_readBell_21 (by decide) (fun hc21 => ?_) (fun hc21 => ?_)
    · replace hF := st_t hc21 hF
      refine lv_aload_n hx hb dX3_readBell_37 rfl (lv_at hl 1 rfl) ?_
      refine va_ldcS hx hb hown (fx.2.2.2.2.str (w := 8) (by decide)).1 dX3_readBell_38 ?_
      obtain ⟨r35, M36, hgr35, hF⟩ := st_bnd2 hF
      refine g_cz hw (g_runV (C := RX3) (As := [.ref (x.1 8)]) (rest := []) fx hw isO_1 rfl (c_X3_takeWord l x D cy ad 8 (by decide) H.size M34 r35 M36 hgr35) wd2_3 wd2_5 wd0_2 wd1_5 wd2_6 yd_X3_takeWord rfl rfl (Nat.le_of_ble_eq_true rfl) hl.1 ⟨Nat.le_trans (Nat.le_of_ble_eq_true rfl) hR.1, Nat.le_trans (Nat.le_of_ble_eq_true rfl) hR.2.1⟩ ⟨Nat.le_trans (Nat.le_of_ble_eq_true rfl) hR.2.2.1, Nat.le_trans (Nat.le_of_ble_eq_true rfl) hR.2.2.2⟩ dX3_readBell_40) (fun H locs hbr35 hw => ?_)
      refine lv_if_eq (tgt := 59) hx hb dX3_readBell_43 (by decide) (fun hc43 => ?_) (fun hc43 => ?_)
      · replace hF := st_t hc43 hF
        refine lv_aload_n hx hb dX3_readBell_59 rfl (lv_at hl 1 rfl) ?_
        refine lv_bipush (v := (-2)) hx hb dX3_readBell_60 (by decide) ?_
        obtain ⟨r37, M38, hgr37, hF⟩ := st_bnd2 hF
        refine g_cz hw (g_runV (C := RX3) (As := [.int (-2)]) (rest := []) fx hw isO_1 rfl (c_X3_fail l x D cy ad (-2) H.size M36 r37 M38 hgr37) wd2_67 wd2_69 wd0_6 wd1_5 wd2_70 yd_X3_fail rfl rfl (Nat.le_of_ble_eq_true rfl) hl.1 ⟨Nat.le_trans (Nat.le_of_ble_eq_true rfl) hR.1, Nat.le_trans (Nat.le_of_ble_eq_true rfl) hR.2.1⟩ ⟨Nat.le_trans (Nat.le_of_ble_eq_true rfl) hR.2.2.1, Nat.le_trans (Nat.le_of_ble_eq_true rfl) hR.2.2.2⟩ dX3_readBell_62) (fun H locs hbr37 hw => ?_)
        exact E _ _ _ _ _ _ dX3_readBell_65 hbr37 hw hF
      · replace hF := st_f hc43 hF
        refine lv_aload_n hx hb dX3_readBell_46 rfl (lv_at hl 1 rfl) ?_
        refine gX3_get fx hw isO_1 1 (by decide) wd1_145 rfl dX3_readBell_47 ?_
        refine gX1_get fx hw isH_31.O 10 (by decide) wd1_58 rfl dX3_readBell_50 ?_
        refine lv_iload_n hx hb dX3_readBell_53 rfl (lv_at hl 0 rfl) ?_
        refine lv_iconst (v := 1) hx hb dX3_readBell_54 (by decide) ?_
        obtain ⟨hi40, hF⟩ := st_chk hF
        obtain ⟨M39, eM39, hF⟩ := st_letM hF
        refine g_iast fx hw isH_31.a11 hi40 eM39 dX3_readBell_55 (fun H locs hw => ?_)
        refine lv_goto (tgt := 66) hx hb dX3_readBell_56 (by decide) ?_
        exact n_66 M39 H locs ls (lv_sub hl [1] rfl) hw hF
    · replace hF := st_f hc21 hF
      refine lv_aload_n hx hb dX3_readBell_24 rfl (lv_at hl 1 rfl) ?_
      refine gX3_get fx hw isO_1 1 (by decide) wd1_145 rfl dX3_readBell_25 ?_
      refine gX1_get fx hw isH_31.O 10 (by decide) wd1_58 rfl dX3_readBell_28 ?_
      refine lv_iload_n hx hb dX3_readBell_31 rfl (lv_at hl 0 rfl) ?_
      refine lv_iconst (v := 2) hx hb dX3_readBell_32 (by decide) ?_
      obtain ⟨hi42, hF⟩ := st_chk hF
      obtain ⟨M41, eM41, hF⟩ := st_letM hF
      refine g_iast fx hw isH_31.a11 hi42 eM41 dX3_readBell_33 (fun H locs hw => ?_)
      refine lv_goto (tgt := 66) hx hb dX3_readBell_34 (by decide) ?_
      exact n_66 M41 H locs ls (lv_sub hl [1] rfl) hw hF
  · replace hF := st_t hc10 hF
    refine lv_iconst (v := 0) hx hb dX3_readBell_13 (by decide) ?_
    exact E _ _ _ _ _ _ dX3_readBell_14 (Or.inl rfl) hw hF
theorem c_X3_readBell (l : Launch) (x : SX) (D : va_G) (cy : Nat → ClassId) (ad : Nat → Nat) (sz : Nat) (M : Mem) (z : Int32) (M' : Mem) (hF : f_X3_readBell M = some (z, M')) : Met l yX3_readBell (.code yX3_readBell cX3_readBell 2 (some .boolean) :: GB) ({ frames := 6, cells := 0, slots := 0, locals := 128 } : Room) (PcW D cy ad x sz M [.ref (ad 1)]) (QzW D cy ad sz z M') 0 0 (AA ad sz) := by
  refine mk_m (own := RX3) (by decide) rfl (Nat.le_of_ble_eq_true rfl) ?_
  intro p e s m args below meth c ls fx hw hl hsz
  subst hsz
  exact b_X3_readBell fx ⟨Nat.le_refl _, Nat.le_refl _, Nat.le_refl _, Nat.le_refl _⟩ M z M' hF (fun pc ls H locs v M1 hd hb hw h => by cases h; exact g_zret fx hw rfl hb hd) _ _ ls hl hw
noncomputable def f_X3_readBells_2 (rec2 : Int32 → Mem → Option (Int32 × Mem)) : Int32 → Mem → Option (Int32 × Mem) := fun a1 M => (if 800 ≤ a1 then (some (1, M)) else (bnd2 (f_X3_takeWord 6 M) (fun r9 M10 => (if r9 = 0 then (some (1, M10)) else (bnd2 (f_X3_readBell M10) (fun r11 M12 => (if r11 = 0 then (some (0, M12)) else (rec2 (a1 + 1) M12))))))))
noncomputable def f_X3_readBells (M : Mem) : Option (Int32 × Mem) := ((lp (fun _ _ => none) (f_X3_readBells_2) FU) 0 M)
set_option maxHeartbeats 4000000 in
set_option maxRecDepth 100000 in
theorem b_X3_readBells {p : Program} {l : Launch} {e : Env} {R : Room} {s : State} {m : MethodId} {args : Array Value} {below : List Frame} {meth : Method} {c : Code} {Q : State → Prop} {D : va_G} {cy : Nat → ClassId} {ad : Nat → Nat} {x : SX} (fx : FX p s m args meth c cX3_readBells 2 (some .boolean) RX3 D cy ad x) (hR : 7 ≤ R.frames ∧ 149 ≤ R.locals ∧ 0 ≤ R.cells ∧ 0 ≤ R.slots) (M : Mem) (z : Int32) (M' : Mem) (hF : f_X3_readBells M = some (z, M')) (E : ∀ (pc : Nat) (ls : Array Slot) (H : Heap) (locs : List Loc) (v : Int32) (M1 : Mem), decode cX3_readBells pc = .ok (.ireturn, 1) → (v = 0 ∨ v = 1) → WD D cy ad s M1 H locs → some (v, M1) = some (z, M') → W p l e R s m args below meth c H locs 0 0 Q (F0 m pc ls [.int v])) (H : Heap) (locs : List Loc) (ls : Array Slot) (hl : lv_has ls 2 [(0, .ref (ad 1))]) (hw : WD D cy ad s M H locs) : W p l e R s m args below meth c H locs 0 0 Q (F0 m 0 ls []) := by
  have hx := fx.1.1
  have hb := fx.1.2.1
  have hown := fx.1.2.2.2.1
  have hts := fx.1.2.2.2.2
  have n_2 : ∀ (n9 : Nat), ∀ (a1 : Int32) (M : Mem) (H : Heap) (locs : List Loc) (ls : Array Slot), lv_has ls 2 [(0, .ref (ad 1)), (1, .int a1)] → WD D cy ad s M H locs → (lp (fun _ _ => none) (f_X3_readBells_2) n9) a1 M = some (z, M') → W p l e R s m args below meth c H locs 0 0 Q (F0 m 2 ls []) := by
    intro n9
    refine lp_ind (fun (rec2 : Int32 → Mem → Option (Int32 × Mem)) => ∀ (a1 : Int32) (M : Mem) (H : Heap) (locs : List Loc) (ls : Array Slot), lv_has ls 2 [(0, .ref (ad 1)), (1, .int a1)] → WD D cy ad s M H locs → rec2 a1 M = some (z, M') → W p l e R s m args below meth c H locs 0 0 Q (F0 m 2 ls [])) ?_ ?_ n9
    · intro a1 M H locs ls hl hw hF
      exact nomatch hF
    · intro rec2 hr2 a1 M H locs ls hl hw hF
      unfold f_X3_readBells_2 at hF
      refine lv_iload_n hx hb dX3_readBells_2 rfl (lv_at hl 1 rfl) ?_
      refine lv_sipush (v := 800) hx hb dX3_readBells_3 (by decide) ?_
      refine lv_icmp_ge (tgt := 33) hx hb dX3_readBells_6 (by decide) (fun hc6 => ?_) (fun hc6 => ?_)
      · replace hF := st_t hc6 hF
        refine lv_iconst (v := 1) hx hb dX3_readBells_33 (by decide) ?_
        exact E _ _ _ _ _ _ dX3_readBells_34 (Or.inr rfl) hw hF
      · replace hF := st_f hc6 hF
        refine lv_aload_n hx hb dX3_readBells_9 rfl (lv_at hl 0 rfl) ?_
        refine va_ldcS hx hb hown (fx.2.2.2.2.str (w := 6) (by decide)).1 dX3_readBells_10 ?_
        obtain ⟨r9, M10, hgr9, hF⟩ := st_bnd2 hF
        refine g_cz hw (g_runV (C := RX3) (As := [.ref (x.1 6)]) (rest := []) fx hw isO_1 rfl (c_X3_takeWord l x D cy ad 6 (by decide) H.size M r9 M10 hgr9) wd2_3 wd2_5 wd0_2 wd1_5 wd2_6 yd_X3_takeWord rfl rfl (Nat.le_of_ble_eq_true rfl) hl.1 ⟨Nat.le_trans (Nat.le_of_ble_eq_true rfl) hR.1, Nat.le_trans (Nat.le_of_ble_eq_true rfl) hR.2.1⟩ ⟨Nat.le_trans (Nat.le_of_ble_eq_true rfl) hR.2.2.1, Nat.le_trans (Nat.le_of_ble_eq_true rfl) hR.2.2.2⟩ dX3_readBells_12) (fun H locs hbr9 hw => ?_)
        refine lv_if_eq (tgt := 33) hx hb dX3_readBells_15 (by decide) (fun hc15 => ?_) (fun hc15 => ?_)
        · replace hF := st_t hc15 hF
          refine lv_iconst (v := 1) hx hb dX3_readBells_33 (by decide) ?_
          exact E _ _ _ _ _ _ dX3_readBells_34 (Or.inr rfl) hw hF
        · replace hF := st_f hc15 hF
          refine lv_aload_n hx hb dX3_readBells_18 rfl (lv_at hl 0 rfl) ?_
          obtain ⟨r11, M12, hgr11, hF⟩ := st_bnd2 hF
          refine g_cz hw (g_runV (C := RX3) (As := []) (rest := []) fx hw isO_1 rfl (c_X3_readBell l x D cy ad H.size M10 r11 M12 hgr11) wd2_134 wd2_136 wd0_17 wd1_5 wd2_137 yd_X3_readBell rfl rfl (Nat.le_of_ble_eq_true rfl) hl.1 ⟨Nat.le_trans (Nat.le_of_ble_eq_true rfl) hR.1, Nat.le_trans (Nat.le_of_ble_eq_true rfl) hR.2.1⟩ ⟨Nat.le_trans (Nat.le_of_ble_eq_true rfl) hR.2.2.1, Nat.le_trans (Nat.le_of_ble_eq_true rfl) hR.2.2.2⟩ dX3_readBells_19) (fun H locs hbr11 hw => ?_)
          refine lv_if_ne (tgt := 27) hx hb dX3_readBells_22 (by decide) (fun hc22 => ?_) (fun hc22 => ?_)
          · replace hF := st_f hc22 hF
            refine lv_iinc (v := (a1 + 1)) (lv' := [(1, .int (a1 + 1)), (0, .ref (ad 1))]) hx hb dX3_readBells_27 hl (k := 1) rfl rfl (by decide) rfl (fun ls hl => ?_)
            refine lv_goto (tgt := 2) hx hb dX3_readBells_30 (by decide) ?_
            exact hr2 (a1 + 1) M12 H locs ls (lv_sub hl [1, 0] rfl) hw hF
          · replace hF := st_t hc22 hF
            refine lv_iconst (v := 0) hx hb dX3_readBells_25 (by decide) ?_
            exact E _ _ _ _ _ _ dX3_readBells_26 (Or.inl rfl) hw hF
  unfold f_X3_readBells at hF
  refine lv_iconst (v := 0) hx hb dX3_readBells_0 (by decide) ?_
  refine lv_istore_n (lv' := [(1, .int 0), (0, .ref (ad 1))]) hx hb dX3_readBells_1 rfl hl (by decide) rfl (fun ls hl => ?_)
  exact n_2 FU 0 M H locs ls (lv_sub hl [1, 0] rfl) hw hF
theorem c_X3_readBells (l : Launch) (x : SX) (D : va_G) (cy : Nat → ClassId) (ad : Nat → Nat) (sz : Nat) (M : Mem) (z : Int32) (M' : Mem) (hF : f_X3_readBells M = some (z, M')) : Met l yX3_readBells (.code yX3_readBells cX3_readBells 2 (some .boolean) :: GB) ({ frames := 7, cells := 0, slots := 0, locals := 149 } : Room) (PcW D cy ad x sz M [.ref (ad 1)]) (QzW D cy ad sz z M') 0 0 (AA ad sz) := by
  refine mk_m (own := RX3) (by decide) rfl (Nat.le_of_ble_eq_true rfl) ?_
  intro p e s m args below meth c ls fx hw hl hsz
  subst hsz
  exact b_X3_readBells fx ⟨Nat.le_refl _, Nat.le_refl _, Nat.le_refl _, Nat.le_refl _⟩ M z M' hF (fun pc ls H locs v M1 hd hb hw h => by cases h; exact g_zret fx hw rfl hb hd) _ _ ls hl hw
noncomputable def f_X3_takeMonk (p1 : Int32) (M : Mem) : Option (Int32 × Mem) := (bnd2 (f_X3_nameHere M) (fun r10 M11 => (if r10 = 0 then (some ((-1), M11)) else (bnd (f_X1_monkNamed 31 r10 M11) (fun r12 => (if r12 = (-1) then (bnd2 (f_X3_fail (-4) M11) (fun r17 M18 => (some ((-1), M18)))) else (if r12 = p1 then (bnd2 (f_X3_fail (-5) M11) (fun r15 M16 => (some ((-1), M16)))) else (bnd (f_X3_nextToken M11) (fun M14 => (some (r12, M14)))))))))))
set_option maxHeartbeats 4000000 in
set_option maxRecDepth 100000 in
theorem b_X3_takeMonk {p : Program} {l : Launch} {e : Env} {R : Room} {s : State} {m : MethodId} {args : Array Value} {below : List Frame} {meth : Method} {c : Code} {Q : State → Prop} {D : va_G} {cy : Nat → ClassId} {ad : Nat → Nat} {x : SX} (fx : FX p s m args meth c cX3_takeMonk 4 (some .int) RX3 D cy ad x) (hR : 2 ≤ R.frames ∧ 43 ≤ R.locals ∧ 0 ≤ R.cells ∧ 0 ≤ R.slots) (p1 : Int32) (M : Mem) (z : Int32) (M' : Mem) (hF : f_X3_takeMonk p1 M = some (z, M')) (E : ∀ (pc : Nat) (ls : Array Slot) (H : Heap) (locs : List Loc) (v : Int32) (M1 : Mem), decode cX3_takeMonk pc = .ok (.ireturn, 1) → WD D cy ad s M1 H locs → some (v, M1) = some (z, M') → W p l e R s m args below meth c H locs 0 0 Q (F0 m pc ls [.int v])) (H : Heap) (locs : List Loc) (ls : Array Slot) (hl : lv_has ls 4 [(0, .ref (ad 1)), (1, .int p1)]) (hw : WD D cy ad s M H locs) : W p l e R s m args below meth c H locs 0 0 Q (F0 m 0 ls []) := by
  have hx := fx.1.1
  have hb := fx.1.2.1
  have hown := fx.1.2.2.2.1
  have hts := fx.1.2.2.2.2
  unfold f_X3_takeMonk at hF
  refine lv_aload_n hx hb dX3_takeMonk_0 rfl (lv_at hl 0 rfl) ?_
  obtain ⟨r10, M11, hgr10, hF⟩ := st_bnd2 hF
  refine g_ci hw (g_runV (C := RX3) (As := []) (rest := []) fx hw isO_1 rfl (c_X3_nameHere l x D cy ad H.size M r10 M11 hgr10) wd2_92 wd2_94 wd0_11 wd1_5 wd2_95 yd_X3_nameHere rfl rfl (Nat.le_of_ble_eq_true rfl) hl.1 ⟨Nat.le_trans (Nat.le_of_ble_eq_true rfl) hR.1, Nat.le_trans (Nat.le_of_ble_eq_true rfl) hR.2.1⟩ ⟨Nat.le_trans (Nat.le_of_ble_eq_true rfl) hR.2.2.1, Nat.le_trans (Nat.le_of_ble_eq_true rfl) hR.2.2.2⟩ dX3_takeMonk_1) (fun H locs hw => ?_)
  refine lv_istore_n (lv' := [(2, .int r10), (0, .ref (ad 1)), (1, .int p1)]) hx hb dX3_takeMonk_4 rfl hl (by decide) rfl (fun ls hl => ?_)
  refine lv_iload_n hx hb dX3_takeMonk_5 rfl (lv_at hl 0 rfl) ?_
  refine lv_if_ne (tgt := 11) hx hb dX3_takeMonk_6 (by decide) (fun hc6 => ?_) (fun hc6 => ?_)
  · replace hF := st_f hc6 hF
    refine lv_aload_n hx hb dX3_takeMonk_11 rfl (lv_at hl 1 rfl) ?_
    refine gX3_get fx hw isO_1 1 (by decide) wd1_145 rfl dX3_takeMonk_12 ?_
    refine lv_iload_n hx hb dX3_takeMonk_15 rfl (lv_at hl 0 rfl) ?_
    obtain ⟨r12, hgr12, hF⟩ := st_bnd hF
    refine g_ci hw (g_runV (C := RX1) (As := [.int r10]) (rest := []) fx hw isH_31.O rfl (c_X1_monkNamed l x D cy ad 31 isH_31 r10 H.size M11 r12 hgr12) wd2_117 wd2_118 wd2_119 wd1_2 wd2_120 yd_X1_monkNamed rfl rfl (Nat.le_of_ble_eq_true rfl) hl.1 ⟨Nat.le_trans (Nat.le_of_ble_eq_true rfl) hR.1, Nat.le_trans (Nat.le_of_ble_eq_true rfl) hR.2.1⟩ ⟨Nat.le_trans (Nat.le_of_ble_eq_true rfl) hR.2.2.1, Nat.le_trans (Nat.le_of_ble_eq_true rfl) hR.2.2.2⟩ dX3_takeMonk_16) (fun H locs hw => ?_)
    refine lv_istore_n (lv' := [(3, .int r12), (2, .int r10), (0, .ref (ad 1)), (1, .int p1)]) hx hb dX3_takeMonk_19 rfl hl (by decide) rfl (fun ls hl => ?_)
    refine lv_iload_n hx hb dX3_takeMonk_20 rfl (lv_at hl 0 rfl) ?_
    refine lv_iconst (v := (-1)) hx hb dX3_takeMonk_21 (by decide) ?_
    refine lv_icmp_ne (tgt := 34) hx hb dX3_takeMonk_22 (by decide) (fun hc22 => ?_) (fun hc22 => ?_)
    · replace hF := st_f hc22 hF
      refine lv_iload_n hx hb dX3_takeMonk_34 rfl (lv_at hl 0 rfl) ?_
      refine lv_iload_n hx hb dX3_takeMonk_35 rfl (lv_at hl 3 rfl) ?_
      refine lv_icmp_ne (tgt := 48) hx hb dX3_takeMonk_36 (by decide) (fun hc36 => ?_) (fun hc36 => ?_)
      · replace hF := st_f hc36 hF
        refine lv_aload_n hx hb dX3_takeMonk_48 rfl (lv_at hl 2 rfl) ?_
        obtain ⟨M14, hgr13, hF⟩ := st_bnd hF
        refine g_cv hw (g_runV (C := RX3) (As := []) (rest := []) fx hw isO_1 rfl (c_X3_nextToken l x D cy ad H.size M11 M14 hgr13) wd1_234 wd1_236 wd0_0 wd1_5 wd1_237 yd_X3_nextToken rfl rfl (Nat.le_of_ble_eq_true rfl) hl.1 ⟨Nat.le_trans (Nat.le_of_ble_eq_true rfl) hR.1, Nat.le_trans (Nat.le_of_ble_eq_true rfl) hR.2.1⟩ ⟨Nat.le_trans (Nat.le_of_ble_eq_true rfl) hR.2.2.1, Nat.le_trans (Nat.le_of_ble_eq_true rfl) hR.2.2.2⟩ dX3_takeMonk_49) (fun H locs hw => ?_)
        refine lv_iload_n hx hb dX3_takeMonk_52 rfl (lv_at hl 0 rfl) ?_
        exact E _ _ _ _ _ _ dX3_takeMonk_53 hw hF
      · replace hF := st_t hc36 hF
        refine lv_aload_n hx hb dX3_takeMonk_39 rfl (lv_at hl 2 rfl) ?_
        refine lv_bipush (v := (-5)) hx hb dX3_takeMonk_40 (by decide) ?_
        obtain ⟨r15, M16, hgr15, hF⟩ := st_bnd2 hF
        refine g_cz hw (g_runV (C := RX3) (As := [.int (-5)]) (rest := []) fx hw isO_1 rfl (c_X3_fail l x D cy ad (-5) H.size M11 r15 M16 hgr15) wd2_67 wd2_69 wd0_6 wd1_5 wd2_70 yd_X3_fail rfl rfl (Nat.le_of_ble_eq_true rfl) hl.1 ⟨Nat.le_trans (Nat.le_of_ble_eq_true rfl) hR.1, Nat.le_trans (Nat.le_of_ble_eq_true rfl) hR.2.1⟩ ⟨Nat.le_trans (Nat.le_of_ble_eq_true rfl) hR.2.2.1, Nat.le_trans (Nat.le_of_ble_eq_true rfl) hR.2.2.2⟩ dX3_takeMonk_42) (fun H locs hbr15 hw => ?_)
        refine lv_pop hx hb dX3_takeMonk_45 rfl ?_
        refine lv_iconst (v := (-1)) hx hb dX3_takeMonk_46 (by decide) ?_
        exact E _ _ _ _ _ _ dX3_takeMonk_47 hw hF
    · replace hF := st_t hc22 hF
      refine lv_aload_n hx hb dX3_takeMonk_25 rfl (lv_at hl 2 rfl) ?_
      refine lv_bipush (v := (-4)) hx hb dX3_takeMonk_26 (by decide) ?_
      obtain ⟨r17, M18, hgr17, hF⟩ := st_bnd2 hF
      refine g_cz hw (g_runV (C := RX3) (As := [.int (-4)]) (rest := []) fx hw isO_1 rfl (c_X3_fail l x D cy ad (-4) H.size M11 r17 M18 hgr17) wd2_67 wd2_69 wd0_6 wd1_5 wd2_70 yd_X3_fail rfl rfl (Nat.le_of_ble_eq_true rfl) hl.1 ⟨Nat.le_trans (Nat.le_of_ble_eq_true rfl) hR.1, Nat.le_trans (Nat.le_of_ble_eq_true rfl) hR.2.1⟩ ⟨Nat.le_trans (Nat.le_of_ble_eq_true rfl) hR.2.2.1, Nat.le_trans (Nat.le_of_ble_eq_true rfl) hR.2.2.2⟩ dX3_takeMonk_28) (fun H locs hbr17 hw => ?_)
      refine lv_pop hx hb dX3_takeMonk_31 rfl ?_
      refine lv_iconst (v := (-1)) hx hb dX3_takeMonk_32 (by decide) ?_
      exact E _ _ _ _ _ _ dX3_takeMonk_33 hw hF
  · replace hF := st_t hc6 hF
    refine lv_iconst (v := (-1)) hx hb dX3_takeMonk_9 (by decide) ?_
    exact E _ _ _ _ _ _ dX3_takeMonk_10 hw hF
theorem c_X3_takeMonk (l : Launch) (x : SX) (D : va_G) (cy : Nat → ClassId) (ad : Nat → Nat) (p1 : Int32) (sz : Nat) (M : Mem) (z : Int32) (M' : Mem) (hF : f_X3_takeMonk p1 M = some (z, M')) : Met l yX3_takeMonk (.code yX3_takeMonk cX3_takeMonk 4 (some .int) :: GB) ({ frames := 2, cells := 0, slots := 0, locals := 43 } : Room) (PcW D cy ad x sz M [.ref (ad 1), .int p1]) (QiW D cy ad sz z M') 0 0 (AA ad sz) := by
  refine mk_m (own := RX3) (by decide) rfl (Nat.le_of_ble_eq_true rfl) ?_
  intro p e s m args below meth c ls fx hw hl hsz
  subst hsz
  exact b_X3_takeMonk fx ⟨Nat.le_refl _, Nat.le_refl _, Nat.le_refl _, Nat.le_refl _⟩ p1 M z M' hF (fun pc ls H locs v M1 hd hw h => by cases h; exact g_iret fx hw rfl hd) _ _ ls hl hw
noncomputable def f_X3_takeEndOfDeed_20 : Mem → Option (Int32 × Mem) := fun M => (bnd2 (f_X3_takeSemicolon M) (fun r11 M12 => (some (r11, M12))))
noncomputable def f_X3_takeEndOfDeed (p1 : Int32) (M : Mem) : Option (Int32 × Mem) := (bnd (f_X3_firstByte M) (fun r13 => (if r13 = 59 then (if p1 = 0 then ((f_X3_takeEndOfDeed_20) M) else (bnd2 (f_X3_fail (-7) M) (fun r14 M15 => (some (r14, M15))))) else ((f_X3_takeEndOfDeed_20) M))))
set_option maxHeartbeats 4000000 in
set_option maxRecDepth 100000 in
theorem b_X3_takeEndOfDeed {p : Program} {l : Launch} {e : Env} {R : Room} {s : State} {m : MethodId} {args : Array Value} {below : List Frame} {meth : Method} {c : Code} {Q : State → Prop} {D : va_G} {cy : Nat → ClassId} {ad : Nat → Nat} {x : SX} (fx : FX p s m args meth c cX3_takeEndOfDeed 2 (some .boolean) RX3 D cy ad x) (hR : 2 ≤ R.frames ∧ 41 ≤ R.locals ∧ 0 ≤ R.cells ∧ 0 ≤ R.slots) (p1 : Int32) (M : Mem) (z : Int32) (M' : Mem) (hF : f_X3_takeEndOfDeed p1 M = some (z, M')) (E : ∀ (pc : Nat) (ls : Array Slot) (H : Heap) (locs : List Loc) (v : Int32) (M1 : Mem), decode cX3_takeEndOfDeed pc = .ok (.ireturn, 1) → (v = 0 ∨ v = 1) → WD D cy ad s M1 H locs → some (v, M1) = some (z, M') → W p l e R s m args below meth c H locs 0 0 Q (F0 m pc ls [.int v])) (H : Heap) (locs : List Loc) (ls : Array Slot) (hl : lv_has ls 2 [(0, .ref (ad 1)), (1, .int p1)]) (hw : WD D cy ad s M H locs) : W p l e R s m args below meth c H locs 0 0 Q (F0 m 0 ls []) := by
  have hx := fx.1.1
  have hb := fx.1.2.1
  have hown := fx.1.2.2.2.1
  have hts := fx.1.2.2.2.2
  have n_20 : ∀ (M : Mem) (H : Heap) (locs : List Loc) (ls : Array Slot), lv_has ls 2 [(0, .ref (ad 1))] → WD D cy ad s M H locs → f_X3_takeEndOfDeed_20 M = some (z, M') → W p l e R s m args below meth c H locs 0 0 Q (F0 m 20 ls []) := by
    intro M H locs ls hl hw hF
    unfold f_X3_takeEndOfDeed_20 at hF
    refine lv_aload_n hx hb dX3_takeEndOfDeed_20 rfl (lv_at hl 0 rfl) ?_
    obtain ⟨r11, M12, hgr11, hF⟩ := st_bnd2 hF
    refine g_cz hw (g_runV (C := RX3) (As := []) (rest := []) fx hw isO_1 rfl (c_X3_takeSemicolon l x D cy ad H.size M r11 M12 hgr11) wd2_74 wd2_76 wd0_7 wd1_5 wd2_77 yd_X3_takeSemicolon rfl rfl (Nat.le_of_ble_eq_true rfl) hl.1 ⟨Nat.le_trans (Nat.le_of_ble_eq_true rfl) hR.1, Nat.le_trans (Nat.le_of_ble_eq_true rfl) hR.2.1⟩ ⟨Nat.le_trans (Nat.le_of_ble_eq_true rfl) hR.2.2.1, Nat.le_trans (Nat.le_of_ble_eq_true rfl) hR.2.2.2⟩ dX3_takeEndOfDeed_21) (fun H locs hbr11 hw => ?_)
    exact E _ _ _ _ _ _ dX3_takeEndOfDeed_24 hbr11 hw hF
  unfold f_X3_takeEndOfDeed at hF
  refine lv_aload_n hx hb dX3_takeEndOfDeed_0 rfl (lv_at hl 0 rfl) ?_
  obtain ⟨r13, hgr13, hF⟩ := st_bnd hF
  refine g_ci hw (g_runV (C := RX3) (As := []) (rest := []) fx hw isO_1 rfl (c_X3_firstByte l x D cy ad H.size M r13 hgr13) wd2_63 wd2_65 wd0_5 wd1_5 wd2_66 yd_X3_firstByte rfl rfl (Nat.le_of_ble_eq_true rfl) hl.1 ⟨Nat.le_trans (Nat.le_of_ble_eq_true rfl) hR.1, Nat.le_trans (Nat.le_of_ble_eq_true rfl) hR.2.1⟩ ⟨Nat.le_trans (Nat.le_of_ble_eq_true rfl) hR.2.2.1, Nat.le_trans (Nat.le_of_ble_eq_true rfl) hR.2.2.2⟩ dX3_takeEndOfDeed_1) (fun H locs hw => ?_)
  refine lv_bipush (v := 59) hx hb dX3_takeEndOfDeed_4 (by decide) ?_
  refine lv_icmp_ne (tgt := 20) hx hb dX3_takeEndOfDeed_6 (by decide) (fun hc6 => ?_) (fun hc6 => ?_)
  · replace hF := st_f hc6 hF
    exact n_20 M H locs ls (lv_sub hl [0] rfl) hw hF
  · replace hF := st_t hc6 hF
    refine lv_iload_n hx hb dX3_takeEndOfDeed_9 rfl (lv_at hl 1 rfl) ?_
    refine lv_if_eq (tgt := 20) hx hb dX3_takeEndOfDeed_10 (by decide) (fun hc10 => ?_) (fun hc10 => ?_)
    · replace hF := st_t hc10 hF
      exact n_20 M H locs ls (lv_sub hl [0] rfl) hw hF
    · replace hF := st_f hc10 hF
      refine lv_aload_n hx hb dX3_takeEndOfDeed_13 rfl (lv_at hl 0 rfl) ?_
      refine lv_bipush (v := (-7)) hx hb dX3_takeEndOfDeed_14 (by decide) ?_
      obtain ⟨r14, M15, hgr14, hF⟩ := st_bnd2 hF
      refine g_cz hw (g_runV (C := RX3) (As := [.int (-7)]) (rest := []) fx hw isO_1 rfl (c_X3_fail l x D cy ad (-7) H.size M r14 M15 hgr14) wd2_67 wd2_69 wd0_6 wd1_5 wd2_70 yd_X3_fail rfl rfl (Nat.le_of_ble_eq_true rfl) hl.1 ⟨Nat.le_trans (Nat.le_of_ble_eq_true rfl) hR.1, Nat.le_trans (Nat.le_of_ble_eq_true rfl) hR.2.1⟩ ⟨Nat.le_trans (Nat.le_of_ble_eq_true rfl) hR.2.2.1, Nat.le_trans (Nat.le_of_ble_eq_true rfl) hR.2.2.2⟩ dX3_takeEndOfDeed_16) (fun H locs hbr14 hw => ?_)
      exact E _ _ _ _ _ _ dX3_takeEndOfDeed_19 hbr14 hw hF
theorem c_X3_takeEndOfDeed (l : Launch) (x : SX) (D : va_G) (cy : Nat → ClassId) (ad : Nat → Nat) (p1 : Int32) (sz : Nat) (M : Mem) (z : Int32) (M' : Mem) (hF : f_X3_takeEndOfDeed p1 M = some (z, M')) : Met l yX3_takeEndOfDeed (.code yX3_takeEndOfDeed cX3_takeEndOfDeed 2 (some .boolean) :: GB) ({ frames := 2, cells := 0, slots := 0, locals := 41 } : Room) (PcW D cy ad x sz M [.ref (ad 1), .int p1]) (QzW D cy ad sz z M') 0 0 (AA ad sz) := by
  refine mk_m (own := RX3) (by decide) rfl (Nat.le_of_ble_eq_true rfl) ?_
  intro p e s m args below meth c ls fx hw hl hsz
  subst hsz
  exact b_X3_takeEndOfDeed fx ⟨Nat.le_refl _, Nat.le_refl _, Nat.le_refl _, Nat.le_refl _⟩ p1 M z M' hF (fun pc ls H locs v M1 hd hb hw h => by cases h; exact g_zret fx hw rfl hb hd) _ _ ls hl hw
noncomputable def f_X3_readWant (M : Mem) : Option (Int32 × Mem) := (bnd2 (f_X3_takeMonk (-1) M) (fun r10 M11 => (if r10 = (-1) then (some (0, M11)) else (bnd2 (f_X3_takeNeed 0 M11) (fun r12 M13 => (if r12 = (-1) then (some (0, M13)) else (bnd (f_X1_wantRefusal 31 r10 r12 M13) (fun r14 => (bnd2 (f_X3_takeEndOfDeed r14 M13) (fun r15 M16 => (if r15 = 0 then (some (0, M16)) else (bnd2 (f_X1_addWant 31 r10 r12 M16) (fun r17 M18 => (some (1, M18)))))))))))))))
set_option maxHeartbeats 4000000 in
set_option maxRecDepth 100000 in
theorem b_X3_readWant {p : Program} {l : Launch} {e : Env} {R : Room} {s : State} {m : MethodId} {args : Array Value} {below : List Frame} {meth : Method} {c : Code} {Q : State → Prop} {D : va_G} {cy : Nat → ClassId} {ad : Nat → Nat} {x : SX} (fx : FX p s m args meth c cX3_readWant 3 (some .boolean) RX3 D cy ad x) (hR : 3 ≤ R.frames ∧ 66 ≤ R.locals ∧ 0 ≤ R.cells ∧ 0 ≤ R.slots) (M : Mem) (z : Int32) (M' : Mem) (hF : f_X3_readWant M = some (z, M')) (E : ∀ (pc : Nat) (ls : Array Slot) (H : Heap) (locs : List Loc) (v : Int32) (M1 : Mem), decode cX3_readWant pc = .ok (.ireturn, 1) → (v = 0 ∨ v = 1) → WD D cy ad s M1 H locs → some (v, M1) = some (z, M') → W p l e R s m args below meth c H locs 0 0 Q (F0 m pc ls [.int v])) (H : Heap) (locs : List Loc) (ls : Array Slot) (hl : lv_has ls 3 [(0, .ref (ad 1))]) (hw : WD D cy ad s M H locs) : W p l e R s m args below meth c H locs 0 0 Q (F0 m 0 ls []) := by
  have hx := fx.1.1
  have hb := fx.1.2.1
  have hown := fx.1.2.2.2.1
  have hts := fx.1.2.2.2.2
  unfold f_X3_readWant at hF
  refine lv_aload_n hx hb dX3_readWant_0 rfl (lv_at hl 0 rfl) ?_
  refine lv_iconst (v := (-1)) hx hb dX3_readWant_1 (by decide) ?_
  obtain ⟨r10, M11, hgr10, hF⟩ := st_bnd2 hF
  refine g_ci hw (g_runV (C := RX3) (As := [.int (-1)]) (rest := []) fx hw isO_1 rfl (c_X3_takeMonk l x D cy ad (-1) H.size M r10 M11 hgr10) wd2_149 wd2_151 wd0_20 wd1_5 wd2_152 yd_X3_takeMonk rfl rfl (Nat.le_of_ble_eq_true rfl) hl.1 ⟨Nat.le_trans (Nat.le_of_ble_eq_true rfl) hR.1, Nat.le_trans (Nat.le_of_ble_eq_true rfl) hR.2.1⟩ ⟨Nat.le_trans (Nat.le_of_ble_eq_true rfl) hR.2.2.1, Nat.le_trans (Nat.le_of_ble_eq_true rfl) hR.2.2.2⟩ dX3_readWant_2) (fun H locs hw => ?_)
  refine lv_istore_n (lv' := [(1, .int r10), (0, .ref (ad 1))]) hx hb dX3_readWant_5 rfl hl (by decide) rfl (fun ls hl => ?_)
  refine lv_iload_n hx hb dX3_readWant_6 rfl (lv_at hl 0 rfl) ?_
  refine lv_iconst (v := (-1)) hx hb dX3_readWant_7 (by decide) ?_
  refine lv_icmp_ne (tgt := 13) hx hb dX3_readWant_8 (by decide) (fun hc8 => ?_) (fun hc8 => ?_)
  · replace hF := st_f hc8 hF
    refine lv_aload_n hx hb dX3_readWant_13 rfl (lv_at hl 1 rfl) ?_
    refine lv_iconst (v := 0) hx hb dX3_readWant_14 (by decide) ?_
    obtain ⟨r12, M13, hgr12, hF⟩ := st_bnd2 hF
    refine g_ci hw (g_runV (C := RX3) (As := [.int 0]) (rest := []) fx hw isO_1 rfl (c_X3_takeNeed l x D cy ad 0 H.size M11 r12 M13 hgr12) wd2_121 wd2_123 wd0_15 wd1_5 wd2_124 yd_X3_takeNeed rfl rfl (Nat.le_of_ble_eq_true rfl) hl.1 ⟨Nat.le_trans (Nat.le_of_ble_eq_true rfl) hR.1, Nat.le_trans (Nat.le_of_ble_eq_true rfl) hR.2.1⟩ ⟨Nat.le_trans (Nat.le_of_ble_eq_true rfl) hR.2.2.1, Nat.le_trans (Nat.le_of_ble_eq_true rfl) hR.2.2.2⟩ dX3_readWant_15) (fun H locs hw => ?_)
    refine lv_istore_n (lv' := [(2, .int r12), (1, .int r10), (0, .ref (ad 1))]) hx hb dX3_readWant_18 rfl hl (by decide) rfl (fun ls hl => ?_)
    refine lv_iload_n hx hb dX3_readWant_19 rfl (lv_at hl 0 rfl) ?_
    refine lv_iconst (v := (-1)) hx hb dX3_readWant_20 (by decide) ?_
    refine lv_icmp_eq (tgt := 40) hx hb dX3_readWant_21 (by decide) (fun hc21 => ?_) (fun hc21 => ?_)
    · replace hF := st_t hc21 hF
      refine lv_iconst (v := 0) hx hb dX3_readWant_40 (by decide) ?_
      exact E _ _ _ _ _ _ dX3_readWant_41 (Or.inl rfl) hw hF
    · replace hF := st_f hc21 hF
      refine lv_aload_n hx hb dX3_readWant_24 rfl (lv_at hl 2 rfl) ?_
      refine lv_aload_n hx hb dX3_readWant_25 rfl (lv_at hl 2 rfl) ?_
      refine gX3_get fx hw isO_1 1 (by decide) wd1_145 rfl dX3_readWant_26 ?_
      refine lv_iload_n hx hb dX3_readWant_29 rfl (lv_at hl 1 rfl) ?_
      refine lv_iload_n hx hb dX3_readWant_30 rfl (lv_at hl 0 rfl) ?_
      obtain ⟨r14, hgr14, hF⟩ := st_bnd hF
      refine g_ci hw (g_runV (C := RX1) (As := [.int r10, .int r12]) (rest := [.ref (ad 1)]) fx hw isH_31.O rfl (c_X1_wantRefusal l x D cy ad 31 isH_31 r10 r12 H.size M13 r14 hgr14) wd2_153 wd2_154 wd2_155 wd1_2 wd2_156 yd_X1_wantRefusal rfl rfl (Nat.le_of_ble_eq_true rfl) hl.1 ⟨Nat.le_trans (Nat.le_of_ble_eq_true rfl) hR.1, Nat.le_trans (Nat.le_of_ble_eq_true rfl) hR.2.1⟩ ⟨Nat.le_trans (Nat.le_of_ble_eq_true rfl) hR.2.2.1, Nat.le_trans (Nat.le_of_ble_eq_true rfl) hR.2.2.2⟩ dX3_readWant_31) (fun H locs hw => ?_)
      obtain ⟨r15, M16, hgr15, hF⟩ := st_bnd2 hF
      refine g_cz hw (g_runV (C := RX3) (As := [.int r14]) (rest := []) fx hw isO_1 rfl (c_X3_takeEndOfDeed l x D cy ad r14 H.size M13 r15 M16 hgr15) wd2_158 wd2_160 wd0_21 wd1_5 wd2_161 yd_X3_takeEndOfDeed rfl rfl (Nat.le_of_ble_eq_true rfl) hl.1 ⟨Nat.le_trans (Nat.le_of_ble_eq_true rfl) hR.1, Nat.le_trans (Nat.le_of_ble_eq_true rfl) hR.2.1⟩ ⟨Nat.le_trans (Nat.le_of_ble_eq_true rfl) hR.2.2.1, Nat.le_trans (Nat.le_of_ble_eq_true rfl) hR.2.2.2⟩ dX3_readWant_34) (fun H locs hbr15 hw => ?_)
      refine lv_if_ne (tgt := 42) hx hb dX3_readWant_37 (by decide) (fun hc37 => ?_) (fun hc37 => ?_)
      · replace hF := st_f hc37 hF
        refine lv_aload_n hx hb dX3_readWant_42 rfl (lv_at hl 2 rfl) ?_
        refine gX3_get fx hw isO_1 1 (by decide) wd1_145 rfl dX3_readWant_43 ?_
        refine lv_iload_n hx hb dX3_readWant_46 rfl (lv_at hl 1 rfl) ?_
        refine lv_iload_n hx hb dX3_readWant_47 rfl (lv_at hl 0 rfl) ?_
        obtain ⟨r17, M18, hgr17, hF⟩ := st_bnd2 hF
        refine g_ci hw (g_runV (C := RX1) (As := [.int r10, .int r12]) (rest := []) fx hw isH_31.O rfl (c_X1_addWant l x D cy ad 31 isH_31 r10 r12 H.size M16 r17 M18 hgr17) wd2_162 wd2_163 wd2_164 wd1_2 wd2_165 yd_X1_addWant rfl rfl (Nat.le_of_ble_eq_true rfl) hl.1 ⟨Nat.le_trans (Nat.le_of_ble_eq_true rfl) hR.1, Nat.le_trans (Nat.le_of_ble_eq_true rfl) hR.2.1⟩ ⟨Nat.le_trans (Nat.le_of_ble_eq_true rfl) hR.2.2.1, Nat.le_trans (Nat.le_of_ble_eq_true rfl) hR.2.2.2⟩ dX3_readWant_48) (fun H locs hw => ?_)
        refine lv_pop hx hb dX3_readWant_51 rfl ?_
        refine lv_iconst (v := 1) hx hb dX3_readWant_52 (by decide) ?_
        exact E _ _ _ _ _ _ dX3_readWant_53 (Or.inr rfl) hw hF
      · replace hF := st_t hc37 hF
        refine lv_iconst (v := 0) hx hb dX3_readWant_40 (by decide) ?_
        exact E _ _ _ _ _ _ dX3_readWant_41 (Or.inl rfl) hw hF
  · replace hF := st_t hc8 hF
    refine lv_iconst (v := 0) hx hb dX3_readWant_11 (by decide) ?_
    exact E _ _ _ _ _ _ dX3_readWant_12 (Or.inl rfl) hw hF
theorem c_X3_readWant (l : Launch) (x : SX) (D : va_G) (cy : Nat → ClassId) (ad : Nat → Nat) (sz : Nat) (M : Mem) (z : Int32) (M' : Mem) (hF : f_X3_readWant M = some (z, M')) : Met l yX3_readWant (.code yX3_readWant cX3_readWant 3 (some .boolean) :: GB) ({ frames := 3, cells := 0, slots := 0, locals := 66 } : Room) (PcW D cy ad x sz M [.ref (ad 1)]) (QzW D cy ad sz z M') 0 0 (AA ad sz) := by
  refine mk_m (own := RX3) (by decide) rfl (Nat.le_of_ble_eq_true rfl) ?_
  intro p e s m args below meth c ls fx hw hl hsz
  subst hsz
  exact b_X3_readWant fx ⟨Nat.le_refl _, Nat.le_refl _, Nat.le_refl _, Nat.le_refl _⟩ M z M' hF (fun pc ls H locs v M1 hd hb hw h => by cases h; exact g_zret fx hw rfl hb hd) _ _ ls hl hw
noncomputable def f_X3_wayHere (M : Mem) : Option Int32 := (bnd (f_X3_isWord 13 M) (fun r4 => (if r4 = 0 then (bnd (f_X3_isWord 14 M) (fun r5 => (if r5 = 0 then (bnd (f_X3_isWord 15 M) (fun r6 => (if r6 = 0 then (some (-1)) else (some 2)))) else (some 1)))) else (some 0))))
set_option maxHeartbeats 4000000 in
set_option maxRecDepth 100000 in
theorem b_X3_wayHere {p : Program} {l : Launch} {e : Env} {R : Room} {s : State} {m : MethodId} {args : Array Value} {below : List Frame} {meth : Method} {c : Code} {Q : State → Prop} {D : va_G} {cy : Nat → ClassId} {ad : Nat → Nat} {x : SX} (fx : FX p s m args meth c cX3_wayHere 1 (some .int) RX3 D cy ad x) (hR : 5 ≤ R.frames ∧ 107 ≤ R.locals ∧ 0 ≤ R.cells ∧ 0 ≤ R.slots) (M : Mem) (z : Int32) (hF : f_X3_wayHere M = some z) (E : ∀ (pc : Nat) (ls : Array Slot) (H : Heap) (locs : List Loc) (v : Int32), decode cX3_wayHere pc = .ok (.ireturn, 1) → WD D cy ad s M H locs → some v = some z → W p l e R s m args below meth c H locs 0 0 Q (F0 m pc ls [.int v])) (H : Heap) (locs : List Loc) (ls : Array Slot) (hl : lv_has ls 1 [(0, .ref (ad 1))]) (hw : WD D cy ad s M H locs) : W p l e R s m args below meth c H locs 0 0 Q (F0 m 0 ls []) := by
  have hx := fx.1.1
  have hb := fx.1.2.1
  have hown := fx.1.2.2.2.1
  have hts := fx.1.2.2.2.2
  unfold f_X3_wayHere at hF
  refine lv_aload_n hx hb dX3_wayHere_0 rfl (lv_at hl 0 rfl) ?_
  refine va_ldcS hx hb hown (fx.2.2.2.2.str (w := 13) (by decide)).1 dX3_wayHere_1 ?_
  obtain ⟨r4, hgr4, hF⟩ := st_bnd hF
  refine g_cz hw (g_runV (C := RX3) (As := [.ref (x.1 13)]) (rest := []) fx hw isO_1 rfl (c_X3_isWord l x D cy ad 13 (by decide) H.size M r4 hgr4) wd2_7 wd2_9 wd0_3 wd1_5 wd2_10 yd_X3_isWord rfl rfl (Nat.le_of_ble_eq_true rfl) hl.1 ⟨Nat.le_trans (Nat.le_of_ble_eq_true rfl) hR.1, Nat.le_trans (Nat.le_of_ble_eq_true rfl) hR.2.1⟩ ⟨Nat.le_trans (Nat.le_of_ble_eq_true rfl) hR.2.2.1, Nat.le_trans (Nat.le_of_ble_eq_true rfl) hR.2.2.2⟩ dX3_wayHere_3) (fun H locs hbr4 hw => ?_)
  refine lv_if_eq (tgt := 11) hx hb dX3_wayHere_6 (by decide) (fun hc6 => ?_) (fun hc6 => ?_)
  · replace hF := st_t hc6 hF
    refine lv_aload_n hx hb dX3_wayHere_11 rfl (lv_at hl 0 rfl) ?_
    refine va_ldcS hx hb hown (fx.2.2.2.2.str (w := 14) (by decide)).1 dX3_wayHere_12 ?_
    obtain ⟨r5, hgr5, hF⟩ := st_bnd hF
    refine g_cz hw (g_runV (C := RX3) (As := [.ref (x.1 14)]) (rest := []) fx hw isO_1 rfl (c_X3_isWord l x D cy ad 14 (by decide) H.size M r5 hgr5) wd2_7 wd2_9 wd0_3 wd1_5 wd2_10 yd_X3_isWord rfl rfl (Nat.le_of_ble_eq_true rfl) hl.1 ⟨Nat.le_trans (Nat.le_of_ble_eq_true rfl) hR.1, Nat.le_trans (Nat.le_of_ble_eq_true rfl) hR.2.1⟩ ⟨Nat.le_trans (Nat.le_of_ble_eq_true rfl) hR.2.2.1, Nat.le_trans (Nat.le_of_ble_eq_true rfl) hR.2.2.2⟩ dX3_wayHere_14) (fun H locs hbr5 hw => ?_)
    refine lv_if_eq (tgt := 22) hx hb dX3_wayHere_17 (by decide) (fun hc17 => ?_) (fun hc17 => ?_)
    · replace hF := st_t hc17 hF
      refine lv_aload_n hx hb dX3_wayHere_22 rfl (lv_at hl 0 rfl) ?_
      refine va_ldcS hx hb hown (fx.2.2.2.2.str (w := 15) (by decide)).1 dX3_wayHere_23 ?_
      obtain ⟨r6, hgr6, hF⟩ := st_bnd hF
      refine g_cz hw (g_runV (C := RX3) (As := [.ref (x.1 15)]) (rest := []) fx hw isO_1 rfl (c_X3_isWord l x D cy ad 15 (by decide) H.size M r6 hgr6) wd2_7 wd2_9 wd0_3 wd1_5 wd2_10 yd_X3_isWord rfl rfl (Nat.le_of_ble_eq_true rfl) hl.1 ⟨Nat.le_trans (Nat.le_of_ble_eq_true rfl) hR.1, Nat.le_trans (Nat.le_of_ble_eq_true rfl) hR.2.1⟩ ⟨Nat.le_trans (Nat.le_of_ble_eq_true rfl) hR.2.2.1, Nat.le_trans (Nat.le_of_ble_eq_true rfl) hR.2.2.2⟩ dX3_wayHere_25) (fun H locs hbr6 hw => ?_)
      refine lv_if_eq (tgt := 35) hx hb dX3_wayHere_28 (by decide) (fun hc28 => ?_) (fun hc28 => ?_)
      · replace hF := st_t hc28 hF
        refine lv_iconst (v := (-1)) hx hb dX3_wayHere_35 (by decide) ?_
        exact E _ _ _ _ _ dX3_wayHere_36 hw hF
      · replace hF := st_f hc28 hF
        refine lv_iconst (v := 2) hx hb dX3_wayHere_31 (by decide) ?_
        refine lv_goto (tgt := 36) hx hb dX3_wayHere_32 (by decide) ?_
        exact E _ _ _ _ _ dX3_wayHere_36 hw hF
    · replace hF := st_f hc17 hF
      refine lv_iconst (v := 1) hx hb dX3_wayHere_20 (by decide) ?_
      exact E _ _ _ _ _ dX3_wayHere_21 hw hF
  · replace hF := st_f hc6 hF
    refine lv_iconst (v := 0) hx hb dX3_wayHere_9 (by decide) ?_
    exact E _ _ _ _ _ dX3_wayHere_10 hw hF
theorem c_X3_wayHere (l : Launch) (x : SX) (D : va_G) (cy : Nat → ClassId) (ad : Nat → Nat) (sz : Nat) (M : Mem) (z : Int32) (hF : f_X3_wayHere M = some z) : Met l yX3_wayHere (.code yX3_wayHere cX3_wayHere 1 (some .int) :: GB) ({ frames := 5, cells := 0, slots := 0, locals := 107 } : Room) (PcW D cy ad x sz M [.ref (ad 1)]) (QiW D cy ad sz z M) 0 0 (AA ad sz) := by
  refine mk_m (own := RX3) (by decide) rfl (Nat.le_of_ble_eq_true rfl) ?_
  intro p e s m args below meth c ls fx hw hl hsz
  subst hsz
  exact b_X3_wayHere fx ⟨Nat.le_refl _, Nat.le_refl _, Nat.le_refl _, Nat.le_refl _⟩ M z hF (fun pc ls H locs v hd hw h => by cases h; exact g_iret fx hw rfl hd) _ _ ls hl hw
noncomputable def f_X3_readTell (M : Mem) : Option (Int32 × Mem) := (bnd2 (f_X3_takeMonk (-1) M) (fun r17 M18 => (if r17 = (-1) then (some (0, M18)) else (bnd2 (f_X3_takeMonk r17 M18) (fun r19 M20 => (if r19 = (-1) then (some (0, M20)) else (bnd2 (f_X3_takeNeed 0 M20) (fun r21 M22 => (if r21 = (-1) then (some (0, M22)) else (bnd (f_X3_wayHere M22) (fun r23 => (if r23 = (-1) then (bnd2 (f_X3_fail (-2) M22) (fun r31 M32 => (some (r31, M32)))) else (bnd (f_X3_nextToken M22) (fun M25 => (bnd (f_X1_tellRefusal 31 r17 r19 r21 r23 M25) (fun r26 => (bnd2 (f_X3_takeEndOfDeed r26 M25) (fun r27 M28 => (if r27 = 0 then (some (0, M28)) else (bnd2 (f_X1_tellNeed 31 r17 r19 r21 r23 M28) (fun r29 M30 => (some (1, M30)))))))))))))))))))))))
set_option maxHeartbeats 4000000 in
set_option maxRecDepth 100000 in
theorem b_X3_readTell {p : Program} {l : Launch} {e : Env} {R : Room} {s : State} {m : MethodId} {args : Array Value} {below : List Frame} {meth : Method} {c : Code} {Q : State → Prop} {D : va_G} {cy : Nat → ClassId} {ad : Nat → Nat} {x : SX} (fx : FX p s m args meth c cX3_readTell 5 (some .boolean) RX3 D cy ad x) (hR : 6 ≤ R.frames ∧ 127 ≤ R.locals ∧ 0 ≤ R.cells ∧ 0 ≤ R.slots) (M : Mem) (z : Int32) (M' : Mem) (hF : f_X3_readTell M = some (z, M')) (E : ∀ (pc : Nat) (ls : Array Slot) (H : Heap) (locs : List Loc) (v : Int32) (M1 : Mem), decode cX3_readTell pc = .ok (.ireturn, 1) → (v = 0 ∨ v = 1) → WD D cy ad s M1 H locs → some (v, M1) = some (z, M') → W p l e R s m args below meth c H locs 0 0 Q (F0 m pc ls [.int v])) (H : Heap) (locs : List Loc) (ls : Array Slot) (hl : lv_has ls 5 [(0, .ref (ad 1))]) (hw : WD D cy ad s M H locs) : W p l e R s m args below meth c H locs 0 0 Q (F0 m 0 ls []) := by
  have hx := fx.1.1
  have hb := fx.1.2.1
  have hown := fx.1.2.2.2.1
  have hts := fx.1.2.2.2.2
  unfold f_X3_readTell at hF
  refine lv_aload_n hx hb dX3_readTell_0 rfl (lv_at hl 0 rfl) ?_
  refine lv_iconst (v := (-1)) hx hb dX3_readTell_1 (by decide) ?_
  obtain ⟨r17, M18, hgr17, hF⟩ := st_bnd2 hF
  refine g_ci hw (g_runV (C := RX3) (As := [.int (-1)]) (rest := []) fx hw isO_1 rfl (c_X3_takeMonk l x D cy ad (-1) H.size M r17 M18 hgr17) wd2_149 wd2_151 wd0_20 wd1_5 wd2_152 yd_X3_takeMonk rfl rfl (Nat.le_of_ble_eq_true rfl) hl.1 ⟨Nat.le_trans (Nat.le_of_ble_eq_true rfl) hR.1, Nat.le_trans (Nat.le_of_ble_eq_true rfl) hR.2.1⟩ ⟨Nat.le_trans (Nat.le_of_ble_eq_true rfl) hR.2.2.1, Nat.le_trans (Nat.le_of_ble_eq_true rfl) hR.2.2.2⟩ dX3_readTell_2) (fun H locs hw => ?_)
  refine lv_istore_n (lv' := [(1, .int r17), (0, .ref (ad 1))]) hx hb dX3_readTell_5 rfl hl (by decide) rfl (fun ls hl => ?_)
  refine lv_iload_n hx hb dX3_readTell_6 rfl (lv_at hl 0 rfl) ?_
  refine lv_iconst (v := (-1)) hx hb dX3_readTell_7 (by decide) ?_
  refine lv_icmp_ne (tgt := 13) hx hb dX3_readTell_8 (by decide) (fun hc8 => ?_) (fun hc8 => ?_)
  · replace hF := st_f hc8 hF
    refine lv_aload_n hx hb dX3_readTell_13 rfl (lv_at hl 1 rfl) ?_
    refine lv_iload_n hx hb dX3_readTell_14 rfl (lv_at hl 0 rfl) ?_
    obtain ⟨r19, M20, hgr19, hF⟩ := st_bnd2 hF
    refine g_ci hw (g_runV (C := RX3) (As := [.int r17]) (rest := []) fx hw isO_1 rfl (c_X3_takeMonk l x D cy ad r17 H.size M18 r19 M20 hgr19) wd2_149 wd2_151 wd0_20 wd1_5 wd2_152 yd_X3_takeMonk rfl rfl (Nat.le_of_ble_eq_true rfl) hl.1 ⟨Nat.le_trans (Nat.le_of_ble_eq_true rfl) hR.1, Nat.le_trans (Nat.le_of_ble_eq_true rfl) hR.2.1⟩ ⟨Nat.le_trans (Nat.le_of_ble_eq_true rfl) hR.2.2.1, Nat.le_trans (Nat.le_of_ble_eq_true rfl) hR.2.2.2⟩ dX3_readTell_15) (fun H locs hw => ?_)
    refine lv_istore_n (lv' := [(2, .int r19), (1, .int r17), (0, .ref (ad 1))]) hx hb dX3_readTell_18 rfl hl (by decide) rfl (fun ls hl => ?_)
    refine lv_iload_n hx hb dX3_readTell_19 rfl (lv_at hl 0 rfl) ?_
    refine lv_iconst (v := (-1)) hx hb dX3_readTell_20 (by decide) ?_
    refine lv_icmp_ne (tgt := 26) hx hb dX3_readTell_21 (by decide) (fun hc21 => ?_) (fun hc21 => ?_)
    · replace hF := st_f hc21 hF
      refine lv_aload_n hx hb dX3_readTell_26 rfl (lv_at hl 2 rfl) ?_
      refine lv_iconst (v := 0) hx hb dX3_readTell_27 (by decide) ?_
      obtain ⟨r21, M22, hgr21, hF⟩ := st_bnd2 hF
      refine g_ci hw (g_runV (C := RX3) (As := [.int 0]) (rest := []) fx hw isO_1 rfl (c_X3_takeNeed l x D cy ad 0 H.size M20 r21 M22 hgr21) wd2_121 wd2_123 wd0_15 wd1_5 wd2_124 yd_X3_takeNeed rfl rfl (Nat.le_of_ble_eq_true rfl) hl.1 ⟨Nat.le_trans (Nat.le_of_ble_eq_true rfl) hR.1, Nat.le_trans (Nat.le_of_ble_eq_true rfl) hR.2.1⟩ ⟨Nat.le_trans (Nat.le_of_ble_eq_true rfl) hR.2.2.1, Nat.le_trans (Nat.le_of_ble_eq_true rfl) hR.2.2.2⟩ dX3_readTell_28) (fun H locs hw => ?_)
      refine lv_istore_n (lv' := [(3, .int r21), (2, .int r19), (1, .int r17), (0, .ref (ad 1))]) hx hb dX3_readTell_31 rfl hl (by decide) rfl (fun ls hl => ?_)
      refine lv_iload_n hx hb dX3_readTell_32 rfl (lv_at hl 0 rfl) ?_
      refine lv_iconst (v := (-1)) hx hb dX3_readTell_33 (by decide) ?_
      refine lv_icmp_ne (tgt := 39) hx hb dX3_readTell_34 (by decide) (fun hc34 => ?_) (fun hc34 => ?_)
      · replace hF := st_f hc34 hF
        refine lv_aload_n hx hb dX3_readTell_39 rfl (lv_at hl 3 rfl) ?_
        obtain ⟨r23, hgr23, hF⟩ := st_bnd hF
        refine g_ci hw (g_runV (C := RX3) (As := []) (rest := []) fx hw isO_1 rfl (c_X3_wayHere l x D cy ad H.size M22 r23 hgr23) wd2_177 wd2_179 wd0_23 wd1_5 wd2_180 yd_X3_wayHere rfl rfl (Nat.le_of_ble_eq_true rfl) hl.1 ⟨Nat.le_trans (Nat.le_of_ble_eq_true rfl) hR.1, Nat.le_trans (Nat.le_of_ble_eq_true rfl) hR.2.1⟩ ⟨Nat.le_trans (Nat.le_of_ble_eq_true rfl) hR.2.2.1, Nat.le_trans (Nat.le_of_ble_eq_true rfl) hR.2.2.2⟩ dX3_readTell_40) (fun H locs hw => ?_)
        refine lv_istore (lv' := [(4, .int r23), (3, .int r21), (2, .int r19), (1, .int r17), (0, .ref (ad 1))]) hx hb dX3_readTell_43 hl (by decide) rfl (fun ls hl => ?_)
        refine lv_iload hx hb dX3_readTell_45 (lv_at hl 0 rfl) ?_
        refine lv_iconst (v := (-1)) hx hb dX3_readTell_47 (by decide) ?_
        refine lv_icmp_ne (tgt := 58) hx hb dX3_readTell_48 (by decide) (fun hc48 => ?_) (fun hc48 => ?_)
        · replace hF := st_f hc48 hF
          refine lv_aload_n hx hb dX3_readTell_58 rfl (lv_at hl 4 rfl) ?_
          obtain ⟨M25, hgr24, hF⟩ := st_bnd hF
          refine g_cv hw (g_runV (C := RX3) (As := []) (rest := []) fx hw isO_1 rfl (c_X3_nextToken l x D cy ad H.size M22 M25 hgr24) wd1_234 wd1_236 wd0_0 wd1_5 wd1_237 yd_X3_nextToken rfl rfl (Nat.le_of_ble_eq_true rfl) hl.1 ⟨Nat.le_trans (Nat.le_of_ble_eq_true rfl) hR.1, Nat.le_trans (Nat.le_of_ble_eq_true rfl) hR.2.1⟩ ⟨Nat.le_trans (Nat.le_of_ble_eq_true rfl) hR.2.2.1, Nat.le_trans (Nat.le_of_ble_eq_true rfl) hR.2.2.2⟩ dX3_readTell_59) (fun H locs hw => ?_)
          refine lv_aload_n hx hb dX3_readTell_62 rfl (lv_at hl 4 rfl) ?_
          refine lv_aload_n hx hb dX3_readTell_63 rfl (lv_at hl 4 rfl) ?_
          refine gX3_get fx hw isO_1 1 (by decide) wd1_145 rfl dX3_readTell_64 ?_
          refine lv_iload_n hx hb dX3_readTell_67 rfl (lv_at hl 3 rfl) ?_
          refine lv_iload_n hx hb dX3_readTell_68 rfl (lv_at hl 2 rfl) ?_
          refine lv_iload_n hx hb dX3_readTell_69 rfl (lv_at hl 1 rfl) ?_
          refine lv_iload hx hb dX3_readTell_70 (lv_at hl 0 rfl) ?_
          obtain ⟨r26, hgr26, hF⟩ := st_bnd hF
          refine g_ci hw (g_runV (C := RX1) (As := [.int r17, .int r19, .int r21, .int r23]) (rest := [.ref (ad 1)]) fx hw isH_31.O rfl (c_X1_tellRefusal l x D cy ad 31 isH_31 r17 r19 r21 r23 H.size M25 r26 hgr26) wd2_184 wd2_185 wd2_186 wd1_2 wd2_187 yd_X1_tellRefusal rfl rfl (Nat.le_of_ble_eq_true rfl) hl.1 ⟨Nat.le_trans (Nat.le_of_ble_eq_true rfl) hR.1, Nat.le_trans (Nat.le_of_ble_eq_true rfl) hR.2.1⟩ ⟨Nat.le_trans (Nat.le_of_ble_eq_true rfl) hR.2.2.1, Nat.le_trans (Nat.le_of_ble_eq_true rfl) hR.2.2.2⟩ dX3_readTell_72) (fun H locs hw => ?_)
          obtain ⟨r27, M28, hgr27, hF⟩ := st_bnd2 hF
          refine g_cz hw (g_runV (C := RX3) (As := [.int r26]) (rest := []) fx hw isO_1 rfl (c_X3_takeEndOfDeed l x D cy ad r26 H.size M25 r27 M28 hgr27) wd2_158 wd2_160 wd0_21 wd1_5 wd2_161 yd_X3_takeEndOfDeed rfl rfl (Nat.le_of_ble_eq_true rfl) hl.1 ⟨Nat.le_trans (Nat.le_of_ble_eq_true rfl) hR.1, Nat.le_trans (Nat.le_of_ble_eq_true rfl) hR.2.1⟩ ⟨Nat.le_trans (Nat.le_of_ble_eq_true rfl) hR.2.2.1, Nat.le_trans (Nat.le_of_ble_eq_true rfl) hR.2.2.2⟩ dX3_readTell_75) (fun H locs hbr27 hw => ?_)
          refine lv_if_ne (tgt := 83) hx hb dX3_readTell_78 (by decide) (fun hc78 => ?_) (fun hc78 => ?_)
          · replace hF := st_f hc78 hF
            refine lv_aload_n hx hb dX3_readTell_83 rfl (lv_at hl 4 rfl) ?_
            refine gX3_get fx hw isO_1 1 (by decide) wd1_145 rfl dX3_readTell_84 ?_
            refine lv_iload_n hx hb dX3_readTell_87 rfl (lv_at hl 3 rfl) ?_
            refine lv_iload_n hx hb dX3_readTell_88 rfl (lv_at hl 2 rfl) ?_
            refine lv_iload_n hx hb dX3_readTell_89 rfl (lv_at hl 1 rfl) ?_
            refine lv_iload hx hb dX3_readTell_90 (lv_at hl 0 rfl) ?_
            obtain ⟨r29, M30, hgr29, hF⟩ := st_bnd2 hF
            refine g_ci hw (g_runV (C := RX1) (As := [.int r17, .int r19, .int r21, .int r23]) (rest := []) fx hw isH_31.O rfl (c_X1_tellNeed l x D cy ad 31 isH_31 r17 r19 r21 r23 H.size M28 r29 M30 hgr29) wd2_217 wd2_218 wd2_219 wd1_2 wd2_220 yd_X1_tellNeed rfl rfl (Nat.le_of_ble_eq_true rfl) hl.1 ⟨Nat.le_trans (Nat.le_of_ble_eq_true rfl) hR.1, Nat.le_trans (Nat.le_of_ble_eq_true rfl) hR.2.1⟩ ⟨Nat.le_trans (Nat.le_of_ble_eq_true rfl) hR.2.2.1, Nat.le_trans (Nat.le_of_ble_eq_true rfl) hR.2.2.2⟩ dX3_readTell_92) (fun H locs hw => ?_)
            refine lv_pop hx hb dX3_readTell_95 rfl ?_
            refine lv_iconst (v := 1) hx hb dX3_readTell_96 (by decide) ?_
            exact E _ _ _ _ _ _ dX3_readTell_97 (Or.inr rfl) hw hF
          · replace hF := st_t hc78 hF
            refine lv_iconst (v := 0) hx hb dX3_readTell_81 (by decide) ?_
            exact E _ _ _ _ _ _ dX3_readTell_82 (Or.inl rfl) hw hF
        · replace hF := st_t hc48 hF
          refine lv_aload_n hx hb dX3_readTell_51 rfl (lv_at hl 4 rfl) ?_
          refine lv_bipush (v := (-2)) hx hb dX3_readTell_52 (by decide) ?_
          obtain ⟨r31, M32, hgr31, hF⟩ := st_bnd2 hF
          refine g_cz hw (g_runV (C := RX3) (As := [.int (-2)]) (rest := []) fx hw isO_1 rfl (c_X3_fail l x D cy ad (-2) H.size M22 r31 M32 hgr31) wd2_67 wd2_69 wd0_6 wd1_5 wd2_70 yd_X3_fail rfl rfl (Nat.le_of_ble_eq_true rfl) hl.1 ⟨Nat.le_trans (Nat.le_of_ble_eq_true rfl) hR.1, Nat.le_trans (Nat.le_of_ble_eq_true rfl) hR.2.1⟩ ⟨Nat.le_trans (Nat.le_of_ble_eq_true rfl) hR.2.2.1, Nat.le_trans (Nat.le_of_ble_eq_true rfl) hR.2.2.2⟩ dX3_readTell_54) (fun H locs hbr31 hw => ?_)
          exact E _ _ _ _ _ _ dX3_readTell_57 hbr31 hw hF
      · replace hF := st_t hc34 hF
        refine lv_iconst (v := 0) hx hb dX3_readTell_37 (by decide) ?_
        exact E _ _ _ _ _ _ dX3_readTell_38 (Or.inl rfl) hw hF
    · replace hF := st_t hc21 hF
      refine lv_iconst (v := 0) hx hb dX3_readTell_24 (by decide) ?_
      exact E _ _ _ _ _ _ dX3_readTell_25 (Or.inl rfl) hw hF
  · replace hF := st_t hc8 hF
    refine lv_iconst (v := 0) hx hb dX3_readTell_11 (by decide) ?_
    exact E _ _ _ _ _ _ dX3_readTell_12 (Or.inl rfl) hw hF
theorem c_X3_readTell (l : Launch) (x : SX) (D : va_G) (cy : Nat → ClassId) (ad : Nat → Nat) (sz : Nat) (M : Mem) (z : Int32) (M' : Mem) (hF : f_X3_readTell M = some (z, M')) : Met l yX3_readTell (.code yX3_readTell cX3_readTell 5 (some .boolean) :: GB) ({ frames := 6, cells := 0, slots := 0, locals := 127 } : Room) (PcW D cy ad x sz M [.ref (ad 1)]) (QzW D cy ad sz z M') 0 0 (AA ad sz) := by
  refine mk_m (own := RX3) (by decide) rfl (Nat.le_of_ble_eq_true rfl) ?_
  intro p e s m args below meth c ls fx hw hl hsz
  subst hsz
  exact b_X3_readTell fx ⟨Nat.le_refl _, Nat.le_refl _, Nat.le_refl _, Nat.le_refl _⟩ M z M' hF (fun pc ls H locs v M1 hd hb hw h => by cases h; exact g_zret fx hw rfl hb hd) _ _ ls hl hw
noncomputable def f_X3_readGive (M : Mem) : Option (Int32 × Mem) := (bnd2 (f_X3_takeMonk (-1) M) (fun r12 M13 => (if r12 = (-1) then (some (0, M13)) else (bnd2 (f_X3_takeMonk r12 M13) (fun r14 M15 => (if r14 = (-1) then (some (0, M15)) else (bnd2 (f_X3_takeNumber 1 50 M15) (fun r16 M17 => (if r16 = (-1) then (some (0, M17)) else (bnd (f_X1_giveRefusal 31 r12 r14 r16 M17) (fun r18 => (bnd2 (f_X3_takeEndOfDeed r18 M17) (fun r19 M20 => (if r19 = 0 then (some (0, M20)) else (bnd2 (f_X1_giveLeave 31 r12 r14 r16 M20) (fun r21 M22 => (some (1, M22))))))))))))))))))
set_option maxHeartbeats 4000000 in
set_option maxRecDepth 100000 in
theorem b_X3_readGive {p : Program} {l : Launch} {e : Env} {R : Room} {s : State} {m : MethodId} {args : Array Value} {below : List Frame} {meth : Method} {c : Code} {Q : State → Prop} {D : va_G} {cy : Nat → ClassId} {ad : Nat → Nat} {x : SX} (fx : FX p s m args meth c cX3_readGive 4 (some .boolean) RX3 D cy ad x) (hR : 3 ≤ R.frames ∧ 66 ≤ R.locals ∧ 0 ≤ R.cells ∧ 0 ≤ R.slots) (M : Mem) (z : Int32) (M' : Mem) (hF : f_X3_readGive M = some (z, M')) (E : ∀ (pc : Nat) (ls : Array Slot) (H : Heap) (locs : List Loc) (v : Int32) (M1 : Mem), decode cX3_readGive pc = .ok (.ireturn, 1) → (v = 0 ∨ v = 1) → WD D cy ad s M1 H locs → some (v, M1) = some (z, M') → W p l e R s m args below meth c H locs 0 0 Q (F0 m pc ls [.int v])) (H : Heap) (locs : List Loc) (ls : Array Slot) (hl : lv_has ls 4 [(0, .ref (ad 1))]) (hw : WD D cy ad s M H locs) : W p l e R s m args below meth c H locs 0 0 Q (F0 m 0 ls []) := by
  have hx := fx.1.1
  have hb := fx.1.2.1
  have hown := fx.1.2.2.2.1
  have hts := fx.1.2.2.2.2
  unfold f_X3_readGive at hF
  refine lv_aload_n hx hb dX3_readGive_0 rfl (lv_at hl 0 rfl) ?_
  refine lv_iconst (v := (-1)) hx hb dX3_readGive_1 (by decide) ?_
  obtain ⟨r12, M13, hgr12, hF⟩ := st_bnd2 hF
  refine g_ci hw (g_runV (C := RX3) (As := [.int (-1)]) (rest := []) fx hw isO_1 rfl (c_X3_takeMonk l x D cy ad (-1) H.size M r12 M13 hgr12) wd2_149 wd2_151 wd0_20 wd1_5 wd2_152 yd_X3_takeMonk rfl rfl (Nat.le_of_ble_eq_true rfl) hl.1 ⟨Nat.le_trans (Nat.le_of_ble_eq_true rfl) hR.1, Nat.le_trans (Nat.le_of_ble_eq_true rfl) hR.2.1⟩ ⟨Nat.le_trans (Nat.le_of_ble_eq_true rfl) hR.2.2.1, Nat.le_trans (Nat.le_of_ble_eq_true rfl) hR.2.2.2⟩ dX3_readGive_2) (fun H locs hw => ?_)
  refine lv_istore_n (lv' := [(1, .int r12), (0, .ref (ad 1))]) hx hb dX3_readGive_5 rfl hl (by decide) rfl (fun ls hl => ?_)
  refine lv_iload_n hx hb dX3_readGive_6 rfl (lv_at hl 0 rfl) ?_
  refine lv_iconst (v := (-1)) hx hb dX3_readGive_7 (by decide) ?_
  refine lv_icmp_ne (tgt := 13) hx hb dX3_readGive_8 (by decide) (fun hc8 => ?_) (fun hc8 => ?_)
  · replace hF := st_f hc8 hF
    refine lv_aload_n hx hb dX3_readGive_13 rfl (lv_at hl 1 rfl) ?_
    refine lv_iload_n hx hb dX3_readGive_14 rfl (lv_at hl 0 rfl) ?_
    obtain ⟨r14, M15, hgr14, hF⟩ := st_bnd2 hF
    refine g_ci hw (g_runV (C := RX3) (As := [.int r12]) (rest := []) fx hw isO_1 rfl (c_X3_takeMonk l x D cy ad r12 H.size M13 r14 M15 hgr14) wd2_149 wd2_151 wd0_20 wd1_5 wd2_152 yd_X3_takeMonk rfl rfl (Nat.le_of_ble_eq_true rfl) hl.1 ⟨Nat.le_trans (Nat.le_of_ble_eq_true rfl) hR.1, Nat.le_trans (Nat.le_of_ble_eq_true rfl) hR.2.1⟩ ⟨Nat.le_trans (Nat.le_of_ble_eq_true rfl) hR.2.2.1, Nat.le_trans (Nat.le_of_ble_eq_true rfl) hR.2.2.2⟩ dX3_readGive_15) (fun H locs hw => ?_)
    refine lv_istore_n (lv' := [(2, .int r14), (1, .int r12), (0, .ref (ad 1))]) hx hb dX3_readGive_18 rfl hl (by decide) rfl (fun ls hl => ?_)
    refine lv_iload_n hx hb dX3_readGive_19 rfl (lv_at hl 0 rfl) ?_
    refine lv_iconst (v := (-1)) hx hb dX3_readGive_20 (by decide) ?_
    refine lv_icmp_ne (tgt := 26) hx hb dX3_readGive_21 (by decide) (fun hc21 => ?_) (fun hc21 => ?_)
    · replace hF := st_f hc21 hF
      refine lv_aload_n hx hb dX3_readGive_26 rfl (lv_at hl 2 rfl) ?_
      refine lv_iconst (v := 1) hx hb dX3_readGive_27 (by decide) ?_
      refine lv_bipush (v := 50) hx hb dX3_readGive_28 (by decide) ?_
      obtain ⟨r16, M17, hgr16, hF⟩ := st_bnd2 hF
      refine g_ci hw (g_runV (C := RX3) (As := [.int 1, .int 50]) (rest := []) fx hw isO_1 rfl (c_X3_takeNumber l x D cy ad 1 50 H.size M15 r16 M17 hgr16) wd2_59 wd2_61 wd0_4 wd1_5 wd2_62 yd_X3_takeNumber rfl rfl (Nat.le_of_ble_eq_true rfl) hl.1 ⟨Nat.le_trans (Nat.le_of_ble_eq_true rfl) hR.1, Nat.le_trans (Nat.le_of_ble_eq_true rfl) hR.2.1⟩ ⟨Nat.le_trans (Nat.le_of_ble_eq_true rfl) hR.2.2.1, Nat.le_trans (Nat.le_of_ble_eq_true rfl) hR.2.2.2⟩ dX3_readGive_30) (fun H locs hw => ?_)
      refine lv_istore_n (lv' := [(3, .int r16), (2, .int r14), (1, .int r12), (0, .ref (ad 1))]) hx hb dX3_readGive_33 rfl hl (by decide) rfl (fun ls hl => ?_)
      refine lv_iload_n hx hb dX3_readGive_34 rfl (lv_at hl 0 rfl) ?_
      refine lv_iconst (v := (-1)) hx hb dX3_readGive_35 (by decide) ?_
      refine lv_icmp_eq (tgt := 56) hx hb dX3_readGive_36 (by decide) (fun hc36 => ?_) (fun hc36 => ?_)
      · replace hF := st_t hc36 hF
        refine lv_iconst (v := 0) hx hb dX3_readGive_56 (by decide) ?_
        exact E _ _ _ _ _ _ dX3_readGive_57 (Or.inl rfl) hw hF
      · replace hF := st_f hc36 hF
        refine lv_aload_n hx hb dX3_readGive_39 rfl (lv_at hl 3 rfl) ?_
        refine lv_aload_n hx hb dX3_readGive_40 rfl (lv_at hl 3 rfl) ?_
        refine gX3_get fx hw isO_1 1 (by decide) wd1_145 rfl dX3_readGive_41 ?_
        refine lv_iload_n hx hb dX3_readGive_44 rfl (lv_at hl 2 rfl) ?_
        refine lv_iload_n hx hb dX3_readGive_45 rfl (lv_at hl 1 rfl) ?_
        refine lv_iload_n hx hb dX3_readGive_46 rfl (lv_at hl 0 rfl) ?_
        obtain ⟨r18, hgr18, hF⟩ := st_bnd hF
        refine g_ci hw (g_runV (C := RX1) (As := [.int r12, .int r14, .int r16]) (rest := [.ref (ad 1)]) fx hw isH_31.O rfl (c_X1_giveRefusal l x D cy ad 31 isH_31 r12 r14 r16 H.size M17 r18 hgr18) wd3_7 wd3_8 wd3_9 wd1_2 wd3_10 yd_X1_giveRefusal rfl rfl (Nat.le_of_ble_eq_true rfl) hl.1 ⟨Nat.le_trans (Nat.le_of_ble_eq_true rfl) hR.1, Nat.le_trans (Nat.le_of_ble_eq_true rfl) hR.2.1⟩ ⟨Nat.le_trans (Nat.le_of_ble_eq_true rfl) hR.2.2.1, Nat.le_trans (Nat.le_of_ble_eq_true rfl) hR.2.2.2⟩ dX3_readGive_47) (fun H locs hw => ?_)
        obtain ⟨r19, M20, hgr19, hF⟩ := st_bnd2 hF
        refine g_cz hw (g_runV (C := RX3) (As := [.int r18]) (rest := []) fx hw isO_1 rfl (c_X3_takeEndOfDeed l x D cy ad r18 H.size M17 r19 M20 hgr19) wd2_158 wd2_160 wd0_21 wd1_5 wd2_161 yd_X3_takeEndOfDeed rfl rfl (Nat.le_of_ble_eq_true rfl) hl.1 ⟨Nat.le_trans (Nat.le_of_ble_eq_true rfl) hR.1, Nat.le_trans (Nat.le_of_ble_eq_true rfl) hR.2.1⟩ ⟨Nat.le_trans (Nat.le_of_ble_eq_true rfl) hR.2.2.1, Nat.le_trans (Nat.le_of_ble_eq_true rfl) hR.2.2.2⟩ dX3_readGive_50) (fun H locs hbr19 hw => ?_)
        refine lv_if_ne (tgt := 58) hx hb dX3_readGive_53 (by decide) (fun hc53 => ?_) (fun hc53 => ?_)
        · replace hF := st_f hc53 hF
          refine lv_aload_n hx hb dX3_readGive_58 rfl (lv_at hl 3 rfl) ?_
          refine gX3_get fx hw isO_1 1 (by decide) wd1_145 rfl dX3_readGive_59 ?_
          refine lv_iload_n hx hb dX3_readGive_62 rfl (lv_at hl 2 rfl) ?_
          refine lv_iload_n hx hb dX3_readGive_63 rfl (lv_at hl 1 rfl) ?_
          refine lv_iload_n hx hb dX3_readGive_64 rfl (lv_at hl 0 rfl) ?_
          obtain ⟨r21, M22, hgr21, hF⟩ := st_bnd2 hF
          refine g_ci hw (g_runV (C := RX1) (As := [.int r12, .int r14, .int r16]) (rest := []) fx hw isH_31.O rfl (c_X1_giveLeave l x D cy ad 31 isH_31 r12 r14 r16 H.size M20 r21 M22 hgr21) wd3_11 wd3_12 wd3_13 wd1_2 wd3_14 yd_X1_giveLeave rfl rfl (Nat.le_of_ble_eq_true rfl) hl.1 ⟨Nat.le_trans (Nat.le_of_ble_eq_true rfl) hR.1, Nat.le_trans (Nat.le_of_ble_eq_true rfl) hR.2.1⟩ ⟨Nat.le_trans (Nat.le_of_ble_eq_true rfl) hR.2.2.1, Nat.le_trans (Nat.le_of_ble_eq_true rfl) hR.2.2.2⟩ dX3_readGive_65) (fun H locs hw => ?_)
          refine lv_pop hx hb dX3_readGive_68 rfl ?_
          refine lv_iconst (v := 1) hx hb dX3_readGive_69 (by decide) ?_
          exact E _ _ _ _ _ _ dX3_readGive_70 (Or.inr rfl) hw hF
        · replace hF := st_t hc53 hF
          refine lv_iconst (v := 0) hx hb dX3_readGive_56 (by decide) ?_
          exact E _ _ _ _ _ _ dX3_readGive_57 (Or.inl rfl) hw hF
    · replace hF := st_t hc21 hF
      refine lv_iconst (v := 0) hx hb dX3_readGive_24 (by decide) ?_
      exact E _ _ _ _ _ _ dX3_readGive_25 (Or.inl rfl) hw hF
  · replace hF := st_t hc8 hF
    refine lv_iconst (v := 0) hx hb dX3_readGive_11 (by decide) ?_
    exact E _ _ _ _ _ _ dX3_readGive_12 (Or.inl rfl) hw hF
theorem c_X3_readGive (l : Launch) (x : SX) (D : va_G) (cy : Nat → ClassId) (ad : Nat → Nat) (sz : Nat) (M : Mem) (z : Int32) (M' : Mem) (hF : f_X3_readGive M = some (z, M')) : Met l yX3_readGive (.code yX3_readGive cX3_readGive 4 (some .boolean) :: GB) ({ frames := 3, cells := 0, slots := 0, locals := 66 } : Room) (PcW D cy ad x sz M [.ref (ad 1)]) (QzW D cy ad sz z M') 0 0 (AA ad sz) := by
  refine mk_m (own := RX3) (by decide) rfl (Nat.le_of_ble_eq_true rfl) ?_
  intro p e s m args below meth c ls fx hw hl hsz
  subst hsz
  exact b_X3_readGive fx ⟨Nat.le_refl _, Nat.le_refl _, Nat.le_refl _, Nat.le_refl _⟩ M z M' hF (fun pc ls H locs v M1 hd hb hw h => by cases h; exact g_zret fx hw rfl hb hd) _ _ ls hl hw
noncomputable def f_X3_readWait (M : Mem) : Option (Int32 × Mem) := (bnd2 (f_X3_takeNumber 1 99 M) (fun r8 M9 => (if r8 = (-1) then (some (0, M9)) else (bnd (f_X1_passRefusal 31 r8 M9) (fun r10 => (bnd2 (f_X3_takeEndOfDeed r10 M9) (fun r11 M12 => (if r11 = 0 then (some (0, M12)) else (bnd2 (f_X1_passHours 31 r8 M12) (fun r13 M14 => (some (1, M14))))))))))))
set_option maxHeartbeats 4000000 in
set_option maxRecDepth 100000 in
theorem b_X3_readWait {p : Program} {l : Launch} {e : Env} {R : Room} {s : State} {m : MethodId} {args : Array Value} {below : List Frame} {meth : Method} {c : Code} {Q : State → Prop} {D : va_G} {cy : Nat → ClassId} {ad : Nat → Nat} {x : SX} (fx : FX p s m args meth c cX3_readWait 2 (some .boolean) RX3 D cy ad x) (hR : 3 ≤ R.frames ∧ 62 ≤ R.locals ∧ 0 ≤ R.cells ∧ 0 ≤ R.slots) (M : Mem) (z : Int32) (M' : Mem) (hF : f_X3_readWait M = some (z, M')) (E : ∀ (pc : Nat) (ls : Array Slot) (H : Heap) (locs : List Loc) (v : Int32) (M1 : Mem), decode cX3_readWait pc = .ok (.ireturn, 1) → (v = 0 ∨ v = 1) → WD D cy ad s M1 H locs → some (v, M1) = some (z, M') → W p l e R s m args below meth c H locs 0 0 Q (F0 m pc ls [.int v])) (H : Heap) (locs : List Loc) (ls : Array Slot) (hl : lv_has ls 2 [(0, .ref (ad 1))]) (hw : WD D cy ad s M H locs) : W p l e R s m args below meth c H locs 0 0 Q (F0 m 0 ls []) := by
  have hx := fx.1.1
  have hb := fx.1.2.1
  have hown := fx.1.2.2.2.1
  have hts := fx.1.2.2.2.2
  unfold f_X3_readWait at hF
  refine lv_aload_n hx hb dX3_readWait_0 rfl (lv_at hl 0 rfl) ?_
  refine lv_iconst (v := 1) hx hb dX3_readWait_1 (by decide) ?_
  refine lv_bipush (v := 99) hx hb dX3_readWait_2 (by decide) ?_
  obtain ⟨r8, M9, hgr8, hF⟩ := st_bnd2 hF
  refine g_ci hw (g_runV (C := RX3) (As := [.int 1, .int 99]) (rest := []) fx hw isO_1 rfl (c_X3_takeNumber l x D cy ad 1 99 H.size M r8 M9 hgr8) wd2_59 wd2_61 wd0_4 wd1_5 wd2_62 yd_X3_takeNumber rfl rfl (Nat.le_of_ble_eq_true rfl) hl.1 ⟨Nat.le_trans (Nat.le_of_ble_eq_true rfl) hR.1, Nat.le_trans (Nat.le_of_ble_eq_true rfl) hR.2.1⟩ ⟨Nat.le_trans (Nat.le_of_ble_eq_true rfl) hR.2.2.1, Nat.le_trans (Nat.le_of_ble_eq_true rfl) hR.2.2.2⟩ dX3_readWait_4) (fun H locs hw => ?_)
  refine lv_istore_n (lv' := [(1, .int r8), (0, .ref (ad 1))]) hx hb dX3_readWait_7 rfl hl (by decide) rfl (fun ls hl => ?_)
  refine lv_iload_n hx hb dX3_readWait_8 rfl (lv_at hl 0 rfl) ?_
  refine lv_iconst (v := (-1)) hx hb dX3_readWait_9 (by decide) ?_
  refine lv_icmp_eq (tgt := 28) hx hb dX3_readWait_10 (by decide) (fun hc10 => ?_) (fun hc10 => ?_)
  · replace hF := st_t hc10 hF
    refine lv_iconst (v := 0) hx hb dX3_readWait_28 (by decide) ?_
    exact E _ _ _ _ _ _ dX3_readWait_29 (Or.inl rfl) hw hF
  · replace hF := st_f hc10 hF
    refine lv_aload_n hx hb dX3_readWait_13 rfl (lv_at hl 1 rfl) ?_
    refine lv_aload_n hx hb dX3_readWait_14 rfl (lv_at hl 1 rfl) ?_
    refine gX3_get fx hw isO_1 1 (by decide) wd1_145 rfl dX3_readWait_15 ?_
    refine lv_iload_n hx hb dX3_readWait_18 rfl (lv_at hl 0 rfl) ?_
    obtain ⟨r10, hgr10, hF⟩ := st_bnd hF
    refine g_ci hw (g_runV (C := RX1) (As := [.int r8]) (rest := [.ref (ad 1)]) fx hw isH_31.O rfl (c_X1_passRefusal l x D cy ad 31 isH_31 r8 H.size M9 r10 hgr10) wd3_20 wd3_21 wd3_22 wd1_2 wd3_23 yd_X1_passRefusal rfl rfl (Nat.le_of_ble_eq_true rfl) hl.1 ⟨Nat.le_trans (Nat.le_of_ble_eq_true rfl) hR.1, Nat.le_trans (Nat.le_of_ble_eq_true rfl) hR.2.1⟩ ⟨Nat.le_trans (Nat.le_of_ble_eq_true rfl) hR.2.2.1, Nat.le_trans (Nat.le_of_ble_eq_true rfl) hR.2.2.2⟩ dX3_readWait_19) (fun H locs hw => ?_)
    obtain ⟨r11, M12, hgr11, hF⟩ := st_bnd2 hF
    refine g_cz hw (g_runV (C := RX3) (As := [.int r10]) (rest := []) fx hw isO_1 rfl (c_X3_takeEndOfDeed l x D cy ad r10 H.size M9 r11 M12 hgr11) wd2_158 wd2_160 wd0_21 wd1_5 wd2_161 yd_X3_takeEndOfDeed rfl rfl (Nat.le_of_ble_eq_true rfl) hl.1 ⟨Nat.le_trans (Nat.le_of_ble_eq_true rfl) hR.1, Nat.le_trans (Nat.le_of_ble_eq_true rfl) hR.2.1⟩ ⟨Nat.le_trans (Nat.le_of_ble_eq_true rfl) hR.2.2.1, Nat.le_trans (Nat.le_of_ble_eq_true rfl) hR.2.2.2⟩ dX3_readWait_22) (fun H locs hbr11 hw => ?_)
    refine lv_if_ne (tgt := 30) hx hb dX3_readWait_25 (by decide) (fun hc25 => ?_) (fun hc25 => ?_)
    · replace hF := st_f hc25 hF
      refine lv_aload_n hx hb dX3_readWait_30 rfl (lv_at hl 1 rfl) ?_
      refine gX3_get fx hw isO_1 1 (by decide) wd1_145 rfl dX3_readWait_31 ?_
      refine lv_iload_n hx hb dX3_readWait_34 rfl (lv_at hl 0 rfl) ?_
      obtain ⟨r13, M14, hgr13, hF⟩ := st_bnd2 hF
      refine g_ci hw (g_runV (C := RX1) (As := [.int r8]) (rest := []) fx hw isH_31.O rfl (c_X1_passHours l x D cy ad 31 isH_31 r8 H.size M12 r13 M14 hgr13) wd3_24 wd3_25 wd3_26 wd1_2 wd3_27 yd_X1_passHours rfl rfl (Nat.le_of_ble_eq_true rfl) hl.1 ⟨Nat.le_trans (Nat.le_of_ble_eq_true rfl) hR.1, Nat.le_trans (Nat.le_of_ble_eq_true rfl) hR.2.1⟩ ⟨Nat.le_trans (Nat.le_of_ble_eq_true rfl) hR.2.2.1, Nat.le_trans (Nat.le_of_ble_eq_true rfl) hR.2.2.2⟩ dX3_readWait_35) (fun H locs hw => ?_)
      refine lv_pop hx hb dX3_readWait_38 rfl ?_
      refine lv_iconst (v := 1) hx hb dX3_readWait_39 (by decide) ?_
      exact E _ _ _ _ _ _ dX3_readWait_40 (Or.inr rfl) hw hF
    · replace hF := st_t hc25 hF
      refine lv_iconst (v := 0) hx hb dX3_readWait_28 (by decide) ?_
      exact E _ _ _ _ _ _ dX3_readWait_29 (Or.inl rfl) hw hF
theorem c_X3_readWait (l : Launch) (x : SX) (D : va_G) (cy : Nat → ClassId) (ad : Nat → Nat) (sz : Nat) (M : Mem) (z : Int32) (M' : Mem) (hF : f_X3_readWait M = some (z, M')) : Met l yX3_readWait (.code yX3_readWait cX3_readWait 2 (some .boolean) :: GB) ({ frames := 3, cells := 0, slots := 0, locals := 62 } : Room) (PcW D cy ad x sz M [.ref (ad 1)]) (QzW D cy ad sz z M') 0 0 (AA ad sz) := by
  refine mk_m (own := RX3) (by decide) rfl (Nat.le_of_ble_eq_true rfl) ?_
  intro p e s m args below meth c ls fx hw hl hsz
  subst hsz
  exact b_X3_readWait fx ⟨Nat.le_refl _, Nat.le_refl _, Nat.le_refl _, Nat.le_refl _⟩ M z M' hF (fun pc ls H locs v M1 hd hb hw h => by cases h; exact g_zret fx hw rfl hb hd) _ _ ls hl hw
noncomputable def f_X3_readDeed (M : Mem) : Option (Int32 × Mem) := (bnd2 (f_X3_takeWord 9 M) (fun r19 M20 => (if r19 = 0 then (bnd2 (f_X3_takeWord 10 M20) (fun r21 M22 => (if r21 = 0 then (bnd2 (f_X3_takeWord 11 M22) (fun r23 M24 => (if r23 = 0 then (bnd2 (f_X3_takeWord 12 M24) (fun r25 M26 => (if r25 = 0 then (bnd2 (f_X3_fail (-2) M26) (fun r27 M28 => (some (r27, M28)))) else (bnd2 (f_X3_readWait M26) (fun r29 M30 => (some (r29, M30))))))) else (bnd2 (f_X3_readGive M24) (fun r31 M32 => (some (r31, M32))))))) else (bnd2 (f_X3_readTell M22) (fun r33 M34 => (some (r33, M34))))))) else (bnd2 (f_X3_readWant M20) (fun r35 M36 => (some (r35, M36)))))))
set_option maxHeartbeats 4000000 in
set_option maxRecDepth 100000 in
theorem b_X3_readDeed {p : Program} {l : Launch} {e : Env} {R : Room} {s : State} {m : MethodId} {args : Array Value} {below : List Frame} {meth : Method} {c : Code} {Q : State → Prop} {D : va_G} {cy : Nat → ClassId} {ad : Nat → Nat} {x : SX} (fx : FX p s m args meth c cX3_readDeed 1 (some .boolean) RX3 D cy ad x) (hR : 7 ≤ R.frames ∧ 151 ≤ R.locals ∧ 0 ≤ R.cells ∧ 0 ≤ R.slots) (M : Mem) (z : Int32) (M' : Mem) (hF : f_X3_readDeed M = some (z, M')) (E : ∀ (pc : Nat) (ls : Array Slot) (H : Heap) (locs : List Loc) (v : Int32) (M1 : Mem), decode cX3_readDeed pc = .ok (.ireturn, 1) → (v = 0 ∨ v = 1) → WD D cy ad s M1 H locs → some (v, M1) = some (z, M') → W p l e R s m args below meth c H locs 0 0 Q (F0 m pc ls [.int v])) (H : Heap) (locs : List Loc) (ls : Array Slot) (hl : lv_has ls 1 [(0, .ref (ad 1))]) (hw : WD D cy ad s M H locs) : W p l e R s m args below meth c H locs 0 0 Q (F0 m 0 ls []) := by
  have hx := fx.1.1
  have hb := fx.1.2.1
  have hown := fx.1.2.2.2.1
  have hts := fx.1.2.2.2.2
  unfold f_X3_readDeed at hF
  refine lv_aload_n hx hb dX3_readDeed_0 rfl (lv_at hl 0 rfl) ?_
  refine va_ldcS hx hb hown (fx.2.2.2.2.str (w := 9) (by decide)).1 dX3_readDeed_1 ?_
  obtain ⟨r19, M20, hgr19, hF⟩ := st_bnd2 hF
  refine g_cz hw (g_runV (C := RX3) (As := [.ref (x.1 9)]) (rest := []) fx hw isO_1 rfl (c_X3_takeWord l x D cy ad 9 (by decide) H.size M r19 M20 hgr19) wd2_3 wd2_5 wd0_2 wd1_5 wd2_6 yd_X3_takeWord rfl rfl (Nat.le_of_ble_eq_true rfl) hl.1 ⟨Nat.le_trans (Nat.le_of_ble_eq_true rfl) hR.1, Nat.le_trans (Nat.le_of_ble_eq_true rfl) hR.2.1⟩ ⟨Nat.le_trans (Nat.le_of_ble_eq_true rfl) hR.2.2.1, Nat.le_trans (Nat.le_of_ble_eq_true rfl) hR.2.2.2⟩ dX3_readDeed_3) (fun H locs hbr19 hw => ?_)
  refine lv_if_eq (tgt := 14) hx hb dX3_readDeed_6 (by decide) (fun hc6 => ?_) (fun hc6 => ?_)
  · replace hF := st_t hc6 hF
    refine lv_aload_n hx hb dX3_readDeed_14 rfl (lv_at hl 0 rfl) ?_
    refine va_ldcS hx hb hown (fx.2.2.2.2.str (w := 10) (by decide)).1 dX3_readDeed_15 ?_
    obtain ⟨r21, M22, hgr21, hF⟩ := st_bnd2 hF
    refine g_cz hw (g_runV (C := RX3) (As := [.ref (x.1 10)]) (rest := []) fx hw isO_1 rfl (c_X3_takeWord l x D cy ad 10 (by decide) H.size M20 r21 M22 hgr21) wd2_3 wd2_5 wd0_2 wd1_5 wd2_6 yd_X3_takeWord rfl rfl (Nat.le_of_ble_eq_true rfl) hl.1 ⟨Nat.le_trans (Nat.le_of_ble_eq_true rfl) hR.1, Nat.le_trans (Nat.le_of_ble_eq_true rfl) hR.2.1⟩ ⟨Nat.le_trans (Nat.le_of_ble_eq_true rfl) hR.2.2.1, Nat.le_trans (Nat.le_of_ble_eq_true rfl) hR.2.2.2⟩ dX3_readDeed_17) (fun H locs hbr21 hw => ?_)
    refine lv_if_eq (tgt := 28) hx hb dX3_readDeed_20 (by decide) (fun hc20 => ?_) (fun hc20 => ?_)
    · replace hF := st_t hc20 hF
      refine lv_aload_n hx hb dX3_readDeed_28 rfl (lv_at hl 0 rfl) ?_
      refine va_ldcS hx hb hown (fx.2.2.2.2.str (w := 11) (by decide)).1 dX3_readDeed_29 ?_
      obtain ⟨r23, M24, hgr23, hF⟩ := st_bnd2 hF
      refine g_cz hw (g_runV (C := RX3) (As := [.ref (x.1 11)]) (rest := []) fx hw isO_1 rfl (c_X3_takeWord l x D cy ad 11 (by decide) H.size M22 r23 M24 hgr23) wd2_3 wd2_5 wd0_2 wd1_5 wd2_6 yd_X3_takeWord rfl rfl (Nat.le_of_ble_eq_true rfl) hl.1 ⟨Nat.le_trans (Nat.le_of_ble_eq_true rfl) hR.1, Nat.le_trans (Nat.le_of_ble_eq_true rfl) hR.2.1⟩ ⟨Nat.le_trans (Nat.le_of_ble_eq_true rfl) hR.2.2.1, Nat.le_trans (Nat.le_of_ble_eq_true rfl) hR.2.2.2⟩ dX3_readDeed_31) (fun H locs hbr23 hw => ?_)
      refine lv_if_eq (tgt := 42) hx hb dX3_readDeed_34 (by decide) (fun hc34 => ?_) (fun hc34 => ?_)
      · replace hF := st_t hc34 hF
        refine lv_aload_n hx hb dX3_readDeed_42 rfl (lv_at hl 0 rfl) ?_
        refine va_ldcS hx hb hown (fx.2.2.2.2.str (w := 12) (by decide)).1 dX3_readDeed_43 ?_
        obtain ⟨r25, M26, hgr25, hF⟩ := st_bnd2 hF
        refine g_cz hw (g_runV (C := RX3) (As := [.ref (x.1 12)]) (rest := []) fx hw isO_1 rfl (c_X3_takeWord l x D cy ad 12 (by decide) H.size M24 r25 M26 hgr25) wd2_3 wd2_5 wd0_2 wd1_5 wd2_6 yd_X3_takeWord rfl rfl (Nat.le_of_ble_eq_true rfl) hl.1 ⟨Nat.le_trans (Nat.le_of_ble_eq_true rfl) hR.1, Nat.le_trans (Nat.le_of_ble_eq_true rfl) hR.2.1⟩ ⟨Nat.le_trans (Nat.le_of_ble_eq_true rfl) hR.2.2.1, Nat.le_trans (Nat.le_of_ble_eq_true rfl) hR.2.2.2⟩ dX3_readDeed_45) (fun H locs hbr25 hw => ?_)
        refine lv_if_eq (tgt := 58) hx hb dX3_readDeed_48 (by decide) (fun hc48 => ?_) (fun hc48 => ?_)
        · replace hF := st_t hc48 hF
          refine lv_aload_n hx hb dX3_readDeed_58 rfl (lv_at hl 0 rfl) ?_
          refine lv_bipush (v := (-2)) hx hb dX3_readDeed_59 (by decide) ?_
          obtain ⟨r27, M28, hgr27, hF⟩ := st_bnd2 hF
          refine g_cz hw (g_runV (C := RX3) (As := [.int (-2)]) (rest := []) fx hw isO_1 rfl (c_X3_fail l x D cy ad (-2) H.size M26 r27 M28 hgr27) wd2_67 wd2_69 wd0_6 wd1_5 wd2_70 yd_X3_fail rfl rfl (Nat.le_of_ble_eq_true rfl) hl.1 ⟨Nat.le_trans (Nat.le_of_ble_eq_true rfl) hR.1, Nat.le_trans (Nat.le_of_ble_eq_true rfl) hR.2.1⟩ ⟨Nat.le_trans (Nat.le_of_ble_eq_true rfl) hR.2.2.1, Nat.le_trans (Nat.le_of_ble_eq_true rfl) hR.2.2.2⟩ dX3_readDeed_61) (fun H locs hbr27 hw => ?_)
          exact E _ _ _ _ _ _ dX3_readDeed_64 hbr27 hw hF
        · replace hF := st_f hc48 hF
          refine lv_aload_n hx hb dX3_readDeed_51 rfl (lv_at hl 0 rfl) ?_
          obtain ⟨r29, M30, hgr29, hF⟩ := st_bnd2 hF
          refine g_cz hw (g_runV (C := RX3) (As := []) (rest := []) fx hw isO_1 rfl (c_X3_readWait l x D cy ad H.size M26 r29 M30 hgr29) wd3_16 wd3_18 wd0_33 wd1_5 wd3_19 yd_X3_readWait rfl rfl (Nat.le_of_ble_eq_true rfl) hl.1 ⟨Nat.le_trans (Nat.le_of_ble_eq_true rfl) hR.1, Nat.le_trans (Nat.le_of_ble_eq_true rfl) hR.2.1⟩ ⟨Nat.le_trans (Nat.le_of_ble_eq_true rfl) hR.2.2.1, Nat.le_trans (Nat.le_of_ble_eq_true rfl) hR.2.2.2⟩ dX3_readDeed_52) (fun H locs hbr29 hw => ?_)
          refine lv_goto (tgt := 64) hx hb dX3_readDeed_55 (by decide) ?_
          exact E _ _ _ _ _ _ dX3_readDeed_64 hbr29 hw hF
      · replace hF := st_f hc34 hF
        refine lv_aload_n hx hb dX3_readDeed_37 rfl (lv_at hl 0 rfl) ?_
        obtain ⟨r31, M32, hgr31, hF⟩ := st_bnd2 hF
        refine g_cz hw (g_runV (C := RX3) (As := []) (rest := []) fx hw isO_1 rfl (c_X3_readGive l x D cy ad H.size M24 r31 M32 hgr31) wd3_3 wd3_5 wd0_32 wd1_5 wd3_6 yd_X3_readGive rfl rfl (Nat.le_of_ble_eq_true rfl) hl.1 ⟨Nat.le_trans (Nat.le_of_ble_eq_true rfl) hR.1, Nat.le_trans (Nat.le_of_ble_eq_true rfl) hR.2.1⟩ ⟨Nat.le_trans (Nat.le_of_ble_eq_true rfl) hR.2.2.1, Nat.le_trans (Nat.le_of_ble_eq_true rfl) hR.2.2.2⟩ dX3_readDeed_38) (fun H locs hbr31 hw => ?_)
        exact E _ _ _ _ _ _ dX3_readDeed_41 hbr31 hw hF
    · replace hF := st_f hc20 hF
      refine lv_aload_n hx hb dX3_readDeed_23 rfl (lv_at hl 0 rfl) ?_
      obtain ⟨r33, M34, hgr33, hF⟩ := st_bnd2 hF
      refine g_cz hw (g_runV (C := RX3) (As := []) (rest := []) fx hw isO_1 rfl (c_X3_readTell l x D cy ad H.size M22 r33 M34 hgr33) wd2_173 wd2_175 wd0_22 wd1_5 wd2_176 yd_X3_readTell rfl rfl (Nat.le_of_ble_eq_true rfl) hl.1 ⟨Nat.le_trans (Nat.le_of_ble_eq_true rfl) hR.1, Nat.le_trans (Nat.le_of_ble_eq_true rfl) hR.2.1⟩ ⟨Nat.le_trans (Nat.le_of_ble_eq_true rfl) hR.2.2.1, Nat.le_trans (Nat.le_of_ble_eq_true rfl) hR.2.2.2⟩ dX3_readDeed_24) (fun H locs hbr33 hw => ?_)
      exact E _ _ _ _ _ _ dX3_readDeed_27 hbr33 hw hF
  · replace hF := st_f hc6 hF
    refine lv_aload_n hx hb dX3_readDeed_9 rfl (lv_at hl 0 rfl) ?_
    obtain ⟨r35, M36, hgr35, hF⟩ := st_bnd2 hF
    refine g_cz hw (g_runV (C := RX3) (As := []) (rest := []) fx hw isO_1 rfl (c_X3_readWant l x D cy ad H.size M20 r35 M36 hgr35) wd2_145 wd2_147 wd0_19 wd1_5 wd2_148 yd_X3_readWant rfl rfl (Nat.le_of_ble_eq_true rfl) hl.1 ⟨Nat.le_trans (Nat.le_of_ble_eq_true rfl) hR.1, Nat.le_trans (Nat.le_of_ble_eq_true rfl) hR.2.1⟩ ⟨Nat.le_trans (Nat.le_of_ble_eq_true rfl) hR.2.2.1, Nat.le_trans (Nat.le_of_ble_eq_true rfl) hR.2.2.2⟩ dX3_readDeed_10) (fun H locs hbr35 hw => ?_)
    exact E _ _ _ _ _ _ dX3_readDeed_13 hbr35 hw hF
theorem c_X3_readDeed (l : Launch) (x : SX) (D : va_G) (cy : Nat → ClassId) (ad : Nat → Nat) (sz : Nat) (M : Mem) (z : Int32) (M' : Mem) (hF : f_X3_readDeed M = some (z, M')) : Met l yX3_readDeed (.code yX3_readDeed cX3_readDeed 1 (some .boolean) :: GB) ({ frames := 7, cells := 0, slots := 0, locals := 151 } : Room) (PcW D cy ad x sz M [.ref (ad 1)]) (QzW D cy ad sz z M') 0 0 (AA ad sz) := by
  refine mk_m (own := RX3) (by decide) rfl (Nat.le_of_ble_eq_true rfl) ?_
  intro p e s m args below meth c ls fx hw hl hsz
  subst hsz
  exact b_X3_readDeed fx ⟨Nat.le_refl _, Nat.le_refl _, Nat.le_refl _, Nat.le_refl _⟩ M z M' hF (fun pc ls H locs v M1 hd hb hw h => by cases h; exact g_zret fx hw rfl hb hd) _ _ ls hl hw
noncomputable def f_X3_readText_60 (rec60 : Int32 → Mem → Option (Int32 × Mem)) : Int32 → Mem → Option (Int32 × Mem) := fun a1 M => (if 800 ≤ a1 then (some (1, M)) else (if (M 1 2) ≤ (M 1 5) then (some (1, M)) else (bnd2 (f_X3_readDeed M) (fun r37 M38 => (if r37 = 0 then (some (0, M38)) else (rec60 (a1 + 1) M38))))))
noncomputable def f_X3_readText (M : Mem) : Option (Int32 × Mem) := (letM (mput M 1 4 (-1)) (fun M39 => (letM (mput M39 1 6 0) (fun M40 => (bnd (f_X1_clear 31 M40) (fun M42 => (bnd (f_X3_nextToken M42) (fun M44 => (bnd2 (f_X3_readPaper M44) (fun r45 M46 => (if r45 = 0 then (some (0, M46)) else (bnd2 (f_X3_readGrant M46) (fun r47 M48 => (if r47 = 0 then (some (0, M48)) else (bnd2 (f_X3_readNeeds M48) (fun r49 M50 => (if r49 = 0 then (some (0, M50)) else (bnd2 (f_X3_readMonks M50) (fun r51 M52 => (if r51 = 0 then (some (0, M52)) else (bnd2 (f_X3_readBells M52) (fun r53 M54 => (if r53 = 0 then (some (0, M54)) else ((lp (fun _ _ => none) (f_X3_readText_60) FU) 0 M54))))))))))))))))))))))))
set_option maxHeartbeats 4000000 in
set_option maxRecDepth 100000 in
theorem b_X3_readText {p : Program} {l : Launch} {e : Env} {R : Room} {s : State} {m : MethodId} {args : Array Value} {below : List Frame} {meth : Method} {c : Code} {Q : State → Prop} {D : va_G} {cy : Nat → ClassId} {ad : Nat → Nat} {x : SX} (fx : FX p s m args meth c cX3_readText 2 (some .boolean) RX3 D cy ad x) (hR : 8 ≤ R.frames ∧ 171 ≤ R.locals ∧ 0 ≤ R.cells ∧ 0 ≤ R.slots) (M : Mem) (z : Int32) (M' : Mem) (hF : f_X3_readText M = some (z, M')) (E : ∀ (pc : Nat) (ls : Array Slot) (H : Heap) (locs : List Loc) (v : Int32) (M1 : Mem), decode cX3_readText pc = .ok (.ireturn, 1) → (v = 0 ∨ v = 1) → WD D cy ad s M1 H locs → some (v, M1) = some (z, M') → W p l e R s m args below meth c H locs 0 0 Q (F0 m pc ls [.int v])) (H : Heap) (locs : List Loc) (ls : Array Slot) (hl : lv_has ls 2 [(0, .ref (ad 1))]) (hw : WD D cy ad s M H locs) : W p l e R s m args below meth c H locs 0 0 Q (F0 m 0 ls []) := by
  have hx := fx.1.1
  have hb := fx.1.2.1
  have hown := fx.1.2.2.2.1
  have hts := fx.1.2.2.2.2
  have n_60 : ∀ (n9 : Nat), ∀ (a1 : Int32) (M : Mem) (H : Heap) (locs : List Loc) (ls : Array Slot), lv_has ls 2 [(0, .ref (ad 1)), (1, .int a1)] → WD D cy ad s M H locs → (lp (fun _ _ => none) (f_X3_readText_60) n9) a1 M = some (z, M') → W p l e R s m args below meth c H locs 0 0 Q (F0 m 60 ls []) := by
    intro n9
    refine lp_ind (fun (rec60 : Int32 → Mem → Option (Int32 × Mem)) => ∀ (a1 : Int32) (M : Mem) (H : Heap) (locs : List Loc) (ls : Array Slot), lv_has ls 2 [(0, .ref (ad 1)), (1, .int a1)] → WD D cy ad s M H locs → rec60 a1 M = some (z, M') → W p l e R s m args below meth c H locs 0 0 Q (F0 m 60 ls [])) ?_ ?_ n9
    · intro a1 M H locs ls hl hw hF
      exact nomatch hF
    · intro rec60 hr60 a1 M H locs ls hl hw hF
      unfold f_X3_readText_60 at hF
      refine lv_iload_n hx hb dX3_readText_60 rfl (lv_at hl 1 rfl) ?_
      refine lv_sipush (v := 800) hx hb dX3_readText_61 (by decide) ?_
      refine lv_icmp_ge (tgt := 93) hx hb dX3_readText_64 (by decide) (fun hc64 => ?_) (fun hc64 => ?_)
      · replace hF := st_t hc64 hF
        refine lv_iconst (v := 1) hx hb dX3_readText_93 (by decide) ?_
        exact E _ _ _ _ _ _ dX3_readText_94 (Or.inr rfl) hw hF
      · replace hF := st_f hc64 hF
        refine lv_aload_n hx hb dX3_readText_67 rfl (lv_at hl 0 rfl) ?_
        refine gX3_get fx hw isO_1 5 (by decide) wd1_153 rfl dX3_readText_68 ?_
        refine lv_aload_n hx hb dX3_readText_71 rfl (lv_at hl 0 rfl) ?_
        refine gX3_get fx hw isO_1 2 (by decide) wd1_148 rfl dX3_readText_72 ?_
        refine lv_icmp_ge (tgt := 93) hx hb dX3_readText_75 (by decide) (fun hc75 => ?_) (fun hc75 => ?_)
        · replace hF := st_t hc75 hF
          refine lv_iconst (v := 1) hx hb dX3_readText_93 (by decide) ?_
          exact E _ _ _ _ _ _ dX3_readText_94 (Or.inr rfl) hw hF
        · replace hF := st_f hc75 hF
          refine lv_aload_n hx hb dX3_readText_78 rfl (lv_at hl 0 rfl) ?_
          obtain ⟨r37, M38, hgr37, hF⟩ := st_bnd2 hF
          refine g_cz hw (g_runV (C := RX3) (As := []) (rest := []) fx hw isO_1 rfl (c_X3_readDeed l x D cy ad H.size M r37 M38 hgr37) wd2_140 wd2_142 wd0_18 wd1_5 wd2_143 yd_X3_readDeed rfl rfl (Nat.le_of_ble_eq_true rfl) hl.1 ⟨Nat.le_trans (Nat.le_of_ble_eq_true rfl) hR.1, Nat.le_trans (Nat.le_of_ble_eq_true rfl) hR.2.1⟩ ⟨Nat.le_trans (Nat.le_of_ble_eq_true rfl) hR.2.2.1, Nat.le_trans (Nat.le_of_ble_eq_true rfl) hR.2.2.2⟩ dX3_readText_79) (fun H locs hbr37 hw => ?_)
          refine lv_if_ne (tgt := 87) hx hb dX3_readText_82 (by decide) (fun hc82 => ?_) (fun hc82 => ?_)
          · replace hF := st_f hc82 hF
            refine lv_iinc (v := (a1 + 1)) (lv' := [(1, .int (a1 + 1)), (0, .ref (ad 1))]) hx hb dX3_readText_87 hl (k := 1) rfl rfl (by decide) rfl (fun ls hl => ?_)
            refine lv_goto (tgt := 60) hx hb dX3_readText_90 (by decide) ?_
            exact hr60 (a1 + 1) M38 H locs ls (lv_sub hl [1, 0] rfl) hw hF
          · replace hF := st_t hc82 hF
            refine lv_iconst (v := 0) hx hb dX3_readText_85 (by decide) ?_
            exact E _ _ _ _ _ _ dX3_readText_86 (Or.inl rfl) hw hF
  unfold f_X3_readText at hF
  refine lv_aload_n hx hb dX3_readText_0 rfl (lv_at hl 0 rfl) ?_
  refine lv_iconst (v := (-1)) hx hb dX3_readText_1 (by decide) ?_
  obtain ⟨M39, eM39, hF⟩ := st_letM hF
  refine gX3_put fx hw isO_1 4 (by decide) wd1_151 rfl eM39 rfl (Nat.le_of_ble_eq_true rfl) dX3_readText_2 (fun H locs hw => ?_)
  refine lv_aload_n hx hb dX3_readText_5 rfl (lv_at hl 0 rfl) ?_
  refine lv_iconst (v := 0) hx hb dX3_readText_6 (by decide) ?_
  obtain ⟨M40, eM40, hF⟩ := st_letM hF
  refine gX3_put fx hw isO_1 6 (by decide) wd1_154 rfl eM40 rfl (Nat.le_of_ble_eq_true rfl) dX3_readText_7 (fun H locs hw => ?_)
  refine lv_aload_n hx hb dX3_readText_10 rfl (lv_at hl 0 rfl) ?_
  refine gX3_get fx hw isO_1 1 (by decide) wd1_145 rfl dX3_readText_11 ?_
  obtain ⟨M42, hgr41, hF⟩ := st_bnd hF
  refine g_cv hw (g_runV (C := RX1) (As := []) (rest := []) fx hw isH_31.O rfl (c_X1_clear l x D cy ad 31 isH_31 H.size M40 M42 hgr41) wd1_233 wd1_119 wd1_120 wd1_2 wd1_121 yd_X1_clear rfl rfl (Nat.le_of_ble_eq_true rfl) hl.1 ⟨Nat.le_trans (Nat.le_of_ble_eq_true rfl) hR.1, Nat.le_trans (Nat.le_of_ble_eq_true rfl) hR.2.1⟩ ⟨Nat.le_trans (Nat.le_of_ble_eq_true rfl) hR.2.2.1, Nat.le_trans (Nat.le_of_ble_eq_true rfl) hR.2.2.2⟩ dX3_readText_14) (fun H locs hw => ?_)
  refine lv_aload_n hx hb dX3_readText_17 rfl (lv_at hl 0 rfl) ?_
  obtain ⟨M44, hgr43, hF⟩ := st_bnd hF
  refine g_cv hw (g_runV (C := RX3) (As := []) (rest := []) fx hw isO_1 rfl (c_X3_nextToken l x D cy ad H.size M42 M44 hgr43) wd1_234 wd1_236 wd0_0 wd1_5 wd1_237 yd_X3_nextToken rfl rfl (Nat.le_of_ble_eq_true rfl) hl.1 ⟨Nat.le_trans (Nat.le_of_ble_eq_true rfl) hR.1, Nat.le_trans (Nat.le_of_ble_eq_true rfl) hR.2.1⟩ ⟨Nat.le_trans (Nat.le_of_ble_eq_true rfl) hR.2.2.1, Nat.le_trans (Nat.le_of_ble_eq_true rfl) hR.2.2.2⟩ dX3_readText_18) (fun H locs hw => ?_)
  refine lv_aload_n hx hb dX3_readText_21 rfl (lv_at hl 0 rfl) ?_
  obtain ⟨r45, M46, hgr45, hF⟩ := st_bnd2 hF
  refine g_cz hw (g_runV (C := RX3) (As := []) (rest := []) fx hw isO_1 rfl (c_X3_readPaper l x D cy ad H.size M44 r45 M46 hgr45) wd1_238 wd2_0 wd0_1 wd1_5 wd2_1 yd_X3_readPaper rfl rfl (Nat.le_of_ble_eq_true rfl) hl.1 ⟨Nat.le_trans (Nat.le_of_ble_eq_true rfl) hR.1, Nat.le_trans (Nat.le_of_ble_eq_true rfl) hR.2.1⟩ ⟨Nat.le_trans (Nat.le_of_ble_eq_true rfl) hR.2.2.1, Nat.le_trans (Nat.le_of_ble_eq_true rfl) hR.2.2.2⟩ dX3_readText_22) (fun H locs hbr45 hw => ?_)
  refine lv_if_eq (tgt := 56) hx hb dX3_readText_25 (by decide) (fun hc25 => ?_) (fun hc25 => ?_)
  · replace hF := st_t hc25 hF
    refine lv_iconst (v := 0) hx hb dX3_readText_56 (by decide) ?_
    exact E _ _ _ _ _ _ dX3_readText_57 (Or.inl rfl) hw hF
  · replace hF := st_f hc25 hF
    refine lv_aload_n hx hb dX3_readText_28 rfl (lv_at hl 0 rfl) ?_
    obtain ⟨r47, M48, hgr47, hF⟩ := st_bnd2 hF
    refine g_cz hw (g_runV (C := RX3) (As := []) (rest := []) fx hw isO_1 rfl (c_X3_readGrant l x D cy ad H.size M46 r47 M48 hgr47) wd2_78 wd2_80 wd0_8 wd1_5 wd2_81 yd_X3_readGrant rfl rfl (Nat.le_of_ble_eq_true rfl) hl.1 ⟨Nat.le_trans (Nat.le_of_ble_eq_true rfl) hR.1, Nat.le_trans (Nat.le_of_ble_eq_true rfl) hR.2.1⟩ ⟨Nat.le_trans (Nat.le_of_ble_eq_true rfl) hR.2.2.1, Nat.le_trans (Nat.le_of_ble_eq_true rfl) hR.2.2.2⟩ dX3_readText_29) (fun H locs hbr47 hw => ?_)
    refine lv_if_eq (tgt := 56) hx hb dX3_readText_32 (by decide) (fun hc32 => ?_) (fun hc32 => ?_)
    · replace hF := st_t hc32 hF
      refine lv_iconst (v := 0) hx hb dX3_readText_56 (by decide) ?_
      exact E _ _ _ _ _ _ dX3_readText_57 (Or.inl rfl) hw hF
    · replace hF := st_f hc32 hF
      refine lv_aload_n hx hb dX3_readText_35 rfl (lv_at hl 0 rfl) ?_
      obtain ⟨r49, M50, hgr49, hF⟩ := st_bnd2 hF
      refine g_cz hw (g_runV (C := RX3) (As := []) (rest := []) fx hw isO_1 rfl (c_X3_readNeeds l x D cy ad H.size M48 r49 M50 hgr49) wd2_83 wd2_85 wd0_9 wd1_5 wd2_86 yd_X3_readNeeds rfl rfl (Nat.le_of_ble_eq_true rfl) hl.1 ⟨Nat.le_trans (Nat.le_of_ble_eq_true rfl) hR.1, Nat.le_trans (Nat.le_of_ble_eq_true rfl) hR.2.1⟩ ⟨Nat.le_trans (Nat.le_of_ble_eq_true rfl) hR.2.2.1, Nat.le_trans (Nat.le_of_ble_eq_true rfl) hR.2.2.2⟩ dX3_readText_36) (fun H locs hbr49 hw => ?_)
      refine lv_if_eq (tgt := 56) hx hb dX3_readText_39 (by decide) (fun hc39 => ?_) (fun hc39 => ?_)
      · replace hF := st_t hc39 hF
        refine lv_iconst (v := 0) hx hb dX3_readText_56 (by decide) ?_
        exact E _ _ _ _ _ _ dX3_readText_57 (Or.inl rfl) hw hF
      · replace hF := st_f hc39 hF
        refine lv_aload_n hx hb dX3_readText_42 rfl (lv_at hl 0 rfl) ?_
        obtain ⟨r51, M52, hgr51, hF⟩ := st_bnd2 hF
        refine g_cz hw (g_runV (C := RX3) (As := []) (rest := []) fx hw isO_1 rfl (c_X3_readMonks l x D cy ad H.size M50 r51 M52 hgr51) wd2_102 wd2_104 wd0_12 wd1_5 wd2_105 yd_X3_readMonks rfl rfl (Nat.le_of_ble_eq_true rfl) hl.1 ⟨Nat.le_trans (Nat.le_of_ble_eq_true rfl) hR.1, Nat.le_trans (Nat.le_of_ble_eq_true rfl) hR.2.1⟩ ⟨Nat.le_trans (Nat.le_of_ble_eq_true rfl) hR.2.2.1, Nat.le_trans (Nat.le_of_ble_eq_true rfl) hR.2.2.2⟩ dX3_readText_43) (fun H locs hbr51 hw => ?_)
        refine lv_if_eq (tgt := 56) hx hb dX3_readText_46 (by decide) (fun hc46 => ?_) (fun hc46 => ?_)
        · replace hF := st_t hc46 hF
          refine lv_iconst (v := 0) hx hb dX3_readText_56 (by decide) ?_
          exact E _ _ _ _ _ _ dX3_readText_57 (Or.inl rfl) hw hF
        · replace hF := st_f hc46 hF
          refine lv_aload_n hx hb dX3_readText_49 rfl (lv_at hl 0 rfl) ?_
          obtain ⟨r53, M54, hgr53, hF⟩ := st_bnd2 hF
          refine g_cz hw (g_runV (C := RX3) (As := []) (rest := []) fx hw isO_1 rfl (c_X3_readBells l x D cy ad H.size M52 r53 M54 hgr53) wd2_129 wd2_131 wd0_16 wd1_5 wd2_132 yd_X3_readBells rfl rfl (Nat.le_of_ble_eq_true rfl) hl.1 ⟨Nat.le_trans (Nat.le_of_ble_eq_true rfl) hR.1, Nat.le_trans (Nat.le_of_ble_eq_true rfl) hR.2.1⟩ ⟨Nat.le_trans (Nat.le_of_ble_eq_true rfl) hR.2.2.1, Nat.le_trans (Nat.le_of_ble_eq_true rfl) hR.2.2.2⟩ dX3_readText_50) (fun H locs hbr53 hw => ?_)
          refine lv_if_ne (tgt := 58) hx hb dX3_readText_53 (by decide) (fun hc53 => ?_) (fun hc53 => ?_)
          · replace hF := st_f hc53 hF
            refine lv_iconst (v := 0) hx hb dX3_readText_58 (by decide) ?_
            refine lv_istore_n (lv' := [(1, .int 0), (0, .ref (ad 1))]) hx hb dX3_readText_59 rfl hl (by decide) rfl (fun ls hl => ?_)
            exact n_60 FU 0 M54 H locs ls (lv_sub hl [1, 0] rfl) hw hF
          · replace hF := st_t hc53 hF
            refine lv_iconst (v := 0) hx hb dX3_readText_56 (by decide) ?_
            exact E _ _ _ _ _ _ dX3_readText_57 (Or.inl rfl) hw hF
theorem c_X3_readText (l : Launch) (x : SX) (D : va_G) (cy : Nat → ClassId) (ad : Nat → Nat) (sz : Nat) (M : Mem) (z : Int32) (M' : Mem) (hF : f_X3_readText M = some (z, M')) : Met l yX3_readText (.code yX3_readText cX3_readText 2 (some .boolean) :: GB) ({ frames := 8, cells := 0, slots := 0, locals := 171 } : Room) (PcW D cy ad x sz M [.ref (ad 1)]) (QzW D cy ad sz z M') 0 0 (AA ad sz) := by
  refine mk_m (own := RX3) (by decide) rfl (Nat.le_of_ble_eq_true rfl) ?_
  intro p e s m args below meth c ls fx hw hl hsz
  subst hsz
  exact b_X3_readText fx ⟨Nat.le_refl _, Nat.le_refl _, Nat.le_refl _, Nat.le_refl _⟩ M z M' hF (fun pc ls H locs v M1 hd hb hw h => by cases h; exact g_zret fx hw rfl hb hd) _ _ ls hl hw
