theorem wd3_111 : Cond.methodLink RL 93 yL_append ∈ GB := gb_3 111 rfl rfl
theorem wd3_113 : Cond.codeWith yL_append cL_append 8 (some .int) [(0, 16, 19, 13)] ∈ GB := gb_3 113 rfl rfl
theorem wd3_112 : Cond.static yL_append ∈ GB := gb_3 112 rfl rfl
theorem wd1_0 : Cond.initialized RL ∈ GB := gb_1 0 rfl rfl
theorem yd_L_append : yL_append.cls ≠ "java/lang/invoke/MethodHandle" ∧ yL_append.cls ≠ "java/lang/invoke/VarHandle" ∧ (parseMethodDescriptor yL_append.desc).map (fun d => d.parameters.length) = some 7 := by decide +kernel
theorem wd6_131 : Cond.methodLink RL 98 yX6_append ∈ GB := gb_6 131 rfl rfl
theorem wd6_132 : Cond.instanceMethod yX6_append ∈ GB := gb_6 132 rfl rfl
theorem wd6_133 : Cond.selects RX6 yX6_append yX6_append ∈ GB := gb_6 133 rfl rfl
theorem wd6_134 : Cond.code yX6_append cX6_append 9 (some .int) ∈ GB := gb_6 134 rfl rfl
theorem yd_X6_append : yX6_append.cls ≠ "java/lang/invoke/MethodHandle" ∧ yX6_append.cls ≠ "java/lang/invoke/VarHandle" ∧ (parseMethodDescriptor yX6_append.desc).map (fun d => d.parameters.length) = some 5 := by decide +kernel
theorem wd5_77 : Cond.methodLink RL 99 yX6_thrown ∈ GB := gb_5 77 rfl rfl
theorem wd5_78 : Cond.instanceMethod yX6_thrown ∈ GB := gb_5 78 rfl rfl
theorem wd5_79 : Cond.selects RX6 yX6_thrown yX6_thrown ∈ GB := gb_5 79 rfl rfl
theorem wd5_80 : Cond.code yX6_thrown cX6_thrown 1 (some .int) ∈ GB := gb_5 80 rfl rfl
theorem yd_X6_thrown : yX6_thrown.cls ≠ "java/lang/invoke/MethodHandle" ∧ yX6_thrown.cls ≠ "java/lang/invoke/VarHandle" ∧ (parseMethodDescriptor yX6_thrown.desc).map (fun d => d.parameters.length) = some 0 := by decide +kernel
theorem wd1_225 : Cond.methodLink RL 102 yX5_load ∈ GB := gb_1 225 rfl rfl
theorem wd1_226 : Cond.instanceMethod yX5_load ∈ GB := gb_1 226 rfl rfl
theorem wd1_227 : Cond.selects RX5 yX5_load yX5_load ∈ GB := gb_1 227 rfl rfl
theorem wd1_228 : Cond.code yX5_load cX5_load 2 (some .int) ∈ GB := gb_1 228 rfl rfl
theorem yd_X5_load : yX5_load.cls ≠ "java/lang/invoke/MethodHandle" ∧ yX5_load.cls ≠ "java/lang/invoke/VarHandle" ∧ (parseMethodDescriptor yX5_load.desc).map (fun d => d.parameters.length) = some 0 := by decide +kernel
theorem wd6_138 : Cond.methodLink RL 105 yX6_load ∈ GB := gb_6 138 rfl rfl
theorem wd6_139 : Cond.instanceMethod yX6_load ∈ GB := gb_6 139 rfl rfl
theorem wd6_140 : Cond.selects RX6 yX6_load yX6_load ∈ GB := gb_6 140 rfl rfl
theorem wd6_141 : Cond.code yX6_load cX6_load 2 (some .int) ∈ GB := gb_6 141 rfl rfl
theorem yd_X6_load : yX6_load.cls ≠ "java/lang/invoke/MethodHandle" ∧ yX6_load.cls ≠ "java/lang/invoke/VarHandle" ∧ (parseMethodDescriptor yX6_load.desc).map (fun d => d.parameters.length) = some 0 := by decide +kernel
theorem wd3_45 : Cond.methodLink RL 106 yX5_errorPosition ∈ GB := gb_3 45 rfl rfl
theorem wd3_46 : Cond.instanceMethod yX5_errorPosition ∈ GB := gb_3 46 rfl rfl
theorem wd3_47 : Cond.selects RX5 yX5_errorPosition yX5_errorPosition ∈ GB := gb_3 47 rfl rfl
theorem wd3_48 : Cond.code yX5_errorPosition cX5_errorPosition 1 (some .int) ∈ GB := gb_3 48 rfl rfl
theorem yd_X5_errorPosition : yX5_errorPosition.cls ≠ "java/lang/invoke/MethodHandle" ∧ yX5_errorPosition.cls ≠ "java/lang/invoke/VarHandle" ∧ (parseMethodDescriptor yX5_errorPosition.desc).map (fun d => d.parameters.length) = some 0 := by decide +kernel
theorem wd7_16 : Cond.methodLink RL 109 yX6_errorPosition ∈ GB := gb_7 16 rfl rfl
theorem wd7_17 : Cond.instanceMethod yX6_errorPosition ∈ GB := gb_7 17 rfl rfl
theorem wd7_18 : Cond.selects RX6 yX6_errorPosition yX6_errorPosition ∈ GB := gb_7 18 rfl rfl
theorem wd7_19 : Cond.code yX6_errorPosition cX6_errorPosition 1 (some .int) ∈ GB := gb_7 19 rfl rfl
theorem yd_X6_errorPosition : yX6_errorPosition.cls ≠ "java/lang/invoke/MethodHandle" ∧ yX6_errorPosition.cls ≠ "java/lang/invoke/VarHandle" ∧ (parseMethodDescriptor yX6_errorPosition.desc).map (fun d => d.parameters.length) = some 0 := by decide +kernel
theorem wd3_193 : Cond.methodLink RL 110 yL_count ∈ GB := gb_3 193 rfl rfl
theorem wd3_195 : Cond.codeWith yL_count cL_count 4 (some .int) [(0, 9, 12, 19)] ∈ GB := gb_3 195 rfl rfl
theorem wd3_194 : Cond.static yL_count ∈ GB := gb_3 194 rfl rfl
theorem yd_L_count : yL_count.cls ≠ "java/lang/invoke/MethodHandle" ∧ yL_count.cls ≠ "java/lang/invoke/VarHandle" ∧ (parseMethodDescriptor yL_count.desc).map (fun d => d.parameters.length) = some 3 := by decide +kernel
theorem wd5_103 : Cond.methodLink RL 113 yX6_count ∈ GB := gb_5 103 rfl rfl
theorem wd5_104 : Cond.instanceMethod yX6_count ∈ GB := gb_5 104 rfl rfl
theorem wd5_105 : Cond.selects RX6 yX6_count yX6_count ∈ GB := gb_5 105 rfl rfl
theorem wd5_106 : Cond.code yX6_count cX6_count 2 (some .int) ∈ GB := gb_5 106 rfl rfl
theorem yd_X6_count : yX6_count.cls ≠ "java/lang/invoke/MethodHandle" ∧ yX6_count.cls ≠ "java/lang/invoke/VarHandle" ∧ (parseMethodDescriptor yX6_count.desc).map (fun d => d.parameters.length) = some 1 := by decide +kernel
theorem wd3_225 : Cond.methodLink RL 114 yL_account ∈ GB := gb_3 225 rfl rfl
theorem wd3_227 : Cond.codeWith yL_account cL_account 4 (some .int) [(0, 9, 12, 19)] ∈ GB := gb_3 227 rfl rfl
theorem wd3_226 : Cond.static yL_account ∈ GB := gb_3 226 rfl rfl
theorem yd_L_account : yL_account.cls ≠ "java/lang/invoke/MethodHandle" ∧ yL_account.cls ≠ "java/lang/invoke/VarHandle" ∧ (parseMethodDescriptor yL_account.desc).map (fun d => d.parameters.length) = some 3 := by decide +kernel
theorem wd5_138 : Cond.methodLink RL 116 yX6_account ∈ GB := gb_5 138 rfl rfl
theorem wd5_139 : Cond.instanceMethod yX6_account ∈ GB := gb_5 139 rfl rfl
theorem wd5_140 : Cond.selects RX6 yX6_account yX6_account ∈ GB := gb_5 140 rfl rfl
theorem wd5_141 : Cond.code yX6_account cX6_account 2 (some .int) ∈ GB := gb_5 141 rfl rfl
theorem yd_X6_account : yX6_account.cls ≠ "java/lang/invoke/MethodHandle" ∧ yX6_account.cls ≠ "java/lang/invoke/VarHandle" ∧ (parseMethodDescriptor yX6_account.desc).map (fun d => d.parameters.length) = some 1 := by decide +kernel
theorem wd3_233 : Cond.methodLink RL 117 yL_monk ∈ GB := gb_3 233 rfl rfl
theorem wd3_235 : Cond.codeWith yL_monk cL_monk 5 (some .int) [(0, 10, 13, 28), (0, 10, 17, 19)] ∈ GB := gb_3 235 rfl rfl
theorem wd3_234 : Cond.static yL_monk ∈ GB := gb_3 234 rfl rfl
theorem yd_L_monk : yL_monk.cls ≠ "java/lang/invoke/MethodHandle" ∧ yL_monk.cls ≠ "java/lang/invoke/VarHandle" ∧ (parseMethodDescriptor yL_monk.desc).map (fun d => d.parameters.length) = some 4 := by decide +kernel
theorem wd5_142 : Cond.methodLink RL 120 yX6_monk ∈ GB := gb_5 142 rfl rfl
theorem wd5_143 : Cond.instanceMethod yX6_monk ∈ GB := gb_5 143 rfl rfl
theorem wd5_144 : Cond.selects RX6 yX6_monk yX6_monk ∈ GB := gb_5 144 rfl rfl
theorem wd5_145 : Cond.code yX6_monk cX6_monk 3 (some .int) ∈ GB := gb_5 145 rfl rfl
theorem yd_X6_monk : yX6_monk.cls ≠ "java/lang/invoke/MethodHandle" ∧ yX6_monk.cls ≠ "java/lang/invoke/VarHandle" ∧ (parseMethodDescriptor yX6_monk.desc).map (fun d => d.parameters.length) = some 2 := by decide +kernel
theorem wd4_33 : Cond.methodLink RL 121 yL_need ∈ GB := gb_4 33 rfl rfl
theorem wd4_35 : Cond.codeWith yL_need cL_need 5 (some .int) [(0, 10, 13, 28), (0, 10, 17, 19)] ∈ GB := gb_4 35 rfl rfl
theorem wd4_34 : Cond.static yL_need ∈ GB := gb_4 34 rfl rfl
theorem yd_L_need : yL_need.cls ≠ "java/lang/invoke/MethodHandle" ∧ yL_need.cls ≠ "java/lang/invoke/VarHandle" ∧ (parseMethodDescriptor yL_need.desc).map (fun d => d.parameters.length) = some 4 := by decide +kernel
theorem wd5_157 : Cond.methodLink RL 123 yX6_need ∈ GB := gb_5 157 rfl rfl
theorem wd5_158 : Cond.instanceMethod yX6_need ∈ GB := gb_5 158 rfl rfl
theorem wd5_159 : Cond.selects RX6 yX6_need yX6_need ∈ GB := gb_5 159 rfl rfl
theorem wd5_160 : Cond.code yX6_need cX6_need 3 (some .int) ∈ GB := gb_5 160 rfl rfl
theorem yd_X6_need : yX6_need.cls ≠ "java/lang/invoke/MethodHandle" ∧ yX6_need.cls ≠ "java/lang/invoke/VarHandle" ∧ (parseMethodDescriptor yX6_need.desc).map (fun d => d.parameters.length) = some 2 := by decide +kernel
theorem wd4_52 : Cond.methodLink RL 124 yL_has ∈ GB := gb_4 52 rfl rfl
theorem wd4_54 : Cond.codeWith yL_has cL_has 6 (some .int) [(0, 19, 22, 28)] ∈ GB := gb_4 54 rfl rfl
theorem wd4_53 : Cond.static yL_has ∈ GB := gb_4 53 rfl rfl
theorem yd_L_has : yL_has.cls ≠ "java/lang/invoke/MethodHandle" ∧ yL_has.cls ≠ "java/lang/invoke/VarHandle" ∧ (parseMethodDescriptor yL_has.desc).map (fun d => d.parameters.length) = some 5 := by decide +kernel
theorem wd5_177 : Cond.methodLink RL 127 yX6_has ∈ GB := gb_5 177 rfl rfl
theorem wd5_178 : Cond.instanceMethod yX6_has ∈ GB := gb_5 178 rfl rfl
theorem wd5_179 : Cond.selects RX6 yX6_has yX6_has ∈ GB := gb_5 179 rfl rfl
theorem wd5_180 : Cond.code yX6_has cX6_has 4 (some .boolean) ∈ GB := gb_5 180 rfl rfl
theorem yd_X6_has : yX6_has.cls ≠ "java/lang/invoke/MethodHandle" ∧ yX6_has.cls ≠ "java/lang/invoke/VarHandle" ∧ (parseMethodDescriptor yX6_has.desc).map (fun d => d.parameters.length) = some 3 := by decide +kernel
theorem wd4_60 : Cond.methodLink RL 128 yL_bell ∈ GB := gb_4 60 rfl rfl
theorem wd4_62 : Cond.codeWith yL_bell cL_bell 4 (some .int) [(0, 9, 12, 28)] ∈ GB := gb_4 62 rfl rfl
theorem wd4_61 : Cond.static yL_bell ∈ GB := gb_4 61 rfl rfl
theorem yd_L_bell : yL_bell.cls ≠ "java/lang/invoke/MethodHandle" ∧ yL_bell.cls ≠ "java/lang/invoke/VarHandle" ∧ (parseMethodDescriptor yL_bell.desc).map (fun d => d.parameters.length) = some 3 := by decide +kernel
theorem wd5_181 : Cond.methodLink RL 130 yX6_bell ∈ GB := gb_5 181 rfl rfl
theorem wd5_182 : Cond.instanceMethod yX6_bell ∈ GB := gb_5 182 rfl rfl
theorem wd5_183 : Cond.selects RX6 yX6_bell yX6_bell ∈ GB := gb_5 183 rfl rfl
theorem wd5_184 : Cond.code yX6_bell cX6_bell 2 (some .int) ∈ GB := gb_5 184 rfl rfl
theorem yd_X6_bell : yX6_bell.cls ≠ "java/lang/invoke/MethodHandle" ∧ yX6_bell.cls ≠ "java/lang/invoke/VarHandle" ∧ (parseMethodDescriptor yX6_bell.desc).map (fun d => d.parameters.length) = some 1 := by decide +kernel
theorem wd4_71 : Cond.methodLink RL 131 yL_why ∈ GB := gb_4 71 rfl rfl
theorem wd4_73 : Cond.codeWith yL_why cL_why 8 (some .int) [(0, 16, 19, 28), (0, 16, 23, 19)] ∈ GB := gb_4 73 rfl rfl
theorem wd4_72 : Cond.static yL_why ∈ GB := gb_4 72 rfl rfl
theorem yd_L_why : yL_why.cls ≠ "java/lang/invoke/MethodHandle" ∧ yL_why.cls ≠ "java/lang/invoke/VarHandle" ∧ (parseMethodDescriptor yL_why.desc).map (fun d => d.parameters.length) = some 7 := by decide +kernel
theorem wd5_185 : Cond.methodLink RL 133 yX6_why ∈ GB := gb_5 185 rfl rfl
theorem wd5_186 : Cond.instanceMethod yX6_why ∈ GB := gb_5 186 rfl rfl
theorem wd5_187 : Cond.selects RX6 yX6_why yX6_why ∈ GB := gb_5 187 rfl rfl
theorem wd5_188 : Cond.code yX6_why cX6_why 7 (some .int) ∈ GB := gb_5 188 rfl rfl
theorem yd_X6_why : yX6_why.cls ≠ "java/lang/invoke/MethodHandle" ∧ yX6_why.cls ≠ "java/lang/invoke/VarHandle" ∧ (parseMethodDescriptor yX6_why.desc).map (fun d => d.parameters.length) = some 5 := by decide +kernel
theorem wd3_49 : Cond.methodLink RL 134 yX5_gap ∈ GB := gb_3 49 rfl rfl
theorem wd3_50 : Cond.instanceMethod yX5_gap ∈ GB := gb_3 50 rfl rfl
theorem wd3_51 : Cond.selects RX5 yX5_gap yX5_gap ∈ GB := gb_3 51 rfl rfl
theorem wd3_52 : Cond.code yX5_gap cX5_gap 5 (some .int) ∈ GB := gb_3 52 rfl rfl
theorem yd_X5_gap : yX5_gap.cls ≠ "java/lang/invoke/MethodHandle" ∧ yX5_gap.cls ≠ "java/lang/invoke/VarHandle" ∧ (parseMethodDescriptor yX5_gap.desc).map (fun d => d.parameters.length) = some 0 := by decide +kernel
theorem wd5_226 : Cond.methodLink RL 137 yX6_gap ∈ GB := gb_5 226 rfl rfl
theorem wd5_227 : Cond.instanceMethod yX6_gap ∈ GB := gb_5 227 rfl rfl
theorem wd5_228 : Cond.selects RX6 yX6_gap yX6_gap ∈ GB := gb_5 228 rfl rfl
theorem wd5_229 : Cond.code yX6_gap cX6_gap 2 (some .int) ∈ GB := gb_5 229 rfl rfl
theorem yd_X6_gap : yX6_gap.cls ≠ "java/lang/invoke/MethodHandle" ∧ yX6_gap.cls ≠ "java/lang/invoke/VarHandle" ∧ (parseMethodDescriptor yX6_gap.desc).map (fun d => d.parameters.length) = some 0 := by decide +kernel
theorem wd3_57 : Cond.methodLink RL 138 yX5_meanFast ∈ GB := gb_3 57 rfl rfl
theorem wd3_58 : Cond.instanceMethod yX5_meanFast ∈ GB := gb_3 58 rfl rfl
theorem wd3_59 : Cond.selects RX5 yX5_meanFast yX5_meanFast ∈ GB := gb_3 59 rfl rfl
theorem wd3_60 : Cond.code yX5_meanFast cX5_meanFast 1 (some .double) ∈ GB := gb_3 60 rfl rfl
theorem yd_X5_meanFast : yX5_meanFast.cls ≠ "java/lang/invoke/MethodHandle" ∧ yX5_meanFast.cls ≠ "java/lang/invoke/VarHandle" ∧ (parseMethodDescriptor yX5_meanFast.desc).map (fun d => d.parameters.length) = some 0 := by decide +kernel
theorem wd5_234 : Cond.methodLink RL 142 yX6_meanFast ∈ GB := gb_5 234 rfl rfl
theorem wd5_235 : Cond.instanceMethod yX6_meanFast ∈ GB := gb_5 235 rfl rfl
theorem wd5_236 : Cond.selects RX6 yX6_meanFast yX6_meanFast ∈ GB := gb_5 236 rfl rfl
theorem wd5_237 : Cond.code yX6_meanFast cX6_meanFast 1 (some .double) ∈ GB := gb_5 237 rfl rfl
theorem yd_X6_meanFast : yX6_meanFast.cls ≠ "java/lang/invoke/MethodHandle" ∧ yX6_meanFast.cls ≠ "java/lang/invoke/VarHandle" ∧ (parseMethodDescriptor yX6_meanFast.desc).map (fun d => d.parameters.length) = some 0 := by decide +kernel
theorem wd3_61 : Cond.methodLink RL 143 yX5_breachShare ∈ GB := gb_3 61 rfl rfl
theorem wd3_62 : Cond.instanceMethod yX5_breachShare ∈ GB := gb_3 62 rfl rfl
theorem wd3_63 : Cond.selects RX5 yX5_breachShare yX5_breachShare ∈ GB := gb_3 63 rfl rfl
theorem wd3_64 : Cond.code yX5_breachShare cX5_breachShare 3 (some .float) ∈ GB := gb_3 64 rfl rfl
theorem yd_X5_breachShare : yX5_breachShare.cls ≠ "java/lang/invoke/MethodHandle" ∧ yX5_breachShare.cls ≠ "java/lang/invoke/VarHandle" ∧ (parseMethodDescriptor yX5_breachShare.desc).map (fun d => d.parameters.length) = some 0 := by decide +kernel
theorem wd5_238 : Cond.methodLink RL 147 yX6_breachShare ∈ GB := gb_5 238 rfl rfl
theorem wd5_239 : Cond.instanceMethod yX6_breachShare ∈ GB := gb_5 239 rfl rfl
theorem wd6_0 : Cond.selects RX6 yX6_breachShare yX6_breachShare ∈ GB := gb_6 0 rfl rfl
theorem wd6_1 : Cond.code yX6_breachShare cX6_breachShare 1 (some .float) ∈ GB := gb_6 1 rfl rfl
theorem yd_X6_breachShare : yX6_breachShare.cls ≠ "java/lang/invoke/MethodHandle" ∧ yX6_breachShare.cls ≠ "java/lang/invoke/VarHandle" ∧ (parseMethodDescriptor yX6_breachShare.desc).map (fun d => d.parameters.length) = some 0 := by decide +kernel
theorem wd3_65 : Cond.methodLink RL 148 yX5_ranked ∈ GB := gb_3 65 rfl rfl
theorem wd3_66 : Cond.instanceMethod yX5_ranked ∈ GB := gb_3 66 rfl rfl
theorem wd3_67 : Cond.selects RX5 yX5_ranked yX5_ranked ∈ GB := gb_3 67 rfl rfl
theorem wd3_68 : Cond.code yX5_ranked cX5_ranked 3 (some .int) ∈ GB := gb_3 68 rfl rfl
theorem yd_X5_ranked : yX5_ranked.cls ≠ "java/lang/invoke/MethodHandle" ∧ yX5_ranked.cls ≠ "java/lang/invoke/VarHandle" ∧ (parseMethodDescriptor yX5_ranked.desc).map (fun d => d.parameters.length) = some 1 := by decide +kernel
theorem wd6_2 : Cond.methodLink RL 151 yX6_ranked ∈ GB := gb_6 2 rfl rfl
theorem wd6_3 : Cond.instanceMethod yX6_ranked ∈ GB := gb_6 3 rfl rfl
theorem wd6_4 : Cond.selects RX6 yX6_ranked yX6_ranked ∈ GB := gb_6 4 rfl rfl
theorem wd6_5 : Cond.code yX6_ranked cX6_ranked 5 (some .int) ∈ GB := gb_6 5 rfl rfl
theorem yd_X6_ranked : yX6_ranked.cls ≠ "java/lang/invoke/MethodHandle" ∧ yX6_ranked.cls ≠ "java/lang/invoke/VarHandle" ∧ (parseMethodDescriptor yX6_ranked.desc).map (fun d => d.parameters.length) = some 1 := by decide +kernel
theorem wd4_103 : Cond.methodLink RL 152 yL_bestWay ∈ GB := gb_4 103 rfl rfl
theorem wd4_105 : Cond.codeWith yL_bestWay cL_bestWay 6 (some .int) [(0, 12, 15, 28), (0, 12, 19, 19)] ∈ GB := gb_4 105 rfl rfl
theorem wd4_104 : Cond.static yL_bestWay ∈ GB := gb_4 104 rfl rfl
theorem yd_L_bestWay : yL_bestWay.cls ≠ "java/lang/invoke/MethodHandle" ∧ yL_bestWay.cls ≠ "java/lang/invoke/VarHandle" ∧ (parseMethodDescriptor yL_bestWay.desc).map (fun d => d.parameters.length) = some 5 := by decide +kernel
theorem wd6_10 : Cond.methodLink RL 155 yX6_bestWay ∈ GB := gb_6 10 rfl rfl
theorem wd6_11 : Cond.instanceMethod yX6_bestWay ∈ GB := gb_6 11 rfl rfl
theorem wd6_12 : Cond.selects RX6 yX6_bestWay yX6_bestWay ∈ GB := gb_6 12 rfl rfl
theorem wd6_13 : Cond.code yX6_bestWay cX6_bestWay 6 (some .int) ∈ GB := gb_6 13 rfl rfl
theorem yd_X6_bestWay : yX6_bestWay.cls ≠ "java/lang/invoke/MethodHandle" ∧ yX6_bestWay.cls ≠ "java/lang/invoke/VarHandle" ∧ (parseMethodDescriptor yX6_bestWay.desc).map (fun d => d.parameters.length) = some 3 := by decide +kernel
theorem wd3_77 : Cond.methodLink RL 156 yX5_speechIn ∈ GB := gb_3 77 rfl rfl
theorem wd3_78 : Cond.instanceMethod yX5_speechIn ∈ GB := gb_3 78 rfl rfl
theorem wd3_79 : Cond.selects RX5 yX5_speechIn yX5_speechIn ∈ GB := gb_3 79 rfl rfl
theorem wd3_80 : Cond.code yX5_speechIn cX5_speechIn 2 (some .int) ∈ GB := gb_3 80 rfl rfl
theorem yd_X5_speechIn : yX5_speechIn.cls ≠ "java/lang/invoke/MethodHandle" ∧ yX5_speechIn.cls ≠ "java/lang/invoke/VarHandle" ∧ (parseMethodDescriptor yX5_speechIn.desc).map (fun d => d.parameters.length) = some 0 := by decide +kernel
theorem wd6_18 : Cond.methodLink RL 159 yX6_speechIn ∈ GB := gb_6 18 rfl rfl
theorem wd6_19 : Cond.instanceMethod yX6_speechIn ∈ GB := gb_6 19 rfl rfl
theorem wd6_20 : Cond.selects RX6 yX6_speechIn yX6_speechIn ∈ GB := gb_6 20 rfl rfl
theorem wd6_21 : Cond.code yX6_speechIn cX6_speechIn 2 (some .int) ∈ GB := gb_6 21 rfl rfl
theorem yd_X6_speechIn : yX6_speechIn.cls ≠ "java/lang/invoke/MethodHandle" ∧ yX6_speechIn.cls ≠ "java/lang/invoke/VarHandle" ∧ (parseMethodDescriptor yX6_speechIn.desc).map (fun d => d.parameters.length) = some 0 := by decide +kernel
theorem wd4_115 : Cond.methodLink RL 160 yL_fastIn ∈ GB := gb_4 115 rfl rfl
theorem wd4_117 : Cond.codeWith yL_fastIn cL_fastIn 4 (some .int) [(0, 9, 12, 19)] ∈ GB := gb_4 117 rfl rfl
theorem wd4_116 : Cond.static yL_fastIn ∈ GB := gb_4 116 rfl rfl
theorem yd_L_fastIn : yL_fastIn.cls ≠ "java/lang/invoke/MethodHandle" ∧ yL_fastIn.cls ≠ "java/lang/invoke/VarHandle" ∧ (parseMethodDescriptor yL_fastIn.desc).map (fun d => d.parameters.length) = some 3 := by decide +kernel
theorem wd6_22 : Cond.methodLink RL 162 yX6_fastIn ∈ GB := gb_6 22 rfl rfl
theorem wd6_23 : Cond.instanceMethod yX6_fastIn ∈ GB := gb_6 23 rfl rfl
theorem wd6_24 : Cond.selects RX6 yX6_fastIn yX6_fastIn ∈ GB := gb_6 24 rfl rfl
theorem wd6_25 : Cond.code yX6_fastIn cX6_fastIn 5 (some .int) ∈ GB := gb_6 25 rfl rfl
theorem yd_X6_fastIn : yX6_fastIn.cls ≠ "java/lang/invoke/MethodHandle" ∧ yX6_fastIn.cls ≠ "java/lang/invoke/VarHandle" ∧ (parseMethodDescriptor yX6_fastIn.desc).map (fun d => d.parameters.length) = some 1 := by decide +kernel
theorem wd4_126 : Cond.methodLink RL 163 yL_freeIn ∈ GB := gb_4 126 rfl rfl
theorem wd4_128 : Cond.codeWith yL_freeIn cL_freeIn 4 (some .int) [(0, 9, 12, 28)] ∈ GB := gb_4 128 rfl rfl
theorem wd4_127 : Cond.static yL_freeIn ∈ GB := gb_4 127 rfl rfl
theorem yd_L_freeIn : yL_freeIn.cls ≠ "java/lang/invoke/MethodHandle" ∧ yL_freeIn.cls ≠ "java/lang/invoke/VarHandle" ∧ (parseMethodDescriptor yL_freeIn.desc).map (fun d => d.parameters.length) = some 3 := by decide +kernel
theorem wd6_27 : Cond.methodLink RL 165 yX6_freeIn ∈ GB := gb_6 27 rfl rfl
theorem wd6_28 : Cond.instanceMethod yX6_freeIn ∈ GB := gb_6 28 rfl rfl
theorem wd6_29 : Cond.selects RX6 yX6_freeIn yX6_freeIn ∈ GB := gb_6 29 rfl rfl
theorem wd6_30 : Cond.code yX6_freeIn cX6_freeIn 2 (some .int) ∈ GB := gb_6 30 rfl rfl
theorem yd_X6_freeIn : yX6_freeIn.cls ≠ "java/lang/invoke/MethodHandle" ∧ yX6_freeIn.cls ≠ "java/lang/invoke/VarHandle" ∧ (parseMethodDescriptor yX6_freeIn.desc).map (fun d => d.parameters.length) = some 1 := by decide +kernel
theorem wd3_82 : Cond.methodLink RL 166 yX5_bestBell ∈ GB := gb_3 82 rfl rfl
theorem wd3_83 : Cond.instanceMethod yX5_bestBell ∈ GB := gb_3 83 rfl rfl
theorem wd3_84 : Cond.selects RX5 yX5_bestBell yX5_bestBell ∈ GB := gb_3 84 rfl rfl
theorem wd3_85 : Cond.code yX5_bestBell cX5_bestBell 3 (some .int) ∈ GB := gb_3 85 rfl rfl
theorem yd_X5_bestBell : yX5_bestBell.cls ≠ "java/lang/invoke/MethodHandle" ∧ yX5_bestBell.cls ≠ "java/lang/invoke/VarHandle" ∧ (parseMethodDescriptor yX5_bestBell.desc).map (fun d => d.parameters.length) = some 0 := by decide +kernel
theorem wd6_31 : Cond.methodLink RL 169 yX6_bestBell ∈ GB := gb_6 31 rfl rfl
theorem wd6_32 : Cond.instanceMethod yX6_bestBell ∈ GB := gb_6 32 rfl rfl
theorem wd6_33 : Cond.selects RX6 yX6_bestBell yX6_bestBell ∈ GB := gb_6 33 rfl rfl
theorem wd6_34 : Cond.code yX6_bestBell cX6_bestBell 3 (some .int) ∈ GB := gb_6 34 rfl rfl
theorem yd_X6_bestBell : yX6_bestBell.cls ≠ "java/lang/invoke/MethodHandle" ∧ yX6_bestBell.cls ≠ "java/lang/invoke/VarHandle" ∧ (parseMethodDescriptor yX6_bestBell.desc).map (fun d => d.parameters.length) = some 0 := by decide +kernel
theorem wd3_90 : Cond.methodLink RL 170 yX5_bestHearer ∈ GB := gb_3 90 rfl rfl
theorem wd3_91 : Cond.instanceMethod yX5_bestHearer ∈ GB := gb_3 91 rfl rfl
theorem wd3_92 : Cond.selects RX5 yX5_bestHearer yX5_bestHearer ∈ GB := gb_3 92 rfl rfl
theorem wd3_93 : Cond.code yX5_bestHearer cX5_bestHearer 3 (some .int) ∈ GB := gb_3 93 rfl rfl
theorem yd_X5_bestHearer : yX5_bestHearer.cls ≠ "java/lang/invoke/MethodHandle" ∧ yX5_bestHearer.cls ≠ "java/lang/invoke/VarHandle" ∧ (parseMethodDescriptor yX5_bestHearer.desc).map (fun d => d.parameters.length) = some 0 := by decide +kernel
theorem wd6_39 : Cond.methodLink RL 173 yX6_bestHearer ∈ GB := gb_6 39 rfl rfl
theorem wd6_40 : Cond.instanceMethod yX6_bestHearer ∈ GB := gb_6 40 rfl rfl
theorem wd6_41 : Cond.selects RX6 yX6_bestHearer yX6_bestHearer ∈ GB := gb_6 41 rfl rfl
theorem wd6_42 : Cond.code yX6_bestHearer cX6_bestHearer 3 (some .int) ∈ GB := gb_6 42 rfl rfl
theorem yd_X6_bestHearer : yX6_bestHearer.cls ≠ "java/lang/invoke/MethodHandle" ∧ yX6_bestHearer.cls ≠ "java/lang/invoke/VarHandle" ∧ (parseMethodDescriptor yX6_bestHearer.desc).map (fun d => d.parameters.length) = some 0 := by decide +kernel
theorem wd4_133 : Cond.methodLink RL 174 yL_want ∈ GB := gb_4 133 rfl rfl
theorem wd4_135 : Cond.codeWith yL_want cL_want 5 (some .int) [(0, 10, 13, 28)] ∈ GB := gb_4 135 rfl rfl
theorem wd4_134 : Cond.static yL_want ∈ GB := gb_4 134 rfl rfl
theorem yd_L_want : yL_want.cls ≠ "java/lang/invoke/MethodHandle" ∧ yL_want.cls ≠ "java/lang/invoke/VarHandle" ∧ (parseMethodDescriptor yL_want.desc).map (fun d => d.parameters.length) = some 4 := by decide +kernel
theorem wd6_47 : Cond.methodLink RL 176 yX6_want ∈ GB := gb_6 47 rfl rfl
theorem wd6_48 : Cond.instanceMethod yX6_want ∈ GB := gb_6 48 rfl rfl
theorem wd6_49 : Cond.selects RX6 yX6_want yX6_want ∈ GB := gb_6 49 rfl rfl
theorem wd6_50 : Cond.code yX6_want cX6_want 3 (some .int) ∈ GB := gb_6 50 rfl rfl
theorem yd_X6_want : yX6_want.cls ≠ "java/lang/invoke/MethodHandle" ∧ yX6_want.cls ≠ "java/lang/invoke/VarHandle" ∧ (parseMethodDescriptor yX6_want.desc).map (fun d => d.parameters.length) = some 2 := by decide +kernel
theorem wd4_145 : Cond.methodLink RL 177 yL_tell ∈ GB := gb_4 145 rfl rfl
theorem wd4_147 : Cond.codeWith yL_tell cL_tell 7 (some .int) [(0, 14, 17, 28), (0, 14, 21, 19)] ∈ GB := gb_4 147 rfl rfl
theorem wd4_146 : Cond.static yL_tell ∈ GB := gb_4 146 rfl rfl
theorem yd_L_tell : yL_tell.cls ≠ "java/lang/invoke/MethodHandle" ∧ yL_tell.cls ≠ "java/lang/invoke/VarHandle" ∧ (parseMethodDescriptor yL_tell.desc).map (fun d => d.parameters.length) = some 6 := by decide +kernel
theorem wd6_55 : Cond.methodLink RL 180 yX6_tell ∈ GB := gb_6 55 rfl rfl
theorem wd6_56 : Cond.instanceMethod yX6_tell ∈ GB := gb_6 56 rfl rfl
theorem wd6_57 : Cond.selects RX6 yX6_tell yX6_tell ∈ GB := gb_6 57 rfl rfl
theorem wd6_58 : Cond.code yX6_tell cX6_tell 6 (some .int) ∈ GB := gb_6 58 rfl rfl
theorem yd_X6_tell : yX6_tell.cls ≠ "java/lang/invoke/MethodHandle" ∧ yX6_tell.cls ≠ "java/lang/invoke/VarHandle" ∧ (parseMethodDescriptor yX6_tell.desc).map (fun d => d.parameters.length) = some 4 := by decide +kernel
theorem wd4_153 : Cond.methodLink RL 181 yL_give ∈ GB := gb_4 153 rfl rfl
theorem wd4_155 : Cond.codeWith yL_give cL_give 6 (some .int) [(0, 12, 15, 28), (0, 12, 19, 19)] ∈ GB := gb_4 155 rfl rfl
theorem wd4_154 : Cond.static yL_give ∈ GB := gb_4 154 rfl rfl
theorem yd_L_give : yL_give.cls ≠ "java/lang/invoke/MethodHandle" ∧ yL_give.cls ≠ "java/lang/invoke/VarHandle" ∧ (parseMethodDescriptor yL_give.desc).map (fun d => d.parameters.length) = some 5 := by decide +kernel
theorem wd6_71 : Cond.methodLink RL 183 yX6_give ∈ GB := gb_6 71 rfl rfl
theorem wd6_72 : Cond.instanceMethod yX6_give ∈ GB := gb_6 72 rfl rfl
theorem wd6_73 : Cond.selects RX6 yX6_give yX6_give ∈ GB := gb_6 73 rfl rfl
theorem wd6_74 : Cond.code yX6_give cX6_give 5 (some .int) ∈ GB := gb_6 74 rfl rfl
theorem yd_X6_give : yX6_give.cls ≠ "java/lang/invoke/MethodHandle" ∧ yX6_give.cls ≠ "java/lang/invoke/VarHandle" ∧ (parseMethodDescriptor yX6_give.desc).map (fun d => d.parameters.length) = some 3 := by decide +kernel
theorem wd4_162 : Cond.methodLink RL 184 yL_pass ∈ GB := gb_4 162 rfl rfl
theorem wd4_164 : Cond.codeWith yL_pass cL_pass 4 (some .int) [(0, 9, 12, 19)] ∈ GB := gb_4 164 rfl rfl
theorem wd4_163 : Cond.static yL_pass ∈ GB := gb_4 163 rfl rfl
theorem yd_L_pass : yL_pass.cls ≠ "java/lang/invoke/MethodHandle" ∧ yL_pass.cls ≠ "java/lang/invoke/VarHandle" ∧ (parseMethodDescriptor yL_pass.desc).map (fun d => d.parameters.length) = some 3 := by decide +kernel
theorem wd6_83 : Cond.methodLink RL 186 yX6_pass ∈ GB := gb_6 83 rfl rfl
theorem wd6_84 : Cond.instanceMethod yX6_pass ∈ GB := gb_6 84 rfl rfl
theorem wd6_85 : Cond.selects RX6 yX6_pass yX6_pass ∈ GB := gb_6 85 rfl rfl
theorem wd6_86 : Cond.code yX6_pass cX6_pass 3 (some .int) ∈ GB := gb_6 86 rfl rfl
theorem yd_X6_pass : yX6_pass.cls ≠ "java/lang/invoke/MethodHandle" ∧ yX6_pass.cls ≠ "java/lang/invoke/VarHandle" ∧ (parseMethodDescriptor yX6_pass.desc).map (fun d => d.parameters.length) = some 1 := by decide +kernel
theorem wd4_171 : Cond.methodLink RL 187 yL_setBell ∈ GB := gb_4 171 rfl rfl
theorem wd4_173 : Cond.codeWith yL_setBell cL_setBell 5 (some .int) [(0, 10, 13, 28), (0, 10, 17, 19)] ∈ GB := gb_4 173 rfl rfl
theorem wd4_172 : Cond.static yL_setBell ∈ GB := gb_4 172 rfl rfl
theorem yd_L_setBell : yL_setBell.cls ≠ "java/lang/invoke/MethodHandle" ∧ yL_setBell.cls ≠ "java/lang/invoke/VarHandle" ∧ (parseMethodDescriptor yL_setBell.desc).map (fun d => d.parameters.length) = some 4 := by decide +kernel
theorem wd6_99 : Cond.methodLink RL 189 yX6_setBell ∈ GB := gb_6 99 rfl rfl
theorem wd6_100 : Cond.instanceMethod yX6_setBell ∈ GB := gb_6 100 rfl rfl
theorem wd6_101 : Cond.selects RX6 yX6_setBell yX6_setBell ∈ GB := gb_6 101 rfl rfl
theorem wd6_102 : Cond.code yX6_setBell cX6_setBell 4 (some .int) ∈ GB := gb_6 102 rfl rfl
theorem yd_X6_setBell : yX6_setBell.cls ≠ "java/lang/invoke/MethodHandle" ∧ yX6_setBell.cls ≠ "java/lang/invoke/VarHandle" ∧ (parseMethodDescriptor yX6_setBell.desc).map (fun d => d.parameters.length) = some 2 := by decide +kernel
theorem wd4_178 : Cond.methodLink RL 190 yL_set ∈ GB := gb_4 178 rfl rfl
theorem wd4_180 : Cond.codeWith yL_set cL_set 5 (some .int) [(0, 10, 13, 19)] ∈ GB := gb_4 180 rfl rfl
theorem wd4_179 : Cond.static yL_set ∈ GB := gb_4 179 rfl rfl
theorem yd_L_set : yL_set.cls ≠ "java/lang/invoke/MethodHandle" ∧ yL_set.cls ≠ "java/lang/invoke/VarHandle" ∧ (parseMethodDescriptor yL_set.desc).map (fun d => d.parameters.length) = some 4 := by decide +kernel
theorem wd6_103 : Cond.methodLink RL 192 yX6_set ∈ GB := gb_6 103 rfl rfl
theorem wd6_104 : Cond.instanceMethod yX6_set ∈ GB := gb_6 104 rfl rfl
theorem wd6_105 : Cond.selects RX6 yX6_set yX6_set ∈ GB := gb_6 105 rfl rfl
theorem wd6_106 : Cond.code yX6_set cX6_set 4 (some .int) ∈ GB := gb_6 106 rfl rfl
theorem yd_X6_set : yX6_set.cls ≠ "java/lang/invoke/MethodHandle" ∧ yX6_set.cls ≠ "java/lang/invoke/VarHandle" ∧ (parseMethodDescriptor yX6_set.desc).map (fun d => d.parameters.length) = some 2 := by decide +kernel
theorem wd4_185 : Cond.methodLink RL 193 yL_undo ∈ GB := gb_4 185 rfl rfl
theorem wd4_187 : Cond.codeWith yL_undo cL_undo 3 (some .int) [(0, 8, 11, 13)] ∈ GB := gb_4 187 rfl rfl
theorem wd4_186 : Cond.static yL_undo ∈ GB := gb_4 186 rfl rfl
theorem yd_L_undo : yL_undo.cls ≠ "java/lang/invoke/MethodHandle" ∧ yL_undo.cls ≠ "java/lang/invoke/VarHandle" ∧ (parseMethodDescriptor yL_undo.desc).map (fun d => d.parameters.length) = some 2 := by decide +kernel
theorem wd5_81 : Cond.methodLink RL 196 yX6_undo ∈ GB := gb_5 81 rfl rfl
theorem wd5_82 : Cond.instanceMethod yX6_undo ∈ GB := gb_5 82 rfl rfl
theorem wd5_83 : Cond.selects RX6 yX6_undo yX6_undo ∈ GB := gb_5 83 rfl rfl
theorem wd5_84 : Cond.code yX6_undo cX6_undo 1 (some .int) ∈ GB := gb_5 84 rfl rfl
theorem yd_X6_undo : yX6_undo.cls ≠ "java/lang/invoke/MethodHandle" ∧ yX6_undo.cls ≠ "java/lang/invoke/VarHandle" ∧ (parseMethodDescriptor yX6_undo.desc).map (fun d => d.parameters.length) = some 0 := by decide +kernel
theorem wd4_197 : Cond.methodLink RL 197 yL_save ∈ GB := gb_4 197 rfl rfl
theorem wd4_199 : Cond.codeWith yL_save cL_save 3 (some .int) [(0, 5, 8, 28)] ∈ GB := gb_4 199 rfl rfl
theorem wd4_198 : Cond.static yL_save ∈ GB := gb_4 198 rfl rfl
theorem yd_L_save : yL_save.cls ≠ "java/lang/invoke/MethodHandle" ∧ yL_save.cls ≠ "java/lang/invoke/VarHandle" ∧ (parseMethodDescriptor yL_save.desc).map (fun d => d.parameters.length) = some 2 := by decide +kernel
theorem wd5_88 : Cond.methodLink RL 200 yX6_save ∈ GB := gb_5 88 rfl rfl
theorem wd5_89 : Cond.instanceMethod yX6_save ∈ GB := gb_5 89 rfl rfl
theorem wd5_90 : Cond.selects RX6 yX6_save yX6_save ∈ GB := gb_5 90 rfl rfl
theorem wd5_91 : Cond.code yX6_save cX6_save 2 none ∈ GB := gb_5 91 rfl rfl
theorem yd_X6_save : yX6_save.cls ≠ "java/lang/invoke/MethodHandle" ∧ yX6_save.cls ≠ "java/lang/invoke/VarHandle" ∧ (parseMethodDescriptor yX6_save.desc).map (fun d => d.parameters.length) = some 1 := by decide +kernel
theorem wd4_208 : Cond.methodLink RL 201 yL_restore ∈ GB := gb_4 208 rfl rfl
theorem wd4_210 : Cond.codeWith yL_restore cL_restore 4 (some .int) [(0, 9, 12, 28), (0, 9, 15, 13)] ∈ GB := gb_4 210 rfl rfl
theorem wd4_209 : Cond.static yL_restore ∈ GB := gb_4 209 rfl rfl
theorem yd_L_restore : yL_restore.cls ≠ "java/lang/invoke/MethodHandle" ∧ yL_restore.cls ≠ "java/lang/invoke/VarHandle" ∧ (parseMethodDescriptor yL_restore.desc).map (fun d => d.parameters.length) = some 3 := by decide +kernel
theorem wd5_95 : Cond.methodLink RL 203 yX6_restore ∈ GB := gb_5 95 rfl rfl
theorem wd5_96 : Cond.instanceMethod yX6_restore ∈ GB := gb_5 96 rfl rfl
theorem wd5_97 : Cond.selects RX6 yX6_restore yX6_restore ∈ GB := gb_5 97 rfl rfl
theorem wd5_98 : Cond.code yX6_restore cX6_restore 2 (some .int) ∈ GB := gb_5 98 rfl rfl
theorem yd_X6_restore : yX6_restore.cls ≠ "java/lang/invoke/MethodHandle" ∧ yX6_restore.cls ≠ "java/lang/invoke/VarHandle" ∧ (parseMethodDescriptor yX6_restore.desc).map (fun d => d.parameters.length) = some 1 := by decide +kernel
theorem wd4_216 : Cond.methodLink RL 204 yL_writeMonk ∈ GB := gb_4 216 rfl rfl
theorem wd4_218 : Cond.codeWith yL_writeMonk cL_writeMonk 4 (some .int) [(0, 9, 12, 28)] ∈ GB := gb_4 218 rfl rfl
theorem wd4_217 : Cond.static yL_writeMonk ∈ GB := gb_4 217 rfl rfl
theorem yd_L_writeMonk : yL_writeMonk.cls ≠ "java/lang/invoke/MethodHandle" ∧ yL_writeMonk.cls ≠ "java/lang/invoke/VarHandle" ∧ (parseMethodDescriptor yL_writeMonk.desc).map (fun d => d.parameters.length) = some 3 := by decide +kernel
theorem wd6_107 : Cond.methodLink RL 206 yX6_writeMonk ∈ GB := gb_6 107 rfl rfl
theorem wd6_108 : Cond.instanceMethod yX6_writeMonk ∈ GB := gb_6 108 rfl rfl
theorem wd6_109 : Cond.selects RX6 yX6_writeMonk yX6_writeMonk ∈ GB := gb_6 109 rfl rfl
theorem wd6_110 : Cond.code yX6_writeMonk cX6_writeMonk 2 (some .int) ∈ GB := gb_6 110 rfl rfl
theorem yd_X6_writeMonk : yX6_writeMonk.cls ≠ "java/lang/invoke/MethodHandle" ∧ yX6_writeMonk.cls ≠ "java/lang/invoke/VarHandle" ∧ (parseMethodDescriptor yX6_writeMonk.desc).map (fun d => d.parameters.length) = some 1 := by decide +kernel
theorem wd3_98 : Cond.methodLink RL 207 yX5_writeDay ∈ GB := gb_3 98 rfl rfl
theorem wd3_99 : Cond.instanceMethod yX5_writeDay ∈ GB := gb_3 99 rfl rfl
theorem wd3_100 : Cond.selects RX5 yX5_writeDay yX5_writeDay ∈ GB := gb_3 100 rfl rfl
theorem wd3_101 : Cond.code yX5_writeDay cX5_writeDay 2 (some .int) ∈ GB := gb_3 101 rfl rfl
theorem yd_X5_writeDay : yX5_writeDay.cls ≠ "java/lang/invoke/MethodHandle" ∧ yX5_writeDay.cls ≠ "java/lang/invoke/VarHandle" ∧ (parseMethodDescriptor yX5_writeDay.desc).map (fun d => d.parameters.length) = some 0 := by decide +kernel
theorem wd6_123 : Cond.methodLink RL 210 yX6_writeDay ∈ GB := gb_6 123 rfl rfl
theorem wd6_124 : Cond.instanceMethod yX6_writeDay ∈ GB := gb_6 124 rfl rfl
theorem wd6_125 : Cond.selects RX6 yX6_writeDay yX6_writeDay ∈ GB := gb_6 125 rfl rfl
theorem wd6_126 : Cond.code yX6_writeDay cX6_writeDay 2 (some .int) ∈ GB := gb_6 126 rfl rfl
theorem yd_X6_writeDay : yX6_writeDay.cls ≠ "java/lang/invoke/MethodHandle" ∧ yX6_writeDay.cls ≠ "java/lang/invoke/VarHandle" ∧ (parseMethodDescriptor yX6_writeDay.desc).map (fun d => d.parameters.length) = some 0 := by decide +kernel
theorem wd4_234 : Cond.methodLink RL 211 yL_writtenByte ∈ GB := gb_4 234 rfl rfl
theorem wd4_236 : Cond.codeWith yL_writtenByte cL_writtenByte 4 (some .int) [(0, 9, 12, 28)] ∈ GB := gb_4 236 rfl rfl
theorem wd4_235 : Cond.static yL_writtenByte ∈ GB := gb_4 235 rfl rfl
theorem yd_L_writtenByte : yL_writtenByte.cls ≠ "java/lang/invoke/MethodHandle" ∧ yL_writtenByte.cls ≠ "java/lang/invoke/VarHandle" ∧ (parseMethodDescriptor yL_writtenByte.desc).map (fun d => d.parameters.length) = some 3 := by decide +kernel
theorem wd6_127 : Cond.methodLink RL 213 yX6_writtenByte ∈ GB := gb_6 127 rfl rfl
theorem wd6_128 : Cond.instanceMethod yX6_writtenByte ∈ GB := gb_6 128 rfl rfl
theorem wd6_129 : Cond.selects RX6 yX6_writtenByte yX6_writtenByte ∈ GB := gb_6 129 rfl rfl
theorem wd6_130 : Cond.code yX6_writtenByte cX6_writtenByte 2 (some .int) ∈ GB := gb_6 130 rfl rfl
theorem yd_X6_writtenByte : yX6_writtenByte.cls ≠ "java/lang/invoke/MethodHandle" ∧ yX6_writtenByte.cls ≠ "java/lang/invoke/VarHandle" ∧ (parseMethodDescriptor yX6_writtenByte.desc).map (fun d => d.parameters.length) = some 1 := by decide +kernel
def bndD {α β : Type} (o : Option (α × Mem)) (k : α → Mem → Option β) : Option β := match o with
  | none => none
  | some a => k a.1 a.2
theorem st_bndD {α β : Type} {o : Option (α × Mem)} {k : α → Mem → Option β} {z : β} (h : bndD o k = some z) : ∃ r M, o = some (r, M) ∧ k r M = some z := by
  cases o with
  | none => cases h
  | some a => exact ⟨a.1, a.2, rfl, h⟩
noncomputable def f_L_law_23 (xs : Nat → Int32) (L : Nat) (rec23 : Int32 → Mem → Option Unit) : Int32 → Mem → Option Unit := fun a4 M => (if ((nI L) - 6) < a4 then (some ()) else (chk (inB a4 L) (letV ((xs (ix a4)) &&& 31) (fun y2 => (if y2 = 0 then (chk (inB (a4 + 1) L) (chk (inB (a4 + 2) L) (chk (inB (a4 + 3) L) (chk (inB (a4 + 4) L) (chk (inB (a4 + 5) L) (bnd2 (f_L_append (xs (ix (a4 + 1))) (xs (ix (a4 + 2))) (xs (ix (a4 + 3))) (xs (ix (a4 + 4))) (xs (ix (a4 + 5))) M) (fun r8 M9 => (chk (inB (a4 + 1) L) (chk (inB (a4 + 2) L) (chk (inB (a4 + 3) L) (chk (inB (a4 + 4) L) (chk (inB (a4 + 5) L) (bnd2 (f_X6_append (xs (ix (a4 + 1))) (xs (ix (a4 + 2))) (xs (ix (a4 + 3))) (xs (ix (a4 + 4))) (xs (ix (a4 + 5))) M9) (fun r15 M16 => (bnd (f_X6_thrown M16) (fun r17 => (if r17 = r8 then (if r8 = 0 then (if (lcm2 (M16 17 0) r15) = 0 then (rec23 (a4 + 6) M16) else none) else (rec23 (a4 + 6) M16)) else none))))))))))))))))) else (if y2 = 1 then (bnd2 (f_X5_load M) (fun r18 M19 => (bnd2 (f_X6_load M19) (fun r20 M21 => (if r18 = r20 then (rec23 (a4 + 6) M21) else none))))) else (if y2 = 2 then (bnd (f_X5_errorPosition M) (fun r22 => (bnd2 (f_X6_errorPosition M) (fun r23 M24 => (if r22 = r23 then (rec23 (a4 + 6) M24) else none))))) else (if y2 = 3 then (chk (inB (a4 + 1) L) (bnd2 (f_L_count (xs (ix (a4 + 1))) M) (fun r26 M27 => (chk (inB (a4 + 1) L) (bnd2 (f_X6_count (xs (ix (a4 + 1))) M27) (fun r29 M30 => (bnd (f_X6_thrown M30) (fun r31 => (if r31 = r26 then (if r26 = 0 then (if (lcm2 (M30 17 0) r29) = 0 then (rec23 (a4 + 6) M30) else none) else (rec23 (a4 + 6) M30)) else none))))))))) else (if y2 = 4 then (chk (inB (a4 + 1) L) (bnd2 (f_L_account (xs (ix (a4 + 1))) M) (fun r33 M34 => (chk (inB (a4 + 1) L) (bnd2 (f_X6_account (xs (ix (a4 + 1))) M34) (fun r36 M37 => (bnd (f_X6_thrown M37) (fun r38 => (if r38 = r33 then (if r33 = 0 then (if (lcm2 (M37 17 0) r36) = 0 then (rec23 (a4 + 6) M37) else none) else (rec23 (a4 + 6) M37)) else none))))))))) else (if y2 = 5 then (chk (inB (a4 + 1) L) (chk (inB (a4 + 2) L) (bnd2 (f_L_monk (xs (ix (a4 + 1))) (xs (ix (a4 + 2))) M) (fun r41 M42 => (chk (inB (a4 + 1) L) (chk (inB (a4 + 2) L) (bnd2 (f_X6_monk (xs (ix (a4 + 1))) (xs (ix (a4 + 2))) M42) (fun r45 M46 => (bnd (f_X6_thrown M46) (fun r47 => (if r47 = r41 then (if r41 = 0 then (if (lcm2 (M46 17 0) r45) = 0 then (rec23 (a4 + 6) M46) else none) else (rec23 (a4 + 6) M46)) else none))))))))))) else (if y2 = 6 then (chk (inB (a4 + 1) L) (chk (inB (a4 + 2) L) (bnd2 (f_L_need (xs (ix (a4 + 1))) (xs (ix (a4 + 2))) M) (fun r50 M51 => (chk (inB (a4 + 1) L) (chk (inB (a4 + 2) L) (bnd2 (f_X6_need (xs (ix (a4 + 1))) (xs (ix (a4 + 2))) M51) (fun r54 M55 => (bnd (f_X6_thrown M55) (fun r56 => (if r56 = r50 then (if r50 = 0 then (if (lcm2 (M55 17 0) r54) = 0 then (rec23 (a4 + 6) M55) else none) else (rec23 (a4 + 6) M55)) else none))))))))))) else (if y2 = 7 then (chk (inB (a4 + 1) L) (chk (inB (a4 + 2) L) (chk (inB (a4 + 3) L) (if (xs (ix (a4 + 3))) = 0 then (bnd2 (f_L_has (xs (ix (a4 + 1))) (xs (ix (a4 + 2))) 0 M) (fun r60 M61 => (chk (inB (a4 + 1) L) (chk (inB (a4 + 2) L) (chk (inB (a4 + 3) L) (if (xs (ix (a4 + 3))) = 0 then (bnd2 (f_X6_has (xs (ix (a4 + 1))) (xs (ix (a4 + 2))) 0 M61) (fun r65 M66 => (bnd (f_X6_thrown M66) (fun r67 => (if r67 = r60 then (if r60 = 0 then (if r65 = 0 then (if (lcm2 (M66 17 0) 0) = 0 then (rec23 (a4 + 6) M66) else none) else (if (lcm2 (M66 17 0) 1) = 0 then (rec23 (a4 + 6) M66) else none)) else (rec23 (a4 + 6) M66)) else none))))) else (bnd2 (f_X6_has (xs (ix (a4 + 1))) (xs (ix (a4 + 2))) 1 M61) (fun r68 M69 => (bnd (f_X6_thrown M69) (fun r70 => (if r70 = r60 then (if r60 = 0 then (if r68 = 0 then (if (lcm2 (M69 17 0) 0) = 0 then (rec23 (a4 + 6) M69) else none) else (if (lcm2 (M69 17 0) 1) = 0 then (rec23 (a4 + 6) M69) else none)) else (rec23 (a4 + 6) M69)) else none))))))))))) else (bnd2 (f_L_has (xs (ix (a4 + 1))) (xs (ix (a4 + 2))) 1 M) (fun r71 M72 => (chk (inB (a4 + 1) L) (chk (inB (a4 + 2) L) (chk (inB (a4 + 3) L) (if (xs (ix (a4 + 3))) = 0 then (bnd2 (f_X6_has (xs (ix (a4 + 1))) (xs (ix (a4 + 2))) 0 M72) (fun r76 M77 => (bnd (f_X6_thrown M77) (fun r78 => (if r78 = r71 then (if r71 = 0 then (if r76 = 0 then (if (lcm2 (M77 17 0) 0) = 0 then (rec23 (a4 + 6) M77) else none) else (if (lcm2 (M77 17 0) 1) = 0 then (rec23 (a4 + 6) M77) else none)) else (rec23 (a4 + 6) M77)) else none))))) else (bnd2 (f_X6_has (xs (ix (a4 + 1))) (xs (ix (a4 + 2))) 1 M72) (fun r79 M80 => (bnd (f_X6_thrown M80) (fun r81 => (if r81 = r71 then (if r71 = 0 then (if r79 = 0 then (if (lcm2 (M80 17 0) 0) = 0 then (rec23 (a4 + 6) M80) else none) else (if (lcm2 (M80 17 0) 1) = 0 then (rec23 (a4 + 6) M80) else none)) else (rec23 (a4 + 6) M80)) else none))))))))))))))) else (if y2 = 8 then (chk (inB (a4 + 1) L) (bnd2 (f_L_bell (xs (ix (a4 + 1))) M) (fun r83 M84 => (chk (inB (a4 + 1) L) (bnd2 (f_X6_bell (xs (ix (a4 + 1))) M84) (fun r86 M87 => (bnd (f_X6_thrown M87) (fun r88 => (if r88 = r83 then (if r83 = 0 then (if (lcm2 (M87 17 0) r86) = 0 then (rec23 (a4 + 6) M87) else none) else (rec23 (a4 + 6) M87)) else none))))))))) else (if y2 = 9 then (chk (inB (a4 + 1) L) (chk (inB (a4 + 2) L) (chk (inB (a4 + 3) L) (chk (inB (a4 + 4) L) (chk (inB (a4 + 5) L) (bnd2 (f_L_why (xs (ix (a4 + 1))) (xs (ix (a4 + 2))) (xs (ix (a4 + 3))) (xs (ix (a4 + 4))) (xs (ix (a4 + 5))) M) (fun r94 M95 => (chk (inB (a4 + 1) L) (chk (inB (a4 + 2) L) (chk (inB (a4 + 3) L) (chk (inB (a4 + 4) L) (chk (inB (a4 + 5) L) (bnd2 (f_X6_why (xs (ix (a4 + 1))) (xs (ix (a4 + 2))) (xs (ix (a4 + 3))) (xs (ix (a4 + 4))) (xs (ix (a4 + 5))) M95) (fun r101 M102 => (bnd (f_X6_thrown M102) (fun r103 => (if r103 = r94 then (if r94 = 0 then (if (lcm2 (M102 17 0) r101) = 0 then (rec23 (a4 + 6) M102) else none) else (rec23 (a4 + 6) M102)) else none))))))))))))))))) else (if y2 = 10 then (bnd (f_X5_gap M) (fun r104 => (bnd2 (f_X6_gap M) (fun r105 M106 => (if r104 = r105 then (rec23 (a4 + 6) M106) else none))))) else (if y2 = 11 then (bnd (f_X5_meanFast M) (fun zr107 => (bndD (f_X6_meanFast M) (fun zr109 M110 => (if zr107 = zr109 then (rec23 (a4 + 6) M110) else none))))) else (if y2 = 12 then (bnd (f_X5_breachShare M) (fun zr112 => (bndD (f_X6_breachShare M) (fun zr116 M117 => (if (FP.f2d zr112) = (FP.f2d zr116) then (rec23 (a4 + 6) M117) else none))))) else (if y2 = 13 then (chk (inB (a4 + 1) L) (bnd (f_X5_ranked (xs (ix (a4 + 1))) M) (fun r122 => (chk (inB (a4 + 1) L) (bnd2 (f_X6_ranked (xs (ix (a4 + 1))) M) (fun r124 M125 => (if r122 = r124 then (rec23 (a4 + 6) M125) else none))))))) else (if y2 = 14 then (chk (inB (a4 + 1) L) (chk (inB (a4 + 2) L) (chk (inB (a4 + 3) L) (bnd2 (f_L_bestWay (xs (ix (a4 + 1))) (xs (ix (a4 + 2))) (xs (ix (a4 + 3))) M) (fun r129 M130 => (chk (inB (a4 + 1) L) (chk (inB (a4 + 2) L) (chk (inB (a4 + 3) L) (bnd2 (f_X6_bestWay (xs (ix (a4 + 1))) (xs (ix (a4 + 2))) (xs (ix (a4 + 3))) M130) (fun r134 M135 => (bnd (f_X6_thrown M135) (fun r136 => (if r136 = r129 then (if r129 = 0 then (if (lcm2 (M135 17 0) r134) = 0 then (rec23 (a4 + 6) M135) else none) else (rec23 (a4 + 6) M135)) else none))))))))))))) else (if y2 = 15 then (bnd (f_X5_speechIn M) (fun r137 => (bnd2 (f_X6_speechIn M) (fun r138 M139 => (if r137 = r138 then (rec23 (a4 + 6) M139) else none))))) else (if y2 = 16 then (chk (inB (a4 + 1) L) (bnd2 (f_L_fastIn (xs (ix (a4 + 1))) M) (fun r141 M142 => (chk (inB (a4 + 1) L) (bnd2 (f_X6_fastIn (xs (ix (a4 + 1))) M142) (fun r144 M145 => (bnd (f_X6_thrown M145) (fun r146 => (if r146 = r141 then (if r141 = 0 then (if (lcm2 (M145 17 0) r144) = 0 then (rec23 (a4 + 6) M145) else none) else (rec23 (a4 + 6) M145)) else none))))))))) else (if y2 = 17 then (chk (inB (a4 + 1) L) (bnd2 (f_L_freeIn (xs (ix (a4 + 1))) M) (fun r148 M149 => (chk (inB (a4 + 1) L) (bnd2 (f_X6_freeIn (xs (ix (a4 + 1))) M149) (fun r151 M152 => (bnd (f_X6_thrown M152) (fun r153 => (if r153 = r148 then (if r148 = 0 then (if (lcm2 (M152 17 0) r151) = 0 then (rec23 (a4 + 6) M152) else none) else (rec23 (a4 + 6) M152)) else none))))))))) else (if y2 = 18 then (bnd (f_X5_bestBell M) (fun r154 => (bnd2 (f_X6_bestBell M) (fun r155 M156 => (if r154 = r155 then (rec23 (a4 + 6) M156) else none))))) else (if y2 = 19 then (bnd (f_X5_bestHearer M) (fun r157 => (bnd2 (f_X6_bestHearer M) (fun r158 M159 => (if r157 = r158 then (rec23 (a4 + 6) M159) else none))))) else (if y2 = 20 then (chk (inB (a4 + 1) L) (chk (inB (a4 + 2) L) (bnd2 (f_L_want (xs (ix (a4 + 1))) (xs (ix (a4 + 2))) M) (fun r162 M163 => (chk (inB (a4 + 1) L) (chk (inB (a4 + 2) L) (bnd2 (f_X6_want (xs (ix (a4 + 1))) (xs (ix (a4 + 2))) M163) (fun r166 M167 => (bnd (f_X6_thrown M167) (fun r168 => (if r168 = r162 then (if r162 = 0 then (if (lcm2 (M167 17 0) r166) = 0 then (rec23 (a4 + 6) M167) else none) else (rec23 (a4 + 6) M167)) else none))))))))))) else (if y2 = 21 then (chk (inB (a4 + 1) L) (chk (inB (a4 + 2) L) (chk (inB (a4 + 3) L) (chk (inB (a4 + 4) L) (bnd2 (f_L_tell (xs (ix (a4 + 1))) (xs (ix (a4 + 2))) (xs (ix (a4 + 3))) (xs (ix (a4 + 4))) M) (fun r173 M174 => (chk (inB (a4 + 1) L) (chk (inB (a4 + 2) L) (chk (inB (a4 + 3) L) (chk (inB (a4 + 4) L) (bnd2 (f_X6_tell (xs (ix (a4 + 1))) (xs (ix (a4 + 2))) (xs (ix (a4 + 3))) (xs (ix (a4 + 4))) M174) (fun r179 M180 => (bnd (f_X6_thrown M180) (fun r181 => (if r181 = r173 then (if r173 = 0 then (if (lcm2 (M180 17 0) r179) = 0 then (rec23 (a4 + 6) M180) else none) else (rec23 (a4 + 6) M180)) else none))))))))))))))) else (if y2 = 22 then (chk (inB (a4 + 1) L) (chk (inB (a4 + 2) L) (chk (inB (a4 + 3) L) (bnd2 (f_L_give (xs (ix (a4 + 1))) (xs (ix (a4 + 2))) (xs (ix (a4 + 3))) M) (fun r185 M186 => (chk (inB (a4 + 1) L) (chk (inB (a4 + 2) L) (chk (inB (a4 + 3) L) (bnd2 (f_X6_give (xs (ix (a4 + 1))) (xs (ix (a4 + 2))) (xs (ix (a4 + 3))) M186) (fun r190 M191 => (bnd (f_X6_thrown M191) (fun r192 => (if r192 = r185 then (if r185 = 0 then (if (lcm2 (M191 17 0) r190) = 0 then (rec23 (a4 + 6) M191) else none) else (rec23 (a4 + 6) M191)) else none))))))))))))) else (if y2 = 23 then (chk (inB (a4 + 1) L) (bnd2 (f_L_pass (xs (ix (a4 + 1))) M) (fun r194 M195 => (chk (inB (a4 + 1) L) (bnd2 (f_X6_pass (xs (ix (a4 + 1))) M195) (fun r197 M198 => (bnd (f_X6_thrown M198) (fun r199 => (if r199 = r194 then (if r194 = 0 then (if (lcm2 (M198 17 0) r197) = 0 then (rec23 (a4 + 6) M198) else none) else (rec23 (a4 + 6) M198)) else none))))))))) else (if y2 = 24 then (chk (inB (a4 + 1) L) (chk (inB (a4 + 2) L) (bnd2 (f_L_setBell (xs (ix (a4 + 1))) (xs (ix (a4 + 2))) M) (fun r202 M203 => (chk (inB (a4 + 1) L) (chk (inB (a4 + 2) L) (bnd2 (f_X6_setBell (xs (ix (a4 + 1))) (xs (ix (a4 + 2))) M203) (fun r206 M207 => (bnd (f_X6_thrown M207) (fun r208 => (if r208 = r202 then (if r202 = 0 then (if (lcm2 (M207 17 0) r206) = 0 then (rec23 (a4 + 6) M207) else none) else (rec23 (a4 + 6) M207)) else none))))))))))) else (if y2 = 25 then (chk (inB (a4 + 1) L) (chk (inB (a4 + 2) L) (bnd2 (f_L_set (xs (ix (a4 + 1))) (xs (ix (a4 + 2))) M) (fun r211 M212 => (chk (inB (a4 + 1) L) (chk (inB (a4 + 2) L) (bnd2 (f_X6_set (xs (ix (a4 + 1))) (xs (ix (a4 + 2))) M212) (fun r215 M216 => (bnd (f_X6_thrown M216) (fun r217 => (if r217 = r211 then (if r211 = 0 then (if (lcm2 (M216 17 0) r215) = 0 then (rec23 (a4 + 6) M216) else none) else (rec23 (a4 + 6) M216)) else none))))))))))) else (if y2 = 26 then (bnd2 (f_L_undo M) (fun r218 M219 => (bnd2 (f_X6_undo M219) (fun r220 M221 => (bnd (f_X6_thrown M221) (fun r222 => (if r222 = r218 then (if r218 = 0 then (if (lcm2 (M221 17 0) r220) = 0 then (rec23 (a4 + 6) M221) else none) else (rec23 (a4 + 6) M221)) else none))))))) else (if y2 = 27 then (chk (inB (a4 + 1) L) (bnd2 (f_L_save (xs (ix (a4 + 1))) M) (fun r224 M225 => (chk (inB (a4 + 1) L) (bnd (f_X6_save (xs (ix (a4 + 1))) M225) (fun M228 => (bnd (f_X6_thrown M228) (fun r229 => (if r229 = r224 then (rec23 (a4 + 6) M228) else none))))))))) else (if y2 = 28 then (chk (inB (a4 + 1) L) (bnd2 (f_L_restore (xs (ix (a4 + 1))) M) (fun r231 M232 => (chk (inB (a4 + 1) L) (bnd2 (f_X6_restore (xs (ix (a4 + 1))) M232) (fun r234 M235 => (bnd (f_X6_thrown M235) (fun r236 => (if r236 = r231 then (if r231 = 0 then (if (lcm2 (M235 17 0) r234) = 0 then (rec23 (a4 + 6) M235) else none) else (rec23 (a4 + 6) M235)) else none))))))))) else (if y2 = 29 then (chk (inB (a4 + 1) L) (bnd2 (f_L_writeMonk (xs (ix (a4 + 1))) M) (fun r238 M239 => (chk (inB (a4 + 1) L) (bnd2 (f_X6_writeMonk (xs (ix (a4 + 1))) M239) (fun r241 M242 => (bnd (f_X6_thrown M242) (fun r243 => (if r243 = r238 then (if r238 = 0 then (if (lcm2 (M242 17 0) r241) = 0 then (rec23 (a4 + 6) M242) else none) else (rec23 (a4 + 6) M242)) else none))))))))) else (if y2 = 30 then (bnd2 (f_X5_writeDay M) (fun r244 M245 => (bnd2 (f_X6_writeDay M245) (fun r246 M247 => (if r244 = r246 then (rec23 (a4 + 6) M247) else none))))) else (if y2 = 31 then (chk (inB (a4 + 1) L) (bnd2 (f_L_writtenByte (xs (ix (a4 + 1))) M) (fun r249 M250 => (chk (inB (a4 + 1) L) (bnd2 (f_X6_writtenByte (xs (ix (a4 + 1))) M250) (fun r252 M253 => (bnd (f_X6_thrown M253) (fun r254 => (if r254 = r249 then (if r249 = 0 then (if (lcm2 (M253 17 0) r252) = 0 then (rec23 (a4 + 6) M253) else none) else (rec23 (a4 + 6) M253)) else none))))))))) else (rec23 (a4 + 6) M)))))))))))))))))))))))))))))))))))))
noncomputable def f_L_law (xs : Nat → Int32) (L : Nat) (n : Nat) : Int32 → Mem → Option Unit := lp (fun _ _ => none) (f_L_law_23 xs L) n
set_option maxHeartbeats 16000000 in
set_option maxRecDepth 100000 in
theorem law_loop {p : Program} {e : Env} {s : State} {m : MethodId} {below : List Frame} {meth : Method} {c : Code} {D : va_G} {cy : Nat → ClassId} {ad : Nat → Nat} {x : SX} {b L : Nat} {xs : Nat → Int32} (l : Launch) (hl9 : l.stackTraces = false) (fx0 : FX p s m #[Value.ref b] meth c cL_law 9 (some .boolean) RL D cy ad x) (hX : va_X b L xs s s.heap) (hbl : b < s.heap.size) (hbA : ¬ AA ad s.heap.size b) (hAA : ∀ q, AA ad s.heap.size q → s.heap.size ≤ q) :
    ∀ (n : Nat) (a4 : Int32) (M : Mem) (d0 : Drawn), s.drawn.sameBut d0 lw_cs → ∀ (cells slots : Nat), cells + 16 * n ≤ 601024 → slots + 96 * n ≤ 7293034 → ∀ (H : Heap) (locs : List Loc) (ls : Array Slot), lv_has ls 9 [(0, .ref b), (1, .ref (ad 0)), (2, .ref (ad 9)), (3, .ref (ad 17)), (4, .int a4)] → WD D cy ad s M H locs → f_L_law xs L n a4 M = some () → W p l e room_1 (s.setDrawn d0) m #[Value.ref b] below meth c H locs cells slots (lw_Z below #[Value.ref b] s) (F0 m 23 ls []) := by
  have hx := fx0.1.1
  have hb := fx0.1.2.1
  have hR : 13 ≤ room_1.frames ∧ 500 ≤ room_1.locals := ⟨Nat.le_refl _, Nat.le_refl _⟩
  intro n
  induction n with
  | zero =>
    intro a4 M d0 hd0 cells slots hc hs H locs ls hl hw hF
    exact nomatch hF
  | succ n ih =>
    intro a4 M d0 hd0 cells slots hc hs H locs ls hl hw hF
    have fx := fx0.drawn d0
    replace hF : f_L_law_23 xs L (f_L_law xs L n) a4 M = some () := hF
    unfold f_L_law_23 at hF
    refine lv_iload hx hb dL_law_23 (lv_at hl 4 rfl) ?_
    refine lv_aload_n hx hb dL_law_25 rfl (lv_at hl 0 rfl) ?_
    refine va_slen (s := s.setDrawn d0) hx hb hX hbl hbA hw.2.2 dL_law_26 ?_
    refine lv_bipush (v := 6) hx hb dL_law_27 (by decide) ?_
    refine lv_isub hx hb dL_law_29 ?_
    refine lv_icmp_gt (tgt := 1877) hx hb dL_law_30 (by decide) (fun hc30 => ?_) (fun hc30 => ?_)
    · replace hF := st_t hc30 hF
      refine lv_iconst (v := 1) hx hb dL_law_1877 (by decide) ?_
      refine va_forget (fun q hq => hAA _ (hw.2.2.2.2 q hq)) ?_
      refine W.widen (k := 601024) (n := 7293034) (by omega) (by omega) ?_
      exact lw_ret hd0 hx hb fx0.2.1 fx0.2.2.1 dL_law_1878
    · replace hF := st_f hc30 hF
      refine lv_aload_n hx hb dL_law_33 rfl (lv_at hl 0 rfl) ?_
      refine lv_iload hx hb dL_law_34 (lv_at hl 4 rfl) ?_
      obtain ⟨hi1, hF⟩ := st_chk hF
      refine va_sld (s := s.setDrawn d0) hx hb hX hbl hbA hw.2.2 (inB_in hi1) dL_law_36 ?_
      refine lv_bipush (v := 31) hx hb dL_law_37 (by decide) ?_
      refine lv_iand hx hb dL_law_39 ?_
      obtain ⟨y2, ey2, hF⟩ := st_letV hF
      refine g_top ey2 ?_
      by_cases hk40_0 : y2 = 0
      · replace hF := st_t hk40_0 hF
        subst hk40_0
        refine lv_tableIn (off := 144) (tgt := 184) hx hb dL_law_40 (by decide) (by decide) rfl (by decide) ?_
        refine lv_aload_n hx hb dL_law_184 rfl (lv_at hl 1 rfl) ?_
        refine lv_aload_n hx hb dL_law_185 rfl (lv_at hl 0 rfl) ?_
        refine lv_iload hx hb dL_law_186 (lv_at hl 4 rfl) ?_
        refine lv_iconst (v := 1) hx hb dL_law_188 (by decide) ?_
        refine lv_iadd hx hb dL_law_189 ?_
        obtain ⟨hi3, hF⟩ := st_chk hF
        refine va_sld (s := s.setDrawn d0) hx hb hX hbl hbA hw.2.2 (inB_in hi3) dL_law_190 ?_
        refine lv_aload_n hx hb dL_law_191 rfl (lv_at hl 0 rfl) ?_
        refine lv_iload hx hb dL_law_192 (lv_at hl 4 rfl) ?_
        refine lv_iconst (v := 2) hx hb dL_law_194 (by decide) ?_
        refine lv_iadd hx hb dL_law_195 ?_
        obtain ⟨hi4, hF⟩ := st_chk hF
        refine va_sld (s := s.setDrawn d0) hx hb hX hbl hbA hw.2.2 (inB_in hi4) dL_law_196 ?_
        refine lv_aload_n hx hb dL_law_197 rfl (lv_at hl 0 rfl) ?_
        refine lv_iload hx hb dL_law_198 (lv_at hl 4 rfl) ?_
        refine lv_iconst (v := 3) hx hb dL_law_200 (by decide) ?_
        refine lv_iadd hx hb dL_law_201 ?_
        obtain ⟨hi5, hF⟩ := st_chk hF
        refine va_sld (s := s.setDrawn d0) hx hb hX hbl hbA hw.2.2 (inB_in hi5) dL_law_202 ?_
        refine lv_aload_n hx hb dL_law_203 rfl (lv_at hl 0 rfl) ?_
        refine lv_iload hx hb dL_law_204 (lv_at hl 4 rfl) ?_
        refine lv_iconst (v := 4) hx hb dL_law_206 (by decide) ?_
        refine lv_iadd hx hb dL_law_207 ?_
        obtain ⟨hi6, hF⟩ := st_chk hF
        refine va_sld (s := s.setDrawn d0) hx hb hX hbl hbA hw.2.2 (inB_in hi6) dL_law_208 ?_
        refine lv_aload_n hx hb dL_law_209 rfl (lv_at hl 0 rfl) ?_
        refine lv_iload hx hb dL_law_210 (lv_at hl 4 rfl) ?_
        refine lv_iconst (v := 5) hx hb dL_law_212 (by decide) ?_
        refine lv_iadd hx hb dL_law_213 ?_
        obtain ⟨hi7, hF⟩ := st_chk hF
        refine va_sld (s := s.setDrawn d0) hx hb hX hbl hbA hw.2.2 (inB_in hi7) dL_law_214 ?_
        refine lv_aload_n hx hb dL_law_215 rfl (lv_at hl 3 rfl) ?_
        obtain ⟨r8, M9, hgr8, hF⟩ := st_bnd2 hF
        refine g_ci hw (g_runSW (As := [.ref (ad 0), .int (xs (ix (a4 + 1))), .int (xs (ix (a4 + 2))), .int (xs (ix (a4 + 3))), .int (xs (ix (a4 + 4))), .int (xs (ix (a4 + 5))), .ref (ad 17)]) (rest := []) fx hw (c_L_append l x D cy ad (xs (ix (a4 + 1))) (xs (ix (a4 + 2))) (xs (ix (a4 + 3))) (xs (ix (a4 + 4))) (xs (ix (a4 + 5))) H.size M r8 M9 hl9 hgr8) wd3_111 wd3_112 wd1_0 wd3_113 yd_L_append rfl rfl (Nat.le_of_ble_eq_true rfl) hl.1 ⟨Nat.le_trans (Nat.le_of_ble_eq_true rfl) hR.1, Nat.le_trans (Nat.le_of_ble_eq_true rfl) hR.2⟩ ⟨(by omega : _ ≤ 601024), (by omega : _ ≤ 7293034)⟩ dL_law_216) (fun H locs hw => ?_)
        refine lv_istore (lv' := [(5, .int r8), (0, .ref b), (1, .ref (ad 0)), (2, .ref (ad 9)), (3, .ref (ad 17)), (4, .int a4)]) hx hb dL_law_219 hl (by decide) rfl (fun ls hl => ?_)
        refine lv_aload_n hx hb dL_law_221 rfl (lv_at hl 3 rfl) ?_
        refine lv_aload_n hx hb dL_law_222 rfl (lv_at hl 1 rfl) ?_
        refine lv_iload hx hb dL_law_223 (lv_at hl 5 rfl) ?_
        refine lv_iconst (v := 1) hx hb dL_law_225 (by decide) ?_
        refine lv_iadd hx hb dL_law_226 ?_
        obtain ⟨hi10, hF⟩ := st_chk hF
        refine va_sld (s := s.setDrawn d0) hx hb hX hbl hbA hw.2.2 (inB_in hi10) dL_law_227 ?_
        refine lv_aload_n hx hb dL_law_228 rfl (lv_at hl 1 rfl) ?_
        refine lv_iload hx hb dL_law_229 (lv_at hl 5 rfl) ?_
        refine lv_iconst (v := 2) hx hb dL_law_231 (by decide) ?_
        refine lv_iadd hx hb dL_law_232 ?_
        obtain ⟨hi11, hF⟩ := st_chk hF
        refine va_sld (s := s.setDrawn d0) hx hb hX hbl hbA hw.2.2 (inB_in hi11) dL_law_233 ?_
        refine lv_aload_n hx hb dL_law_234 rfl (lv_at hl 1 rfl) ?_
        refine lv_iload hx hb dL_law_235 (lv_at hl 5 rfl) ?_
        refine lv_iconst (v := 3) hx hb dL_law_237 (by decide) ?_
        refine lv_iadd hx hb dL_law_238 ?_
        obtain ⟨hi12, hF⟩ := st_chk hF
        refine va_sld (s := s.setDrawn d0) hx hb hX hbl hbA hw.2.2 (inB_in hi12) dL_law_239 ?_
        refine lv_aload_n hx hb dL_law_240 rfl (lv_at hl 1 rfl) ?_
        refine lv_iload hx hb dL_law_241 (lv_at hl 5 rfl) ?_
        refine lv_iconst (v := 4) hx hb dL_law_243 (by decide) ?_
        refine lv_iadd hx hb dL_law_244 ?_
        obtain ⟨hi13, hF⟩ := st_chk hF
        refine va_sld (s := s.setDrawn d0) hx hb hX hbl hbA hw.2.2 (inB_in hi13) dL_law_245 ?_
        refine lv_aload_n hx hb dL_law_246 rfl (lv_at hl 1 rfl) ?_
        refine lv_iload hx hb dL_law_247 (lv_at hl 5 rfl) ?_
        refine lv_iconst (v := 5) hx hb dL_law_249 (by decide) ?_
        refine lv_iadd hx hb dL_law_250 ?_
        obtain ⟨hi14, hF⟩ := st_chk hF
        refine va_sld (s := s.setDrawn d0) hx hb hX hbl hbA hw.2.2 (inB_in hi14) dL_law_251 ?_
        obtain ⟨r15, M16, hgr15, hF⟩ := st_bnd2 hF
        refine g_ci hw (g_runV (C := RX6) (As := [.int (xs (ix (a4 + 1))), .int (xs (ix (a4 + 2))), .int (xs (ix (a4 + 3))), .int (xs (ix (a4 + 4))), .int (xs (ix (a4 + 5)))]) (rest := []) fx hw isO_9 rfl (c_X6_append l x D cy ad (xs (ix (a4 + 1))) (xs (ix (a4 + 2))) (xs (ix (a4 + 3))) (xs (ix (a4 + 4))) (xs (ix (a4 + 5))) H.size M9 r15 M16 hgr15) wd6_131 wd6_132 wd6_133 wd1_8 wd6_134 yd_X6_append rfl rfl (Nat.le_of_ble_eq_true rfl) hl.1 ⟨Nat.le_trans (Nat.le_of_ble_eq_true rfl) hR.1, Nat.le_trans (Nat.le_of_ble_eq_true rfl) hR.2⟩ ⟨(by omega : _ ≤ 601024), (by omega : _ ≤ 7293034)⟩ dL_law_252) (fun H locs hw => ?_)
        refine lv_istore (lv' := [(6, .int r15), (5, .int r8), (0, .ref b), (1, .ref (ad 0)), (2, .ref (ad 9)), (3, .ref (ad 17)), (4, .int a4)]) hx hb dL_law_255 hl (by decide) rfl (fun ls hl => ?_)
        refine lv_aload_n hx hb dL_law_257 rfl (lv_at hl 4 rfl) ?_
        obtain ⟨r17, hgr17, hF⟩ := st_bnd hF
        refine g_ci hw (g_runV (C := RX6) (As := []) (rest := []) fx hw isO_9 rfl (c_X6_thrown l x D cy ad H.size M16 r17 hgr17) wd5_77 wd5_78 wd5_79 wd1_8 wd5_80 yd_X6_thrown rfl rfl (Nat.le_of_ble_eq_true rfl) hl.1 ⟨Nat.le_trans (Nat.le_of_ble_eq_true rfl) hR.1, Nat.le_trans (Nat.le_of_ble_eq_true rfl) hR.2⟩ ⟨(by omega : _ ≤ 601024), (by omega : _ ≤ 7293034)⟩ dL_law_258) (fun H locs hw => ?_)
        refine lv_iload hx hb dL_law_261 (lv_at hl 1 rfl) ?_
        refine lv_icmp_eq (tgt := 268) hx hb dL_law_263 (by decide) (fun hc263 => ?_) (fun hc263 => ?_)
        · replace hF := st_t hc263 hF
          refine lv_iload hx hb dL_law_268 (lv_at hl 1 rfl) ?_
          refine lv_if_ne (tgt := 285) hx hb dL_law_270 (by decide) (fun hc270 => ?_) (fun hc270 => ?_)
          · replace hF := st_f hc270 hF
            refine lv_goto (tgt := 1871) hx hb dL_law_285 (by decide) ?_
            refine lv_iinc (v := (a4 + 6)) (lv' := [(4, .int (a4 + 6)), (6, .int r15), (5, .int r8), (0, .ref b), (1, .ref (ad 0)), (2, .ref (ad 9)), (3, .ref (ad 17))]) hx hb dL_law_1871 hl (k := 6) rfl rfl (by decide) rfl (fun ls hl => ?_)
            refine lv_goto (tgt := 23) hx hb dL_law_1874 (by decide) ?_
            refine W.widen (k := cells + 16) (n := slots + 96) (by omega) (by omega) ?_
            exact ih (a4 + 6) M16 d0 hd0 (cells + 16) (slots + 96) (by omega) (by omega) H locs ls (lv_sub hl [3, 4, 5, 6, 0] rfl) hw hF
          · replace hF := st_t hc270 hF
            refine lv_aload_n hx hb dL_law_273 rfl (lv_at hl 5 rfl) ?_
            refine lv_iconst (v := 0) hx hb dL_law_274 (by decide) ?_
            refine g_lald fx hw isL_17 (k := 0) rfl (by decide) dL_law_275 ?_
            refine lv_iload hx hb dL_law_276 (lv_at hl 0 rfl) ?_
            refine lv_i2l hx hb dL_law_278 rfl ?_
            refine g_lcmp hx hb dL_law_279 ?_
            refine lv_if_eq (tgt := 285) hx hb dL_law_280 (by decide) (fun hc280 => ?_) (fun hc280 => ?_)
            · replace hF := st_t hc280 hF
              refine lv_goto (tgt := 1871) hx hb dL_law_285 (by decide) ?_
              refine lv_iinc (v := (a4 + 6)) (lv' := [(4, .int (a4 + 6)), (6, .int r15), (5, .int r8), (0, .ref b), (1, .ref (ad 0)), (2, .ref (ad 9)), (3, .ref (ad 17))]) hx hb dL_law_1871 hl (k := 6) rfl rfl (by decide) rfl (fun ls hl => ?_)
              refine lv_goto (tgt := 23) hx hb dL_law_1874 (by decide) ?_
              refine W.widen (k := cells + 16) (n := slots + 96) (by omega) (by omega) ?_
              exact ih (a4 + 6) M16 d0 hd0 (cells + 16) (slots + 96) (by omega) (by omega) H locs ls (lv_sub hl [3, 4, 5, 6, 0] rfl) hw hF
            · replace hF := st_f hc280 hF
              refine lv_iconst (v := 0) hx hb dL_law_283 (by decide) ?_
              exact nomatch hF
        · replace hF := st_f hc263 hF
          refine lv_iconst (v := 0) hx hb dL_law_266 (by decide) ?_
          exact nomatch hF
      · replace hF := st_f hk40_0 hF
        by_cases hk40_1 : y2 = 1
        · replace hF := st_t hk40_1 hF
          subst hk40_1
          refine lv_tableIn (off := 248) (tgt := 288) hx hb dL_law_40 (by decide) (by decide) rfl (by decide) ?_
          refine lv_aload_n hx hb dL_law_288 rfl (lv_at hl 1 rfl) ?_
          obtain ⟨r18, M19, hgr18, hF⟩ := st_bnd2 hF
          refine g_ci hw (g_runV (C := RX5) (As := []) (rest := []) fx hw isO_0 rfl (c_X5_load l x D cy ad H.size M r18 M19 hgr18) wd1_225 wd1_226 wd1_227 wd1_1 wd1_228 yd_X5_load rfl rfl (Nat.le_of_ble_eq_true rfl) hl.1 ⟨Nat.le_trans (Nat.le_of_ble_eq_true rfl) hR.1, Nat.le_trans (Nat.le_of_ble_eq_true rfl) hR.2⟩ ⟨(by omega : _ ≤ 601024), (by omega : _ ≤ 7293034)⟩ dL_law_289) (fun H locs hw => ?_)
          refine lv_aload_n hx hb dL_law_292 rfl (lv_at hl 2 rfl) ?_
          obtain ⟨r20, M21, hgr20, hF⟩ := st_bnd2 hF
          refine g_ci hw (g_runV (C := RX6) (As := []) (rest := [.int r18]) fx hw isO_9 rfl (c_X6_load l x D cy ad H.size M19 r20 M21 hgr20) wd6_138 wd6_139 wd6_140 wd1_8 wd6_141 yd_X6_load rfl rfl (Nat.le_of_ble_eq_true rfl) hl.1 ⟨Nat.le_trans (Nat.le_of_ble_eq_true rfl) hR.1, Nat.le_trans (Nat.le_of_ble_eq_true rfl) hR.2⟩ ⟨(by omega : _ ≤ 601024), (by omega : _ ≤ 7293034)⟩ dL_law_293) (fun H locs hw => ?_)
          refine lv_icmp_eq (tgt := 1871) hx hb dL_law_296 (by decide) (fun hc296 => ?_) (fun hc296 => ?_)
          · replace hF := st_t hc296 hF
            refine lv_iinc (v := (a4 + 6)) (lv' := [(4, .int (a4 + 6)), (0, .ref b), (1, .ref (ad 0)), (2, .ref (ad 9)), (3, .ref (ad 17))]) hx hb dL_law_1871 hl (k := 4) rfl rfl (by decide) rfl (fun ls hl => ?_)
            refine lv_goto (tgt := 23) hx hb dL_law_1874 (by decide) ?_
            refine W.widen (k := cells + 16) (n := slots + 96) (by omega) (by omega) ?_
            exact ih (a4 + 6) M21 d0 hd0 (cells + 16) (slots + 96) (by omega) (by omega) H locs ls (lv_sub hl [1, 2, 3, 4, 0] rfl) hw hF
          · replace hF := st_f hc296 hF
            refine lv_iconst (v := 0) hx hb dL_law_299 (by decide) ?_
            exact nomatch hF
        · replace hF := st_f hk40_1 hF
          by_cases hk40_2 : y2 = 2
          · replace hF := st_t hk40_2 hF
            subst hk40_2
            refine lv_tableIn (off := 261) (tgt := 301) hx hb dL_law_40 (by decide) (by decide) rfl (by decide) ?_
            refine lv_aload_n hx hb dL_law_301 rfl (lv_at hl 1 rfl) ?_
            obtain ⟨r22, hgr22, hF⟩ := st_bnd hF
            refine g_ci hw (g_runV (C := RX5) (As := []) (rest := []) fx hw isO_0 rfl (c_X5_errorPosition l x D cy ad H.size M r22 hgr22) wd3_45 wd3_46 wd3_47 wd1_1 wd3_48 yd_X5_errorPosition rfl rfl (Nat.le_of_ble_eq_true rfl) hl.1 ⟨Nat.le_trans (Nat.le_of_ble_eq_true rfl) hR.1, Nat.le_trans (Nat.le_of_ble_eq_true rfl) hR.2⟩ ⟨(by omega : _ ≤ 601024), (by omega : _ ≤ 7293034)⟩ dL_law_302) (fun H locs hw => ?_)
            refine lv_aload_n hx hb dL_law_305 rfl (lv_at hl 2 rfl) ?_
            obtain ⟨r23, M24, hgr23, hF⟩ := st_bnd2 hF
            refine g_ci hw (g_runV (C := RX6) (As := []) (rest := [.int r22]) fx hw isO_9 rfl (c_X6_errorPosition l x D cy ad H.size M r23 M24 hgr23) wd7_16 wd7_17 wd7_18 wd1_8 wd7_19 yd_X6_errorPosition rfl rfl (Nat.le_of_ble_eq_true rfl) hl.1 ⟨Nat.le_trans (Nat.le_of_ble_eq_true rfl) hR.1, Nat.le_trans (Nat.le_of_ble_eq_true rfl) hR.2⟩ ⟨(by omega : _ ≤ 601024), (by omega : _ ≤ 7293034)⟩ dL_law_306) (fun H locs hw => ?_)
            refine lv_icmp_eq (tgt := 1871) hx hb dL_law_309 (by decide) (fun hc309 => ?_) (fun hc309 => ?_)
            · replace hF := st_t hc309 hF
              refine lv_iinc (v := (a4 + 6)) (lv' := [(4, .int (a4 + 6)), (0, .ref b), (1, .ref (ad 0)), (2, .ref (ad 9)), (3, .ref (ad 17))]) hx hb dL_law_1871 hl (k := 4) rfl rfl (by decide) rfl (fun ls hl => ?_)
              refine lv_goto (tgt := 23) hx hb dL_law_1874 (by decide) ?_
              refine W.widen (k := cells + 16) (n := slots + 96) (by omega) (by omega) ?_
              exact ih (a4 + 6) M24 d0 hd0 (cells + 16) (slots + 96) (by omega) (by omega) H locs ls (lv_sub hl [1, 2, 3, 4, 0] rfl) hw hF
            · replace hF := st_f hc309 hF
              refine lv_iconst (v := 0) hx hb dL_law_312 (by decide) ?_
              exact nomatch hF
          · replace hF := st_f hk40_2 hF
            by_cases hk40_3 : y2 = 3
            · replace hF := st_t hk40_3 hF
              subst hk40_3
              refine lv_tableIn (off := 274) (tgt := 314) hx hb dL_law_40 (by decide) (by decide) rfl (by decide) ?_
              refine lv_aload_n hx hb dL_law_314 rfl (lv_at hl 1 rfl) ?_
              refine lv_aload_n hx hb dL_law_315 rfl (lv_at hl 0 rfl) ?_
              refine lv_iload hx hb dL_law_316 (lv_at hl 4 rfl) ?_
              refine lv_iconst (v := 1) hx hb dL_law_318 (by decide) ?_
              refine lv_iadd hx hb dL_law_319 ?_
              obtain ⟨hi25, hF⟩ := st_chk hF
              refine va_sld (s := s.setDrawn d0) hx hb hX hbl hbA hw.2.2 (inB_in hi25) dL_law_320 ?_
              refine lv_aload_n hx hb dL_law_321 rfl (lv_at hl 3 rfl) ?_
              obtain ⟨r26, M27, hgr26, hF⟩ := st_bnd2 hF
              refine g_ci hw (g_runSW (As := [.ref (ad 0), .int (xs (ix (a4 + 1))), .ref (ad 17)]) (rest := []) fx hw (c_L_count l x D cy ad (xs (ix (a4 + 1))) H.size M r26 M27 hl9 hgr26) wd3_193 wd3_194 wd1_0 wd3_195 yd_L_count rfl rfl (Nat.le_of_ble_eq_true rfl) hl.1 ⟨Nat.le_trans (Nat.le_of_ble_eq_true rfl) hR.1, Nat.le_trans (Nat.le_of_ble_eq_true rfl) hR.2⟩ ⟨(by omega : _ ≤ 601024), (by omega : _ ≤ 7293034)⟩ dL_law_322) (fun H locs hw => ?_)
              refine lv_istore (lv' := [(5, .int r26), (0, .ref b), (1, .ref (ad 0)), (2, .ref (ad 9)), (3, .ref (ad 17)), (4, .int a4)]) hx hb dL_law_325 hl (by decide) rfl (fun ls hl => ?_)
              refine lv_aload_n hx hb dL_law_327 rfl (lv_at hl 3 rfl) ?_
              refine lv_aload_n hx hb dL_law_328 rfl (lv_at hl 1 rfl) ?_
              refine lv_iload hx hb dL_law_329 (lv_at hl 5 rfl) ?_
              refine lv_iconst (v := 1) hx hb dL_law_331 (by decide) ?_
              refine lv_iadd hx hb dL_law_332 ?_
              obtain ⟨hi28, hF⟩ := st_chk hF
              refine va_sld (s := s.setDrawn d0) hx hb hX hbl hbA hw.2.2 (inB_in hi28) dL_law_333 ?_
              obtain ⟨r29, M30, hgr29, hF⟩ := st_bnd2 hF
              refine g_ci hw (g_runV (C := RX6) (As := [.int (xs (ix (a4 + 1)))]) (rest := []) fx hw isO_9 rfl (c_X6_count l x D cy ad (xs (ix (a4 + 1))) H.size M27 r29 M30 hgr29) wd5_103 wd5_104 wd5_105 wd1_8 wd5_106 yd_X6_count rfl rfl (Nat.le_of_ble_eq_true rfl) hl.1 ⟨Nat.le_trans (Nat.le_of_ble_eq_true rfl) hR.1, Nat.le_trans (Nat.le_of_ble_eq_true rfl) hR.2⟩ ⟨(by omega : _ ≤ 601024), (by omega : _ ≤ 7293034)⟩ dL_law_334) (fun H locs hw => ?_)
              refine lv_istore (lv' := [(6, .int r29), (5, .int r26), (0, .ref b), (1, .ref (ad 0)), (2, .ref (ad 9)), (3, .ref (ad 17)), (4, .int a4)]) hx hb dL_law_337 hl (by decide) rfl (fun ls hl => ?_)
              refine lv_aload_n hx hb dL_law_339 rfl (lv_at hl 4 rfl) ?_
              obtain ⟨r31, hgr31, hF⟩ := st_bnd hF
              refine g_ci hw (g_runV (C := RX6) (As := []) (rest := []) fx hw isO_9 rfl (c_X6_thrown l x D cy ad H.size M30 r31 hgr31) wd5_77 wd5_78 wd5_79 wd1_8 wd5_80 yd_X6_thrown rfl rfl (Nat.le_of_ble_eq_true rfl) hl.1 ⟨Nat.le_trans (Nat.le_of_ble_eq_true rfl) hR.1, Nat.le_trans (Nat.le_of_ble_eq_true rfl) hR.2⟩ ⟨(by omega : _ ≤ 601024), (by omega : _ ≤ 7293034)⟩ dL_law_340) (fun H locs hw => ?_)
              refine lv_iload hx hb dL_law_343 (lv_at hl 1 rfl) ?_
              refine lv_icmp_eq (tgt := 350) hx hb dL_law_345 (by decide) (fun hc345 => ?_) (fun hc345 => ?_)
              · replace hF := st_t hc345 hF
                refine lv_iload hx hb dL_law_350 (lv_at hl 1 rfl) ?_
                refine lv_if_ne (tgt := 367) hx hb dL_law_352 (by decide) (fun hc352 => ?_) (fun hc352 => ?_)
                · replace hF := st_f hc352 hF
                  refine lv_goto (tgt := 1871) hx hb dL_law_367 (by decide) ?_
                  refine lv_iinc (v := (a4 + 6)) (lv' := [(4, .int (a4 + 6)), (6, .int r29), (5, .int r26), (0, .ref b), (1, .ref (ad 0)), (2, .ref (ad 9)), (3, .ref (ad 17))]) hx hb dL_law_1871 hl (k := 6) rfl rfl (by decide) rfl (fun ls hl => ?_)
                  refine lv_goto (tgt := 23) hx hb dL_law_1874 (by decide) ?_
                  refine W.widen (k := cells + 16) (n := slots + 96) (by omega) (by omega) ?_
                  exact ih (a4 + 6) M30 d0 hd0 (cells + 16) (slots + 96) (by omega) (by omega) H locs ls (lv_sub hl [3, 4, 5, 6, 0] rfl) hw hF
                · replace hF := st_t hc352 hF
                  refine lv_aload_n hx hb dL_law_355 rfl (lv_at hl 5 rfl) ?_
                  refine lv_iconst (v := 0) hx hb dL_law_356 (by decide) ?_
                  refine g_lald fx hw isL_17 (k := 0) rfl (by decide) dL_law_357 ?_
                  refine lv_iload hx hb dL_law_358 (lv_at hl 0 rfl) ?_
                  refine lv_i2l hx hb dL_law_360 rfl ?_
                  refine g_lcmp hx hb dL_law_361 ?_
                  refine lv_if_eq (tgt := 367) hx hb dL_law_362 (by decide) (fun hc362 => ?_) (fun hc362 => ?_)
                  · replace hF := st_t hc362 hF
                    refine lv_goto (tgt := 1871) hx hb dL_law_367 (by decide) ?_
                    refine lv_iinc (v := (a4 + 6)) (lv' := [(4, .int (a4 + 6)), (6, .int r29), (5, .int r26), (0, .ref b), (1, .ref (ad 0)), (2, .ref (ad 9)), (3, .ref (ad 17))]) hx hb dL_law_1871 hl (k := 6) rfl rfl (by decide) rfl (fun ls hl => ?_)
                    refine lv_goto (tgt := 23) hx hb dL_law_1874 (by decide) ?_
                    refine W.widen (k := cells + 16) (n := slots + 96) (by omega) (by omega) ?_
                    exact ih (a4 + 6) M30 d0 hd0 (cells + 16) (slots + 96) (by omega) (by omega) H locs ls (lv_sub hl [3, 4, 5, 6, 0] rfl) hw hF
                  · replace hF := st_f hc362 hF
                    refine lv_iconst (v := 0) hx hb dL_law_365 (by decide) ?_
                    exact nomatch hF
              · replace hF := st_f hc345 hF
                refine lv_iconst (v := 0) hx hb dL_law_348 (by decide) ?_
                exact nomatch hF
            · replace hF := st_f hk40_3 hF
              by_cases hk40_4 : y2 = 4
              · replace hF := st_t hk40_4 hF
                subst hk40_4
                refine lv_tableIn (off := 330) (tgt := 370) hx hb dL_law_40 (by decide) (by decide) rfl (by decide) ?_
                refine lv_aload_n hx hb dL_law_370 rfl (lv_at hl 1 rfl) ?_
                refine lv_aload_n hx hb dL_law_371 rfl (lv_at hl 0 rfl) ?_
                refine lv_iload hx hb dL_law_372 (lv_at hl 4 rfl) ?_
                refine lv_iconst (v := 1) hx hb dL_law_374 (by decide) ?_
                refine lv_iadd hx hb dL_law_375 ?_
                obtain ⟨hi32, hF⟩ := st_chk hF
                refine va_sld (s := s.setDrawn d0) hx hb hX hbl hbA hw.2.2 (inB_in hi32) dL_law_376 ?_
                refine lv_aload_n hx hb dL_law_377 rfl (lv_at hl 3 rfl) ?_
                obtain ⟨r33, M34, hgr33, hF⟩ := st_bnd2 hF
                refine g_ci hw (g_runSW (As := [.ref (ad 0), .int (xs (ix (a4 + 1))), .ref (ad 17)]) (rest := []) fx hw (c_L_account l x D cy ad (xs (ix (a4 + 1))) H.size M r33 M34 hl9 hgr33) wd3_225 wd3_226 wd1_0 wd3_227 yd_L_account rfl rfl (Nat.le_of_ble_eq_true rfl) hl.1 ⟨Nat.le_trans (Nat.le_of_ble_eq_true rfl) hR.1, Nat.le_trans (Nat.le_of_ble_eq_true rfl) hR.2⟩ ⟨(by omega : _ ≤ 601024), (by omega : _ ≤ 7293034)⟩ dL_law_378) (fun H locs hw => ?_)
                refine lv_istore (lv' := [(5, .int r33), (0, .ref b), (1, .ref (ad 0)), (2, .ref (ad 9)), (3, .ref (ad 17)), (4, .int a4)]) hx hb dL_law_381 hl (by decide) rfl (fun ls hl => ?_)
                refine lv_aload_n hx hb dL_law_383 rfl (lv_at hl 3 rfl) ?_
                refine lv_aload_n hx hb dL_law_384 rfl (lv_at hl 1 rfl) ?_
                refine lv_iload hx hb dL_law_385 (lv_at hl 5 rfl) ?_
                refine lv_iconst (v := 1) hx hb dL_law_387 (by decide) ?_
                refine lv_iadd hx hb dL_law_388 ?_
                obtain ⟨hi35, hF⟩ := st_chk hF
                refine va_sld (s := s.setDrawn d0) hx hb hX hbl hbA hw.2.2 (inB_in hi35) dL_law_389 ?_
                obtain ⟨r36, M37, hgr36, hF⟩ := st_bnd2 hF
                refine g_ci hw (g_runV (C := RX6) (As := [.int (xs (ix (a4 + 1)))]) (rest := []) fx hw isO_9 rfl (c_X6_account l x D cy ad (xs (ix (a4 + 1))) H.size M34 r36 M37 hgr36) wd5_138 wd5_139 wd5_140 wd1_8 wd5_141 yd_X6_account rfl rfl (Nat.le_of_ble_eq_true rfl) hl.1 ⟨Nat.le_trans (Nat.le_of_ble_eq_true rfl) hR.1, Nat.le_trans (Nat.le_of_ble_eq_true rfl) hR.2⟩ ⟨(by omega : _ ≤ 601024), (by omega : _ ≤ 7293034)⟩ dL_law_390) (fun H locs hw => ?_)
                refine lv_istore (lv' := [(6, .int r36), (5, .int r33), (0, .ref b), (1, .ref (ad 0)), (2, .ref (ad 9)), (3, .ref (ad 17)), (4, .int a4)]) hx hb dL_law_393 hl (by decide) rfl (fun ls hl => ?_)
                refine lv_aload_n hx hb dL_law_395 rfl (lv_at hl 4 rfl) ?_
                obtain ⟨r38, hgr38, hF⟩ := st_bnd hF
                refine g_ci hw (g_runV (C := RX6) (As := []) (rest := []) fx hw isO_9 rfl (c_X6_thrown l x D cy ad H.size M37 r38 hgr38) wd5_77 wd5_78 wd5_79 wd1_8 wd5_80 yd_X6_thrown rfl rfl (Nat.le_of_ble_eq_true rfl) hl.1 ⟨Nat.le_trans (Nat.le_of_ble_eq_true rfl) hR.1, Nat.le_trans (Nat.le_of_ble_eq_true rfl) hR.2⟩ ⟨(by omega : _ ≤ 601024), (by omega : _ ≤ 7293034)⟩ dL_law_396) (fun H locs hw => ?_)
                refine lv_iload hx hb dL_law_399 (lv_at hl 1 rfl) ?_
                refine lv_icmp_eq (tgt := 406) hx hb dL_law_401 (by decide) (fun hc401 => ?_) (fun hc401 => ?_)
                · replace hF := st_t hc401 hF
                  refine lv_iload hx hb dL_law_406 (lv_at hl 1 rfl) ?_
                  refine lv_if_ne (tgt := 423) hx hb dL_law_408 (by decide) (fun hc408 => ?_) (fun hc408 => ?_)
                  · replace hF := st_f hc408 hF
                    refine lv_goto (tgt := 1871) hx hb dL_law_423 (by decide) ?_
                    refine lv_iinc (v := (a4 + 6)) (lv' := [(4, .int (a4 + 6)), (6, .int r36), (5, .int r33), (0, .ref b), (1, .ref (ad 0)), (2, .ref (ad 9)), (3, .ref (ad 17))]) hx hb dL_law_1871 hl (k := 6) rfl rfl (by decide) rfl (fun ls hl => ?_)
                    refine lv_goto (tgt := 23) hx hb dL_law_1874 (by decide) ?_
                    refine W.widen (k := cells + 16) (n := slots + 96) (by omega) (by omega) ?_
                    exact ih (a4 + 6) M37 d0 hd0 (cells + 16) (slots + 96) (by omega) (by omega) H locs ls (lv_sub hl [3, 4, 5, 6, 0] rfl) hw hF
                  · replace hF := st_t hc408 hF
                    refine lv_aload_n hx hb dL_law_411 rfl (lv_at hl 5 rfl) ?_
                    refine lv_iconst (v := 0) hx hb dL_law_412 (by decide) ?_
                    refine g_lald fx hw isL_17 (k := 0) rfl (by decide) dL_law_413 ?_
                    refine lv_iload hx hb dL_law_414 (lv_at hl 0 rfl) ?_
                    refine lv_i2l hx hb dL_law_416 rfl ?_
                    refine g_lcmp hx hb dL_law_417 ?_
                    refine lv_if_eq (tgt := 423) hx hb dL_law_418 (by decide) (fun hc418 => ?_) (fun hc418 => ?_)
                    · replace hF := st_t hc418 hF
                      refine lv_goto (tgt := 1871) hx hb dL_law_423 (by decide) ?_
                      refine lv_iinc (v := (a4 + 6)) (lv' := [(4, .int (a4 + 6)), (6, .int r36), (5, .int r33), (0, .ref b), (1, .ref (ad 0)), (2, .ref (ad 9)), (3, .ref (ad 17))]) hx hb dL_law_1871 hl (k := 6) rfl rfl (by decide) rfl (fun ls hl => ?_)
                      refine lv_goto (tgt := 23) hx hb dL_law_1874 (by decide) ?_
                      refine W.widen (k := cells + 16) (n := slots + 96) (by omega) (by omega) ?_
                      exact ih (a4 + 6) M37 d0 hd0 (cells + 16) (slots + 96) (by omega) (by omega) H locs ls (lv_sub hl [3, 4, 5, 6, 0] rfl) hw hF
                    · replace hF := st_f hc418 hF
                      refine lv_iconst (v := 0) hx hb dL_law_421 (by decide) ?_
                      exact nomatch hF
                · replace hF := st_f hc401 hF
                  refine lv_iconst (v := 0) hx hb dL_law_404 (by decide) ?_
                  exact nomatch hF
              · replace hF := st_f hk40_4 hF
                by_cases hk40_5 : y2 = 5
                · replace hF := st_t hk40_5 hF
                  subst hk40_5
                  refine lv_tableIn (off := 386) (tgt := 426) hx hb dL_law_40 (by decide) (by decide) rfl (by decide) ?_
                  refine lv_aload_n hx hb dL_law_426 rfl (lv_at hl 1 rfl) ?_
                  refine lv_aload_n hx hb dL_law_427 rfl (lv_at hl 0 rfl) ?_
                  refine lv_iload hx hb dL_law_428 (lv_at hl 4 rfl) ?_
                  refine lv_iconst (v := 1) hx hb dL_law_430 (by decide) ?_
                  refine lv_iadd hx hb dL_law_431 ?_
                  obtain ⟨hi39, hF⟩ := st_chk hF
                  refine va_sld (s := s.setDrawn d0) hx hb hX hbl hbA hw.2.2 (inB_in hi39) dL_law_432 ?_
                  refine lv_aload_n hx hb dL_law_433 rfl (lv_at hl 0 rfl) ?_
                  refine lv_iload hx hb dL_law_434 (lv_at hl 4 rfl) ?_
                  refine lv_iconst (v := 2) hx hb dL_law_436 (by decide) ?_
                  refine lv_iadd hx hb dL_law_437 ?_
                  obtain ⟨hi40, hF⟩ := st_chk hF
                  refine va_sld (s := s.setDrawn d0) hx hb hX hbl hbA hw.2.2 (inB_in hi40) dL_law_438 ?_
                  refine lv_aload_n hx hb dL_law_439 rfl (lv_at hl 3 rfl) ?_
                  obtain ⟨r41, M42, hgr41, hF⟩ := st_bnd2 hF
                  refine g_ci hw (g_runSW (As := [.ref (ad 0), .int (xs (ix (a4 + 1))), .int (xs (ix (a4 + 2))), .ref (ad 17)]) (rest := []) fx hw (c_L_monk l x D cy ad (xs (ix (a4 + 1))) (xs (ix (a4 + 2))) H.size M r41 M42 hl9 hgr41) wd3_233 wd3_234 wd1_0 wd3_235 yd_L_monk rfl rfl (Nat.le_of_ble_eq_true rfl) hl.1 ⟨Nat.le_trans (Nat.le_of_ble_eq_true rfl) hR.1, Nat.le_trans (Nat.le_of_ble_eq_true rfl) hR.2⟩ ⟨(by omega : _ ≤ 601024), (by omega : _ ≤ 7293034)⟩ dL_law_440) (fun H locs hw => ?_)
                  refine lv_istore (lv' := [(5, .int r41), (0, .ref b), (1, .ref (ad 0)), (2, .ref (ad 9)), (3, .ref (ad 17)), (4, .int a4)]) hx hb dL_law_443 hl (by decide) rfl (fun ls hl => ?_)
                  refine lv_aload_n hx hb dL_law_445 rfl (lv_at hl 3 rfl) ?_
                  refine lv_aload_n hx hb dL_law_446 rfl (lv_at hl 1 rfl) ?_
                  refine lv_iload hx hb dL_law_447 (lv_at hl 5 rfl) ?_
                  refine lv_iconst (v := 1) hx hb dL_law_449 (by decide) ?_
                  refine lv_iadd hx hb dL_law_450 ?_
                  obtain ⟨hi43, hF⟩ := st_chk hF
                  refine va_sld (s := s.setDrawn d0) hx hb hX hbl hbA hw.2.2 (inB_in hi43) dL_law_451 ?_
                  refine lv_aload_n hx hb dL_law_452 rfl (lv_at hl 1 rfl) ?_
                  refine lv_iload hx hb dL_law_453 (lv_at hl 5 rfl) ?_
                  refine lv_iconst (v := 2) hx hb dL_law_455 (by decide) ?_
                  refine lv_iadd hx hb dL_law_456 ?_
                  obtain ⟨hi44, hF⟩ := st_chk hF
                  refine va_sld (s := s.setDrawn d0) hx hb hX hbl hbA hw.2.2 (inB_in hi44) dL_law_457 ?_
                  obtain ⟨r45, M46, hgr45, hF⟩ := st_bnd2 hF
                  refine g_ci hw (g_runV (C := RX6) (As := [.int (xs (ix (a4 + 1))), .int (xs (ix (a4 + 2)))]) (rest := []) fx hw isO_9 rfl (c_X6_monk l x D cy ad (xs (ix (a4 + 1))) (xs (ix (a4 + 2))) H.size M42 r45 M46 hgr45) wd5_142 wd5_143 wd5_144 wd1_8 wd5_145 yd_X6_monk rfl rfl (Nat.le_of_ble_eq_true rfl) hl.1 ⟨Nat.le_trans (Nat.le_of_ble_eq_true rfl) hR.1, Nat.le_trans (Nat.le_of_ble_eq_true rfl) hR.2⟩ ⟨(by omega : _ ≤ 601024), (by omega : _ ≤ 7293034)⟩ dL_law_458) (fun H locs hw => ?_)
                  refine lv_istore (lv' := [(6, .int r45), (5, .int r41), (0, .ref b), (1, .ref (ad 0)), (2, .ref (ad 9)), (3, .ref (ad 17)), (4, .int a4)]) hx hb dL_law_461 hl (by decide) rfl (fun ls hl => ?_)
                  refine lv_aload_n hx hb dL_law_463 rfl (lv_at hl 4 rfl) ?_
                  obtain ⟨r47, hgr47, hF⟩ := st_bnd hF
                  refine g_ci hw (g_runV (C := RX6) (As := []) (rest := []) fx hw isO_9 rfl (c_X6_thrown l x D cy ad H.size M46 r47 hgr47) wd5_77 wd5_78 wd5_79 wd1_8 wd5_80 yd_X6_thrown rfl rfl (Nat.le_of_ble_eq_true rfl) hl.1 ⟨Nat.le_trans (Nat.le_of_ble_eq_true rfl) hR.1, Nat.le_trans (Nat.le_of_ble_eq_true rfl) hR.2⟩ ⟨(by omega : _ ≤ 601024), (by omega : _ ≤ 7293034)⟩ dL_law_464) (fun H locs hw => ?_)
                  refine lv_iload hx hb dL_law_467 (lv_at hl 1 rfl) ?_
                  refine lv_icmp_eq (tgt := 474) hx hb dL_law_469 (by decide) (fun hc469 => ?_) (fun hc469 => ?_)
                  · replace hF := st_t hc469 hF
                    refine lv_iload hx hb dL_law_474 (lv_at hl 1 rfl) ?_
                    refine lv_if_ne (tgt := 491) hx hb dL_law_476 (by decide) (fun hc476 => ?_) (fun hc476 => ?_)
                    · replace hF := st_f hc476 hF
                      refine lv_goto (tgt := 1871) hx hb dL_law_491 (by decide) ?_
                      refine lv_iinc (v := (a4 + 6)) (lv' := [(4, .int (a4 + 6)), (6, .int r45), (5, .int r41), (0, .ref b), (1, .ref (ad 0)), (2, .ref (ad 9)), (3, .ref (ad 17))]) hx hb dL_law_1871 hl (k := 6) rfl rfl (by decide) rfl (fun ls hl => ?_)
                      refine lv_goto (tgt := 23) hx hb dL_law_1874 (by decide) ?_
                      refine W.widen (k := cells + 16) (n := slots + 96) (by omega) (by omega) ?_
                      exact ih (a4 + 6) M46 d0 hd0 (cells + 16) (slots + 96) (by omega) (by omega) H locs ls (lv_sub hl [3, 4, 5, 6, 0] rfl) hw hF
                    · replace hF := st_t hc476 hF
                      refine lv_aload_n hx hb dL_law_479 rfl (lv_at hl 5 rfl) ?_
                      refine lv_iconst (v := 0) hx hb dL_law_480 (by decide) ?_
                      refine g_lald fx hw isL_17 (k := 0) rfl (by decide) dL_law_481 ?_
                      refine lv_iload hx hb dL_law_482 (lv_at hl 0 rfl) ?_
                      refine lv_i2l hx hb dL_law_484 rfl ?_
                      refine g_lcmp hx hb dL_law_485 ?_
                      refine lv_if_eq (tgt := 491) hx hb dL_law_486 (by decide) (fun hc486 => ?_) (fun hc486 => ?_)
                      · replace hF := st_t hc486 hF
                        refine lv_goto (tgt := 1871) hx hb dL_law_491 (by decide) ?_
                        refine lv_iinc (v := (a4 + 6)) (lv' := [(4, .int (a4 + 6)), (6, .int r45), (5, .int r41), (0, .ref b), (1, .ref (ad 0)), (2, .ref (ad 9)), (3, .ref (ad 17))]) hx hb dL_law_1871 hl (k := 6) rfl rfl (by decide) rfl (fun ls hl => ?_)
                        refine lv_goto (tgt := 23) hx hb dL_law_1874 (by decide) ?_
                        refine W.widen (k := cells + 16) (n := slots + 96) (by omega) (by omega) ?_
                        exact ih (a4 + 6) M46 d0 hd0 (cells + 16) (slots + 96) (by omega) (by omega) H locs ls (lv_sub hl [3, 4, 5, 6, 0] rfl) hw hF
                      · replace hF := st_f hc486 hF
                        refine lv_iconst (v := 0) hx hb dL_law_489 (by decide) ?_
                        exact nomatch hF
                  · replace hF := st_f hc469 hF
                    refine lv_iconst (v := 0) hx hb dL_law_472 (by decide) ?_
                    exact nomatch hF
                · replace hF := st_f hk40_5 hF
                  by_cases hk40_6 : y2 = 6
                  · replace hF := st_t hk40_6 hF
                    subst hk40_6
                    refine lv_tableIn (off := 454) (tgt := 494) hx hb dL_law_40 (by decide) (by decide) rfl (by decide) ?_
                    refine lv_aload_n hx hb dL_law_494 rfl (lv_at hl 1 rfl) ?_
                    refine lv_aload_n hx hb dL_law_495 rfl (lv_at hl 0 rfl) ?_
                    refine lv_iload hx hb dL_law_496 (lv_at hl 4 rfl) ?_
                    refine lv_iconst (v := 1) hx hb dL_law_498 (by decide) ?_
                    refine lv_iadd hx hb dL_law_499 ?_
                    obtain ⟨hi48, hF⟩ := st_chk hF
                    refine va_sld (s := s.setDrawn d0) hx hb hX hbl hbA hw.2.2 (inB_in hi48) dL_law_500 ?_
                    refine lv_aload_n hx hb dL_law_501 rfl (lv_at hl 0 rfl) ?_
                    refine lv_iload hx hb dL_law_502 (lv_at hl 4 rfl) ?_
                    refine lv_iconst (v := 2) hx hb dL_law_504 (by decide) ?_
                    refine lv_iadd hx hb dL_law_505 ?_
                    obtain ⟨hi49, hF⟩ := st_chk hF
                    refine va_sld (s := s.setDrawn d0) hx hb hX hbl hbA hw.2.2 (inB_in hi49) dL_law_506 ?_
                    refine lv_aload_n hx hb dL_law_507 rfl (lv_at hl 3 rfl) ?_
                    obtain ⟨r50, M51, hgr50, hF⟩ := st_bnd2 hF
                    refine g_ci hw (g_runSW (As := [.ref (ad 0), .int (xs (ix (a4 + 1))), .int (xs (ix (a4 + 2))), .ref (ad 17)]) (rest := []) fx hw (c_L_need l x D cy ad (xs (ix (a4 + 1))) (xs (ix (a4 + 2))) H.size M r50 M51 hl9 hgr50) wd4_33 wd4_34 wd1_0 wd4_35 yd_L_need rfl rfl (Nat.le_of_ble_eq_true rfl) hl.1 ⟨Nat.le_trans (Nat.le_of_ble_eq_true rfl) hR.1, Nat.le_trans (Nat.le_of_ble_eq_true rfl) hR.2⟩ ⟨(by omega : _ ≤ 601024), (by omega : _ ≤ 7293034)⟩ dL_law_508) (fun H locs hw => ?_)
                    refine lv_istore (lv' := [(5, .int r50), (0, .ref b), (1, .ref (ad 0)), (2, .ref (ad 9)), (3, .ref (ad 17)), (4, .int a4)]) hx hb dL_law_511 hl (by decide) rfl (fun ls hl => ?_)
                    refine lv_aload_n hx hb dL_law_513 rfl (lv_at hl 3 rfl) ?_
                    refine lv_aload_n hx hb dL_law_514 rfl (lv_at hl 1 rfl) ?_
                    refine lv_iload hx hb dL_law_515 (lv_at hl 5 rfl) ?_
                    refine lv_iconst (v := 1) hx hb dL_law_517 (by decide) ?_
                    refine lv_iadd hx hb dL_law_518 ?_
                    obtain ⟨hi52, hF⟩ := st_chk hF
                    refine va_sld (s := s.setDrawn d0) hx hb hX hbl hbA hw.2.2 (inB_in hi52) dL_law_519 ?_
                    refine lv_aload_n hx hb dL_law_520 rfl (lv_at hl 1 rfl) ?_
                    refine lv_iload hx hb dL_law_521 (lv_at hl 5 rfl) ?_
                    refine lv_iconst (v := 2) hx hb dL_law_523 (by decide) ?_
                    refine lv_iadd hx hb dL_law_524 ?_
                    obtain ⟨hi53, hF⟩ := st_chk hF
                    refine va_sld (s := s.setDrawn d0) hx hb hX hbl hbA hw.2.2 (inB_in hi53) dL_law_525 ?_
                    obtain ⟨r54, M55, hgr54, hF⟩ := st_bnd2 hF
                    refine g_ci hw (g_runV (C := RX6) (As := [.int (xs (ix (a4 + 1))), .int (xs (ix (a4 + 2)))]) (rest := []) fx hw isO_9 rfl (c_X6_need l x D cy ad (xs (ix (a4 + 1))) (xs (ix (a4 + 2))) H.size M51 r54 M55 hgr54) wd5_157 wd5_158 wd5_159 wd1_8 wd5_160 yd_X6_need rfl rfl (Nat.le_of_ble_eq_true rfl) hl.1 ⟨Nat.le_trans (Nat.le_of_ble_eq_true rfl) hR.1, Nat.le_trans (Nat.le_of_ble_eq_true rfl) hR.2⟩ ⟨(by omega : _ ≤ 601024), (by omega : _ ≤ 7293034)⟩ dL_law_526) (fun H locs hw => ?_)
                    refine lv_istore (lv' := [(6, .int r54), (5, .int r50), (0, .ref b), (1, .ref (ad 0)), (2, .ref (ad 9)), (3, .ref (ad 17)), (4, .int a4)]) hx hb dL_law_529 hl (by decide) rfl (fun ls hl => ?_)
                    refine lv_aload_n hx hb dL_law_531 rfl (lv_at hl 4 rfl) ?_
                    obtain ⟨r56, hgr56, hF⟩ := st_bnd hF
                    refine g_ci hw (g_runV (C := RX6) (As := []) (rest := []) fx hw isO_9 rfl (c_X6_thrown l x D cy ad H.size M55 r56 hgr56) wd5_77 wd5_78 wd5_79 wd1_8 wd5_80 yd_X6_thrown rfl rfl (Nat.le_of_ble_eq_true rfl) hl.1 ⟨Nat.le_trans (Nat.le_of_ble_eq_true rfl) hR.1, Nat.le_trans (Nat.le_of_ble_eq_true rfl) hR.2⟩ ⟨(by omega : _ ≤ 601024), (by omega : _ ≤ 7293034)⟩ dL_law_532) (fun H locs hw => ?_)
                    refine lv_iload hx hb dL_law_535 (lv_at hl 1 rfl) ?_
                    refine lv_icmp_eq (tgt := 542) hx hb dL_law_537 (by decide) (fun hc537 => ?_) (fun hc537 => ?_)
                    · replace hF := st_t hc537 hF
                      refine lv_iload hx hb dL_law_542 (lv_at hl 1 rfl) ?_
                      refine lv_if_ne (tgt := 559) hx hb dL_law_544 (by decide) (fun hc544 => ?_) (fun hc544 => ?_)
                      · replace hF := st_f hc544 hF
                        refine lv_goto (tgt := 1871) hx hb dL_law_559 (by decide) ?_
                        refine lv_iinc (v := (a4 + 6)) (lv' := [(4, .int (a4 + 6)), (6, .int r54), (5, .int r50), (0, .ref b), (1, .ref (ad 0)), (2, .ref (ad 9)), (3, .ref (ad 17))]) hx hb dL_law_1871 hl (k := 6) rfl rfl (by decide) rfl (fun ls hl => ?_)
                        refine lv_goto (tgt := 23) hx hb dL_law_1874 (by decide) ?_
                        refine W.widen (k := cells + 16) (n := slots + 96) (by omega) (by omega) ?_
                        exact ih (a4 + 6) M55 d0 hd0 (cells + 16) (slots + 96) (by omega) (by omega) H locs ls (lv_sub hl [3, 4, 5, 6, 0] rfl) hw hF
                      · replace hF := st_t hc544 hF
                        refine lv_aload_n hx hb dL_law_547 rfl (lv_at hl 5 rfl) ?_
                        refine lv_iconst (v := 0) hx hb dL_law_548 (by decide) ?_
                        refine g_lald fx hw isL_17 (k := 0) rfl (by decide) dL_law_549 ?_
                        refine lv_iload hx hb dL_law_550 (lv_at hl 0 rfl) ?_
                        refine lv_i2l hx hb dL_law_552 rfl ?_
                        refine g_lcmp hx hb dL_law_553 ?_
                        refine lv_if_eq (tgt := 559) hx hb dL_law_554 (by decide) (fun hc554 => ?_) (fun hc554 => ?_)
                        · replace hF := st_t hc554 hF
                          refine lv_goto (tgt := 1871) hx hb dL_law_559 (by decide) ?_
                          refine lv_iinc (v := (a4 + 6)) (lv' := [(4, .int (a4 + 6)), (6, .int r54), (5, .int r50), (0, .ref b), (1, .ref (ad 0)), (2, .ref (ad 9)), (3, .ref (ad 17))]) hx hb dL_law_1871 hl (k := 6) rfl rfl (by decide) rfl (fun ls hl => ?_)
                          refine lv_goto (tgt := 23) hx hb dL_law_1874 (by decide) ?_
                          refine W.widen (k := cells + 16) (n := slots + 96) (by omega) (by omega) ?_
                          exact ih (a4 + 6) M55 d0 hd0 (cells + 16) (slots + 96) (by omega) (by omega) H locs ls (lv_sub hl [3, 4, 5, 6, 0] rfl) hw hF
                        · replace hF := st_f hc554 hF
                          refine lv_iconst (v := 0) hx hb dL_law_557 (by decide) ?_
                          exact nomatch hF
                    · replace hF := st_f hc537 hF
                      refine lv_iconst (v := 0) hx hb dL_law_540 (by decide) ?_
                      exact nomatch hF
                  · replace hF := st_f hk40_6 hF
                    by_cases hk40_7 : y2 = 7
                    · replace hF := st_t hk40_7 hF
                      subst hk40_7
                      refine lv_tableIn (off := 522) (tgt := 562) hx hb dL_law_40 (by decide) (by decide) rfl (by decide) ?_
                      refine lv_aload_n hx hb dL_law_562 rfl (lv_at hl 1 rfl) ?_
                      refine lv_aload_n hx hb dL_law_563 rfl (lv_at hl 0 rfl) ?_
                      refine lv_iload hx hb dL_law_564 (lv_at hl 4 rfl) ?_
                      refine lv_iconst (v := 1) hx hb dL_law_566 (by decide) ?_
                      refine lv_iadd hx hb dL_law_567 ?_
                      obtain ⟨hi57, hF⟩ := st_chk hF
                      refine va_sld (s := s.setDrawn d0) hx hb hX hbl hbA hw.2.2 (inB_in hi57) dL_law_568 ?_
                      refine lv_aload_n hx hb dL_law_569 rfl (lv_at hl 0 rfl) ?_
                      refine lv_iload hx hb dL_law_570 (lv_at hl 4 rfl) ?_
                      refine lv_iconst (v := 2) hx hb dL_law_572 (by decide) ?_
                      refine lv_iadd hx hb dL_law_573 ?_
                      obtain ⟨hi58, hF⟩ := st_chk hF
                      refine va_sld (s := s.setDrawn d0) hx hb hX hbl hbA hw.2.2 (inB_in hi58) dL_law_574 ?_
                      refine lv_aload_n hx hb dL_law_575 rfl (lv_at hl 0 rfl) ?_
                      refine lv_iload hx hb dL_law_576 (lv_at hl 4 rfl) ?_
                      refine lv_iconst (v := 3) hx hb dL_law_578 (by decide) ?_
                      refine lv_iadd hx hb dL_law_579 ?_
                      obtain ⟨hi59, hF⟩ := st_chk hF
                      refine va_sld (s := s.setDrawn d0) hx hb hX hbl hbA hw.2.2 (inB_in hi59) dL_law_580 ?_
                      refine lv_if_eq (tgt := 588) hx hb dL_law_581 (by decide) (fun hc581 => ?_) (fun hc581 => ?_)
                      · replace hF := st_t hc581 hF
                        refine lv_iconst (v := 0) hx hb dL_law_588 (by decide) ?_
                        refine lv_aload_n hx hb dL_law_589 rfl (lv_at hl 3 rfl) ?_
                        obtain ⟨r60, M61, hgr60, hF⟩ := st_bnd2 hF
                        refine g_ci hw (g_runSW (As := [.ref (ad 0), .int (xs (ix (a4 + 1))), .int (xs (ix (a4 + 2))), .int 0, .ref (ad 17)]) (rest := []) fx hw (c_L_has l x D cy ad (xs (ix (a4 + 1))) (xs (ix (a4 + 2))) 0 H.size M r60 M61 hl9 hgr60) wd4_52 wd4_53 wd1_0 wd4_54 yd_L_has rfl rfl (Nat.le_of_ble_eq_true rfl) hl.1 ⟨Nat.le_trans (Nat.le_of_ble_eq_true rfl) hR.1, Nat.le_trans (Nat.le_of_ble_eq_true rfl) hR.2⟩ ⟨(by omega : _ ≤ 601024), (by omega : _ ≤ 7293034)⟩ dL_law_590) (fun H locs hw => ?_)
                        refine lv_istore (lv' := [(5, .int r60), (0, .ref b), (1, .ref (ad 0)), (2, .ref (ad 9)), (3, .ref (ad 17)), (4, .int a4)]) hx hb dL_law_593 hl (by decide) rfl (fun ls hl => ?_)
                        refine lv_aload_n hx hb dL_law_595 rfl (lv_at hl 3 rfl) ?_
                        refine lv_aload_n hx hb dL_law_596 rfl (lv_at hl 1 rfl) ?_
                        refine lv_iload hx hb dL_law_597 (lv_at hl 5 rfl) ?_
                        refine lv_iconst (v := 1) hx hb dL_law_599 (by decide) ?_
                        refine lv_iadd hx hb dL_law_600 ?_
                        obtain ⟨hi62, hF⟩ := st_chk hF
                        refine va_sld (s := s.setDrawn d0) hx hb hX hbl hbA hw.2.2 (inB_in hi62) dL_law_601 ?_
                        refine lv_aload_n hx hb dL_law_602 rfl (lv_at hl 1 rfl) ?_
                        refine lv_iload hx hb dL_law_603 (lv_at hl 5 rfl) ?_
                        refine lv_iconst (v := 2) hx hb dL_law_605 (by decide) ?_
                        refine lv_iadd hx hb dL_law_606 ?_
                        obtain ⟨hi63, hF⟩ := st_chk hF
                        refine va_sld (s := s.setDrawn d0) hx hb hX hbl hbA hw.2.2 (inB_in hi63) dL_law_607 ?_
                        refine lv_aload_n hx hb dL_law_608 rfl (lv_at hl 1 rfl) ?_
                        refine lv_iload hx hb dL_law_609 (lv_at hl 5 rfl) ?_
                        refine lv_iconst (v := 3) hx hb dL_law_611 (by decide) ?_
                        refine lv_iadd hx hb dL_law_612 ?_
                        obtain ⟨hi64, hF⟩ := st_chk hF
                        refine va_sld (s := s.setDrawn d0) hx hb hX hbl hbA hw.2.2 (inB_in hi64) dL_law_613 ?_
                        refine lv_if_eq (tgt := 621) hx hb dL_law_614 (by decide) (fun hc614 => ?_) (fun hc614 => ?_)
                        · replace hF := st_t hc614 hF
                          refine lv_iconst (v := 0) hx hb dL_law_621 (by decide) ?_
                          obtain ⟨r65, M66, hgr65, hF⟩ := st_bnd2 hF
                          refine g_cz hw (g_runV (C := RX6) (As := [.int (xs (ix (a4 + 1))), .int (xs (ix (a4 + 2))), .int 0]) (rest := []) fx hw isO_9 rfl (c_X6_has l x D cy ad (xs (ix (a4 + 1))) (xs (ix (a4 + 2))) 0 H.size M61 r65 M66 hgr65) wd5_177 wd5_178 wd5_179 wd1_8 wd5_180 yd_X6_has rfl rfl (Nat.le_of_ble_eq_true rfl) hl.1 ⟨Nat.le_trans (Nat.le_of_ble_eq_true rfl) hR.1, Nat.le_trans (Nat.le_of_ble_eq_true rfl) hR.2⟩ ⟨(by omega : _ ≤ 601024), (by omega : _ ≤ 7293034)⟩ dL_law_622) (fun H locs hbr65 hw => ?_)
                          refine lv_istore (lv' := [(6, .int r65), (5, .int r60), (0, .ref b), (1, .ref (ad 0)), (2, .ref (ad 9)), (3, .ref (ad 17)), (4, .int a4)]) hx hb dL_law_625 hl (by decide) rfl (fun ls hl => ?_)
                          refine lv_aload_n hx hb dL_law_627 rfl (lv_at hl 4 rfl) ?_
                          obtain ⟨r67, hgr67, hF⟩ := st_bnd hF
                          refine g_ci hw (g_runV (C := RX6) (As := []) (rest := []) fx hw isO_9 rfl (c_X6_thrown l x D cy ad H.size M66 r67 hgr67) wd5_77 wd5_78 wd5_79 wd1_8 wd5_80 yd_X6_thrown rfl rfl (Nat.le_of_ble_eq_true rfl) hl.1 ⟨Nat.le_trans (Nat.le_of_ble_eq_true rfl) hR.1, Nat.le_trans (Nat.le_of_ble_eq_true rfl) hR.2⟩ ⟨(by omega : _ ≤ 601024), (by omega : _ ≤ 7293034)⟩ dL_law_628) (fun H locs hw => ?_)
                          refine lv_iload hx hb dL_law_631 (lv_at hl 1 rfl) ?_
                          refine lv_icmp_eq (tgt := 638) hx hb dL_law_633 (by decide) (fun hc633 => ?_) (fun hc633 => ?_)
                          · replace hF := st_t hc633 hF
                            refine lv_iload hx hb dL_law_638 (lv_at hl 1 rfl) ?_
                            refine lv_if_ne (tgt := 662) hx hb dL_law_640 (by decide) (fun hc640 => ?_) (fun hc640 => ?_)
                            · replace hF := st_f hc640 hF
                              refine lv_goto (tgt := 1871) hx hb dL_law_662 (by decide) ?_
                              refine lv_iinc (v := (a4 + 6)) (lv' := [(4, .int (a4 + 6)), (6, .int r65), (5, .int r60), (0, .ref b), (1, .ref (ad 0)), (2, .ref (ad 9)), (3, .ref (ad 17))]) hx hb dL_law_1871 hl (k := 6) rfl rfl (by decide) rfl (fun ls hl => ?_)
                              refine lv_goto (tgt := 23) hx hb dL_law_1874 (by decide) ?_
                              refine W.widen (k := cells + 16) (n := slots + 96) (by omega) (by omega) ?_
                              exact ih (a4 + 6) M66 d0 hd0 (cells + 16) (slots + 96) (by omega) (by omega) H locs ls (lv_sub hl [3, 4, 5, 6, 0] rfl) hw hF
                            · replace hF := st_t hc640 hF
                              refine lv_aload_n hx hb dL_law_643 rfl (lv_at hl 5 rfl) ?_
                              refine lv_iconst (v := 0) hx hb dL_law_644 (by decide) ?_
                              refine g_lald fx hw isL_17 (k := 0) rfl (by decide) dL_law_645 ?_
                              refine lv_iload hx hb dL_law_646 (lv_at hl 0 rfl) ?_
                              refine lv_if_eq (tgt := 655) hx hb dL_law_648 (by decide) (fun hc648 => ?_) (fun hc648 => ?_)
                              · replace hF := st_t hc648 hF
                                refine lv_lconst (v := (0 : Int32).toInt64) hx hb dL_law_655 (by decide) ?_
                                refine g_lcmp hx hb dL_law_656 ?_
                                refine lv_if_eq (tgt := 662) hx hb dL_law_657 (by decide) (fun hc657 => ?_) (fun hc657 => ?_)
                                · replace hF := st_t hc657 hF
                                  refine lv_goto (tgt := 1871) hx hb dL_law_662 (by decide) ?_
                                  refine lv_iinc (v := (a4 + 6)) (lv' := [(4, .int (a4 + 6)), (6, .int r65), (5, .int r60), (0, .ref b), (1, .ref (ad 0)), (2, .ref (ad 9)), (3, .ref (ad 17))]) hx hb dL_law_1871 hl (k := 6) rfl rfl (by decide) rfl (fun ls hl => ?_)
                                  refine lv_goto (tgt := 23) hx hb dL_law_1874 (by decide) ?_
                                  refine W.widen (k := cells + 16) (n := slots + 96) (by omega) (by omega) ?_
                                  exact ih (a4 + 6) M66 d0 hd0 (cells + 16) (slots + 96) (by omega) (by omega) H locs ls (lv_sub hl [3, 4, 5, 6, 0] rfl) hw hF
                                · replace hF := st_f hc657 hF
                                  refine lv_iconst (v := 0) hx hb dL_law_660 (by decide) ?_
                                  exact nomatch hF
                              · replace hF := st_f hc648 hF
                                refine lv_lconst (v := (1 : Int32).toInt64) hx hb dL_law_651 (by decide) ?_
                                refine lv_goto (tgt := 656) hx hb dL_law_652 (by decide) ?_
                                refine g_lcmp hx hb dL_law_656 ?_
                                refine lv_if_eq (tgt := 662) hx hb dL_law_657 (by decide) (fun hc657 => ?_) (fun hc657 => ?_)
                                · replace hF := st_t hc657 hF
                                  refine lv_goto (tgt := 1871) hx hb dL_law_662 (by decide) ?_
                                  refine lv_iinc (v := (a4 + 6)) (lv' := [(4, .int (a4 + 6)), (6, .int r65), (5, .int r60), (0, .ref b), (1, .ref (ad 0)), (2, .ref (ad 9)), (3, .ref (ad 17))]) hx hb dL_law_1871 hl (k := 6) rfl rfl (by decide) rfl (fun ls hl => ?_)
                                  refine lv_goto (tgt := 23) hx hb dL_law_1874 (by decide) ?_
                                  refine W.widen (k := cells + 16) (n := slots + 96) (by omega) (by omega) ?_
                                  exact ih (a4 + 6) M66 d0 hd0 (cells + 16) (slots + 96) (by omega) (by omega) H locs ls (lv_sub hl [3, 4, 5, 6, 0] rfl) hw hF
                                · replace hF := st_f hc657 hF
                                  refine lv_iconst (v := 0) hx hb dL_law_660 (by decide) ?_
                                  exact nomatch hF
                          · replace hF := st_f hc633 hF
                            refine lv_iconst (v := 0) hx hb dL_law_636 (by decide) ?_
                            exact nomatch hF
                        · replace hF := st_f hc614 hF
                          refine lv_iconst (v := 1) hx hb dL_law_617 (by decide) ?_
                          refine lv_goto (tgt := 622) hx hb dL_law_618 (by decide) ?_
                          obtain ⟨r68, M69, hgr68, hF⟩ := st_bnd2 hF
                          refine g_cz hw (g_runV (C := RX6) (As := [.int (xs (ix (a4 + 1))), .int (xs (ix (a4 + 2))), .int 1]) (rest := []) fx hw isO_9 rfl (c_X6_has l x D cy ad (xs (ix (a4 + 1))) (xs (ix (a4 + 2))) 1 H.size M61 r68 M69 hgr68) wd5_177 wd5_178 wd5_179 wd1_8 wd5_180 yd_X6_has rfl rfl (Nat.le_of_ble_eq_true rfl) hl.1 ⟨Nat.le_trans (Nat.le_of_ble_eq_true rfl) hR.1, Nat.le_trans (Nat.le_of_ble_eq_true rfl) hR.2⟩ ⟨(by omega : _ ≤ 601024), (by omega : _ ≤ 7293034)⟩ dL_law_622) (fun H locs hbr68 hw => ?_)
                          refine lv_istore (lv' := [(6, .int r68), (5, .int r60), (0, .ref b), (1, .ref (ad 0)), (2, .ref (ad 9)), (3, .ref (ad 17)), (4, .int a4)]) hx hb dL_law_625 hl (by decide) rfl (fun ls hl => ?_)
                          refine lv_aload_n hx hb dL_law_627 rfl (lv_at hl 4 rfl) ?_
                          obtain ⟨r70, hgr70, hF⟩ := st_bnd hF
                          refine g_ci hw (g_runV (C := RX6) (As := []) (rest := []) fx hw isO_9 rfl (c_X6_thrown l x D cy ad H.size M69 r70 hgr70) wd5_77 wd5_78 wd5_79 wd1_8 wd5_80 yd_X6_thrown rfl rfl (Nat.le_of_ble_eq_true rfl) hl.1 ⟨Nat.le_trans (Nat.le_of_ble_eq_true rfl) hR.1, Nat.le_trans (Nat.le_of_ble_eq_true rfl) hR.2⟩ ⟨(by omega : _ ≤ 601024), (by omega : _ ≤ 7293034)⟩ dL_law_628) (fun H locs hw => ?_)
                          refine lv_iload hx hb dL_law_631 (lv_at hl 1 rfl) ?_
                          refine lv_icmp_eq (tgt := 638) hx hb dL_law_633 (by decide) (fun hc633 => ?_) (fun hc633 => ?_)
                          · replace hF := st_t hc633 hF
                            refine lv_iload hx hb dL_law_638 (lv_at hl 1 rfl) ?_
                            refine lv_if_ne (tgt := 662) hx hb dL_law_640 (by decide) (fun hc640 => ?_) (fun hc640 => ?_)
                            · replace hF := st_f hc640 hF
                              refine lv_goto (tgt := 1871) hx hb dL_law_662 (by decide) ?_
                              refine lv_iinc (v := (a4 + 6)) (lv' := [(4, .int (a4 + 6)), (6, .int r68), (5, .int r60), (0, .ref b), (1, .ref (ad 0)), (2, .ref (ad 9)), (3, .ref (ad 17))]) hx hb dL_law_1871 hl (k := 6) rfl rfl (by decide) rfl (fun ls hl => ?_)
                              refine lv_goto (tgt := 23) hx hb dL_law_1874 (by decide) ?_
                              refine W.widen (k := cells + 16) (n := slots + 96) (by omega) (by omega) ?_
                              exact ih (a4 + 6) M69 d0 hd0 (cells + 16) (slots + 96) (by omega) (by omega) H locs ls (lv_sub hl [3, 4, 5, 6, 0] rfl) hw hF
                            · replace hF := st_t hc640 hF
                              refine lv_aload_n hx hb dL_law_643 rfl (lv_at hl 5 rfl) ?_
                              refine lv_iconst (v := 0) hx hb dL_law_644 (by decide) ?_
                              refine g_lald fx hw isL_17 (k := 0) rfl (by decide) dL_law_645 ?_
                              refine lv_iload hx hb dL_law_646 (lv_at hl 0 rfl) ?_
                              refine lv_if_eq (tgt := 655) hx hb dL_law_648 (by decide) (fun hc648 => ?_) (fun hc648 => ?_)
                              · replace hF := st_t hc648 hF
                                refine lv_lconst (v := (0 : Int32).toInt64) hx hb dL_law_655 (by decide) ?_
                                refine g_lcmp hx hb dL_law_656 ?_
                                refine lv_if_eq (tgt := 662) hx hb dL_law_657 (by decide) (fun hc657 => ?_) (fun hc657 => ?_)
                                · replace hF := st_t hc657 hF
                                  refine lv_goto (tgt := 1871) hx hb dL_law_662 (by decide) ?_
                                  refine lv_iinc (v := (a4 + 6)) (lv' := [(4, .int (a4 + 6)), (6, .int r68), (5, .int r60), (0, .ref b), (1, .ref (ad 0)), (2, .ref (ad 9)), (3, .ref (ad 17))]) hx hb dL_law_1871 hl (k := 6) rfl rfl (by decide) rfl (fun ls hl => ?_)
                                  refine lv_goto (tgt := 23) hx hb dL_law_1874 (by decide) ?_
                                  refine W.widen (k := cells + 16) (n := slots + 96) (by omega) (by omega) ?_
                                  exact ih (a4 + 6) M69 d0 hd0 (cells + 16) (slots + 96) (by omega) (by omega) H locs ls (lv_sub hl [3, 4, 5, 6, 0] rfl) hw hF
                                · replace hF := st_f hc657 hF
                                  refine lv_iconst (v := 0) hx hb dL_law_660 (by decide) ?_
                                  exact nomatch hF
                              · replace hF := st_f hc648 hF
                                refine lv_lconst (v := (1 : Int32).toInt64) hx hb dL_law_651 (by decide) ?_
                                refine lv_goto (tgt := 656) hx hb dL_law_652 (by decide) ?_
                                refine g_lcmp hx hb dL_law_656 ?_
                                refine lv_if_eq (tgt := 662) hx hb dL_law_657 (by decide) (fun hc657 => ?_) (fun hc657 => ?_)
                                · replace hF := st_t hc657 hF
                                  refine lv_goto (tgt := 1871) hx hb dL_law_662 (by decide) ?_
                                  refine lv_iinc (v := (a4 + 6)) (lv' := [(4, .int (a4 + 6)), (6, .int r68), (5, .int r60), (0, .ref b), (1, .ref (ad 0)), (2, .ref (ad 9)), (3, .ref (ad 17))]) hx hb dL_law_1871 hl (k := 6) rfl rfl (by decide) rfl (fun ls hl => ?_)
                                  refine lv_goto (tgt := 23) hx hb dL_law_1874 (by decide) ?_
                                  refine W.widen (k := cells + 16) (n := slots + 96) (by omega) (by omega) ?_
                                  exact ih (a4 + 6) M69 d0 hd0 (cells + 16) (slots + 96) (by omega) (by omega) H locs ls (lv_sub hl [3, 4, 5, 6, 0] rfl) hw hF
                                · replace hF := st_f hc657 hF
                                  refine lv_iconst (v := 0) hx hb dL_law_660 (by decide) ?_
                                  exact nomatch hF
                          · replace hF := st_f hc633 hF
                            refine lv_iconst (v := 0) hx hb dL_law_636 (by decide) ?_
                            exact nomatch hF
                      · replace hF := st_f hc581 hF
                        refine lv_iconst (v := 1) hx hb dL_law_584 (by decide) ?_
                        refine lv_goto (tgt := 589) hx hb dL_law_585 (by decide) ?_
                        refine lv_aload_n hx hb dL_law_589 rfl (lv_at hl 3 rfl) ?_
                        obtain ⟨r71, M72, hgr71, hF⟩ := st_bnd2 hF
                        refine g_ci hw (g_runSW (As := [.ref (ad 0), .int (xs (ix (a4 + 1))), .int (xs (ix (a4 + 2))), .int 1, .ref (ad 17)]) (rest := []) fx hw (c_L_has l x D cy ad (xs (ix (a4 + 1))) (xs (ix (a4 + 2))) 1 H.size M r71 M72 hl9 hgr71) wd4_52 wd4_53 wd1_0 wd4_54 yd_L_has rfl rfl (Nat.le_of_ble_eq_true rfl) hl.1 ⟨Nat.le_trans (Nat.le_of_ble_eq_true rfl) hR.1, Nat.le_trans (Nat.le_of_ble_eq_true rfl) hR.2⟩ ⟨(by omega : _ ≤ 601024), (by omega : _ ≤ 7293034)⟩ dL_law_590) (fun H locs hw => ?_)
                        refine lv_istore (lv' := [(5, .int r71), (0, .ref b), (1, .ref (ad 0)), (2, .ref (ad 9)), (3, .ref (ad 17)), (4, .int a4)]) hx hb dL_law_593 hl (by decide) rfl (fun ls hl => ?_)
                        refine lv_aload_n hx hb dL_law_595 rfl (lv_at hl 3 rfl) ?_
                        refine lv_aload_n hx hb dL_law_596 rfl (lv_at hl 1 rfl) ?_
                        refine lv_iload hx hb dL_law_597 (lv_at hl 5 rfl) ?_
                        refine lv_iconst (v := 1) hx hb dL_law_599 (by decide) ?_
                        refine lv_iadd hx hb dL_law_600 ?_
                        obtain ⟨hi73, hF⟩ := st_chk hF
                        refine va_sld (s := s.setDrawn d0) hx hb hX hbl hbA hw.2.2 (inB_in hi73) dL_law_601 ?_
                        refine lv_aload_n hx hb dL_law_602 rfl (lv_at hl 1 rfl) ?_
                        refine lv_iload hx hb dL_law_603 (lv_at hl 5 rfl) ?_
                        refine lv_iconst (v := 2) hx hb dL_law_605 (by decide) ?_
                        refine lv_iadd hx hb dL_law_606 ?_
                        obtain ⟨hi74, hF⟩ := st_chk hF
                        refine va_sld (s := s.setDrawn d0) hx hb hX hbl hbA hw.2.2 (inB_in hi74) dL_law_607 ?_
                        refine lv_aload_n hx hb dL_law_608 rfl (lv_at hl 1 rfl) ?_
                        refine lv_iload hx hb dL_law_609 (lv_at hl 5 rfl) ?_
                        refine lv_iconst (v := 3) hx hb dL_law_611 (by decide) ?_
                        refine lv_iadd hx hb dL_law_612 ?_
                        obtain ⟨hi75, hF⟩ := st_chk hF
                        refine va_sld (s := s.setDrawn d0) hx hb hX hbl hbA hw.2.2 (inB_in hi75) dL_law_613 ?_
                        refine lv_if_eq (tgt := 621) hx hb dL_law_614 (by decide) (fun hc614 => ?_) (fun hc614 => ?_)
                        · replace hF := st_t hc614 hF
                          refine lv_iconst (v := 0) hx hb dL_law_621 (by decide) ?_
                          obtain ⟨r76, M77, hgr76, hF⟩ := st_bnd2 hF
                          refine g_cz hw (g_runV (C := RX6) (As := [.int (xs (ix (a4 + 1))), .int (xs (ix (a4 + 2))), .int 0]) (rest := []) fx hw isO_9 rfl (c_X6_has l x D cy ad (xs (ix (a4 + 1))) (xs (ix (a4 + 2))) 0 H.size M72 r76 M77 hgr76) wd5_177 wd5_178 wd5_179 wd1_8 wd5_180 yd_X6_has rfl rfl (Nat.le_of_ble_eq_true rfl) hl.1 ⟨Nat.le_trans (Nat.le_of_ble_eq_true rfl) hR.1, Nat.le_trans (Nat.le_of_ble_eq_true rfl) hR.2⟩ ⟨(by omega : _ ≤ 601024), (by omega : _ ≤ 7293034)⟩ dL_law_622) (fun H locs hbr76 hw => ?_)
                          refine lv_istore (lv' := [(6, .int r76), (5, .int r71), (0, .ref b), (1, .ref (ad 0)), (2, .ref (ad 9)), (3, .ref (ad 17)), (4, .int a4)]) hx hb dL_law_625 hl (by decide) rfl (fun ls hl => ?_)
                          refine lv_aload_n hx hb dL_law_627 rfl (lv_at hl 4 rfl) ?_
                          obtain ⟨r78, hgr78, hF⟩ := st_bnd hF
                          refine g_ci hw (g_runV (C := RX6) (As := []) (rest := []) fx hw isO_9 rfl (c_X6_thrown l x D cy ad H.size M77 r78 hgr78) wd5_77 wd5_78 wd5_79 wd1_8 wd5_80 yd_X6_thrown rfl rfl (Nat.le_of_ble_eq_true rfl) hl.1 ⟨Nat.le_trans (Nat.le_of_ble_eq_true rfl) hR.1, Nat.le_trans (Nat.le_of_ble_eq_true rfl) hR.2⟩ ⟨(by omega : _ ≤ 601024), (by omega : _ ≤ 7293034)⟩ dL_law_628) (fun H locs hw => ?_)
                          refine lv_iload hx hb dL_law_631 (lv_at hl 1 rfl) ?_
                          refine lv_icmp_eq (tgt := 638) hx hb dL_law_633 (by decide) (fun hc633 => ?_) (fun hc633 => ?_)
                          · replace hF := st_t hc633 hF
                            refine lv_iload hx hb dL_law_638 (lv_at hl 1 rfl) ?_
                            refine lv_if_ne (tgt := 662) hx hb dL_law_640 (by decide) (fun hc640 => ?_) (fun hc640 => ?_)
                            · replace hF := st_f hc640 hF
                              refine lv_goto (tgt := 1871) hx hb dL_law_662 (by decide) ?_
                              refine lv_iinc (v := (a4 + 6)) (lv' := [(4, .int (a4 + 6)), (6, .int r76), (5, .int r71), (0, .ref b), (1, .ref (ad 0)), (2, .ref (ad 9)), (3, .ref (ad 17))]) hx hb dL_law_1871 hl (k := 6) rfl rfl (by decide) rfl (fun ls hl => ?_)
                              refine lv_goto (tgt := 23) hx hb dL_law_1874 (by decide) ?_
                              refine W.widen (k := cells + 16) (n := slots + 96) (by omega) (by omega) ?_
                              exact ih (a4 + 6) M77 d0 hd0 (cells + 16) (slots + 96) (by omega) (by omega) H locs ls (lv_sub hl [3, 4, 5, 6, 0] rfl) hw hF
                            · replace hF := st_t hc640 hF
                              refine lv_aload_n hx hb dL_law_643 rfl (lv_at hl 5 rfl) ?_
                              refine lv_iconst (v := 0) hx hb dL_law_644 (by decide) ?_
                              refine g_lald fx hw isL_17 (k := 0) rfl (by decide) dL_law_645 ?_
                              refine lv_iload hx hb dL_law_646 (lv_at hl 0 rfl) ?_
                              refine lv_if_eq (tgt := 655) hx hb dL_law_648 (by decide) (fun hc648 => ?_) (fun hc648 => ?_)
                              · replace hF := st_t hc648 hF
                                refine lv_lconst (v := (0 : Int32).toInt64) hx hb dL_law_655 (by decide) ?_
                                refine g_lcmp hx hb dL_law_656 ?_
                                refine lv_if_eq (tgt := 662) hx hb dL_law_657 (by decide) (fun hc657 => ?_) (fun hc657 => ?_)
                                · replace hF := st_t hc657 hF
                                  refine lv_goto (tgt := 1871) hx hb dL_law_662 (by decide) ?_
                                  refine lv_iinc (v := (a4 + 6)) (lv' := [(4, .int (a4 + 6)), (6, .int r76), (5, .int r71), (0, .ref b), (1, .ref (ad 0)), (2, .ref (ad 9)), (3, .ref (ad 17))]) hx hb dL_law_1871 hl (k := 6) rfl rfl (by decide) rfl (fun ls hl => ?_)
                                  refine lv_goto (tgt := 23) hx hb dL_law_1874 (by decide) ?_
                                  refine W.widen (k := cells + 16) (n := slots + 96) (by omega) (by omega) ?_
                                  exact ih (a4 + 6) M77 d0 hd0 (cells + 16) (slots + 96) (by omega) (by omega) H locs ls (lv_sub hl [3, 4, 5, 6, 0] rfl) hw hF
                                · replace hF := st_f hc657 hF
                                  refine lv_iconst (v := 0) hx hb dL_law_660 (by decide) ?_
                                  exact nomatch hF
                              · replace hF := st_f hc648 hF
                                refine lv_lconst (v := (1 : Int32).toInt64) hx hb dL_law_651 (by decide) ?_
                                refine lv_goto (tgt := 656) hx hb dL_law_652 (by decide) ?_
                                refine g_lcmp hx hb dL_law_656 ?_
                                refine lv_if_eq (tgt := 662) hx hb dL_law_657 (by decide) (fun hc657 => ?_) (fun hc657 => ?_)
                                · replace hF := st_t hc657 hF
                                  refine lv_goto (tgt := 1871) hx hb dL_law_662 (by decide) ?_
                                  refine lv_iinc (v := (a4 + 6)) (lv' := [(4, .int (a4 + 6)), (6, .int r76), (5, .int r71), (0, .ref b), (1, .ref (ad 0)), (2, .ref (ad 9)), (3, .ref (ad 17))]) hx hb dL_law_1871 hl (k := 6) rfl rfl (by decide) rfl (fun ls hl => ?_)
                                  refine lv_goto (tgt := 23) hx hb dL_law_1874 (by decide) ?_
                                  refine W.widen (k := cells + 16) (n := slots + 96) (by omega) (by omega) ?_
                                  exact ih (a4 + 6) M77 d0 hd0 (cells + 16) (slots + 96) (by omega) (by omega) H locs ls (lv_sub hl [3, 4, 5, 6, 0] rfl) hw hF
                                · replace hF := st_f hc657 hF
                                  refine lv_iconst (v := 0) hx hb dL_law_660 (by decide) ?_
                                  exact nomatch hF
                          · replace hF := st_f hc633 hF
                            refine lv_iconst (v := 0) hx hb dL_law_636 (by decide) ?_
                            exact nomatch hF
                        · replace hF := st_f hc614 hF
                          refine lv_iconst (v := 1) hx hb dL_law_617 (by decide) ?_
                          refine lv_goto (tgt := 622) hx hb dL_law_618 (by decide) ?_
                          obtain ⟨r79, M80, hgr79, hF⟩ := st_bnd2 hF
                          refine g_cz hw (g_runV (C := RX6) (As := [.int (xs (ix (a4 + 1))), .int (xs (ix (a4 + 2))), .int 1]) (rest := []) fx hw isO_9 rfl (c_X6_has l x D cy ad (xs (ix (a4 + 1))) (xs (ix (a4 + 2))) 1 H.size M72 r79 M80 hgr79) wd5_177 wd5_178 wd5_179 wd1_8 wd5_180 yd_X6_has rfl rfl (Nat.le_of_ble_eq_true rfl) hl.1 ⟨Nat.le_trans (Nat.le_of_ble_eq_true rfl) hR.1, Nat.le_trans (Nat.le_of_ble_eq_true rfl) hR.2⟩ ⟨(by omega : _ ≤ 601024), (by omega : _ ≤ 7293034)⟩ dL_law_622) (fun H locs hbr79 hw => ?_)
                          refine lv_istore (lv' := [(6, .int r79), (5, .int r71), (0, .ref b), (1, .ref (ad 0)), (2, .ref (ad 9)), (3, .ref (ad 17)), (4, .int a4)]) hx hb dL_law_625 hl (by decide) rfl (fun ls hl => ?_)
                          refine lv_aload_n hx hb dL_law_627 rfl (lv_at hl 4 rfl) ?_
                          obtain ⟨r81, hgr81, hF⟩ := st_bnd hF
                          refine g_ci hw (g_runV (C := RX6) (As := []) (rest := []) fx hw isO_9 rfl (c_X6_thrown l x D cy ad H.size M80 r81 hgr81) wd5_77 wd5_78 wd5_79 wd1_8 wd5_80 yd_X6_thrown rfl rfl (Nat.le_of_ble_eq_true rfl) hl.1 ⟨Nat.le_trans (Nat.le_of_ble_eq_true rfl) hR.1, Nat.le_trans (Nat.le_of_ble_eq_true rfl) hR.2⟩ ⟨(by omega : _ ≤ 601024), (by omega : _ ≤ 7293034)⟩ dL_law_628) (fun H locs hw => ?_)
                          refine lv_iload hx hb dL_law_631 (lv_at hl 1 rfl) ?_
                          refine lv_icmp_eq (tgt := 638) hx hb dL_law_633 (by decide) (fun hc633 => ?_) (fun hc633 => ?_)
                          · replace hF := st_t hc633 hF
                            refine lv_iload hx hb dL_law_638 (lv_at hl 1 rfl) ?_
                            refine lv_if_ne (tgt := 662) hx hb dL_law_640 (by decide) (fun hc640 => ?_) (fun hc640 => ?_)
                            · replace hF := st_f hc640 hF
                              refine lv_goto (tgt := 1871) hx hb dL_law_662 (by decide) ?_
                              refine lv_iinc (v := (a4 + 6)) (lv' := [(4, .int (a4 + 6)), (6, .int r79), (5, .int r71), (0, .ref b), (1, .ref (ad 0)), (2, .ref (ad 9)), (3, .ref (ad 17))]) hx hb dL_law_1871 hl (k := 6) rfl rfl (by decide) rfl (fun ls hl => ?_)
                              refine lv_goto (tgt := 23) hx hb dL_law_1874 (by decide) ?_
                              refine W.widen (k := cells + 16) (n := slots + 96) (by omega) (by omega) ?_
                              exact ih (a4 + 6) M80 d0 hd0 (cells + 16) (slots + 96) (by omega) (by omega) H locs ls (lv_sub hl [3, 4, 5, 6, 0] rfl) hw hF
                            · replace hF := st_t hc640 hF
                              refine lv_aload_n hx hb dL_law_643 rfl (lv_at hl 5 rfl) ?_
                              refine lv_iconst (v := 0) hx hb dL_law_644 (by decide) ?_
                              refine g_lald fx hw isL_17 (k := 0) rfl (by decide) dL_law_645 ?_
                              refine lv_iload hx hb dL_law_646 (lv_at hl 0 rfl) ?_
                              refine lv_if_eq (tgt := 655) hx hb dL_law_648 (by decide) (fun hc648 => ?_) (fun hc648 => ?_)
                              · replace hF := st_t hc648 hF
                                refine lv_lconst (v := (0 : Int32).toInt64) hx hb dL_law_655 (by decide) ?_
                                refine g_lcmp hx hb dL_law_656 ?_
                                refine lv_if_eq (tgt := 662) hx hb dL_law_657 (by decide) (fun hc657 => ?_) (fun hc657 => ?_)
                                · replace hF := st_t hc657 hF
                                  refine lv_goto (tgt := 1871) hx hb dL_law_662 (by decide) ?_
                                  refine lv_iinc (v := (a4 + 6)) (lv' := [(4, .int (a4 + 6)), (6, .int r79), (5, .int r71), (0, .ref b), (1, .ref (ad 0)), (2, .ref (ad 9)), (3, .ref (ad 17))]) hx hb dL_law_1871 hl (k := 6) rfl rfl (by decide) rfl (fun ls hl => ?_)
                                  refine lv_goto (tgt := 23) hx hb dL_law_1874 (by decide) ?_
                                  refine W.widen (k := cells + 16) (n := slots + 96) (by omega) (by omega) ?_
                                  exact ih (a4 + 6) M80 d0 hd0 (cells + 16) (slots + 96) (by omega) (by omega) H locs ls (lv_sub hl [3, 4, 5, 6, 0] rfl) hw hF
                                · replace hF := st_f hc657 hF
                                  refine lv_iconst (v := 0) hx hb dL_law_660 (by decide) ?_
                                  exact nomatch hF
                              · replace hF := st_f hc648 hF
                                refine lv_lconst (v := (1 : Int32).toInt64) hx hb dL_law_651 (by decide) ?_
                                refine lv_goto (tgt := 656) hx hb dL_law_652 (by decide) ?_
                                refine g_lcmp hx hb dL_law_656 ?_
                                refine lv_if_eq (tgt := 662) hx hb dL_law_657 (by decide) (fun hc657 => ?_) (fun hc657 => ?_)
                                · replace hF := st_t hc657 hF
                                  refine lv_goto (tgt := 1871) hx hb dL_law_662 (by decide) ?_
                                  refine lv_iinc (v := (a4 + 6)) (lv' := [(4, .int (a4 + 6)), (6, .int r79), (5, .int r71), (0, .ref b), (1, .ref (ad 0)), (2, .ref (ad 9)), (3, .ref (ad 17))]) hx hb dL_law_1871 hl (k := 6) rfl rfl (by decide) rfl (fun ls hl => ?_)
                                  refine lv_goto (tgt := 23) hx hb dL_law_1874 (by decide) ?_
                                  refine W.widen (k := cells + 16) (n := slots + 96) (by omega) (by omega) ?_
                                  exact ih (a4 + 6) M80 d0 hd0 (cells + 16) (slots + 96) (by omega) (by omega) H locs ls (lv_sub hl [3, 4, 5, 6, 0] rfl) hw hF
                                · replace hF := st_f hc657 hF
                                  refine lv_iconst (v := 0) hx hb dL_law_660 (by decide) ?_
                                  exact nomatch hF
                          · replace hF := st_f hc633 hF
                            refine lv_iconst (v := 0) hx hb dL_law_636 (by decide) ?_
                            exact nomatch hF
                    · replace hF := st_f hk40_7 hF
                      by_cases hk40_8 : y2 = 8
                      · replace hF := st_t hk40_8 hF
                        subst hk40_8
                        refine lv_tableIn (off := 625) (tgt := 665) hx hb dL_law_40 (by decide) (by decide) rfl (by decide) ?_
                        refine lv_aload_n hx hb dL_law_665 rfl (lv_at hl 1 rfl) ?_
                        refine lv_aload_n hx hb dL_law_666 rfl (lv_at hl 0 rfl) ?_
                        refine lv_iload hx hb dL_law_667 (lv_at hl 4 rfl) ?_
                        refine lv_iconst (v := 1) hx hb dL_law_669 (by decide) ?_
                        refine lv_iadd hx hb dL_law_670 ?_
                        obtain ⟨hi82, hF⟩ := st_chk hF
                        refine va_sld (s := s.setDrawn d0) hx hb hX hbl hbA hw.2.2 (inB_in hi82) dL_law_671 ?_
                        refine lv_aload_n hx hb dL_law_672 rfl (lv_at hl 3 rfl) ?_
                        obtain ⟨r83, M84, hgr83, hF⟩ := st_bnd2 hF
                        refine g_ci hw (g_runSW (As := [.ref (ad 0), .int (xs (ix (a4 + 1))), .ref (ad 17)]) (rest := []) fx hw (c_L_bell l x D cy ad (xs (ix (a4 + 1))) H.size M r83 M84 hl9 hgr83) wd4_60 wd4_61 wd1_0 wd4_62 yd_L_bell rfl rfl (Nat.le_of_ble_eq_true rfl) hl.1 ⟨Nat.le_trans (Nat.le_of_ble_eq_true rfl) hR.1, Nat.le_trans (Nat.le_of_ble_eq_true rfl) hR.2⟩ ⟨(by omega : _ ≤ 601024), (by omega : _ ≤ 7293034)⟩ dL_law_673) (fun H locs hw => ?_)
                        refine lv_istore (lv' := [(5, .int r83), (0, .ref b), (1, .ref (ad 0)), (2, .ref (ad 9)), (3, .ref (ad 17)), (4, .int a4)]) hx hb dL_law_676 hl (by decide) rfl (fun ls hl => ?_)
                        refine lv_aload_n hx hb dL_law_678 rfl (lv_at hl 3 rfl) ?_
                        refine lv_aload_n hx hb dL_law_679 rfl (lv_at hl 1 rfl) ?_
                        refine lv_iload hx hb dL_law_680 (lv_at hl 5 rfl) ?_
                        refine lv_iconst (v := 1) hx hb dL_law_682 (by decide) ?_
                        refine lv_iadd hx hb dL_law_683 ?_
                        obtain ⟨hi85, hF⟩ := st_chk hF
                        refine va_sld (s := s.setDrawn d0) hx hb hX hbl hbA hw.2.2 (inB_in hi85) dL_law_684 ?_
                        obtain ⟨r86, M87, hgr86, hF⟩ := st_bnd2 hF
                        refine g_ci hw (g_runV (C := RX6) (As := [.int (xs (ix (a4 + 1)))]) (rest := []) fx hw isO_9 rfl (c_X6_bell l x D cy ad (xs (ix (a4 + 1))) H.size M84 r86 M87 hgr86) wd5_181 wd5_182 wd5_183 wd1_8 wd5_184 yd_X6_bell rfl rfl (Nat.le_of_ble_eq_true rfl) hl.1 ⟨Nat.le_trans (Nat.le_of_ble_eq_true rfl) hR.1, Nat.le_trans (Nat.le_of_ble_eq_true rfl) hR.2⟩ ⟨(by omega : _ ≤ 601024), (by omega : _ ≤ 7293034)⟩ dL_law_685) (fun H locs hw => ?_)
                        refine lv_istore (lv' := [(6, .int r86), (5, .int r83), (0, .ref b), (1, .ref (ad 0)), (2, .ref (ad 9)), (3, .ref (ad 17)), (4, .int a4)]) hx hb dL_law_688 hl (by decide) rfl (fun ls hl => ?_)
                        refine lv_aload_n hx hb dL_law_690 rfl (lv_at hl 4 rfl) ?_
                        obtain ⟨r88, hgr88, hF⟩ := st_bnd hF
                        refine g_ci hw (g_runV (C := RX6) (As := []) (rest := []) fx hw isO_9 rfl (c_X6_thrown l x D cy ad H.size M87 r88 hgr88) wd5_77 wd5_78 wd5_79 wd1_8 wd5_80 yd_X6_thrown rfl rfl (Nat.le_of_ble_eq_true rfl) hl.1 ⟨Nat.le_trans (Nat.le_of_ble_eq_true rfl) hR.1, Nat.le_trans (Nat.le_of_ble_eq_true rfl) hR.2⟩ ⟨(by omega : _ ≤ 601024), (by omega : _ ≤ 7293034)⟩ dL_law_691) (fun H locs hw => ?_)
                        refine lv_iload hx hb dL_law_694 (lv_at hl 1 rfl) ?_
                        refine lv_icmp_eq (tgt := 701) hx hb dL_law_696 (by decide) (fun hc696 => ?_) (fun hc696 => ?_)
                        · replace hF := st_t hc696 hF
                          refine lv_iload hx hb dL_law_701 (lv_at hl 1 rfl) ?_
                          refine lv_if_ne (tgt := 718) hx hb dL_law_703 (by decide) (fun hc703 => ?_) (fun hc703 => ?_)
                          · replace hF := st_f hc703 hF
                            refine lv_goto (tgt := 1871) hx hb dL_law_718 (by decide) ?_
                            refine lv_iinc (v := (a4 + 6)) (lv' := [(4, .int (a4 + 6)), (6, .int r86), (5, .int r83), (0, .ref b), (1, .ref (ad 0)), (2, .ref (ad 9)), (3, .ref (ad 17))]) hx hb dL_law_1871 hl (k := 6) rfl rfl (by decide) rfl (fun ls hl => ?_)
                            refine lv_goto (tgt := 23) hx hb dL_law_1874 (by decide) ?_
                            refine W.widen (k := cells + 16) (n := slots + 96) (by omega) (by omega) ?_
                            exact ih (a4 + 6) M87 d0 hd0 (cells + 16) (slots + 96) (by omega) (by omega) H locs ls (lv_sub hl [3, 4, 5, 6, 0] rfl) hw hF
                          · replace hF := st_t hc703 hF
                            refine lv_aload_n hx hb dL_law_706 rfl (lv_at hl 5 rfl) ?_
                            refine lv_iconst (v := 0) hx hb dL_law_707 (by decide) ?_
                            refine g_lald fx hw isL_17 (k := 0) rfl (by decide) dL_law_708 ?_
                            refine lv_iload hx hb dL_law_709 (lv_at hl 0 rfl) ?_
                            refine lv_i2l hx hb dL_law_711 rfl ?_
                            refine g_lcmp hx hb dL_law_712 ?_
                            refine lv_if_eq (tgt := 718) hx hb dL_law_713 (by decide) (fun hc713 => ?_) (fun hc713 => ?_)
                            · replace hF := st_t hc713 hF
                              refine lv_goto (tgt := 1871) hx hb dL_law_718 (by decide) ?_
                              refine lv_iinc (v := (a4 + 6)) (lv' := [(4, .int (a4 + 6)), (6, .int r86), (5, .int r83), (0, .ref b), (1, .ref (ad 0)), (2, .ref (ad 9)), (3, .ref (ad 17))]) hx hb dL_law_1871 hl (k := 6) rfl rfl (by decide) rfl (fun ls hl => ?_)
                              refine lv_goto (tgt := 23) hx hb dL_law_1874 (by decide) ?_
                              refine W.widen (k := cells + 16) (n := slots + 96) (by omega) (by omega) ?_
                              exact ih (a4 + 6) M87 d0 hd0 (cells + 16) (slots + 96) (by omega) (by omega) H locs ls (lv_sub hl [3, 4, 5, 6, 0] rfl) hw hF
                            · replace hF := st_f hc713 hF
                              refine lv_iconst (v := 0) hx hb dL_law_716 (by decide) ?_
                              exact nomatch hF
                        · replace hF := st_f hc696 hF
                          refine lv_iconst (v := 0) hx hb dL_law_699 (by decide) ?_
                          exact nomatch hF
                      · replace hF := st_f hk40_8 hF
                        by_cases hk40_9 : y2 = 9
                        · replace hF := st_t hk40_9 hF
                          subst hk40_9
                          refine lv_tableIn (off := 681) (tgt := 721) hx hb dL_law_40 (by decide) (by decide) rfl (by decide) ?_
                          refine lv_aload_n hx hb dL_law_721 rfl (lv_at hl 1 rfl) ?_
                          refine lv_aload_n hx hb dL_law_722 rfl (lv_at hl 0 rfl) ?_
                          refine lv_iload hx hb dL_law_723 (lv_at hl 4 rfl) ?_
                          refine lv_iconst (v := 1) hx hb dL_law_725 (by decide) ?_
                          refine lv_iadd hx hb dL_law_726 ?_
                          obtain ⟨hi89, hF⟩ := st_chk hF
                          refine va_sld (s := s.setDrawn d0) hx hb hX hbl hbA hw.2.2 (inB_in hi89) dL_law_727 ?_
                          refine lv_aload_n hx hb dL_law_728 rfl (lv_at hl 0 rfl) ?_
                          refine lv_iload hx hb dL_law_729 (lv_at hl 4 rfl) ?_
                          refine lv_iconst (v := 2) hx hb dL_law_731 (by decide) ?_
                          refine lv_iadd hx hb dL_law_732 ?_
                          obtain ⟨hi90, hF⟩ := st_chk hF
                          refine va_sld (s := s.setDrawn d0) hx hb hX hbl hbA hw.2.2 (inB_in hi90) dL_law_733 ?_
                          refine lv_aload_n hx hb dL_law_734 rfl (lv_at hl 0 rfl) ?_
                          refine lv_iload hx hb dL_law_735 (lv_at hl 4 rfl) ?_
                          refine lv_iconst (v := 3) hx hb dL_law_737 (by decide) ?_
                          refine lv_iadd hx hb dL_law_738 ?_
                          obtain ⟨hi91, hF⟩ := st_chk hF
                          refine va_sld (s := s.setDrawn d0) hx hb hX hbl hbA hw.2.2 (inB_in hi91) dL_law_739 ?_
                          refine lv_aload_n hx hb dL_law_740 rfl (lv_at hl 0 rfl) ?_
                          refine lv_iload hx hb dL_law_741 (lv_at hl 4 rfl) ?_
                          refine lv_iconst (v := 4) hx hb dL_law_743 (by decide) ?_
                          refine lv_iadd hx hb dL_law_744 ?_
                          obtain ⟨hi92, hF⟩ := st_chk hF
                          refine va_sld (s := s.setDrawn d0) hx hb hX hbl hbA hw.2.2 (inB_in hi92) dL_law_745 ?_
                          refine lv_aload_n hx hb dL_law_746 rfl (lv_at hl 0 rfl) ?_
                          refine lv_iload hx hb dL_law_747 (lv_at hl 4 rfl) ?_
                          refine lv_iconst (v := 5) hx hb dL_law_749 (by decide) ?_
                          refine lv_iadd hx hb dL_law_750 ?_
                          obtain ⟨hi93, hF⟩ := st_chk hF
                          refine va_sld (s := s.setDrawn d0) hx hb hX hbl hbA hw.2.2 (inB_in hi93) dL_law_751 ?_
                          refine lv_aload_n hx hb dL_law_752 rfl (lv_at hl 3 rfl) ?_
                          obtain ⟨r94, M95, hgr94, hF⟩ := st_bnd2 hF
                          refine g_ci hw (g_runSW (As := [.ref (ad 0), .int (xs (ix (a4 + 1))), .int (xs (ix (a4 + 2))), .int (xs (ix (a4 + 3))), .int (xs (ix (a4 + 4))), .int (xs (ix (a4 + 5))), .ref (ad 17)]) (rest := []) fx hw (c_L_why l x D cy ad (xs (ix (a4 + 1))) (xs (ix (a4 + 2))) (xs (ix (a4 + 3))) (xs (ix (a4 + 4))) (xs (ix (a4 + 5))) H.size M r94 M95 hl9 hgr94) wd4_71 wd4_72 wd1_0 wd4_73 yd_L_why rfl rfl (Nat.le_of_ble_eq_true rfl) hl.1 ⟨Nat.le_trans (Nat.le_of_ble_eq_true rfl) hR.1, Nat.le_trans (Nat.le_of_ble_eq_true rfl) hR.2⟩ ⟨(by omega : _ ≤ 601024), (by omega : _ ≤ 7293034)⟩ dL_law_753) (fun H locs hw => ?_)
                          refine lv_istore (lv' := [(5, .int r94), (0, .ref b), (1, .ref (ad 0)), (2, .ref (ad 9)), (3, .ref (ad 17)), (4, .int a4)]) hx hb dL_law_756 hl (by decide) rfl (fun ls hl => ?_)
                          refine lv_aload_n hx hb dL_law_758 rfl (lv_at hl 3 rfl) ?_
                          refine lv_aload_n hx hb dL_law_759 rfl (lv_at hl 1 rfl) ?_
                          refine lv_iload hx hb dL_law_760 (lv_at hl 5 rfl) ?_
                          refine lv_iconst (v := 1) hx hb dL_law_762 (by decide) ?_
                          refine lv_iadd hx hb dL_law_763 ?_
                          obtain ⟨hi96, hF⟩ := st_chk hF
                          refine va_sld (s := s.setDrawn d0) hx hb hX hbl hbA hw.2.2 (inB_in hi96) dL_law_764 ?_
                          refine lv_aload_n hx hb dL_law_765 rfl (lv_at hl 1 rfl) ?_
                          refine lv_iload hx hb dL_law_766 (lv_at hl 5 rfl) ?_
                          refine lv_iconst (v := 2) hx hb dL_law_768 (by decide) ?_
                          refine lv_iadd hx hb dL_law_769 ?_
                          obtain ⟨hi97, hF⟩ := st_chk hF
                          refine va_sld (s := s.setDrawn d0) hx hb hX hbl hbA hw.2.2 (inB_in hi97) dL_law_770 ?_
                          refine lv_aload_n hx hb dL_law_771 rfl (lv_at hl 1 rfl) ?_
                          refine lv_iload hx hb dL_law_772 (lv_at hl 5 rfl) ?_
                          refine lv_iconst (v := 3) hx hb dL_law_774 (by decide) ?_
                          refine lv_iadd hx hb dL_law_775 ?_
                          obtain ⟨hi98, hF⟩ := st_chk hF
                          refine va_sld (s := s.setDrawn d0) hx hb hX hbl hbA hw.2.2 (inB_in hi98) dL_law_776 ?_
                          refine lv_aload_n hx hb dL_law_777 rfl (lv_at hl 1 rfl) ?_
                          refine lv_iload hx hb dL_law_778 (lv_at hl 5 rfl) ?_
                          refine lv_iconst (v := 4) hx hb dL_law_780 (by decide) ?_
                          refine lv_iadd hx hb dL_law_781 ?_
                          obtain ⟨hi99, hF⟩ := st_chk hF
                          refine va_sld (s := s.setDrawn d0) hx hb hX hbl hbA hw.2.2 (inB_in hi99) dL_law_782 ?_
                          refine lv_aload_n hx hb dL_law_783 rfl (lv_at hl 1 rfl) ?_
                          refine lv_iload hx hb dL_law_784 (lv_at hl 5 rfl) ?_
                          refine lv_iconst (v := 5) hx hb dL_law_786 (by decide) ?_
                          refine lv_iadd hx hb dL_law_787 ?_
                          obtain ⟨hi100, hF⟩ := st_chk hF
                          refine va_sld (s := s.setDrawn d0) hx hb hX hbl hbA hw.2.2 (inB_in hi100) dL_law_788 ?_
                          obtain ⟨r101, M102, hgr101, hF⟩ := st_bnd2 hF
                          refine g_ci hw (g_runV (C := RX6) (As := [.int (xs (ix (a4 + 1))), .int (xs (ix (a4 + 2))), .int (xs (ix (a4 + 3))), .int (xs (ix (a4 + 4))), .int (xs (ix (a4 + 5)))]) (rest := []) fx hw isO_9 rfl (c_X6_why l x D cy ad (xs (ix (a4 + 1))) (xs (ix (a4 + 2))) (xs (ix (a4 + 3))) (xs (ix (a4 + 4))) (xs (ix (a4 + 5))) H.size M95 r101 M102 hgr101) wd5_185 wd5_186 wd5_187 wd1_8 wd5_188 yd_X6_why rfl rfl (Nat.le_of_ble_eq_true rfl) hl.1 ⟨Nat.le_trans (Nat.le_of_ble_eq_true rfl) hR.1, Nat.le_trans (Nat.le_of_ble_eq_true rfl) hR.2⟩ ⟨(by omega : _ ≤ 601024), (by omega : _ ≤ 7293034)⟩ dL_law_789) (fun H locs hw => ?_)
                          refine lv_istore (lv' := [(6, .int r101), (5, .int r94), (0, .ref b), (1, .ref (ad 0)), (2, .ref (ad 9)), (3, .ref (ad 17)), (4, .int a4)]) hx hb dL_law_792 hl (by decide) rfl (fun ls hl => ?_)
                          refine lv_aload_n hx hb dL_law_794 rfl (lv_at hl 4 rfl) ?_
                          obtain ⟨r103, hgr103, hF⟩ := st_bnd hF
                          refine g_ci hw (g_runV (C := RX6) (As := []) (rest := []) fx hw isO_9 rfl (c_X6_thrown l x D cy ad H.size M102 r103 hgr103) wd5_77 wd5_78 wd5_79 wd1_8 wd5_80 yd_X6_thrown rfl rfl (Nat.le_of_ble_eq_true rfl) hl.1 ⟨Nat.le_trans (Nat.le_of_ble_eq_true rfl) hR.1, Nat.le_trans (Nat.le_of_ble_eq_true rfl) hR.2⟩ ⟨(by omega : _ ≤ 601024), (by omega : _ ≤ 7293034)⟩ dL_law_795) (fun H locs hw => ?_)
                          refine lv_iload hx hb dL_law_798 (lv_at hl 1 rfl) ?_
                          refine lv_icmp_eq (tgt := 805) hx hb dL_law_800 (by decide) (fun hc800 => ?_) (fun hc800 => ?_)
                          · replace hF := st_t hc800 hF
                            refine lv_iload hx hb dL_law_805 (lv_at hl 1 rfl) ?_
                            refine lv_if_ne (tgt := 822) hx hb dL_law_807 (by decide) (fun hc807 => ?_) (fun hc807 => ?_)
                            · replace hF := st_f hc807 hF
                              refine lv_goto (tgt := 1871) hx hb dL_law_822 (by decide) ?_
                              refine lv_iinc (v := (a4 + 6)) (lv' := [(4, .int (a4 + 6)), (6, .int r101), (5, .int r94), (0, .ref b), (1, .ref (ad 0)), (2, .ref (ad 9)), (3, .ref (ad 17))]) hx hb dL_law_1871 hl (k := 6) rfl rfl (by decide) rfl (fun ls hl => ?_)
                              refine lv_goto (tgt := 23) hx hb dL_law_1874 (by decide) ?_
                              refine W.widen (k := cells + 16) (n := slots + 96) (by omega) (by omega) ?_
                              exact ih (a4 + 6) M102 d0 hd0 (cells + 16) (slots + 96) (by omega) (by omega) H locs ls (lv_sub hl [3, 4, 5, 6, 0] rfl) hw hF
                            · replace hF := st_t hc807 hF
                              refine lv_aload_n hx hb dL_law_810 rfl (lv_at hl 5 rfl) ?_
                              refine lv_iconst (v := 0) hx hb dL_law_811 (by decide) ?_
                              refine g_lald fx hw isL_17 (k := 0) rfl (by decide) dL_law_812 ?_
                              refine lv_iload hx hb dL_law_813 (lv_at hl 0 rfl) ?_
                              refine lv_i2l hx hb dL_law_815 rfl ?_
                              refine g_lcmp hx hb dL_law_816 ?_
                              refine lv_if_eq (tgt := 822) hx hb dL_law_817 (by decide) (fun hc817 => ?_) (fun hc817 => ?_)
                              · replace hF := st_t hc817 hF
                                refine lv_goto (tgt := 1871) hx hb dL_law_822 (by decide) ?_
                                refine lv_iinc (v := (a4 + 6)) (lv' := [(4, .int (a4 + 6)), (6, .int r101), (5, .int r94), (0, .ref b), (1, .ref (ad 0)), (2, .ref (ad 9)), (3, .ref (ad 17))]) hx hb dL_law_1871 hl (k := 6) rfl rfl (by decide) rfl (fun ls hl => ?_)
                                refine lv_goto (tgt := 23) hx hb dL_law_1874 (by decide) ?_
                                refine W.widen (k := cells + 16) (n := slots + 96) (by omega) (by omega) ?_
                                exact ih (a4 + 6) M102 d0 hd0 (cells + 16) (slots + 96) (by omega) (by omega) H locs ls (lv_sub hl [3, 4, 5, 6, 0] rfl) hw hF
                              · replace hF := st_f hc817 hF
                                refine lv_iconst (v := 0) hx hb dL_law_820 (by decide) ?_
                                exact nomatch hF
                          · replace hF := st_f hc800 hF
                            refine lv_iconst (v := 0) hx hb dL_law_803 (by decide) ?_
                            exact nomatch hF
                        · replace hF := st_f hk40_9 hF
                          by_cases hk40_10 : y2 = 10
                          · replace hF := st_t hk40_10 hF
                            subst hk40_10
                            refine lv_tableIn (off := 785) (tgt := 825) hx hb dL_law_40 (by decide) (by decide) rfl (by decide) ?_
                            refine lv_aload_n hx hb dL_law_825 rfl (lv_at hl 1 rfl) ?_
                            obtain ⟨r104, hgr104, hF⟩ := st_bnd hF
                            refine g_ci hw (g_runV (C := RX5) (As := []) (rest := []) fx hw isO_0 rfl (c_X5_gap l x D cy ad H.size M r104 hgr104) wd3_49 wd3_50 wd3_51 wd1_1 wd3_52 yd_X5_gap rfl rfl (Nat.le_of_ble_eq_true rfl) hl.1 ⟨Nat.le_trans (Nat.le_of_ble_eq_true rfl) hR.1, Nat.le_trans (Nat.le_of_ble_eq_true rfl) hR.2⟩ ⟨(by omega : _ ≤ 601024), (by omega : _ ≤ 7293034)⟩ dL_law_826) (fun H locs hw => ?_)
                            refine lv_aload_n hx hb dL_law_829 rfl (lv_at hl 2 rfl) ?_
                            obtain ⟨r105, M106, hgr105, hF⟩ := st_bnd2 hF
                            refine g_ci hw (g_runV (C := RX6) (As := []) (rest := [.int r104]) fx hw isO_9 rfl (c_X6_gap l x D cy ad H.size M r105 M106 hgr105) wd5_226 wd5_227 wd5_228 wd1_8 wd5_229 yd_X6_gap rfl rfl (Nat.le_of_ble_eq_true rfl) hl.1 ⟨Nat.le_trans (Nat.le_of_ble_eq_true rfl) hR.1, Nat.le_trans (Nat.le_of_ble_eq_true rfl) hR.2⟩ ⟨(by omega : _ ≤ 601024), (by omega : _ ≤ 7293034)⟩ dL_law_830) (fun H locs hw => ?_)
                            refine lv_icmp_eq (tgt := 1871) hx hb dL_law_833 (by decide) (fun hc833 => ?_) (fun hc833 => ?_)
                            · replace hF := st_t hc833 hF
                              refine lv_iinc (v := (a4 + 6)) (lv' := [(4, .int (a4 + 6)), (0, .ref b), (1, .ref (ad 0)), (2, .ref (ad 9)), (3, .ref (ad 17))]) hx hb dL_law_1871 hl (k := 4) rfl rfl (by decide) rfl (fun ls hl => ?_)
                              refine lv_goto (tgt := 23) hx hb dL_law_1874 (by decide) ?_
                              refine W.widen (k := cells + 16) (n := slots + 96) (by omega) (by omega) ?_
                              exact ih (a4 + 6) M106 d0 hd0 (cells + 16) (slots + 96) (by omega) (by omega) H locs ls (lv_sub hl [1, 2, 3, 4, 0] rfl) hw hF
                            · replace hF := st_f hc833 hF
                              refine lv_iconst (v := 0) hx hb dL_law_836 (by decide) ?_
                              exact nomatch hF
                          · replace hF := st_f hk40_10 hF
                            by_cases hk40_11 : y2 = 11
                            · replace hF := st_t hk40_11 hF
                              subst hk40_11
                              refine lv_tableIn (off := 798) (tgt := 838) hx hb dL_law_40 (by decide) (by decide) rfl (by decide) ?_
                              refine lv_aload_n hx hb dL_law_838 rfl (lv_at hl 1 rfl) ?_
                              obtain ⟨zr107, hgr107, hF⟩ := st_bnd hF
                              refine g_cd hd0 hw (g_runVD (C := RX5) (As := []) (rest := []) fx hw isO_0 rfl (c_X5_meanFast l x D cy ad H.size M zr107 hgr107) wd3_57 wd3_58 wd3_59 wd1_1 wd3_60 yd_X5_meanFast rfl rfl (Nat.le_of_ble_eq_true rfl) hl.1 ⟨Nat.le_trans (Nat.le_of_ble_eq_true rfl) hR.1, Nat.le_trans (Nat.le_of_ble_eq_true rfl) hR.2⟩ ⟨(by omega : _ ≤ 601024), (by omega : _ ≤ 7293034)⟩ dL_law_839) (fun r107 H locs w108 hw108 alr107 hw => ?_)
                              have fx := fx0.drawn w108
                              refine lv_dstore (lv' := [(5, .double r107), (0, .ref b), (1, .ref (ad 0)), (2, .ref (ad 9)), (3, .ref (ad 17)), (4, .int a4)]) hx hb dL_law_842 hl (by decide) rfl (fun ls hl => ?_)
                              refine lv_aload_n hx hb dL_law_844 rfl (lv_at hl 3 rfl) ?_
                              obtain ⟨zr109, M110, hgr109, hF⟩ := st_bndD hF
                              refine g_cd hw108 hw (g_runVD (C := RX6) (As := []) (rest := []) fx hw isO_9 rfl (c_X6_meanFast l x D cy ad H.size M zr109 M110 hgr109) wd5_234 wd5_235 wd5_236 wd1_8 wd5_237 yd_X6_meanFast rfl rfl (Nat.le_of_ble_eq_true rfl) hl.1 ⟨Nat.le_trans (Nat.le_of_ble_eq_true rfl) hR.1, Nat.le_trans (Nat.le_of_ble_eq_true rfl) hR.2⟩ ⟨(by omega : _ ≤ 601024), (by omega : _ ≤ 7293034)⟩ dL_law_845) (fun r109 H locs w111 hw111 alr109 hw => ?_)
                              have fx := fx0.drawn w111
                              refine lv_dstore (lv' := [(7, .double r109), (5, .double r107), (0, .ref b), (1, .ref (ad 0)), (2, .ref (ad 9)), (3, .ref (ad 17)), (4, .int a4)]) hx hb dL_law_848 hl (by decide) rfl (fun ls hl => ?_)
                              refine lv_dload hx hb dL_law_850 (lv_at hl 1 rfl) ?_
                              refine lv_dload hx hb dL_law_852 (lv_at hl 0 rfl) ?_
                              by_cases hz854 : zr107 = zr109
                              · replace hF := st_t hz854 hF
                                have hv := cmp_al alr107 (by rw [hz854]; exact alr109)
                                refine lv_dcmp hx hb dL_law_854 ?_
                                refine lv_if_eq (tgt := 876) hx hb dL_law_855 (by decide) (fun h0 => ?_) (fun h0 => ?_)
                                · refine lv_goto (tgt := 1871) hx hb dL_law_876 (by decide) ?_
                                  refine lv_iinc (v := (a4 + 6)) (lv' := [(4, .int (a4 + 6)), (7, .double r109), (5, .double r107), (0, .ref b), (1, .ref (ad 0)), (2, .ref (ad 9)), (3, .ref (ad 17))]) hx hb dL_law_1871 hl (k := 6) rfl rfl (by decide) rfl (fun ls hl => ?_)
                                  refine lv_goto (tgt := 23) hx hb dL_law_1874 (by decide) ?_
                                  refine W.widen (k := cells + 16) (n := slots + 96) (by omega) (by omega) ?_
                                  exact ih (a4 + 6) M110 w111 hw111 (cells + 16) (slots + 96) (by omega) (by omega) H locs ls (lv_sub hl [3, 4, 5, 6, 0] rfl) hw hF
                                · refine lv_dload hx hb dL_law_858 (lv_at hl 1 rfl) ?_
                                  refine lv_dload hx hb dL_law_860 (lv_at hl 1 rfl) ?_
                                  refine lv_dcmp hx hb dL_law_862 ?_
                                  refine lv_if_eq (tgt := 874) hx hb dL_law_863 (by decide) (fun h => absurd h (hv.resolve_left h0).1) (fun _ => ?_)
                                  refine lv_dload hx hb dL_law_866 (lv_at hl 0 rfl) ?_
                                  refine lv_dload hx hb dL_law_868 (lv_at hl 0 rfl) ?_
                                  refine lv_dcmp hx hb dL_law_870 ?_
                                  refine lv_if_ne (tgt := 876) hx hb dL_law_871 (by decide) (fun _ => ?_) (fun h => absurd h (hv.resolve_left h0).2)
                                  refine lv_goto (tgt := 1871) hx hb dL_law_876 (by decide) ?_
                                  refine lv_iinc (v := (a4 + 6)) (lv' := [(4, .int (a4 + 6)), (7, .double r109), (5, .double r107), (0, .ref b), (1, .ref (ad 0)), (2, .ref (ad 9)), (3, .ref (ad 17))]) hx hb dL_law_1871 hl (k := 6) rfl rfl (by decide) rfl (fun ls hl => ?_)
                                  refine lv_goto (tgt := 23) hx hb dL_law_1874 (by decide) ?_
                                  refine W.widen (k := cells + 16) (n := slots + 96) (by omega) (by omega) ?_
                                  exact ih (a4 + 6) M110 w111 hw111 (cells + 16) (slots + 96) (by omega) (by omega) H locs ls (lv_sub hl [3, 4, 5, 6, 0] rfl) hw hF
                              · replace hF := st_f hz854 hF
                                exact nomatch hF
                            · replace hF := st_f hk40_11 hF
                              by_cases hk40_12 : y2 = 12
                              · replace hF := st_t hk40_12 hF
                                subst hk40_12
                                refine lv_tableIn (off := 839) (tgt := 879) hx hb dL_law_40 (by decide) (by decide) rfl (by decide) ?_
                                refine lv_aload_n hx hb dL_law_879 rfl (lv_at hl 1 rfl) ?_
                                obtain ⟨zr112, hgr112, hF⟩ := st_bnd hF
                                refine g_cf hd0 hw (g_runVD (C := RX5) (As := []) (rest := []) fx hw isO_0 rfl (c_X5_breachShare l x D cy ad H.size M zr112 hgr112) wd3_61 wd3_62 wd3_63 wd1_1 wd3_64 yd_X5_breachShare rfl rfl (Nat.le_of_ble_eq_true rfl) hl.1 ⟨Nat.le_trans (Nat.le_of_ble_eq_true rfl) hR.1, Nat.le_trans (Nat.le_of_ble_eq_true rfl) hR.2⟩ ⟨(by omega : _ ≤ 601024), (by omega : _ ≤ 7293034)⟩ dL_law_880) (fun r112 H locs w113 hw113 alr112 hw => ?_)
                                have fx := fx0.drawn w113
                                refine lv_f2d_any hw113 lw_bits hx hb dL_law_883 (fun d114 w115 ald114 hw115 => ?_)
                                have fx := fx0.drawn w115
                                refine lv_dstore (lv' := [(5, .double d114), (0, .ref b), (1, .ref (ad 0)), (2, .ref (ad 9)), (3, .ref (ad 17)), (4, .int a4)]) hx hb dL_law_884 hl (by decide) rfl (fun ls hl => ?_)
                                refine lv_aload_n hx hb dL_law_886 rfl (lv_at hl 3 rfl) ?_
                                obtain ⟨zr116, M117, hgr116, hF⟩ := st_bndD hF
                                refine g_cf hw115 hw (g_runVD (C := RX6) (As := []) (rest := []) fx hw isO_9 rfl (c_X6_breachShare l x D cy ad H.size M zr116 M117 hgr116) wd5_238 wd5_239 wd6_0 wd1_8 wd6_1 yd_X6_breachShare rfl rfl (Nat.le_of_ble_eq_true rfl) hl.1 ⟨Nat.le_trans (Nat.le_of_ble_eq_true rfl) hR.1, Nat.le_trans (Nat.le_of_ble_eq_true rfl) hR.2⟩ ⟨(by omega : _ ≤ 601024), (by omega : _ ≤ 7293034)⟩ dL_law_887) (fun r116 H locs w118 hw118 alr116 hw => ?_)
                                have fx := fx0.drawn w118
                                refine lv_f2d_any hw118 lw_bits hx hb dL_law_890 (fun d119 w120 ald119 hw120 => ?_)
                                have fx := fx0.drawn w120
                                refine lv_dstore (lv' := [(7, .double d119), (5, .double d114), (0, .ref b), (1, .ref (ad 0)), (2, .ref (ad 9)), (3, .ref (ad 17)), (4, .int a4)]) hx hb dL_law_891 hl (by decide) rfl (fun ls hl => ?_)
                                refine lv_dload hx hb dL_law_893 (lv_at hl 1 rfl) ?_
                                refine lv_dload hx hb dL_law_895 (lv_at hl 0 rfl) ?_
                                by_cases hz897 : (FP.f2d zr112) = (FP.f2d zr116)
                                · replace hF := st_t hz897 hF
                                  have hv := cmp_al (al_f2d alr112 ald114) (by rw [hz897]; exact (al_f2d alr116 ald119))
                                  refine lv_dcmp hx hb dL_law_897 ?_
                                  refine lv_if_eq (tgt := 919) hx hb dL_law_898 (by decide) (fun h0 => ?_) (fun h0 => ?_)
                                  · refine lv_goto (tgt := 1871) hx hb dL_law_919 (by decide) ?_
                                    refine lv_iinc (v := (a4 + 6)) (lv' := [(4, .int (a4 + 6)), (7, .double d119), (5, .double d114), (0, .ref b), (1, .ref (ad 0)), (2, .ref (ad 9)), (3, .ref (ad 17))]) hx hb dL_law_1871 hl (k := 6) rfl rfl (by decide) rfl (fun ls hl => ?_)
                                    refine lv_goto (tgt := 23) hx hb dL_law_1874 (by decide) ?_
                                    refine W.widen (k := cells + 16) (n := slots + 96) (by omega) (by omega) ?_
                                    exact ih (a4 + 6) M117 w120 hw120 (cells + 16) (slots + 96) (by omega) (by omega) H locs ls (lv_sub hl [3, 4, 5, 6, 0] rfl) hw hF
                                  · refine lv_dload hx hb dL_law_901 (lv_at hl 1 rfl) ?_
                                    refine lv_dload hx hb dL_law_903 (lv_at hl 1 rfl) ?_
                                    refine lv_dcmp hx hb dL_law_905 ?_
                                    refine lv_if_eq (tgt := 917) hx hb dL_law_906 (by decide) (fun h => absurd h (hv.resolve_left h0).1) (fun _ => ?_)
                                    refine lv_dload hx hb dL_law_909 (lv_at hl 0 rfl) ?_
                                    refine lv_dload hx hb dL_law_911 (lv_at hl 0 rfl) ?_
                                    refine lv_dcmp hx hb dL_law_913 ?_
                                    refine lv_if_ne (tgt := 919) hx hb dL_law_914 (by decide) (fun _ => ?_) (fun h => absurd h (hv.resolve_left h0).2)
                                    refine lv_goto (tgt := 1871) hx hb dL_law_919 (by decide) ?_
                                    refine lv_iinc (v := (a4 + 6)) (lv' := [(4, .int (a4 + 6)), (7, .double d119), (5, .double d114), (0, .ref b), (1, .ref (ad 0)), (2, .ref (ad 9)), (3, .ref (ad 17))]) hx hb dL_law_1871 hl (k := 6) rfl rfl (by decide) rfl (fun ls hl => ?_)
                                    refine lv_goto (tgt := 23) hx hb dL_law_1874 (by decide) ?_
                                    refine W.widen (k := cells + 16) (n := slots + 96) (by omega) (by omega) ?_
                                    exact ih (a4 + 6) M117 w120 hw120 (cells + 16) (slots + 96) (by omega) (by omega) H locs ls (lv_sub hl [3, 4, 5, 6, 0] rfl) hw hF
                                · replace hF := st_f hz897 hF
                                  exact nomatch hF
                              · replace hF := st_f hk40_12 hF
                                by_cases hk40_13 : y2 = 13
                                · replace hF := st_t hk40_13 hF
                                  subst hk40_13
                                  refine lv_tableIn (off := 882) (tgt := 922) hx hb dL_law_40 (by decide) (by decide) rfl (by decide) ?_
                                  refine lv_aload_n hx hb dL_law_922 rfl (lv_at hl 1 rfl) ?_
                                  refine lv_aload_n hx hb dL_law_923 rfl (lv_at hl 0 rfl) ?_
                                  refine lv_iload hx hb dL_law_924 (lv_at hl 4 rfl) ?_
                                  refine lv_iconst (v := 1) hx hb dL_law_926 (by decide) ?_
                                  refine lv_iadd hx hb dL_law_927 ?_
                                  obtain ⟨hi121, hF⟩ := st_chk hF
                                  refine va_sld (s := s.setDrawn d0) hx hb hX hbl hbA hw.2.2 (inB_in hi121) dL_law_928 ?_
                                  obtain ⟨r122, hgr122, hF⟩ := st_bnd hF
                                  refine g_ci hw (g_runV (C := RX5) (As := [.int (xs (ix (a4 + 1)))]) (rest := []) fx hw isO_0 rfl (c_X5_ranked l x D cy ad (xs (ix (a4 + 1))) H.size M r122 hgr122) wd3_65 wd3_66 wd3_67 wd1_1 wd3_68 yd_X5_ranked rfl rfl (Nat.le_of_ble_eq_true rfl) hl.1 ⟨Nat.le_trans (Nat.le_of_ble_eq_true rfl) hR.1, Nat.le_trans (Nat.le_of_ble_eq_true rfl) hR.2⟩ ⟨(by omega : _ ≤ 601024), (by omega : _ ≤ 7293034)⟩ dL_law_929) (fun H locs hw => ?_)
                                  refine lv_aload_n hx hb dL_law_932 rfl (lv_at hl 2 rfl) ?_
                                  refine lv_aload_n hx hb dL_law_933 rfl (lv_at hl 0 rfl) ?_
                                  refine lv_iload hx hb dL_law_934 (lv_at hl 4 rfl) ?_
                                  refine lv_iconst (v := 1) hx hb dL_law_936 (by decide) ?_
                                  refine lv_iadd hx hb dL_law_937 ?_
                                  obtain ⟨hi123, hF⟩ := st_chk hF
                                  refine va_sld (s := s.setDrawn d0) hx hb hX hbl hbA hw.2.2 (inB_in hi123) dL_law_938 ?_
                                  obtain ⟨r124, M125, hgr124, hF⟩ := st_bnd2 hF
                                  refine g_ci hw (g_runV (C := RX6) (As := [.int (xs (ix (a4 + 1)))]) (rest := [.int r122]) fx hw isO_9 rfl (c_X6_ranked l x D cy ad (xs (ix (a4 + 1))) H.size M r124 M125 hgr124) wd6_2 wd6_3 wd6_4 wd1_8 wd6_5 yd_X6_ranked rfl rfl (Nat.le_of_ble_eq_true rfl) hl.1 ⟨Nat.le_trans (Nat.le_of_ble_eq_true rfl) hR.1, Nat.le_trans (Nat.le_of_ble_eq_true rfl) hR.2⟩ ⟨(by omega : _ ≤ 601024), (by omega : _ ≤ 7293034)⟩ dL_law_939) (fun H locs hw => ?_)
                                  refine lv_icmp_eq (tgt := 1871) hx hb dL_law_942 (by decide) (fun hc942 => ?_) (fun hc942 => ?_)
                                  · replace hF := st_t hc942 hF
                                    refine lv_iinc (v := (a4 + 6)) (lv' := [(4, .int (a4 + 6)), (0, .ref b), (1, .ref (ad 0)), (2, .ref (ad 9)), (3, .ref (ad 17))]) hx hb dL_law_1871 hl (k := 4) rfl rfl (by decide) rfl (fun ls hl => ?_)
                                    refine lv_goto (tgt := 23) hx hb dL_law_1874 (by decide) ?_
                                    refine W.widen (k := cells + 16) (n := slots + 96) (by omega) (by omega) ?_
                                    exact ih (a4 + 6) M125 d0 hd0 (cells + 16) (slots + 96) (by omega) (by omega) H locs ls (lv_sub hl [1, 2, 3, 4, 0] rfl) hw hF
                                  · replace hF := st_f hc942 hF
                                    refine lv_iconst (v := 0) hx hb dL_law_945 (by decide) ?_
                                    exact nomatch hF
                                · replace hF := st_f hk40_13 hF
                                  by_cases hk40_14 : y2 = 14
                                  · replace hF := st_t hk40_14 hF
                                    subst hk40_14
                                    refine lv_tableIn (off := 907) (tgt := 947) hx hb dL_law_40 (by decide) (by decide) rfl (by decide) ?_
                                    refine lv_aload_n hx hb dL_law_947 rfl (lv_at hl 1 rfl) ?_
                                    refine lv_aload_n hx hb dL_law_948 rfl (lv_at hl 0 rfl) ?_
                                    refine lv_iload hx hb dL_law_949 (lv_at hl 4 rfl) ?_
                                    refine lv_iconst (v := 1) hx hb dL_law_951 (by decide) ?_
                                    refine lv_iadd hx hb dL_law_952 ?_
                                    obtain ⟨hi126, hF⟩ := st_chk hF
                                    refine va_sld (s := s.setDrawn d0) hx hb hX hbl hbA hw.2.2 (inB_in hi126) dL_law_953 ?_
                                    refine lv_aload_n hx hb dL_law_954 rfl (lv_at hl 0 rfl) ?_
                                    refine lv_iload hx hb dL_law_955 (lv_at hl 4 rfl) ?_
                                    refine lv_iconst (v := 2) hx hb dL_law_957 (by decide) ?_
                                    refine lv_iadd hx hb dL_law_958 ?_
                                    obtain ⟨hi127, hF⟩ := st_chk hF
                                    refine va_sld (s := s.setDrawn d0) hx hb hX hbl hbA hw.2.2 (inB_in hi127) dL_law_959 ?_
                                    refine lv_aload_n hx hb dL_law_960 rfl (lv_at hl 0 rfl) ?_
                                    refine lv_iload hx hb dL_law_961 (lv_at hl 4 rfl) ?_
                                    refine lv_iconst (v := 3) hx hb dL_law_963 (by decide) ?_
                                    refine lv_iadd hx hb dL_law_964 ?_
                                    obtain ⟨hi128, hF⟩ := st_chk hF
                                    refine va_sld (s := s.setDrawn d0) hx hb hX hbl hbA hw.2.2 (inB_in hi128) dL_law_965 ?_
                                    refine lv_aload_n hx hb dL_law_966 rfl (lv_at hl 3 rfl) ?_
                                    obtain ⟨r129, M130, hgr129, hF⟩ := st_bnd2 hF
                                    refine g_ci hw (g_runSW (As := [.ref (ad 0), .int (xs (ix (a4 + 1))), .int (xs (ix (a4 + 2))), .int (xs (ix (a4 + 3))), .ref (ad 17)]) (rest := []) fx hw (c_L_bestWay l x D cy ad (xs (ix (a4 + 1))) (xs (ix (a4 + 2))) (xs (ix (a4 + 3))) H.size M r129 M130 hl9 hgr129) wd4_103 wd4_104 wd1_0 wd4_105 yd_L_bestWay rfl rfl (Nat.le_of_ble_eq_true rfl) hl.1 ⟨Nat.le_trans (Nat.le_of_ble_eq_true rfl) hR.1, Nat.le_trans (Nat.le_of_ble_eq_true rfl) hR.2⟩ ⟨(by omega : _ ≤ 601024), (by omega : _ ≤ 7293034)⟩ dL_law_967) (fun H locs hw => ?_)
                                    refine lv_istore (lv' := [(5, .int r129), (0, .ref b), (1, .ref (ad 0)), (2, .ref (ad 9)), (3, .ref (ad 17)), (4, .int a4)]) hx hb dL_law_970 hl (by decide) rfl (fun ls hl => ?_)
                                    refine lv_aload_n hx hb dL_law_972 rfl (lv_at hl 3 rfl) ?_
                                    refine lv_aload_n hx hb dL_law_973 rfl (lv_at hl 1 rfl) ?_
                                    refine lv_iload hx hb dL_law_974 (lv_at hl 5 rfl) ?_
                                    refine lv_iconst (v := 1) hx hb dL_law_976 (by decide) ?_
                                    refine lv_iadd hx hb dL_law_977 ?_
                                    obtain ⟨hi131, hF⟩ := st_chk hF
                                    refine va_sld (s := s.setDrawn d0) hx hb hX hbl hbA hw.2.2 (inB_in hi131) dL_law_978 ?_
                                    refine lv_aload_n hx hb dL_law_979 rfl (lv_at hl 1 rfl) ?_
                                    refine lv_iload hx hb dL_law_980 (lv_at hl 5 rfl) ?_
                                    refine lv_iconst (v := 2) hx hb dL_law_982 (by decide) ?_
                                    refine lv_iadd hx hb dL_law_983 ?_
                                    obtain ⟨hi132, hF⟩ := st_chk hF
                                    refine va_sld (s := s.setDrawn d0) hx hb hX hbl hbA hw.2.2 (inB_in hi132) dL_law_984 ?_
                                    refine lv_aload_n hx hb dL_law_985 rfl (lv_at hl 1 rfl) ?_
                                    refine lv_iload hx hb dL_law_986 (lv_at hl 5 rfl) ?_
                                    refine lv_iconst (v := 3) hx hb dL_law_988 (by decide) ?_
                                    refine lv_iadd hx hb dL_law_989 ?_
                                    obtain ⟨hi133, hF⟩ := st_chk hF
                                    refine va_sld (s := s.setDrawn d0) hx hb hX hbl hbA hw.2.2 (inB_in hi133) dL_law_990 ?_
                                    obtain ⟨r134, M135, hgr134, hF⟩ := st_bnd2 hF
                                    refine g_ci hw (g_runV (C := RX6) (As := [.int (xs (ix (a4 + 1))), .int (xs (ix (a4 + 2))), .int (xs (ix (a4 + 3)))]) (rest := []) fx hw isO_9 rfl (c_X6_bestWay l x D cy ad (xs (ix (a4 + 1))) (xs (ix (a4 + 2))) (xs (ix (a4 + 3))) H.size M130 r134 M135 hgr134) wd6_10 wd6_11 wd6_12 wd1_8 wd6_13 yd_X6_bestWay rfl rfl (Nat.le_of_ble_eq_true rfl) hl.1 ⟨Nat.le_trans (Nat.le_of_ble_eq_true rfl) hR.1, Nat.le_trans (Nat.le_of_ble_eq_true rfl) hR.2⟩ ⟨(by omega : _ ≤ 601024), (by omega : _ ≤ 7293034)⟩ dL_law_991) (fun H locs hw => ?_)
                                    refine lv_istore (lv' := [(6, .int r134), (5, .int r129), (0, .ref b), (1, .ref (ad 0)), (2, .ref (ad 9)), (3, .ref (ad 17)), (4, .int a4)]) hx hb dL_law_994 hl (by decide) rfl (fun ls hl => ?_)
                                    refine lv_aload_n hx hb dL_law_996 rfl (lv_at hl 4 rfl) ?_
                                    obtain ⟨r136, hgr136, hF⟩ := st_bnd hF
                                    refine g_ci hw (g_runV (C := RX6) (As := []) (rest := []) fx hw isO_9 rfl (c_X6_thrown l x D cy ad H.size M135 r136 hgr136) wd5_77 wd5_78 wd5_79 wd1_8 wd5_80 yd_X6_thrown rfl rfl (Nat.le_of_ble_eq_true rfl) hl.1 ⟨Nat.le_trans (Nat.le_of_ble_eq_true rfl) hR.1, Nat.le_trans (Nat.le_of_ble_eq_true rfl) hR.2⟩ ⟨(by omega : _ ≤ 601024), (by omega : _ ≤ 7293034)⟩ dL_law_997) (fun H locs hw => ?_)
                                    refine lv_iload hx hb dL_law_1000 (lv_at hl 1 rfl) ?_
                                    refine lv_icmp_eq (tgt := 1007) hx hb dL_law_1002 (by decide) (fun hc1002 => ?_) (fun hc1002 => ?_)
                                    · replace hF := st_t hc1002 hF
                                      refine lv_iload hx hb dL_law_1007 (lv_at hl 1 rfl) ?_
                                      refine lv_if_ne (tgt := 1024) hx hb dL_law_1009 (by decide) (fun hc1009 => ?_) (fun hc1009 => ?_)
                                      · replace hF := st_f hc1009 hF
                                        refine lv_goto (tgt := 1871) hx hb dL_law_1024 (by decide) ?_
                                        refine lv_iinc (v := (a4 + 6)) (lv' := [(4, .int (a4 + 6)), (6, .int r134), (5, .int r129), (0, .ref b), (1, .ref (ad 0)), (2, .ref (ad 9)), (3, .ref (ad 17))]) hx hb dL_law_1871 hl (k := 6) rfl rfl (by decide) rfl (fun ls hl => ?_)
                                        refine lv_goto (tgt := 23) hx hb dL_law_1874 (by decide) ?_
                                        refine W.widen (k := cells + 16) (n := slots + 96) (by omega) (by omega) ?_
                                        exact ih (a4 + 6) M135 d0 hd0 (cells + 16) (slots + 96) (by omega) (by omega) H locs ls (lv_sub hl [3, 4, 5, 6, 0] rfl) hw hF
                                      · replace hF := st_t hc1009 hF
                                        refine lv_aload_n hx hb dL_law_1012 rfl (lv_at hl 5 rfl) ?_
                                        refine lv_iconst (v := 0) hx hb dL_law_1013 (by decide) ?_
                                        refine g_lald fx hw isL_17 (k := 0) rfl (by decide) dL_law_1014 ?_
                                        refine lv_iload hx hb dL_law_1015 (lv_at hl 0 rfl) ?_
                                        refine lv_i2l hx hb dL_law_1017 rfl ?_
                                        refine g_lcmp hx hb dL_law_1018 ?_
                                        refine lv_if_eq (tgt := 1024) hx hb dL_law_1019 (by decide) (fun hc1019 => ?_) (fun hc1019 => ?_)
                                        · replace hF := st_t hc1019 hF
                                          refine lv_goto (tgt := 1871) hx hb dL_law_1024 (by decide) ?_
                                          refine lv_iinc (v := (a4 + 6)) (lv' := [(4, .int (a4 + 6)), (6, .int r134), (5, .int r129), (0, .ref b), (1, .ref (ad 0)), (2, .ref (ad 9)), (3, .ref (ad 17))]) hx hb dL_law_1871 hl (k := 6) rfl rfl (by decide) rfl (fun ls hl => ?_)
                                          refine lv_goto (tgt := 23) hx hb dL_law_1874 (by decide) ?_
                                          refine W.widen (k := cells + 16) (n := slots + 96) (by omega) (by omega) ?_
                                          exact ih (a4 + 6) M135 d0 hd0 (cells + 16) (slots + 96) (by omega) (by omega) H locs ls (lv_sub hl [3, 4, 5, 6, 0] rfl) hw hF
                                        · replace hF := st_f hc1019 hF
                                          refine lv_iconst (v := 0) hx hb dL_law_1022 (by decide) ?_
                                          exact nomatch hF
                                    · replace hF := st_f hc1002 hF
                                      refine lv_iconst (v := 0) hx hb dL_law_1005 (by decide) ?_
                                      exact nomatch hF
                                  · replace hF := st_f hk40_14 hF
                                    by_cases hk40_15 : y2 = 15
                                    · replace hF := st_t hk40_15 hF
                                      subst hk40_15
                                      refine lv_tableIn (off := 987) (tgt := 1027) hx hb dL_law_40 (by decide) (by decide) rfl (by decide) ?_
                                      refine lv_aload_n hx hb dL_law_1027 rfl (lv_at hl 1 rfl) ?_
                                      obtain ⟨r137, hgr137, hF⟩ := st_bnd hF
                                      refine g_ci hw (g_runV (C := RX5) (As := []) (rest := []) fx hw isO_0 rfl (c_X5_speechIn l x D cy ad H.size M r137 hgr137) wd3_77 wd3_78 wd3_79 wd1_1 wd3_80 yd_X5_speechIn rfl rfl (Nat.le_of_ble_eq_true rfl) hl.1 ⟨Nat.le_trans (Nat.le_of_ble_eq_true rfl) hR.1, Nat.le_trans (Nat.le_of_ble_eq_true rfl) hR.2⟩ ⟨(by omega : _ ≤ 601024), (by omega : _ ≤ 7293034)⟩ dL_law_1028) (fun H locs hw => ?_)
                                      refine lv_aload_n hx hb dL_law_1031 rfl (lv_at hl 2 rfl) ?_
                                      obtain ⟨r138, M139, hgr138, hF⟩ := st_bnd2 hF
                                      refine g_ci hw (g_runV (C := RX6) (As := []) (rest := [.int r137]) fx hw isO_9 rfl (c_X6_speechIn l x D cy ad H.size M r138 M139 hgr138) wd6_18 wd6_19 wd6_20 wd1_8 wd6_21 yd_X6_speechIn rfl rfl (Nat.le_of_ble_eq_true rfl) hl.1 ⟨Nat.le_trans (Nat.le_of_ble_eq_true rfl) hR.1, Nat.le_trans (Nat.le_of_ble_eq_true rfl) hR.2⟩ ⟨(by omega : _ ≤ 601024), (by omega : _ ≤ 7293034)⟩ dL_law_1032) (fun H locs hw => ?_)
                                      refine lv_icmp_eq (tgt := 1871) hx hb dL_law_1035 (by decide) (fun hc1035 => ?_) (fun hc1035 => ?_)
                                      · replace hF := st_t hc1035 hF
                                        refine lv_iinc (v := (a4 + 6)) (lv' := [(4, .int (a4 + 6)), (0, .ref b), (1, .ref (ad 0)), (2, .ref (ad 9)), (3, .ref (ad 17))]) hx hb dL_law_1871 hl (k := 4) rfl rfl (by decide) rfl (fun ls hl => ?_)
                                        refine lv_goto (tgt := 23) hx hb dL_law_1874 (by decide) ?_
                                        refine W.widen (k := cells + 16) (n := slots + 96) (by omega) (by omega) ?_
                                        exact ih (a4 + 6) M139 d0 hd0 (cells + 16) (slots + 96) (by omega) (by omega) H locs ls (lv_sub hl [1, 2, 3, 4, 0] rfl) hw hF
                                      · replace hF := st_f hc1035 hF
                                        refine lv_iconst (v := 0) hx hb dL_law_1038 (by decide) ?_
                                        exact nomatch hF
                                    · replace hF := st_f hk40_15 hF
                                      by_cases hk40_16 : y2 = 16
                                      · replace hF := st_t hk40_16 hF
                                        subst hk40_16
                                        refine lv_tableIn (off := 1000) (tgt := 1040) hx hb dL_law_40 (by decide) (by decide) rfl (by decide) ?_
                                        refine lv_aload_n hx hb dL_law_1040 rfl (lv_at hl 1 rfl) ?_
                                        refine lv_aload_n hx hb dL_law_1041 rfl (lv_at hl 0 rfl) ?_
                                        refine lv_iload hx hb dL_law_1042 (lv_at hl 4 rfl) ?_
                                        refine lv_iconst (v := 1) hx hb dL_law_1044 (by decide) ?_
                                        refine lv_iadd hx hb dL_law_1045 ?_
                                        obtain ⟨hi140, hF⟩ := st_chk hF
                                        refine va_sld (s := s.setDrawn d0) hx hb hX hbl hbA hw.2.2 (inB_in hi140) dL_law_1046 ?_
                                        refine lv_aload_n hx hb dL_law_1047 rfl (lv_at hl 3 rfl) ?_
                                        obtain ⟨r141, M142, hgr141, hF⟩ := st_bnd2 hF
                                        refine g_ci hw (g_runSW (As := [.ref (ad 0), .int (xs (ix (a4 + 1))), .ref (ad 17)]) (rest := []) fx hw (c_L_fastIn l x D cy ad (xs (ix (a4 + 1))) H.size M r141 M142 hl9 hgr141) wd4_115 wd4_116 wd1_0 wd4_117 yd_L_fastIn rfl rfl (Nat.le_of_ble_eq_true rfl) hl.1 ⟨Nat.le_trans (Nat.le_of_ble_eq_true rfl) hR.1, Nat.le_trans (Nat.le_of_ble_eq_true rfl) hR.2⟩ ⟨(by omega : _ ≤ 601024), (by omega : _ ≤ 7293034)⟩ dL_law_1048) (fun H locs hw => ?_)
                                        refine lv_istore (lv' := [(5, .int r141), (0, .ref b), (1, .ref (ad 0)), (2, .ref (ad 9)), (3, .ref (ad 17)), (4, .int a4)]) hx hb dL_law_1051 hl (by decide) rfl (fun ls hl => ?_)
                                        refine lv_aload_n hx hb dL_law_1053 rfl (lv_at hl 3 rfl) ?_
                                        refine lv_aload_n hx hb dL_law_1054 rfl (lv_at hl 1 rfl) ?_
                                        refine lv_iload hx hb dL_law_1055 (lv_at hl 5 rfl) ?_
                                        refine lv_iconst (v := 1) hx hb dL_law_1057 (by decide) ?_
                                        refine lv_iadd hx hb dL_law_1058 ?_
                                        obtain ⟨hi143, hF⟩ := st_chk hF
                                        refine va_sld (s := s.setDrawn d0) hx hb hX hbl hbA hw.2.2 (inB_in hi143) dL_law_1059 ?_
                                        obtain ⟨r144, M145, hgr144, hF⟩ := st_bnd2 hF
                                        refine g_ci hw (g_runV (C := RX6) (As := [.int (xs (ix (a4 + 1)))]) (rest := []) fx hw isO_9 rfl (c_X6_fastIn l x D cy ad (xs (ix (a4 + 1))) H.size M142 r144 M145 hgr144) wd6_22 wd6_23 wd6_24 wd1_8 wd6_25 yd_X6_fastIn rfl rfl (Nat.le_of_ble_eq_true rfl) hl.1 ⟨Nat.le_trans (Nat.le_of_ble_eq_true rfl) hR.1, Nat.le_trans (Nat.le_of_ble_eq_true rfl) hR.2⟩ ⟨(by omega : _ ≤ 601024), (by omega : _ ≤ 7293034)⟩ dL_law_1060) (fun H locs hw => ?_)
                                        refine lv_istore (lv' := [(6, .int r144), (5, .int r141), (0, .ref b), (1, .ref (ad 0)), (2, .ref (ad 9)), (3, .ref (ad 17)), (4, .int a4)]) hx hb dL_law_1063 hl (by decide) rfl (fun ls hl => ?_)
                                        refine lv_aload_n hx hb dL_law_1065 rfl (lv_at hl 4 rfl) ?_
                                        obtain ⟨r146, hgr146, hF⟩ := st_bnd hF
                                        refine g_ci hw (g_runV (C := RX6) (As := []) (rest := []) fx hw isO_9 rfl (c_X6_thrown l x D cy ad H.size M145 r146 hgr146) wd5_77 wd5_78 wd5_79 wd1_8 wd5_80 yd_X6_thrown rfl rfl (Nat.le_of_ble_eq_true rfl) hl.1 ⟨Nat.le_trans (Nat.le_of_ble_eq_true rfl) hR.1, Nat.le_trans (Nat.le_of_ble_eq_true rfl) hR.2⟩ ⟨(by omega : _ ≤ 601024), (by omega : _ ≤ 7293034)⟩ dL_law_1066) (fun H locs hw => ?_)
                                        refine lv_iload hx hb dL_law_1069 (lv_at hl 1 rfl) ?_
                                        refine lv_icmp_eq (tgt := 1076) hx hb dL_law_1071 (by decide) (fun hc1071 => ?_) (fun hc1071 => ?_)
                                        · replace hF := st_t hc1071 hF
                                          refine lv_iload hx hb dL_law_1076 (lv_at hl 1 rfl) ?_
                                          refine lv_if_ne (tgt := 1093) hx hb dL_law_1078 (by decide) (fun hc1078 => ?_) (fun hc1078 => ?_)
                                          · replace hF := st_f hc1078 hF
                                            refine lv_goto (tgt := 1871) hx hb dL_law_1093 (by decide) ?_
                                            refine lv_iinc (v := (a4 + 6)) (lv' := [(4, .int (a4 + 6)), (6, .int r144), (5, .int r141), (0, .ref b), (1, .ref (ad 0)), (2, .ref (ad 9)), (3, .ref (ad 17))]) hx hb dL_law_1871 hl (k := 6) rfl rfl (by decide) rfl (fun ls hl => ?_)
                                            refine lv_goto (tgt := 23) hx hb dL_law_1874 (by decide) ?_
                                            refine W.widen (k := cells + 16) (n := slots + 96) (by omega) (by omega) ?_
                                            exact ih (a4 + 6) M145 d0 hd0 (cells + 16) (slots + 96) (by omega) (by omega) H locs ls (lv_sub hl [3, 4, 5, 6, 0] rfl) hw hF
                                          · replace hF := st_t hc1078 hF
                                            refine lv_aload_n hx hb dL_law_1081 rfl (lv_at hl 5 rfl) ?_
                                            refine lv_iconst (v := 0) hx hb dL_law_1082 (by decide) ?_
                                            refine g_lald fx hw isL_17 (k := 0) rfl (by decide) dL_law_1083 ?_
                                            refine lv_iload hx hb dL_law_1084 (lv_at hl 0 rfl) ?_
                                            refine lv_i2l hx hb dL_law_1086 rfl ?_
                                            refine g_lcmp hx hb dL_law_1087 ?_
                                            refine lv_if_eq (tgt := 1093) hx hb dL_law_1088 (by decide) (fun hc1088 => ?_) (fun hc1088 => ?_)
                                            · replace hF := st_t hc1088 hF
                                              refine lv_goto (tgt := 1871) hx hb dL_law_1093 (by decide) ?_
                                              refine lv_iinc (v := (a4 + 6)) (lv' := [(4, .int (a4 + 6)), (6, .int r144), (5, .int r141), (0, .ref b), (1, .ref (ad 0)), (2, .ref (ad 9)), (3, .ref (ad 17))]) hx hb dL_law_1871 hl (k := 6) rfl rfl (by decide) rfl (fun ls hl => ?_)
                                              refine lv_goto (tgt := 23) hx hb dL_law_1874 (by decide) ?_
                                              refine W.widen (k := cells + 16) (n := slots + 96) (by omega) (by omega) ?_
                                              exact ih (a4 + 6) M145 d0 hd0 (cells + 16) (slots + 96) (by omega) (by omega) H locs ls (lv_sub hl [3, 4, 5, 6, 0] rfl) hw hF
                                            · replace hF := st_f hc1088 hF
                                              refine lv_iconst (v := 0) hx hb dL_law_1091 (by decide) ?_
                                              exact nomatch hF
                                        · replace hF := st_f hc1071 hF
                                          refine lv_iconst (v := 0) hx hb dL_law_1074 (by decide) ?_
                                          exact nomatch hF
                                      · replace hF := st_f hk40_16 hF
                                        by_cases hk40_17 : y2 = 17
                                        · replace hF := st_t hk40_17 hF
                                          subst hk40_17
                                          refine lv_tableIn (off := 1056) (tgt := 1096) hx hb dL_law_40 (by decide) (by decide) rfl (by decide) ?_
                                          refine lv_aload_n hx hb dL_law_1096 rfl (lv_at hl 1 rfl) ?_
                                          refine lv_aload_n hx hb dL_law_1097 rfl (lv_at hl 0 rfl) ?_
                                          refine lv_iload hx hb dL_law_1098 (lv_at hl 4 rfl) ?_
                                          refine lv_iconst (v := 1) hx hb dL_law_1100 (by decide) ?_
                                          refine lv_iadd hx hb dL_law_1101 ?_
                                          obtain ⟨hi147, hF⟩ := st_chk hF
                                          refine va_sld (s := s.setDrawn d0) hx hb hX hbl hbA hw.2.2 (inB_in hi147) dL_law_1102 ?_
                                          refine lv_aload_n hx hb dL_law_1103 rfl (lv_at hl 3 rfl) ?_
                                          obtain ⟨r148, M149, hgr148, hF⟩ := st_bnd2 hF
                                          refine g_ci hw (g_runSW (As := [.ref (ad 0), .int (xs (ix (a4 + 1))), .ref (ad 17)]) (rest := []) fx hw (c_L_freeIn l x D cy ad (xs (ix (a4 + 1))) H.size M r148 M149 hl9 hgr148) wd4_126 wd4_127 wd1_0 wd4_128 yd_L_freeIn rfl rfl (Nat.le_of_ble_eq_true rfl) hl.1 ⟨Nat.le_trans (Nat.le_of_ble_eq_true rfl) hR.1, Nat.le_trans (Nat.le_of_ble_eq_true rfl) hR.2⟩ ⟨(by omega : _ ≤ 601024), (by omega : _ ≤ 7293034)⟩ dL_law_1104) (fun H locs hw => ?_)
                                          refine lv_istore (lv' := [(5, .int r148), (0, .ref b), (1, .ref (ad 0)), (2, .ref (ad 9)), (3, .ref (ad 17)), (4, .int a4)]) hx hb dL_law_1107 hl (by decide) rfl (fun ls hl => ?_)
                                          refine lv_aload_n hx hb dL_law_1109 rfl (lv_at hl 3 rfl) ?_
                                          refine lv_aload_n hx hb dL_law_1110 rfl (lv_at hl 1 rfl) ?_
                                          refine lv_iload hx hb dL_law_1111 (lv_at hl 5 rfl) ?_
                                          refine lv_iconst (v := 1) hx hb dL_law_1113 (by decide) ?_
                                          refine lv_iadd hx hb dL_law_1114 ?_
                                          obtain ⟨hi150, hF⟩ := st_chk hF
                                          refine va_sld (s := s.setDrawn d0) hx hb hX hbl hbA hw.2.2 (inB_in hi150) dL_law_1115 ?_
                                          obtain ⟨r151, M152, hgr151, hF⟩ := st_bnd2 hF
                                          refine g_ci hw (g_runV (C := RX6) (As := [.int (xs (ix (a4 + 1)))]) (rest := []) fx hw isO_9 rfl (c_X6_freeIn l x D cy ad (xs (ix (a4 + 1))) H.size M149 r151 M152 hgr151) wd6_27 wd6_28 wd6_29 wd1_8 wd6_30 yd_X6_freeIn rfl rfl (Nat.le_of_ble_eq_true rfl) hl.1 ⟨Nat.le_trans (Nat.le_of_ble_eq_true rfl) hR.1, Nat.le_trans (Nat.le_of_ble_eq_true rfl) hR.2⟩ ⟨(by omega : _ ≤ 601024), (by omega : _ ≤ 7293034)⟩ dL_law_1116) (fun H locs hw => ?_)
                                          refine lv_istore (lv' := [(6, .int r151), (5, .int r148), (0, .ref b), (1, .ref (ad 0)), (2, .ref (ad 9)), (3, .ref (ad 17)), (4, .int a4)]) hx hb dL_law_1119 hl (by decide) rfl (fun ls hl => ?_)
                                          refine lv_aload_n hx hb dL_law_1121 rfl (lv_at hl 4 rfl) ?_
                                          obtain ⟨r153, hgr153, hF⟩ := st_bnd hF
                                          refine g_ci hw (g_runV (C := RX6) (As := []) (rest := []) fx hw isO_9 rfl (c_X6_thrown l x D cy ad H.size M152 r153 hgr153) wd5_77 wd5_78 wd5_79 wd1_8 wd5_80 yd_X6_thrown rfl rfl (Nat.le_of_ble_eq_true rfl) hl.1 ⟨Nat.le_trans (Nat.le_of_ble_eq_true rfl) hR.1, Nat.le_trans (Nat.le_of_ble_eq_true rfl) hR.2⟩ ⟨(by omega : _ ≤ 601024), (by omega : _ ≤ 7293034)⟩ dL_law_1122) (fun H locs hw => ?_)
                                          refine lv_iload hx hb dL_law_1125 (lv_at hl 1 rfl) ?_
                                          refine lv_icmp_eq (tgt := 1132) hx hb dL_law_1127 (by decide) (fun hc1127 => ?_) (fun hc1127 => ?_)
                                          · replace hF := st_t hc1127 hF
                                            refine lv_iload hx hb dL_law_1132 (lv_at hl 1 rfl) ?_
                                            refine lv_if_ne (tgt := 1149) hx hb dL_law_1134 (by decide) (fun hc1134 => ?_) (fun hc1134 => ?_)
                                            · replace hF := st_f hc1134 hF
                                              refine lv_goto (tgt := 1871) hx hb dL_law_1149 (by decide) ?_
                                              refine lv_iinc (v := (a4 + 6)) (lv' := [(4, .int (a4 + 6)), (6, .int r151), (5, .int r148), (0, .ref b), (1, .ref (ad 0)), (2, .ref (ad 9)), (3, .ref (ad 17))]) hx hb dL_law_1871 hl (k := 6) rfl rfl (by decide) rfl (fun ls hl => ?_)
                                              refine lv_goto (tgt := 23) hx hb dL_law_1874 (by decide) ?_
                                              refine W.widen (k := cells + 16) (n := slots + 96) (by omega) (by omega) ?_
                                              exact ih (a4 + 6) M152 d0 hd0 (cells + 16) (slots + 96) (by omega) (by omega) H locs ls (lv_sub hl [3, 4, 5, 6, 0] rfl) hw hF
                                            · replace hF := st_t hc1134 hF
                                              refine lv_aload_n hx hb dL_law_1137 rfl (lv_at hl 5 rfl) ?_
                                              refine lv_iconst (v := 0) hx hb dL_law_1138 (by decide) ?_
                                              refine g_lald fx hw isL_17 (k := 0) rfl (by decide) dL_law_1139 ?_
                                              refine lv_iload hx hb dL_law_1140 (lv_at hl 0 rfl) ?_
                                              refine lv_i2l hx hb dL_law_1142 rfl ?_
                                              refine g_lcmp hx hb dL_law_1143 ?_
                                              refine lv_if_eq (tgt := 1149) hx hb dL_law_1144 (by decide) (fun hc1144 => ?_) (fun hc1144 => ?_)
                                              · replace hF := st_t hc1144 hF
                                                refine lv_goto (tgt := 1871) hx hb dL_law_1149 (by decide) ?_
                                                refine lv_iinc (v := (a4 + 6)) (lv' := [(4, .int (a4 + 6)), (6, .int r151), (5, .int r148), (0, .ref b), (1, .ref (ad 0)), (2, .ref (ad 9)), (3, .ref (ad 17))]) hx hb dL_law_1871 hl (k := 6) rfl rfl (by decide) rfl (fun ls hl => ?_)
                                                refine lv_goto (tgt := 23) hx hb dL_law_1874 (by decide) ?_
                                                refine W.widen (k := cells + 16) (n := slots + 96) (by omega) (by omega) ?_
                                                exact ih (a4 + 6) M152 d0 hd0 (cells + 16) (slots + 96) (by omega) (by omega) H locs ls (lv_sub hl [3, 4, 5, 6, 0] rfl) hw hF
                                              · replace hF := st_f hc1144 hF
                                                refine lv_iconst (v := 0) hx hb dL_law_1147 (by decide) ?_
                                                exact nomatch hF
                                          · replace hF := st_f hc1127 hF
                                            refine lv_iconst (v := 0) hx hb dL_law_1130 (by decide) ?_
                                            exact nomatch hF
                                        · replace hF := st_f hk40_17 hF
                                          by_cases hk40_18 : y2 = 18
                                          · replace hF := st_t hk40_18 hF
                                            subst hk40_18
                                            refine lv_tableIn (off := 1112) (tgt := 1152) hx hb dL_law_40 (by decide) (by decide) rfl (by decide) ?_
                                            refine lv_aload_n hx hb dL_law_1152 rfl (lv_at hl 1 rfl) ?_
                                            obtain ⟨r154, hgr154, hF⟩ := st_bnd hF
                                            refine g_ci hw (g_runV (C := RX5) (As := []) (rest := []) fx hw isO_0 rfl (c_X5_bestBell l x D cy ad H.size M r154 hgr154) wd3_82 wd3_83 wd3_84 wd1_1 wd3_85 yd_X5_bestBell rfl rfl (Nat.le_of_ble_eq_true rfl) hl.1 ⟨Nat.le_trans (Nat.le_of_ble_eq_true rfl) hR.1, Nat.le_trans (Nat.le_of_ble_eq_true rfl) hR.2⟩ ⟨(by omega : _ ≤ 601024), (by omega : _ ≤ 7293034)⟩ dL_law_1153) (fun H locs hw => ?_)
                                            refine lv_aload_n hx hb dL_law_1156 rfl (lv_at hl 2 rfl) ?_
                                            obtain ⟨r155, M156, hgr155, hF⟩ := st_bnd2 hF
                                            refine g_ci hw (g_runV (C := RX6) (As := []) (rest := [.int r154]) fx hw isO_9 rfl (c_X6_bestBell l x D cy ad H.size M r155 M156 hgr155) wd6_31 wd6_32 wd6_33 wd1_8 wd6_34 yd_X6_bestBell rfl rfl (Nat.le_of_ble_eq_true rfl) hl.1 ⟨Nat.le_trans (Nat.le_of_ble_eq_true rfl) hR.1, Nat.le_trans (Nat.le_of_ble_eq_true rfl) hR.2⟩ ⟨(by omega : _ ≤ 601024), (by omega : _ ≤ 7293034)⟩ dL_law_1157) (fun H locs hw => ?_)
                                            refine lv_icmp_eq (tgt := 1871) hx hb dL_law_1160 (by decide) (fun hc1160 => ?_) (fun hc1160 => ?_)
                                            · replace hF := st_t hc1160 hF
                                              refine lv_iinc (v := (a4 + 6)) (lv' := [(4, .int (a4 + 6)), (0, .ref b), (1, .ref (ad 0)), (2, .ref (ad 9)), (3, .ref (ad 17))]) hx hb dL_law_1871 hl (k := 4) rfl rfl (by decide) rfl (fun ls hl => ?_)
                                              refine lv_goto (tgt := 23) hx hb dL_law_1874 (by decide) ?_
                                              refine W.widen (k := cells + 16) (n := slots + 96) (by omega) (by omega) ?_
                                              exact ih (a4 + 6) M156 d0 hd0 (cells + 16) (slots + 96) (by omega) (by omega) H locs ls (lv_sub hl [1, 2, 3, 4, 0] rfl) hw hF
                                            · replace hF := st_f hc1160 hF
                                              refine lv_iconst (v := 0) hx hb dL_law_1163 (by decide) ?_
                                              exact nomatch hF
                                          · replace hF := st_f hk40_18 hF
                                            by_cases hk40_19 : y2 = 19
                                            · replace hF := st_t hk40_19 hF
                                              subst hk40_19
                                              refine lv_tableIn (off := 1125) (tgt := 1165) hx hb dL_law_40 (by decide) (by decide) rfl (by decide) ?_
                                              refine lv_aload_n hx hb dL_law_1165 rfl (lv_at hl 1 rfl) ?_
                                              obtain ⟨r157, hgr157, hF⟩ := st_bnd hF
                                              refine g_ci hw (g_runV (C := RX5) (As := []) (rest := []) fx hw isO_0 rfl (c_X5_bestHearer l x D cy ad H.size M r157 hgr157) wd3_90 wd3_91 wd3_92 wd1_1 wd3_93 yd_X5_bestHearer rfl rfl (Nat.le_of_ble_eq_true rfl) hl.1 ⟨Nat.le_trans (Nat.le_of_ble_eq_true rfl) hR.1, Nat.le_trans (Nat.le_of_ble_eq_true rfl) hR.2⟩ ⟨(by omega : _ ≤ 601024), (by omega : _ ≤ 7293034)⟩ dL_law_1166) (fun H locs hw => ?_)
                                              refine lv_aload_n hx hb dL_law_1169 rfl (lv_at hl 2 rfl) ?_
                                              obtain ⟨r158, M159, hgr158, hF⟩ := st_bnd2 hF
                                              refine g_ci hw (g_runV (C := RX6) (As := []) (rest := [.int r157]) fx hw isO_9 rfl (c_X6_bestHearer l x D cy ad H.size M r158 M159 hgr158) wd6_39 wd6_40 wd6_41 wd1_8 wd6_42 yd_X6_bestHearer rfl rfl (Nat.le_of_ble_eq_true rfl) hl.1 ⟨Nat.le_trans (Nat.le_of_ble_eq_true rfl) hR.1, Nat.le_trans (Nat.le_of_ble_eq_true rfl) hR.2⟩ ⟨(by omega : _ ≤ 601024), (by omega : _ ≤ 7293034)⟩ dL_law_1170) (fun H locs hw => ?_)
                                              refine lv_icmp_eq (tgt := 1871) hx hb dL_law_1173 (by decide) (fun hc1173 => ?_) (fun hc1173 => ?_)
                                              · replace hF := st_t hc1173 hF
                                                refine lv_iinc (v := (a4 + 6)) (lv' := [(4, .int (a4 + 6)), (0, .ref b), (1, .ref (ad 0)), (2, .ref (ad 9)), (3, .ref (ad 17))]) hx hb dL_law_1871 hl (k := 4) rfl rfl (by decide) rfl (fun ls hl => ?_)
                                                refine lv_goto (tgt := 23) hx hb dL_law_1874 (by decide) ?_
                                                refine W.widen (k := cells + 16) (n := slots + 96) (by omega) (by omega) ?_
                                                exact ih (a4 + 6) M159 d0 hd0 (cells + 16) (slots + 96) (by omega) (by omega) H locs ls (lv_sub hl [1, 2, 3, 4, 0] rfl) hw hF
                                              · replace hF := st_f hc1173 hF
                                                refine lv_iconst (v := 0) hx hb dL_law_1176 (by decide) ?_
                                                exact nomatch hF
                                            · replace hF := st_f hk40_19 hF
                                              by_cases hk40_20 : y2 = 20
                                              · replace hF := st_t hk40_20 hF
                                                subst hk40_20
                                                refine lv_tableIn (off := 1138) (tgt := 1178) hx hb dL_law_40 (by decide) (by decide) rfl (by decide) ?_
                                                refine lv_aload_n hx hb dL_law_1178 rfl (lv_at hl 1 rfl) ?_
                                                refine lv_aload_n hx hb dL_law_1179 rfl (lv_at hl 0 rfl) ?_
                                                refine lv_iload hx hb dL_law_1180 (lv_at hl 4 rfl) ?_
                                                refine lv_iconst (v := 1) hx hb dL_law_1182 (by decide) ?_
                                                refine lv_iadd hx hb dL_law_1183 ?_
                                                obtain ⟨hi160, hF⟩ := st_chk hF
                                                refine va_sld (s := s.setDrawn d0) hx hb hX hbl hbA hw.2.2 (inB_in hi160) dL_law_1184 ?_
                                                refine lv_aload_n hx hb dL_law_1185 rfl (lv_at hl 0 rfl) ?_
                                                refine lv_iload hx hb dL_law_1186 (lv_at hl 4 rfl) ?_
                                                refine lv_iconst (v := 2) hx hb dL_law_1188 (by decide) ?_
                                                refine lv_iadd hx hb dL_law_1189 ?_
                                                obtain ⟨hi161, hF⟩ := st_chk hF
                                                refine va_sld (s := s.setDrawn d0) hx hb hX hbl hbA hw.2.2 (inB_in hi161) dL_law_1190 ?_
                                                refine lv_aload_n hx hb dL_law_1191 rfl (lv_at hl 3 rfl) ?_
                                                obtain ⟨r162, M163, hgr162, hF⟩ := st_bnd2 hF
                                                refine g_ci hw (g_runSW (As := [.ref (ad 0), .int (xs (ix (a4 + 1))), .int (xs (ix (a4 + 2))), .ref (ad 17)]) (rest := []) fx hw (c_L_want l x D cy ad (xs (ix (a4 + 1))) (xs (ix (a4 + 2))) H.size M r162 M163 hl9 hgr162) wd4_133 wd4_134 wd1_0 wd4_135 yd_L_want rfl rfl (Nat.le_of_ble_eq_true rfl) hl.1 ⟨Nat.le_trans (Nat.le_of_ble_eq_true rfl) hR.1, Nat.le_trans (Nat.le_of_ble_eq_true rfl) hR.2⟩ ⟨(by omega : _ ≤ 601024), (by omega : _ ≤ 7293034)⟩ dL_law_1192) (fun H locs hw => ?_)
                                                refine lv_istore (lv' := [(5, .int r162), (0, .ref b), (1, .ref (ad 0)), (2, .ref (ad 9)), (3, .ref (ad 17)), (4, .int a4)]) hx hb dL_law_1195 hl (by decide) rfl (fun ls hl => ?_)
                                                refine lv_aload_n hx hb dL_law_1197 rfl (lv_at hl 3 rfl) ?_
                                                refine lv_aload_n hx hb dL_law_1198 rfl (lv_at hl 1 rfl) ?_
                                                refine lv_iload hx hb dL_law_1199 (lv_at hl 5 rfl) ?_
                                                refine lv_iconst (v := 1) hx hb dL_law_1201 (by decide) ?_
                                                refine lv_iadd hx hb dL_law_1202 ?_
                                                obtain ⟨hi164, hF⟩ := st_chk hF
                                                refine va_sld (s := s.setDrawn d0) hx hb hX hbl hbA hw.2.2 (inB_in hi164) dL_law_1203 ?_
                                                refine lv_aload_n hx hb dL_law_1204 rfl (lv_at hl 1 rfl) ?_
                                                refine lv_iload hx hb dL_law_1205 (lv_at hl 5 rfl) ?_
                                                refine lv_iconst (v := 2) hx hb dL_law_1207 (by decide) ?_
                                                refine lv_iadd hx hb dL_law_1208 ?_
                                                obtain ⟨hi165, hF⟩ := st_chk hF
                                                refine va_sld (s := s.setDrawn d0) hx hb hX hbl hbA hw.2.2 (inB_in hi165) dL_law_1209 ?_
                                                obtain ⟨r166, M167, hgr166, hF⟩ := st_bnd2 hF
                                                refine g_ci hw (g_runV (C := RX6) (As := [.int (xs (ix (a4 + 1))), .int (xs (ix (a4 + 2)))]) (rest := []) fx hw isO_9 rfl (c_X6_want l x D cy ad (xs (ix (a4 + 1))) (xs (ix (a4 + 2))) H.size M163 r166 M167 hgr166) wd6_47 wd6_48 wd6_49 wd1_8 wd6_50 yd_X6_want rfl rfl (Nat.le_of_ble_eq_true rfl) hl.1 ⟨Nat.le_trans (Nat.le_of_ble_eq_true rfl) hR.1, Nat.le_trans (Nat.le_of_ble_eq_true rfl) hR.2⟩ ⟨(by omega : _ ≤ 601024), (by omega : _ ≤ 7293034)⟩ dL_law_1210) (fun H locs hw => ?_)
                                                refine lv_istore (lv' := [(6, .int r166), (5, .int r162), (0, .ref b), (1, .ref (ad 0)), (2, .ref (ad 9)), (3, .ref (ad 17)), (4, .int a4)]) hx hb dL_law_1213 hl (by decide) rfl (fun ls hl => ?_)
                                                refine lv_aload_n hx hb dL_law_1215 rfl (lv_at hl 4 rfl) ?_
                                                obtain ⟨r168, hgr168, hF⟩ := st_bnd hF
                                                refine g_ci hw (g_runV (C := RX6) (As := []) (rest := []) fx hw isO_9 rfl (c_X6_thrown l x D cy ad H.size M167 r168 hgr168) wd5_77 wd5_78 wd5_79 wd1_8 wd5_80 yd_X6_thrown rfl rfl (Nat.le_of_ble_eq_true rfl) hl.1 ⟨Nat.le_trans (Nat.le_of_ble_eq_true rfl) hR.1, Nat.le_trans (Nat.le_of_ble_eq_true rfl) hR.2⟩ ⟨(by omega : _ ≤ 601024), (by omega : _ ≤ 7293034)⟩ dL_law_1216) (fun H locs hw => ?_)
                                                refine lv_iload hx hb dL_law_1219 (lv_at hl 1 rfl) ?_
                                                refine lv_icmp_eq (tgt := 1226) hx hb dL_law_1221 (by decide) (fun hc1221 => ?_) (fun hc1221 => ?_)
                                                · replace hF := st_t hc1221 hF
                                                  refine lv_iload hx hb dL_law_1226 (lv_at hl 1 rfl) ?_
                                                  refine lv_if_ne (tgt := 1243) hx hb dL_law_1228 (by decide) (fun hc1228 => ?_) (fun hc1228 => ?_)
                                                  · replace hF := st_f hc1228 hF
                                                    refine lv_goto (tgt := 1871) hx hb dL_law_1243 (by decide) ?_
                                                    refine lv_iinc (v := (a4 + 6)) (lv' := [(4, .int (a4 + 6)), (6, .int r166), (5, .int r162), (0, .ref b), (1, .ref (ad 0)), (2, .ref (ad 9)), (3, .ref (ad 17))]) hx hb dL_law_1871 hl (k := 6) rfl rfl (by decide) rfl (fun ls hl => ?_)
                                                    refine lv_goto (tgt := 23) hx hb dL_law_1874 (by decide) ?_
                                                    refine W.widen (k := cells + 16) (n := slots + 96) (by omega) (by omega) ?_
                                                    exact ih (a4 + 6) M167 d0 hd0 (cells + 16) (slots + 96) (by omega) (by omega) H locs ls (lv_sub hl [3, 4, 5, 6, 0] rfl) hw hF
                                                  · replace hF := st_t hc1228 hF
                                                    refine lv_aload_n hx hb dL_law_1231 rfl (lv_at hl 5 rfl) ?_
                                                    refine lv_iconst (v := 0) hx hb dL_law_1232 (by decide) ?_
                                                    refine g_lald fx hw isL_17 (k := 0) rfl (by decide) dL_law_1233 ?_
                                                    refine lv_iload hx hb dL_law_1234 (lv_at hl 0 rfl) ?_
                                                    refine lv_i2l hx hb dL_law_1236 rfl ?_
                                                    refine g_lcmp hx hb dL_law_1237 ?_
                                                    refine lv_if_eq (tgt := 1243) hx hb dL_law_1238 (by decide) (fun hc1238 => ?_) (fun hc1238 => ?_)
                                                    · replace hF := st_t hc1238 hF
                                                      refine lv_goto (tgt := 1871) hx hb dL_law_1243 (by decide) ?_
                                                      refine lv_iinc (v := (a4 + 6)) (lv' := [(4, .int (a4 + 6)), (6, .int r166), (5, .int r162), (0, .ref b), (1, .ref (ad 0)), (2, .ref (ad 9)), (3, .ref (ad 17))]) hx hb dL_law_1871 hl (k := 6) rfl rfl (by decide) rfl (fun ls hl => ?_)
                                                      refine lv_goto (tgt := 23) hx hb dL_law_1874 (by decide) ?_
                                                      refine W.widen (k := cells + 16) (n := slots + 96) (by omega) (by omega) ?_
                                                      exact ih (a4 + 6) M167 d0 hd0 (cells + 16) (slots + 96) (by omega) (by omega) H locs ls (lv_sub hl [3, 4, 5, 6, 0] rfl) hw hF
                                                    · replace hF := st_f hc1238 hF
                                                      refine lv_iconst (v := 0) hx hb dL_law_1241 (by decide) ?_
                                                      exact nomatch hF
                                                · replace hF := st_f hc1221 hF
                                                  refine lv_iconst (v := 0) hx hb dL_law_1224 (by decide) ?_
                                                  exact nomatch hF
                                              · replace hF := st_f hk40_20 hF
                                                by_cases hk40_21 : y2 = 21
                                                · replace hF := st_t hk40_21 hF
                                                  subst hk40_21
                                                  refine lv_tableIn (off := 1206) (tgt := 1246) hx hb dL_law_40 (by decide) (by decide) rfl (by decide) ?_
                                                  refine lv_aload_n hx hb dL_law_1246 rfl (lv_at hl 1 rfl) ?_
                                                  refine lv_aload_n hx hb dL_law_1247 rfl (lv_at hl 0 rfl) ?_
                                                  refine lv_iload hx hb dL_law_1248 (lv_at hl 4 rfl) ?_
                                                  refine lv_iconst (v := 1) hx hb dL_law_1250 (by decide) ?_
                                                  refine lv_iadd hx hb dL_law_1251 ?_
                                                  obtain ⟨hi169, hF⟩ := st_chk hF
                                                  refine va_sld (s := s.setDrawn d0) hx hb hX hbl hbA hw.2.2 (inB_in hi169) dL_law_1252 ?_
                                                  refine lv_aload_n hx hb dL_law_1253 rfl (lv_at hl 0 rfl) ?_
                                                  refine lv_iload hx hb dL_law_1254 (lv_at hl 4 rfl) ?_
                                                  refine lv_iconst (v := 2) hx hb dL_law_1256 (by decide) ?_
                                                  refine lv_iadd hx hb dL_law_1257 ?_
                                                  obtain ⟨hi170, hF⟩ := st_chk hF
                                                  refine va_sld (s := s.setDrawn d0) hx hb hX hbl hbA hw.2.2 (inB_in hi170) dL_law_1258 ?_
                                                  refine lv_aload_n hx hb dL_law_1259 rfl (lv_at hl 0 rfl) ?_
                                                  refine lv_iload hx hb dL_law_1260 (lv_at hl 4 rfl) ?_
                                                  refine lv_iconst (v := 3) hx hb dL_law_1262 (by decide) ?_
                                                  refine lv_iadd hx hb dL_law_1263 ?_
                                                  obtain ⟨hi171, hF⟩ := st_chk hF
                                                  refine va_sld (s := s.setDrawn d0) hx hb hX hbl hbA hw.2.2 (inB_in hi171) dL_law_1264 ?_
                                                  refine lv_aload_n hx hb dL_law_1265 rfl (lv_at hl 0 rfl) ?_
                                                  refine lv_iload hx hb dL_law_1266 (lv_at hl 4 rfl) ?_
                                                  refine lv_iconst (v := 4) hx hb dL_law_1268 (by decide) ?_
                                                  refine lv_iadd hx hb dL_law_1269 ?_
                                                  obtain ⟨hi172, hF⟩ := st_chk hF
                                                  refine va_sld (s := s.setDrawn d0) hx hb hX hbl hbA hw.2.2 (inB_in hi172) dL_law_1270 ?_
                                                  refine lv_aload_n hx hb dL_law_1271 rfl (lv_at hl 3 rfl) ?_
                                                  obtain ⟨r173, M174, hgr173, hF⟩ := st_bnd2 hF
                                                  refine g_ci hw (g_runSW (As := [.ref (ad 0), .int (xs (ix (a4 + 1))), .int (xs (ix (a4 + 2))), .int (xs (ix (a4 + 3))), .int (xs (ix (a4 + 4))), .ref (ad 17)]) (rest := []) fx hw (c_L_tell l x D cy ad (xs (ix (a4 + 1))) (xs (ix (a4 + 2))) (xs (ix (a4 + 3))) (xs (ix (a4 + 4))) H.size M r173 M174 hl9 hgr173) wd4_145 wd4_146 wd1_0 wd4_147 yd_L_tell rfl rfl (Nat.le_of_ble_eq_true rfl) hl.1 ⟨Nat.le_trans (Nat.le_of_ble_eq_true rfl) hR.1, Nat.le_trans (Nat.le_of_ble_eq_true rfl) hR.2⟩ ⟨(by omega : _ ≤ 601024), (by omega : _ ≤ 7293034)⟩ dL_law_1272) (fun H locs hw => ?_)
                                                  refine lv_istore (lv' := [(5, .int r173), (0, .ref b), (1, .ref (ad 0)), (2, .ref (ad 9)), (3, .ref (ad 17)), (4, .int a4)]) hx hb dL_law_1275 hl (by decide) rfl (fun ls hl => ?_)
                                                  refine lv_aload_n hx hb dL_law_1277 rfl (lv_at hl 3 rfl) ?_
                                                  refine lv_aload_n hx hb dL_law_1278 rfl (lv_at hl 1 rfl) ?_
                                                  refine lv_iload hx hb dL_law_1279 (lv_at hl 5 rfl) ?_
                                                  refine lv_iconst (v := 1) hx hb dL_law_1281 (by decide) ?_
                                                  refine lv_iadd hx hb dL_law_1282 ?_
                                                  obtain ⟨hi175, hF⟩ := st_chk hF
                                                  refine va_sld (s := s.setDrawn d0) hx hb hX hbl hbA hw.2.2 (inB_in hi175) dL_law_1283 ?_
                                                  refine lv_aload_n hx hb dL_law_1284 rfl (lv_at hl 1 rfl) ?_
                                                  refine lv_iload hx hb dL_law_1285 (lv_at hl 5 rfl) ?_
                                                  refine lv_iconst (v := 2) hx hb dL_law_1287 (by decide) ?_
                                                  refine lv_iadd hx hb dL_law_1288 ?_
                                                  obtain ⟨hi176, hF⟩ := st_chk hF
                                                  refine va_sld (s := s.setDrawn d0) hx hb hX hbl hbA hw.2.2 (inB_in hi176) dL_law_1289 ?_
                                                  refine lv_aload_n hx hb dL_law_1290 rfl (lv_at hl 1 rfl) ?_
                                                  refine lv_iload hx hb dL_law_1291 (lv_at hl 5 rfl) ?_
                                                  refine lv_iconst (v := 3) hx hb dL_law_1293 (by decide) ?_
                                                  refine lv_iadd hx hb dL_law_1294 ?_
                                                  obtain ⟨hi177, hF⟩ := st_chk hF
                                                  refine va_sld (s := s.setDrawn d0) hx hb hX hbl hbA hw.2.2 (inB_in hi177) dL_law_1295 ?_
                                                  refine lv_aload_n hx hb dL_law_1296 rfl (lv_at hl 1 rfl) ?_
                                                  refine lv_iload hx hb dL_law_1297 (lv_at hl 5 rfl) ?_
                                                  refine lv_iconst (v := 4) hx hb dL_law_1299 (by decide) ?_
                                                  refine lv_iadd hx hb dL_law_1300 ?_
                                                  obtain ⟨hi178, hF⟩ := st_chk hF
                                                  refine va_sld (s := s.setDrawn d0) hx hb hX hbl hbA hw.2.2 (inB_in hi178) dL_law_1301 ?_
                                                  obtain ⟨r179, M180, hgr179, hF⟩ := st_bnd2 hF
                                                  refine g_ci hw (g_runV (C := RX6) (As := [.int (xs (ix (a4 + 1))), .int (xs (ix (a4 + 2))), .int (xs (ix (a4 + 3))), .int (xs (ix (a4 + 4)))]) (rest := []) fx hw isO_9 rfl (c_X6_tell l x D cy ad (xs (ix (a4 + 1))) (xs (ix (a4 + 2))) (xs (ix (a4 + 3))) (xs (ix (a4 + 4))) H.size M174 r179 M180 hgr179) wd6_55 wd6_56 wd6_57 wd1_8 wd6_58 yd_X6_tell rfl rfl (Nat.le_of_ble_eq_true rfl) hl.1 ⟨Nat.le_trans (Nat.le_of_ble_eq_true rfl) hR.1, Nat.le_trans (Nat.le_of_ble_eq_true rfl) hR.2⟩ ⟨(by omega : _ ≤ 601024), (by omega : _ ≤ 7293034)⟩ dL_law_1302) (fun H locs hw => ?_)
                                                  refine lv_istore (lv' := [(6, .int r179), (5, .int r173), (0, .ref b), (1, .ref (ad 0)), (2, .ref (ad 9)), (3, .ref (ad 17)), (4, .int a4)]) hx hb dL_law_1305 hl (by decide) rfl (fun ls hl => ?_)
                                                  refine lv_aload_n hx hb dL_law_1307 rfl (lv_at hl 4 rfl) ?_
                                                  obtain ⟨r181, hgr181, hF⟩ := st_bnd hF
                                                  refine g_ci hw (g_runV (C := RX6) (As := []) (rest := []) fx hw isO_9 rfl (c_X6_thrown l x D cy ad H.size M180 r181 hgr181) wd5_77 wd5_78 wd5_79 wd1_8 wd5_80 yd_X6_thrown rfl rfl (Nat.le_of_ble_eq_true rfl) hl.1 ⟨Nat.le_trans (Nat.le_of_ble_eq_true rfl) hR.1, Nat.le_trans (Nat.le_of_ble_eq_true rfl) hR.2⟩ ⟨(by omega : _ ≤ 601024), (by omega : _ ≤ 7293034)⟩ dL_law_1308) (fun H locs hw => ?_)
                                                  refine lv_iload hx hb dL_law_1311 (lv_at hl 1 rfl) ?_
                                                  refine lv_icmp_eq (tgt := 1318) hx hb dL_law_1313 (by decide) (fun hc1313 => ?_) (fun hc1313 => ?_)
                                                  · replace hF := st_t hc1313 hF
                                                    refine lv_iload hx hb dL_law_1318 (lv_at hl 1 rfl) ?_
                                                    refine lv_if_ne (tgt := 1335) hx hb dL_law_1320 (by decide) (fun hc1320 => ?_) (fun hc1320 => ?_)
                                                    · replace hF := st_f hc1320 hF
                                                      refine lv_goto (tgt := 1871) hx hb dL_law_1335 (by decide) ?_
                                                      refine lv_iinc (v := (a4 + 6)) (lv' := [(4, .int (a4 + 6)), (6, .int r179), (5, .int r173), (0, .ref b), (1, .ref (ad 0)), (2, .ref (ad 9)), (3, .ref (ad 17))]) hx hb dL_law_1871 hl (k := 6) rfl rfl (by decide) rfl (fun ls hl => ?_)
                                                      refine lv_goto (tgt := 23) hx hb dL_law_1874 (by decide) ?_
                                                      refine W.widen (k := cells + 16) (n := slots + 96) (by omega) (by omega) ?_
                                                      exact ih (a4 + 6) M180 d0 hd0 (cells + 16) (slots + 96) (by omega) (by omega) H locs ls (lv_sub hl [3, 4, 5, 6, 0] rfl) hw hF
                                                    · replace hF := st_t hc1320 hF
                                                      refine lv_aload_n hx hb dL_law_1323 rfl (lv_at hl 5 rfl) ?_
                                                      refine lv_iconst (v := 0) hx hb dL_law_1324 (by decide) ?_
                                                      refine g_lald fx hw isL_17 (k := 0) rfl (by decide) dL_law_1325 ?_
                                                      refine lv_iload hx hb dL_law_1326 (lv_at hl 0 rfl) ?_
                                                      refine lv_i2l hx hb dL_law_1328 rfl ?_
                                                      refine g_lcmp hx hb dL_law_1329 ?_
                                                      refine lv_if_eq (tgt := 1335) hx hb dL_law_1330 (by decide) (fun hc1330 => ?_) (fun hc1330 => ?_)
                                                      · replace hF := st_t hc1330 hF
                                                        refine lv_goto (tgt := 1871) hx hb dL_law_1335 (by decide) ?_
                                                        refine lv_iinc (v := (a4 + 6)) (lv' := [(4, .int (a4 + 6)), (6, .int r179), (5, .int r173), (0, .ref b), (1, .ref (ad 0)), (2, .ref (ad 9)), (3, .ref (ad 17))]) hx hb dL_law_1871 hl (k := 6) rfl rfl (by decide) rfl (fun ls hl => ?_)
                                                        refine lv_goto (tgt := 23) hx hb dL_law_1874 (by decide) ?_
                                                        refine W.widen (k := cells + 16) (n := slots + 96) (by omega) (by omega) ?_
                                                        exact ih (a4 + 6) M180 d0 hd0 (cells + 16) (slots + 96) (by omega) (by omega) H locs ls (lv_sub hl [3, 4, 5, 6, 0] rfl) hw hF
                                                      · replace hF := st_f hc1330 hF
                                                        refine lv_iconst (v := 0) hx hb dL_law_1333 (by decide) ?_
                                                        exact nomatch hF
                                                  · replace hF := st_f hc1313 hF
                                                    refine lv_iconst (v := 0) hx hb dL_law_1316 (by decide) ?_
                                                    exact nomatch hF
                                                · replace hF := st_f hk40_21 hF
                                                  by_cases hk40_22 : y2 = 22
                                                  · replace hF := st_t hk40_22 hF
                                                    subst hk40_22
                                                    refine lv_tableIn (off := 1298) (tgt := 1338) hx hb dL_law_40 (by decide) (by decide) rfl (by decide) ?_
                                                    refine lv_aload_n hx hb dL_law_1338 rfl (lv_at hl 1 rfl) ?_
                                                    refine lv_aload_n hx hb dL_law_1339 rfl (lv_at hl 0 rfl) ?_
                                                    refine lv_iload hx hb dL_law_1340 (lv_at hl 4 rfl) ?_
                                                    refine lv_iconst (v := 1) hx hb dL_law_1342 (by decide) ?_
                                                    refine lv_iadd hx hb dL_law_1343 ?_
                                                    obtain ⟨hi182, hF⟩ := st_chk hF
                                                    refine va_sld (s := s.setDrawn d0) hx hb hX hbl hbA hw.2.2 (inB_in hi182) dL_law_1344 ?_
                                                    refine lv_aload_n hx hb dL_law_1345 rfl (lv_at hl 0 rfl) ?_
                                                    refine lv_iload hx hb dL_law_1346 (lv_at hl 4 rfl) ?_
                                                    refine lv_iconst (v := 2) hx hb dL_law_1348 (by decide) ?_
                                                    refine lv_iadd hx hb dL_law_1349 ?_
                                                    obtain ⟨hi183, hF⟩ := st_chk hF
                                                    refine va_sld (s := s.setDrawn d0) hx hb hX hbl hbA hw.2.2 (inB_in hi183) dL_law_1350 ?_
                                                    refine lv_aload_n hx hb dL_law_1351 rfl (lv_at hl 0 rfl) ?_
                                                    refine lv_iload hx hb dL_law_1352 (lv_at hl 4 rfl) ?_
                                                    refine lv_iconst (v := 3) hx hb dL_law_1354 (by decide) ?_
                                                    refine lv_iadd hx hb dL_law_1355 ?_
                                                    obtain ⟨hi184, hF⟩ := st_chk hF
                                                    refine va_sld (s := s.setDrawn d0) hx hb hX hbl hbA hw.2.2 (inB_in hi184) dL_law_1356 ?_
                                                    refine lv_aload_n hx hb dL_law_1357 rfl (lv_at hl 3 rfl) ?_
                                                    obtain ⟨r185, M186, hgr185, hF⟩ := st_bnd2 hF
                                                    refine g_ci hw (g_runSW (As := [.ref (ad 0), .int (xs (ix (a4 + 1))), .int (xs (ix (a4 + 2))), .int (xs (ix (a4 + 3))), .ref (ad 17)]) (rest := []) fx hw (c_L_give l x D cy ad (xs (ix (a4 + 1))) (xs (ix (a4 + 2))) (xs (ix (a4 + 3))) H.size M r185 M186 hl9 hgr185) wd4_153 wd4_154 wd1_0 wd4_155 yd_L_give rfl rfl (Nat.le_of_ble_eq_true rfl) hl.1 ⟨Nat.le_trans (Nat.le_of_ble_eq_true rfl) hR.1, Nat.le_trans (Nat.le_of_ble_eq_true rfl) hR.2⟩ ⟨(by omega : _ ≤ 601024), (by omega : _ ≤ 7293034)⟩ dL_law_1358) (fun H locs hw => ?_)
                                                    refine lv_istore (lv' := [(5, .int r185), (0, .ref b), (1, .ref (ad 0)), (2, .ref (ad 9)), (3, .ref (ad 17)), (4, .int a4)]) hx hb dL_law_1361 hl (by decide) rfl (fun ls hl => ?_)
                                                    refine lv_aload_n hx hb dL_law_1363 rfl (lv_at hl 3 rfl) ?_
                                                    refine lv_aload_n hx hb dL_law_1364 rfl (lv_at hl 1 rfl) ?_
                                                    refine lv_iload hx hb dL_law_1365 (lv_at hl 5 rfl) ?_
                                                    refine lv_iconst (v := 1) hx hb dL_law_1367 (by decide) ?_
                                                    refine lv_iadd hx hb dL_law_1368 ?_
                                                    obtain ⟨hi187, hF⟩ := st_chk hF
                                                    refine va_sld (s := s.setDrawn d0) hx hb hX hbl hbA hw.2.2 (inB_in hi187) dL_law_1369 ?_
                                                    refine lv_aload_n hx hb dL_law_1370 rfl (lv_at hl 1 rfl) ?_
                                                    refine lv_iload hx hb dL_law_1371 (lv_at hl 5 rfl) ?_
                                                    refine lv_iconst (v := 2) hx hb dL_law_1373 (by decide) ?_
                                                    refine lv_iadd hx hb dL_law_1374 ?_
                                                    obtain ⟨hi188, hF⟩ := st_chk hF
                                                    refine va_sld (s := s.setDrawn d0) hx hb hX hbl hbA hw.2.2 (inB_in hi188) dL_law_1375 ?_
                                                    refine lv_aload_n hx hb dL_law_1376 rfl (lv_at hl 1 rfl) ?_
                                                    refine lv_iload hx hb dL_law_1377 (lv_at hl 5 rfl) ?_
                                                    refine lv_iconst (v := 3) hx hb dL_law_1379 (by decide) ?_
                                                    refine lv_iadd hx hb dL_law_1380 ?_
                                                    obtain ⟨hi189, hF⟩ := st_chk hF
                                                    refine va_sld (s := s.setDrawn d0) hx hb hX hbl hbA hw.2.2 (inB_in hi189) dL_law_1381 ?_
                                                    obtain ⟨r190, M191, hgr190, hF⟩ := st_bnd2 hF
                                                    refine g_ci hw (g_runV (C := RX6) (As := [.int (xs (ix (a4 + 1))), .int (xs (ix (a4 + 2))), .int (xs (ix (a4 + 3)))]) (rest := []) fx hw isO_9 rfl (c_X6_give l x D cy ad (xs (ix (a4 + 1))) (xs (ix (a4 + 2))) (xs (ix (a4 + 3))) H.size M186 r190 M191 hgr190) wd6_71 wd6_72 wd6_73 wd1_8 wd6_74 yd_X6_give rfl rfl (Nat.le_of_ble_eq_true rfl) hl.1 ⟨Nat.le_trans (Nat.le_of_ble_eq_true rfl) hR.1, Nat.le_trans (Nat.le_of_ble_eq_true rfl) hR.2⟩ ⟨(by omega : _ ≤ 601024), (by omega : _ ≤ 7293034)⟩ dL_law_1382) (fun H locs hw => ?_)
                                                    refine lv_istore (lv' := [(6, .int r190), (5, .int r185), (0, .ref b), (1, .ref (ad 0)), (2, .ref (ad 9)), (3, .ref (ad 17)), (4, .int a4)]) hx hb dL_law_1385 hl (by decide) rfl (fun ls hl => ?_)
                                                    refine lv_aload_n hx hb dL_law_1387 rfl (lv_at hl 4 rfl) ?_
                                                    obtain ⟨r192, hgr192, hF⟩ := st_bnd hF
                                                    refine g_ci hw (g_runV (C := RX6) (As := []) (rest := []) fx hw isO_9 rfl (c_X6_thrown l x D cy ad H.size M191 r192 hgr192) wd5_77 wd5_78 wd5_79 wd1_8 wd5_80 yd_X6_thrown rfl rfl (Nat.le_of_ble_eq_true rfl) hl.1 ⟨Nat.le_trans (Nat.le_of_ble_eq_true rfl) hR.1, Nat.le_trans (Nat.le_of_ble_eq_true rfl) hR.2⟩ ⟨(by omega : _ ≤ 601024), (by omega : _ ≤ 7293034)⟩ dL_law_1388) (fun H locs hw => ?_)
                                                    refine lv_iload hx hb dL_law_1391 (lv_at hl 1 rfl) ?_
                                                    refine lv_icmp_eq (tgt := 1398) hx hb dL_law_1393 (by decide) (fun hc1393 => ?_) (fun hc1393 => ?_)
                                                    · replace hF := st_t hc1393 hF
                                                      refine lv_iload hx hb dL_law_1398 (lv_at hl 1 rfl) ?_
                                                      refine lv_if_ne (tgt := 1415) hx hb dL_law_1400 (by decide) (fun hc1400 => ?_) (fun hc1400 => ?_)
                                                      · replace hF := st_f hc1400 hF
                                                        refine lv_goto (tgt := 1871) hx hb dL_law_1415 (by decide) ?_
                                                        refine lv_iinc (v := (a4 + 6)) (lv' := [(4, .int (a4 + 6)), (6, .int r190), (5, .int r185), (0, .ref b), (1, .ref (ad 0)), (2, .ref (ad 9)), (3, .ref (ad 17))]) hx hb dL_law_1871 hl (k := 6) rfl rfl (by decide) rfl (fun ls hl => ?_)
                                                        refine lv_goto (tgt := 23) hx hb dL_law_1874 (by decide) ?_
                                                        refine W.widen (k := cells + 16) (n := slots + 96) (by omega) (by omega) ?_
                                                        exact ih (a4 + 6) M191 d0 hd0 (cells + 16) (slots + 96) (by omega) (by omega) H locs ls (lv_sub hl [3, 4, 5, 6, 0] rfl) hw hF
                                                      · replace hF := st_t hc1400 hF
                                                        refine lv_aload_n hx hb dL_law_1403 rfl (lv_at hl 5 rfl) ?_
                                                        refine lv_iconst (v := 0) hx hb dL_law_1404 (by decide) ?_
                                                        refine g_lald fx hw isL_17 (k := 0) rfl (by decide) dL_law_1405 ?_
                                                        refine lv_iload hx hb dL_law_1406 (lv_at hl 0 rfl) ?_
                                                        refine lv_i2l hx hb dL_law_1408 rfl ?_
                                                        refine g_lcmp hx hb dL_law_1409 ?_
                                                        refine lv_if_eq (tgt := 1415) hx hb dL_law_1410 (by decide) (fun hc1410 => ?_) (fun hc1410 => ?_)
                                                        · replace hF := st_t hc1410 hF
                                                          refine lv_goto (tgt := 1871) hx hb dL_law_1415 (by decide) ?_
                                                          refine lv_iinc (v := (a4 + 6)) (lv' := [(4, .int (a4 + 6)), (6, .int r190), (5, .int r185), (0, .ref b), (1, .ref (ad 0)), (2, .ref (ad 9)), (3, .ref (ad 17))]) hx hb dL_law_1871 hl (k := 6) rfl rfl (by decide) rfl (fun ls hl => ?_)
                                                          refine lv_goto (tgt := 23) hx hb dL_law_1874 (by decide) ?_
                                                          refine W.widen (k := cells + 16) (n := slots + 96) (by omega) (by omega) ?_
                                                          exact ih (a4 + 6) M191 d0 hd0 (cells + 16) (slots + 96) (by omega) (by omega) H locs ls (lv_sub hl [3, 4, 5, 6, 0] rfl) hw hF
                                                        · replace hF := st_f hc1410 hF
                                                          refine lv_iconst (v := 0) hx hb dL_law_1413 (by decide) ?_
                                                          exact nomatch hF
                                                    · replace hF := st_f hc1393 hF
                                                      refine lv_iconst (v := 0) hx hb dL_law_1396 (by decide) ?_
                                                      exact nomatch hF
                                                  · replace hF := st_f hk40_22 hF
                                                    by_cases hk40_23 : y2 = 23
                                                    · replace hF := st_t hk40_23 hF
                                                      subst hk40_23
                                                      refine lv_tableIn (off := 1378) (tgt := 1418) hx hb dL_law_40 (by decide) (by decide) rfl (by decide) ?_
                                                      refine lv_aload_n hx hb dL_law_1418 rfl (lv_at hl 1 rfl) ?_
                                                      refine lv_aload_n hx hb dL_law_1419 rfl (lv_at hl 0 rfl) ?_
                                                      refine lv_iload hx hb dL_law_1420 (lv_at hl 4 rfl) ?_
                                                      refine lv_iconst (v := 1) hx hb dL_law_1422 (by decide) ?_
                                                      refine lv_iadd hx hb dL_law_1423 ?_
                                                      obtain ⟨hi193, hF⟩ := st_chk hF
                                                      refine va_sld (s := s.setDrawn d0) hx hb hX hbl hbA hw.2.2 (inB_in hi193) dL_law_1424 ?_
                                                      refine lv_aload_n hx hb dL_law_1425 rfl (lv_at hl 3 rfl) ?_
                                                      obtain ⟨r194, M195, hgr194, hF⟩ := st_bnd2 hF
                                                      refine g_ci hw (g_runSW (As := [.ref (ad 0), .int (xs (ix (a4 + 1))), .ref (ad 17)]) (rest := []) fx hw (c_L_pass l x D cy ad (xs (ix (a4 + 1))) H.size M r194 M195 hl9 hgr194) wd4_162 wd4_163 wd1_0 wd4_164 yd_L_pass rfl rfl (Nat.le_of_ble_eq_true rfl) hl.1 ⟨Nat.le_trans (Nat.le_of_ble_eq_true rfl) hR.1, Nat.le_trans (Nat.le_of_ble_eq_true rfl) hR.2⟩ ⟨(by omega : _ ≤ 601024), (by omega : _ ≤ 7293034)⟩ dL_law_1426) (fun H locs hw => ?_)
                                                      refine lv_istore (lv' := [(5, .int r194), (0, .ref b), (1, .ref (ad 0)), (2, .ref (ad 9)), (3, .ref (ad 17)), (4, .int a4)]) hx hb dL_law_1429 hl (by decide) rfl (fun ls hl => ?_)
                                                      refine lv_aload_n hx hb dL_law_1431 rfl (lv_at hl 3 rfl) ?_
                                                      refine lv_aload_n hx hb dL_law_1432 rfl (lv_at hl 1 rfl) ?_
                                                      refine lv_iload hx hb dL_law_1433 (lv_at hl 5 rfl) ?_
                                                      refine lv_iconst (v := 1) hx hb dL_law_1435 (by decide) ?_
                                                      refine lv_iadd hx hb dL_law_1436 ?_
                                                      obtain ⟨hi196, hF⟩ := st_chk hF
                                                      refine va_sld (s := s.setDrawn d0) hx hb hX hbl hbA hw.2.2 (inB_in hi196) dL_law_1437 ?_
                                                      obtain ⟨r197, M198, hgr197, hF⟩ := st_bnd2 hF
                                                      refine g_ci hw (g_runV (C := RX6) (As := [.int (xs (ix (a4 + 1)))]) (rest := []) fx hw isO_9 rfl (c_X6_pass l x D cy ad (xs (ix (a4 + 1))) H.size M195 r197 M198 hgr197) wd6_83 wd6_84 wd6_85 wd1_8 wd6_86 yd_X6_pass rfl rfl (Nat.le_of_ble_eq_true rfl) hl.1 ⟨Nat.le_trans (Nat.le_of_ble_eq_true rfl) hR.1, Nat.le_trans (Nat.le_of_ble_eq_true rfl) hR.2⟩ ⟨(by omega : _ ≤ 601024), (by omega : _ ≤ 7293034)⟩ dL_law_1438) (fun H locs hw => ?_)
                                                      refine lv_istore (lv' := [(6, .int r197), (5, .int r194), (0, .ref b), (1, .ref (ad 0)), (2, .ref (ad 9)), (3, .ref (ad 17)), (4, .int a4)]) hx hb dL_law_1441 hl (by decide) rfl (fun ls hl => ?_)
                                                      refine lv_aload_n hx hb dL_law_1443 rfl (lv_at hl 4 rfl) ?_
                                                      obtain ⟨r199, hgr199, hF⟩ := st_bnd hF
                                                      refine g_ci hw (g_runV (C := RX6) (As := []) (rest := []) fx hw isO_9 rfl (c_X6_thrown l x D cy ad H.size M198 r199 hgr199) wd5_77 wd5_78 wd5_79 wd1_8 wd5_80 yd_X6_thrown rfl rfl (Nat.le_of_ble_eq_true rfl) hl.1 ⟨Nat.le_trans (Nat.le_of_ble_eq_true rfl) hR.1, Nat.le_trans (Nat.le_of_ble_eq_true rfl) hR.2⟩ ⟨(by omega : _ ≤ 601024), (by omega : _ ≤ 7293034)⟩ dL_law_1444) (fun H locs hw => ?_)
                                                      refine lv_iload hx hb dL_law_1447 (lv_at hl 1 rfl) ?_
                                                      refine lv_icmp_eq (tgt := 1454) hx hb dL_law_1449 (by decide) (fun hc1449 => ?_) (fun hc1449 => ?_)
                                                      · replace hF := st_t hc1449 hF
                                                        refine lv_iload hx hb dL_law_1454 (lv_at hl 1 rfl) ?_
                                                        refine lv_if_ne (tgt := 1471) hx hb dL_law_1456 (by decide) (fun hc1456 => ?_) (fun hc1456 => ?_)
                                                        · replace hF := st_f hc1456 hF
                                                          refine lv_goto (tgt := 1871) hx hb dL_law_1471 (by decide) ?_
                                                          refine lv_iinc (v := (a4 + 6)) (lv' := [(4, .int (a4 + 6)), (6, .int r197), (5, .int r194), (0, .ref b), (1, .ref (ad 0)), (2, .ref (ad 9)), (3, .ref (ad 17))]) hx hb dL_law_1871 hl (k := 6) rfl rfl (by decide) rfl (fun ls hl => ?_)
                                                          refine lv_goto (tgt := 23) hx hb dL_law_1874 (by decide) ?_
                                                          refine W.widen (k := cells + 16) (n := slots + 96) (by omega) (by omega) ?_
                                                          exact ih (a4 + 6) M198 d0 hd0 (cells + 16) (slots + 96) (by omega) (by omega) H locs ls (lv_sub hl [3, 4, 5, 6, 0] rfl) hw hF
                                                        · replace hF := st_t hc1456 hF
                                                          refine lv_aload_n hx hb dL_law_1459 rfl (lv_at hl 5 rfl) ?_
                                                          refine lv_iconst (v := 0) hx hb dL_law_1460 (by decide) ?_
                                                          refine g_lald fx hw isL_17 (k := 0) rfl (by decide) dL_law_1461 ?_
                                                          refine lv_iload hx hb dL_law_1462 (lv_at hl 0 rfl) ?_
                                                          refine lv_i2l hx hb dL_law_1464 rfl ?_
                                                          refine g_lcmp hx hb dL_law_1465 ?_
                                                          refine lv_if_eq (tgt := 1471) hx hb dL_law_1466 (by decide) (fun hc1466 => ?_) (fun hc1466 => ?_)
                                                          · replace hF := st_t hc1466 hF
                                                            refine lv_goto (tgt := 1871) hx hb dL_law_1471 (by decide) ?_
                                                            refine lv_iinc (v := (a4 + 6)) (lv' := [(4, .int (a4 + 6)), (6, .int r197), (5, .int r194), (0, .ref b), (1, .ref (ad 0)), (2, .ref (ad 9)), (3, .ref (ad 17))]) hx hb dL_law_1871 hl (k := 6) rfl rfl (by decide) rfl (fun ls hl => ?_)
                                                            refine lv_goto (tgt := 23) hx hb dL_law_1874 (by decide) ?_
                                                            refine W.widen (k := cells + 16) (n := slots + 96) (by omega) (by omega) ?_
                                                            exact ih (a4 + 6) M198 d0 hd0 (cells + 16) (slots + 96) (by omega) (by omega) H locs ls (lv_sub hl [3, 4, 5, 6, 0] rfl) hw hF
                                                          · replace hF := st_f hc1466 hF
                                                            refine lv_iconst (v := 0) hx hb dL_law_1469 (by decide) ?_
                                                            exact nomatch hF
                                                      · replace hF := st_f hc1449 hF
                                                        refine lv_iconst (v := 0) hx hb dL_law_1452 (by decide) ?_
                                                        exact nomatch hF
                                                    · replace hF := st_f hk40_23 hF
                                                      by_cases hk40_24 : y2 = 24
                                                      · replace hF := st_t hk40_24 hF
                                                        subst hk40_24
                                                        refine lv_tableIn (off := 1434) (tgt := 1474) hx hb dL_law_40 (by decide) (by decide) rfl (by decide) ?_
                                                        refine lv_aload_n hx hb dL_law_1474 rfl (lv_at hl 1 rfl) ?_
                                                        refine lv_aload_n hx hb dL_law_1475 rfl (lv_at hl 0 rfl) ?_
                                                        refine lv_iload hx hb dL_law_1476 (lv_at hl 4 rfl) ?_
                                                        refine lv_iconst (v := 1) hx hb dL_law_1478 (by decide) ?_
                                                        refine lv_iadd hx hb dL_law_1479 ?_
                                                        obtain ⟨hi200, hF⟩ := st_chk hF
                                                        refine va_sld (s := s.setDrawn d0) hx hb hX hbl hbA hw.2.2 (inB_in hi200) dL_law_1480 ?_
                                                        refine lv_aload_n hx hb dL_law_1481 rfl (lv_at hl 0 rfl) ?_
                                                        refine lv_iload hx hb dL_law_1482 (lv_at hl 4 rfl) ?_
                                                        refine lv_iconst (v := 2) hx hb dL_law_1484 (by decide) ?_
                                                        refine lv_iadd hx hb dL_law_1485 ?_
                                                        obtain ⟨hi201, hF⟩ := st_chk hF
                                                        refine va_sld (s := s.setDrawn d0) hx hb hX hbl hbA hw.2.2 (inB_in hi201) dL_law_1486 ?_
                                                        refine lv_aload_n hx hb dL_law_1487 rfl (lv_at hl 3 rfl) ?_
                                                        obtain ⟨r202, M203, hgr202, hF⟩ := st_bnd2 hF
                                                        refine g_ci hw (g_runSW (As := [.ref (ad 0), .int (xs (ix (a4 + 1))), .int (xs (ix (a4 + 2))), .ref (ad 17)]) (rest := []) fx hw (c_L_setBell l x D cy ad (xs (ix (a4 + 1))) (xs (ix (a4 + 2))) H.size M r202 M203 hl9 hgr202) wd4_171 wd4_172 wd1_0 wd4_173 yd_L_setBell rfl rfl (Nat.le_of_ble_eq_true rfl) hl.1 ⟨Nat.le_trans (Nat.le_of_ble_eq_true rfl) hR.1, Nat.le_trans (Nat.le_of_ble_eq_true rfl) hR.2⟩ ⟨(by omega : _ ≤ 601024), (by omega : _ ≤ 7293034)⟩ dL_law_1488) (fun H locs hw => ?_)
                                                        refine lv_istore (lv' := [(5, .int r202), (0, .ref b), (1, .ref (ad 0)), (2, .ref (ad 9)), (3, .ref (ad 17)), (4, .int a4)]) hx hb dL_law_1491 hl (by decide) rfl (fun ls hl => ?_)
                                                        refine lv_aload_n hx hb dL_law_1493 rfl (lv_at hl 3 rfl) ?_
                                                        refine lv_aload_n hx hb dL_law_1494 rfl (lv_at hl 1 rfl) ?_
                                                        refine lv_iload hx hb dL_law_1495 (lv_at hl 5 rfl) ?_
                                                        refine lv_iconst (v := 1) hx hb dL_law_1497 (by decide) ?_
                                                        refine lv_iadd hx hb dL_law_1498 ?_
                                                        obtain ⟨hi204, hF⟩ := st_chk hF
                                                        refine va_sld (s := s.setDrawn d0) hx hb hX hbl hbA hw.2.2 (inB_in hi204) dL_law_1499 ?_
                                                        refine lv_aload_n hx hb dL_law_1500 rfl (lv_at hl 1 rfl) ?_
                                                        refine lv_iload hx hb dL_law_1501 (lv_at hl 5 rfl) ?_
                                                        refine lv_iconst (v := 2) hx hb dL_law_1503 (by decide) ?_
                                                        refine lv_iadd hx hb dL_law_1504 ?_
                                                        obtain ⟨hi205, hF⟩ := st_chk hF
                                                        refine va_sld (s := s.setDrawn d0) hx hb hX hbl hbA hw.2.2 (inB_in hi205) dL_law_1505 ?_
                                                        obtain ⟨r206, M207, hgr206, hF⟩ := st_bnd2 hF
                                                        refine g_ci hw (g_runV (C := RX6) (As := [.int (xs (ix (a4 + 1))), .int (xs (ix (a4 + 2)))]) (rest := []) fx hw isO_9 rfl (c_X6_setBell l x D cy ad (xs (ix (a4 + 1))) (xs (ix (a4 + 2))) H.size M203 r206 M207 hgr206) wd6_99 wd6_100 wd6_101 wd1_8 wd6_102 yd_X6_setBell rfl rfl (Nat.le_of_ble_eq_true rfl) hl.1 ⟨Nat.le_trans (Nat.le_of_ble_eq_true rfl) hR.1, Nat.le_trans (Nat.le_of_ble_eq_true rfl) hR.2⟩ ⟨(by omega : _ ≤ 601024), (by omega : _ ≤ 7293034)⟩ dL_law_1506) (fun H locs hw => ?_)
                                                        refine lv_istore (lv' := [(6, .int r206), (5, .int r202), (0, .ref b), (1, .ref (ad 0)), (2, .ref (ad 9)), (3, .ref (ad 17)), (4, .int a4)]) hx hb dL_law_1509 hl (by decide) rfl (fun ls hl => ?_)
                                                        refine lv_aload_n hx hb dL_law_1511 rfl (lv_at hl 4 rfl) ?_
                                                        obtain ⟨r208, hgr208, hF⟩ := st_bnd hF
                                                        refine g_ci hw (g_runV (C := RX6) (As := []) (rest := []) fx hw isO_9 rfl (c_X6_thrown l x D cy ad H.size M207 r208 hgr208) wd5_77 wd5_78 wd5_79 wd1_8 wd5_80 yd_X6_thrown rfl rfl (Nat.le_of_ble_eq_true rfl) hl.1 ⟨Nat.le_trans (Nat.le_of_ble_eq_true rfl) hR.1, Nat.le_trans (Nat.le_of_ble_eq_true rfl) hR.2⟩ ⟨(by omega : _ ≤ 601024), (by omega : _ ≤ 7293034)⟩ dL_law_1512) (fun H locs hw => ?_)
                                                        refine lv_iload hx hb dL_law_1515 (lv_at hl 1 rfl) ?_
                                                        refine lv_icmp_eq (tgt := 1522) hx hb dL_law_1517 (by decide) (fun hc1517 => ?_) (fun hc1517 => ?_)
                                                        · replace hF := st_t hc1517 hF
                                                          refine lv_iload hx hb dL_law_1522 (lv_at hl 1 rfl) ?_
                                                          refine lv_if_ne (tgt := 1539) hx hb dL_law_1524 (by decide) (fun hc1524 => ?_) (fun hc1524 => ?_)
                                                          · replace hF := st_f hc1524 hF
                                                            refine lv_goto (tgt := 1871) hx hb dL_law_1539 (by decide) ?_
                                                            refine lv_iinc (v := (a4 + 6)) (lv' := [(4, .int (a4 + 6)), (6, .int r206), (5, .int r202), (0, .ref b), (1, .ref (ad 0)), (2, .ref (ad 9)), (3, .ref (ad 17))]) hx hb dL_law_1871 hl (k := 6) rfl rfl (by decide) rfl (fun ls hl => ?_)
                                                            refine lv_goto (tgt := 23) hx hb dL_law_1874 (by decide) ?_
                                                            refine W.widen (k := cells + 16) (n := slots + 96) (by omega) (by omega) ?_
                                                            exact ih (a4 + 6) M207 d0 hd0 (cells + 16) (slots + 96) (by omega) (by omega) H locs ls (lv_sub hl [3, 4, 5, 6, 0] rfl) hw hF
                                                          · replace hF := st_t hc1524 hF
                                                            refine lv_aload_n hx hb dL_law_1527 rfl (lv_at hl 5 rfl) ?_
                                                            refine lv_iconst (v := 0) hx hb dL_law_1528 (by decide) ?_
                                                            refine g_lald fx hw isL_17 (k := 0) rfl (by decide) dL_law_1529 ?_
                                                            refine lv_iload hx hb dL_law_1530 (lv_at hl 0 rfl) ?_
                                                            refine lv_i2l hx hb dL_law_1532 rfl ?_
                                                            refine g_lcmp hx hb dL_law_1533 ?_
                                                            refine lv_if_eq (tgt := 1539) hx hb dL_law_1534 (by decide) (fun hc1534 => ?_) (fun hc1534 => ?_)
                                                            · replace hF := st_t hc1534 hF
                                                              refine lv_goto (tgt := 1871) hx hb dL_law_1539 (by decide) ?_
                                                              refine lv_iinc (v := (a4 + 6)) (lv' := [(4, .int (a4 + 6)), (6, .int r206), (5, .int r202), (0, .ref b), (1, .ref (ad 0)), (2, .ref (ad 9)), (3, .ref (ad 17))]) hx hb dL_law_1871 hl (k := 6) rfl rfl (by decide) rfl (fun ls hl => ?_)
                                                              refine lv_goto (tgt := 23) hx hb dL_law_1874 (by decide) ?_
                                                              refine W.widen (k := cells + 16) (n := slots + 96) (by omega) (by omega) ?_
                                                              exact ih (a4 + 6) M207 d0 hd0 (cells + 16) (slots + 96) (by omega) (by omega) H locs ls (lv_sub hl [3, 4, 5, 6, 0] rfl) hw hF
                                                            · replace hF := st_f hc1534 hF
                                                              refine lv_iconst (v := 0) hx hb dL_law_1537 (by decide) ?_
                                                              exact nomatch hF
                                                        · replace hF := st_f hc1517 hF
                                                          refine lv_iconst (v := 0) hx hb dL_law_1520 (by decide) ?_
                                                          exact nomatch hF
                                                      · replace hF := st_f hk40_24 hF
                                                        by_cases hk40_25 : y2 = 25
                                                        · replace hF := st_t hk40_25 hF
                                                          subst hk40_25
                                                          refine lv_tableIn (off := 1502) (tgt := 1542) hx hb dL_law_40 (by decide) (by decide) rfl (by decide) ?_
                                                          refine lv_aload_n hx hb dL_law_1542 rfl (lv_at hl 1 rfl) ?_
                                                          refine lv_aload_n hx hb dL_law_1543 rfl (lv_at hl 0 rfl) ?_
                                                          refine lv_iload hx hb dL_law_1544 (lv_at hl 4 rfl) ?_
                                                          refine lv_iconst (v := 1) hx hb dL_law_1546 (by decide) ?_
                                                          refine lv_iadd hx hb dL_law_1547 ?_
                                                          obtain ⟨hi209, hF⟩ := st_chk hF
                                                          refine va_sld (s := s.setDrawn d0) hx hb hX hbl hbA hw.2.2 (inB_in hi209) dL_law_1548 ?_
                                                          refine lv_aload_n hx hb dL_law_1549 rfl (lv_at hl 0 rfl) ?_
                                                          refine lv_iload hx hb dL_law_1550 (lv_at hl 4 rfl) ?_
                                                          refine lv_iconst (v := 2) hx hb dL_law_1552 (by decide) ?_
                                                          refine lv_iadd hx hb dL_law_1553 ?_
                                                          obtain ⟨hi210, hF⟩ := st_chk hF
                                                          refine va_sld (s := s.setDrawn d0) hx hb hX hbl hbA hw.2.2 (inB_in hi210) dL_law_1554 ?_
                                                          refine lv_aload_n hx hb dL_law_1555 rfl (lv_at hl 3 rfl) ?_
                                                          obtain ⟨r211, M212, hgr211, hF⟩ := st_bnd2 hF
                                                          refine g_ci hw (g_runSW (As := [.ref (ad 0), .int (xs (ix (a4 + 1))), .int (xs (ix (a4 + 2))), .ref (ad 17)]) (rest := []) fx hw (c_L_set l x D cy ad (xs (ix (a4 + 1))) (xs (ix (a4 + 2))) H.size M r211 M212 hl9 hgr211) wd4_178 wd4_179 wd1_0 wd4_180 yd_L_set rfl rfl (Nat.le_of_ble_eq_true rfl) hl.1 ⟨Nat.le_trans (Nat.le_of_ble_eq_true rfl) hR.1, Nat.le_trans (Nat.le_of_ble_eq_true rfl) hR.2⟩ ⟨(by omega : _ ≤ 601024), (by omega : _ ≤ 7293034)⟩ dL_law_1556) (fun H locs hw => ?_)
                                                          refine lv_istore (lv' := [(5, .int r211), (0, .ref b), (1, .ref (ad 0)), (2, .ref (ad 9)), (3, .ref (ad 17)), (4, .int a4)]) hx hb dL_law_1559 hl (by decide) rfl (fun ls hl => ?_)
                                                          refine lv_aload_n hx hb dL_law_1561 rfl (lv_at hl 3 rfl) ?_
                                                          refine lv_aload_n hx hb dL_law_1562 rfl (lv_at hl 1 rfl) ?_
                                                          refine lv_iload hx hb dL_law_1563 (lv_at hl 5 rfl) ?_
                                                          refine lv_iconst (v := 1) hx hb dL_law_1565 (by decide) ?_
                                                          refine lv_iadd hx hb dL_law_1566 ?_
                                                          obtain ⟨hi213, hF⟩ := st_chk hF
                                                          refine va_sld (s := s.setDrawn d0) hx hb hX hbl hbA hw.2.2 (inB_in hi213) dL_law_1567 ?_
                                                          refine lv_aload_n hx hb dL_law_1568 rfl (lv_at hl 1 rfl) ?_
                                                          refine lv_iload hx hb dL_law_1569 (lv_at hl 5 rfl) ?_
                                                          refine lv_iconst (v := 2) hx hb dL_law_1571 (by decide) ?_
                                                          refine lv_iadd hx hb dL_law_1572 ?_
                                                          obtain ⟨hi214, hF⟩ := st_chk hF
                                                          refine va_sld (s := s.setDrawn d0) hx hb hX hbl hbA hw.2.2 (inB_in hi214) dL_law_1573 ?_
                                                          obtain ⟨r215, M216, hgr215, hF⟩ := st_bnd2 hF
                                                          refine g_ci hw (g_runV (C := RX6) (As := [.int (xs (ix (a4 + 1))), .int (xs (ix (a4 + 2)))]) (rest := []) fx hw isO_9 rfl (c_X6_set l x D cy ad (xs (ix (a4 + 1))) (xs (ix (a4 + 2))) H.size M212 r215 M216 hgr215) wd6_103 wd6_104 wd6_105 wd1_8 wd6_106 yd_X6_set rfl rfl (Nat.le_of_ble_eq_true rfl) hl.1 ⟨Nat.le_trans (Nat.le_of_ble_eq_true rfl) hR.1, Nat.le_trans (Nat.le_of_ble_eq_true rfl) hR.2⟩ ⟨(by omega : _ ≤ 601024), (by omega : _ ≤ 7293034)⟩ dL_law_1574) (fun H locs hw => ?_)
                                                          refine lv_istore (lv' := [(6, .int r215), (5, .int r211), (0, .ref b), (1, .ref (ad 0)), (2, .ref (ad 9)), (3, .ref (ad 17)), (4, .int a4)]) hx hb dL_law_1577 hl (by decide) rfl (fun ls hl => ?_)
                                                          refine lv_aload_n hx hb dL_law_1579 rfl (lv_at hl 4 rfl) ?_
                                                          obtain ⟨r217, hgr217, hF⟩ := st_bnd hF
                                                          refine g_ci hw (g_runV (C := RX6) (As := []) (rest := []) fx hw isO_9 rfl (c_X6_thrown l x D cy ad H.size M216 r217 hgr217) wd5_77 wd5_78 wd5_79 wd1_8 wd5_80 yd_X6_thrown rfl rfl (Nat.le_of_ble_eq_true rfl) hl.1 ⟨Nat.le_trans (Nat.le_of_ble_eq_true rfl) hR.1, Nat.le_trans (Nat.le_of_ble_eq_true rfl) hR.2⟩ ⟨(by omega : _ ≤ 601024), (by omega : _ ≤ 7293034)⟩ dL_law_1580) (fun H locs hw => ?_)
                                                          refine lv_iload hx hb dL_law_1583 (lv_at hl 1 rfl) ?_
                                                          refine lv_icmp_eq (tgt := 1590) hx hb dL_law_1585 (by decide) (fun hc1585 => ?_) (fun hc1585 => ?_)
                                                          · replace hF := st_t hc1585 hF
                                                            refine lv_iload hx hb dL_law_1590 (lv_at hl 1 rfl) ?_
                                                            refine lv_if_ne (tgt := 1607) hx hb dL_law_1592 (by decide) (fun hc1592 => ?_) (fun hc1592 => ?_)
                                                            · replace hF := st_f hc1592 hF
                                                              refine lv_goto (tgt := 1871) hx hb dL_law_1607 (by decide) ?_
                                                              refine lv_iinc (v := (a4 + 6)) (lv' := [(4, .int (a4 + 6)), (6, .int r215), (5, .int r211), (0, .ref b), (1, .ref (ad 0)), (2, .ref (ad 9)), (3, .ref (ad 17))]) hx hb dL_law_1871 hl (k := 6) rfl rfl (by decide) rfl (fun ls hl => ?_)
                                                              refine lv_goto (tgt := 23) hx hb dL_law_1874 (by decide) ?_
                                                              refine W.widen (k := cells + 16) (n := slots + 96) (by omega) (by omega) ?_
                                                              exact ih (a4 + 6) M216 d0 hd0 (cells + 16) (slots + 96) (by omega) (by omega) H locs ls (lv_sub hl [3, 4, 5, 6, 0] rfl) hw hF
                                                            · replace hF := st_t hc1592 hF
                                                              refine lv_aload_n hx hb dL_law_1595 rfl (lv_at hl 5 rfl) ?_
                                                              refine lv_iconst (v := 0) hx hb dL_law_1596 (by decide) ?_
                                                              refine g_lald fx hw isL_17 (k := 0) rfl (by decide) dL_law_1597 ?_
                                                              refine lv_iload hx hb dL_law_1598 (lv_at hl 0 rfl) ?_
                                                              refine lv_i2l hx hb dL_law_1600 rfl ?_
                                                              refine g_lcmp hx hb dL_law_1601 ?_
                                                              refine lv_if_eq (tgt := 1607) hx hb dL_law_1602 (by decide) (fun hc1602 => ?_) (fun hc1602 => ?_)
                                                              · replace hF := st_t hc1602 hF
                                                                refine lv_goto (tgt := 1871) hx hb dL_law_1607 (by decide) ?_
                                                                refine lv_iinc (v := (a4 + 6)) (lv' := [(4, .int (a4 + 6)), (6, .int r215), (5, .int r211), (0, .ref b), (1, .ref (ad 0)), (2, .ref (ad 9)), (3, .ref (ad 17))]) hx hb dL_law_1871 hl (k := 6) rfl rfl (by decide) rfl (fun ls hl => ?_)
                                                                refine lv_goto (tgt := 23) hx hb dL_law_1874 (by decide) ?_
                                                                refine W.widen (k := cells + 16) (n := slots + 96) (by omega) (by omega) ?_
                                                                exact ih (a4 + 6) M216 d0 hd0 (cells + 16) (slots + 96) (by omega) (by omega) H locs ls (lv_sub hl [3, 4, 5, 6, 0] rfl) hw hF
                                                              · replace hF := st_f hc1602 hF
                                                                refine lv_iconst (v := 0) hx hb dL_law_1605 (by decide) ?_
                                                                exact nomatch hF
                                                          · replace hF := st_f hc1585 hF
                                                            refine lv_iconst (v := 0) hx hb dL_law_1588 (by decide) ?_
                                                            exact nomatch hF
                                                        · replace hF := st_f hk40_25 hF
                                                          by_cases hk40_26 : y2 = 26
                                                          · replace hF := st_t hk40_26 hF
                                                            subst hk40_26
                                                            refine lv_tableIn (off := 1570) (tgt := 1610) hx hb dL_law_40 (by decide) (by decide) rfl (by decide) ?_
                                                            refine lv_aload_n hx hb dL_law_1610 rfl (lv_at hl 1 rfl) ?_
                                                            refine lv_aload_n hx hb dL_law_1611 rfl (lv_at hl 3 rfl) ?_
                                                            obtain ⟨r218, M219, hgr218, hF⟩ := st_bnd2 hF
                                                            refine g_ci hw (g_runSW (As := [.ref (ad 0), .ref (ad 17)]) (rest := []) fx hw (c_L_undo l x D cy ad H.size M r218 M219 hl9 hgr218) wd4_185 wd4_186 wd1_0 wd4_187 yd_L_undo rfl rfl (Nat.le_of_ble_eq_true rfl) hl.1 ⟨Nat.le_trans (Nat.le_of_ble_eq_true rfl) hR.1, Nat.le_trans (Nat.le_of_ble_eq_true rfl) hR.2⟩ ⟨(by omega : _ ≤ 601024), (by omega : _ ≤ 7293034)⟩ dL_law_1612) (fun H locs hw => ?_)
                                                            refine lv_istore (lv' := [(5, .int r218), (0, .ref b), (1, .ref (ad 0)), (2, .ref (ad 9)), (3, .ref (ad 17)), (4, .int a4)]) hx hb dL_law_1615 hl (by decide) rfl (fun ls hl => ?_)
                                                            refine lv_aload_n hx hb dL_law_1617 rfl (lv_at hl 3 rfl) ?_
                                                            obtain ⟨r220, M221, hgr220, hF⟩ := st_bnd2 hF
                                                            refine g_ci hw (g_runV (C := RX6) (As := []) (rest := []) fx hw isO_9 rfl (c_X6_undo l x D cy ad H.size M219 r220 M221 hgr220) wd5_81 wd5_82 wd5_83 wd1_8 wd5_84 yd_X6_undo rfl rfl (Nat.le_of_ble_eq_true rfl) hl.1 ⟨Nat.le_trans (Nat.le_of_ble_eq_true rfl) hR.1, Nat.le_trans (Nat.le_of_ble_eq_true rfl) hR.2⟩ ⟨(by omega : _ ≤ 601024), (by omega : _ ≤ 7293034)⟩ dL_law_1618) (fun H locs hw => ?_)
                                                            refine lv_istore (lv' := [(6, .int r220), (5, .int r218), (0, .ref b), (1, .ref (ad 0)), (2, .ref (ad 9)), (3, .ref (ad 17)), (4, .int a4)]) hx hb dL_law_1621 hl (by decide) rfl (fun ls hl => ?_)
                                                            refine lv_aload_n hx hb dL_law_1623 rfl (lv_at hl 4 rfl) ?_
                                                            obtain ⟨r222, hgr222, hF⟩ := st_bnd hF
                                                            refine g_ci hw (g_runV (C := RX6) (As := []) (rest := []) fx hw isO_9 rfl (c_X6_thrown l x D cy ad H.size M221 r222 hgr222) wd5_77 wd5_78 wd5_79 wd1_8 wd5_80 yd_X6_thrown rfl rfl (Nat.le_of_ble_eq_true rfl) hl.1 ⟨Nat.le_trans (Nat.le_of_ble_eq_true rfl) hR.1, Nat.le_trans (Nat.le_of_ble_eq_true rfl) hR.2⟩ ⟨(by omega : _ ≤ 601024), (by omega : _ ≤ 7293034)⟩ dL_law_1624) (fun H locs hw => ?_)
                                                            refine lv_iload hx hb dL_law_1627 (lv_at hl 1 rfl) ?_
                                                            refine lv_icmp_eq (tgt := 1634) hx hb dL_law_1629 (by decide) (fun hc1629 => ?_) (fun hc1629 => ?_)
                                                            · replace hF := st_t hc1629 hF
                                                              refine lv_iload hx hb dL_law_1634 (lv_at hl 1 rfl) ?_
                                                              refine lv_if_ne (tgt := 1651) hx hb dL_law_1636 (by decide) (fun hc1636 => ?_) (fun hc1636 => ?_)
                                                              · replace hF := st_f hc1636 hF
                                                                refine lv_goto (tgt := 1871) hx hb dL_law_1651 (by decide) ?_
                                                                refine lv_iinc (v := (a4 + 6)) (lv' := [(4, .int (a4 + 6)), (6, .int r220), (5, .int r218), (0, .ref b), (1, .ref (ad 0)), (2, .ref (ad 9)), (3, .ref (ad 17))]) hx hb dL_law_1871 hl (k := 6) rfl rfl (by decide) rfl (fun ls hl => ?_)
                                                                refine lv_goto (tgt := 23) hx hb dL_law_1874 (by decide) ?_
                                                                refine W.widen (k := cells + 16) (n := slots + 96) (by omega) (by omega) ?_
                                                                exact ih (a4 + 6) M221 d0 hd0 (cells + 16) (slots + 96) (by omega) (by omega) H locs ls (lv_sub hl [3, 4, 5, 6, 0] rfl) hw hF
                                                              · replace hF := st_t hc1636 hF
                                                                refine lv_aload_n hx hb dL_law_1639 rfl (lv_at hl 5 rfl) ?_
                                                                refine lv_iconst (v := 0) hx hb dL_law_1640 (by decide) ?_
                                                                refine g_lald fx hw isL_17 (k := 0) rfl (by decide) dL_law_1641 ?_
                                                                refine lv_iload hx hb dL_law_1642 (lv_at hl 0 rfl) ?_
                                                                refine lv_i2l hx hb dL_law_1644 rfl ?_
                                                                refine g_lcmp hx hb dL_law_1645 ?_
                                                                refine lv_if_eq (tgt := 1651) hx hb dL_law_1646 (by decide) (fun hc1646 => ?_) (fun hc1646 => ?_)
                                                                · replace hF := st_t hc1646 hF
                                                                  refine lv_goto (tgt := 1871) hx hb dL_law_1651 (by decide) ?_
                                                                  refine lv_iinc (v := (a4 + 6)) (lv' := [(4, .int (a4 + 6)), (6, .int r220), (5, .int r218), (0, .ref b), (1, .ref (ad 0)), (2, .ref (ad 9)), (3, .ref (ad 17))]) hx hb dL_law_1871 hl (k := 6) rfl rfl (by decide) rfl (fun ls hl => ?_)
                                                                  refine lv_goto (tgt := 23) hx hb dL_law_1874 (by decide) ?_
                                                                  refine W.widen (k := cells + 16) (n := slots + 96) (by omega) (by omega) ?_
                                                                  exact ih (a4 + 6) M221 d0 hd0 (cells + 16) (slots + 96) (by omega) (by omega) H locs ls (lv_sub hl [3, 4, 5, 6, 0] rfl) hw hF
                                                                · replace hF := st_f hc1646 hF
                                                                  refine lv_iconst (v := 0) hx hb dL_law_1649 (by decide) ?_
                                                                  exact nomatch hF
                                                            · replace hF := st_f hc1629 hF
                                                              refine lv_iconst (v := 0) hx hb dL_law_1632 (by decide) ?_
                                                              exact nomatch hF
                                                          · replace hF := st_f hk40_26 hF
                                                            by_cases hk40_27 : y2 = 27
                                                            · replace hF := st_t hk40_27 hF
                                                              subst hk40_27
                                                              refine lv_tableIn (off := 1614) (tgt := 1654) hx hb dL_law_40 (by decide) (by decide) rfl (by decide) ?_
                                                              refine lv_aload_n hx hb dL_law_1654 rfl (lv_at hl 1 rfl) ?_
                                                              refine lv_aload_n hx hb dL_law_1655 rfl (lv_at hl 0 rfl) ?_
                                                              refine lv_iload hx hb dL_law_1656 (lv_at hl 4 rfl) ?_
                                                              refine lv_iconst (v := 1) hx hb dL_law_1658 (by decide) ?_
                                                              refine lv_iadd hx hb dL_law_1659 ?_
                                                              obtain ⟨hi223, hF⟩ := st_chk hF
                                                              refine va_sld (s := s.setDrawn d0) hx hb hX hbl hbA hw.2.2 (inB_in hi223) dL_law_1660 ?_
                                                              obtain ⟨r224, M225, hgr224, hF⟩ := st_bnd2 hF
                                                              refine g_ci hw (g_runSW (As := [.ref (ad 0), .int (xs (ix (a4 + 1)))]) (rest := []) fx hw (c_L_save l x D cy ad (xs (ix (a4 + 1))) H.size M r224 M225 hl9 hgr224) wd4_197 wd4_198 wd1_0 wd4_199 yd_L_save rfl rfl (Nat.le_of_ble_eq_true rfl) hl.1 ⟨Nat.le_trans (Nat.le_of_ble_eq_true rfl) hR.1, Nat.le_trans (Nat.le_of_ble_eq_true rfl) hR.2⟩ ⟨(by omega : _ ≤ 601024), (by omega : _ ≤ 7293034)⟩ dL_law_1661) (fun H locs hw => ?_)
                                                              refine lv_istore (lv' := [(5, .int r224), (0, .ref b), (1, .ref (ad 0)), (2, .ref (ad 9)), (3, .ref (ad 17)), (4, .int a4)]) hx hb dL_law_1664 hl (by decide) rfl (fun ls hl => ?_)
                                                              refine lv_aload_n hx hb dL_law_1666 rfl (lv_at hl 3 rfl) ?_
                                                              refine lv_aload_n hx hb dL_law_1667 rfl (lv_at hl 1 rfl) ?_
                                                              refine lv_iload hx hb dL_law_1668 (lv_at hl 5 rfl) ?_
                                                              refine lv_iconst (v := 1) hx hb dL_law_1670 (by decide) ?_
                                                              refine lv_iadd hx hb dL_law_1671 ?_
                                                              obtain ⟨hi226, hF⟩ := st_chk hF
                                                              refine va_sld (s := s.setDrawn d0) hx hb hX hbl hbA hw.2.2 (inB_in hi226) dL_law_1672 ?_
                                                              obtain ⟨M228, hgr227, hF⟩ := st_bnd hF
                                                              refine g_cv hw (g_runV (C := RX6) (As := [.int (xs (ix (a4 + 1)))]) (rest := []) fx hw isO_9 rfl (c_X6_save l x D cy ad (xs (ix (a4 + 1))) H.size M225 M228 hgr227) wd5_88 wd5_89 wd5_90 wd1_8 wd5_91 yd_X6_save rfl rfl (Nat.le_of_ble_eq_true rfl) hl.1 ⟨Nat.le_trans (Nat.le_of_ble_eq_true rfl) hR.1, Nat.le_trans (Nat.le_of_ble_eq_true rfl) hR.2⟩ ⟨(by omega : _ ≤ 601024), (by omega : _ ≤ 7293034)⟩ dL_law_1673) (fun H locs hw => ?_)
                                                              refine lv_aload_n hx hb dL_law_1676 rfl (lv_at hl 3 rfl) ?_
                                                              obtain ⟨r229, hgr229, hF⟩ := st_bnd hF
                                                              refine g_ci hw (g_runV (C := RX6) (As := []) (rest := []) fx hw isO_9 rfl (c_X6_thrown l x D cy ad H.size M228 r229 hgr229) wd5_77 wd5_78 wd5_79 wd1_8 wd5_80 yd_X6_thrown rfl rfl (Nat.le_of_ble_eq_true rfl) hl.1 ⟨Nat.le_trans (Nat.le_of_ble_eq_true rfl) hR.1, Nat.le_trans (Nat.le_of_ble_eq_true rfl) hR.2⟩ ⟨(by omega : _ ≤ 601024), (by omega : _ ≤ 7293034)⟩ dL_law_1677) (fun H locs hw => ?_)
                                                              refine lv_iload hx hb dL_law_1680 (lv_at hl 0 rfl) ?_
                                                              refine lv_icmp_eq (tgt := 1687) hx hb dL_law_1682 (by decide) (fun hc1682 => ?_) (fun hc1682 => ?_)
                                                              · replace hF := st_t hc1682 hF
                                                                refine lv_goto (tgt := 1871) hx hb dL_law_1687 (by decide) ?_
                                                                refine lv_iinc (v := (a4 + 6)) (lv' := [(4, .int (a4 + 6)), (5, .int r224), (0, .ref b), (1, .ref (ad 0)), (2, .ref (ad 9)), (3, .ref (ad 17))]) hx hb dL_law_1871 hl (k := 5) rfl rfl (by decide) rfl (fun ls hl => ?_)
                                                                refine lv_goto (tgt := 23) hx hb dL_law_1874 (by decide) ?_
                                                                refine W.widen (k := cells + 16) (n := slots + 96) (by omega) (by omega) ?_
                                                                exact ih (a4 + 6) M228 d0 hd0 (cells + 16) (slots + 96) (by omega) (by omega) H locs ls (lv_sub hl [2, 3, 4, 5, 0] rfl) hw hF
                                                              · replace hF := st_f hc1682 hF
                                                                refine lv_iconst (v := 0) hx hb dL_law_1685 (by decide) ?_
                                                                exact nomatch hF
                                                            · replace hF := st_f hk40_27 hF
                                                              by_cases hk40_28 : y2 = 28
                                                              · replace hF := st_t hk40_28 hF
                                                                subst hk40_28
                                                                refine lv_tableIn (off := 1650) (tgt := 1690) hx hb dL_law_40 (by decide) (by decide) rfl (by decide) ?_
                                                                refine lv_aload_n hx hb dL_law_1690 rfl (lv_at hl 1 rfl) ?_
                                                                refine lv_aload_n hx hb dL_law_1691 rfl (lv_at hl 0 rfl) ?_
                                                                refine lv_iload hx hb dL_law_1692 (lv_at hl 4 rfl) ?_
                                                                refine lv_iconst (v := 1) hx hb dL_law_1694 (by decide) ?_
                                                                refine lv_iadd hx hb dL_law_1695 ?_
                                                                obtain ⟨hi230, hF⟩ := st_chk hF
                                                                refine va_sld (s := s.setDrawn d0) hx hb hX hbl hbA hw.2.2 (inB_in hi230) dL_law_1696 ?_
                                                                refine lv_aload_n hx hb dL_law_1697 rfl (lv_at hl 3 rfl) ?_
                                                                obtain ⟨r231, M232, hgr231, hF⟩ := st_bnd2 hF
                                                                refine g_ci hw (g_runSW (As := [.ref (ad 0), .int (xs (ix (a4 + 1))), .ref (ad 17)]) (rest := []) fx hw (c_L_restore l x D cy ad (xs (ix (a4 + 1))) H.size M r231 M232 hl9 hgr231) wd4_208 wd4_209 wd1_0 wd4_210 yd_L_restore rfl rfl (Nat.le_of_ble_eq_true rfl) hl.1 ⟨Nat.le_trans (Nat.le_of_ble_eq_true rfl) hR.1, Nat.le_trans (Nat.le_of_ble_eq_true rfl) hR.2⟩ ⟨(by omega : _ ≤ 601024), (by omega : _ ≤ 7293034)⟩ dL_law_1698) (fun H locs hw => ?_)
                                                                refine lv_istore (lv' := [(5, .int r231), (0, .ref b), (1, .ref (ad 0)), (2, .ref (ad 9)), (3, .ref (ad 17)), (4, .int a4)]) hx hb dL_law_1701 hl (by decide) rfl (fun ls hl => ?_)
                                                                refine lv_aload_n hx hb dL_law_1703 rfl (lv_at hl 3 rfl) ?_
                                                                refine lv_aload_n hx hb dL_law_1704 rfl (lv_at hl 1 rfl) ?_
                                                                refine lv_iload hx hb dL_law_1705 (lv_at hl 5 rfl) ?_
                                                                refine lv_iconst (v := 1) hx hb dL_law_1707 (by decide) ?_
                                                                refine lv_iadd hx hb dL_law_1708 ?_
                                                                obtain ⟨hi233, hF⟩ := st_chk hF
                                                                refine va_sld (s := s.setDrawn d0) hx hb hX hbl hbA hw.2.2 (inB_in hi233) dL_law_1709 ?_
                                                                obtain ⟨r234, M235, hgr234, hF⟩ := st_bnd2 hF
                                                                refine g_ci hw (g_runV (C := RX6) (As := [.int (xs (ix (a4 + 1)))]) (rest := []) fx hw isO_9 rfl (c_X6_restore l x D cy ad (xs (ix (a4 + 1))) H.size M232 r234 M235 hgr234) wd5_95 wd5_96 wd5_97 wd1_8 wd5_98 yd_X6_restore rfl rfl (Nat.le_of_ble_eq_true rfl) hl.1 ⟨Nat.le_trans (Nat.le_of_ble_eq_true rfl) hR.1, Nat.le_trans (Nat.le_of_ble_eq_true rfl) hR.2⟩ ⟨(by omega : _ ≤ 601024), (by omega : _ ≤ 7293034)⟩ dL_law_1710) (fun H locs hw => ?_)
                                                                refine lv_istore (lv' := [(6, .int r234), (5, .int r231), (0, .ref b), (1, .ref (ad 0)), (2, .ref (ad 9)), (3, .ref (ad 17)), (4, .int a4)]) hx hb dL_law_1713 hl (by decide) rfl (fun ls hl => ?_)
                                                                refine lv_aload_n hx hb dL_law_1715 rfl (lv_at hl 4 rfl) ?_
                                                                obtain ⟨r236, hgr236, hF⟩ := st_bnd hF
                                                                refine g_ci hw (g_runV (C := RX6) (As := []) (rest := []) fx hw isO_9 rfl (c_X6_thrown l x D cy ad H.size M235 r236 hgr236) wd5_77 wd5_78 wd5_79 wd1_8 wd5_80 yd_X6_thrown rfl rfl (Nat.le_of_ble_eq_true rfl) hl.1 ⟨Nat.le_trans (Nat.le_of_ble_eq_true rfl) hR.1, Nat.le_trans (Nat.le_of_ble_eq_true rfl) hR.2⟩ ⟨(by omega : _ ≤ 601024), (by omega : _ ≤ 7293034)⟩ dL_law_1716) (fun H locs hw => ?_)
                                                                refine lv_iload hx hb dL_law_1719 (lv_at hl 1 rfl) ?_
                                                                refine lv_icmp_eq (tgt := 1726) hx hb dL_law_1721 (by decide) (fun hc1721 => ?_) (fun hc1721 => ?_)
                                                                · replace hF := st_t hc1721 hF
                                                                  refine lv_iload hx hb dL_law_1726 (lv_at hl 1 rfl) ?_
                                                                  refine lv_if_ne (tgt := 1743) hx hb dL_law_1728 (by decide) (fun hc1728 => ?_) (fun hc1728 => ?_)
                                                                  · replace hF := st_f hc1728 hF
                                                                    refine lv_goto (tgt := 1871) hx hb dL_law_1743 (by decide) ?_
                                                                    refine lv_iinc (v := (a4 + 6)) (lv' := [(4, .int (a4 + 6)), (6, .int r234), (5, .int r231), (0, .ref b), (1, .ref (ad 0)), (2, .ref (ad 9)), (3, .ref (ad 17))]) hx hb dL_law_1871 hl (k := 6) rfl rfl (by decide) rfl (fun ls hl => ?_)
                                                                    refine lv_goto (tgt := 23) hx hb dL_law_1874 (by decide) ?_
                                                                    refine W.widen (k := cells + 16) (n := slots + 96) (by omega) (by omega) ?_
                                                                    exact ih (a4 + 6) M235 d0 hd0 (cells + 16) (slots + 96) (by omega) (by omega) H locs ls (lv_sub hl [3, 4, 5, 6, 0] rfl) hw hF
                                                                  · replace hF := st_t hc1728 hF
                                                                    refine lv_aload_n hx hb dL_law_1731 rfl (lv_at hl 5 rfl) ?_
                                                                    refine lv_iconst (v := 0) hx hb dL_law_1732 (by decide) ?_
                                                                    refine g_lald fx hw isL_17 (k := 0) rfl (by decide) dL_law_1733 ?_
                                                                    refine lv_iload hx hb dL_law_1734 (lv_at hl 0 rfl) ?_
                                                                    refine lv_i2l hx hb dL_law_1736 rfl ?_
                                                                    refine g_lcmp hx hb dL_law_1737 ?_
                                                                    refine lv_if_eq (tgt := 1743) hx hb dL_law_1738 (by decide) (fun hc1738 => ?_) (fun hc1738 => ?_)
                                                                    · replace hF := st_t hc1738 hF
                                                                      refine lv_goto (tgt := 1871) hx hb dL_law_1743 (by decide) ?_
                                                                      refine lv_iinc (v := (a4 + 6)) (lv' := [(4, .int (a4 + 6)), (6, .int r234), (5, .int r231), (0, .ref b), (1, .ref (ad 0)), (2, .ref (ad 9)), (3, .ref (ad 17))]) hx hb dL_law_1871 hl (k := 6) rfl rfl (by decide) rfl (fun ls hl => ?_)
                                                                      refine lv_goto (tgt := 23) hx hb dL_law_1874 (by decide) ?_
                                                                      refine W.widen (k := cells + 16) (n := slots + 96) (by omega) (by omega) ?_
                                                                      exact ih (a4 + 6) M235 d0 hd0 (cells + 16) (slots + 96) (by omega) (by omega) H locs ls (lv_sub hl [3, 4, 5, 6, 0] rfl) hw hF
                                                                    · replace hF := st_f hc1738 hF
                                                                      refine lv_iconst (v := 0) hx hb dL_law_1741 (by decide) ?_
                                                                      exact nomatch hF
                                                                · replace hF := st_f hc1721 hF
                                                                  refine lv_iconst (v := 0) hx hb dL_law_1724 (by decide) ?_
                                                                  exact nomatch hF
                                                              · replace hF := st_f hk40_28 hF
                                                                by_cases hk40_29 : y2 = 29
                                                                · replace hF := st_t hk40_29 hF
                                                                  subst hk40_29
                                                                  refine lv_tableIn (off := 1706) (tgt := 1746) hx hb dL_law_40 (by decide) (by decide) rfl (by decide) ?_
                                                                  refine lv_aload_n hx hb dL_law_1746 rfl (lv_at hl 1 rfl) ?_
                                                                  refine lv_aload_n hx hb dL_law_1747 rfl (lv_at hl 0 rfl) ?_
                                                                  refine lv_iload hx hb dL_law_1748 (lv_at hl 4 rfl) ?_
                                                                  refine lv_iconst (v := 1) hx hb dL_law_1750 (by decide) ?_
                                                                  refine lv_iadd hx hb dL_law_1751 ?_
                                                                  obtain ⟨hi237, hF⟩ := st_chk hF
                                                                  refine va_sld (s := s.setDrawn d0) hx hb hX hbl hbA hw.2.2 (inB_in hi237) dL_law_1752 ?_
                                                                  refine lv_aload_n hx hb dL_law_1753 rfl (lv_at hl 3 rfl) ?_
                                                                  obtain ⟨r238, M239, hgr238, hF⟩ := st_bnd2 hF
                                                                  refine g_ci hw (g_runSW (As := [.ref (ad 0), .int (xs (ix (a4 + 1))), .ref (ad 17)]) (rest := []) fx hw (c_L_writeMonk l x D cy ad (xs (ix (a4 + 1))) H.size M r238 M239 hl9 hgr238) wd4_216 wd4_217 wd1_0 wd4_218 yd_L_writeMonk rfl rfl (Nat.le_of_ble_eq_true rfl) hl.1 ⟨Nat.le_trans (Nat.le_of_ble_eq_true rfl) hR.1, Nat.le_trans (Nat.le_of_ble_eq_true rfl) hR.2⟩ ⟨(by omega : _ ≤ 601024), (by omega : _ ≤ 7293034)⟩ dL_law_1754) (fun H locs hw => ?_)
                                                                  refine lv_istore (lv' := [(5, .int r238), (0, .ref b), (1, .ref (ad 0)), (2, .ref (ad 9)), (3, .ref (ad 17)), (4, .int a4)]) hx hb dL_law_1757 hl (by decide) rfl (fun ls hl => ?_)
                                                                  refine lv_aload_n hx hb dL_law_1759 rfl (lv_at hl 3 rfl) ?_
                                                                  refine lv_aload_n hx hb dL_law_1760 rfl (lv_at hl 1 rfl) ?_
                                                                  refine lv_iload hx hb dL_law_1761 (lv_at hl 5 rfl) ?_
                                                                  refine lv_iconst (v := 1) hx hb dL_law_1763 (by decide) ?_
                                                                  refine lv_iadd hx hb dL_law_1764 ?_
                                                                  obtain ⟨hi240, hF⟩ := st_chk hF
                                                                  refine va_sld (s := s.setDrawn d0) hx hb hX hbl hbA hw.2.2 (inB_in hi240) dL_law_1765 ?_
                                                                  obtain ⟨r241, M242, hgr241, hF⟩ := st_bnd2 hF
                                                                  refine g_ci hw (g_runV (C := RX6) (As := [.int (xs (ix (a4 + 1)))]) (rest := []) fx hw isO_9 rfl (c_X6_writeMonk l x D cy ad (xs (ix (a4 + 1))) H.size M239 r241 M242 hgr241) wd6_107 wd6_108 wd6_109 wd1_8 wd6_110 yd_X6_writeMonk rfl rfl (Nat.le_of_ble_eq_true rfl) hl.1 ⟨Nat.le_trans (Nat.le_of_ble_eq_true rfl) hR.1, Nat.le_trans (Nat.le_of_ble_eq_true rfl) hR.2⟩ ⟨(by omega : _ ≤ 601024), (by omega : _ ≤ 7293034)⟩ dL_law_1766) (fun H locs hw => ?_)
                                                                  refine lv_istore (lv' := [(6, .int r241), (5, .int r238), (0, .ref b), (1, .ref (ad 0)), (2, .ref (ad 9)), (3, .ref (ad 17)), (4, .int a4)]) hx hb dL_law_1769 hl (by decide) rfl (fun ls hl => ?_)
                                                                  refine lv_aload_n hx hb dL_law_1771 rfl (lv_at hl 4 rfl) ?_
                                                                  obtain ⟨r243, hgr243, hF⟩ := st_bnd hF
                                                                  refine g_ci hw (g_runV (C := RX6) (As := []) (rest := []) fx hw isO_9 rfl (c_X6_thrown l x D cy ad H.size M242 r243 hgr243) wd5_77 wd5_78 wd5_79 wd1_8 wd5_80 yd_X6_thrown rfl rfl (Nat.le_of_ble_eq_true rfl) hl.1 ⟨Nat.le_trans (Nat.le_of_ble_eq_true rfl) hR.1, Nat.le_trans (Nat.le_of_ble_eq_true rfl) hR.2⟩ ⟨(by omega : _ ≤ 601024), (by omega : _ ≤ 7293034)⟩ dL_law_1772) (fun H locs hw => ?_)
                                                                  refine lv_iload hx hb dL_law_1775 (lv_at hl 1 rfl) ?_
                                                                  refine lv_icmp_eq (tgt := 1782) hx hb dL_law_1777 (by decide) (fun hc1777 => ?_) (fun hc1777 => ?_)
                                                                  · replace hF := st_t hc1777 hF
                                                                    refine lv_iload hx hb dL_law_1782 (lv_at hl 1 rfl) ?_
                                                                    refine lv_if_ne (tgt := 1799) hx hb dL_law_1784 (by decide) (fun hc1784 => ?_) (fun hc1784 => ?_)
                                                                    · replace hF := st_f hc1784 hF
                                                                      refine lv_goto (tgt := 1871) hx hb dL_law_1799 (by decide) ?_
                                                                      refine lv_iinc (v := (a4 + 6)) (lv' := [(4, .int (a4 + 6)), (6, .int r241), (5, .int r238), (0, .ref b), (1, .ref (ad 0)), (2, .ref (ad 9)), (3, .ref (ad 17))]) hx hb dL_law_1871 hl (k := 6) rfl rfl (by decide) rfl (fun ls hl => ?_)
                                                                      refine lv_goto (tgt := 23) hx hb dL_law_1874 (by decide) ?_
                                                                      refine W.widen (k := cells + 16) (n := slots + 96) (by omega) (by omega) ?_
                                                                      exact ih (a4 + 6) M242 d0 hd0 (cells + 16) (slots + 96) (by omega) (by omega) H locs ls (lv_sub hl [3, 4, 5, 6, 0] rfl) hw hF
                                                                    · replace hF := st_t hc1784 hF
                                                                      refine lv_aload_n hx hb dL_law_1787 rfl (lv_at hl 5 rfl) ?_
                                                                      refine lv_iconst (v := 0) hx hb dL_law_1788 (by decide) ?_
                                                                      refine g_lald fx hw isL_17 (k := 0) rfl (by decide) dL_law_1789 ?_
                                                                      refine lv_iload hx hb dL_law_1790 (lv_at hl 0 rfl) ?_
                                                                      refine lv_i2l hx hb dL_law_1792 rfl ?_
                                                                      refine g_lcmp hx hb dL_law_1793 ?_
                                                                      refine lv_if_eq (tgt := 1799) hx hb dL_law_1794 (by decide) (fun hc1794 => ?_) (fun hc1794 => ?_)
                                                                      · replace hF := st_t hc1794 hF
                                                                        refine lv_goto (tgt := 1871) hx hb dL_law_1799 (by decide) ?_
                                                                        refine lv_iinc (v := (a4 + 6)) (lv' := [(4, .int (a4 + 6)), (6, .int r241), (5, .int r238), (0, .ref b), (1, .ref (ad 0)), (2, .ref (ad 9)), (3, .ref (ad 17))]) hx hb dL_law_1871 hl (k := 6) rfl rfl (by decide) rfl (fun ls hl => ?_)
                                                                        refine lv_goto (tgt := 23) hx hb dL_law_1874 (by decide) ?_
                                                                        refine W.widen (k := cells + 16) (n := slots + 96) (by omega) (by omega) ?_
                                                                        exact ih (a4 + 6) M242 d0 hd0 (cells + 16) (slots + 96) (by omega) (by omega) H locs ls (lv_sub hl [3, 4, 5, 6, 0] rfl) hw hF
                                                                      · replace hF := st_f hc1794 hF
                                                                        refine lv_iconst (v := 0) hx hb dL_law_1797 (by decide) ?_
                                                                        exact nomatch hF
                                                                  · replace hF := st_f hc1777 hF
                                                                    refine lv_iconst (v := 0) hx hb dL_law_1780 (by decide) ?_
                                                                    exact nomatch hF
                                                                · replace hF := st_f hk40_29 hF
                                                                  by_cases hk40_30 : y2 = 30
                                                                  · replace hF := st_t hk40_30 hF
                                                                    subst hk40_30
                                                                    refine lv_tableIn (off := 1762) (tgt := 1802) hx hb dL_law_40 (by decide) (by decide) rfl (by decide) ?_
                                                                    refine lv_aload_n hx hb dL_law_1802 rfl (lv_at hl 1 rfl) ?_
                                                                    obtain ⟨r244, M245, hgr244, hF⟩ := st_bnd2 hF
                                                                    refine g_ci hw (g_runV (C := RX5) (As := []) (rest := []) fx hw isO_0 rfl (c_X5_writeDay l x D cy ad H.size M r244 M245 hgr244) wd3_98 wd3_99 wd3_100 wd1_1 wd3_101 yd_X5_writeDay rfl rfl (Nat.le_of_ble_eq_true rfl) hl.1 ⟨Nat.le_trans (Nat.le_of_ble_eq_true rfl) hR.1, Nat.le_trans (Nat.le_of_ble_eq_true rfl) hR.2⟩ ⟨(by omega : _ ≤ 601024), (by omega : _ ≤ 7293034)⟩ dL_law_1803) (fun H locs hw => ?_)
                                                                    refine lv_aload_n hx hb dL_law_1806 rfl (lv_at hl 2 rfl) ?_
                                                                    obtain ⟨r246, M247, hgr246, hF⟩ := st_bnd2 hF
                                                                    refine g_ci hw (g_runV (C := RX6) (As := []) (rest := [.int r244]) fx hw isO_9 rfl (c_X6_writeDay l x D cy ad H.size M245 r246 M247 hgr246) wd6_123 wd6_124 wd6_125 wd1_8 wd6_126 yd_X6_writeDay rfl rfl (Nat.le_of_ble_eq_true rfl) hl.1 ⟨Nat.le_trans (Nat.le_of_ble_eq_true rfl) hR.1, Nat.le_trans (Nat.le_of_ble_eq_true rfl) hR.2⟩ ⟨(by omega : _ ≤ 601024), (by omega : _ ≤ 7293034)⟩ dL_law_1807) (fun H locs hw => ?_)
                                                                    refine lv_icmp_eq (tgt := 1871) hx hb dL_law_1810 (by decide) (fun hc1810 => ?_) (fun hc1810 => ?_)
                                                                    · replace hF := st_t hc1810 hF
                                                                      refine lv_iinc (v := (a4 + 6)) (lv' := [(4, .int (a4 + 6)), (0, .ref b), (1, .ref (ad 0)), (2, .ref (ad 9)), (3, .ref (ad 17))]) hx hb dL_law_1871 hl (k := 4) rfl rfl (by decide) rfl (fun ls hl => ?_)
                                                                      refine lv_goto (tgt := 23) hx hb dL_law_1874 (by decide) ?_
                                                                      refine W.widen (k := cells + 16) (n := slots + 96) (by omega) (by omega) ?_
                                                                      exact ih (a4 + 6) M247 d0 hd0 (cells + 16) (slots + 96) (by omega) (by omega) H locs ls (lv_sub hl [1, 2, 3, 4, 0] rfl) hw hF
                                                                    · replace hF := st_f hc1810 hF
                                                                      refine lv_iconst (v := 0) hx hb dL_law_1813 (by decide) ?_
                                                                      exact nomatch hF
                                                                  · replace hF := st_f hk40_30 hF
                                                                    by_cases hk40_31 : y2 = 31
                                                                    · replace hF := st_t hk40_31 hF
                                                                      subst hk40_31
                                                                      refine lv_tableIn (off := 1775) (tgt := 1815) hx hb dL_law_40 (by decide) (by decide) rfl (by decide) ?_
                                                                      refine lv_aload_n hx hb dL_law_1815 rfl (lv_at hl 1 rfl) ?_
                                                                      refine lv_aload_n hx hb dL_law_1816 rfl (lv_at hl 0 rfl) ?_
                                                                      refine lv_iload hx hb dL_law_1817 (lv_at hl 4 rfl) ?_
                                                                      refine lv_iconst (v := 1) hx hb dL_law_1819 (by decide) ?_
                                                                      refine lv_iadd hx hb dL_law_1820 ?_
                                                                      obtain ⟨hi248, hF⟩ := st_chk hF
                                                                      refine va_sld (s := s.setDrawn d0) hx hb hX hbl hbA hw.2.2 (inB_in hi248) dL_law_1821 ?_
                                                                      refine lv_aload_n hx hb dL_law_1822 rfl (lv_at hl 3 rfl) ?_
                                                                      obtain ⟨r249, M250, hgr249, hF⟩ := st_bnd2 hF
                                                                      refine g_ci hw (g_runSW (As := [.ref (ad 0), .int (xs (ix (a4 + 1))), .ref (ad 17)]) (rest := []) fx hw (c_L_writtenByte l x D cy ad (xs (ix (a4 + 1))) H.size M r249 M250 hl9 hgr249) wd4_234 wd4_235 wd1_0 wd4_236 yd_L_writtenByte rfl rfl (Nat.le_of_ble_eq_true rfl) hl.1 ⟨Nat.le_trans (Nat.le_of_ble_eq_true rfl) hR.1, Nat.le_trans (Nat.le_of_ble_eq_true rfl) hR.2⟩ ⟨(by omega : _ ≤ 601024), (by omega : _ ≤ 7293034)⟩ dL_law_1823) (fun H locs hw => ?_)
                                                                      refine lv_istore (lv' := [(5, .int r249), (0, .ref b), (1, .ref (ad 0)), (2, .ref (ad 9)), (3, .ref (ad 17)), (4, .int a4)]) hx hb dL_law_1826 hl (by decide) rfl (fun ls hl => ?_)
                                                                      refine lv_aload_n hx hb dL_law_1828 rfl (lv_at hl 3 rfl) ?_
                                                                      refine lv_aload_n hx hb dL_law_1829 rfl (lv_at hl 1 rfl) ?_
                                                                      refine lv_iload hx hb dL_law_1830 (lv_at hl 5 rfl) ?_
                                                                      refine lv_iconst (v := 1) hx hb dL_law_1832 (by decide) ?_
                                                                      refine lv_iadd hx hb dL_law_1833 ?_
                                                                      obtain ⟨hi251, hF⟩ := st_chk hF
                                                                      refine va_sld (s := s.setDrawn d0) hx hb hX hbl hbA hw.2.2 (inB_in hi251) dL_law_1834 ?_
                                                                      obtain ⟨r252, M253, hgr252, hF⟩ := st_bnd2 hF
                                                                      refine g_ci hw (g_runV (C := RX6) (As := [.int (xs (ix (a4 + 1)))]) (rest := []) fx hw isO_9 rfl (c_X6_writtenByte l x D cy ad (xs (ix (a4 + 1))) H.size M250 r252 M253 hgr252) wd6_127 wd6_128 wd6_129 wd1_8 wd6_130 yd_X6_writtenByte rfl rfl (Nat.le_of_ble_eq_true rfl) hl.1 ⟨Nat.le_trans (Nat.le_of_ble_eq_true rfl) hR.1, Nat.le_trans (Nat.le_of_ble_eq_true rfl) hR.2⟩ ⟨(by omega : _ ≤ 601024), (by omega : _ ≤ 7293034)⟩ dL_law_1835) (fun H locs hw => ?_)
                                                                      refine lv_istore (lv' := [(6, .int r252), (5, .int r249), (0, .ref b), (1, .ref (ad 0)), (2, .ref (ad 9)), (3, .ref (ad 17)), (4, .int a4)]) hx hb dL_law_1838 hl (by decide) rfl (fun ls hl => ?_)
                                                                      refine lv_aload_n hx hb dL_law_1840 rfl (lv_at hl 4 rfl) ?_
                                                                      obtain ⟨r254, hgr254, hF⟩ := st_bnd hF
                                                                      refine g_ci hw (g_runV (C := RX6) (As := []) (rest := []) fx hw isO_9 rfl (c_X6_thrown l x D cy ad H.size M253 r254 hgr254) wd5_77 wd5_78 wd5_79 wd1_8 wd5_80 yd_X6_thrown rfl rfl (Nat.le_of_ble_eq_true rfl) hl.1 ⟨Nat.le_trans (Nat.le_of_ble_eq_true rfl) hR.1, Nat.le_trans (Nat.le_of_ble_eq_true rfl) hR.2⟩ ⟨(by omega : _ ≤ 601024), (by omega : _ ≤ 7293034)⟩ dL_law_1841) (fun H locs hw => ?_)
                                                                      refine lv_iload hx hb dL_law_1844 (lv_at hl 1 rfl) ?_
                                                                      refine lv_icmp_eq (tgt := 1851) hx hb dL_law_1846 (by decide) (fun hc1846 => ?_) (fun hc1846 => ?_)
                                                                      · replace hF := st_t hc1846 hF
                                                                        refine lv_iload hx hb dL_law_1851 (lv_at hl 1 rfl) ?_
                                                                        refine lv_if_ne (tgt := 1868) hx hb dL_law_1853 (by decide) (fun hc1853 => ?_) (fun hc1853 => ?_)
                                                                        · replace hF := st_f hc1853 hF
                                                                          refine lv_goto (tgt := 1871) hx hb dL_law_1868 (by decide) ?_
                                                                          refine lv_iinc (v := (a4 + 6)) (lv' := [(4, .int (a4 + 6)), (6, .int r252), (5, .int r249), (0, .ref b), (1, .ref (ad 0)), (2, .ref (ad 9)), (3, .ref (ad 17))]) hx hb dL_law_1871 hl (k := 6) rfl rfl (by decide) rfl (fun ls hl => ?_)
                                                                          refine lv_goto (tgt := 23) hx hb dL_law_1874 (by decide) ?_
                                                                          refine W.widen (k := cells + 16) (n := slots + 96) (by omega) (by omega) ?_
                                                                          exact ih (a4 + 6) M253 d0 hd0 (cells + 16) (slots + 96) (by omega) (by omega) H locs ls (lv_sub hl [3, 4, 5, 6, 0] rfl) hw hF
                                                                        · replace hF := st_t hc1853 hF
                                                                          refine lv_aload_n hx hb dL_law_1856 rfl (lv_at hl 5 rfl) ?_
                                                                          refine lv_iconst (v := 0) hx hb dL_law_1857 (by decide) ?_
                                                                          refine g_lald fx hw isL_17 (k := 0) rfl (by decide) dL_law_1858 ?_
                                                                          refine lv_iload hx hb dL_law_1859 (lv_at hl 0 rfl) ?_
                                                                          refine lv_i2l hx hb dL_law_1861 rfl ?_
                                                                          refine g_lcmp hx hb dL_law_1862 ?_
                                                                          refine lv_if_eq (tgt := 1868) hx hb dL_law_1863 (by decide) (fun hc1863 => ?_) (fun hc1863 => ?_)
                                                                          · replace hF := st_t hc1863 hF
                                                                            refine lv_goto (tgt := 1871) hx hb dL_law_1868 (by decide) ?_
                                                                            refine lv_iinc (v := (a4 + 6)) (lv' := [(4, .int (a4 + 6)), (6, .int r252), (5, .int r249), (0, .ref b), (1, .ref (ad 0)), (2, .ref (ad 9)), (3, .ref (ad 17))]) hx hb dL_law_1871 hl (k := 6) rfl rfl (by decide) rfl (fun ls hl => ?_)
                                                                            refine lv_goto (tgt := 23) hx hb dL_law_1874 (by decide) ?_
                                                                            refine W.widen (k := cells + 16) (n := slots + 96) (by omega) (by omega) ?_
                                                                            exact ih (a4 + 6) M253 d0 hd0 (cells + 16) (slots + 96) (by omega) (by omega) H locs ls (lv_sub hl [3, 4, 5, 6, 0] rfl) hw hF
                                                                          · replace hF := st_f hc1863 hF
                                                                            refine lv_iconst (v := 0) hx hb dL_law_1866 (by decide) ?_
                                                                            exact nomatch hF
                                                                      · replace hF := st_f hc1846 hF
                                                                        refine lv_iconst (v := 0) hx hb dL_law_1849 (by decide) ?_
                                                                        exact nomatch hF
                                                                    · replace hF := st_f hk40_31 hF
                                                                      refine lv_tableOut (tgt := 1871) hx hb dL_law_40 (by have e_0 := lv_neT (a := 0) hk40_0 (by decide); have e_1 := lv_neT (a := 1) hk40_1 (by decide); have e_2 := lv_neT (a := 2) hk40_2 (by decide); have e_3 := lv_neT (a := 3) hk40_3 (by decide); have e_4 := lv_neT (a := 4) hk40_4 (by decide); have e_5 := lv_neT (a := 5) hk40_5 (by decide); have e_6 := lv_neT (a := 6) hk40_6 (by decide); have e_7 := lv_neT (a := 7) hk40_7 (by decide); have e_8 := lv_neT (a := 8) hk40_8 (by decide); have e_9 := lv_neT (a := 9) hk40_9 (by decide); have e_10 := lv_neT (a := 10) hk40_10 (by decide); have e_11 := lv_neT (a := 11) hk40_11 (by decide); have e_12 := lv_neT (a := 12) hk40_12 (by decide); have e_13 := lv_neT (a := 13) hk40_13 (by decide); have e_14 := lv_neT (a := 14) hk40_14 (by decide); have e_15 := lv_neT (a := 15) hk40_15 (by decide); have e_16 := lv_neT (a := 16) hk40_16 (by decide); have e_17 := lv_neT (a := 17) hk40_17 (by decide); have e_18 := lv_neT (a := 18) hk40_18 (by decide); have e_19 := lv_neT (a := 19) hk40_19 (by decide); have e_20 := lv_neT (a := 20) hk40_20 (by decide); have e_21 := lv_neT (a := 21) hk40_21 (by decide); have e_22 := lv_neT (a := 22) hk40_22 (by decide); have e_23 := lv_neT (a := 23) hk40_23 (by decide); have e_24 := lv_neT (a := 24) hk40_24 (by decide); have e_25 := lv_neT (a := 25) hk40_25 (by decide); have e_26 := lv_neT (a := 26) hk40_26 (by decide); have e_27 := lv_neT (a := 27) hk40_27 (by decide); have e_28 := lv_neT (a := 28) hk40_28 (by decide); have e_29 := lv_neT (a := 29) hk40_29 (by decide); have e_30 := lv_neT (a := 30) hk40_30 (by decide); have e_31 := lv_neT (a := 31) hk40_31 (by decide); omega) (by decide) ?_
                                                                      refine lv_iinc (v := (a4 + 6)) (lv' := [(4, .int (a4 + 6)), (0, .ref b), (1, .ref (ad 0)), (2, .ref (ad 9)), (3, .ref (ad 17))]) hx hb dL_law_1871 hl (k := 4) rfl rfl (by decide) rfl (fun ls hl => ?_)
                                                                      refine lv_goto (tgt := 23) hx hb dL_law_1874 (by decide) ?_
                                                                      refine W.widen (k := cells + 16) (n := slots + 96) (by omega) (by omega) ?_
                                                                      exact ih (a4 + 6) M d0 hd0 (cells + 16) (slots + 96) (by omega) (by omega) H locs ls (lv_sub hl [1, 2, 3, 4, 0] rfl) hw hF
