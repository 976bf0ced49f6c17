theorem wd5_25 : Cond.fieldLink RX6 43 RX6 (TX6 6).2.1 (TX6 6).2.2.1 ∈ GB := gb_5 25 rfl rfl
theorem wd5_19 : Cond.fieldLink RX6 7 RX6 (TX6 0).2.1 (TX6 0).2.2.1 ∈ GB := gb_5 19 rfl rfl
theorem wd5_24 : Cond.fieldLink RX6 46 RX6 (TX6 5).2.1 (TX6 5).2.2.1 ∈ GB := gb_5 24 rfl rfl
theorem wd5_21 : Cond.fieldLink RX6 16 RX6 (TX6 2).2.1 (TX6 2).2.2.1 ∈ GB := gb_5 21 rfl rfl
theorem wd5_85 : Cond.methodLink RX6 49 yX6_copies ∈ GB := gb_5 85 rfl rfl
theorem wd5_86 : Cond.static yX6_copies ∈ GB := gb_5 86 rfl rfl
theorem wd1_8 : Cond.initialized RX6 ∈ GB := gb_1 8 rfl rfl
theorem wd5_87 : Cond.code yX6_copies cX6_copies 5 none ∈ GB := gb_5 87 rfl rfl
theorem yd_X6_copies : yX6_copies.cls ≠ "java/lang/invoke/MethodHandle" ∧ yX6_copies.cls ≠ "java/lang/invoke/VarHandle" ∧ (parseMethodDescriptor yX6_copies.desc).map (fun d => d.parameters.length) = some 4 := by decide +kernel
theorem wd5_92 : Cond.methodLink RX6 53 yX6_isIn ∈ GB := gb_5 92 rfl rfl
theorem wd5_93 : Cond.static yX6_isIn ∈ GB := gb_5 93 rfl rfl
theorem wd5_94 : Cond.code yX6_isIn cX6_isIn 3 (some .boolean) ∈ GB := gb_5 94 rfl rfl
theorem yd_X6_isIn : yX6_isIn.cls ≠ "java/lang/invoke/MethodHandle" ∧ yX6_isIn.cls ≠ "java/lang/invoke/VarHandle" ∧ (parseMethodDescriptor yX6_isIn.desc).map (fun d => d.parameters.length) = some 3 := by decide +kernel
theorem wd5_22 : Cond.fieldLink RX6 19 RX6 (TX6 3).2.1 (TX6 3).2.2.1 ∈ GB := gb_5 22 rfl rfl
theorem wd5_23 : Cond.fieldLink RX6 22 RX6 (TX6 4).2.1 (TX6 4).2.2.1 ∈ GB := gb_5 23 rfl rfl
theorem wd5_99 : Cond.methodLink RX6 57 yX6_keeps ∈ GB := gb_5 99 rfl rfl
theorem wd5_101 : Cond.instanceMethod yX6_keeps ∈ GB := gb_5 101 rfl rfl
theorem wd0_42 : Cond.selects RX6 yX6_keeps yX6_keeps ∈ GB := gb_0 42 rfl rfl
theorem wd5_102 : Cond.code yX6_keeps cX6_keeps 3 none ∈ GB := gb_5 102 rfl rfl
theorem yd_X6_keeps : yX6_keeps.cls ≠ "java/lang/invoke/MethodHandle" ∧ yX6_keeps.cls ≠ "java/lang/invoke/VarHandle" ∧ (parseMethodDescriptor yX6_keeps.desc).map (fun d => d.parameters.length) = some 1 := by decide +kernel
theorem wd5_16 : Cond.methodLink RX6 61 yX6_mo ∈ GB := gb_5 16 rfl rfl
theorem wd5_17 : Cond.static yX6_mo ∈ GB := gb_5 17 rfl rfl
theorem wd5_18 : Cond.code yX6_mo cX6_mo 2 (some .int) ∈ GB := gb_5 18 rfl rfl
theorem yd_X6_mo : yX6_mo.cls ≠ "java/lang/invoke/MethodHandle" ∧ yX6_mo.cls ≠ "java/lang/invoke/VarHandle" ∧ (parseMethodDescriptor yX6_mo.desc).map (fun d => d.parameters.length) = some 2 := by decide +kernel
theorem wd5_115 : Cond.methodLink RX6 64 yX6_hourOfBell ∈ GB := gb_5 115 rfl rfl
theorem wd5_117 : Cond.instanceMethod yX6_hourOfBell ∈ GB := gb_5 117 rfl rfl
theorem wd0_45 : Cond.selects RX6 yX6_hourOfBell yX6_hourOfBell ∈ GB := gb_0 45 rfl rfl
theorem wd5_118 : Cond.code yX6_hourOfBell cX6_hourOfBell 4 (some .int) ∈ GB := gb_5 118 rfl rfl
theorem yd_X6_hourOfBell : yX6_hourOfBell.cls ≠ "java/lang/invoke/MethodHandle" ∧ yX6_hourOfBell.cls ≠ "java/lang/invoke/VarHandle" ∧ (parseMethodDescriptor yX6_hourOfBell.desc).map (fun d => d.parameters.length) = some 1 := by decide +kernel
theorem wd5_111 : Cond.methodLink RX6 68 yX6_isSpeech ∈ GB := gb_5 111 rfl rfl
theorem wd5_113 : Cond.instanceMethod yX6_isSpeech ∈ GB := gb_5 113 rfl rfl
theorem wd0_44 : Cond.selects RX6 yX6_isSpeech yX6_isSpeech ∈ GB := gb_0 44 rfl rfl
theorem wd5_114 : Cond.code yX6_isSpeech cX6_isSpeech 3 (some .boolean) ∈ GB := gb_5 114 rfl rfl
theorem yd_X6_isSpeech : yX6_isSpeech.cls ≠ "java/lang/invoke/MethodHandle" ∧ yX6_isSpeech.cls ≠ "java/lang/invoke/VarHandle" ∧ (parseMethodDescriptor yX6_isSpeech.desc).map (fun d => d.parameters.length) = some 1 := by decide +kernel
theorem wd5_165 : Cond.methodLink RX6 72 yX6_words ∈ GB := gb_5 165 rfl rfl
theorem wd5_167 : Cond.instanceMethod yX6_words ∈ GB := gb_5 167 rfl rfl
theorem wd0_53 : Cond.selects RX6 yX6_words yX6_words ∈ GB := gb_0 53 rfl rfl
theorem wd5_168 : Cond.code yX6_words cX6_words 2 (some .int) ∈ GB := gb_5 168 rfl rfl
theorem yd_X6_words : yX6_words.cls ≠ "java/lang/invoke/MethodHandle" ∧ yX6_words.cls ≠ "java/lang/invoke/VarHandle" ∧ (parseMethodDescriptor yX6_words.desc).map (fun d => d.parameters.length) = some 1 := by decide +kernel
theorem wd5_107 : Cond.methodLink RX6 75 yX6_isSpeechNow ∈ GB := gb_5 107 rfl rfl
theorem wd5_109 : Cond.instanceMethod yX6_isSpeechNow ∈ GB := gb_5 109 rfl rfl
theorem wd0_43 : Cond.selects RX6 yX6_isSpeechNow yX6_isSpeechNow ∈ GB := gb_0 43 rfl rfl
theorem wd5_110 : Cond.code yX6_isSpeechNow cX6_isSpeechNow 1 (some .boolean) ∈ GB := gb_5 110 rfl rfl
theorem yd_X6_isSpeechNow : yX6_isSpeechNow.cls ≠ "java/lang/invoke/MethodHandle" ∧ yX6_isSpeechNow.cls ≠ "java/lang/invoke/VarHandle" ∧ (parseMethodDescriptor yX6_isSpeechNow.desc).map (fun d => d.parameters.length) = some 0 := by decide +kernel
theorem wd5_213 : Cond.methodLink RX6 79 Lib.Math.min.name ∈ GB := gb_5 213 rfl rfl
theorem wd5_209 : Cond.methodLink RX6 84 yX6_byLeave ∈ GB := gb_5 209 rfl rfl
theorem wd5_211 : Cond.instanceMethod yX6_byLeave ∈ GB := gb_5 211 rfl rfl
theorem wd0_61 : Cond.selects RX6 yX6_byLeave yX6_byLeave ∈ GB := gb_0 61 rfl rfl
theorem wd5_212 : Cond.code yX6_byLeave cX6_byLeave 3 (some .int) ∈ GB := gb_5 212 rfl rfl
theorem yd_X6_byLeave : yX6_byLeave.cls ≠ "java/lang/invoke/MethodHandle" ∧ yX6_byLeave.cls ≠ "java/lang/invoke/VarHandle" ∧ (parseMethodDescriptor yX6_byLeave.desc).map (fun d => d.parameters.length) = some 2 := by decide +kernel
theorem wd5_205 : Cond.methodLink RX6 87 yX6_restOf ∈ GB := gb_5 205 rfl rfl
theorem wd5_207 : Cond.instanceMethod yX6_restOf ∈ GB := gb_5 207 rfl rfl
theorem wd0_60 : Cond.selects RX6 yX6_restOf yX6_restOf ∈ GB := gb_0 60 rfl rfl
theorem wd5_208 : Cond.code yX6_restOf cX6_restOf 3 (some .int) ∈ GB := gb_5 208 rfl rfl
theorem yd_X6_restOf : yX6_restOf.cls ≠ "java/lang/invoke/MethodHandle" ∧ yX6_restOf.cls ≠ "java/lang/invoke/VarHandle" ∧ (parseMethodDescriptor yX6_restOf.desc).map (fun d => d.parameters.length) = some 2 := by decide +kernel
theorem wd5_201 : Cond.methodLink RX6 96 yX6_daysOf ∈ GB := gb_5 201 rfl rfl
theorem wd5_203 : Cond.instanceMethod yX6_daysOf ∈ GB := gb_5 203 rfl rfl
theorem wd0_59 : Cond.selects RX6 yX6_daysOf yX6_daysOf ∈ GB := gb_0 59 rfl rfl
theorem wd5_204 : Cond.code yX6_daysOf cX6_daysOf 3 (some .int) ∈ GB := gb_5 204 rfl rfl
theorem yd_X6_daysOf : yX6_daysOf.cls ≠ "java/lang/invoke/MethodHandle" ∧ yX6_daysOf.cls ≠ "java/lang/invoke/VarHandle" ∧ (parseMethodDescriptor yX6_daysOf.desc).map (fun d => d.parameters.length) = some 2 := by decide +kernel
theorem wd5_197 : Cond.methodLink RX6 93 yX6_pagesOf ∈ GB := gb_5 197 rfl rfl
theorem wd5_199 : Cond.instanceMethod yX6_pagesOf ∈ GB := gb_5 199 rfl rfl
theorem wd0_58 : Cond.selects RX6 yX6_pagesOf yX6_pagesOf ∈ GB := gb_0 58 rfl rfl
theorem wd5_200 : Cond.code yX6_pagesOf cX6_pagesOf 3 (some .int) ∈ GB := gb_5 200 rfl rfl
theorem yd_X6_pagesOf : yX6_pagesOf.cls ≠ "java/lang/invoke/MethodHandle" ∧ yX6_pagesOf.cls ≠ "java/lang/invoke/VarHandle" ∧ (parseMethodDescriptor yX6_pagesOf.desc).map (fun d => d.parameters.length) = some 2 := by decide +kernel
theorem wd5_173 : Cond.methodLink RX6 90 yX6_isSet ∈ GB := gb_5 173 rfl rfl
theorem wd5_175 : Cond.instanceMethod yX6_isSet ∈ GB := gb_5 175 rfl rfl
theorem wd0_55 : Cond.selects RX6 yX6_isSet yX6_isSet ∈ GB := gb_0 55 rfl rfl
theorem wd5_176 : Cond.code yX6_isSet cX6_isSet 4 (some .boolean) ∈ GB := gb_5 176 rfl rfl
theorem yd_X6_isSet : yX6_isSet.cls ≠ "java/lang/invoke/MethodHandle" ∧ yX6_isSet.cls ≠ "java/lang/invoke/VarHandle" ∧ (parseMethodDescriptor yX6_isSet.desc).map (fun d => d.parameters.length) = some 3 := by decide +kernel
theorem wd6_67 : Cond.methodLink RX6 105 yX6_speaks ∈ GB := gb_6 67 rfl rfl
theorem wd6_69 : Cond.instanceMethod yX6_speaks ∈ GB := gb_6 69 rfl rfl
theorem wd0_73 : Cond.selects RX6 yX6_speaks yX6_speaks ∈ GB := gb_0 73 rfl rfl
theorem wd6_70 : Cond.code yX6_speaks cX6_speaks 6 (some .int) ∈ GB := gb_6 70 rfl rfl
theorem yd_X6_speaks : yX6_speaks.cls ≠ "java/lang/invoke/MethodHandle" ∧ yX6_speaks.cls ≠ "java/lang/invoke/VarHandle" ∧ (parseMethodDescriptor yX6_speaks.desc).map (fun d => d.parameters.length) = some 2 := by decide +kernel
theorem wd6_63 : Cond.methodLink RX6 102 yX6_writesSlip ∈ GB := gb_6 63 rfl rfl
theorem wd6_65 : Cond.instanceMethod yX6_writesSlip ∈ GB := gb_6 65 rfl rfl
theorem wd0_72 : Cond.selects RX6 yX6_writesSlip yX6_writesSlip ∈ GB := gb_0 72 rfl rfl
theorem wd6_66 : Cond.code yX6_writesSlip cX6_writesSlip 4 (some .int) ∈ GB := gb_6 66 rfl rfl
theorem yd_X6_writesSlip : yX6_writesSlip.cls ≠ "java/lang/invoke/MethodHandle" ∧ yX6_writesSlip.cls ≠ "java/lang/invoke/VarHandle" ∧ (parseMethodDescriptor yX6_writesSlip.desc).map (fun d => d.parameters.length) = some 2 := by decide +kernel
theorem wd5_131 : Cond.methodLink RX6 99 yX6_bits ∈ GB := gb_5 131 rfl rfl
theorem wd5_132 : Cond.static yX6_bits ∈ GB := gb_5 132 rfl rfl
theorem wd5_133 : Cond.code yX6_bits cX6_bits 3 (some .int) ∈ GB := gb_5 133 rfl rfl
theorem yd_X6_bits : yX6_bits.cls ≠ "java/lang/invoke/MethodHandle" ∧ yX6_bits.cls ≠ "java/lang/invoke/VarHandle" ∧ (parseMethodDescriptor yX6_bits.desc).map (fun d => d.parameters.length) = some 1 := by decide +kernel
theorem wd6_95 : Cond.methodLink RX6 108 yX6_endsDay ∈ GB := gb_6 95 rfl rfl
theorem wd6_97 : Cond.instanceMethod yX6_endsDay ∈ GB := gb_6 97 rfl rfl
theorem wd0_78 : Cond.selects RX6 yX6_endsDay yX6_endsDay ∈ GB := gb_0 78 rfl rfl
theorem wd6_98 : Cond.code yX6_endsDay cX6_endsDay 2 none ∈ GB := gb_6 98 rfl rfl
theorem yd_X6_endsDay : yX6_endsDay.cls ≠ "java/lang/invoke/MethodHandle" ∧ yX6_endsDay.cls ≠ "java/lang/invoke/VarHandle" ∧ (parseMethodDescriptor yX6_endsDay.desc).map (fun d => d.parameters.length) = some 0 := by decide +kernel
theorem wd5_119 : Cond.methodLink RX6 111 yX6_bells ∈ GB := gb_5 119 rfl rfl
theorem wd5_121 : Cond.instanceMethod yX6_bells ∈ GB := gb_5 121 rfl rfl
theorem wd0_46 : Cond.selects RX6 yX6_bells yX6_bells ∈ GB := gb_0 46 rfl rfl
theorem wd5_122 : Cond.code yX6_bells cX6_bells 3 (some .int) ∈ GB := gb_5 122 rfl rfl
theorem yd_X6_bells : yX6_bells.cls ≠ "java/lang/invoke/MethodHandle" ∧ yX6_bells.cls ≠ "java/lang/invoke/VarHandle" ∧ (parseMethodDescriptor yX6_bells.desc).map (fun d => d.parameters.length) = some 0 := by decide +kernel
theorem wd5_123 : Cond.methodLink RX6 115 yX6_hoursOfSpeech ∈ GB := gb_5 123 rfl rfl
theorem wd5_125 : Cond.instanceMethod yX6_hoursOfSpeech ∈ GB := gb_5 125 rfl rfl
theorem wd0_47 : Cond.selects RX6 yX6_hoursOfSpeech yX6_hoursOfSpeech ∈ GB := gb_0 47 rfl rfl
theorem wd5_126 : Cond.code yX6_hoursOfSpeech cX6_hoursOfSpeech 3 (some .int) ∈ GB := gb_5 126 rfl rfl
theorem yd_X6_hoursOfSpeech : yX6_hoursOfSpeech.cls ≠ "java/lang/invoke/MethodHandle" ∧ yX6_hoursOfSpeech.cls ≠ "java/lang/invoke/VarHandle" ∧ (parseMethodDescriptor yX6_hoursOfSpeech.desc).map (fun d => d.parameters.length) = some 0 := by decide +kernel
theorem wd5_127 : Cond.methodLink RX6 118 yX6_sumOfBits ∈ GB := gb_5 127 rfl rfl
theorem wd5_129 : Cond.instanceMethod yX6_sumOfBits ∈ GB := gb_5 129 rfl rfl
theorem wd0_48 : Cond.selects RX6 yX6_sumOfBits yX6_sumOfBits ∈ GB := gb_0 48 rfl rfl
theorem wd5_130 : Cond.code yX6_sumOfBits cX6_sumOfBits 4 (some .int) ∈ GB := gb_5 130 rfl rfl
theorem yd_X6_sumOfBits : yX6_sumOfBits.cls ≠ "java/lang/invoke/MethodHandle" ∧ yX6_sumOfBits.cls ≠ "java/lang/invoke/VarHandle" ∧ (parseMethodDescriptor yX6_sumOfBits.desc).map (fun d => d.parameters.length) = some 1 := by decide +kernel
theorem wd5_134 : Cond.methodLink RX6 121 yX6_sum ∈ GB := gb_5 134 rfl rfl
theorem wd5_136 : Cond.instanceMethod yX6_sum ∈ GB := gb_5 136 rfl rfl
theorem wd0_49 : Cond.selects RX6 yX6_sum yX6_sum ∈ GB := gb_0 49 rfl rfl
theorem wd5_137 : Cond.code yX6_sum cX6_sum 4 (some .int) ∈ GB := gb_5 137 rfl rfl
theorem yd_X6_sum : yX6_sum.cls ≠ "java/lang/invoke/MethodHandle" ∧ yX6_sum.cls ≠ "java/lang/invoke/VarHandle" ∧ (parseMethodDescriptor yX6_sum.desc).map (fun d => d.parameters.length) = some 1 := by decide +kernel
theorem wd5_146 : Cond.methodLink RX6 124 yX6_isMonk ∈ GB := gb_5 146 rfl rfl
theorem wd5_148 : Cond.instanceMethod yX6_isMonk ∈ GB := gb_5 148 rfl rfl
theorem wd0_50 : Cond.selects RX6 yX6_isMonk yX6_isMonk ∈ GB := gb_0 50 rfl rfl
theorem wd5_149 : Cond.code yX6_isMonk cX6_isMonk 2 (some .boolean) ∈ GB := gb_5 149 rfl rfl
theorem yd_X6_isMonk : yX6_isMonk.cls ≠ "java/lang/invoke/MethodHandle" ∧ yX6_isMonk.cls ≠ "java/lang/invoke/VarHandle" ∧ (parseMethodDescriptor yX6_isMonk.desc).map (fun d => d.parameters.length) = some 1 := by decide +kernel
theorem wd5_150 : Cond.methodLink RX6 127 yX6_whoKnowAll ∈ GB := gb_5 150 rfl rfl
theorem wd5_152 : Cond.instanceMethod yX6_whoKnowAll ∈ GB := gb_5 152 rfl rfl
theorem wd0_51 : Cond.selects RX6 yX6_whoKnowAll yX6_whoKnowAll ∈ GB := gb_0 51 rfl rfl
theorem wd5_153 : Cond.code yX6_whoKnowAll cX6_whoKnowAll 4 (some .int) ∈ GB := gb_5 153 rfl rfl
theorem yd_X6_whoKnowAll : yX6_whoKnowAll.cls ≠ "java/lang/invoke/MethodHandle" ∧ yX6_whoKnowAll.cls ≠ "java/lang/invoke/VarHandle" ∧ (parseMethodDescriptor yX6_whoKnowAll.desc).map (fun d => d.parameters.length) = some 1 := by decide +kernel
theorem wd5_154 : Cond.methodLink RX6 130 yX6_lengthOf ∈ GB := gb_5 154 rfl rfl
theorem wd5_155 : Cond.static yX6_lengthOf ∈ GB := gb_5 155 rfl rfl
theorem wd5_156 : Cond.code yX6_lengthOf cX6_lengthOf 3 (some .int) ∈ GB := gb_5 156 rfl rfl
theorem yd_X6_lengthOf : yX6_lengthOf.cls ≠ "java/lang/invoke/MethodHandle" ∧ yX6_lengthOf.cls ≠ "java/lang/invoke/VarHandle" ∧ (parseMethodDescriptor yX6_lengthOf.desc).map (fun d => d.parameters.length) = some 1 := by decide +kernel
theorem wd5_161 : Cond.methodLink RX6 133 yX6_isNeed ∈ GB := gb_5 161 rfl rfl
theorem wd5_163 : Cond.instanceMethod yX6_isNeed ∈ GB := gb_5 163 rfl rfl
theorem wd0_52 : Cond.selects RX6 yX6_isNeed yX6_isNeed ∈ GB := gb_0 52 rfl rfl
theorem wd5_164 : Cond.code yX6_isNeed cX6_isNeed 2 (some .boolean) ∈ GB := gb_5 164 rfl rfl
theorem yd_X6_isNeed : yX6_isNeed.cls ≠ "java/lang/invoke/MethodHandle" ∧ yX6_isNeed.cls ≠ "java/lang/invoke/VarHandle" ∧ (parseMethodDescriptor yX6_isNeed.desc).map (fun d => d.parameters.length) = some 1 := by decide +kernel
theorem wd5_169 : Cond.methodLink RX6 136 yX6_monksWith ∈ GB := gb_5 169 rfl rfl
theorem wd5_171 : Cond.instanceMethod yX6_monksWith ∈ GB := gb_5 171 rfl rfl
theorem wd0_54 : Cond.selects RX6 yX6_monksWith yX6_monksWith ∈ GB := gb_0 54 rfl rfl
theorem wd5_172 : Cond.code yX6_monksWith cX6_monksWith 5 (some .int) ∈ GB := gb_5 172 rfl rfl
theorem yd_X6_monksWith : yX6_monksWith.cls ≠ "java/lang/invoke/MethodHandle" ∧ yX6_monksWith.cls ≠ "java/lang/invoke/VarHandle" ∧ (parseMethodDescriptor yX6_monksWith.desc).map (fun d => d.parameters.length) = some 2 := by decide +kernel
theorem wd5_189 : Cond.methodLink RX6 139 yX6_wrongTwo ∈ GB := gb_5 189 rfl rfl
theorem wd5_191 : Cond.instanceMethod yX6_wrongTwo ∈ GB := gb_5 191 rfl rfl
theorem wd0_56 : Cond.selects RX6 yX6_wrongTwo yX6_wrongTwo ∈ GB := gb_0 56 rfl rfl
theorem wd5_192 : Cond.code yX6_wrongTwo cX6_wrongTwo 4 (some .int) ∈ GB := gb_5 192 rfl rfl
theorem yd_X6_wrongTwo : yX6_wrongTwo.cls ≠ "java/lang/invoke/MethodHandle" ∧ yX6_wrongTwo.cls ≠ "java/lang/invoke/VarHandle" ∧ (parseMethodDescriptor yX6_wrongTwo.desc).map (fun d => d.parameters.length) = some 3 := by decide +kernel
theorem wd5_193 : Cond.methodLink RX6 143 yX6_reason ∈ GB := gb_5 193 rfl rfl
theorem wd5_195 : Cond.instanceMethod yX6_reason ∈ GB := gb_5 195 rfl rfl
theorem wd0_57 : Cond.selects RX6 yX6_reason yX6_reason ∈ GB := gb_0 57 rfl rfl
theorem wd5_196 : Cond.code yX6_reason cX6_reason 5 (some .int) ∈ GB := gb_5 196 rfl rfl
theorem yd_X6_reason : yX6_reason.cls ≠ "java/lang/invoke/MethodHandle" ∧ yX6_reason.cls ≠ "java/lang/invoke/VarHandle" ∧ (parseMethodDescriptor yX6_reason.desc).map (fun d => d.parameters.length) = some 4 := by decide +kernel
theorem wd5_214 : Cond.methodLink RX6 147 yX6_howSpoken ∈ GB := gb_5 214 rfl rfl
theorem wd5_216 : Cond.instanceMethod yX6_howSpoken ∈ GB := gb_5 216 rfl rfl
theorem wd0_62 : Cond.selects RX6 yX6_howSpoken yX6_howSpoken ∈ GB := gb_0 62 rfl rfl
theorem wd5_217 : Cond.code yX6_howSpoken cX6_howSpoken 3 (some .int) ∈ GB := gb_5 217 rfl rfl
theorem yd_X6_howSpoken : yX6_howSpoken.cls ≠ "java/lang/invoke/MethodHandle" ∧ yX6_howSpoken.cls ≠ "java/lang/invoke/VarHandle" ∧ (parseMethodDescriptor yX6_howSpoken.desc).map (fun d => d.parameters.length) = some 2 := by decide +kernel
theorem wd5_222 : Cond.methodLink RX6 154 yX6_deep ∈ GB := gb_5 222 rfl rfl
theorem wd5_224 : Cond.instanceMethod yX6_deep ∈ GB := gb_5 224 rfl rfl
theorem wd0_64 : Cond.selects RX6 yX6_deep yX6_deep ∈ GB := gb_0 64 rfl rfl
theorem wd5_225 : Cond.code yX6_deep cX6_deep 4 (some .int) ∈ GB := gb_5 225 rfl rfl
theorem yd_X6_deep : yX6_deep.cls ≠ "java/lang/invoke/MethodHandle" ∧ yX6_deep.cls ≠ "java/lang/invoke/VarHandle" ∧ (parseMethodDescriptor yX6_deep.desc).map (fun d => d.parameters.length) = some 3 := by decide +kernel
theorem wd5_218 : Cond.methodLink RX6 150 yX6_cause ∈ GB := gb_5 218 rfl rfl
theorem wd5_220 : Cond.instanceMethod yX6_cause ∈ GB := gb_5 220 rfl rfl
theorem wd0_63 : Cond.selects RX6 yX6_cause yX6_cause ∈ GB := gb_0 63 rfl rfl
theorem wd5_221 : Cond.code yX6_cause cX6_cause 6 (some .int) ∈ GB := gb_5 221 rfl rfl
theorem yd_X6_cause : yX6_cause.cls ≠ "java/lang/invoke/MethodHandle" ∧ yX6_cause.cls ≠ "java/lang/invoke/VarHandle" ∧ (parseMethodDescriptor yX6_cause.desc).map (fun d => d.parameters.length) = some 5 := by decide +kernel
theorem wd5_230 : Cond.methodLink RX6 157 yX6_spoken ∈ GB := gb_5 230 rfl rfl
theorem wd5_232 : Cond.instanceMethod yX6_spoken ∈ GB := gb_5 232 rfl rfl
theorem wd0_65 : Cond.selects RX6 yX6_spoken yX6_spoken ∈ GB := gb_0 65 rfl rfl
theorem wd5_233 : Cond.code yX6_spoken cX6_spoken 1 (some .int) ∈ GB := gb_5 233 rfl rfl
theorem yd_X6_spoken : yX6_spoken.cls ≠ "java/lang/invoke/MethodHandle" ∧ yX6_spoken.cls ≠ "java/lang/invoke/VarHandle" ∧ (parseMethodDescriptor yX6_spoken.desc).map (fun d => d.parameters.length) = some 0 := by decide +kernel
theorem wd6_6 : Cond.methodLink RX6 160 yX6_isAhead ∈ GB := gb_6 6 rfl rfl
theorem wd6_8 : Cond.instanceMethod yX6_isAhead ∈ GB := gb_6 8 rfl rfl
theorem wd0_66 : Cond.selects RX6 yX6_isAhead yX6_isAhead ∈ GB := gb_0 66 rfl rfl
theorem wd6_9 : Cond.code yX6_isAhead cX6_isAhead 3 (some .boolean) ∈ GB := gb_6 9 rfl rfl
theorem yd_X6_isAhead : yX6_isAhead.cls ≠ "java/lang/invoke/MethodHandle" ∧ yX6_isAhead.cls ≠ "java/lang/invoke/VarHandle" ∧ (parseMethodDescriptor yX6_isAhead.desc).map (fun d => d.parameters.length) = some 2 := by decide +kernel
theorem wd6_14 : Cond.methodLink RX6 164 yX6_costOf ∈ GB := gb_6 14 rfl rfl
theorem wd6_16 : Cond.instanceMethod yX6_costOf ∈ GB := gb_6 16 rfl rfl
theorem wd0_67 : Cond.selects RX6 yX6_costOf yX6_costOf ∈ GB := gb_0 67 rfl rfl
theorem wd6_17 : Cond.code yX6_costOf cX6_costOf 4 (some .int) ∈ GB := gb_6 17 rfl rfl
theorem yd_X6_costOf : yX6_costOf.cls ≠ "java/lang/invoke/MethodHandle" ∧ yX6_costOf.cls ≠ "java/lang/invoke/VarHandle" ∧ (parseMethodDescriptor yX6_costOf.desc).map (fun d => d.parameters.length) = some 3 := by decide +kernel
theorem wd6_26 : Cond.methodLink RX6 167 Lib.Math.max.name ∈ GB := gb_6 26 rfl rfl
theorem wd6_35 : Cond.methodLink RX6 170 yX6_hoursWithBell ∈ GB := gb_6 35 rfl rfl
theorem wd6_37 : Cond.instanceMethod yX6_hoursWithBell ∈ GB := gb_6 37 rfl rfl
theorem wd0_68 : Cond.selects RX6 yX6_hoursWithBell yX6_hoursWithBell ∈ GB := gb_0 68 rfl rfl
theorem wd6_38 : Cond.code yX6_hoursWithBell cX6_hoursWithBell 4 (some .int) ∈ GB := gb_6 38 rfl rfl
theorem yd_X6_hoursWithBell : yX6_hoursWithBell.cls ≠ "java/lang/invoke/MethodHandle" ∧ yX6_hoursWithBell.cls ≠ "java/lang/invoke/VarHandle" ∧ (parseMethodDescriptor yX6_hoursWithBell.desc).map (fun d => d.parameters.length) = some 1 := by decide +kernel
theorem wd6_43 : Cond.methodLink RX6 173 yX6_metBy ∈ GB := gb_6 43 rfl rfl
theorem wd6_45 : Cond.instanceMethod yX6_metBy ∈ GB := gb_6 45 rfl rfl
theorem wd0_69 : Cond.selects RX6 yX6_metBy yX6_metBy ∈ GB := gb_0 69 rfl rfl
theorem wd6_46 : Cond.code yX6_metBy cX6_metBy 4 (some .int) ∈ GB := gb_6 46 rfl rfl
theorem yd_X6_metBy : yX6_metBy.cls ≠ "java/lang/invoke/MethodHandle" ∧ yX6_metBy.cls ≠ "java/lang/invoke/VarHandle" ∧ (parseMethodDescriptor yX6_metBy.desc).map (fun d => d.parameters.length) = some 1 := by decide +kernel
theorem wd6_51 : Cond.methodLink RX6 176 yX6_wants ∈ GB := gb_6 51 rfl rfl
theorem wd6_53 : Cond.instanceMethod yX6_wants ∈ GB := gb_6 53 rfl rfl
theorem wd0_70 : Cond.selects RX6 yX6_wants yX6_wants ∈ GB := gb_0 70 rfl rfl
theorem wd6_54 : Cond.code yX6_wants cX6_wants 3 (some .int) ∈ GB := gb_6 54 rfl rfl
theorem yd_X6_wants : yX6_wants.cls ≠ "java/lang/invoke/MethodHandle" ∧ yX6_wants.cls ≠ "java/lang/invoke/VarHandle" ∧ (parseMethodDescriptor yX6_wants.desc).map (fun d => d.parameters.length) = some 2 := by decide +kernel
theorem wd6_59 : Cond.methodLink RX6 179 yX6_tells ∈ GB := gb_6 59 rfl rfl
theorem wd6_61 : Cond.instanceMethod yX6_tells ∈ GB := gb_6 61 rfl rfl
theorem wd0_71 : Cond.selects RX6 yX6_tells yX6_tells ∈ GB := gb_0 71 rfl rfl
theorem wd6_62 : Cond.code yX6_tells cX6_tells 6 (some .int) ∈ GB := gb_6 62 rfl rfl
theorem yd_X6_tells : yX6_tells.cls ≠ "java/lang/invoke/MethodHandle" ∧ yX6_tells.cls ≠ "java/lang/invoke/VarHandle" ∧ (parseMethodDescriptor yX6_tells.desc).map (fun d => d.parameters.length) = some 4 := by decide +kernel
theorem wd6_75 : Cond.methodLink RX6 182 yX6_refusalOfGift ∈ GB := gb_6 75 rfl rfl
theorem wd6_77 : Cond.instanceMethod yX6_refusalOfGift ∈ GB := gb_6 77 rfl rfl
theorem wd0_74 : Cond.selects RX6 yX6_refusalOfGift yX6_refusalOfGift ∈ GB := gb_0 74 rfl rfl
theorem wd6_78 : Cond.code yX6_refusalOfGift cX6_refusalOfGift 4 (some .int) ∈ GB := gb_6 78 rfl rfl
theorem yd_X6_refusalOfGift : yX6_refusalOfGift.cls ≠ "java/lang/invoke/MethodHandle" ∧ yX6_refusalOfGift.cls ≠ "java/lang/invoke/VarHandle" ∧ (parseMethodDescriptor yX6_refusalOfGift.desc).map (fun d => d.parameters.length) = some 3 := by decide +kernel
theorem wd6_79 : Cond.methodLink RX6 185 yX6_gives ∈ GB := gb_6 79 rfl rfl
theorem wd6_81 : Cond.instanceMethod yX6_gives ∈ GB := gb_6 81 rfl rfl
theorem wd0_75 : Cond.selects RX6 yX6_gives yX6_gives ∈ GB := gb_0 75 rfl rfl
theorem wd6_82 : Cond.code yX6_gives cX6_gives 4 (some .int) ∈ GB := gb_6 82 rfl rfl
theorem yd_X6_gives : yX6_gives.cls ≠ "java/lang/invoke/MethodHandle" ∧ yX6_gives.cls ≠ "java/lang/invoke/VarHandle" ∧ (parseMethodDescriptor yX6_gives.desc).map (fun d => d.parameters.length) = some 3 := by decide +kernel
theorem wd6_87 : Cond.methodLink RX6 188 yX6_refusalOfHours ∈ GB := gb_6 87 rfl rfl
theorem wd6_89 : Cond.instanceMethod yX6_refusalOfHours ∈ GB := gb_6 89 rfl rfl
theorem wd0_76 : Cond.selects RX6 yX6_refusalOfHours yX6_refusalOfHours ∈ GB := gb_0 76 rfl rfl
theorem wd6_90 : Cond.code yX6_refusalOfHours cX6_refusalOfHours 2 (some .int) ∈ GB := gb_6 90 rfl rfl
theorem yd_X6_refusalOfHours : yX6_refusalOfHours.cls ≠ "java/lang/invoke/MethodHandle" ∧ yX6_refusalOfHours.cls ≠ "java/lang/invoke/VarHandle" ∧ (parseMethodDescriptor yX6_refusalOfHours.desc).map (fun d => d.parameters.length) = some 1 := by decide +kernel
theorem wd6_91 : Cond.methodLink RX6 191 yX6_passes ∈ GB := gb_6 91 rfl rfl
theorem wd6_93 : Cond.instanceMethod yX6_passes ∈ GB := gb_6 93 rfl rfl
theorem wd0_77 : Cond.selects RX6 yX6_passes yX6_passes ∈ GB := gb_0 77 rfl rfl
theorem wd6_94 : Cond.code yX6_passes cX6_passes 4 (some .int) ∈ GB := gb_6 94 rfl rfl
theorem yd_X6_passes : yX6_passes.cls ≠ "java/lang/invoke/MethodHandle" ∧ yX6_passes.cls ≠ "java/lang/invoke/VarHandle" ∧ (parseMethodDescriptor yX6_passes.desc).map (fun d => d.parameters.length) = some 1 := by decide +kernel
theorem wd5_26 : Cond.fieldLink RX6 26 RX6 (TX6 7).2.1 (TX6 7).2.2.1 ∈ GB := gb_5 26 rfl rfl
theorem wd5_27 : Cond.fieldLink RX6 194 RX6 (TX6 8).2.1 (TX6 8).2.2.1 ∈ GB := gb_5 27 rfl rfl
theorem wd6_115 : Cond.methodLink RX6 197 yX6_writes ∈ GB := gb_6 115 rfl rfl
theorem wd6_117 : Cond.instanceMethod yX6_writes ∈ GB := gb_6 117 rfl rfl
theorem wd0_80 : Cond.selects RX6 yX6_writes yX6_writes ∈ GB := gb_0 80 rfl rfl
theorem wd6_118 : Cond.code yX6_writes cX6_writes 2 none ∈ GB := gb_6 118 rfl rfl
theorem yd_X6_writes : yX6_writes.cls ≠ "java/lang/invoke/MethodHandle" ∧ yX6_writes.cls ≠ "java/lang/invoke/VarHandle" ∧ (parseMethodDescriptor yX6_writes.desc).map (fun d => d.parameters.length) = some 1 := by decide +kernel
theorem wd6_111 : Cond.methodLink RX6 201 yX6_writesName ∈ GB := gb_6 111 rfl rfl
theorem wd6_113 : Cond.instanceMethod yX6_writesName ∈ GB := gb_6 113 rfl rfl
theorem wd0_79 : Cond.selects RX6 yX6_writesName yX6_writesName ∈ GB := gb_0 79 rfl rfl
theorem wd6_114 : Cond.code yX6_writesName cX6_writesName 5 none ∈ GB := gb_6 114 rfl rfl
theorem yd_X6_writesName : yX6_writesName.cls ≠ "java/lang/invoke/MethodHandle" ∧ yX6_writesName.cls ≠ "java/lang/invoke/VarHandle" ∧ (parseMethodDescriptor yX6_writesName.desc).map (fun d => d.parameters.length) = some 1 := by decide +kernel
theorem wd6_119 : Cond.methodLink RX6 204 yX6_writesNeeds ∈ GB := gb_6 119 rfl rfl
theorem wd6_121 : Cond.instanceMethod yX6_writesNeeds ∈ GB := gb_6 121 rfl rfl
theorem wd0_81 : Cond.selects RX6 yX6_writesNeeds yX6_writesNeeds ∈ GB := gb_0 81 rfl rfl
theorem wd6_122 : Cond.code yX6_writesNeeds cX6_writesNeeds 4 none ∈ GB := gb_6 122 rfl rfl
theorem yd_X6_writesNeeds : yX6_writesNeeds.cls ≠ "java/lang/invoke/MethodHandle" ∧ yX6_writesNeeds.cls ≠ "java/lang/invoke/VarHandle" ∧ (parseMethodDescriptor yX6_writesNeeds.desc).map (fun d => d.parameters.length) = some 1 := by decide +kernel
theorem wd5_29 : Cond.fieldLink RX6 211 RX6 (TX6 10).2.1 (TX6 10).2.2.1 ∈ GB := gb_5 29 rfl rfl
theorem wd6_135 : Cond.methodLink RX6 207 yX6_byteOf ∈ GB := gb_6 135 rfl rfl
theorem wd6_136 : Cond.static yX6_byteOf ∈ GB := gb_6 136 rfl rfl
theorem wd6_137 : Cond.code yX6_byteOf cX6_byteOf 7 (some .int) ∈ GB := gb_6 137 rfl rfl
theorem yd_X6_byteOf : yX6_byteOf.cls ≠ "java/lang/invoke/MethodHandle" ∧ yX6_byteOf.cls ≠ "java/lang/invoke/VarHandle" ∧ (parseMethodDescriptor yX6_byteOf.desc).map (fun d => d.parameters.length) = some 6 := by decide +kernel
theorem wd5_28 : Cond.fieldLink RX6 29 RX6 (TX6 9).2.1 (TX6 9).2.2.1 ∈ GB := gb_5 28 rfl rfl
theorem wd6_146 : Cond.methodLink RX6 214 yX6_look ∈ GB := gb_6 146 rfl rfl
theorem wd6_148 : Cond.instanceMethod yX6_look ∈ GB := gb_6 148 rfl rfl
theorem wd0_83 : Cond.selects RX6 yX6_look yX6_look ∈ GB := gb_0 83 rfl rfl
theorem wd6_149 : Cond.code yX6_look cX6_look 2 (some .int) ∈ GB := gb_6 149 rfl rfl
theorem yd_X6_look : yX6_look.cls ≠ "java/lang/invoke/MethodHandle" ∧ yX6_look.cls ≠ "java/lang/invoke/VarHandle" ∧ (parseMethodDescriptor yX6_look.desc).map (fun d => d.parameters.length) = some 1 := by decide +kernel
theorem wd5_31 : Cond.fieldLink RX6 217 RX6 (TX6 12).2.1 (TX6 12).2.2.1 ∈ GB := gb_5 31 rfl rfl
theorem wd5_30 : Cond.fieldLink RX6 220 RX6 (TX6 11).2.1 (TX6 11).2.2.1 ∈ GB := gb_5 30 rfl rfl
theorem wd5_33 : Cond.fieldLink RX6 223 RX6 (TX6 14).2.1 (TX6 14).2.2.1 ∈ GB := gb_5 33 rfl rfl
theorem wd6_150 : Cond.methodLink RX6 229 yX6_isLetter ∈ GB := gb_6 150 rfl rfl
theorem wd6_152 : Cond.instanceMethod yX6_isLetter ∈ GB := gb_6 152 rfl rfl
theorem wd0_84 : Cond.selects RX6 yX6_isLetter yX6_isLetter ∈ GB := gb_0 84 rfl rfl
theorem wd6_153 : Cond.code yX6_isLetter cX6_isLetter 2 (some .boolean) ∈ GB := gb_6 153 rfl rfl
theorem yd_X6_isLetter : yX6_isLetter.cls ≠ "java/lang/invoke/MethodHandle" ∧ yX6_isLetter.cls ≠ "java/lang/invoke/VarHandle" ∧ (parseMethodDescriptor yX6_isLetter.desc).map (fun d => d.parameters.length) = some 1 := by decide +kernel
theorem wd6_154 : Cond.methodLink RX6 232 yX6_isDigit ∈ GB := gb_6 154 rfl rfl
theorem wd6_156 : Cond.instanceMethod yX6_isDigit ∈ GB := gb_6 156 rfl rfl
theorem wd0_85 : Cond.selects RX6 yX6_isDigit yX6_isDigit ∈ GB := gb_0 85 rfl rfl
theorem wd6_157 : Cond.code yX6_isDigit cX6_isDigit 2 (some .boolean) ∈ GB := gb_6 157 rfl rfl
theorem yd_X6_isDigit : yX6_isDigit.cls ≠ "java/lang/invoke/MethodHandle" ∧ yX6_isDigit.cls ≠ "java/lang/invoke/VarHandle" ∧ (parseMethodDescriptor yX6_isDigit.desc).map (fun d => d.parameters.length) = some 1 := by decide +kernel
theorem wd5_32 : Cond.fieldLink RX6 226 RX6 (TX6 13).2.1 (TX6 13).2.2.1 ∈ GB := gb_5 32 rfl rfl
theorem wd5_34 : Cond.fieldLink RX6 235 RX6 (TX6 15).2.1 (TX6 15).2.2.1 ∈ GB := gb_5 34 rfl rfl
theorem wd6_167 : Cond.methodLink RX6 238 yJ0_length_8abf5 ∈ GB := gb_6 167 rfl rfl
theorem wd6_168 : Cond.methodLink RX6 243 yJ0_charAt_5068e ∈ GB := gb_6 168 rfl rfl
theorem wd5_35 : Cond.fieldLink RX6 247 RX6 (TX6 16).2.1 (TX6 16).2.2.1 ∈ GB := gb_5 35 rfl rfl
theorem wd6_173 : Cond.methodLink RX6 250 yX6_errs ∈ GB := gb_6 173 rfl rfl
theorem wd6_175 : Cond.instanceMethod yX6_errs ∈ GB := gb_6 175 rfl rfl
theorem wd0_89 : Cond.selects RX6 yX6_errs yX6_errs ∈ GB := gb_0 89 rfl rfl
theorem wd6_176 : Cond.code yX6_errs cX6_errs 2 none ∈ GB := gb_6 176 rfl rfl
theorem yd_X6_errs : yX6_errs.cls ≠ "java/lang/invoke/MethodHandle" ∧ yX6_errs.cls ≠ "java/lang/invoke/VarHandle" ∧ (parseMethodDescriptor yX6_errs.desc).map (fun d => d.parameters.length) = some 1 := by decide +kernel
theorem wd6_142 : Cond.methodLink RX6 253 yX6_next ∈ GB := gb_6 142 rfl rfl
theorem wd6_144 : Cond.instanceMethod yX6_next ∈ GB := gb_6 144 rfl rfl
theorem wd0_82 : Cond.selects RX6 yX6_next yX6_next ∈ GB := gb_0 82 rfl rfl
theorem wd6_145 : Cond.code yX6_next cX6_next 1 none ∈ GB := gb_6 145 rfl rfl
theorem yd_X6_next : yX6_next.cls ≠ "java/lang/invoke/MethodHandle" ∧ yX6_next.cls ≠ "java/lang/invoke/VarHandle" ∧ (parseMethodDescriptor yX6_next.desc).map (fun d => d.parameters.length) = some 0 := by decide +kernel
theorem wd6_169 : Cond.methodLink RX6 256 yX6_must ∈ GB := gb_6 169 rfl rfl
theorem wd6_171 : Cond.instanceMethod yX6_must ∈ GB := gb_6 171 rfl rfl
theorem wd0_88 : Cond.selects RX6 yX6_must yX6_must ∈ GB := gb_0 88 rfl rfl
theorem wd6_172 : Cond.code yX6_must cX6_must 2 none ∈ GB := gb_6 172 rfl rfl
theorem yd_X6_must : yX6_must.cls ≠ "java/lang/invoke/MethodHandle" ∧ yX6_must.cls ≠ "java/lang/invoke/VarHandle" ∧ (parseMethodDescriptor yX6_must.desc).map (fun d => d.parameters.length) = some 1 := by decide +kernel
theorem wd6_191 : Cond.methodLink RX6 260 yX6_nameHere ∈ GB := gb_6 191 rfl rfl
theorem wd6_193 : Cond.instanceMethod yX6_nameHere ∈ GB := gb_6 193 rfl rfl
theorem wd0_93 : Cond.selects RX6 yX6_nameHere yX6_nameHere ∈ GB := gb_0 93 rfl rfl
theorem wd6_194 : Cond.code yX6_nameHere cX6_nameHere 3 (some .int) ∈ GB := gb_6 194 rfl rfl
theorem yd_X6_nameHere : yX6_nameHere.cls ≠ "java/lang/invoke/MethodHandle" ∧ yX6_nameHere.cls ≠ "java/lang/invoke/VarHandle" ∧ (parseMethodDescriptor yX6_nameHere.desc).map (fun d => d.parameters.length) = some 0 := by decide +kernel
theorem wd6_195 : Cond.methodLink RX6 263 yX6_needNamed ∈ GB := gb_6 195 rfl rfl
theorem wd6_197 : Cond.instanceMethod yX6_needNamed ∈ GB := gb_6 197 rfl rfl
theorem wd0_94 : Cond.selects RX6 yX6_needNamed yX6_needNamed ∈ GB := gb_0 94 rfl rfl
theorem wd6_198 : Cond.code yX6_needNamed cX6_needNamed 3 (some .int) ∈ GB := gb_6 198 rfl rfl
theorem yd_X6_needNamed : yX6_needNamed.cls ≠ "java/lang/invoke/MethodHandle" ∧ yX6_needNamed.cls ≠ "java/lang/invoke/VarHandle" ∧ (parseMethodDescriptor yX6_needNamed.desc).map (fun d => d.parameters.length) = some 1 := by decide +kernel
theorem wd6_210 : Cond.methodLink RX6 266 yX6_monkNamed ∈ GB := gb_6 210 rfl rfl
theorem wd6_212 : Cond.instanceMethod yX6_monkNamed ∈ GB := gb_6 212 rfl rfl
theorem wd0_97 : Cond.selects RX6 yX6_monkNamed yX6_monkNamed ∈ GB := gb_0 97 rfl rfl
theorem wd6_213 : Cond.code yX6_monkNamed cX6_monkNamed 3 (some .int) ∈ GB := gb_6 213 rfl rfl
theorem yd_X6_monkNamed : yX6_monkNamed.cls ≠ "java/lang/invoke/MethodHandle" ∧ yX6_monkNamed.cls ≠ "java/lang/invoke/VarHandle" ∧ (parseMethodDescriptor yX6_monkNamed.desc).map (fun d => d.parameters.length) = some 1 := by decide +kernel
theorem wd6_181 : Cond.methodLink RX6 269 yX6_isEnd ∈ GB := gb_6 181 rfl rfl
theorem wd6_183 : Cond.instanceMethod yX6_isEnd ∈ GB := gb_6 183 rfl rfl
theorem wd0_91 : Cond.selects RX6 yX6_isEnd yX6_isEnd ∈ GB := gb_0 91 rfl rfl
theorem wd6_184 : Cond.code yX6_isEnd cX6_isEnd 1 (some .boolean) ∈ GB := gb_6 184 rfl rfl
theorem yd_X6_isEnd : yX6_isEnd.cls ≠ "java/lang/invoke/MethodHandle" ∧ yX6_isEnd.cls ≠ "java/lang/invoke/VarHandle" ∧ (parseMethodDescriptor yX6_isEnd.desc).map (fun d => d.parameters.length) = some 0 := by decide +kernel
theorem wd6_163 : Cond.methodLink RX6 272 yX6_isWord ∈ GB := gb_6 163 rfl rfl
theorem wd6_165 : Cond.instanceMethod yX6_isWord ∈ GB := gb_6 165 rfl rfl
theorem wd0_87 : Cond.selects RX6 yX6_isWord yX6_isWord ∈ GB := gb_0 87 rfl rfl
theorem wd6_166 : Cond.code yX6_isWord cX6_isWord 3 (some .boolean) ∈ GB := gb_6 166 rfl rfl
theorem yd_X6_isWord : yX6_isWord.cls ≠ "java/lang/invoke/MethodHandle" ∧ yX6_isWord.cls ≠ "java/lang/invoke/VarHandle" ∧ (parseMethodDescriptor yX6_isWord.desc).map (fun d => d.parameters.length) = some 1 := by decide +kernel
theorem wd6_177 : Cond.methodLink RX6 276 yX6_takes ∈ GB := gb_6 177 rfl rfl
theorem wd6_179 : Cond.instanceMethod yX6_takes ∈ GB := gb_6 179 rfl rfl
theorem wd0_90 : Cond.selects RX6 yX6_takes yX6_takes ∈ GB := gb_0 90 rfl rfl
theorem wd6_180 : Cond.code yX6_takes cX6_takes 4 (some .int) ∈ GB := gb_6 180 rfl rfl
theorem yd_X6_takes : yX6_takes.cls ≠ "java/lang/invoke/MethodHandle" ∧ yX6_takes.cls ≠ "java/lang/invoke/VarHandle" ∧ (parseMethodDescriptor yX6_takes.desc).map (fun d => d.parameters.length) = some 2 := by decide +kernel
theorem wd6_199 : Cond.methodLink RX6 287 yX6_rankHere ∈ GB := gb_6 199 rfl rfl
theorem wd6_201 : Cond.instanceMethod yX6_rankHere ∈ GB := gb_6 201 rfl rfl
theorem wd0_95 : Cond.selects RX6 yX6_rankHere yX6_rankHere ∈ GB := gb_0 95 rfl rfl
theorem wd6_202 : Cond.code yX6_rankHere cX6_rankHere 1 (some .int) ∈ GB := gb_6 202 rfl rfl
theorem yd_X6_rankHere : yX6_rankHere.cls ≠ "java/lang/invoke/MethodHandle" ∧ yX6_rankHere.cls ≠ "java/lang/invoke/VarHandle" ∧ (parseMethodDescriptor yX6_rankHere.desc).map (fun d => d.parameters.length) = some 0 := by decide +kernel
theorem wd6_214 : Cond.methodLink RX6 290 yX6_needHere ∈ GB := gb_6 214 rfl rfl
theorem wd6_216 : Cond.instanceMethod yX6_needHere ∈ GB := gb_6 216 rfl rfl
theorem wd0_98 : Cond.selects RX6 yX6_needHere yX6_needHere ∈ GB := gb_0 98 rfl rfl
theorem wd6_217 : Cond.code yX6_needHere cX6_needHere 2 (some .int) ∈ GB := gb_6 217 rfl rfl
theorem yd_X6_needHere : yX6_needHere.cls ≠ "java/lang/invoke/MethodHandle" ∧ yX6_needHere.cls ≠ "java/lang/invoke/VarHandle" ∧ (parseMethodDescriptor yX6_needHere.desc).map (fun d => d.parameters.length) = some 0 := by decide +kernel
theorem wd5_12 : Cond.methodLink RX6 39 yX6_addsMonk ∈ GB := gb_5 12 rfl rfl
theorem wd5_14 : Cond.instanceMethod yX6_addsMonk ∈ GB := gb_5 14 rfl rfl
theorem wd0_41 : Cond.selects RX6 yX6_addsMonk yX6_addsMonk ∈ GB := gb_0 41 rfl rfl
theorem wd5_15 : Cond.code yX6_addsMonk cX6_addsMonk 5 (some .int) ∈ GB := gb_5 15 rfl rfl
theorem yd_X6_addsMonk : yX6_addsMonk.cls ≠ "java/lang/invoke/MethodHandle" ∧ yX6_addsMonk.cls ≠ "java/lang/invoke/VarHandle" ∧ (parseMethodDescriptor yX6_addsMonk.desc).map (fun d => d.parameters.length) = some 2 := by decide +kernel
theorem wd6_237 : Cond.methodLink RX6 299 yX6_takesMonk ∈ GB := gb_6 237 rfl rfl
theorem wd6_239 : Cond.instanceMethod yX6_takesMonk ∈ GB := gb_6 239 rfl rfl
theorem wd0_102 : Cond.selects RX6 yX6_takesMonk yX6_takesMonk ∈ GB := gb_0 102 rfl rfl
theorem wd7_0 : Cond.code yX6_takesMonk cX6_takesMonk 3 (some .int) ∈ GB := gb_7 0 rfl rfl
theorem yd_X6_takesMonk : yX6_takesMonk.cls ≠ "java/lang/invoke/MethodHandle" ∧ yX6_takesMonk.cls ≠ "java/lang/invoke/VarHandle" ∧ (parseMethodDescriptor yX6_takesMonk.desc).map (fun d => d.parameters.length) = some 1 := by decide +kernel
theorem wd7_1 : Cond.methodLink RX6 302 yX6_mayDo ∈ GB := gb_7 1 rfl rfl
theorem wd7_3 : Cond.instanceMethod yX6_mayDo ∈ GB := gb_7 3 rfl rfl
theorem wd0_103 : Cond.selects RX6 yX6_mayDo yX6_mayDo ∈ GB := gb_0 103 rfl rfl
theorem wd7_4 : Cond.code yX6_mayDo cX6_mayDo 2 (some .boolean) ∈ GB := gb_7 4 rfl rfl
theorem yd_X6_mayDo : yX6_mayDo.cls ≠ "java/lang/invoke/MethodHandle" ∧ yX6_mayDo.cls ≠ "java/lang/invoke/VarHandle" ∧ (parseMethodDescriptor yX6_mayDo.desc).map (fun d => d.parameters.length) = some 1 := by decide +kernel
theorem wd5_37 : Cond.fieldLink RX6 305 RX6 (TX6 18).2.1 (TX6 18).2.2.1 ∈ GB := gb_5 37 rfl rfl
theorem wd7_12 : Cond.methodLink RX6 328 yX6_readsGift ∈ GB := gb_7 12 rfl rfl
theorem wd7_14 : Cond.instanceMethod yX6_readsGift ∈ GB := gb_7 14 rfl rfl
theorem wd0_105 : Cond.selects RX6 yX6_readsGift yX6_readsGift ∈ GB := gb_0 105 rfl rfl
theorem wd7_15 : Cond.code yX6_readsGift cX6_readsGift 4 none ∈ GB := gb_7 15 rfl rfl
theorem yd_X6_readsGift : yX6_readsGift.cls ≠ "java/lang/invoke/MethodHandle" ∧ yX6_readsGift.cls ≠ "java/lang/invoke/VarHandle" ∧ (parseMethodDescriptor yX6_readsGift.desc).map (fun d => d.parameters.length) = some 0 := by decide +kernel
theorem wd7_5 : Cond.methodLink RX6 325 yX6_readsTelling ∈ GB := gb_7 5 rfl rfl
theorem wd7_7 : Cond.instanceMethod yX6_readsTelling ∈ GB := gb_7 7 rfl rfl
theorem wd0_104 : Cond.selects RX6 yX6_readsTelling yX6_readsTelling ∈ GB := gb_0 104 rfl rfl
theorem wd7_8 : Cond.code yX6_readsTelling cX6_readsTelling 5 none ∈ GB := gb_7 8 rfl rfl
theorem yd_X6_readsTelling : yX6_readsTelling.cls ≠ "java/lang/invoke/MethodHandle" ∧ yX6_readsTelling.cls ≠ "java/lang/invoke/VarHandle" ∧ (parseMethodDescriptor yX6_readsTelling.desc).map (fun d => d.parameters.length) = some 0 := by decide +kernel
theorem wd6_233 : Cond.methodLink RX6 322 yX6_readsWant ∈ GB := gb_6 233 rfl rfl
theorem wd6_235 : Cond.instanceMethod yX6_readsWant ∈ GB := gb_6 235 rfl rfl
theorem wd0_101 : Cond.selects RX6 yX6_readsWant yX6_readsWant ∈ GB := gb_0 101 rfl rfl
theorem wd6_236 : Cond.code yX6_readsWant cX6_readsWant 3 none ∈ GB := gb_6 236 rfl rfl
theorem yd_X6_readsWant : yX6_readsWant.cls ≠ "java/lang/invoke/MethodHandle" ∧ yX6_readsWant.cls ≠ "java/lang/invoke/VarHandle" ∧ (parseMethodDescriptor yX6_readsWant.desc).map (fun d => d.parameters.length) = some 0 := by decide +kernel
theorem wd5_20 : Cond.fieldLink RX6 13 RX6 (TX6 1).2.1 (TX6 1).2.2.1 ∈ GB := gb_5 20 rfl rfl
theorem wd5_8 : Cond.methodLink RX6 36 yX6_begins ∈ GB := gb_5 8 rfl rfl
theorem wd5_10 : Cond.instanceMethod yX6_begins ∈ GB := gb_5 10 rfl rfl
theorem wd0_40 : Cond.selects RX6 yX6_begins yX6_begins ∈ GB := gb_0 40 rfl rfl
theorem wd5_11 : Cond.code yX6_begins cX6_begins 2 none ∈ GB := gb_5 11 rfl rfl
theorem yd_X6_begins : yX6_begins.cls ≠ "java/lang/invoke/MethodHandle" ∧ yX6_begins.cls ≠ "java/lang/invoke/VarHandle" ∧ (parseMethodDescriptor yX6_begins.desc).map (fun d => d.parameters.length) = some 0 := by decide +kernel
theorem wd6_159 : Cond.methodLink RX6 333 yX6_readsSetting ∈ GB := gb_6 159 rfl rfl
theorem wd6_161 : Cond.instanceMethod yX6_readsSetting ∈ GB := gb_6 161 rfl rfl
theorem wd0_86 : Cond.selects RX6 yX6_readsSetting yX6_readsSetting ∈ GB := gb_0 86 rfl rfl
theorem wd6_162 : Cond.code yX6_readsSetting cX6_readsSetting 5 none ∈ GB := gb_6 162 rfl rfl
theorem yd_X6_readsSetting : yX6_readsSetting.cls ≠ "java/lang/invoke/MethodHandle" ∧ yX6_readsSetting.cls ≠ "java/lang/invoke/VarHandle" ∧ (parseMethodDescriptor yX6_readsSetting.desc).map (fun d => d.parameters.length) = some 3 := by decide +kernel
theorem wd6_187 : Cond.methodLink RX6 339 yX6_readsNeed ∈ GB := gb_6 187 rfl rfl
theorem wd6_189 : Cond.instanceMethod yX6_readsNeed ∈ GB := gb_6 189 rfl rfl
theorem wd0_92 : Cond.selects RX6 yX6_readsNeed yX6_readsNeed ∈ GB := gb_0 92 rfl rfl
theorem wd6_190 : Cond.code yX6_readsNeed cX6_readsNeed 3 (some .boolean) ∈ GB := gb_6 190 rfl rfl
theorem yd_X6_readsNeed : yX6_readsNeed.cls ≠ "java/lang/invoke/MethodHandle" ∧ yX6_readsNeed.cls ≠ "java/lang/invoke/VarHandle" ∧ (parseMethodDescriptor yX6_readsNeed.desc).map (fun d => d.parameters.length) = some 0 := by decide +kernel
theorem wd6_206 : Cond.methodLink RX6 342 yX6_readsMonk ∈ GB := gb_6 206 rfl rfl
theorem wd6_208 : Cond.instanceMethod yX6_readsMonk ∈ GB := gb_6 208 rfl rfl
theorem wd0_96 : Cond.selects RX6 yX6_readsMonk yX6_readsMonk ∈ GB := gb_0 96 rfl rfl
theorem wd6_209 : Cond.code yX6_readsMonk cX6_readsMonk 5 (some .boolean) ∈ GB := gb_6 209 rfl rfl
theorem yd_X6_readsMonk : yX6_readsMonk.cls ≠ "java/lang/invoke/MethodHandle" ∧ yX6_readsMonk.cls ≠ "java/lang/invoke/VarHandle" ∧ (parseMethodDescriptor yX6_readsMonk.desc).map (fun d => d.parameters.length) = some 0 := by decide +kernel
theorem wd6_218 : Cond.methodLink RX6 345 yX6_readsBell ∈ GB := gb_6 218 rfl rfl
theorem wd6_220 : Cond.instanceMethod yX6_readsBell ∈ GB := gb_6 220 rfl rfl
theorem wd0_99 : Cond.selects RX6 yX6_readsBell yX6_readsBell ∈ GB := gb_0 99 rfl rfl
theorem wd6_221 : Cond.code yX6_readsBell cX6_readsBell 3 (some .boolean) ∈ GB := gb_6 221 rfl rfl
theorem yd_X6_readsBell : yX6_readsBell.cls ≠ "java/lang/invoke/MethodHandle" ∧ yX6_readsBell.cls ≠ "java/lang/invoke/VarHandle" ∧ (parseMethodDescriptor yX6_readsBell.desc).map (fun d => d.parameters.length) = some 0 := by decide +kernel
theorem wd6_225 : Cond.methodLink RX6 348 yX6_readsDeed ∈ GB := gb_6 225 rfl rfl
theorem wd6_227 : Cond.instanceMethod yX6_readsDeed ∈ GB := gb_6 227 rfl rfl
theorem wd0_100 : Cond.selects RX6 yX6_readsDeed yX6_readsDeed ∈ GB := gb_0 100 rfl rfl
theorem wd6_228 : Cond.code yX6_readsDeed cX6_readsDeed 5 (some .boolean) ∈ GB := gb_6 228 rfl rfl
theorem yd_X6_readsDeed : yX6_readsDeed.cls ≠ "java/lang/invoke/MethodHandle" ∧ yX6_readsDeed.cls ≠ "java/lang/invoke/VarHandle" ∧ (parseMethodDescriptor yX6_readsDeed.desc).map (fun d => d.parameters.length) = some 0 := by decide +kernel
theorem wd5_36 : Cond.fieldLink RX6 32 RX6 (TX6 17).2.1 (TX6 17).2.2.1 ∈ GB := gb_5 36 rfl rfl
noncomputable def f_X6_thrown (M : Mem) : Option Int32 := (some (M 9 6))
set_option maxHeartbeats 4000000 in
set_option maxRecDepth 100000 in
theorem b_X6_thrown {p : Program} {l : Launch} {e : Env} {R : Room} {s : State} {m : MethodId} {args : Array Value} {below : List Frame} {meth : Method} {c : Code} {Q : State → Prop} {D : va_G} {cy : Nat → ClassId} {ad : Nat → Nat} {x : SX} (fx : FX p s m args meth c cX6_thrown 1 (some .int) RX6 D cy ad x) (hR : 0 ≤ R.frames ∧ 0 ≤ R.locals ∧ 0 ≤ R.cells ∧ 0 ≤ R.slots) (M : Mem) (z : Int32) (hF : f_X6_thrown M = some z) (E : ∀ (pc : Nat) (ls : Array Slot) (H : Heap) (locs : List Loc) (v : Int32), decode cX6_thrown pc = .ok (.ireturn, 1) → WD D cy ad s M H locs → some v = some z → W p l e R s m args below meth c H locs 0 0 Q (F0 m pc ls [.int v])) (H : Heap) (locs : List Loc) (ls : Array Slot) (hl : lv_has ls 1 [(0, .ref (ad 9))]) (hw : WD D cy ad s M H locs) : W p l e R s m args below meth c H locs 0 0 Q (F0 m 0 ls []) := by
  have hx := fx.1.1
  have hb := fx.1.2.1
  have hown := fx.1.2.2.2.1
  have hts := fx.1.2.2.2.2
  unfold f_X6_thrown at hF
  refine lv_aload_n hx hb dX6_thrown_0 rfl (lv_at hl 0 rfl) ?_
  refine gX6_get fx hw isO_9 6 (by decide) wd5_25 rfl dX6_thrown_1 ?_
  exact E _ _ _ _ _ dX6_thrown_4 hw hF
theorem c_X6_thrown (l : Launch) (x : SX) (D : va_G) (cy : Nat → ClassId) (ad : Nat → Nat) (sz : Nat) (M : Mem) (z : Int32) (hF : f_X6_thrown M = some z) : Met l yX6_thrown (.code yX6_thrown cX6_thrown 1 (some .int) :: GB) ({ frames := 0, cells := 0, slots := 0, locals := 0 } : Room) (PcW D cy ad x sz M [.ref (ad 9)]) (QiW D cy ad sz z M) 0 0 (AA ad sz) := by
  refine mk_m (own := RX6) (by decide) rfl (Nat.le_of_ble_eq_true rfl) ?_
  intro p e s m args below meth c ls fx hw hl hsz
  subst hsz
  exact b_X6_thrown fx ⟨Nat.le_refl _, Nat.le_refl _, Nat.le_refl _, Nat.le_refl _⟩ M z hF (fun pc ls H locs v hd hw h => by cases h; exact g_iret fx hw rfl hd) _ _ ls hl hw
noncomputable def f_X6_isIn (p1 p2 p3 : Int32) (M : Mem) : Option Int32 := (if p1 < p2 then (some 0) else (if p3 < p1 then (some 0) else (some 1)))
set_option maxHeartbeats 4000000 in
set_option maxRecDepth 100000 in
theorem b_X6_isIn {p : Program} {l : Launch} {e : Env} {R : Room} {s : State} {m : MethodId} {args : Array Value} {below : List Frame} {meth : Method} {c : Code} {Q : State → Prop} {D : va_G} {cy : Nat → ClassId} {ad : Nat → Nat} {x : SX} (fx : FX p s m args meth c cX6_isIn 3 (some .boolean) RX6 D cy ad x) (hR : 0 ≤ R.frames ∧ 0 ≤ R.locals ∧ 0 ≤ R.cells ∧ 0 ≤ R.slots) (p1 p2 p3 : Int32) (M : Mem) (z : Int32) (hF : f_X6_isIn p1 p2 p3 M = some z) (E : ∀ (pc : Nat) (ls : Array Slot) (H : Heap) (locs : List Loc) (v : Int32), decode cX6_isIn pc = .ok (.ireturn, 1) → (v = 0 ∨ v = 1) → WD D cy ad s M H locs → some v = some z → W p l e R s m args below meth c H locs 0 0 Q (F0 m pc ls [.int v])) (H : Heap) (locs : List Loc) (ls : Array Slot) (hl : lv_has ls 3 [(0, .int p1), (1, .int p2), (2, .int p3)]) (hw : WD D cy ad s M H locs) : W p l e R s m args below meth c H locs 0 0 Q (F0 m 0 ls []) := by
  have hx := fx.1.1
  have hb := fx.1.2.1
  have hown := fx.1.2.2.2.1
  have hts := fx.1.2.2.2.2
  unfold f_X6_isIn at hF
  refine lv_iload_n hx hb dX6_isIn_0 rfl (lv_at hl 0 rfl) ?_
  refine lv_iload_n hx hb dX6_isIn_1 rfl (lv_at hl 1 rfl) ?_
  refine lv_icmp_lt (tgt := 14) hx hb dX6_isIn_2 (by decide) (fun hc2 => ?_) (fun hc2 => ?_)
  · replace hF := st_t hc2 hF
    refine lv_iconst (v := 0) hx hb dX6_isIn_14 (by decide) ?_
    exact E _ _ _ _ _ dX6_isIn_15 (Or.inl rfl) hw hF
  · replace hF := st_f hc2 hF
    refine lv_iload_n hx hb dX6_isIn_5 rfl (lv_at hl 0 rfl) ?_
    refine lv_iload_n hx hb dX6_isIn_6 rfl (lv_at hl 2 rfl) ?_
    refine lv_icmp_gt (tgt := 14) hx hb dX6_isIn_7 (by decide) (fun hc7 => ?_) (fun hc7 => ?_)
    · replace hF := st_t hc7 hF
      refine lv_iconst (v := 0) hx hb dX6_isIn_14 (by decide) ?_
      exact E _ _ _ _ _ dX6_isIn_15 (Or.inl rfl) hw hF
    · replace hF := st_f hc7 hF
      refine lv_iconst (v := 1) hx hb dX6_isIn_10 (by decide) ?_
      refine lv_goto (tgt := 15) hx hb dX6_isIn_11 (by decide) ?_
      exact E _ _ _ _ _ dX6_isIn_15 (Or.inr rfl) hw hF
theorem c_X6_isIn (l : Launch) (x : SX) (D : va_G) (cy : Nat → ClassId) (ad : Nat → Nat) (p1 p2 p3 : Int32) (sz : Nat) (M : Mem) (z : Int32) (hF : f_X6_isIn p1 p2 p3 M = some z) : Met l yX6_isIn (.code yX6_isIn cX6_isIn 3 (some .boolean) :: GB) ({ frames := 0, cells := 0, slots := 0, locals := 0 } : Room) (PcW D cy ad x sz M [.int p1, .int p2, .int p3]) (QzW D cy ad sz z M) 0 0 (AA ad sz) := by
  refine mk_m (own := RX6) (by decide) rfl (Nat.le_of_ble_eq_true rfl) ?_
  intro p e s m args below meth c ls fx hw hl hsz
  subst hsz
  exact b_X6_isIn fx ⟨Nat.le_refl _, Nat.le_refl _, Nat.le_refl _, Nat.le_refl _⟩ p1 p2 p3 M z hF (fun pc ls H locs v hd hb hw h => by cases h; exact g_zret fx hw rfl hb hd) _ _ ls hl hw
noncomputable def f_X6_copies_3 (n1 q1 n3 q3 : Nat) (rec3 : Int32 → Int32 → Int32 → Mem → Option Mem) : Int32 → Int32 → Int32 → Mem → Option Mem := fun a1 a3 a4 M => (if 156 ≤ a4 then (some M) else (chk (inB (a3 + a4) n3) (chk (inB (a1 + a4) n1) (letM (mput M q1 (ix (a1 + a4)) (M q3 (ix (a3 + a4)))) (fun M8 => (rec3 a1 a3 (a4 + 1) M8))))))
noncomputable def f_X6_copies (n1 q1 n3 q3 : Nat) (p2 p4 : Int32) (M : Mem) : Option Mem := ((lp (fun _ _ _ _ => none) (f_X6_copies_3 n1 q1 n3 q3) FU) p2 p4 0 M)
set_option maxHeartbeats 4000000 in
set_option maxRecDepth 100000 in
theorem b_X6_copies {p : Program} {l : Launch} {e : Env} {R : Room} {s : State} {m : MethodId} {args : Array Value} {below : List Frame} {meth : Method} {c : Code} {Q : State → Prop} {D : va_G} {cy : Nat → ClassId} {ad : Nat → Nat} {x : SX} (fx : FX p s m args meth c cX6_copies 5 none RX6 D cy ad x) (hR : 0 ≤ R.frames ∧ 0 ≤ R.locals ∧ 0 ≤ R.cells ∧ 0 ≤ R.slots) (n1 q1 n3 q3 : Nat) (hq1 : isA q1 n1) (hq3 : isA q3 n3) (p2 p4 : Int32) (M : Mem) (M' : Mem) (hF : f_X6_copies n1 q1 n3 q3 p2 p4 M = some M') (E : ∀ (pc : Nat) (ls : Array Slot) (H : Heap) (locs : List Loc) (M1 : Mem), decode cX6_copies pc = .ok (.return_, 1) → WD D cy ad s M1 H locs → some M1 = some M' → W p l e R s m args below meth c H locs 0 0 Q (F0 m pc ls [])) (H : Heap) (locs : List Loc) (ls : Array Slot) (hl : lv_has ls 5 [(0, .ref (ad q1)), (1, .int p2), (2, .ref (ad q3)), (3, .int p4)]) (hw : WD D cy ad s M H locs) : W p l e R s m args below meth c H locs 0 0 Q (F0 m 0 ls []) := by
  have hx := fx.1.1
  have hb := fx.1.2.1
  have hown := fx.1.2.2.2.1
  have hts := fx.1.2.2.2.2
  have n_3 : ∀ (n9 : Nat), ∀ (a1 : Int32) (a3 : Int32) (a4 : Int32) (M : Mem) (H : Heap) (locs : List Loc) (ls : Array Slot), lv_has ls 5 [(0, .ref (ad q1)), (1, .int a1), (2, .ref (ad q3)), (3, .int a3), (4, .int a4)] → WD D cy ad s M H locs → (lp (fun _ _ _ _ => none) (f_X6_copies_3 n1 q1 n3 q3) n9) a1 a3 a4 M = some M' → W p l e R s m args below meth c H locs 0 0 Q (F0 m 3 ls []) := by
    intro n9
    refine lp_ind (fun (rec3 : Int32 → Int32 → Int32 → Mem → Option Mem) => ∀ (a1 : Int32) (a3 : Int32) (a4 : Int32) (M : Mem) (H : Heap) (locs : List Loc) (ls : Array Slot), lv_has ls 5 [(0, .ref (ad q1)), (1, .int a1), (2, .ref (ad q3)), (3, .int a3), (4, .int a4)] → WD D cy ad s M H locs → rec3 a1 a3 a4 M = some M' → W p l e R s m args below meth c H locs 0 0 Q (F0 m 3 ls [])) ?_ ?_ n9
    · intro a1 a3 a4 M H locs ls hl hw hF
      exact nomatch hF
    · intro rec3 hr3 a1 a3 a4 M H locs ls hl hw hF
      unfold f_X6_copies_3 at hF
      refine lv_iload hx hb dX6_copies_3 (lv_at hl 4 rfl) ?_
      refine lv_sipush (v := 156) hx hb dX6_copies_5 (by decide) ?_
      refine lv_icmp_ge (tgt := 29) hx hb dX6_copies_8 (by decide) (fun hc8 => ?_) (fun hc8 => ?_)
      · replace hF := st_t hc8 hF
        exact E _ _ _ _ _ dX6_copies_29 hw hF
      · replace hF := st_f hc8 hF
        refine lv_aload_n hx hb dX6_copies_11 rfl (lv_at hl 0 rfl) ?_
        refine lv_iload_n hx hb dX6_copies_12 rfl (lv_at hl 1 rfl) ?_
        refine lv_iload hx hb dX6_copies_13 (lv_at hl 4 rfl) ?_
        refine lv_iadd hx hb dX6_copies_15 ?_
        refine lv_aload_n hx hb dX6_copies_16 rfl (lv_at hl 2 rfl) ?_
        refine lv_iload_n hx hb dX6_copies_17 rfl (lv_at hl 3 rfl) ?_
        refine lv_iload hx hb dX6_copies_18 (lv_at hl 4 rfl) ?_
        refine lv_iadd hx hb dX6_copies_20 ?_
        obtain ⟨hi7, hF⟩ := st_chk hF
        refine g_iald fx hw hq3 hi7 dX6_copies_21 ?_
        obtain ⟨hi9, hF⟩ := st_chk hF
        obtain ⟨M8, eM8, hF⟩ := st_letM hF
        refine g_iast fx hw hq1 hi9 eM8 dX6_copies_22 (fun H locs hw => ?_)
        refine lv_iinc (v := (a4 + 1)) (lv' := [(4, .int (a4 + 1)), (0, .ref (ad q1)), (1, .int a1), (2, .ref (ad q3)), (3, .int a3)]) hx hb dX6_copies_23 hl (k := 4) rfl rfl (by decide) rfl (fun ls hl => ?_)
        refine lv_goto (tgt := 3) hx hb dX6_copies_26 (by decide) ?_
        exact hr3 a1 a3 (a4 + 1) M8 H locs ls (lv_sub hl [1, 2, 3, 4, 0] rfl) hw hF
  unfold f_X6_copies at hF
  refine lv_iconst (v := 0) hx hb dX6_copies_0 (by decide) ?_
  refine lv_istore (lv' := [(4, .int 0), (0, .ref (ad q1)), (1, .int p2), (2, .ref (ad q3)), (3, .int p4)]) hx hb dX6_copies_1 hl (by decide) rfl (fun ls hl => ?_)
  exact n_3 FU p2 p4 0 M H locs ls (lv_sub hl [1, 2, 3, 4, 0] rfl) hw hF
theorem c_X6_copies (l : Launch) (x : SX) (D : va_G) (cy : Nat → ClassId) (ad : Nat → Nat) (n1 q1 n3 q3 : Nat) (hq1 : isA q1 n1) (hq3 : isA q3 n3) (p2 p4 : Int32) (sz : Nat) (M : Mem) (M' : Mem) (hF : f_X6_copies n1 q1 n3 q3 p2 p4 M = some M') : Met l yX6_copies (.code yX6_copies cX6_copies 5 none :: GB) ({ frames := 0, cells := 0, slots := 0, locals := 0 } : Room) (PcW D cy ad x sz M [.ref (ad q1), .int p2, .ref (ad q3), .int p4]) (QvW D cy ad sz M') 0 0 (AA ad sz) := by
  refine mk_m (own := RX6) (by decide) rfl (Nat.le_of_ble_eq_true rfl) ?_
  intro p e s m args below meth c ls fx hw hl hsz
  subst hsz
  exact b_X6_copies fx ⟨Nat.le_refl _, Nat.le_refl _, Nat.le_refl _, Nat.le_refl _⟩ n1 q1 n3 q3 hq1 hq3 p2 p4 M M' hF (fun pc ls H locs M1 hd hw h => by cases h; exact g_vret fx hw hd) _ _ ls hl hw
noncomputable def f_X6_begins_2 (rec2 : Int32 → Mem → Option Mem) : Int32 → Mem → Option Mem := fun a1 M => (if 156 ≤ a1 then (letM (mput M 10 2 20) (fun M9 => (letM (mput M9 10 3 10) (fun M10 => (some M10))))) else (chk (inB a1 156) (letM (mput M 10 (ix a1) 0) (fun M11 => (rec2 (a1 + 1) M11)))))
noncomputable def f_X6_begins (M : Mem) : Option Mem := ((lp (fun _ _ => none) (f_X6_begins_2) FU) 0 M)
set_option maxHeartbeats 4000000 in
set_option maxRecDepth 100000 in
theorem b_X6_begins {p : Program} {l : Launch} {e : Env} {R : Room} {s : State} {m : MethodId} {args : Array Value} {below : List Frame} {meth : Method} {c : Code} {Q : State → Prop} {D : va_G} {cy : Nat → ClassId} {ad : Nat → Nat} {x : SX} (fx : FX p s m args meth c cX6_begins 2 none RX6 D cy ad x) (hR : 0 ≤ R.frames ∧ 0 ≤ R.locals ∧ 0 ≤ R.cells ∧ 0 ≤ R.slots) (M : Mem) (M' : Mem) (hF : f_X6_begins M = some M') (E : ∀ (pc : Nat) (ls : Array Slot) (H : Heap) (locs : List Loc) (M1 : Mem), decode cX6_begins pc = .ok (.return_, 1) → WD D cy ad s M1 H locs → some M1 = some M' → W p l e R s m args below meth c H locs 0 0 Q (F0 m pc ls [])) (H : Heap) (locs : List Loc) (ls : Array Slot) (hl : lv_has ls 2 [(0, .ref (ad 9))]) (hw : WD D cy ad s M H locs) : W p l e R s m args below meth c H locs 0 0 Q (F0 m 0 ls []) := by
  have hx := fx.1.1
  have hb := fx.1.2.1
  have hown := fx.1.2.2.2.1
  have hts := fx.1.2.2.2.2
  have n_2 : ∀ (n9 : Nat), ∀ (a1 : Int32) (M : Mem) (H : Heap) (locs : List Loc) (ls : Array Slot), lv_has ls 2 [(0, .ref (ad 9)), (1, .int a1)] → WD D cy ad s M H locs → (lp (fun _ _ => none) (f_X6_begins_2) n9) a1 M = some M' → W p l e R s m args below meth c H locs 0 0 Q (F0 m 2 ls []) := by
    intro n9
    refine lp_ind (fun (rec2 : Int32 → Mem → Option Mem) => ∀ (a1 : Int32) (M : Mem) (H : Heap) (locs : List Loc) (ls : Array Slot), lv_has ls 2 [(0, .ref (ad 9)), (1, .int a1)] → WD D cy ad s M H locs → rec2 a1 M = some M' → W p l e R s m args below meth c H locs 0 0 Q (F0 m 2 ls [])) ?_ ?_ n9
    · intro a1 M H locs ls hl hw hF
      exact nomatch hF
    · intro rec2 hr2 a1 M H locs ls hl hw hF
      unfold f_X6_begins_2 at hF
      refine lv_iload_n hx hb dX6_begins_2 rfl (lv_at hl 1 rfl) ?_
      refine lv_sipush (v := 156) hx hb dX6_begins_3 (by decide) ?_
      refine lv_icmp_ge (tgt := 22) hx hb dX6_begins_6 (by decide) (fun hc6 => ?_) (fun hc6 => ?_)
      · replace hF := st_t hc6 hF
        refine lv_aload_n hx hb dX6_begins_22 rfl (lv_at hl 0 rfl) ?_
        refine gX6_get fx hw isO_9 0 (by decide) wd5_19 rfl dX6_begins_23 ?_
        refine lv_iconst (v := 2) hx hb dX6_begins_26 (by decide) ?_
        refine lv_bipush (v := 20) hx hb dX6_begins_27 (by decide) ?_
        obtain ⟨M9, eM9, hF⟩ := st_letM hF
        refine g_iastc fx hw isA_10 (k := 2) rfl (by decide) eM9 dX6_begins_29 (fun H locs hw => ?_)
        refine lv_aload_n hx hb dX6_begins_30 rfl (lv_at hl 0 rfl) ?_
        refine gX6_get fx hw isO_9 0 (by decide) wd5_19 rfl dX6_begins_31 ?_
        refine lv_iconst (v := 3) hx hb dX6_begins_34 (by decide) ?_
        refine lv_bipush (v := 10) hx hb dX6_begins_35 (by decide) ?_
        obtain ⟨M10, eM10, hF⟩ := st_letM hF
        refine g_iastc fx hw isA_10 (k := 3) rfl (by decide) eM10 dX6_begins_37 (fun H locs hw => ?_)
        exact E _ _ _ _ _ dX6_begins_38 hw hF
      · replace hF := st_f hc6 hF
        refine lv_aload_n hx hb dX6_begins_9 rfl (lv_at hl 0 rfl) ?_
        refine gX6_get fx hw isO_9 0 (by decide) wd5_19 rfl dX6_begins_10 ?_
        refine lv_iload_n hx hb dX6_begins_13 rfl (lv_at hl 1 rfl) ?_
        refine lv_iconst (v := 0) hx hb dX6_begins_14 (by decide) ?_
        obtain ⟨hi12, hF⟩ := st_chk hF
        obtain ⟨M11, eM11, hF⟩ := st_letM hF
        refine g_iast fx hw isA_10 hi12 eM11 dX6_begins_15 (fun H locs hw => ?_)
        refine lv_iinc (v := (a1 + 1)) (lv' := [(1, .int (a1 + 1)), (0, .ref (ad 9))]) hx hb dX6_begins_16 hl (k := 1) rfl rfl (by decide) rfl (fun ls hl => ?_)
        refine lv_goto (tgt := 2) hx hb dX6_begins_19 (by decide) ?_
        exact hr2 (a1 + 1) M11 H locs ls (lv_sub hl [1, 0] rfl) hw hF
  unfold f_X6_begins at hF
  refine lv_iconst (v := 0) hx hb dX6_begins_0 (by decide) ?_
  refine lv_istore_n (lv' := [(1, .int 0), (0, .ref (ad 9))]) hx hb dX6_begins_1 rfl hl (by decide) rfl (fun ls hl => ?_)
  exact n_2 FU 0 M H locs ls (lv_sub hl [1, 0] rfl) hw hF
theorem c_X6_begins (l : Launch) (x : SX) (D : va_G) (cy : Nat → ClassId) (ad : Nat → Nat) (sz : Nat) (M : Mem) (M' : Mem) (hF : f_X6_begins M = some M') : Met l yX6_begins (.code yX6_begins cX6_begins 2 none :: GB) ({ frames := 0, cells := 0, slots := 0, locals := 0 } : Room) (PcW D cy ad x sz M [.ref (ad 9)]) (QvW D cy ad sz M') 0 0 (AA ad sz) := by
  refine mk_m (own := RX6) (by decide) rfl (Nat.le_of_ble_eq_true rfl) ?_
  intro p e s m args below meth c ls fx hw hl hsz
  subst hsz
  exact b_X6_begins fx ⟨Nat.le_refl _, Nat.le_refl _, Nat.le_refl _, Nat.le_refl _⟩ M M' hF (fun pc ls H locs M1 hd hw h => by cases h; exact g_vret fx hw hd) _ _ ls hl hw
noncomputable def f_X6_keeps_50 (q1 : Nat) : Mem → Option Mem := fun M => (bnd (f_X6_copies 1248 12 156 q1 (156 * (M 9 5)) 0 M) (fun M16 => (letM (mput M16 9 5 ((M16 9 5) + 1)) (fun M17 => (some M17)))))
noncomputable def f_X6_keeps_11 (q1 : Nat) (rec11 : Int32 → Mem → Option Mem) : Int32 → Mem → Option Mem := fun a2 M => (if 1092 ≤ a2 then (letM (mput M 9 5 ((M 9 5) - 1)) (fun M18 => ((f_X6_keeps_50 q1) M18))) else (chk (inB (a2 + 156) 1248) (chk (inB a2 1248) (letM (mput M 12 (ix a2) (M 12 (ix (a2 + 156)))) (fun M20 => (rec11 (a2 + 1) M20))))))
noncomputable def f_X6_keeps (q1 : Nat) (M : Mem) : Option Mem := (if (M 9 5) = 8 then ((lp (fun _ _ => none) (f_X6_keeps_11 q1) FU) 0 M) else ((f_X6_keeps_50 q1) M))
set_option maxHeartbeats 4000000 in
set_option maxRecDepth 100000 in
theorem b_X6_keeps {p : Program} {l : Launch} {e : Env} {R : Room} {s : State} {m : MethodId} {args : Array Value} {below : List Frame} {meth : Method} {c : Code} {Q : State → Prop} {D : va_G} {cy : Nat → ClassId} {ad : Nat → Nat} {x : SX} (fx : FX p s m args meth c cX6_keeps 3 none RX6 D cy ad x) (hR : 1 ≤ R.frames ∧ 24 ≤ R.locals ∧ 0 ≤ R.cells ∧ 0 ≤ R.slots) (q1 : Nat) (hq1 : isA q1 156) (M : Mem) (M' : Mem) (hF : f_X6_keeps q1 M = some M') (E : ∀ (pc : Nat) (ls : Array Slot) (H : Heap) (locs : List Loc) (M1 : Mem), decode cX6_keeps pc = .ok (.return_, 1) → WD D cy ad s M1 H locs → some M1 = some M' → W p l e R s m args below meth c H locs 0 0 Q (F0 m pc ls [])) (H : Heap) (locs : List Loc) (ls : Array Slot) (hl : lv_has ls 3 [(0, .ref (ad 9)), (1, .ref (ad q1))]) (hw : WD D cy ad s M H locs) : W p l e R s m args below meth c H locs 0 0 Q (F0 m 0 ls []) := by
  have hx := fx.1.1
  have hb := fx.1.2.1
  have hown := fx.1.2.2.2.1
  have hts := fx.1.2.2.2.2
  have n_50 : ∀ (M : Mem) (H : Heap) (locs : List Loc) (ls : Array Slot), lv_has ls 3 [(0, .ref (ad 9)), (1, .ref (ad q1))] → WD D cy ad s M H locs → f_X6_keeps_50 q1 M = some M' → W p l e R s m args below meth c H locs 0 0 Q (F0 m 50 ls []) := by
    intro M H locs ls hl hw hF
    unfold f_X6_keeps_50 at hF
    refine lv_aload_n hx hb dX6_keeps_50 rfl (lv_at hl 0 rfl) ?_
    refine gX6_get fx hw isO_9 2 (by decide) wd5_21 rfl dX6_keeps_51 ?_
    refine lv_sipush (v := 156) hx hb dX6_keeps_54 (by decide) ?_
    refine lv_aload_n hx hb dX6_keeps_57 rfl (lv_at hl 0 rfl) ?_
    refine gX6_get fx hw isO_9 5 (by decide) wd5_24 rfl dX6_keeps_58 ?_
    refine lv_imul hx hb dX6_keeps_61 ?_
    refine lv_aload_n hx hb dX6_keeps_62 rfl (lv_at hl 1 rfl) ?_
    refine lv_iconst (v := 0) hx hb dX6_keeps_63 (by decide) ?_
    obtain ⟨M16, hgr15, hF⟩ := st_bnd hF
    refine g_cv hw (g_runS (As := [.ref (ad 12), .int (156 * (M 9 5)), .ref (ad q1), .int 0]) (rest := []) fx hw (c_X6_copies l x D cy ad 1248 12 156 q1 isA_12 hq1 (156 * (M 9 5)) 0 H.size M M16 hgr15) wd5_85 wd5_86 wd1_8 wd5_87 yd_X6_copies rfl rfl (Nat.le_of_ble_eq_true rfl) hl.1 ⟨Nat.le_trans (Nat.le_of_ble_eq_true rfl) hR.1, Nat.le_trans (Nat.le_of_ble_eq_true rfl) hR.2.1⟩ ⟨Nat.le_trans (Nat.le_of_ble_eq_true rfl) hR.2.2.1, Nat.le_trans (Nat.le_of_ble_eq_true rfl) hR.2.2.2⟩ dX6_keeps_64) (fun H locs hw => ?_)
    refine lv_aload_n hx hb dX6_keeps_67 rfl (lv_at hl 0 rfl) ?_
    refine lv_dup hx hb dX6_keeps_68 rfl ?_
    refine gX6_get fx hw isO_9 5 (by decide) wd5_24 rfl dX6_keeps_69 ?_
    refine lv_iconst (v := 1) hx hb dX6_keeps_72 (by decide) ?_
    refine lv_iadd hx hb dX6_keeps_73 ?_
    obtain ⟨M17, eM17, hF⟩ := st_letM hF
    refine gX6_put fx hw isO_9 5 (by decide) wd5_24 rfl eM17 rfl (Nat.le_of_ble_eq_true rfl) dX6_keeps_74 (fun H locs hw => ?_)
    exact E _ _ _ _ _ dX6_keeps_77 hw hF
  have n_11 : ∀ (n9 : Nat), ∀ (a2 : Int32) (M : Mem) (H : Heap) (locs : List Loc) (ls : Array Slot), lv_has ls 3 [(0, .ref (ad 9)), (1, .ref (ad q1)), (2, .int a2)] → WD D cy ad s M H locs → (lp (fun _ _ => none) (f_X6_keeps_11 q1) n9) a2 M = some M' → W p l e R s m args below meth c H locs 0 0 Q (F0 m 11 ls []) := by
    intro n9
    refine lp_ind (fun (rec11 : Int32 → Mem → Option Mem) => ∀ (a2 : Int32) (M : Mem) (H : Heap) (locs : List Loc) (ls : Array Slot), lv_has ls 3 [(0, .ref (ad 9)), (1, .ref (ad q1)), (2, .int a2)] → WD D cy ad s M H locs → rec11 a2 M = some M' → W p l e R s m args below meth c H locs 0 0 Q (F0 m 11 ls [])) ?_ ?_ n9
    · intro a2 M H locs ls hl hw hF
      exact nomatch hF
    · intro rec11 hr11 a2 M H locs ls hl hw hF
      unfold f_X6_keeps_11 at hF
      refine lv_iload_n hx hb dX6_keeps_11 rfl (lv_at hl 2 rfl) ?_
      refine lv_sipush (v := 1092) hx hb dX6_keeps_12 (by decide) ?_
      refine lv_icmp_ge (tgt := 40) hx hb dX6_keeps_15 (by decide) (fun hc15 => ?_) (fun hc15 => ?_)
      · replace hF := st_t hc15 hF
        refine lv_aload_n hx hb dX6_keeps_40 rfl (lv_at hl 0 rfl) ?_
        refine lv_dup hx hb dX6_keeps_41 rfl ?_
        refine gX6_get fx hw isO_9 5 (by decide) wd5_24 rfl dX6_keeps_42 ?_
        refine lv_iconst (v := 1) hx hb dX6_keeps_45 (by decide) ?_
        refine lv_isub hx hb dX6_keeps_46 ?_
        obtain ⟨M18, eM18, hF⟩ := st_letM hF
        refine gX6_put fx hw isO_9 5 (by decide) wd5_24 rfl eM18 rfl (Nat.le_of_ble_eq_true rfl) dX6_keeps_47 (fun H locs hw => ?_)
        exact n_50 M18 H locs ls (lv_sub hl [0, 1] rfl) hw hF
      · replace hF := st_f hc15 hF
        refine lv_aload_n hx hb dX6_keeps_18 rfl (lv_at hl 0 rfl) ?_
        refine gX6_get fx hw isO_9 2 (by decide) wd5_21 rfl dX6_keeps_19 ?_
        refine lv_iload_n hx hb dX6_keeps_22 rfl (lv_at hl 2 rfl) ?_
        refine lv_aload_n hx hb dX6_keeps_23 rfl (lv_at hl 0 rfl) ?_
        refine gX6_get fx hw isO_9 2 (by decide) wd5_21 rfl dX6_keeps_24 ?_
        refine lv_iload_n hx hb dX6_keeps_27 rfl (lv_at hl 2 rfl) ?_
        refine lv_sipush (v := 156) hx hb dX6_keeps_28 (by decide) ?_
        refine lv_iadd hx hb dX6_keeps_31 ?_
        obtain ⟨hi19, hF⟩ := st_chk hF
        refine g_iald fx hw isA_12 hi19 dX6_keeps_32 ?_
        obtain ⟨hi21, hF⟩ := st_chk hF
        obtain ⟨M20, eM20, hF⟩ := st_letM hF
        refine g_iast fx hw isA_12 hi21 eM20 dX6_keeps_33 (fun H locs hw => ?_)
        refine lv_iinc (v := (a2 + 1)) (lv' := [(2, .int (a2 + 1)), (0, .ref (ad 9)), (1, .ref (ad q1))]) hx hb dX6_keeps_34 hl (k := 2) rfl rfl (by decide) rfl (fun ls hl => ?_)
        refine lv_goto (tgt := 11) hx hb dX6_keeps_37 (by decide) ?_
        exact hr11 (a2 + 1) M20 H locs ls (lv_sub hl [1, 2, 0] rfl) hw hF
  unfold f_X6_keeps at hF
  refine lv_aload_n hx hb dX6_keeps_0 rfl (lv_at hl 0 rfl) ?_
  refine gX6_get fx hw isO_9 5 (by decide) wd5_24 rfl dX6_keeps_1 ?_
  refine lv_bipush (v := 8) hx hb dX6_keeps_4 (by decide) ?_
  refine lv_icmp_ne (tgt := 50) hx hb dX6_keeps_6 (by decide) (fun hc6 => ?_) (fun hc6 => ?_)
  · replace hF := st_f hc6 hF
    exact n_50 M H locs ls (lv_sub hl [0, 1] rfl) hw hF
  · replace hF := st_t hc6 hF
    refine lv_iconst (v := 0) hx hb dX6_keeps_9 (by decide) ?_
    refine lv_istore_n (lv' := [(2, .int 0), (0, .ref (ad 9)), (1, .ref (ad q1))]) hx hb dX6_keeps_10 rfl hl (by decide) rfl (fun ls hl => ?_)
    exact n_11 FU 0 M H locs ls (lv_sub hl [1, 2, 0] rfl) hw hF
theorem c_X6_keeps (l : Launch) (x : SX) (D : va_G) (cy : Nat → ClassId) (ad : Nat → Nat) (q1 : Nat) (hq1 : isA q1 156) (sz : Nat) (M : Mem) (M' : Mem) (hF : f_X6_keeps q1 M = some M') : Met l yX6_keeps (.code yX6_keeps cX6_keeps 3 none :: GB) ({ frames := 1, cells := 0, slots := 0, locals := 24 } : Room) (PcW D cy ad x sz M [.ref (ad 9), .ref (ad q1)]) (QvW D cy ad sz M') 0 0 (AA ad sz) := by
  refine mk_m (own := RX6) (by decide) rfl (Nat.le_of_ble_eq_true rfl) ?_
  intro p e s m args below meth c ls fx hw hl hsz
  subst hsz
  exact b_X6_keeps fx ⟨Nat.le_refl _, Nat.le_refl _, Nat.le_refl _, Nat.le_refl _⟩ q1 hq1 M M' hF (fun pc ls H locs M1 hd hw h => by cases h; exact g_vret fx hw hd) _ _ ls hl hw
noncomputable def f_X6_undo_13 : Int32 → Mem → Option (Int32 × Mem) := fun t1 M => (letM (mput M 9 6 t1) (fun M9 => (if (M9 9 6) ≤ 0 then (letM (mput M9 9 5 ((M9 9 5) - 1)) (fun M10 => (bnd (f_X6_copies 156 10 1248 12 0 (156 * (M10 9 5)) M10) (fun M12 => (some ((M12 9 5), M12)))))) else (some (0, M9)))))
noncomputable def f_X6_undo (M : Mem) : Option (Int32 × Mem) := (if (M 9 5) = 0 then ((f_X6_undo_13) 1 M) else ((f_X6_undo_13) 0 M))
set_option maxHeartbeats 4000000 in
set_option maxRecDepth 100000 in
theorem b_X6_undo {p : Program} {l : Launch} {e : Env} {R : Room} {s : State} {m : MethodId} {args : Array Value} {below : List Frame} {meth : Method} {c : Code} {Q : State → Prop} {D : va_G} {cy : Nat → ClassId} {ad : Nat → Nat} {x : SX} (fx : FX p s m args meth c cX6_undo 1 (some .int) RX6 D cy ad x) (hR : 1 ≤ R.frames ∧ 24 ≤ R.locals ∧ 0 ≤ R.cells ∧ 0 ≤ R.slots) (M : Mem) (z : Int32) (M' : Mem) (hF : f_X6_undo M = some (z, M')) (E : ∀ (pc : Nat) (ls : Array Slot) (H : Heap) (locs : List Loc) (v : Int32) (M1 : Mem), decode cX6_undo pc = .ok (.ireturn, 1) → WD D cy ad s M1 H locs → some (v, M1) = some (z, M') → W p l e R s m args below meth c H locs 0 0 Q (F0 m pc ls [.int v])) (H : Heap) (locs : List Loc) (ls : Array Slot) (hl : lv_has ls 1 [(0, .ref (ad 9))]) (hw : WD D cy ad s M H locs) : W p l e R s m args below meth c H locs 0 0 Q (F0 m 0 ls []) := by
  have hx := fx.1.1
  have hb := fx.1.2.1
  have hown := fx.1.2.2.2.1
  have hts := fx.1.2.2.2.2
  have n_13 : ∀ (t1 : Int32) (M : Mem) (H : Heap) (locs : List Loc) (ls : Array Slot), lv_has ls 1 [(0, .ref (ad 9))] → WD D cy ad s M H locs → f_X6_undo_13 t1 M = some (z, M') → W p l e R s m args below meth c H locs 0 0 Q (F0 m 13 ls [.int t1, .ref (ad 9)]) := by
    intro t1 M H locs ls hl hw hF
    unfold f_X6_undo_13 at hF
    obtain ⟨M9, eM9, hF⟩ := st_letM hF
    refine gX6_put fx hw isO_9 6 (by decide) wd5_25 rfl eM9 rfl (Nat.le_of_ble_eq_true rfl) dX6_undo_13 (fun H locs hw => ?_)
    refine lv_aload_n hx hb dX6_undo_16 rfl (lv_at hl 0 rfl) ?_
    refine gX6_get fx hw isO_9 6 (by decide) wd5_25 rfl dX6_undo_17 ?_
    refine lv_if_le (tgt := 25) hx hb dX6_undo_20 (by decide) (fun hc20 => ?_) (fun hc20 => ?_)
    · replace hF := st_t hc20 hF
      refine lv_aload_n hx hb dX6_undo_25 rfl (lv_at hl 0 rfl) ?_
      refine lv_dup hx hb dX6_undo_26 rfl ?_
      refine gX6_get fx hw isO_9 5 (by decide) wd5_24 rfl dX6_undo_27 ?_
      refine lv_iconst (v := 1) hx hb dX6_undo_30 (by decide) ?_
      refine lv_isub hx hb dX6_undo_31 ?_
      obtain ⟨M10, eM10, hF⟩ := st_letM hF
      refine gX6_put fx hw isO_9 5 (by decide) wd5_24 rfl eM10 rfl (Nat.le_of_ble_eq_true rfl) dX6_undo_32 (fun H locs hw => ?_)
      refine lv_aload_n hx hb dX6_undo_35 rfl (lv_at hl 0 rfl) ?_
      refine gX6_get fx hw isO_9 0 (by decide) wd5_19 rfl dX6_undo_36 ?_
      refine lv_iconst (v := 0) hx hb dX6_undo_39 (by decide) ?_
      refine lv_aload_n hx hb dX6_undo_40 rfl (lv_at hl 0 rfl) ?_
      refine gX6_get fx hw isO_9 2 (by decide) wd5_21 rfl dX6_undo_41 ?_
      refine lv_sipush (v := 156) hx hb dX6_undo_44 (by decide) ?_
      refine lv_aload_n hx hb dX6_undo_47 rfl (lv_at hl 0 rfl) ?_
      refine gX6_get fx hw isO_9 5 (by decide) wd5_24 rfl dX6_undo_48 ?_
      refine lv_imul hx hb dX6_undo_51 ?_
      obtain ⟨M12, hgr11, hF⟩ := st_bnd hF
      refine g_cv hw (g_runS (As := [.ref (ad 10), .int 0, .ref (ad 12), .int (156 * (M10 9 5))]) (rest := []) fx hw (c_X6_copies l x D cy ad 156 10 1248 12 isA_10 isA_12 0 (156 * (M10 9 5)) H.size M10 M12 hgr11) wd5_85 wd5_86 wd1_8 wd5_87 yd_X6_copies rfl rfl (Nat.le_of_ble_eq_true rfl) hl.1 ⟨Nat.le_trans (Nat.le_of_ble_eq_true rfl) hR.1, Nat.le_trans (Nat.le_of_ble_eq_true rfl) hR.2.1⟩ ⟨Nat.le_trans (Nat.le_of_ble_eq_true rfl) hR.2.2.1, Nat.le_trans (Nat.le_of_ble_eq_true rfl) hR.2.2.2⟩ dX6_undo_52) (fun H locs hw => ?_)
      refine lv_aload_n hx hb dX6_undo_55 rfl (lv_at hl 0 rfl) ?_
      refine gX6_get fx hw isO_9 5 (by decide) wd5_24 rfl dX6_undo_56 ?_
      exact E _ _ _ _ _ _ dX6_undo_59 hw hF
    · replace hF := st_f hc20 hF
      refine lv_iconst (v := 0) hx hb dX6_undo_23 (by decide) ?_
      exact E _ _ _ _ _ _ dX6_undo_24 hw hF
  unfold f_X6_undo at hF
  refine lv_aload_n hx hb dX6_undo_0 rfl (lv_at hl 0 rfl) ?_
  refine lv_aload_n hx hb dX6_undo_1 rfl (lv_at hl 0 rfl) ?_
  refine gX6_get fx hw isO_9 5 (by decide) wd5_24 rfl dX6_undo_2 ?_
  refine lv_if_ne (tgt := 12) hx hb dX6_undo_5 (by decide) (fun hc5 => ?_) (fun hc5 => ?_)
  · replace hF := st_f hc5 hF
    refine lv_iconst (v := 0) hx hb dX6_undo_12 (by decide) ?_
    exact n_13 0 M H locs ls (lv_sub hl [0] rfl) hw hF
  · replace hF := st_t hc5 hF
    refine lv_iconst (v := 1) hx hb dX6_undo_8 (by decide) ?_
    refine lv_goto (tgt := 13) hx hb dX6_undo_9 (by decide) ?_
    exact n_13 1 M H locs ls (lv_sub hl [0] rfl) hw hF
theorem c_X6_undo (l : Launch) (x : SX) (D : va_G) (cy : Nat → ClassId) (ad : Nat → Nat) (sz : Nat) (M : Mem) (z : Int32) (M' : Mem) (hF : f_X6_undo M = some (z, M')) : Met l yX6_undo (.code yX6_undo cX6_undo 1 (some .int) :: GB) ({ frames := 1, cells := 0, slots := 0, locals := 24 } : Room) (PcW D cy ad x sz M [.ref (ad 9)]) (QiW D cy ad sz z M') 0 0 (AA ad sz) := by
  refine mk_m (own := RX6) (by decide) rfl (Nat.le_of_ble_eq_true rfl) ?_
  intro p e s m args below meth c ls fx hw hl hsz
  subst hsz
  exact b_X6_undo fx ⟨Nat.le_refl _, Nat.le_refl _, Nat.le_refl _, Nat.le_refl _⟩ M z M' hF (fun pc ls H locs v M1 hd hw h => by cases h; exact g_iret fx hw rfl hd) _ _ ls hl hw
noncomputable def f_X6_save_15 : Int32 → Int32 → Mem → Option Mem := fun a1 t1 M => (letM (mput M 9 6 t1) (fun M13 => (if (M13 9 6) ≤ 0 then (bnd (f_X6_copies 312 13 156 10 (156 * a1) 0 M13) (fun M15 => (chk (inB a1 2) (letM (mput M15 14 (ix a1) 1) (fun M16 => (some M16)))))) else (some M13))))
noncomputable def f_X6_save (p1 : Int32) (M : Mem) : Option Mem := (bnd (f_X6_isIn p1 0 1 M) (fun r18 => (if r18 = 0 then ((f_X6_save_15) p1 1 M) else ((f_X6_save_15) p1 0 M))))
set_option maxHeartbeats 4000000 in
set_option maxRecDepth 100000 in
theorem b_X6_save {p : Program} {l : Launch} {e : Env} {R : Room} {s : State} {m : MethodId} {args : Array Value} {below : List Frame} {meth : Method} {c : Code} {Q : State → Prop} {D : va_G} {cy : Nat → ClassId} {ad : Nat → Nat} {x : SX} (fx : FX p s m args meth c cX6_save 2 none RX6 D cy ad x) (hR : 1 ≤ R.frames ∧ 24 ≤ R.locals ∧ 0 ≤ R.cells ∧ 0 ≤ R.slots) (p1 : Int32) (M : Mem) (M' : Mem) (hF : f_X6_save p1 M = some M') (E : ∀ (pc : Nat) (ls : Array Slot) (H : Heap) (locs : List Loc) (M1 : Mem), decode cX6_save pc = .ok (.return_, 1) → WD D cy ad s M1 H locs → some M1 = some M' → W p l e R s m args below meth c H locs 0 0 Q (F0 m pc ls [])) (H : Heap) (locs : List Loc) (ls : Array Slot) (hl : lv_has ls 2 [(0, .ref (ad 9)), (1, .int p1)]) (hw : WD D cy ad s M H locs) : W p l e R s m args below meth c H locs 0 0 Q (F0 m 0 ls []) := by
  have hx := fx.1.1
  have hb := fx.1.2.1
  have hown := fx.1.2.2.2.1
  have hts := fx.1.2.2.2.2
  have n_15 : ∀ (a1 : Int32) (t1 : Int32) (M : Mem) (H : Heap) (locs : List Loc) (ls : Array Slot), lv_has ls 2 [(0, .ref (ad 9)), (1, .int a1)] → WD D cy ad s M H locs → f_X6_save_15 a1 t1 M = some M' → W p l e R s m args below meth c H locs 0 0 Q (F0 m 15 ls [.int t1, .ref (ad 9)]) := by
    intro a1 t1 M H locs ls hl hw hF
    unfold f_X6_save_15 at hF
    obtain ⟨M13, eM13, hF⟩ := st_letM hF
    refine gX6_put fx hw isO_9 6 (by decide) wd5_25 rfl eM13 rfl (Nat.le_of_ble_eq_true rfl) dX6_save_15 (fun H locs hw => ?_)
    refine lv_aload_n hx hb dX6_save_18 rfl (lv_at hl 0 rfl) ?_
    refine gX6_get fx hw isO_9 6 (by decide) wd5_25 rfl dX6_save_19 ?_
    refine lv_if_le (tgt := 26) hx hb dX6_save_22 (by decide) (fun hc22 => ?_) (fun hc22 => ?_)
    · replace hF := st_t hc22 hF
      refine lv_aload_n hx hb dX6_save_26 rfl (lv_at hl 0 rfl) ?_
      refine gX6_get fx hw isO_9 3 (by decide) wd5_22 rfl dX6_save_27 ?_
      refine lv_sipush (v := 156) hx hb dX6_save_30 (by decide) ?_
      refine lv_iload_n hx hb dX6_save_33 rfl (lv_at hl 1 rfl) ?_
      refine lv_imul hx hb dX6_save_34 ?_
      refine lv_aload_n hx hb dX6_save_35 rfl (lv_at hl 0 rfl) ?_
      refine gX6_get fx hw isO_9 0 (by decide) wd5_19 rfl dX6_save_36 ?_
      refine lv_iconst (v := 0) hx hb dX6_save_39 (by decide) ?_
      obtain ⟨M15, hgr14, hF⟩ := st_bnd hF
      refine g_cv hw (g_runS (As := [.ref (ad 13), .int (156 * a1), .ref (ad 10), .int 0]) (rest := []) fx hw (c_X6_copies l x D cy ad 312 13 156 10 isA_13 isA_10 (156 * a1) 0 H.size M13 M15 hgr14) wd5_85 wd5_86 wd1_8 wd5_87 yd_X6_copies rfl rfl (Nat.le_of_ble_eq_true rfl) hl.1 ⟨Nat.le_trans (Nat.le_of_ble_eq_true rfl) hR.1, Nat.le_trans (Nat.le_of_ble_eq_true rfl) hR.2.1⟩ ⟨Nat.le_trans (Nat.le_of_ble_eq_true rfl) hR.2.2.1, Nat.le_trans (Nat.le_of_ble_eq_true rfl) hR.2.2.2⟩ dX6_save_40) (fun H locs hw => ?_)
      refine lv_aload_n hx hb dX6_save_43 rfl (lv_at hl 0 rfl) ?_
      refine gX6_get fx hw isO_9 4 (by decide) wd5_23 rfl dX6_save_44 ?_
      refine lv_iload_n hx hb dX6_save_47 rfl (lv_at hl 1 rfl) ?_
      refine lv_iconst (v := 1) hx hb dX6_save_48 (by decide) ?_
      obtain ⟨hi17, hF⟩ := st_chk hF
      obtain ⟨M16, eM16, hF⟩ := st_letM hF
      refine g_zast fx hw isZ_14 hi17 rfl eM16 dX6_save_49 (fun H locs hw => ?_)
      exact E _ _ _ _ _ dX6_save_50 hw hF
    · replace hF := st_f hc22 hF
      exact E _ _ _ _ _ dX6_save_25 hw hF
  unfold f_X6_save at hF
  refine lv_aload_n hx hb dX6_save_0 rfl (lv_at hl 0 rfl) ?_
  refine lv_iload_n hx hb dX6_save_1 rfl (lv_at hl 1 rfl) ?_
  refine lv_iconst (v := 0) hx hb dX6_save_2 (by decide) ?_
  refine lv_iconst (v := 1) hx hb dX6_save_3 (by decide) ?_
  obtain ⟨r18, hgr18, hF⟩ := st_bnd hF
  refine g_cz hw (g_runS (As := [.int p1, .int 0, .int 1]) (rest := [.ref (ad 9)]) fx hw (c_X6_isIn l x D cy ad p1 0 1 H.size M r18 hgr18) wd5_92 wd5_93 wd1_8 wd5_94 yd_X6_isIn rfl rfl (Nat.le_of_ble_eq_true rfl) hl.1 ⟨Nat.le_trans (Nat.le_of_ble_eq_true rfl) hR.1, Nat.le_trans (Nat.le_of_ble_eq_true rfl) hR.2.1⟩ ⟨Nat.le_trans (Nat.le_of_ble_eq_true rfl) hR.2.2.1, Nat.le_trans (Nat.le_of_ble_eq_true rfl) hR.2.2.2⟩ dX6_save_4) (fun H locs hbr18 hw => ?_)
  refine lv_if_eq (tgt := 14) hx hb dX6_save_7 (by decide) (fun hc7 => ?_) (fun hc7 => ?_)
  · replace hF := st_t hc7 hF
    refine lv_iconst (v := 1) hx hb dX6_save_14 (by decide) ?_
    exact n_15 p1 1 M H locs ls (lv_sub hl [0, 1] rfl) hw hF
  · replace hF := st_f hc7 hF
    refine lv_iconst (v := 0) hx hb dX6_save_10 (by decide) ?_
    refine lv_goto (tgt := 15) hx hb dX6_save_11 (by decide) ?_
    exact n_15 p1 0 M H locs ls (lv_sub hl [0, 1] rfl) hw hF
theorem c_X6_save (l : Launch) (x : SX) (D : va_G) (cy : Nat → ClassId) (ad : Nat → Nat) (p1 : Int32) (sz : Nat) (M : Mem) (M' : Mem) (hF : f_X6_save p1 M = some M') : Met l yX6_save (.code yX6_save cX6_save 2 none :: GB) ({ frames := 1, cells := 0, slots := 0, locals := 24 } : Room) (PcW D cy ad x sz M [.ref (ad 9), .int p1]) (QvW D cy ad sz M') 0 0 (AA ad sz) := by
  refine mk_m (own := RX6) (by decide) rfl (Nat.le_of_ble_eq_true rfl) ?_
  intro p e s m args below meth c ls fx hw hl hsz
  subst hsz
  exact b_X6_save fx ⟨Nat.le_refl _, Nat.le_refl _, Nat.le_refl _, Nat.le_refl _⟩ p1 M M' hF (fun pc ls H locs M1 hd hw h => by cases h; exact g_vret fx hw hd) _ _ ls hl hw
noncomputable def f_X6_restore_28 : Int32 → Int32 → Mem → Option (Int32 × Mem) := fun a1 t1 M => (letM (mput M 9 6 t1) (fun M15 => (if (M15 9 6) ≤ 0 then (bnd (f_X6_keeps 10 M15) (fun M17 => (bnd (f_X6_copies 156 10 312 13 0 (156 * a1) M17) (fun M19 => (some ((M19 10 4), M19)))))) else (some (0, M15)))))
noncomputable def f_X6_restore (p1 : Int32) (M : Mem) : Option (Int32 × Mem) := (bnd (f_X6_isIn p1 0 1 M) (fun r20 => (if r20 = 0 then ((f_X6_restore_28) p1 1 M) else (chk (inB p1 2) (if (M 14 (ix p1)) = 0 then ((f_X6_restore_28) p1 2 M) else ((f_X6_restore_28) p1 0 M))))))
set_option maxHeartbeats 4000000 in
set_option maxRecDepth 100000 in
theorem b_X6_restore {p : Program} {l : Launch} {e : Env} {R : Room} {s : State} {m : MethodId} {args : Array Value} {below : List Frame} {meth : Method} {c : Code} {Q : State → Prop} {D : va_G} {cy : Nat → ClassId} {ad : Nat → Nat} {x : SX} (fx : FX p s m args meth c cX6_restore 2 (some .int) RX6 D cy ad x) (hR : 2 ≤ R.frames ∧ 46 ≤ R.locals ∧ 0 ≤ R.cells ∧ 0 ≤ R.slots) (p1 : Int32) (M : Mem) (z : Int32) (M' : Mem) (hF : f_X6_restore p1 M = some (z, M')) (E : ∀ (pc : Nat) (ls : Array Slot) (H : Heap) (locs : List Loc) (v : Int32) (M1 : Mem), decode cX6_restore pc = .ok (.ireturn, 1) → WD D cy ad s M1 H locs → some (v, M1) = some (z, M') → W p l e R s m args below meth c H locs 0 0 Q (F0 m pc ls [.int v])) (H : Heap) (locs : List Loc) (ls : Array Slot) (hl : lv_has ls 2 [(0, .ref (ad 9)), (1, .int p1)]) (hw : WD D cy ad s M H locs) : W p l e R s m args below meth c H locs 0 0 Q (F0 m 0 ls []) := by
  have hx := fx.1.1
  have hb := fx.1.2.1
  have hown := fx.1.2.2.2.1
  have hts := fx.1.2.2.2.2
  have n_28 : ∀ (a1 : Int32) (t1 : Int32) (M : Mem) (H : Heap) (locs : List Loc) (ls : Array Slot), lv_has ls 2 [(0, .ref (ad 9)), (1, .int a1)] → WD D cy ad s M H locs → f_X6_restore_28 a1 t1 M = some (z, M') → W p l e R s m args below meth c H locs 0 0 Q (F0 m 28 ls [.int t1, .ref (ad 9)]) := by
    intro a1 t1 M H locs ls hl hw hF
    unfold f_X6_restore_28 at hF
    obtain ⟨M15, eM15, hF⟩ := st_letM hF
    refine gX6_put fx hw isO_9 6 (by decide) wd5_25 rfl eM15 rfl (Nat.le_of_ble_eq_true rfl) dX6_restore_28 (fun H locs hw => ?_)
    refine lv_aload_n hx hb dX6_restore_31 rfl (lv_at hl 0 rfl) ?_
    refine gX6_get fx hw isO_9 6 (by decide) wd5_25 rfl dX6_restore_32 ?_
    refine lv_if_le (tgt := 40) hx hb dX6_restore_35 (by decide) (fun hc35 => ?_) (fun hc35 => ?_)
    · replace hF := st_t hc35 hF
      refine lv_aload_n hx hb dX6_restore_40 rfl (lv_at hl 0 rfl) ?_
      refine lv_aload_n hx hb dX6_restore_41 rfl (lv_at hl 0 rfl) ?_
      refine gX6_get fx hw isO_9 0 (by decide) wd5_19 rfl dX6_restore_42 ?_
      obtain ⟨M17, hgr16, hF⟩ := st_bnd hF
      refine g_cv hw (g_runV (C := RX6) (As := [.ref (ad 10)]) (rest := []) fx hw isO_9 rfl (c_X6_keeps l x D cy ad 10 isA_10 H.size M15 M17 hgr16) wd5_99 wd5_101 wd0_42 wd1_8 wd5_102 yd_X6_keeps rfl rfl (Nat.le_of_ble_eq_true rfl) hl.1 ⟨Nat.le_trans (Nat.le_of_ble_eq_true rfl) hR.1, Nat.le_trans (Nat.le_of_ble_eq_true rfl) hR.2.1⟩ ⟨Nat.le_trans (Nat.le_of_ble_eq_true rfl) hR.2.2.1, Nat.le_trans (Nat.le_of_ble_eq_true rfl) hR.2.2.2⟩ dX6_restore_45) (fun H locs hw => ?_)
      refine lv_aload_n hx hb dX6_restore_48 rfl (lv_at hl 0 rfl) ?_
      refine gX6_get fx hw isO_9 0 (by decide) wd5_19 rfl dX6_restore_49 ?_
      refine lv_iconst (v := 0) hx hb dX6_restore_52 (by decide) ?_
      refine lv_aload_n hx hb dX6_restore_53 rfl (lv_at hl 0 rfl) ?_
      refine gX6_get fx hw isO_9 3 (by decide) wd5_22 rfl dX6_restore_54 ?_
      refine lv_sipush (v := 156) hx hb dX6_restore_57 (by decide) ?_
      refine lv_iload_n hx hb dX6_restore_60 rfl (lv_at hl 1 rfl) ?_
      refine lv_imul hx hb dX6_restore_61 ?_
      obtain ⟨M19, hgr18, hF⟩ := st_bnd hF
      refine g_cv hw (g_runS (As := [.ref (ad 10), .int 0, .ref (ad 13), .int (156 * a1)]) (rest := []) fx hw (c_X6_copies l x D cy ad 156 10 312 13 isA_10 isA_13 0 (156 * a1) H.size M17 M19 hgr18) wd5_85 wd5_86 wd1_8 wd5_87 yd_X6_copies rfl rfl (Nat.le_of_ble_eq_true rfl) hl.1 ⟨Nat.le_trans (Nat.le_of_ble_eq_true rfl) hR.1, Nat.le_trans (Nat.le_of_ble_eq_true rfl) hR.2.1⟩ ⟨Nat.le_trans (Nat.le_of_ble_eq_true rfl) hR.2.2.1, Nat.le_trans (Nat.le_of_ble_eq_true rfl) hR.2.2.2⟩ dX6_restore_62) (fun H locs hw => ?_)
      refine lv_aload_n hx hb dX6_restore_65 rfl (lv_at hl 0 rfl) ?_
      refine gX6_get fx hw isO_9 0 (by decide) wd5_19 rfl dX6_restore_66 ?_
      refine lv_iconst (v := 4) hx hb dX6_restore_69 (by decide) ?_
      refine g_ialdc fx hw isA_10 (k := 4) rfl (by decide) dX6_restore_70 ?_
      exact E _ _ _ _ _ _ dX6_restore_71 hw hF
    · replace hF := st_f hc35 hF
      refine lv_iconst (v := 0) hx hb dX6_restore_38 (by decide) ?_
      exact E _ _ _ _ _ _ dX6_restore_39 hw hF
  unfold f_X6_restore at hF
  refine lv_aload_n hx hb dX6_restore_0 rfl (lv_at hl 0 rfl) ?_
  refine lv_iload_n hx hb dX6_restore_1 rfl (lv_at hl 1 rfl) ?_
  refine lv_iconst (v := 0) hx hb dX6_restore_2 (by decide) ?_
  refine lv_iconst (v := 1) hx hb dX6_restore_3 (by decide) ?_
  obtain ⟨r20, hgr20, hF⟩ := st_bnd hF
  refine g_cz hw (g_runS (As := [.int p1, .int 0, .int 1]) (rest := [.ref (ad 9)]) fx hw (c_X6_isIn l x D cy ad p1 0 1 H.size M r20 hgr20) wd5_92 wd5_93 wd1_8 wd5_94 yd_X6_isIn rfl rfl (Nat.le_of_ble_eq_true rfl) hl.1 ⟨Nat.le_trans (Nat.le_of_ble_eq_true rfl) hR.1, Nat.le_trans (Nat.le_of_ble_eq_true rfl) hR.2.1⟩ ⟨Nat.le_trans (Nat.le_of_ble_eq_true rfl) hR.2.2.1, Nat.le_trans (Nat.le_of_ble_eq_true rfl) hR.2.2.2⟩ dX6_restore_4) (fun H locs hbr20 hw => ?_)
  refine lv_if_ne (tgt := 14) hx hb dX6_restore_7 (by decide) (fun hc7 => ?_) (fun hc7 => ?_)
  · replace hF := st_f hc7 hF
    refine lv_aload_n hx hb dX6_restore_14 rfl (lv_at hl 0 rfl) ?_
    refine gX6_get fx hw isO_9 4 (by decide) wd5_23 rfl dX6_restore_15 ?_
    refine lv_iload_n hx hb dX6_restore_18 rfl (lv_at hl 1 rfl) ?_
    obtain ⟨hi21, hF⟩ := st_chk hF
    refine g_zald fx hw isZ_14 hi21 dX6_restore_19 ?_
    refine lv_if_eq (tgt := 27) hx hb dX6_restore_20 (by decide) (fun hc20 => ?_) (fun hc20 => ?_)
    · replace hF := st_t hc20 hF
      refine lv_iconst (v := 2) hx hb dX6_restore_27 (by decide) ?_
      exact n_28 p1 2 M H locs ls (lv_sub hl [0, 1] rfl) hw hF
    · replace hF := st_f hc20 hF
      refine lv_iconst (v := 0) hx hb dX6_restore_23 (by decide) ?_
      refine lv_goto (tgt := 28) hx hb dX6_restore_24 (by decide) ?_
      exact n_28 p1 0 M H locs ls (lv_sub hl [0, 1] rfl) hw hF
  · replace hF := st_t hc7 hF
    refine lv_iconst (v := 1) hx hb dX6_restore_10 (by decide) ?_
    refine lv_goto (tgt := 28) hx hb dX6_restore_11 (by decide) ?_
    exact n_28 p1 1 M H locs ls (lv_sub hl [0, 1] rfl) hw hF
theorem c_X6_restore (l : Launch) (x : SX) (D : va_G) (cy : Nat → ClassId) (ad : Nat → Nat) (p1 : Int32) (sz : Nat) (M : Mem) (z : Int32) (M' : Mem) (hF : f_X6_restore p1 M = some (z, M')) : Met l yX6_restore (.code yX6_restore cX6_restore 2 (some .int) :: GB) ({ frames := 2, cells := 0, slots := 0, locals := 46 } : Room) (PcW D cy ad x sz M [.ref (ad 9), .int p1]) (QiW D cy ad sz z M') 0 0 (AA ad sz) := by
  refine mk_m (own := RX6) (by decide) rfl (Nat.le_of_ble_eq_true rfl) ?_
  intro p e s m args below meth c ls fx hw hl hsz
  subst hsz
  exact b_X6_restore fx ⟨Nat.le_refl _, Nat.le_refl _, Nat.le_refl _, Nat.le_refl _⟩ p1 M z M' hF (fun pc ls H locs v M1 hd hw h => by cases h; exact g_iret fx hw rfl hd) _ _ ls hl hw
noncomputable def f_X6_mo (p1 p2 : Int32) (M : Mem) : Option Int32 := (some ((60 + (8 * p1)) + p2))
set_option maxHeartbeats 4000000 in
set_option maxRecDepth 100000 in
theorem b_X6_mo {p : Program} {l : Launch} {e : Env} {R : Room} {s : State} {m : MethodId} {args : Array Value} {below : List Frame} {meth : Method} {c : Code} {Q : State → Prop} {D : va_G} {cy : Nat → ClassId} {ad : Nat → Nat} {x : SX} (fx : FX p s m args meth c cX6_mo 2 (some .int) RX6 D cy ad x) (hR : 0 ≤ R.frames ∧ 0 ≤ R.locals ∧ 0 ≤ R.cells ∧ 0 ≤ R.slots) (p1 p2 : Int32) (M : Mem) (z : Int32) (hF : f_X6_mo p1 p2 M = some z) (E : ∀ (pc : Nat) (ls : Array Slot) (H : Heap) (locs : List Loc) (v : Int32), decode cX6_mo pc = .ok (.ireturn, 1) → WD D cy ad s M H locs → some v = some z → W p l e R s m args below meth c H locs 0 0 Q (F0 m pc ls [.int v])) (H : Heap) (locs : List Loc) (ls : Array Slot) (hl : lv_has ls 2 [(0, .int p1), (1, .int p2)]) (hw : WD D cy ad s M H locs) : W p l e R s m args below meth c H locs 0 0 Q (F0 m 0 ls []) := by
  have hx := fx.1.1
  have hb := fx.1.2.1
  have hown := fx.1.2.2.2.1
  have hts := fx.1.2.2.2.2
  unfold f_X6_mo at hF
  refine lv_bipush (v := 60) hx hb dX6_mo_0 (by decide) ?_
  refine lv_bipush (v := 8) hx hb dX6_mo_2 (by decide) ?_
  refine lv_iload_n hx hb dX6_mo_4 rfl (lv_at hl 0 rfl) ?_
  refine lv_imul hx hb dX6_mo_5 ?_
  refine lv_iadd hx hb dX6_mo_6 ?_
  refine lv_iload_n hx hb dX6_mo_7 rfl (lv_at hl 1 rfl) ?_
  refine lv_iadd hx hb dX6_mo_8 ?_
  exact E _ _ _ _ _ dX6_mo_9 hw hF
theorem c_X6_mo (l : Launch) (x : SX) (D : va_G) (cy : Nat → ClassId) (ad : Nat → Nat) (p1 p2 : Int32) (sz : Nat) (M : Mem) (z : Int32) (hF : f_X6_mo p1 p2 M = some z) : Met l yX6_mo (.code yX6_mo cX6_mo 2 (some .int) :: GB) ({ frames := 0, cells := 0, slots := 0, locals := 0 } : Room) (PcW D cy ad x sz M [.int p1, .int p2]) (QiW D cy ad sz z M) 0 0 (AA ad sz) := by
  refine mk_m (own := RX6) (by decide) rfl (Nat.le_of_ble_eq_true rfl) ?_
  intro p e s m args below meth c ls fx hw hl hsz
  subst hsz
  exact b_X6_mo fx ⟨Nat.le_refl _, Nat.le_refl _, Nat.le_refl _, Nat.le_refl _⟩ p1 p2 M z hF (fun pc ls H locs v hd hw h => by cases h; exact g_iret fx hw rfl hd) _ _ ls hl hw
noncomputable def f_X6_isMonk (p1 : Int32) (M : Mem) : Option Int32 := (bnd (f_X6_isIn p1 0 ((M 10 0) - 1) M) (fun r2 => (some r2)))
set_option maxHeartbeats 4000000 in
set_option maxRecDepth 100000 in
theorem b_X6_isMonk {p : Program} {l : Launch} {e : Env} {R : Room} {s : State} {m : MethodId} {args : Array Value} {below : List Frame} {meth : Method} {c : Code} {Q : State → Prop} {D : va_G} {cy : Nat → ClassId} {ad : Nat → Nat} {x : SX} (fx : FX p s m args meth c cX6_isMonk 2 (some .boolean) RX6 D cy ad x) (hR : 1 ≤ R.frames ∧ 22 ≤ R.locals ∧ 0 ≤ R.cells ∧ 0 ≤ R.slots) (p1 : Int32) (M : Mem) (z : Int32) (hF : f_X6_isMonk p1 M = some z) (E : ∀ (pc : Nat) (ls : Array Slot) (H : Heap) (locs : List Loc) (v : Int32), decode cX6_isMonk pc = .ok (.ireturn, 1) → (v = 0 ∨ v = 1) → WD D cy ad s M H locs → some v = some z → W p l e R s m args below meth c H locs 0 0 Q (F0 m pc ls [.int v])) (H : Heap) (locs : List Loc) (ls : Array Slot) (hl : lv_has ls 2 [(0, .ref (ad 9)), (1, .int p1)]) (hw : WD D cy ad s M H locs) : W p l e R s m args below meth c H locs 0 0 Q (F0 m 0 ls []) := by
  have hx := fx.1.1
  have hb := fx.1.2.1
  have hown := fx.1.2.2.2.1
  have hts := fx.1.2.2.2.2
  unfold f_X6_isMonk at hF
  refine lv_iload_n hx hb dX6_isMonk_0 rfl (lv_at hl 1 rfl) ?_
  refine lv_iconst (v := 0) hx hb dX6_isMonk_1 (by decide) ?_
  refine lv_aload_n hx hb dX6_isMonk_2 rfl (lv_at hl 0 rfl) ?_
  refine gX6_get fx hw isO_9 0 (by decide) wd5_19 rfl dX6_isMonk_3 ?_
  refine lv_iconst (v := 0) hx hb dX6_isMonk_6 (by decide) ?_
  refine g_ialdc fx hw isA_10 (k := 0) rfl (by decide) dX6_isMonk_7 ?_
  refine lv_iconst (v := 1) hx hb dX6_isMonk_8 (by decide) ?_
  refine lv_isub hx hb dX6_isMonk_9 ?_
  obtain ⟨r2, hgr2, hF⟩ := st_bnd hF
  refine g_cz hw (g_runS (As := [.int p1, .int 0, .int ((M 10 0) - 1)]) (rest := []) fx hw (c_X6_isIn l x D cy ad p1 0 ((M 10 0) - 1) H.size M r2 hgr2) wd5_92 wd5_93 wd1_8 wd5_94 yd_X6_isIn rfl rfl (Nat.le_of_ble_eq_true rfl) hl.1 ⟨Nat.le_trans (Nat.le_of_ble_eq_true rfl) hR.1, Nat.le_trans (Nat.le_of_ble_eq_true rfl) hR.2.1⟩ ⟨Nat.le_trans (Nat.le_of_ble_eq_true rfl) hR.2.2.1, Nat.le_trans (Nat.le_of_ble_eq_true rfl) hR.2.2.2⟩ dX6_isMonk_10) (fun H locs hbr2 hw => ?_)
  exact E _ _ _ _ _ dX6_isMonk_13 hbr2 hw hF
theorem c_X6_isMonk (l : Launch) (x : SX) (D : va_G) (cy : Nat → ClassId) (ad : Nat → Nat) (p1 : Int32) (sz : Nat) (M : Mem) (z : Int32) (hF : f_X6_isMonk p1 M = some z) : Met l yX6_isMonk (.code yX6_isMonk cX6_isMonk 2 (some .boolean) :: GB) ({ frames := 1, cells := 0, slots := 0, locals := 22 } : Room) (PcW D cy ad x sz M [.ref (ad 9), .int p1]) (QzW D cy ad sz z M) 0 0 (AA ad sz) := by
  refine mk_m (own := RX6) (by decide) rfl (Nat.le_of_ble_eq_true rfl) ?_
  intro p e s m args below meth c ls fx hw hl hsz
  subst hsz
  exact b_X6_isMonk fx ⟨Nat.le_refl _, Nat.le_refl _, Nat.le_refl _, Nat.le_refl _⟩ p1 M z hF (fun pc ls H locs v hd hb hw h => by cases h; exact g_zret fx hw rfl hb hd) _ _ ls hl hw
noncomputable def f_X6_isNeed (p1 : Int32) (M : Mem) : Option Int32 := (bnd (f_X6_isIn p1 0 ((M 10 1) - 1) M) (fun r2 => (some r2)))
set_option maxHeartbeats 4000000 in
set_option maxRecDepth 100000 in
theorem b_X6_isNeed {p : Program} {l : Launch} {e : Env} {R : Room} {s : State} {m : MethodId} {args : Array Value} {below : List Frame} {meth : Method} {c : Code} {Q : State → Prop} {D : va_G} {cy : Nat → ClassId} {ad : Nat → Nat} {x : SX} (fx : FX p s m args meth c cX6_isNeed 2 (some .boolean) RX6 D cy ad x) (hR : 1 ≤ R.frames ∧ 22 ≤ R.locals ∧ 0 ≤ R.cells ∧ 0 ≤ R.slots) (p1 : Int32) (M : Mem) (z : Int32) (hF : f_X6_isNeed p1 M = some z) (E : ∀ (pc : Nat) (ls : Array Slot) (H : Heap) (locs : List Loc) (v : Int32), decode cX6_isNeed pc = .ok (.ireturn, 1) → (v = 0 ∨ v = 1) → WD D cy ad s M H locs → some v = some z → W p l e R s m args below meth c H locs 0 0 Q (F0 m pc ls [.int v])) (H : Heap) (locs : List Loc) (ls : Array Slot) (hl : lv_has ls 2 [(0, .ref (ad 9)), (1, .int p1)]) (hw : WD D cy ad s M H locs) : W p l e R s m args below meth c H locs 0 0 Q (F0 m 0 ls []) := by
  have hx := fx.1.1
  have hb := fx.1.2.1
  have hown := fx.1.2.2.2.1
  have hts := fx.1.2.2.2.2
  unfold f_X6_isNeed at hF
  refine lv_iload_n hx hb dX6_isNeed_0 rfl (lv_at hl 1 rfl) ?_
  refine lv_iconst (v := 0) hx hb dX6_isNeed_1 (by decide) ?_
  refine lv_aload_n hx hb dX6_isNeed_2 rfl (lv_at hl 0 rfl) ?_
  refine gX6_get fx hw isO_9 0 (by decide) wd5_19 rfl dX6_isNeed_3 ?_
  refine lv_iconst (v := 1) hx hb dX6_isNeed_6 (by decide) ?_
  refine g_ialdc fx hw isA_10 (k := 1) rfl (by decide) dX6_isNeed_7 ?_
  refine lv_iconst (v := 1) hx hb dX6_isNeed_8 (by decide) ?_
  refine lv_isub hx hb dX6_isNeed_9 ?_
  obtain ⟨r2, hgr2, hF⟩ := st_bnd hF
  refine g_cz hw (g_runS (As := [.int p1, .int 0, .int ((M 10 1) - 1)]) (rest := []) fx hw (c_X6_isIn l x D cy ad p1 0 ((M 10 1) - 1) H.size M r2 hgr2) wd5_92 wd5_93 wd1_8 wd5_94 yd_X6_isIn rfl rfl (Nat.le_of_ble_eq_true rfl) hl.1 ⟨Nat.le_trans (Nat.le_of_ble_eq_true rfl) hR.1, Nat.le_trans (Nat.le_of_ble_eq_true rfl) hR.2.1⟩ ⟨Nat.le_trans (Nat.le_of_ble_eq_true rfl) hR.2.2.1, Nat.le_trans (Nat.le_of_ble_eq_true rfl) hR.2.2.2⟩ dX6_isNeed_10) (fun H locs hbr2 hw => ?_)
  exact E _ _ _ _ _ dX6_isNeed_13 hbr2 hw hF
theorem c_X6_isNeed (l : Launch) (x : SX) (D : va_G) (cy : Nat → ClassId) (ad : Nat → Nat) (p1 : Int32) (sz : Nat) (M : Mem) (z : Int32) (hF : f_X6_isNeed p1 M = some z) : Met l yX6_isNeed (.code yX6_isNeed cX6_isNeed 2 (some .boolean) :: GB) ({ frames := 1, cells := 0, slots := 0, locals := 22 } : Room) (PcW D cy ad x sz M [.ref (ad 9), .int p1]) (QzW D cy ad sz z M) 0 0 (AA ad sz) := by
  refine mk_m (own := RX6) (by decide) rfl (Nat.le_of_ble_eq_true rfl) ?_
  intro p e s m args below meth c ls fx hw hl hsz
  subst hsz
  exact b_X6_isNeed fx ⟨Nat.le_refl _, Nat.le_refl _, Nat.le_refl _, Nat.le_refl _⟩ p1 M z hF (fun pc ls H locs v hd hb hw h => by cases h; exact g_zret fx hw rfl hb hd) _ _ ls hl hw
noncomputable def f_X6_addsMonk_20 (rec20 : Int32 → Int32 → Int32 → Int32 → Mem → Option (Int32 × Mem)) : Int32 → Int32 → Int32 → Int32 → Mem → Option (Int32 × Mem) := fun a1 a2 a3 a4 M => (if 8 ≤ a4 then (bnd (f_X6_mo a3 0 M) (fun r21 => (chk (inB r21 156) (letM (mput M 10 (ix r21) a1) (fun M22 => (bnd (f_X6_mo a3 1 M22) (fun r24 => (chk (inB r24 156) (letM (mput M22 10 (ix r24) a2) (fun M25 => (some (a3, M25)))))))))))) else (bnd (f_X6_mo a3 a4 M) (fun r27 => (chk (inB r27 156) (letM (mput M 10 (ix r27) 0) (fun M28 => (rec20 a1 a2 a3 (a4 + 1) M28)))))))
noncomputable def f_X6_addsMonk (p1 p2 : Int32) (M : Mem) : Option (Int32 × Mem) := (letM (mput M 10 0 ((M 10 0) + 1)) (fun M30 => ((lp (fun _ _ _ _ _ => none) (f_X6_addsMonk_20) FU) p1 p2 (M 10 0) 0 M30)))
set_option maxHeartbeats 4000000 in
set_option maxRecDepth 100000 in
theorem b_X6_addsMonk {p : Program} {l : Launch} {e : Env} {R : Room} {s : State} {m : MethodId} {args : Array Value} {below : List Frame} {meth : Method} {c : Code} {Q : State → Prop} {D : va_G} {cy : Nat → ClassId} {ad : Nat → Nat} {x : SX} (fx : FX p s m args meth c cX6_addsMonk 5 (some .int) RX6 D cy ad x) (hR : 1 ≤ R.frames ∧ 21 ≤ R.locals ∧ 0 ≤ R.cells ∧ 0 ≤ R.slots) (p1 p2 : Int32) (M : Mem) (z : Int32) (M' : Mem) (hF : f_X6_addsMonk p1 p2 M = some (z, M')) (E : ∀ (pc : Nat) (ls : Array Slot) (H : Heap) (locs : List Loc) (v : Int32) (M1 : Mem), decode cX6_addsMonk pc = .ok (.ireturn, 1) → WD D cy ad s M1 H locs → some (v, M1) = some (z, M') → W p l e R s m args below meth c H locs 0 0 Q (F0 m pc ls [.int v])) (H : Heap) (locs : List Loc) (ls : Array Slot) (hl : lv_has ls 5 [(0, .ref (ad 9)), (1, .int p1), (2, .int p2)]) (hw : WD D cy ad s M H locs) : W p l e R s m args below meth c H locs 0 0 Q (F0 m 0 ls []) := by
  have hx := fx.1.1
  have hb := fx.1.2.1
  have hown := fx.1.2.2.2.1
  have hts := fx.1.2.2.2.2
  have n_20 : ∀ (n9 : Nat), ∀ (a1 : Int32) (a2 : Int32) (a3 : Int32) (a4 : Int32) (M : Mem) (H : Heap) (locs : List Loc) (ls : Array Slot), lv_has ls 5 [(0, .ref (ad 9)), (1, .int a1), (2, .int a2), (3, .int a3), (4, .int a4)] → WD D cy ad s M H locs → (lp (fun _ _ _ _ _ => none) (f_X6_addsMonk_20) n9) a1 a2 a3 a4 M = some (z, M') → W p l e R s m args below meth c H locs 0 0 Q (F0 m 20 ls []) := by
    intro n9
    refine lp_ind (fun (rec20 : Int32 → Int32 → Int32 → Int32 → Mem → Option (Int32 × Mem)) => ∀ (a1 : Int32) (a2 : Int32) (a3 : Int32) (a4 : Int32) (M : Mem) (H : Heap) (locs : List Loc) (ls : Array Slot), lv_has ls 5 [(0, .ref (ad 9)), (1, .int a1), (2, .int a2), (3, .int a3), (4, .int a4)] → WD D cy ad s M H locs → rec20 a1 a2 a3 a4 M = some (z, M') → W p l e R s m args below meth c H locs 0 0 Q (F0 m 20 ls [])) ?_ ?_ n9
    · intro a1 a2 a3 a4 M H locs ls hl hw hF
      exact nomatch hF
    · intro rec20 hr20 a1 a2 a3 a4 M H locs ls hl hw hF
      unfold f_X6_addsMonk_20 at hF
      refine lv_iload hx hb dX6_addsMonk_20 (lv_at hl 4 rfl) ?_
      refine lv_bipush (v := 8) hx hb dX6_addsMonk_22 (by decide) ?_
      refine lv_icmp_ge (tgt := 45) hx hb dX6_addsMonk_24 (by decide) (fun hc24 => ?_) (fun hc24 => ?_)
      · replace hF := st_t hc24 hF
        refine lv_aload_n hx hb dX6_addsMonk_45 rfl (lv_at hl 0 rfl) ?_
        refine gX6_get fx hw isO_9 0 (by decide) wd5_19 rfl dX6_addsMonk_46 ?_
        refine lv_iload_n hx hb dX6_addsMonk_49 rfl (lv_at hl 3 rfl) ?_
        refine lv_iconst (v := 0) hx hb dX6_addsMonk_50 (by decide) ?_
        obtain ⟨r21, hgr21, hF⟩ := st_bnd hF
        refine g_ci hw (g_runS (As := [.int a3, .int 0]) (rest := [.ref (ad 10)]) fx hw (c_X6_mo l x D cy ad a3 0 H.size M r21 hgr21) wd5_16 wd5_17 wd1_8 wd5_18 yd_X6_mo rfl rfl (Nat.le_of_ble_eq_true rfl) hl.1 ⟨Nat.le_trans (Nat.le_of_ble_eq_true rfl) hR.1, Nat.le_trans (Nat.le_of_ble_eq_true rfl) hR.2.1⟩ ⟨Nat.le_trans (Nat.le_of_ble_eq_true rfl) hR.2.2.1, Nat.le_trans (Nat.le_of_ble_eq_true rfl) hR.2.2.2⟩ dX6_addsMonk_51) (fun H locs hw => ?_)
        refine lv_iload_n hx hb dX6_addsMonk_54 rfl (lv_at hl 1 rfl) ?_
        obtain ⟨hi23, hF⟩ := st_chk hF
        obtain ⟨M22, eM22, hF⟩ := st_letM hF
        refine g_iast fx hw isA_10 hi23 eM22 dX6_addsMonk_55 (fun H locs hw => ?_)
        refine lv_aload_n hx hb dX6_addsMonk_56 rfl (lv_at hl 0 rfl) ?_
        refine gX6_get fx hw isO_9 0 (by decide) wd5_19 rfl dX6_addsMonk_57 ?_
        refine lv_iload_n hx hb dX6_addsMonk_60 rfl (lv_at hl 3 rfl) ?_
        refine lv_iconst (v := 1) hx hb dX6_addsMonk_61 (by decide) ?_
        obtain ⟨r24, hgr24, hF⟩ := st_bnd hF
        refine g_ci hw (g_runS (As := [.int a3, .int 1]) (rest := [.ref (ad 10)]) fx hw (c_X6_mo l x D cy ad a3 1 H.size M22 r24 hgr24) wd5_16 wd5_17 wd1_8 wd5_18 yd_X6_mo rfl rfl (Nat.le_of_ble_eq_true rfl) hl.1 ⟨Nat.le_trans (Nat.le_of_ble_eq_true rfl) hR.1, Nat.le_trans (Nat.le_of_ble_eq_true rfl) hR.2.1⟩ ⟨Nat.le_trans (Nat.le_of_ble_eq_true rfl) hR.2.2.1, Nat.le_trans (Nat.le_of_ble_eq_true rfl) hR.2.2.2⟩ dX6_addsMonk_62) (fun H locs hw => ?_)
        refine lv_iload_n hx hb dX6_addsMonk_65 rfl (lv_at hl 2 rfl) ?_
        obtain ⟨hi26, hF⟩ := st_chk hF
        obtain ⟨M25, eM25, hF⟩ := st_letM hF
        refine g_iast fx hw isA_10 hi26 eM25 dX6_addsMonk_66 (fun H locs hw => ?_)
        refine lv_iload_n hx hb dX6_addsMonk_67 rfl (lv_at hl 3 rfl) ?_
        exact E _ _ _ _ _ _ dX6_addsMonk_68 hw hF
      · replace hF := st_f hc24 hF
        refine lv_aload_n hx hb dX6_addsMonk_27 rfl (lv_at hl 0 rfl) ?_
        refine gX6_get fx hw isO_9 0 (by decide) wd5_19 rfl dX6_addsMonk_28 ?_
        refine lv_iload_n hx hb dX6_addsMonk_31 rfl (lv_at hl 3 rfl) ?_
        refine lv_iload hx hb dX6_addsMonk_32 (lv_at hl 4 rfl) ?_
        obtain ⟨r27, hgr27, hF⟩ := st_bnd hF
        refine g_ci hw (g_runS (As := [.int a3, .int a4]) (rest := [.ref (ad 10)]) fx hw (c_X6_mo l x D cy ad a3 a4 H.size M r27 hgr27) wd5_16 wd5_17 wd1_8 wd5_18 yd_X6_mo rfl rfl (Nat.le_of_ble_eq_true rfl) hl.1 ⟨Nat.le_trans (Nat.le_of_ble_eq_true rfl) hR.1, Nat.le_trans (Nat.le_of_ble_eq_true rfl) hR.2.1⟩ ⟨Nat.le_trans (Nat.le_of_ble_eq_true rfl) hR.2.2.1, Nat.le_trans (Nat.le_of_ble_eq_true rfl) hR.2.2.2⟩ dX6_addsMonk_34) (fun H locs hw => ?_)
        refine lv_iconst (v := 0) hx hb dX6_addsMonk_37 (by decide) ?_
        obtain ⟨hi29, hF⟩ := st_chk hF
        obtain ⟨M28, eM28, hF⟩ := st_letM hF
        refine g_iast fx hw isA_10 hi29 eM28 dX6_addsMonk_38 (fun H locs hw => ?_)
        refine lv_iinc (v := (a4 + 1)) (lv' := [(4, .int (a4 + 1)), (0, .ref (ad 9)), (1, .int a1), (2, .int a2), (3, .int a3)]) hx hb dX6_addsMonk_39 hl (k := 4) rfl rfl (by decide) rfl (fun ls hl => ?_)
        refine lv_goto (tgt := 20) hx hb dX6_addsMonk_42 (by decide) ?_
        exact hr20 a1 a2 a3 (a4 + 1) M28 H locs ls (lv_sub hl [1, 2, 3, 4, 0] rfl) hw hF
  unfold f_X6_addsMonk at hF
  refine lv_aload_n hx hb dX6_addsMonk_0 rfl (lv_at hl 0 rfl) ?_
  refine gX6_get fx hw isO_9 0 (by decide) wd5_19 rfl dX6_addsMonk_1 ?_
  refine lv_iconst (v := 0) hx hb dX6_addsMonk_4 (by decide) ?_
  refine g_ialdc fx hw isA_10 (k := 0) rfl (by decide) dX6_addsMonk_5 ?_
  refine lv_istore_n (lv' := [(3, .int (M 10 0)), (0, .ref (ad 9)), (1, .int p1), (2, .int p2)]) hx hb dX6_addsMonk_6 rfl hl (by decide) rfl (fun ls hl => ?_)
  refine lv_aload_n hx hb dX6_addsMonk_7 rfl (lv_at hl 1 rfl) ?_
  refine gX6_get fx hw isO_9 0 (by decide) wd5_19 rfl dX6_addsMonk_8 ?_
  refine lv_iconst (v := 0) hx hb dX6_addsMonk_11 (by decide) ?_
  refine lv_dup2_11 hx hb dX6_addsMonk_12 rfl rfl ?_
  refine g_ialdc fx hw isA_10 (k := 0) rfl (by decide) dX6_addsMonk_13 ?_
  refine lv_iconst (v := 1) hx hb dX6_addsMonk_14 (by decide) ?_
  refine lv_iadd hx hb dX6_addsMonk_15 ?_
  obtain ⟨M30, eM30, hF⟩ := st_letM hF
  refine g_iastc fx hw isA_10 (k := 0) rfl (by decide) eM30 dX6_addsMonk_16 (fun H locs hw => ?_)
  refine lv_iconst (v := 0) hx hb dX6_addsMonk_17 (by decide) ?_
  refine lv_istore (lv' := [(4, .int 0), (3, .int (M 10 0)), (0, .ref (ad 9)), (1, .int p1), (2, .int p2)]) hx hb dX6_addsMonk_18 hl (by decide) rfl (fun ls hl => ?_)
  exact n_20 FU p1 p2 (M 10 0) 0 M30 H locs ls (lv_sub hl [2, 3, 4, 1, 0] rfl) hw hF
theorem c_X6_addsMonk (l : Launch) (x : SX) (D : va_G) (cy : Nat → ClassId) (ad : Nat → Nat) (p1 p2 : Int32) (sz : Nat) (M : Mem) (z : Int32) (M' : Mem) (hF : f_X6_addsMonk p1 p2 M = some (z, M')) : Met l yX6_addsMonk (.code yX6_addsMonk cX6_addsMonk 5 (some .int) :: GB) ({ frames := 1, cells := 0, slots := 0, locals := 21 } : Room) (PcW D cy ad x sz M [.ref (ad 9), .int p1, .int p2]) (QiW D cy ad sz z M') 0 0 (AA ad sz) := by
  refine mk_m (own := RX6) (by decide) rfl (Nat.le_of_ble_eq_true rfl) ?_
  intro p e s m args below meth c ls fx hw hl hsz
  subst hsz
  exact b_X6_addsMonk fx ⟨Nat.le_refl _, Nat.le_refl _, Nat.le_refl _, Nat.le_refl _⟩ p1 p2 M z M' hF (fun pc ls H locs v M1 hd hw h => by cases h; exact g_iret fx hw rfl hd) _ _ ls hl hw
noncomputable def f_X6_words (p1 : Int32) (M : Mem) : Option Int32 := (chk (inB ((44 + (2 * p1)) + 1) 156) (some (M 10 (ix ((44 + (2 * p1)) + 1)))))
set_option maxHeartbeats 4000000 in
set_option maxRecDepth 100000 in
theorem b_X6_words {p : Program} {l : Launch} {e : Env} {R : Room} {s : State} {m : MethodId} {args : Array Value} {below : List Frame} {meth : Method} {c : Code} {Q : State → Prop} {D : va_G} {cy : Nat → ClassId} {ad : Nat → Nat} {x : SX} (fx : FX p s m args meth c cX6_words 2 (some .int) RX6 D cy ad x) (hR : 0 ≤ R.frames ∧ 0 ≤ R.locals ∧ 0 ≤ R.cells ∧ 0 ≤ R.slots) (p1 : Int32) (M : Mem) (z : Int32) (hF : f_X6_words p1 M = some z) (E : ∀ (pc : Nat) (ls : Array Slot) (H : Heap) (locs : List Loc) (v : Int32), decode cX6_words pc = .ok (.ireturn, 1) → WD D cy ad s M H locs → some v = some z → W p l e R s m args below meth c H locs 0 0 Q (F0 m pc ls [.int v])) (H : Heap) (locs : List Loc) (ls : Array Slot) (hl : lv_has ls 2 [(0, .ref (ad 9)), (1, .int p1)]) (hw : WD D cy ad s M H locs) : W p l e R s m args below meth c H locs 0 0 Q (F0 m 0 ls []) := by
  have hx := fx.1.1
  have hb := fx.1.2.1
  have hown := fx.1.2.2.2.1
  have hts := fx.1.2.2.2.2
  unfold f_X6_words at hF
  refine lv_aload_n hx hb dX6_words_0 rfl (lv_at hl 0 rfl) ?_
  refine gX6_get fx hw isO_9 0 (by decide) wd5_19 rfl dX6_words_1 ?_
  refine lv_bipush (v := 44) hx hb dX6_words_4 (by decide) ?_
  refine lv_iconst (v := 2) hx hb dX6_words_6 (by decide) ?_
  refine lv_iload_n hx hb dX6_words_7 rfl (lv_at hl 1 rfl) ?_
  refine lv_imul hx hb dX6_words_8 ?_
  refine lv_iadd hx hb dX6_words_9 ?_
  refine lv_iconst (v := 1) hx hb dX6_words_10 (by decide) ?_
  refine lv_iadd hx hb dX6_words_11 ?_
  obtain ⟨hi2, hF⟩ := st_chk hF
  refine g_iald fx hw isA_10 hi2 dX6_words_12 ?_
  exact E _ _ _ _ _ dX6_words_13 hw hF
theorem c_X6_words (l : Launch) (x : SX) (D : va_G) (cy : Nat → ClassId) (ad : Nat → Nat) (p1 : Int32) (sz : Nat) (M : Mem) (z : Int32) (hF : f_X6_words p1 M = some z) : Met l yX6_words (.code yX6_words cX6_words 2 (some .int) :: GB) ({ frames := 0, cells := 0, slots := 0, locals := 0 } : Room) (PcW D cy ad x sz M [.ref (ad 9), .int p1]) (QiW D cy ad sz z M) 0 0 (AA ad sz) := by
  refine mk_m (own := RX6) (by decide) rfl (Nat.le_of_ble_eq_true rfl) ?_
  intro p e s m args below meth c ls fx hw hl hsz
  subst hsz
  exact b_X6_words fx ⟨Nat.le_refl _, Nat.le_refl _, Nat.le_refl _, Nat.le_refl _⟩ p1 M z hF (fun pc ls H locs v hd hw h => by cases h; exact g_iret fx hw rfl hd) _ _ ls hl hw
noncomputable def f_X6_isSet (p1 p2 p3 : Int32) (M : Mem) : Option Int32 := (bnd (f_X6_mo p1 p2 M) (fun r3 => (chk (inB r3 156) (if ((ishr (M 10 (ix r3)) p3) &&& 1) = 1 then (some 1) else (some 0)))))
set_option maxHeartbeats 4000000 in
set_option maxRecDepth 100000 in
theorem b_X6_isSet {p : Program} {l : Launch} {e : Env} {R : Room} {s : State} {m : MethodId} {args : Array Value} {below : List Frame} {meth : Method} {c : Code} {Q : State → Prop} {D : va_G} {cy : Nat → ClassId} {ad : Nat → Nat} {x : SX} (fx : FX p s m args meth c cX6_isSet 4 (some .boolean) RX6 D cy ad x) (hR : 1 ≤ R.frames ∧ 21 ≤ R.locals ∧ 0 ≤ R.cells ∧ 0 ≤ R.slots) (p1 p2 p3 : Int32) (M : Mem) (z : Int32) (hF : f_X6_isSet p1 p2 p3 M = some z) (E : ∀ (pc : Nat) (ls : Array Slot) (H : Heap) (locs : List Loc) (v : Int32), decode cX6_isSet pc = .ok (.ireturn, 1) → (v = 0 ∨ v = 1) → WD D cy ad s M H locs → some v = some z → W p l e R s m args below meth c H locs 0 0 Q (F0 m pc ls [.int v])) (H : Heap) (locs : List Loc) (ls : Array Slot) (hl : lv_has ls 4 [(0, .ref (ad 9)), (1, .int p1), (2, .int p2), (3, .int p3)]) (hw : WD D cy ad s M H locs) : W p l e R s m args below meth c H locs 0 0 Q (F0 m 0 ls []) := by
  have hx := fx.1.1
  have hb := fx.1.2.1
  have hown := fx.1.2.2.2.1
  have hts := fx.1.2.2.2.2
  unfold f_X6_isSet at hF
  refine lv_aload_n hx hb dX6_isSet_0 rfl (lv_at hl 0 rfl) ?_
  refine gX6_get fx hw isO_9 0 (by decide) wd5_19 rfl dX6_isSet_1 ?_
  refine lv_iload_n hx hb dX6_isSet_4 rfl (lv_at hl 1 rfl) ?_
  refine lv_iload_n hx hb dX6_isSet_5 rfl (lv_at hl 2 rfl) ?_
  obtain ⟨r3, hgr3, hF⟩ := st_bnd hF
  refine g_ci hw (g_runS (As := [.int p1, .int p2]) (rest := [.ref (ad 10)]) fx hw (c_X6_mo l x D cy ad p1 p2 H.size M r3 hgr3) wd5_16 wd5_17 wd1_8 wd5_18 yd_X6_mo rfl rfl (Nat.le_of_ble_eq_true rfl) hl.1 ⟨Nat.le_trans (Nat.le_of_ble_eq_true rfl) hR.1, Nat.le_trans (Nat.le_of_ble_eq_true rfl) hR.2.1⟩ ⟨Nat.le_trans (Nat.le_of_ble_eq_true rfl) hR.2.2.1, Nat.le_trans (Nat.le_of_ble_eq_true rfl) hR.2.2.2⟩ dX6_isSet_6) (fun H locs hw => ?_)
  obtain ⟨hi4, hF⟩ := st_chk hF
  refine g_iald fx hw isA_10 hi4 dX6_isSet_9 ?_
  refine lv_iload_n hx hb dX6_isSet_10 rfl (lv_at hl 3 rfl) ?_
  refine g_ishr hx hb dX6_isSet_11 ?_
  refine lv_iconst (v := 1) hx hb dX6_isSet_12 (by decide) ?_
  refine lv_iand hx hb dX6_isSet_13 ?_
  refine lv_iconst (v := 1) hx hb dX6_isSet_14 (by decide) ?_
  refine lv_icmp_ne (tgt := 22) hx hb dX6_isSet_15 (by decide) (fun hc15 => ?_) (fun hc15 => ?_)
  · replace hF := st_f hc15 hF
    refine lv_iconst (v := 0) hx hb dX6_isSet_22 (by decide) ?_
    exact E _ _ _ _ _ dX6_isSet_23 (Or.inl rfl) hw hF
  · replace hF := st_t hc15 hF
    refine lv_iconst (v := 1) hx hb dX6_isSet_18 (by decide) ?_
    refine lv_goto (tgt := 23) hx hb dX6_isSet_19 (by decide) ?_
    exact E _ _ _ _ _ dX6_isSet_23 (Or.inr rfl) hw hF
theorem c_X6_isSet (l : Launch) (x : SX) (D : va_G) (cy : Nat → ClassId) (ad : Nat → Nat) (p1 p2 p3 : Int32) (sz : Nat) (M : Mem) (z : Int32) (hF : f_X6_isSet p1 p2 p3 M = some z) : Met l yX6_isSet (.code yX6_isSet cX6_isSet 4 (some .boolean) :: GB) ({ frames := 1, cells := 0, slots := 0, locals := 21 } : Room) (PcW D cy ad x sz M [.ref (ad 9), .int p1, .int p2, .int p3]) (QzW D cy ad sz z M) 0 0 (AA ad sz) := by
  refine mk_m (own := RX6) (by decide) rfl (Nat.le_of_ble_eq_true rfl) ?_
  intro p e s m args below meth c ls fx hw hl hsz
  subst hsz
  exact b_X6_isSet fx ⟨Nat.le_refl _, Nat.le_refl _, Nat.le_refl _, Nat.le_refl _⟩ p1 p2 p3 M z hF (fun pc ls H locs v hd hb hw h => by cases h; exact g_zret fx hw rfl hb hd) _ _ ls hl hw
noncomputable def f_X6_bits_4 (M : Mem) (rec4 : Int32 → Int32 → Option Int32) : Int32 → Int32 → Option Int32 := fun a1 a2 => (if a2 ≤ 0 then (some a1) else (rec4 (a1 + (irem a2 2)) (a2 / 2)))
noncomputable def f_X6_bits (p1 : Int32) (M : Mem) : Option Int32 := ((lp (fun _ _ => none) (f_X6_bits_4 M) FU) 0 p1)
set_option maxHeartbeats 4000000 in
set_option maxRecDepth 100000 in
theorem b_X6_bits {p : Program} {l : Launch} {e : Env} {R : Room} {s : State} {m : MethodId} {args : Array Value} {below : List Frame} {meth : Method} {c : Code} {Q : State → Prop} {D : va_G} {cy : Nat → ClassId} {ad : Nat → Nat} {x : SX} (fx : FX p s m args meth c cX6_bits 3 (some .int) RX6 D cy ad x) (hR : 0 ≤ R.frames ∧ 0 ≤ R.locals ∧ 0 ≤ R.cells ∧ 0 ≤ R.slots) (p1 : Int32) (M : Mem) (z : Int32) (hF : f_X6_bits p1 M = some z) (E : ∀ (pc : Nat) (ls : Array Slot) (H : Heap) (locs : List Loc) (v : Int32), decode cX6_bits pc = .ok (.ireturn, 1) → WD D cy ad s M H locs → some v = some z → W p l e R s m args below meth c H locs 0 0 Q (F0 m pc ls [.int v])) (H : Heap) (locs : List Loc) (ls : Array Slot) (hl : lv_has ls 3 [(0, .int p1)]) (hw : WD D cy ad s M H locs) : W p l e R s m args below meth c H locs 0 0 Q (F0 m 0 ls []) := by
  have hx := fx.1.1
  have hb := fx.1.2.1
  have hown := fx.1.2.2.2.1
  have hts := fx.1.2.2.2.2
  have n_4 : ∀ (n9 : Nat), ∀ (a1 : Int32) (a2 : Int32) (H : Heap) (locs : List Loc) (ls : Array Slot), lv_has ls 3 [(1, .int a1), (2, .int a2)] → WD D cy ad s M H locs → (lp (fun _ _ => none) (f_X6_bits_4 M) n9) a1 a2 = some z → W p l e R s m args below meth c H locs 0 0 Q (F0 m 4 ls []) := by
    intro n9
    refine lp_ind (fun (rec4 : Int32 → Int32 → Option Int32) => ∀ (a1 : Int32) (a2 : Int32) (H : Heap) (locs : List Loc) (ls : Array Slot), lv_has ls 3 [(1, .int a1), (2, .int a2)] → WD D cy ad s M H locs → rec4 a1 a2 = some z → W p l e R s m args below meth c H locs 0 0 Q (F0 m 4 ls [])) ?_ ?_ n9
    · intro a1 a2 H locs ls hl hw hF
      exact nomatch hF
    · intro rec4 hr4 a1 a2 H locs ls hl hw hF
      unfold f_X6_bits_4 at hF
      refine lv_iload_n hx hb dX6_bits_4 rfl (lv_at hl 1 rfl) ?_
      refine lv_if_le (tgt := 21) hx hb dX6_bits_5 (by decide) (fun hc5 => ?_) (fun hc5 => ?_)
      · replace hF := st_t hc5 hF
        refine lv_iload_n hx hb dX6_bits_21 rfl (lv_at hl 0 rfl) ?_
        exact E _ _ _ _ _ dX6_bits_22 hw hF
      · replace hF := st_f hc5 hF
        refine lv_iload_n hx hb dX6_bits_8 rfl (lv_at hl 0 rfl) ?_
        refine lv_iload_n hx hb dX6_bits_9 rfl (lv_at hl 1 rfl) ?_
        refine lv_iconst (v := 2) hx hb dX6_bits_10 (by decide) ?_
        refine g_irem hx hb dX6_bits_11 (by decide) ?_
        refine lv_iadd hx hb dX6_bits_12 ?_
        refine lv_istore_n (lv' := [(1, .int (a1 + (irem a2 2))), (2, .int a2)]) hx hb dX6_bits_13 rfl hl (by decide) rfl (fun ls hl => ?_)
        refine lv_iload_n hx hb dX6_bits_14 rfl (lv_at hl 1 rfl) ?_
        refine lv_iconst (v := 2) hx hb dX6_bits_15 (by decide) ?_
        refine lv_idiv hx hb dX6_bits_16 (by decide) ?_
        refine lv_istore_n (lv' := [(2, .int (a2 / 2)), (1, .int (a1 + (irem a2 2)))]) hx hb dX6_bits_17 rfl hl (by decide) rfl (fun ls hl => ?_)
        refine lv_goto (tgt := 4) hx hb dX6_bits_18 (by decide) ?_
        exact hr4 (a1 + (irem a2 2)) (a2 / 2) H locs ls (lv_sub hl [1, 0] rfl) hw hF
  unfold f_X6_bits at hF
  refine lv_iconst (v := 0) hx hb dX6_bits_0 (by decide) ?_
  refine lv_istore_n (lv' := [(1, .int 0), (0, .int p1)]) hx hb dX6_bits_1 rfl hl (by decide) rfl (fun ls hl => ?_)
  refine lv_iload_n hx hb dX6_bits_2 rfl (lv_at hl 1 rfl) ?_
  refine lv_istore_n (lv' := [(2, .int p1), (1, .int 0), (0, .int p1)]) hx hb dX6_bits_3 rfl hl (by decide) rfl (fun ls hl => ?_)
  exact n_4 FU 0 p1 H locs ls (lv_sub hl [1, 0] rfl) hw hF
theorem c_X6_bits (l : Launch) (x : SX) (D : va_G) (cy : Nat → ClassId) (ad : Nat → Nat) (p1 : Int32) (sz : Nat) (M : Mem) (z : Int32) (hF : f_X6_bits p1 M = some z) : Met l yX6_bits (.code yX6_bits cX6_bits 3 (some .int) :: GB) ({ frames := 0, cells := 0, slots := 0, locals := 0 } : Room) (PcW D cy ad x sz M [.int p1]) (QiW D cy ad sz z M) 0 0 (AA ad sz) := by
  refine mk_m (own := RX6) (by decide) rfl (Nat.le_of_ble_eq_true rfl) ?_
  intro p e s m args below meth c ls fx hw hl hsz
  subst hsz
  exact b_X6_bits fx ⟨Nat.le_refl _, Nat.le_refl _, Nat.le_refl _, Nat.le_refl _⟩ p1 M z hF (fun pc ls H locs v hd hw h => by cases h; exact g_iret fx hw rfl hd) _ _ ls hl hw
noncomputable def f_X6_hourOfBell_2 (M : Mem) (rec2 : Int32 → Int32 → Option Int32) : Int32 → Int32 → Option Int32 := fun a1 a2 => (if 24 ≤ a2 then (some (-1)) else (chk (inB (20 + (irem ((a1 + 24) - a2) 24)) 156) (if (M 10 (ix (20 + (irem ((a1 + 24) - a2) 24)))) = 0 then (rec2 a1 (a2 + 1)) else (some (irem ((a1 + 24) - a2) 24)))))
noncomputable def f_X6_hourOfBell (p1 : Int32) (M : Mem) : Option Int32 := ((lp (fun _ _ => none) (f_X6_hourOfBell_2 M) FU) p1 0)
set_option maxHeartbeats 4000000 in
set_option maxRecDepth 100000 in
theorem b_X6_hourOfBell {p : Program} {l : Launch} {e : Env} {R : Room} {s : State} {m : MethodId} {args : Array Value} {below : List Frame} {meth : Method} {c : Code} {Q : State → Prop} {D : va_G} {cy : Nat → ClassId} {ad : Nat → Nat} {x : SX} (fx : FX p s m args meth c cX6_hourOfBell 4 (some .int) RX6 D cy ad x) (hR : 0 ≤ R.frames ∧ 0 ≤ R.locals ∧ 0 ≤ R.cells ∧ 0 ≤ R.slots) (p1 : Int32) (M : Mem) (z : Int32) (hF : f_X6_hourOfBell p1 M = some z) (E : ∀ (pc : Nat) (ls : Array Slot) (H : Heap) (locs : List Loc) (v : Int32), decode cX6_hourOfBell pc = .ok (.ireturn, 1) → WD D cy ad s M H locs → some v = some z → W p l e R s m args below meth c H locs 0 0 Q (F0 m pc ls [.int v])) (H : Heap) (locs : List Loc) (ls : Array Slot) (hl : lv_has ls 4 [(0, .ref (ad 9)), (1, .int p1)]) (hw : WD D cy ad s M H locs) : W p l e R s m args below meth c H locs 0 0 Q (F0 m 0 ls []) := by
  have hx := fx.1.1
  have hb := fx.1.2.1
  have hown := fx.1.2.2.2.1
  have hts := fx.1.2.2.2.2
  have n_2 : ∀ (n9 : Nat), ∀ (a1 : Int32) (a2 : Int32) (H : Heap) (locs : List Loc) (ls : Array Slot), lv_has ls 4 [(0, .ref (ad 9)), (1, .int a1), (2, .int a2)] → WD D cy ad s M H locs → (lp (fun _ _ => none) (f_X6_hourOfBell_2 M) n9) a1 a2 = some z → W p l e R s m args below meth c H locs 0 0 Q (F0 m 2 ls []) := by
    intro n9
    refine lp_ind (fun (rec2 : Int32 → Int32 → Option Int32) => ∀ (a1 : Int32) (a2 : Int32) (H : Heap) (locs : List Loc) (ls : Array Slot), lv_has ls 4 [(0, .ref (ad 9)), (1, .int a1), (2, .int a2)] → WD D cy ad s M H locs → rec2 a1 a2 = some z → W p l e R s m args below meth c H locs 0 0 Q (F0 m 2 ls [])) ?_ ?_ n9
    · intro a1 a2 H locs ls hl hw hF
      exact nomatch hF
    · intro rec2 hr2 a1 a2 H locs ls hl hw hF
      unfold f_X6_hourOfBell_2 at hF
      refine lv_iload_n hx hb dX6_hourOfBell_2 rfl (lv_at hl 2 rfl) ?_
      refine lv_bipush (v := 24) hx hb dX6_hourOfBell_3 (by decide) ?_
      refine lv_icmp_ge (tgt := 38) hx hb dX6_hourOfBell_5 (by decide) (fun hc5 => ?_) (fun hc5 => ?_)
      · replace hF := st_t hc5 hF
        refine lv_iconst (v := (-1)) hx hb dX6_hourOfBell_38 (by decide) ?_
        exact E _ _ _ _ _ dX6_hourOfBell_39 hw hF
      · replace hF := st_f hc5 hF
        refine lv_iload_n hx hb dX6_hourOfBell_8 rfl (lv_at hl 1 rfl) ?_
        refine lv_bipush (v := 24) hx hb dX6_hourOfBell_9 (by decide) ?_
        refine lv_iadd hx hb dX6_hourOfBell_11 ?_
        refine lv_iload_n hx hb dX6_hourOfBell_12 rfl (lv_at hl 2 rfl) ?_
        refine lv_isub hx hb dX6_hourOfBell_13 ?_
        refine lv_bipush (v := 24) hx hb dX6_hourOfBell_14 (by decide) ?_
        refine g_irem hx hb dX6_hourOfBell_16 (by decide) ?_
        refine lv_istore_n (lv' := [(3, .int (irem ((a1 + 24) - a2) 24)), (0, .ref (ad 9)), (1, .int a1), (2, .int a2)]) hx hb dX6_hourOfBell_17 rfl hl (by decide) rfl (fun ls hl => ?_)
        refine lv_aload_n hx hb dX6_hourOfBell_18 rfl (lv_at hl 1 rfl) ?_
        refine gX6_get fx hw isO_9 0 (by decide) wd5_19 rfl dX6_hourOfBell_19 ?_
        refine lv_bipush (v := 20) hx hb dX6_hourOfBell_22 (by decide) ?_
        refine lv_iload_n hx hb dX6_hourOfBell_24 rfl (lv_at hl 0 rfl) ?_
        refine lv_iadd hx hb dX6_hourOfBell_25 ?_
        obtain ⟨hi3, hF⟩ := st_chk hF
        refine g_iald fx hw isA_10 hi3 dX6_hourOfBell_26 ?_
        refine lv_if_eq (tgt := 32) hx hb dX6_hourOfBell_27 (by decide) (fun hc27 => ?_) (fun hc27 => ?_)
        · replace hF := st_t hc27 hF
          refine lv_iinc (v := (a2 + 1)) (lv' := [(2, .int (a2 + 1)), (3, .int (irem ((a1 + 24) - a2) 24)), (0, .ref (ad 9)), (1, .int a1)]) hx hb dX6_hourOfBell_32 hl (k := 3) rfl rfl (by decide) rfl (fun ls hl => ?_)
          refine lv_goto (tgt := 2) hx hb dX6_hourOfBell_35 (by decide) ?_
          exact hr2 a1 (a2 + 1) H locs ls (lv_sub hl [2, 3, 0] rfl) hw hF
        · replace hF := st_f hc27 hF
          refine lv_iload_n hx hb dX6_hourOfBell_30 rfl (lv_at hl 0 rfl) ?_
          exact E _ _ _ _ _ dX6_hourOfBell_31 hw hF
  unfold f_X6_hourOfBell at hF
  refine lv_iconst (v := 0) hx hb dX6_hourOfBell_0 (by decide) ?_
  refine lv_istore_n (lv' := [(2, .int 0), (0, .ref (ad 9)), (1, .int p1)]) hx hb dX6_hourOfBell_1 rfl hl (by decide) rfl (fun ls hl => ?_)
  exact n_2 FU p1 0 H locs ls (lv_sub hl [1, 2, 0] rfl) hw hF
theorem c_X6_hourOfBell (l : Launch) (x : SX) (D : va_G) (cy : Nat → ClassId) (ad : Nat → Nat) (p1 : Int32) (sz : Nat) (M : Mem) (z : Int32) (hF : f_X6_hourOfBell p1 M = some z) : Met l yX6_hourOfBell (.code yX6_hourOfBell cX6_hourOfBell 4 (some .int) :: GB) ({ frames := 0, cells := 0, slots := 0, locals := 0 } : Room) (PcW D cy ad x sz M [.ref (ad 9), .int p1]) (QiW D cy ad sz z M) 0 0 (AA ad sz) := by
  refine mk_m (own := RX6) (by decide) rfl (Nat.le_of_ble_eq_true rfl) ?_
  intro p e s m args below meth c ls fx hw hl hsz
  subst hsz
  exact b_X6_hourOfBell fx ⟨Nat.le_refl _, Nat.le_refl _, Nat.le_refl _, Nat.le_refl _⟩ p1 M z hF (fun pc ls H locs v hd hw h => by cases h; exact g_iret fx hw rfl hd) _ _ ls hl hw
noncomputable def f_X6_isSpeech (p1 : Int32) (M : Mem) : Option Int32 := (bnd (f_X6_hourOfBell p1 M) (fun r3 => (if r3 = (-1) then (some 0) else (chk (inB (20 + r3) 156) (if (M 10 (ix (20 + r3))) = 2 then (some 1) else (some 0))))))
set_option maxHeartbeats 4000000 in
set_option maxRecDepth 100000 in
theorem b_X6_isSpeech {p : Program} {l : Launch} {e : Env} {R : Room} {s : State} {m : MethodId} {args : Array Value} {below : List Frame} {meth : Method} {c : Code} {Q : State → Prop} {D : va_G} {cy : Nat → ClassId} {ad : Nat → Nat} {x : SX} (fx : FX p s m args meth c cX6_isSpeech 3 (some .boolean) RX6 D cy ad x) (hR : 1 ≤ R.frames ∧ 23 ≤ R.locals ∧ 0 ≤ R.cells ∧ 0 ≤ R.slots) (p1 : Int32) (M : Mem) (z : Int32) (hF : f_X6_isSpeech p1 M = some z) (E : ∀ (pc : Nat) (ls : Array Slot) (H : Heap) (locs : List Loc) (v : Int32), decode cX6_isSpeech pc = .ok (.ireturn, 1) → (v = 0 ∨ v = 1) → WD D cy ad s M H locs → some v = some z → W p l e R s m args below meth c H locs 0 0 Q (F0 m pc ls [.int v])) (H : Heap) (locs : List Loc) (ls : Array Slot) (hl : lv_has ls 3 [(0, .ref (ad 9)), (1, .int p1)]) (hw : WD D cy ad s M H locs) : W p l e R s m args below meth c H locs 0 0 Q (F0 m 0 ls []) := by
  have hx := fx.1.1
  have hb := fx.1.2.1
  have hown := fx.1.2.2.2.1
  have hts := fx.1.2.2.2.2
  unfold f_X6_isSpeech at hF
  refine lv_aload_n hx hb dX6_isSpeech_0 rfl (lv_at hl 0 rfl) ?_
  refine lv_iload_n hx hb dX6_isSpeech_1 rfl (lv_at hl 1 rfl) ?_
  obtain ⟨r3, hgr3, hF⟩ := st_bnd hF
  refine g_ci hw (g_runV (C := RX6) (As := [.int p1]) (rest := []) fx hw isO_9 rfl (c_X6_hourOfBell l x D cy ad p1 H.size M r3 hgr3) wd5_115 wd5_117 wd0_45 wd1_8 wd5_118 yd_X6_hourOfBell rfl rfl (Nat.le_of_ble_eq_true rfl) hl.1 ⟨Nat.le_trans (Nat.le_of_ble_eq_true rfl) hR.1, Nat.le_trans (Nat.le_of_ble_eq_true rfl) hR.2.1⟩ ⟨Nat.le_trans (Nat.le_of_ble_eq_true rfl) hR.2.2.1, Nat.le_trans (Nat.le_of_ble_eq_true rfl) hR.2.2.2⟩ dX6_isSpeech_2) (fun H locs hw => ?_)
  refine lv_istore_n (lv' := [(2, .int r3), (0, .ref (ad 9)), (1, .int p1)]) hx hb dX6_isSpeech_5 rfl hl (by decide) rfl (fun ls hl => ?_)
  refine lv_iload_n hx hb dX6_isSpeech_6 rfl (lv_at hl 0 rfl) ?_
  refine lv_iconst (v := (-1)) hx hb dX6_isSpeech_7 (by decide) ?_
  refine lv_icmp_eq (tgt := 28) hx hb dX6_isSpeech_8 (by decide) (fun hc8 => ?_) (fun hc8 => ?_)
  · replace hF := st_t hc8 hF
    refine lv_iconst (v := 0) hx hb dX6_isSpeech_28 (by decide) ?_
    exact E _ _ _ _ _ dX6_isSpeech_29 (Or.inl rfl) hw hF
  · replace hF := st_f hc8 hF
    refine lv_aload_n hx hb dX6_isSpeech_11 rfl (lv_at hl 1 rfl) ?_
    refine gX6_get fx hw isO_9 0 (by decide) wd5_19 rfl dX6_isSpeech_12 ?_
    refine lv_bipush (v := 20) hx hb dX6_isSpeech_15 (by decide) ?_
    refine lv_iload_n hx hb dX6_isSpeech_17 rfl (lv_at hl 0 rfl) ?_
    refine lv_iadd hx hb dX6_isSpeech_18 ?_
    obtain ⟨hi4, hF⟩ := st_chk hF
    refine g_iald fx hw isA_10 hi4 dX6_isSpeech_19 ?_
    refine lv_iconst (v := 2) hx hb dX6_isSpeech_20 (by decide) ?_
    refine lv_icmp_ne (tgt := 28) hx hb dX6_isSpeech_21 (by decide) (fun hc21 => ?_) (fun hc21 => ?_)
    · replace hF := st_f hc21 hF
      refine lv_iconst (v := 0) hx hb dX6_isSpeech_28 (by decide) ?_
      exact E _ _ _ _ _ dX6_isSpeech_29 (Or.inl rfl) hw hF
    · replace hF := st_t hc21 hF
      refine lv_iconst (v := 1) hx hb dX6_isSpeech_24 (by decide) ?_
      refine lv_goto (tgt := 29) hx hb dX6_isSpeech_25 (by decide) ?_
      exact E _ _ _ _ _ dX6_isSpeech_29 (Or.inr rfl) hw hF
theorem c_X6_isSpeech (l : Launch) (x : SX) (D : va_G) (cy : Nat → ClassId) (ad : Nat → Nat) (p1 : Int32) (sz : Nat) (M : Mem) (z : Int32) (hF : f_X6_isSpeech p1 M = some z) : Met l yX6_isSpeech (.code yX6_isSpeech cX6_isSpeech 3 (some .boolean) :: GB) ({ frames := 1, cells := 0, slots := 0, locals := 23 } : Room) (PcW D cy ad x sz M [.ref (ad 9), .int p1]) (QzW D cy ad sz z M) 0 0 (AA ad sz) := by
  refine mk_m (own := RX6) (by decide) rfl (Nat.le_of_ble_eq_true rfl) ?_
  intro p e s m args below meth c ls fx hw hl hsz
  subst hsz
  exact b_X6_isSpeech fx ⟨Nat.le_refl _, Nat.le_refl _, Nat.le_refl _, Nat.le_refl _⟩ p1 M z hF (fun pc ls H locs v hd hb hw h => by cases h; exact g_zret fx hw rfl hb hd) _ _ ls hl hw
noncomputable def f_X6_isSpeechNow (M : Mem) : Option Int32 := (bnd (f_X6_isSpeech (irem (M 10 4) 24) M) (fun r2 => (some r2)))
set_option maxHeartbeats 4000000 in
set_option maxRecDepth 100000 in
theorem b_X6_isSpeechNow {p : Program} {l : Launch} {e : Env} {R : Room} {s : State} {m : MethodId} {args : Array Value} {below : List Frame} {meth : Method} {c : Code} {Q : State → Prop} {D : va_G} {cy : Nat → ClassId} {ad : Nat → Nat} {x : SX} (fx : FX p s m args meth c cX6_isSpeechNow 1 (some .boolean) RX6 D cy ad x) (hR : 2 ≤ R.frames ∧ 45 ≤ R.locals ∧ 0 ≤ R.cells ∧ 0 ≤ R.slots) (M : Mem) (z : Int32) (hF : f_X6_isSpeechNow M = some z) (E : ∀ (pc : Nat) (ls : Array Slot) (H : Heap) (locs : List Loc) (v : Int32), decode cX6_isSpeechNow pc = .ok (.ireturn, 1) → (v = 0 ∨ v = 1) → WD D cy ad s M H locs → some v = some z → W p l e R s m args below meth c H locs 0 0 Q (F0 m pc ls [.int v])) (H : Heap) (locs : List Loc) (ls : Array Slot) (hl : lv_has ls 1 [(0, .ref (ad 9))]) (hw : WD D cy ad s M H locs) : W p l e R s m args below meth c H locs 0 0 Q (F0 m 0 ls []) := by
  have hx := fx.1.1
  have hb := fx.1.2.1
  have hown := fx.1.2.2.2.1
  have hts := fx.1.2.2.2.2
  unfold f_X6_isSpeechNow at hF
  refine lv_aload_n hx hb dX6_isSpeechNow_0 rfl (lv_at hl 0 rfl) ?_
  refine lv_aload_n hx hb dX6_isSpeechNow_1 rfl (lv_at hl 0 rfl) ?_
  refine gX6_get fx hw isO_9 0 (by decide) wd5_19 rfl dX6_isSpeechNow_2 ?_
  refine lv_iconst (v := 4) hx hb dX6_isSpeechNow_5 (by decide) ?_
  refine g_ialdc fx hw isA_10 (k := 4) rfl (by decide) dX6_isSpeechNow_6 ?_
  refine lv_bipush (v := 24) hx hb dX6_isSpeechNow_7 (by decide) ?_
  refine g_irem hx hb dX6_isSpeechNow_9 (by decide) ?_
  obtain ⟨r2, hgr2, hF⟩ := st_bnd hF
  refine g_cz hw (g_runV (C := RX6) (As := [.int (irem (M 10 4) 24)]) (rest := []) fx hw isO_9 rfl (c_X6_isSpeech l x D cy ad (irem (M 10 4) 24) H.size M r2 hgr2) wd5_111 wd5_113 wd0_44 wd1_8 wd5_114 yd_X6_isSpeech rfl rfl (Nat.le_of_ble_eq_true rfl) hl.1 ⟨Nat.le_trans (Nat.le_of_ble_eq_true rfl) hR.1, Nat.le_trans (Nat.le_of_ble_eq_true rfl) hR.2.1⟩ ⟨Nat.le_trans (Nat.le_of_ble_eq_true rfl) hR.2.2.1, Nat.le_trans (Nat.le_of_ble_eq_true rfl) hR.2.2.2⟩ dX6_isSpeechNow_10) (fun H locs hbr2 hw => ?_)
  exact E _ _ _ _ _ dX6_isSpeechNow_13 hbr2 hw hF
theorem c_X6_isSpeechNow (l : Launch) (x : SX) (D : va_G) (cy : Nat → ClassId) (ad : Nat → Nat) (sz : Nat) (M : Mem) (z : Int32) (hF : f_X6_isSpeechNow M = some z) : Met l yX6_isSpeechNow (.code yX6_isSpeechNow cX6_isSpeechNow 1 (some .boolean) :: GB) ({ frames := 2, cells := 0, slots := 0, locals := 45 } : Room) (PcW D cy ad x sz M [.ref (ad 9)]) (QzW D cy ad sz z M) 0 0 (AA ad sz) := by
  refine mk_m (own := RX6) (by decide) rfl (Nat.le_of_ble_eq_true rfl) ?_
  intro p e s m args below meth c ls fx hw hl hsz
  subst hsz
  exact b_X6_isSpeechNow fx ⟨Nat.le_refl _, Nat.le_refl _, Nat.le_refl _, Nat.le_refl _⟩ M z hF (fun pc ls H locs v hd hb hw h => by cases h; exact g_zret fx hw rfl hb hd) _ _ ls hl hw
noncomputable def f_X6_hoursOfSpeech_24 (M : Mem) (rec4 : Int32 → Int32 → Option Int32) : Int32 → Int32 → Int32 → Option Int32 := fun a2 t0 t1 => (rec4 (t0 + t1) (a2 + 1))
noncomputable def f_X6_hoursOfSpeech_4 (M : Mem) (rec4 : Int32 → Int32 → Option Int32) : Int32 → Int32 → Option Int32 := fun a1 a2 => (if 24 ≤ a2 then (some a1) else (bnd (f_X6_isSpeech a2 M) (fun r3 => (if r3 = 0 then ((f_X6_hoursOfSpeech_24 M rec4) a2 a1 0) else ((f_X6_hoursOfSpeech_24 M rec4) a2 a1 1)))))
noncomputable def f_X6_hoursOfSpeech (M : Mem) : Option Int32 := ((lp (fun _ _ => none) (f_X6_hoursOfSpeech_4 M) FU) 0 0)
set_option maxHeartbeats 4000000 in
set_option maxRecDepth 100000 in
theorem b_X6_hoursOfSpeech {p : Program} {l : Launch} {e : Env} {R : Room} {s : State} {m : MethodId} {args : Array Value} {below : List Frame} {meth : Method} {c : Code} {Q : State → Prop} {D : va_G} {cy : Nat → ClassId} {ad : Nat → Nat} {x : SX} (fx : FX p s m args meth c cX6_hoursOfSpeech 3 (some .int) RX6 D cy ad x) (hR : 2 ≤ R.frames ∧ 45 ≤ R.locals ∧ 0 ≤ R.cells ∧ 0 ≤ R.slots) (M : Mem) (z : Int32) (hF : f_X6_hoursOfSpeech M = some z) (E : ∀ (pc : Nat) (ls : Array Slot) (H : Heap) (locs : List Loc) (v : Int32), decode cX6_hoursOfSpeech pc = .ok (.ireturn, 1) → WD D cy ad s M H locs → some v = some z → W p l e R s m args below meth c H locs 0 0 Q (F0 m pc ls [.int v])) (H : Heap) (locs : List Loc) (ls : Array Slot) (hl : lv_has ls 3 [(0, .ref (ad 9))]) (hw : WD D cy ad s M H locs) : W p l e R s m args below meth c H locs 0 0 Q (F0 m 0 ls []) := by
  have hx := fx.1.1
  have hb := fx.1.2.1
  have hown := fx.1.2.2.2.1
  have hts := fx.1.2.2.2.2
  have n_24 : ∀ (rec4 : Int32 → Int32 → Option Int32) (_ : ∀ (a1 : Int32) (a2 : Int32) (H : Heap) (locs : List Loc) (ls : Array Slot), lv_has ls 3 [(0, .ref (ad 9)), (1, .int a1), (2, .int a2)] → WD D cy ad s M H locs → rec4 a1 a2 = some z → W p l e R s m args below meth c H locs 0 0 Q (F0 m 4 ls [])) , ∀ (a2 : Int32) (t0 : Int32) (t1 : Int32) (H : Heap) (locs : List Loc) (ls : Array Slot), lv_has ls 3 [(0, .ref (ad 9)), (2, .int a2)] → WD D cy ad s M H locs → f_X6_hoursOfSpeech_24 M rec4 a2 t0 t1 = some z → W p l e R s m args below meth c H locs 0 0 Q (F0 m 24 ls [.int t1, .int t0]) := by
    intro rec4 hr4 a2 t0 t1 H locs ls hl hw hF
    unfold f_X6_hoursOfSpeech_24 at hF
    refine lv_iadd hx hb dX6_hoursOfSpeech_24 ?_
    refine lv_istore_n (lv' := [(1, .int (t0 + t1)), (0, .ref (ad 9)), (2, .int a2)]) hx hb dX6_hoursOfSpeech_25 rfl hl (by decide) rfl (fun ls hl => ?_)
    refine lv_iinc (v := (a2 + 1)) (lv' := [(2, .int (a2 + 1)), (1, .int (t0 + t1)), (0, .ref (ad 9))]) hx hb dX6_hoursOfSpeech_26 hl (k := 2) rfl rfl (by decide) rfl (fun ls hl => ?_)
    refine lv_goto (tgt := 4) hx hb dX6_hoursOfSpeech_29 (by decide) ?_
    exact hr4 (t0 + t1) (a2 + 1) H locs ls (lv_sub hl [2, 1, 0] rfl) hw hF
  have n_4 : ∀ (n9 : Nat), ∀ (a1 : Int32) (a2 : Int32) (H : Heap) (locs : List Loc) (ls : Array Slot), lv_has ls 3 [(0, .ref (ad 9)), (1, .int a1), (2, .int a2)] → WD D cy ad s M H locs → (lp (fun _ _ => none) (f_X6_hoursOfSpeech_4 M) n9) a1 a2 = some z → W p l e R s m args below meth c H locs 0 0 Q (F0 m 4 ls []) := by
    intro n9
    refine lp_ind (fun (rec4 : Int32 → Int32 → Option Int32) => ∀ (a1 : Int32) (a2 : Int32) (H : Heap) (locs : List Loc) (ls : Array Slot), lv_has ls 3 [(0, .ref (ad 9)), (1, .int a1), (2, .int a2)] → WD D cy ad s M H locs → rec4 a1 a2 = some z → W p l e R s m args below meth c H locs 0 0 Q (F0 m 4 ls [])) ?_ ?_ n9
    · intro a1 a2 H locs ls hl hw hF
      exact nomatch hF
    · intro rec4 hr4 a1 a2 H locs ls hl hw hF
      unfold f_X6_hoursOfSpeech_4 at hF
      refine lv_iload_n hx hb dX6_hoursOfSpeech_4 rfl (lv_at hl 2 rfl) ?_
      refine lv_bipush (v := 24) hx hb dX6_hoursOfSpeech_5 (by decide) ?_
      refine lv_icmp_ge (tgt := 32) hx hb dX6_hoursOfSpeech_7 (by decide) (fun hc7 => ?_) (fun hc7 => ?_)
      · replace hF := st_t hc7 hF
        refine lv_iload_n hx hb dX6_hoursOfSpeech_32 rfl (lv_at hl 1 rfl) ?_
        exact E _ _ _ _ _ dX6_hoursOfSpeech_33 hw hF
      · replace hF := st_f hc7 hF
        refine lv_iload_n hx hb dX6_hoursOfSpeech_10 rfl (lv_at hl 1 rfl) ?_
        refine lv_aload_n hx hb dX6_hoursOfSpeech_11 rfl (lv_at hl 0 rfl) ?_
        refine lv_iload_n hx hb dX6_hoursOfSpeech_12 rfl (lv_at hl 2 rfl) ?_
        obtain ⟨r3, hgr3, hF⟩ := st_bnd hF
        refine g_cz hw (g_runV (C := RX6) (As := [.int a2]) (rest := [.int a1]) fx hw isO_9 rfl (c_X6_isSpeech l x D cy ad a2 H.size M r3 hgr3) wd5_111 wd5_113 wd0_44 wd1_8 wd5_114 yd_X6_isSpeech rfl rfl (Nat.le_of_ble_eq_true rfl) hl.1 ⟨Nat.le_trans (Nat.le_of_ble_eq_true rfl) hR.1, Nat.le_trans (Nat.le_of_ble_eq_true rfl) hR.2.1⟩ ⟨Nat.le_trans (Nat.le_of_ble_eq_true rfl) hR.2.2.1, Nat.le_trans (Nat.le_of_ble_eq_true rfl) hR.2.2.2⟩ dX6_hoursOfSpeech_13) (fun H locs hbr3 hw => ?_)
        refine lv_if_eq (tgt := 23) hx hb dX6_hoursOfSpeech_16 (by decide) (fun hc16 => ?_) (fun hc16 => ?_)
        · replace hF := st_t hc16 hF
          refine lv_iconst (v := 0) hx hb dX6_hoursOfSpeech_23 (by decide) ?_
          exact n_24 rec4 hr4 a2 a1 0 H locs ls (lv_sub hl [0, 2] rfl) hw hF
        · replace hF := st_f hc16 hF
          refine lv_iconst (v := 1) hx hb dX6_hoursOfSpeech_19 (by decide) ?_
          refine lv_goto (tgt := 24) hx hb dX6_hoursOfSpeech_20 (by decide) ?_
          exact n_24 rec4 hr4 a2 a1 1 H locs ls (lv_sub hl [0, 2] rfl) hw hF
  unfold f_X6_hoursOfSpeech at hF
  refine lv_iconst (v := 0) hx hb dX6_hoursOfSpeech_0 (by decide) ?_
  refine lv_istore_n (lv' := [(1, .int 0), (0, .ref (ad 9))]) hx hb dX6_hoursOfSpeech_1 rfl hl (by decide) rfl (fun ls hl => ?_)
  refine lv_iconst (v := 0) hx hb dX6_hoursOfSpeech_2 (by decide) ?_
  refine lv_istore_n (lv' := [(2, .int 0), (1, .int 0), (0, .ref (ad 9))]) hx hb dX6_hoursOfSpeech_3 rfl hl (by decide) rfl (fun ls hl => ?_)
  exact n_4 FU 0 0 H locs ls (lv_sub hl [2, 1, 0] rfl) hw hF
theorem c_X6_hoursOfSpeech (l : Launch) (x : SX) (D : va_G) (cy : Nat → ClassId) (ad : Nat → Nat) (sz : Nat) (M : Mem) (z : Int32) (hF : f_X6_hoursOfSpeech M = some z) : Met l yX6_hoursOfSpeech (.code yX6_hoursOfSpeech cX6_hoursOfSpeech 3 (some .int) :: GB) ({ frames := 2, cells := 0, slots := 0, locals := 45 } : Room) (PcW D cy ad x sz M [.ref (ad 9)]) (QiW D cy ad sz z M) 0 0 (AA ad sz) := by
  refine mk_m (own := RX6) (by decide) rfl (Nat.le_of_ble_eq_true rfl) ?_
  intro p e s m args below meth c ls fx hw hl hsz
  subst hsz
  exact b_X6_hoursOfSpeech fx ⟨Nat.le_refl _, Nat.le_refl _, Nat.le_refl _, Nat.le_refl _⟩ M z hF (fun pc ls H locs v hd hw h => by cases h; exact g_iret fx hw rfl hd) _ _ ls hl hw
noncomputable def f_X6_pagesOf_29 (M : Mem) : Int32 → Int32 → Option Int32 := fun t0 t1 => (some (t0 * t1))
noncomputable def f_X6_pagesOf (p1 p2 : Int32) (M : Mem) : Option Int32 := (bnd (f_X6_words p2 M) (fun r7 => (bnd (f_X6_mo p1 1 M) (fun r8 => (chk (inB r8 156) (if (M 10 (ix r8)) = 0 then ((f_X6_pagesOf_29 M) ((r7 + 9) / 10) 2) else ((f_X6_pagesOf_29 M) ((r7 + 9) / 10) 1)))))))
set_option maxHeartbeats 4000000 in
set_option maxRecDepth 100000 in
theorem b_X6_pagesOf {p : Program} {l : Launch} {e : Env} {R : Room} {s : State} {m : MethodId} {args : Array Value} {below : List Frame} {meth : Method} {c : Code} {Q : State → Prop} {D : va_G} {cy : Nat → ClassId} {ad : Nat → Nat} {x : SX} (fx : FX p s m args meth c cX6_pagesOf 3 (some .int) RX6 D cy ad x) (hR : 1 ≤ R.frames ∧ 21 ≤ R.locals ∧ 0 ≤ R.cells ∧ 0 ≤ R.slots) (p1 p2 : Int32) (M : Mem) (z : Int32) (hF : f_X6_pagesOf p1 p2 M = some z) (E : ∀ (pc : Nat) (ls : Array Slot) (H : Heap) (locs : List Loc) (v : Int32), decode cX6_pagesOf pc = .ok (.ireturn, 1) → WD D cy ad s M H locs → some v = some z → W p l e R s m args below meth c H locs 0 0 Q (F0 m pc ls [.int v])) (H : Heap) (locs : List Loc) (ls : Array Slot) (hl : lv_has ls 3 [(0, .ref (ad 9)), (1, .int p1), (2, .int p2)]) (hw : WD D cy ad s M H locs) : W p l e R s m args below meth c H locs 0 0 Q (F0 m 0 ls []) := by
  have hx := fx.1.1
  have hb := fx.1.2.1
  have hown := fx.1.2.2.2.1
  have hts := fx.1.2.2.2.2
  have n_29 : ∀ (t0 : Int32) (t1 : Int32) (H : Heap) (locs : List Loc) (ls : Array Slot), lv_has ls 3 [] → WD D cy ad s M H locs → f_X6_pagesOf_29 M t0 t1 = some z → W p l e R s m args below meth c H locs 0 0 Q (F0 m 29 ls [.int t1, .int t0]) := by
    intro t0 t1 H locs ls hl hw hF
    unfold f_X6_pagesOf_29 at hF
    refine lv_imul hx hb dX6_pagesOf_29 ?_
    exact E _ _ _ _ _ dX6_pagesOf_30 hw hF
  unfold f_X6_pagesOf at hF
  refine lv_aload_n hx hb dX6_pagesOf_0 rfl (lv_at hl 0 rfl) ?_
  refine lv_iload_n hx hb dX6_pagesOf_1 rfl (lv_at hl 2 rfl) ?_
  obtain ⟨r7, hgr7, hF⟩ := st_bnd hF
  refine g_ci hw (g_runV (C := RX6) (As := [.int p2]) (rest := []) fx hw isO_9 rfl (c_X6_words l x D cy ad p2 H.size M r7 hgr7) wd5_165 wd5_167 wd0_53 wd1_8 wd5_168 yd_X6_words rfl rfl (Nat.le_of_ble_eq_true rfl) hl.1 ⟨Nat.le_trans (Nat.le_of_ble_eq_true rfl) hR.1, Nat.le_trans (Nat.le_of_ble_eq_true rfl) hR.2.1⟩ ⟨Nat.le_trans (Nat.le_of_ble_eq_true rfl) hR.2.2.1, Nat.le_trans (Nat.le_of_ble_eq_true rfl) hR.2.2.2⟩ dX6_pagesOf_2) (fun H locs hw => ?_)
  refine lv_bipush (v := 9) hx hb dX6_pagesOf_5 (by decide) ?_
  refine lv_iadd hx hb dX6_pagesOf_7 ?_
  refine lv_bipush (v := 10) hx hb dX6_pagesOf_8 (by decide) ?_
  refine lv_idiv hx hb dX6_pagesOf_10 (by decide) ?_
  refine lv_aload_n hx hb dX6_pagesOf_11 rfl (lv_at hl 0 rfl) ?_
  refine gX6_get fx hw isO_9 0 (by decide) wd5_19 rfl dX6_pagesOf_12 ?_
  refine lv_iload_n hx hb dX6_pagesOf_15 rfl (lv_at hl 1 rfl) ?_
  refine lv_iconst (v := 1) hx hb dX6_pagesOf_16 (by decide) ?_
  obtain ⟨r8, hgr8, hF⟩ := st_bnd hF
  refine g_ci hw (g_runS (As := [.int p1, .int 1]) (rest := [.ref (ad 10), .int ((r7 + 9) / 10)]) fx hw (c_X6_mo l x D cy ad p1 1 H.size M r8 hgr8) wd5_16 wd5_17 wd1_8 wd5_18 yd_X6_mo rfl rfl (Nat.le_of_ble_eq_true rfl) hl.1 ⟨Nat.le_trans (Nat.le_of_ble_eq_true rfl) hR.1, Nat.le_trans (Nat.le_of_ble_eq_true rfl) hR.2.1⟩ ⟨Nat.le_trans (Nat.le_of_ble_eq_true rfl) hR.2.2.1, Nat.le_trans (Nat.le_of_ble_eq_true rfl) hR.2.2.2⟩ dX6_pagesOf_17) (fun H locs hw => ?_)
  obtain ⟨hi9, hF⟩ := st_chk hF
  refine g_iald fx hw isA_10 hi9 dX6_pagesOf_20 ?_
  refine lv_if_ne (tgt := 28) hx hb dX6_pagesOf_21 (by decide) (fun hc21 => ?_) (fun hc21 => ?_)
  · replace hF := st_f hc21 hF
    refine lv_iconst (v := 1) hx hb dX6_pagesOf_28 (by decide) ?_
    exact n_29 ((r7 + 9) / 10) 1 H locs ls (lv_sub hl [] rfl) hw hF
  · replace hF := st_t hc21 hF
    refine lv_iconst (v := 2) hx hb dX6_pagesOf_24 (by decide) ?_
    refine lv_goto (tgt := 29) hx hb dX6_pagesOf_25 (by decide) ?_
    exact n_29 ((r7 + 9) / 10) 2 H locs ls (lv_sub hl [] rfl) hw hF
theorem c_X6_pagesOf (l : Launch) (x : SX) (D : va_G) (cy : Nat → ClassId) (ad : Nat → Nat) (p1 p2 : Int32) (sz : Nat) (M : Mem) (z : Int32) (hF : f_X6_pagesOf p1 p2 M = some z) : Met l yX6_pagesOf (.code yX6_pagesOf cX6_pagesOf 3 (some .int) :: GB) ({ frames := 1, cells := 0, slots := 0, locals := 21 } : Room) (PcW D cy ad x sz M [.ref (ad 9), .int p1, .int p2]) (QiW D cy ad sz z M) 0 0 (AA ad sz) := by
  refine mk_m (own := RX6) (by decide) rfl (Nat.le_of_ble_eq_true rfl) ?_
  intro p e s m args below meth c ls fx hw hl hsz
  subst hsz
  exact b_X6_pagesOf fx ⟨Nat.le_refl _, Nat.le_refl _, Nat.le_refl _, Nat.le_refl _⟩ p1 p2 M z hF (fun pc ls H locs v hd hw h => by cases h; exact g_iret fx hw rfl hd) _ _ ls hl hw
noncomputable def f_X6_byLeave (p1 p2 : Int32) (M : Mem) : Option Int32 := (bnd (f_X6_isSpeechNow M) (fun r5 => (if r5 = 0 then (bnd (f_X6_mo p1 4 M) (fun r6 => (chk (inB r6 156) (bnd (f_X6_words p2 M) (fun r8 => (some (imin (M 10 (ix r6)) r8))))))) else (some 0))))
set_option maxHeartbeats 4000000 in
set_option maxRecDepth 100000 in
theorem b_X6_byLeave {p : Program} {l : Launch} {e : Env} {R : Room} {s : State} {m : MethodId} {args : Array Value} {below : List Frame} {meth : Method} {c : Code} {Q : State → Prop} {D : va_G} {cy : Nat → ClassId} {ad : Nat → Nat} {x : SX} (fx : FX p s m args meth c cX6_byLeave 3 (some .int) RX6 D cy ad x) (hR : 3 ≤ R.frames ∧ 65 ≤ R.locals ∧ 0 ≤ R.cells ∧ 0 ≤ R.slots) (p1 p2 : Int32) (M : Mem) (z : Int32) (hF : f_X6_byLeave p1 p2 M = some z) (E : ∀ (pc : Nat) (ls : Array Slot) (H : Heap) (locs : List Loc) (v : Int32), decode cX6_byLeave pc = .ok (.ireturn, 1) → WD D cy ad s M H locs → some v = some z → W p l e R s m args below meth c H locs 0 0 Q (F0 m pc ls [.int v])) (H : Heap) (locs : List Loc) (ls : Array Slot) (hl : lv_has ls 3 [(0, .ref (ad 9)), (1, .int p1), (2, .int p2)]) (hw : WD D cy ad s M H locs) : W p l e R s m args below meth c H locs 0 0 Q (F0 m 0 ls []) := by
  have hx := fx.1.1
  have hb := fx.1.2.1
  have hown := fx.1.2.2.2.1
  have hts := fx.1.2.2.2.2
  unfold f_X6_byLeave at hF
  refine lv_aload_n hx hb dX6_byLeave_0 rfl (lv_at hl 0 rfl) ?_
  obtain ⟨r5, hgr5, hF⟩ := st_bnd hF
  refine g_cz hw (g_runV (C := RX6) (As := []) (rest := []) fx hw isO_9 rfl (c_X6_isSpeechNow l x D cy ad H.size M r5 hgr5) wd5_107 wd5_109 wd0_43 wd1_8 wd5_110 yd_X6_isSpeechNow rfl rfl (Nat.le_of_ble_eq_true rfl) hl.1 ⟨Nat.le_trans (Nat.le_of_ble_eq_true rfl) hR.1, Nat.le_trans (Nat.le_of_ble_eq_true rfl) hR.2.1⟩ ⟨Nat.le_trans (Nat.le_of_ble_eq_true rfl) hR.2.2.1, Nat.le_trans (Nat.le_of_ble_eq_true rfl) hR.2.2.2⟩ dX6_byLeave_1) (fun H locs hbr5 hw => ?_)
  refine lv_if_eq (tgt := 11) hx hb dX6_byLeave_4 (by decide) (fun hc4 => ?_) (fun hc4 => ?_)
  · replace hF := st_t hc4 hF
    refine lv_aload_n hx hb dX6_byLeave_11 rfl (lv_at hl 0 rfl) ?_
    refine gX6_get fx hw isO_9 0 (by decide) wd5_19 rfl dX6_byLeave_12 ?_
    refine lv_iload_n hx hb dX6_byLeave_15 rfl (lv_at hl 1 rfl) ?_
    refine lv_iconst (v := 4) hx hb dX6_byLeave_16 (by decide) ?_
    obtain ⟨r6, hgr6, hF⟩ := st_bnd hF
    refine g_ci hw (g_runS (As := [.int p1, .int 4]) (rest := [.ref (ad 10)]) fx hw (c_X6_mo l x D cy ad p1 4 H.size M r6 hgr6) wd5_16 wd5_17 wd1_8 wd5_18 yd_X6_mo rfl rfl (Nat.le_of_ble_eq_true rfl) hl.1 ⟨Nat.le_trans (Nat.le_of_ble_eq_true rfl) hR.1, Nat.le_trans (Nat.le_of_ble_eq_true rfl) hR.2.1⟩ ⟨Nat.le_trans (Nat.le_of_ble_eq_true rfl) hR.2.2.1, Nat.le_trans (Nat.le_of_ble_eq_true rfl) hR.2.2.2⟩ dX6_byLeave_17) (fun H locs hw => ?_)
    obtain ⟨hi7, hF⟩ := st_chk hF
    refine g_iald fx hw isA_10 hi7 dX6_byLeave_20 ?_
    refine lv_aload_n hx hb dX6_byLeave_21 rfl (lv_at hl 0 rfl) ?_
    refine lv_iload_n hx hb dX6_byLeave_22 rfl (lv_at hl 2 rfl) ?_
    obtain ⟨r8, hgr8, hF⟩ := st_bnd hF
    refine g_ci hw (g_runV (C := RX6) (As := [.int p2]) (rest := [.int (M 10 (ix r6))]) fx hw isO_9 rfl (c_X6_words l x D cy ad p2 H.size M r8 hgr8) wd5_165 wd5_167 wd0_53 wd1_8 wd5_168 yd_X6_words rfl rfl (Nat.le_of_ble_eq_true rfl) hl.1 ⟨Nat.le_trans (Nat.le_of_ble_eq_true rfl) hR.1, Nat.le_trans (Nat.le_of_ble_eq_true rfl) hR.2.1⟩ ⟨Nat.le_trans (Nat.le_of_ble_eq_true rfl) hR.2.2.1, Nat.le_trans (Nat.le_of_ble_eq_true rfl) hR.2.2.2⟩ dX6_byLeave_23) (fun H locs hw => ?_)
    refine g_mmin fx wd5_213 wd2_72 wd1_17 wd2_73 hl.1 (Nat.le_trans (Nat.le_of_ble_eq_true rfl) hR.1) (Nat.le_trans (Nat.le_of_ble_eq_true rfl) hR.2.1) ⟨Nat.le_trans (Nat.le_of_ble_eq_true rfl) hR.2.2.1, Nat.le_trans (Nat.le_of_ble_eq_true rfl) hR.2.2.2⟩ dX6_byLeave_26 ?_
    exact E _ _ _ _ _ dX6_byLeave_29 hw hF
  · replace hF := st_f hc4 hF
    refine lv_iconst (v := 0) hx hb dX6_byLeave_7 (by decide) ?_
    refine lv_goto (tgt := 29) hx hb dX6_byLeave_8 (by decide) ?_
    exact E _ _ _ _ _ dX6_byLeave_29 hw hF
theorem c_X6_byLeave (l : Launch) (x : SX) (D : va_G) (cy : Nat → ClassId) (ad : Nat → Nat) (p1 p2 : Int32) (sz : Nat) (M : Mem) (z : Int32) (hF : f_X6_byLeave p1 p2 M = some z) : Met l yX6_byLeave (.code yX6_byLeave cX6_byLeave 3 (some .int) :: GB) ({ frames := 3, cells := 0, slots := 0, locals := 65 } : Room) (PcW D cy ad x sz M [.ref (ad 9), .int p1, .int p2]) (QiW D cy ad sz z M) 0 0 (AA ad sz) := by
  refine mk_m (own := RX6) (by decide) rfl (Nat.le_of_ble_eq_true rfl) ?_
  intro p e s m args below meth c ls fx hw hl hsz
  subst hsz
  exact b_X6_byLeave fx ⟨Nat.le_refl _, Nat.le_refl _, Nat.le_refl _, Nat.le_refl _⟩ p1 p2 M z hF (fun pc ls H locs v hd hw h => by cases h; exact g_iret fx hw rfl hd) _ _ ls hl hw
noncomputable def f_X6_restOf (p1 p2 : Int32) (M : Mem) : Option Int32 := (bnd (f_X6_isSpeechNow M) (fun r4 => (if r4 = 0 then (bnd (f_X6_words p2 M) (fun r5 => (bnd (f_X6_byLeave p1 p2 M) (fun r6 => (some (r5 - r6)))))) else (some 0))))
set_option maxHeartbeats 4000000 in
set_option maxRecDepth 100000 in
theorem b_X6_restOf {p : Program} {l : Launch} {e : Env} {R : Room} {s : State} {m : MethodId} {args : Array Value} {below : List Frame} {meth : Method} {c : Code} {Q : State → Prop} {D : va_G} {cy : Nat → ClassId} {ad : Nat → Nat} {x : SX} (fx : FX p s m args meth c cX6_restOf 3 (some .int) RX6 D cy ad x) (hR : 4 ≤ R.frames ∧ 87 ≤ R.locals ∧ 0 ≤ R.cells ∧ 0 ≤ R.slots) (p1 p2 : Int32) (M : Mem) (z : Int32) (hF : f_X6_restOf p1 p2 M = some z) (E : ∀ (pc : Nat) (ls : Array Slot) (H : Heap) (locs : List Loc) (v : Int32), decode cX6_restOf pc = .ok (.ireturn, 1) → WD D cy ad s M H locs → some v = some z → W p l e R s m args below meth c H locs 0 0 Q (F0 m pc ls [.int v])) (H : Heap) (locs : List Loc) (ls : Array Slot) (hl : lv_has ls 3 [(0, .ref (ad 9)), (1, .int p1), (2, .int p2)]) (hw : WD D cy ad s M H locs) : W p l e R s m args below meth c H locs 0 0 Q (F0 m 0 ls []) := by
  have hx := fx.1.1
  have hb := fx.1.2.1
  have hown := fx.1.2.2.2.1
  have hts := fx.1.2.2.2.2
  unfold f_X6_restOf at hF
  refine lv_aload_n hx hb dX6_restOf_0 rfl (lv_at hl 0 rfl) ?_
  obtain ⟨r4, hgr4, hF⟩ := st_bnd hF
  refine g_cz hw (g_runV (C := RX6) (As := []) (rest := []) fx hw isO_9 rfl (c_X6_isSpeechNow l x D cy ad H.size M r4 hgr4) wd5_107 wd5_109 wd0_43 wd1_8 wd5_110 yd_X6_isSpeechNow rfl rfl (Nat.le_of_ble_eq_true rfl) hl.1 ⟨Nat.le_trans (Nat.le_of_ble_eq_true rfl) hR.1, Nat.le_trans (Nat.le_of_ble_eq_true rfl) hR.2.1⟩ ⟨Nat.le_trans (Nat.le_of_ble_eq_true rfl) hR.2.2.1, Nat.le_trans (Nat.le_of_ble_eq_true rfl) hR.2.2.2⟩ dX6_restOf_1) (fun H locs hbr4 hw => ?_)
  refine lv_if_eq (tgt := 11) hx hb dX6_restOf_4 (by decide) (fun hc4 => ?_) (fun hc4 => ?_)
  · replace hF := st_t hc4 hF
    refine lv_aload_n hx hb dX6_restOf_11 rfl (lv_at hl 0 rfl) ?_
    refine lv_iload_n hx hb dX6_restOf_12 rfl (lv_at hl 2 rfl) ?_
    obtain ⟨r5, hgr5, hF⟩ := st_bnd hF
    refine g_ci hw (g_runV (C := RX6) (As := [.int p2]) (rest := []) fx hw isO_9 rfl (c_X6_words l x D cy ad p2 H.size M r5 hgr5) wd5_165 wd5_167 wd0_53 wd1_8 wd5_168 yd_X6_words rfl rfl (Nat.le_of_ble_eq_true rfl) hl.1 ⟨Nat.le_trans (Nat.le_of_ble_eq_true rfl) hR.1, Nat.le_trans (Nat.le_of_ble_eq_true rfl) hR.2.1⟩ ⟨Nat.le_trans (Nat.le_of_ble_eq_true rfl) hR.2.2.1, Nat.le_trans (Nat.le_of_ble_eq_true rfl) hR.2.2.2⟩ dX6_restOf_13) (fun H locs hw => ?_)
    refine lv_aload_n hx hb dX6_restOf_16 rfl (lv_at hl 0 rfl) ?_
    refine lv_iload_n hx hb dX6_restOf_17 rfl (lv_at hl 1 rfl) ?_
    refine lv_iload_n hx hb dX6_restOf_18 rfl (lv_at hl 2 rfl) ?_
    obtain ⟨r6, hgr6, hF⟩ := st_bnd hF
    refine g_ci hw (g_runV (C := RX6) (As := [.int p1, .int p2]) (rest := [.int r5]) fx hw isO_9 rfl (c_X6_byLeave l x D cy ad p1 p2 H.size M r6 hgr6) wd5_209 wd5_211 wd0_61 wd1_8 wd5_212 yd_X6_byLeave rfl rfl (Nat.le_of_ble_eq_true rfl) hl.1 ⟨Nat.le_trans (Nat.le_of_ble_eq_true rfl) hR.1, Nat.le_trans (Nat.le_of_ble_eq_true rfl) hR.2.1⟩ ⟨Nat.le_trans (Nat.le_of_ble_eq_true rfl) hR.2.2.1, Nat.le_trans (Nat.le_of_ble_eq_true rfl) hR.2.2.2⟩ dX6_restOf_19) (fun H locs hw => ?_)
    refine lv_isub hx hb dX6_restOf_22 ?_
    exact E _ _ _ _ _ dX6_restOf_23 hw hF
  · replace hF := st_f hc4 hF
    refine lv_iconst (v := 0) hx hb dX6_restOf_7 (by decide) ?_
    refine lv_goto (tgt := 23) hx hb dX6_restOf_8 (by decide) ?_
    exact E _ _ _ _ _ dX6_restOf_23 hw hF
theorem c_X6_restOf (l : Launch) (x : SX) (D : va_G) (cy : Nat → ClassId) (ad : Nat → Nat) (p1 p2 : Int32) (sz : Nat) (M : Mem) (z : Int32) (hF : f_X6_restOf p1 p2 M = some z) : Met l yX6_restOf (.code yX6_restOf cX6_restOf 3 (some .int) :: GB) ({ frames := 4, cells := 0, slots := 0, locals := 87 } : Room) (PcW D cy ad x sz M [.ref (ad 9), .int p1, .int p2]) (QiW D cy ad sz z M) 0 0 (AA ad sz) := by
  refine mk_m (own := RX6) (by decide) rfl (Nat.le_of_ble_eq_true rfl) ?_
  intro p e s m args below meth c ls fx hw hl hsz
  subst hsz
  exact b_X6_restOf fx ⟨Nat.le_refl _, Nat.le_refl _, Nat.le_refl _, Nat.le_refl _⟩ p1 p2 M z hF (fun pc ls H locs v hd hw h => by cases h; exact g_iret fx hw rfl hd) _ _ ls hl hw
noncomputable def f_X6_daysOf_29 (M : Mem) : Int32 → Int32 → Option Int32 := fun t0 t1 => (some (t0 * t1))
noncomputable def f_X6_daysOf (p1 p2 : Int32) (M : Mem) : Option Int32 := (bnd (f_X6_restOf p1 p2 M) (fun r7 => (bnd (f_X6_mo p1 1 M) (fun r8 => (chk (inB r8 156) (if (M 10 (ix r8)) = 2 then ((f_X6_daysOf_29 M) ((r7 + 4) / 5) 2) else ((f_X6_daysOf_29 M) ((r7 + 4) / 5) 1)))))))
set_option maxHeartbeats 4000000 in
set_option maxRecDepth 100000 in
theorem b_X6_daysOf {p : Program} {l : Launch} {e : Env} {R : Room} {s : State} {m : MethodId} {args : Array Value} {below : List Frame} {meth : Method} {c : Code} {Q : State → Prop} {D : va_G} {cy : Nat → ClassId} {ad : Nat → Nat} {x : SX} (fx : FX p s m args meth c cX6_daysOf 3 (some .int) RX6 D cy ad x) (hR : 5 ≤ R.frames ∧ 109 ≤ R.locals ∧ 0 ≤ R.cells ∧ 0 ≤ R.slots) (p1 p2 : Int32) (M : Mem) (z : Int32) (hF : f_X6_daysOf p1 p2 M = some z) (E : ∀ (pc : Nat) (ls : Array Slot) (H : Heap) (locs : List Loc) (v : Int32), decode cX6_daysOf pc = .ok (.ireturn, 1) → WD D cy ad s M H locs → some v = some z → W p l e R s m args below meth c H locs 0 0 Q (F0 m pc ls [.int v])) (H : Heap) (locs : List Loc) (ls : Array Slot) (hl : lv_has ls 3 [(0, .ref (ad 9)), (1, .int p1), (2, .int p2)]) (hw : WD D cy ad s M H locs) : W p l e R s m args below meth c H locs 0 0 Q (F0 m 0 ls []) := by
  have hx := fx.1.1
  have hb := fx.1.2.1
  have hown := fx.1.2.2.2.1
  have hts := fx.1.2.2.2.2
  have n_29 : ∀ (t0 : Int32) (t1 : Int32) (H : Heap) (locs : List Loc) (ls : Array Slot), lv_has ls 3 [] → WD D cy ad s M H locs → f_X6_daysOf_29 M t0 t1 = some z → W p l e R s m args below meth c H locs 0 0 Q (F0 m 29 ls [.int t1, .int t0]) := by
    intro t0 t1 H locs ls hl hw hF
    unfold f_X6_daysOf_29 at hF
    refine lv_imul hx hb dX6_daysOf_29 ?_
    exact E _ _ _ _ _ dX6_daysOf_30 hw hF
  unfold f_X6_daysOf at hF
  refine lv_aload_n hx hb dX6_daysOf_0 rfl (lv_at hl 0 rfl) ?_
  refine lv_iload_n hx hb dX6_daysOf_1 rfl (lv_at hl 1 rfl) ?_
  refine lv_iload_n hx hb dX6_daysOf_2 rfl (lv_at hl 2 rfl) ?_
  obtain ⟨r7, hgr7, hF⟩ := st_bnd hF
  refine g_ci hw (g_runV (C := RX6) (As := [.int p1, .int p2]) (rest := []) fx hw isO_9 rfl (c_X6_restOf l x D cy ad p1 p2 H.size M r7 hgr7) wd5_205 wd5_207 wd0_60 wd1_8 wd5_208 yd_X6_restOf rfl rfl (Nat.le_of_ble_eq_true rfl) hl.1 ⟨Nat.le_trans (Nat.le_of_ble_eq_true rfl) hR.1, Nat.le_trans (Nat.le_of_ble_eq_true rfl) hR.2.1⟩ ⟨Nat.le_trans (Nat.le_of_ble_eq_true rfl) hR.2.2.1, Nat.le_trans (Nat.le_of_ble_eq_true rfl) hR.2.2.2⟩ dX6_daysOf_3) (fun H locs hw => ?_)
  refine lv_iconst (v := 4) hx hb dX6_daysOf_6 (by decide) ?_
  refine lv_iadd hx hb dX6_daysOf_7 ?_
  refine lv_iconst (v := 5) hx hb dX6_daysOf_8 (by decide) ?_
  refine lv_idiv hx hb dX6_daysOf_9 (by decide) ?_
  refine lv_aload_n hx hb dX6_daysOf_10 rfl (lv_at hl 0 rfl) ?_
  refine gX6_get fx hw isO_9 0 (by decide) wd5_19 rfl dX6_daysOf_11 ?_
  refine lv_iload_n hx hb dX6_daysOf_14 rfl (lv_at hl 1 rfl) ?_
  refine lv_iconst (v := 1) hx hb dX6_daysOf_15 (by decide) ?_
  obtain ⟨r8, hgr8, hF⟩ := st_bnd hF
  refine g_ci hw (g_runS (As := [.int p1, .int 1]) (rest := [.ref (ad 10), .int ((r7 + 4) / 5)]) fx hw (c_X6_mo l x D cy ad p1 1 H.size M r8 hgr8) wd5_16 wd5_17 wd1_8 wd5_18 yd_X6_mo rfl rfl (Nat.le_of_ble_eq_true rfl) hl.1 ⟨Nat.le_trans (Nat.le_of_ble_eq_true rfl) hR.1, Nat.le_trans (Nat.le_of_ble_eq_true rfl) hR.2.1⟩ ⟨Nat.le_trans (Nat.le_of_ble_eq_true rfl) hR.2.2.1, Nat.le_trans (Nat.le_of_ble_eq_true rfl) hR.2.2.2⟩ dX6_daysOf_16) (fun H locs hw => ?_)
  obtain ⟨hi9, hF⟩ := st_chk hF
  refine g_iald fx hw isA_10 hi9 dX6_daysOf_19 ?_
  refine lv_iconst (v := 2) hx hb dX6_daysOf_20 (by decide) ?_
  refine lv_icmp_ne (tgt := 28) hx hb dX6_daysOf_21 (by decide) (fun hc21 => ?_) (fun hc21 => ?_)
  · replace hF := st_f hc21 hF
    refine lv_iconst (v := 1) hx hb dX6_daysOf_28 (by decide) ?_
    exact n_29 ((r7 + 4) / 5) 1 H locs ls (lv_sub hl [] rfl) hw hF
  · replace hF := st_t hc21 hF
    refine lv_iconst (v := 2) hx hb dX6_daysOf_24 (by decide) ?_
    refine lv_goto (tgt := 29) hx hb dX6_daysOf_25 (by decide) ?_
    exact n_29 ((r7 + 4) / 5) 2 H locs ls (lv_sub hl [] rfl) hw hF
theorem c_X6_daysOf (l : Launch) (x : SX) (D : va_G) (cy : Nat → ClassId) (ad : Nat → Nat) (p1 p2 : Int32) (sz : Nat) (M : Mem) (z : Int32) (hF : f_X6_daysOf p1 p2 M = some z) : Met l yX6_daysOf (.code yX6_daysOf cX6_daysOf 3 (some .int) :: GB) ({ frames := 5, cells := 0, slots := 0, locals := 109 } : Room) (PcW D cy ad x sz M [.ref (ad 9), .int p1, .int p2]) (QiW D cy ad sz z M) 0 0 (AA ad sz) := by
  refine mk_m (own := RX6) (by decide) rfl (Nat.le_of_ble_eq_true rfl) ?_
  intro p e s m args below meth c ls fx hw hl hsz
  subst hsz
  exact b_X6_daysOf fx ⟨Nat.le_refl _, Nat.le_refl _, Nat.le_refl _, Nat.le_refl _⟩ p1 p2 M z hF (fun pc ls H locs v hd hw h => by cases h; exact g_iret fx hw rfl hd) _ _ ls hl hw
noncomputable def f_X6_reason (p1 p2 p3 p4 : Int32) (M : Mem) : Option Int32 := (if p4 = 0 then (bnd (f_X6_isSet p1 2 p3 M) (fun r11 => (if r11 = 0 then (some 2) else (bnd (f_X6_isSet p2 2 p3 M) (fun r12 => (if r12 = 0 then (some 3) else (some 0))))))) else (if p4 = 1 then (bnd (f_X6_pagesOf p1 p3 M) (fun r10 => (if r10 ≤ (M 10 2) then (some 0) else (some 4)))) else (bnd (f_X6_mo p1 5 M) (fun r7 => (chk (inB r7 156) (bnd (f_X6_daysOf p1 p3 M) (fun r9 => (if ((M 10 (ix r7)) + r9) ≤ 99 then (some 0) else (some 5)))))))))
set_option maxHeartbeats 4000000 in
set_option maxRecDepth 100000 in
theorem b_X6_reason {p : Program} {l : Launch} {e : Env} {R : Room} {s : State} {m : MethodId} {args : Array Value} {below : List Frame} {meth : Method} {c : Code} {Q : State → Prop} {D : va_G} {cy : Nat → ClassId} {ad : Nat → Nat} {x : SX} (fx : FX p s m args meth c cX6_reason 5 (some .int) RX6 D cy ad x) (hR : 6 ≤ R.frames ∧ 131 ≤ R.locals ∧ 0 ≤ R.cells ∧ 0 ≤ R.slots) (p1 p2 p3 p4 : Int32) (M : Mem) (z : Int32) (hF : f_X6_reason p1 p2 p3 p4 M = some z) (E : ∀ (pc : Nat) (ls : Array Slot) (H : Heap) (locs : List Loc) (v : Int32), decode cX6_reason pc = .ok (.ireturn, 1) → WD D cy ad s M H locs → some v = some z → W p l e R s m args below meth c H locs 0 0 Q (F0 m pc ls [.int v])) (H : Heap) (locs : List Loc) (ls : Array Slot) (hl : lv_has ls 5 [(0, .ref (ad 9)), (1, .int p1), (2, .int p2), (3, .int p3), (4, .int p4)]) (hw : WD D cy ad s M H locs) : W p l e R s m args below meth c H locs 0 0 Q (F0 m 0 ls []) := by
  have hx := fx.1.1
  have hb := fx.1.2.1
  have hown := fx.1.2.2.2.1
  have hts := fx.1.2.2.2.2
  unfold f_X6_reason at hF
  refine lv_iload hx hb dX6_reason_0 (lv_at hl 4 rfl) ?_
  refine lv_if_ne (tgt := 35) hx hb dX6_reason_2 (by decide) (fun hc2 => ?_) (fun hc2 => ?_)
  · replace hF := st_f hc2 hF
    refine lv_iload hx hb dX6_reason_35 (lv_at hl 4 rfl) ?_
    refine lv_iconst (v := 1) hx hb dX6_reason_37 (by decide) ?_
    refine lv_icmp_ne (tgt := 62) hx hb dX6_reason_38 (by decide) (fun hc38 => ?_) (fun hc38 => ?_)
    · replace hF := st_f hc38 hF
      refine lv_aload_n hx hb dX6_reason_62 rfl (lv_at hl 0 rfl) ?_
      refine gX6_get fx hw isO_9 0 (by decide) wd5_19 rfl dX6_reason_63 ?_
      refine lv_iload_n hx hb dX6_reason_66 rfl (lv_at hl 1 rfl) ?_
      refine lv_iconst (v := 5) hx hb dX6_reason_67 (by decide) ?_
      obtain ⟨r7, hgr7, hF⟩ := st_bnd hF
      refine g_ci hw (g_runS (As := [.int p1, .int 5]) (rest := [.ref (ad 10)]) fx hw (c_X6_mo l x D cy ad p1 5 H.size M r7 hgr7) wd5_16 wd5_17 wd1_8 wd5_18 yd_X6_mo rfl rfl (Nat.le_of_ble_eq_true rfl) hl.1 ⟨Nat.le_trans (Nat.le_of_ble_eq_true rfl) hR.1, Nat.le_trans (Nat.le_of_ble_eq_true rfl) hR.2.1⟩ ⟨Nat.le_trans (Nat.le_of_ble_eq_true rfl) hR.2.2.1, Nat.le_trans (Nat.le_of_ble_eq_true rfl) hR.2.2.2⟩ dX6_reason_68) (fun H locs hw => ?_)
      obtain ⟨hi8, hF⟩ := st_chk hF
      refine g_iald fx hw isA_10 hi8 dX6_reason_71 ?_
      refine lv_aload_n hx hb dX6_reason_72 rfl (lv_at hl 0 rfl) ?_
      refine lv_iload_n hx hb dX6_reason_73 rfl (lv_at hl 1 rfl) ?_
      refine lv_iload_n hx hb dX6_reason_74 rfl (lv_at hl 3 rfl) ?_
      obtain ⟨r9, hgr9, hF⟩ := st_bnd hF
      refine g_ci hw (g_runV (C := RX6) (As := [.int p1, .int p3]) (rest := [.int (M 10 (ix r7))]) fx hw isO_9 rfl (c_X6_daysOf l x D cy ad p1 p3 H.size M r9 hgr9) wd5_201 wd5_203 wd0_59 wd1_8 wd5_204 yd_X6_daysOf rfl rfl (Nat.le_of_ble_eq_true rfl) hl.1 ⟨Nat.le_trans (Nat.le_of_ble_eq_true rfl) hR.1, Nat.le_trans (Nat.le_of_ble_eq_true rfl) hR.2.1⟩ ⟨Nat.le_trans (Nat.le_of_ble_eq_true rfl) hR.2.2.1, Nat.le_trans (Nat.le_of_ble_eq_true rfl) hR.2.2.2⟩ dX6_reason_75) (fun H locs hw => ?_)
      refine lv_iadd hx hb dX6_reason_78 ?_
      refine lv_bipush (v := 99) hx hb dX6_reason_79 (by decide) ?_
      refine lv_icmp_le (tgt := 88) hx hb dX6_reason_81 (by decide) (fun hc81 => ?_) (fun hc81 => ?_)
      · replace hF := st_t hc81 hF
        refine lv_iconst (v := 0) hx hb dX6_reason_88 (by decide) ?_
        exact E _ _ _ _ _ dX6_reason_89 hw hF
      · replace hF := st_f hc81 hF
        refine lv_iconst (v := 5) hx hb dX6_reason_84 (by decide) ?_
        refine lv_goto (tgt := 89) hx hb dX6_reason_85 (by decide) ?_
        exact E _ _ _ _ _ dX6_reason_89 hw hF
    · replace hF := st_t hc38 hF
      refine lv_aload_n hx hb dX6_reason_41 rfl (lv_at hl 0 rfl) ?_
      refine gX6_get fx hw isO_9 0 (by decide) wd5_19 rfl dX6_reason_42 ?_
      refine lv_iconst (v := 2) hx hb dX6_reason_45 (by decide) ?_
      refine g_ialdc fx hw isA_10 (k := 2) rfl (by decide) dX6_reason_46 ?_
      refine lv_aload_n hx hb dX6_reason_47 rfl (lv_at hl 0 rfl) ?_
      refine lv_iload_n hx hb dX6_reason_48 rfl (lv_at hl 1 rfl) ?_
      refine lv_iload_n hx hb dX6_reason_49 rfl (lv_at hl 3 rfl) ?_
      obtain ⟨r10, hgr10, hF⟩ := st_bnd hF
      refine g_ci hw (g_runV (C := RX6) (As := [.int p1, .int p3]) (rest := [.int (M 10 2)]) fx hw isO_9 rfl (c_X6_pagesOf l x D cy ad p1 p3 H.size M r10 hgr10) wd5_197 wd5_199 wd0_58 wd1_8 wd5_200 yd_X6_pagesOf rfl rfl (Nat.le_of_ble_eq_true rfl) hl.1 ⟨Nat.le_trans (Nat.le_of_ble_eq_true rfl) hR.1, Nat.le_trans (Nat.le_of_ble_eq_true rfl) hR.2.1⟩ ⟨Nat.le_trans (Nat.le_of_ble_eq_true rfl) hR.2.2.1, Nat.le_trans (Nat.le_of_ble_eq_true rfl) hR.2.2.2⟩ dX6_reason_50) (fun H locs hw => ?_)
      refine lv_icmp_ge (tgt := 60) hx hb dX6_reason_53 (by decide) (fun hc53 => ?_) (fun hc53 => ?_)
      · replace hF := st_t hc53 hF
        refine lv_iconst (v := 0) hx hb dX6_reason_60 (by decide) ?_
        exact E _ _ _ _ _ dX6_reason_61 hw hF
      · replace hF := st_f hc53 hF
        refine lv_iconst (v := 4) hx hb dX6_reason_56 (by decide) ?_
        refine lv_goto (tgt := 61) hx hb dX6_reason_57 (by decide) ?_
        exact E _ _ _ _ _ dX6_reason_61 hw hF
  · replace hF := st_t hc2 hF
    refine lv_aload_n hx hb dX6_reason_5 rfl (lv_at hl 0 rfl) ?_
    refine lv_iload_n hx hb dX6_reason_6 rfl (lv_at hl 1 rfl) ?_
    refine lv_iconst (v := 2) hx hb dX6_reason_7 (by decide) ?_
    refine lv_iload_n hx hb dX6_reason_8 rfl (lv_at hl 3 rfl) ?_
    obtain ⟨r11, hgr11, hF⟩ := st_bnd hF
    refine g_cz hw (g_runV (C := RX6) (As := [.int p1, .int 2, .int p3]) (rest := []) fx hw isO_9 rfl (c_X6_isSet l x D cy ad p1 2 p3 H.size M r11 hgr11) wd5_173 wd5_175 wd0_55 wd1_8 wd5_176 yd_X6_isSet rfl rfl (Nat.le_of_ble_eq_true rfl) hl.1 ⟨Nat.le_trans (Nat.le_of_ble_eq_true rfl) hR.1, Nat.le_trans (Nat.le_of_ble_eq_true rfl) hR.2.1⟩ ⟨Nat.le_trans (Nat.le_of_ble_eq_true rfl) hR.2.2.1, Nat.le_trans (Nat.le_of_ble_eq_true rfl) hR.2.2.2⟩ dX6_reason_9) (fun H locs hbr11 hw => ?_)
    refine lv_if_ne (tgt := 19) hx hb dX6_reason_12 (by decide) (fun hc12 => ?_) (fun hc12 => ?_)
    · replace hF := st_f hc12 hF
      refine lv_aload_n hx hb dX6_reason_19 rfl (lv_at hl 0 rfl) ?_
      refine lv_iload_n hx hb dX6_reason_20 rfl (lv_at hl 2 rfl) ?_
      refine lv_iconst (v := 2) hx hb dX6_reason_21 (by decide) ?_
      refine lv_iload_n hx hb dX6_reason_22 rfl (lv_at hl 3 rfl) ?_
      obtain ⟨r12, hgr12, hF⟩ := st_bnd hF
      refine g_cz hw (g_runV (C := RX6) (As := [.int p2, .int 2, .int p3]) (rest := []) fx hw isO_9 rfl (c_X6_isSet l x D cy ad p2 2 p3 H.size M r12 hgr12) wd5_173 wd5_175 wd0_55 wd1_8 wd5_176 yd_X6_isSet rfl rfl (Nat.le_of_ble_eq_true rfl) hl.1 ⟨Nat.le_trans (Nat.le_of_ble_eq_true rfl) hR.1, Nat.le_trans (Nat.le_of_ble_eq_true rfl) hR.2.1⟩ ⟨Nat.le_trans (Nat.le_of_ble_eq_true rfl) hR.2.2.1, Nat.le_trans (Nat.le_of_ble_eq_true rfl) hR.2.2.2⟩ dX6_reason_23) (fun H locs hbr12 hw => ?_)
      refine lv_if_eq (tgt := 33) hx hb dX6_reason_26 (by decide) (fun hc26 => ?_) (fun hc26 => ?_)
      · replace hF := st_t hc26 hF
        refine lv_iconst (v := 3) hx hb dX6_reason_33 (by decide) ?_
        exact E _ _ _ _ _ dX6_reason_34 hw hF
      · replace hF := st_f hc26 hF
        refine lv_iconst (v := 0) hx hb dX6_reason_29 (by decide) ?_
        refine lv_goto (tgt := 34) hx hb dX6_reason_30 (by decide) ?_
        exact E _ _ _ _ _ dX6_reason_34 hw hF
    · replace hF := st_t hc12 hF
      refine lv_iconst (v := 2) hx hb dX6_reason_15 (by decide) ?_
      refine lv_goto (tgt := 34) hx hb dX6_reason_16 (by decide) ?_
      exact E _ _ _ _ _ dX6_reason_34 hw hF
theorem c_X6_reason (l : Launch) (x : SX) (D : va_G) (cy : Nat → ClassId) (ad : Nat → Nat) (p1 p2 p3 p4 : Int32) (sz : Nat) (M : Mem) (z : Int32) (hF : f_X6_reason p1 p2 p3 p4 M = some z) : Met l yX6_reason (.code yX6_reason cX6_reason 5 (some .int) :: GB) ({ frames := 6, cells := 0, slots := 0, locals := 131 } : Room) (PcW D cy ad x sz M [.ref (ad 9), .int p1, .int p2, .int p3, .int p4]) (QiW D cy ad sz z M) 0 0 (AA ad sz) := by
  refine mk_m (own := RX6) (by decide) rfl (Nat.le_of_ble_eq_true rfl) ?_
  intro p e s m args below meth c ls fx hw hl hsz
  subst hsz
  exact b_X6_reason fx ⟨Nat.le_refl _, Nat.le_refl _, Nat.le_refl _, Nat.le_refl _⟩ p1 p2 p3 p4 M z hF (fun pc ls H locs v hd hw h => by cases h; exact g_iret fx hw rfl hd) _ _ ls hl hw
noncomputable def f_X6_speaks_100 : Int32 → Int32 → Int32 → Int32 → Int32 → Int32 → Int32 → Mem → Option (Int32 × Mem) := fun a1 a3 a4 a5 t1 t2 t3 M => (chk (inB t1 156) (letM (mput M 10 (ix t1) (t2 + t3)) (fun M47 => (letM (mput M47 10 14 ((M47 10 14) + a3)) (fun M49 => (bnd (f_X6_mo a1 4 M49) (fun r50 => (chk (inB r50 156) (chk (inB r50 156) (letM (mput M49 10 (ix r50) ((M49 10 (ix r50)) - a4)) (fun M52 => (bnd (f_X6_mo a1 5 M52) (fun r54 => (chk (inB r54 156) (chk (inB r54 156) (letM (mput M52 10 (ix r54) ((M52 10 (ix r54)) + a3)) (fun M56 => (if a5 ≤ 0 then (some (a3, M56)) else (bnd (f_X6_mo a1 7 M56) (fun r58 => (chk (inB r58 156) (letM (mput M56 10 (ix r58) 1) (fun M59 => (some (a3, M59)))))))))))))))))))))))))
noncomputable def f_X6_speaks (p1 p2 : Int32) (M : Mem) : Option (Int32 × Mem) := (bnd (f_X6_daysOf p1 p2 M) (fun r61 => (bnd (f_X6_byLeave p1 p2 M) (fun r62 => (bnd (f_X6_restOf p1 p2 M) (fun r63 => (bnd (f_X6_words p2 M) (fun r64 => (letM (mput M 10 5 ((M 10 5) + r64)) (fun M65 => (bnd (f_X6_words p2 M65) (fun r66 => (letM (mput M65 10 10 ((M65 10 10) + ((r66 - r62) - r63))) (fun M67 => (letM (mput M67 10 11 ((M67 10 11) + r62)) (fun M68 => (letM (mput M68 10 12 ((M68 10 12) + r63)) (fun M69 => (if r63 ≤ 0 then ((f_X6_speaks_100) p1 r61 r62 r63 13 (M69 10 13) 0 M69) else ((f_X6_speaks_100) p1 r61 r62 r63 13 (M69 10 13) 1 M69))))))))))))))))))))
set_option maxHeartbeats 4000000 in
set_option maxRecDepth 100000 in
theorem b_X6_speaks {p : Program} {l : Launch} {e : Env} {R : Room} {s : State} {m : MethodId} {args : Array Value} {below : List Frame} {meth : Method} {c : Code} {Q : State → Prop} {D : va_G} {cy : Nat → ClassId} {ad : Nat → Nat} {x : SX} (fx : FX p s m args meth c cX6_speaks 6 (some .int) RX6 D cy ad x) (hR : 6 ≤ R.frames ∧ 131 ≤ R.locals ∧ 0 ≤ R.cells ∧ 0 ≤ R.slots) (p1 p2 : Int32) (M : Mem) (z : Int32) (M' : Mem) (hF : f_X6_speaks p1 p2 M = some (z, M')) (E : ∀ (pc : Nat) (ls : Array Slot) (H : Heap) (locs : List Loc) (v : Int32) (M1 : Mem), decode cX6_speaks pc = .ok (.ireturn, 1) → WD D cy ad s M1 H locs → some (v, M1) = some (z, M') → W p l e R s m args below meth c H locs 0 0 Q (F0 m pc ls [.int v])) (H : Heap) (locs : List Loc) (ls : Array Slot) (hl : lv_has ls 6 [(0, .ref (ad 9)), (1, .int p1), (2, .int p2)]) (hw : WD D cy ad s M H locs) : W p l e R s m args below meth c H locs 0 0 Q (F0 m 0 ls []) := by
  have hx := fx.1.1
  have hb := fx.1.2.1
  have hown := fx.1.2.2.2.1
  have hts := fx.1.2.2.2.2
  have n_100 : ∀ (a1 : Int32) (a3 : Int32) (a4 : Int32) (a5 : Int32) (t1 : Int32) (t2 : Int32) (t3 : Int32) (M : Mem) (H : Heap) (locs : List Loc) (ls : Array Slot), lv_has ls 6 [(0, .ref (ad 9)), (1, .int a1), (3, .int a3), (4, .int a4), (5, .int a5)] → WD D cy ad s M H locs → f_X6_speaks_100 a1 a3 a4 a5 t1 t2 t3 M = some (z, M') → W p l e R s m args below meth c H locs 0 0 Q (F0 m 100 ls [.int t3, .int t2, .int t1, .ref (ad 10)]) := by
    intro a1 a3 a4 a5 t1 t2 t3 M H locs ls hl hw hF
    unfold f_X6_speaks_100 at hF
    refine lv_iadd hx hb dX6_speaks_100 ?_
    obtain ⟨hi48, hF⟩ := st_chk hF
    obtain ⟨M47, eM47, hF⟩ := st_letM hF
    refine g_iast fx hw isA_10 hi48 eM47 dX6_speaks_101 (fun H locs hw => ?_)
    refine lv_aload_n hx hb dX6_speaks_102 rfl (lv_at hl 0 rfl) ?_
    refine gX6_get fx hw isO_9 0 (by decide) wd5_19 rfl dX6_speaks_103 ?_
    refine lv_bipush (v := 14) hx hb dX6_speaks_106 (by decide) ?_
    refine lv_dup2_11 hx hb dX6_speaks_108 rfl rfl ?_
    refine g_ialdc fx hw isA_10 (k := 14) rfl (by decide) dX6_speaks_109 ?_
    refine lv_iload_n hx hb dX6_speaks_110 rfl (lv_at hl 2 rfl) ?_
    refine lv_iadd hx hb dX6_speaks_111 ?_
    obtain ⟨M49, eM49, hF⟩ := st_letM hF
    refine g_iastc fx hw isA_10 (k := 14) rfl (by decide) eM49 dX6_speaks_112 (fun H locs hw => ?_)
    refine lv_aload_n hx hb dX6_speaks_113 rfl (lv_at hl 0 rfl) ?_
    refine gX6_get fx hw isO_9 0 (by decide) wd5_19 rfl dX6_speaks_114 ?_
    refine lv_iload_n hx hb dX6_speaks_117 rfl (lv_at hl 1 rfl) ?_
    refine lv_iconst (v := 4) hx hb dX6_speaks_118 (by decide) ?_
    obtain ⟨r50, hgr50, hF⟩ := st_bnd hF
    refine g_ci hw (g_runS (As := [.int a1, .int 4]) (rest := [.ref (ad 10)]) fx hw (c_X6_mo l x D cy ad a1 4 H.size M49 r50 hgr50) wd5_16 wd5_17 wd1_8 wd5_18 yd_X6_mo rfl rfl (Nat.le_of_ble_eq_true rfl) hl.1 ⟨Nat.le_trans (Nat.le_of_ble_eq_true rfl) hR.1, Nat.le_trans (Nat.le_of_ble_eq_true rfl) hR.2.1⟩ ⟨Nat.le_trans (Nat.le_of_ble_eq_true rfl) hR.2.2.1, Nat.le_trans (Nat.le_of_ble_eq_true rfl) hR.2.2.2⟩ dX6_speaks_119) (fun H locs hw => ?_)
    refine lv_dup2_11 hx hb dX6_speaks_122 rfl rfl ?_
    obtain ⟨hi51, hF⟩ := st_chk hF
    refine g_iald fx hw isA_10 hi51 dX6_speaks_123 ?_
    refine lv_iload hx hb dX6_speaks_124 (lv_at hl 3 rfl) ?_
    refine lv_isub hx hb dX6_speaks_126 ?_
    obtain ⟨hi53, hF⟩ := st_chk hF
    obtain ⟨M52, eM52, hF⟩ := st_letM hF
    refine g_iast fx hw isA_10 hi53 eM52 dX6_speaks_127 (fun H locs hw => ?_)
    refine lv_aload_n hx hb dX6_speaks_128 rfl (lv_at hl 0 rfl) ?_
    refine gX6_get fx hw isO_9 0 (by decide) wd5_19 rfl dX6_speaks_129 ?_
    refine lv_iload_n hx hb dX6_speaks_132 rfl (lv_at hl 1 rfl) ?_
    refine lv_iconst (v := 5) hx hb dX6_speaks_133 (by decide) ?_
    obtain ⟨r54, hgr54, hF⟩ := st_bnd hF
    refine g_ci hw (g_runS (As := [.int a1, .int 5]) (rest := [.ref (ad 10)]) fx hw (c_X6_mo l x D cy ad a1 5 H.size M52 r54 hgr54) wd5_16 wd5_17 wd1_8 wd5_18 yd_X6_mo rfl rfl (Nat.le_of_ble_eq_true rfl) hl.1 ⟨Nat.le_trans (Nat.le_of_ble_eq_true rfl) hR.1, Nat.le_trans (Nat.le_of_ble_eq_true rfl) hR.2.1⟩ ⟨Nat.le_trans (Nat.le_of_ble_eq_true rfl) hR.2.2.1, Nat.le_trans (Nat.le_of_ble_eq_true rfl) hR.2.2.2⟩ dX6_speaks_134) (fun H locs hw => ?_)
    refine lv_dup2_11 hx hb dX6_speaks_137 rfl rfl ?_
    obtain ⟨hi55, hF⟩ := st_chk hF
    refine g_iald fx hw isA_10 hi55 dX6_speaks_138 ?_
    refine lv_iload_n hx hb dX6_speaks_139 rfl (lv_at hl 2 rfl) ?_
    refine lv_iadd hx hb dX6_speaks_140 ?_
    obtain ⟨hi57, hF⟩ := st_chk hF
    obtain ⟨M56, eM56, hF⟩ := st_letM hF
    refine g_iast fx hw isA_10 hi57 eM56 dX6_speaks_141 (fun H locs hw => ?_)
    refine lv_iload hx hb dX6_speaks_142 (lv_at hl 4 rfl) ?_
    refine lv_if_le (tgt := 159) hx hb dX6_speaks_144 (by decide) (fun hc144 => ?_) (fun hc144 => ?_)
    · replace hF := st_t hc144 hF
      refine lv_iload_n hx hb dX6_speaks_159 rfl (lv_at hl 2 rfl) ?_
      exact E _ _ _ _ _ _ dX6_speaks_160 hw hF
    · replace hF := st_f hc144 hF
      refine lv_aload_n hx hb dX6_speaks_147 rfl (lv_at hl 0 rfl) ?_
      refine gX6_get fx hw isO_9 0 (by decide) wd5_19 rfl dX6_speaks_148 ?_
      refine lv_iload_n hx hb dX6_speaks_151 rfl (lv_at hl 1 rfl) ?_
      refine lv_bipush (v := 7) hx hb dX6_speaks_152 (by decide) ?_
      obtain ⟨r58, hgr58, hF⟩ := st_bnd hF
      refine g_ci hw (g_runS (As := [.int a1, .int 7]) (rest := [.ref (ad 10)]) fx hw (c_X6_mo l x D cy ad a1 7 H.size M56 r58 hgr58) wd5_16 wd5_17 wd1_8 wd5_18 yd_X6_mo rfl rfl (Nat.le_of_ble_eq_true rfl) hl.1 ⟨Nat.le_trans (Nat.le_of_ble_eq_true rfl) hR.1, Nat.le_trans (Nat.le_of_ble_eq_true rfl) hR.2.1⟩ ⟨Nat.le_trans (Nat.le_of_ble_eq_true rfl) hR.2.2.1, Nat.le_trans (Nat.le_of_ble_eq_true rfl) hR.2.2.2⟩ dX6_speaks_154) (fun H locs hw => ?_)
      refine lv_iconst (v := 1) hx hb dX6_speaks_157 (by decide) ?_
      obtain ⟨hi60, hF⟩ := st_chk hF
      obtain ⟨M59, eM59, hF⟩ := st_letM hF
      refine g_iast fx hw isA_10 hi60 eM59 dX6_speaks_158 (fun H locs hw => ?_)
      refine lv_iload_n hx hb dX6_speaks_159 rfl (lv_at hl 2 rfl) ?_
      exact E _ _ _ _ _ _ dX6_speaks_160 hw hF
  unfold f_X6_speaks at hF
  refine lv_aload_n hx hb dX6_speaks_0 rfl (lv_at hl 0 rfl) ?_
  refine lv_iload_n hx hb dX6_speaks_1 rfl (lv_at hl 1 rfl) ?_
  refine lv_iload_n hx hb dX6_speaks_2 rfl (lv_at hl 2 rfl) ?_
  obtain ⟨r61, hgr61, hF⟩ := st_bnd hF
  refine g_ci hw (g_runV (C := RX6) (As := [.int p1, .int p2]) (rest := []) fx hw isO_9 rfl (c_X6_daysOf l x D cy ad p1 p2 H.size M r61 hgr61) wd5_201 wd5_203 wd0_59 wd1_8 wd5_204 yd_X6_daysOf rfl rfl (Nat.le_of_ble_eq_true rfl) hl.1 ⟨Nat.le_trans (Nat.le_of_ble_eq_true rfl) hR.1, Nat.le_trans (Nat.le_of_ble_eq_true rfl) hR.2.1⟩ ⟨Nat.le_trans (Nat.le_of_ble_eq_true rfl) hR.2.2.1, Nat.le_trans (Nat.le_of_ble_eq_true rfl) hR.2.2.2⟩ dX6_speaks_3) (fun H locs hw => ?_)
  refine lv_istore_n (lv' := [(3, .int r61), (0, .ref (ad 9)), (1, .int p1), (2, .int p2)]) hx hb dX6_speaks_6 rfl hl (by decide) rfl (fun ls hl => ?_)
  refine lv_aload_n hx hb dX6_speaks_7 rfl (lv_at hl 1 rfl) ?_
  refine lv_iload_n hx hb dX6_speaks_8 rfl (lv_at hl 2 rfl) ?_
  refine lv_iload_n hx hb dX6_speaks_9 rfl (lv_at hl 3 rfl) ?_
  obtain ⟨r62, hgr62, hF⟩ := st_bnd hF
  refine g_ci hw (g_runV (C := RX6) (As := [.int p1, .int p2]) (rest := []) fx hw isO_9 rfl (c_X6_byLeave l x D cy ad p1 p2 H.size M r62 hgr62) wd5_209 wd5_211 wd0_61 wd1_8 wd5_212 yd_X6_byLeave rfl rfl (Nat.le_of_ble_eq_true rfl) hl.1 ⟨Nat.le_trans (Nat.le_of_ble_eq_true rfl) hR.1, Nat.le_trans (Nat.le_of_ble_eq_true rfl) hR.2.1⟩ ⟨Nat.le_trans (Nat.le_of_ble_eq_true rfl) hR.2.2.1, Nat.le_trans (Nat.le_of_ble_eq_true rfl) hR.2.2.2⟩ dX6_speaks_10) (fun H locs hw => ?_)
  refine lv_istore (lv' := [(4, .int r62), (3, .int r61), (0, .ref (ad 9)), (1, .int p1), (2, .int p2)]) hx hb dX6_speaks_13 hl (by decide) rfl (fun ls hl => ?_)
  refine lv_aload_n hx hb dX6_speaks_15 rfl (lv_at hl 2 rfl) ?_
  refine lv_iload_n hx hb dX6_speaks_16 rfl (lv_at hl 3 rfl) ?_
  refine lv_iload_n hx hb dX6_speaks_17 rfl (lv_at hl 4 rfl) ?_
  obtain ⟨r63, hgr63, hF⟩ := st_bnd hF
  refine g_ci hw (g_runV (C := RX6) (As := [.int p1, .int p2]) (rest := []) fx hw isO_9 rfl (c_X6_restOf l x D cy ad p1 p2 H.size M r63 hgr63) wd5_205 wd5_207 wd0_60 wd1_8 wd5_208 yd_X6_restOf rfl rfl (Nat.le_of_ble_eq_true rfl) hl.1 ⟨Nat.le_trans (Nat.le_of_ble_eq_true rfl) hR.1, Nat.le_trans (Nat.le_of_ble_eq_true rfl) hR.2.1⟩ ⟨Nat.le_trans (Nat.le_of_ble_eq_true rfl) hR.2.2.1, Nat.le_trans (Nat.le_of_ble_eq_true rfl) hR.2.2.2⟩ dX6_speaks_18) (fun H locs hw => ?_)
  refine lv_istore (lv' := [(5, .int r63), (4, .int r62), (3, .int r61), (0, .ref (ad 9)), (1, .int p1), (2, .int p2)]) hx hb dX6_speaks_21 hl (by decide) rfl (fun ls hl => ?_)
  refine lv_aload_n hx hb dX6_speaks_23 rfl (lv_at hl 3 rfl) ?_
  refine gX6_get fx hw isO_9 0 (by decide) wd5_19 rfl dX6_speaks_24 ?_
  refine lv_iconst (v := 5) hx hb dX6_speaks_27 (by decide) ?_
  refine lv_dup2_11 hx hb dX6_speaks_28 rfl rfl ?_
  refine g_ialdc fx hw isA_10 (k := 5) rfl (by decide) dX6_speaks_29 ?_
  refine lv_aload_n hx hb dX6_speaks_30 rfl (lv_at hl 3 rfl) ?_
  refine lv_iload_n hx hb dX6_speaks_31 rfl (lv_at hl 5 rfl) ?_
  obtain ⟨r64, hgr64, hF⟩ := st_bnd hF
  refine g_ci hw (g_runV (C := RX6) (As := [.int p2]) (rest := [.int (M 10 5), .int 5, .ref (ad 10)]) fx hw isO_9 rfl (c_X6_words l x D cy ad p2 H.size M r64 hgr64) wd5_165 wd5_167 wd0_53 wd1_8 wd5_168 yd_X6_words rfl rfl (Nat.le_of_ble_eq_true rfl) hl.1 ⟨Nat.le_trans (Nat.le_of_ble_eq_true rfl) hR.1, Nat.le_trans (Nat.le_of_ble_eq_true rfl) hR.2.1⟩ ⟨Nat.le_trans (Nat.le_of_ble_eq_true rfl) hR.2.2.1, Nat.le_trans (Nat.le_of_ble_eq_true rfl) hR.2.2.2⟩ dX6_speaks_32) (fun H locs hw => ?_)
  refine lv_iadd hx hb dX6_speaks_35 ?_
  obtain ⟨M65, eM65, hF⟩ := st_letM hF
  refine g_iastc fx hw isA_10 (k := 5) rfl (by decide) eM65 dX6_speaks_36 (fun H locs hw => ?_)
  refine lv_aload_n hx hb dX6_speaks_37 rfl (lv_at hl 3 rfl) ?_
  refine gX6_get fx hw isO_9 0 (by decide) wd5_19 rfl dX6_speaks_38 ?_
  refine lv_bipush (v := 10) hx hb dX6_speaks_41 (by decide) ?_
  refine lv_dup2_11 hx hb dX6_speaks_43 rfl rfl ?_
  refine g_ialdc fx hw isA_10 (k := 10) rfl (by decide) dX6_speaks_44 ?_
  refine lv_aload_n hx hb dX6_speaks_45 rfl (lv_at hl 3 rfl) ?_
  refine lv_iload_n hx hb dX6_speaks_46 rfl (lv_at hl 5 rfl) ?_
  obtain ⟨r66, hgr66, hF⟩ := st_bnd hF
  refine g_ci hw (g_runV (C := RX6) (As := [.int p2]) (rest := [.int (M65 10 10), .int 10, .ref (ad 10)]) fx hw isO_9 rfl (c_X6_words l x D cy ad p2 H.size M65 r66 hgr66) wd5_165 wd5_167 wd0_53 wd1_8 wd5_168 yd_X6_words rfl rfl (Nat.le_of_ble_eq_true rfl) hl.1 ⟨Nat.le_trans (Nat.le_of_ble_eq_true rfl) hR.1, Nat.le_trans (Nat.le_of_ble_eq_true rfl) hR.2.1⟩ ⟨Nat.le_trans (Nat.le_of_ble_eq_true rfl) hR.2.2.1, Nat.le_trans (Nat.le_of_ble_eq_true rfl) hR.2.2.2⟩ dX6_speaks_47) (fun H locs hw => ?_)
  refine lv_iload hx hb dX6_speaks_50 (lv_at hl 1 rfl) ?_
  refine lv_isub hx hb dX6_speaks_52 ?_
  refine lv_iload hx hb dX6_speaks_53 (lv_at hl 0 rfl) ?_
  refine lv_isub hx hb dX6_speaks_55 ?_
  refine lv_iadd hx hb dX6_speaks_56 ?_
  obtain ⟨M67, eM67, hF⟩ := st_letM hF
  refine g_iastc fx hw isA_10 (k := 10) rfl (by decide) eM67 dX6_speaks_57 (fun H locs hw => ?_)
  refine lv_aload_n hx hb dX6_speaks_58 rfl (lv_at hl 3 rfl) ?_
  refine gX6_get fx hw isO_9 0 (by decide) wd5_19 rfl dX6_speaks_59 ?_
  refine lv_bipush (v := 11) hx hb dX6_speaks_62 (by decide) ?_
  refine lv_dup2_11 hx hb dX6_speaks_64 rfl rfl ?_
  refine g_ialdc fx hw isA_10 (k := 11) rfl (by decide) dX6_speaks_65 ?_
  refine lv_iload hx hb dX6_speaks_66 (lv_at hl 1 rfl) ?_
  refine lv_iadd hx hb dX6_speaks_68 ?_
  obtain ⟨M68, eM68, hF⟩ := st_letM hF
  refine g_iastc fx hw isA_10 (k := 11) rfl (by decide) eM68 dX6_speaks_69 (fun H locs hw => ?_)
  refine lv_aload_n hx hb dX6_speaks_70 rfl (lv_at hl 3 rfl) ?_
  refine gX6_get fx hw isO_9 0 (by decide) wd5_19 rfl dX6_speaks_71 ?_
  refine lv_bipush (v := 12) hx hb dX6_speaks_74 (by decide) ?_
  refine lv_dup2_11 hx hb dX6_speaks_76 rfl rfl ?_
  refine g_ialdc fx hw isA_10 (k := 12) rfl (by decide) dX6_speaks_77 ?_
  refine lv_iload hx hb dX6_speaks_78 (lv_at hl 0 rfl) ?_
  refine lv_iadd hx hb dX6_speaks_80 ?_
  obtain ⟨M69, eM69, hF⟩ := st_letM hF
  refine g_iastc fx hw isA_10 (k := 12) rfl (by decide) eM69 dX6_speaks_81 (fun H locs hw => ?_)
  refine lv_aload_n hx hb dX6_speaks_82 rfl (lv_at hl 3 rfl) ?_
  refine gX6_get fx hw isO_9 0 (by decide) wd5_19 rfl dX6_speaks_83 ?_
  refine lv_bipush (v := 13) hx hb dX6_speaks_86 (by decide) ?_
  refine lv_dup2_11 hx hb dX6_speaks_88 rfl rfl ?_
  refine g_ialdc fx hw isA_10 (k := 13) rfl (by decide) dX6_speaks_89 ?_
  refine lv_iload hx hb dX6_speaks_90 (lv_at hl 0 rfl) ?_
  refine lv_if_le (tgt := 99) hx hb dX6_speaks_92 (by decide) (fun hc92 => ?_) (fun hc92 => ?_)
  · replace hF := st_t hc92 hF
    refine lv_iconst (v := 0) hx hb dX6_speaks_99 (by decide) ?_
    exact n_100 p1 r61 r62 r63 13 (M69 10 13) 0 M69 H locs ls (lv_sub hl [3, 4, 2, 1, 0] rfl) hw hF
  · replace hF := st_f hc92 hF
    refine lv_iconst (v := 1) hx hb dX6_speaks_95 (by decide) ?_
    refine lv_goto (tgt := 100) hx hb dX6_speaks_96 (by decide) ?_
    exact n_100 p1 r61 r62 r63 13 (M69 10 13) 1 M69 H locs ls (lv_sub hl [3, 4, 2, 1, 0] rfl) hw hF
theorem c_X6_speaks (l : Launch) (x : SX) (D : va_G) (cy : Nat → ClassId) (ad : Nat → Nat) (p1 p2 : Int32) (sz : Nat) (M : Mem) (z : Int32) (M' : Mem) (hF : f_X6_speaks p1 p2 M = some (z, M')) : Met l yX6_speaks (.code yX6_speaks cX6_speaks 6 (some .int) :: GB) ({ frames := 6, cells := 0, slots := 0, locals := 131 } : Room) (PcW D cy ad x sz M [.ref (ad 9), .int p1, .int p2]) (QiW D cy ad sz z M') 0 0 (AA ad sz) := by
  refine mk_m (own := RX6) (by decide) rfl (Nat.le_of_ble_eq_true rfl) ?_
  intro p e s m args below meth c ls fx hw hl hsz
  subst hsz
  exact b_X6_speaks fx ⟨Nat.le_refl _, Nat.le_refl _, Nat.le_refl _, Nat.le_refl _⟩ p1 p2 M z M' hF (fun pc ls H locs v M1 hd hw h => by cases h; exact g_iret fx hw rfl hd) _ _ ls hl hw
noncomputable def f_X6_writesSlip (p1 p2 : Int32) (M : Mem) : Option (Int32 × Mem) := (bnd (f_X6_pagesOf p1 p2 M) (fun r4 => (letM (mput M 10 2 ((M 10 2) - r4)) (fun M5 => (letM (mput M5 10 9 ((M5 10 9) + r4)) (fun M6 => (some (r4, M6))))))))
set_option maxHeartbeats 4000000 in
set_option maxRecDepth 100000 in
theorem b_X6_writesSlip {p : Program} {l : Launch} {e : Env} {R : Room} {s : State} {m : MethodId} {args : Array Value} {below : List Frame} {meth : Method} {c : Code} {Q : State → Prop} {D : va_G} {cy : Nat → ClassId} {ad : Nat → Nat} {x : SX} (fx : FX p s m args meth c cX6_writesSlip 4 (some .int) RX6 D cy ad x) (hR : 2 ≤ R.frames ∧ 43 ≤ R.locals ∧ 0 ≤ R.cells ∧ 0 ≤ R.slots) (p1 p2 : Int32) (M : Mem) (z : Int32) (M' : Mem) (hF : f_X6_writesSlip p1 p2 M = some (z, M')) (E : ∀ (pc : Nat) (ls : Array Slot) (H : Heap) (locs : List Loc) (v : Int32) (M1 : Mem), decode cX6_writesSlip pc = .ok (.ireturn, 1) → WD D cy ad s M1 H locs → some (v, M1) = some (z, M') → W p l e R s m args below meth c H locs 0 0 Q (F0 m pc ls [.int v])) (H : Heap) (locs : List Loc) (ls : Array Slot) (hl : lv_has ls 4 [(0, .ref (ad 9)), (1, .int p1), (2, .int p2)]) (hw : WD D cy ad s M H locs) : W p l e R s m args below meth c H locs 0 0 Q (F0 m 0 ls []) := by
  have hx := fx.1.1
  have hb := fx.1.2.1
  have hown := fx.1.2.2.2.1
  have hts := fx.1.2.2.2.2
  unfold f_X6_writesSlip at hF
  refine lv_aload_n hx hb dX6_writesSlip_0 rfl (lv_at hl 0 rfl) ?_
  refine lv_iload_n hx hb dX6_writesSlip_1 rfl (lv_at hl 1 rfl) ?_
  refine lv_iload_n hx hb dX6_writesSlip_2 rfl (lv_at hl 2 rfl) ?_
  obtain ⟨r4, hgr4, hF⟩ := st_bnd hF
  refine g_ci hw (g_runV (C := RX6) (As := [.int p1, .int p2]) (rest := []) fx hw isO_9 rfl (c_X6_pagesOf l x D cy ad p1 p2 H.size M r4 hgr4) wd5_197 wd5_199 wd0_58 wd1_8 wd5_200 yd_X6_pagesOf rfl rfl (Nat.le_of_ble_eq_true rfl) hl.1 ⟨Nat.le_trans (Nat.le_of_ble_eq_true rfl) hR.1, Nat.le_trans (Nat.le_of_ble_eq_true rfl) hR.2.1⟩ ⟨Nat.le_trans (Nat.le_of_ble_eq_true rfl) hR.2.2.1, Nat.le_trans (Nat.le_of_ble_eq_true rfl) hR.2.2.2⟩ dX6_writesSlip_3) (fun H locs hw => ?_)
  refine lv_istore_n (lv' := [(3, .int r4), (0, .ref (ad 9)), (1, .int p1), (2, .int p2)]) hx hb dX6_writesSlip_6 rfl hl (by decide) rfl (fun ls hl => ?_)
  refine lv_aload_n hx hb dX6_writesSlip_7 rfl (lv_at hl 1 rfl) ?_
  refine gX6_get fx hw isO_9 0 (by decide) wd5_19 rfl dX6_writesSlip_8 ?_
  refine lv_iconst (v := 2) hx hb dX6_writesSlip_11 (by decide) ?_
  refine lv_dup2_11 hx hb dX6_writesSlip_12 rfl rfl ?_
  refine g_ialdc fx hw isA_10 (k := 2) rfl (by decide) dX6_writesSlip_13 ?_
  refine lv_iload_n hx hb dX6_writesSlip_14 rfl (lv_at hl 0 rfl) ?_
  refine lv_isub hx hb dX6_writesSlip_15 ?_
  obtain ⟨M5, eM5, hF⟩ := st_letM hF
  refine g_iastc fx hw isA_10 (k := 2) rfl (by decide) eM5 dX6_writesSlip_16 (fun H locs hw => ?_)
  refine lv_aload_n hx hb dX6_writesSlip_17 rfl (lv_at hl 1 rfl) ?_
  refine gX6_get fx hw isO_9 0 (by decide) wd5_19 rfl dX6_writesSlip_18 ?_
  refine lv_bipush (v := 9) hx hb dX6_writesSlip_21 (by decide) ?_
  refine lv_dup2_11 hx hb dX6_writesSlip_23 rfl rfl ?_
  refine g_ialdc fx hw isA_10 (k := 9) rfl (by decide) dX6_writesSlip_24 ?_
  refine lv_iload_n hx hb dX6_writesSlip_25 rfl (lv_at hl 0 rfl) ?_
  refine lv_iadd hx hb dX6_writesSlip_26 ?_
  obtain ⟨M6, eM6, hF⟩ := st_letM hF
  refine g_iastc fx hw isA_10 (k := 9) rfl (by decide) eM6 dX6_writesSlip_27 (fun H locs hw => ?_)
  refine lv_iload_n hx hb dX6_writesSlip_28 rfl (lv_at hl 0 rfl) ?_
  exact E _ _ _ _ _ _ dX6_writesSlip_29 hw hF
theorem c_X6_writesSlip (l : Launch) (x : SX) (D : va_G) (cy : Nat → ClassId) (ad : Nat → Nat) (p1 p2 : Int32) (sz : Nat) (M : Mem) (z : Int32) (M' : Mem) (hF : f_X6_writesSlip p1 p2 M = some (z, M')) : Met l yX6_writesSlip (.code yX6_writesSlip cX6_writesSlip 4 (some .int) :: GB) ({ frames := 2, cells := 0, slots := 0, locals := 43 } : Room) (PcW D cy ad x sz M [.ref (ad 9), .int p1, .int p2]) (QiW D cy ad sz z M') 0 0 (AA ad sz) := by
  refine mk_m (own := RX6) (by decide) rfl (Nat.le_of_ble_eq_true rfl) ?_
  intro p e s m args below meth c ls fx hw hl hsz
  subst hsz
  exact b_X6_writesSlip fx ⟨Nat.le_refl _, Nat.le_refl _, Nat.le_refl _, Nat.le_refl _⟩ p1 p2 M z M' hF (fun pc ls H locs v M1 hd hw h => by cases h; exact g_iret fx hw rfl hd) _ _ ls hl hw
noncomputable def f_X6_tells_121 : Int32 → Int32 → Int32 → Int32 → Mem → Option (Int32 × Mem) := fun a1 a2 a3 a5 M => (bnd (f_X6_isSet a1 3 a3 M) (fun r49 => (if r49 = 0 then (some (a5, M)) else (bnd (f_X6_mo a2 1 M) (fun r50 => (chk (inB r50 156) (bnd (f_X6_mo a1 1 M) (fun r52 => (chk (inB r52 156) (if (M 10 (ix r50)) < (M 10 (ix r52)) then (some (a5, M)) else (bnd (f_X6_mo a1 3 M) (fun r54 => (chk (inB r54 156) (chk (inB r54 156) (letM (mput M 10 (ix r54) ((M 10 (ix r54)) - (ishl 1 a3))) (fun M56 => (letM (mput M56 10 18 ((M56 10 18) + 1)) (fun M58 => (some (a5, M58))))))))))))))))))))
noncomputable def f_X6_tells_53 : Int32 → Int32 → Int32 → Int32 → Int32 → Mem → Option (Int32 × Mem) := fun a1 a2 a3 a4 t0 M => (chk (inB (6 + a4) 156) (chk (inB (6 + a4) 156) (letM (mput M 10 (ix (6 + a4)) ((M 10 (ix (6 + a4))) + 1)) (fun M60 => (if a4 = 0 then ((f_X6_tells_121) a1 a2 a3 t0 M60) else (bnd (f_X6_isSet a1 2 a3 M60) (fun r62 => (if r62 = 0 then ((f_X6_tells_121) a1 a2 a3 t0 M60) else (bnd (f_X6_isSet a2 2 a3 M60) (fun r63 => (if r63 = 0 then (bnd (f_X6_mo a2 2 M60) (fun r64 => (chk (inB r64 156) (chk (inB r64 156) (letM (mput M60 10 (ix r64) ((M60 10 (ix r64)) ||| (ishl 1 a3))) (fun M66 => (letM (mput M66 10 19 ((M66 10 19) + 1)) (fun M68 => ((f_X6_tells_121) a1 a2 a3 t0 M68))))))))) else ((f_X6_tells_121) a1 a2 a3 t0 M60))))))))))))
noncomputable def f_X6_tells (p1 p2 p3 p4 : Int32) (M : Mem) : Option (Int32 × Mem) := (if p4 = 0 then (bnd (f_X6_mo p1 2 M) (fun r73 => (chk (inB r73 156) (bnd (f_X6_mo p2 2 M) (fun r75 => (chk (inB r75 156) (bnd (f_X6_bits ((M 10 (ix r73)) &&& (M 10 (ix r75))) M) (fun r77 => ((f_X6_tells_53) p1 p2 p3 p4 r77 M))))))))) else (if p4 = 1 then (bnd2 (f_X6_writesSlip p1 p3 M) (fun r71 M72 => ((f_X6_tells_53) p1 p2 p3 p4 r71 M72))) else (bnd2 (f_X6_speaks p1 p3 M) (fun r69 M70 => ((f_X6_tells_53) p1 p2 p3 p4 r69 M70)))))
set_option maxHeartbeats 4000000 in
set_option maxRecDepth 100000 in
theorem b_X6_tells {p : Program} {l : Launch} {e : Env} {R : Room} {s : State} {m : MethodId} {args : Array Value} {below : List Frame} {meth : Method} {c : Code} {Q : State → Prop} {D : va_G} {cy : Nat → ClassId} {ad : Nat → Nat} {x : SX} (fx : FX p s m args meth c cX6_tells 6 (some .int) RX6 D cy ad x) (hR : 7 ≤ R.frames ∧ 156 ≤ R.locals ∧ 0 ≤ R.cells ∧ 0 ≤ R.slots) (p1 p2 p3 p4 : Int32) (M : Mem) (z : Int32) (M' : Mem) (hF : f_X6_tells p1 p2 p3 p4 M = some (z, M')) (E : ∀ (pc : Nat) (ls : Array Slot) (H : Heap) (locs : List Loc) (v : Int32) (M1 : Mem), decode cX6_tells pc = .ok (.ireturn, 1) → WD D cy ad s M1 H locs → some (v, M1) = some (z, M') → W p l e R s m args below meth c H locs 0 0 Q (F0 m pc ls [.int v])) (H : Heap) (locs : List Loc) (ls : Array Slot) (hl : lv_has ls 6 [(0, .ref (ad 9)), (1, .int p1), (2, .int p2), (3, .int p3), (4, .int p4)]) (hw : WD D cy ad s M H locs) : W p l e R s m args below meth c H locs 0 0 Q (F0 m 0 ls []) := by
  have hx := fx.1.1
  have hb := fx.1.2.1
  have hown := fx.1.2.2.2.1
  have hts := fx.1.2.2.2.2
  have n_121 : ∀ (a1 : Int32) (a2 : Int32) (a3 : Int32) (a5 : Int32) (M : Mem) (H : Heap) (locs : List Loc) (ls : Array Slot), lv_has ls 6 [(0, .ref (ad 9)), (1, .int a1), (2, .int a2), (3, .int a3), (5, .int a5)] → WD D cy ad s M H locs → f_X6_tells_121 a1 a2 a3 a5 M = some (z, M') → W p l e R s m args below meth c H locs 0 0 Q (F0 m 121 ls []) := by
    intro a1 a2 a3 a5 M H locs ls hl hw hF
    unfold f_X6_tells_121 at hF
    refine lv_aload_n hx hb dX6_tells_121 rfl (lv_at hl 0 rfl) ?_
    refine lv_iload_n hx hb dX6_tells_122 rfl (lv_at hl 1 rfl) ?_
    refine lv_iconst (v := 3) hx hb dX6_tells_123 (by decide) ?_
    refine lv_iload_n hx hb dX6_tells_124 rfl (lv_at hl 3 rfl) ?_
    obtain ⟨r49, hgr49, hF⟩ := st_bnd hF
    refine g_cz hw (g_runV (C := RX6) (As := [.int a1, .int 3, .int a3]) (rest := []) fx hw isO_9 rfl (c_X6_isSet l x D cy ad a1 3 a3 H.size M r49 hgr49) wd5_173 wd5_175 wd0_55 wd1_8 wd5_176 yd_X6_isSet rfl rfl (Nat.le_of_ble_eq_true rfl) hl.1 ⟨Nat.le_trans (Nat.le_of_ble_eq_true rfl) hR.1, Nat.le_trans (Nat.le_of_ble_eq_true rfl) hR.2.1⟩ ⟨Nat.le_trans (Nat.le_of_ble_eq_true rfl) hR.2.2.1, Nat.le_trans (Nat.le_of_ble_eq_true rfl) hR.2.2.2⟩ dX6_tells_125) (fun H locs hbr49 hw => ?_)
    refine lv_if_eq (tgt := 181) hx hb dX6_tells_128 (by decide) (fun hc128 => ?_) (fun hc128 => ?_)
    · replace hF := st_t hc128 hF
      refine lv_iload hx hb dX6_tells_181 (lv_at hl 4 rfl) ?_
      exact E _ _ _ _ _ _ dX6_tells_183 hw hF
    · replace hF := st_f hc128 hF
      refine lv_aload_n hx hb dX6_tells_131 rfl (lv_at hl 0 rfl) ?_
      refine gX6_get fx hw isO_9 0 (by decide) wd5_19 rfl dX6_tells_132 ?_
      refine lv_iload_n hx hb dX6_tells_135 rfl (lv_at hl 2 rfl) ?_
      refine lv_iconst (v := 1) hx hb dX6_tells_136 (by decide) ?_
      obtain ⟨r50, hgr50, hF⟩ := st_bnd hF
      refine g_ci hw (g_runS (As := [.int a2, .int 1]) (rest := [.ref (ad 10)]) fx hw (c_X6_mo l x D cy ad a2 1 H.size M r50 hgr50) wd5_16 wd5_17 wd1_8 wd5_18 yd_X6_mo rfl rfl (Nat.le_of_ble_eq_true rfl) hl.1 ⟨Nat.le_trans (Nat.le_of_ble_eq_true rfl) hR.1, Nat.le_trans (Nat.le_of_ble_eq_true rfl) hR.2.1⟩ ⟨Nat.le_trans (Nat.le_of_ble_eq_true rfl) hR.2.2.1, Nat.le_trans (Nat.le_of_ble_eq_true rfl) hR.2.2.2⟩ dX6_tells_137) (fun H locs hw => ?_)
      obtain ⟨hi51, hF⟩ := st_chk hF
      refine g_iald fx hw isA_10 hi51 dX6_tells_140 ?_
      refine lv_aload_n hx hb dX6_tells_141 rfl (lv_at hl 0 rfl) ?_
      refine gX6_get fx hw isO_9 0 (by decide) wd5_19 rfl dX6_tells_142 ?_
      refine lv_iload_n hx hb dX6_tells_145 rfl (lv_at hl 1 rfl) ?_
      refine lv_iconst (v := 1) hx hb dX6_tells_146 (by decide) ?_
      obtain ⟨r52, hgr52, hF⟩ := st_bnd hF
      refine g_ci hw (g_runS (As := [.int a1, .int 1]) (rest := [.ref (ad 10), .int (M 10 (ix r50))]) fx hw (c_X6_mo l x D cy ad a1 1 H.size M r52 hgr52) wd5_16 wd5_17 wd1_8 wd5_18 yd_X6_mo rfl rfl (Nat.le_of_ble_eq_true rfl) hl.1 ⟨Nat.le_trans (Nat.le_of_ble_eq_true rfl) hR.1, Nat.le_trans (Nat.le_of_ble_eq_true rfl) hR.2.1⟩ ⟨Nat.le_trans (Nat.le_of_ble_eq_true rfl) hR.2.2.1, Nat.le_trans (Nat.le_of_ble_eq_true rfl) hR.2.2.2⟩ dX6_tells_147) (fun H locs hw => ?_)
      obtain ⟨hi53, hF⟩ := st_chk hF
      refine g_iald fx hw isA_10 hi53 dX6_tells_150 ?_
      refine lv_icmp_lt (tgt := 181) hx hb dX6_tells_151 (by decide) (fun hc151 => ?_) (fun hc151 => ?_)
      · replace hF := st_t hc151 hF
        refine lv_iload hx hb dX6_tells_181 (lv_at hl 4 rfl) ?_
        exact E _ _ _ _ _ _ dX6_tells_183 hw hF
      · replace hF := st_f hc151 hF
        refine lv_aload_n hx hb dX6_tells_154 rfl (lv_at hl 0 rfl) ?_
        refine gX6_get fx hw isO_9 0 (by decide) wd5_19 rfl dX6_tells_155 ?_
        refine lv_iload_n hx hb dX6_tells_158 rfl (lv_at hl 1 rfl) ?_
        refine lv_iconst (v := 3) hx hb dX6_tells_159 (by decide) ?_
        obtain ⟨r54, hgr54, hF⟩ := st_bnd hF
        refine g_ci hw (g_runS (As := [.int a1, .int 3]) (rest := [.ref (ad 10)]) fx hw (c_X6_mo l x D cy ad a1 3 H.size M r54 hgr54) wd5_16 wd5_17 wd1_8 wd5_18 yd_X6_mo rfl rfl (Nat.le_of_ble_eq_true rfl) hl.1 ⟨Nat.le_trans (Nat.le_of_ble_eq_true rfl) hR.1, Nat.le_trans (Nat.le_of_ble_eq_true rfl) hR.2.1⟩ ⟨Nat.le_trans (Nat.le_of_ble_eq_true rfl) hR.2.2.1, Nat.le_trans (Nat.le_of_ble_eq_true rfl) hR.2.2.2⟩ dX6_tells_160) (fun H locs hw => ?_)
        refine lv_dup2_11 hx hb dX6_tells_163 rfl rfl ?_
        obtain ⟨hi55, hF⟩ := st_chk hF
        refine g_iald fx hw isA_10 hi55 dX6_tells_164 ?_
        refine lv_iconst (v := 1) hx hb dX6_tells_165 (by decide) ?_
        refine lv_iload_n hx hb dX6_tells_166 rfl (lv_at hl 3 rfl) ?_
        refine g_ishl hx hb dX6_tells_167 ?_
        refine lv_isub hx hb dX6_tells_168 ?_
        obtain ⟨hi57, hF⟩ := st_chk hF
        obtain ⟨M56, eM56, hF⟩ := st_letM hF
        refine g_iast fx hw isA_10 hi57 eM56 dX6_tells_169 (fun H locs hw => ?_)
        refine lv_aload_n hx hb dX6_tells_170 rfl (lv_at hl 0 rfl) ?_
        refine gX6_get fx hw isO_9 0 (by decide) wd5_19 rfl dX6_tells_171 ?_
        refine lv_bipush (v := 18) hx hb dX6_tells_174 (by decide) ?_
        refine lv_dup2_11 hx hb dX6_tells_176 rfl rfl ?_
        refine g_ialdc fx hw isA_10 (k := 18) rfl (by decide) dX6_tells_177 ?_
        refine lv_iconst (v := 1) hx hb dX6_tells_178 (by decide) ?_
        refine lv_iadd hx hb dX6_tells_179 ?_
        obtain ⟨M58, eM58, hF⟩ := st_letM hF
        refine g_iastc fx hw isA_10 (k := 18) rfl (by decide) eM58 dX6_tells_180 (fun H locs hw => ?_)
        refine lv_iload hx hb dX6_tells_181 (lv_at hl 4 rfl) ?_
        exact E _ _ _ _ _ _ dX6_tells_183 hw hF
  have n_53 : ∀ (a1 : Int32) (a2 : Int32) (a3 : Int32) (a4 : Int32) (t0 : Int32) (M : Mem) (H : Heap) (locs : List Loc) (ls : Array Slot), lv_has ls 6 [(0, .ref (ad 9)), (1, .int a1), (2, .int a2), (3, .int a3), (4, .int a4)] → WD D cy ad s M H locs → f_X6_tells_53 a1 a2 a3 a4 t0 M = some (z, M') → W p l e R s m args below meth c H locs 0 0 Q (F0 m 53 ls [.int t0]) := by
    intro a1 a2 a3 a4 t0 M H locs ls hl hw hF
    unfold f_X6_tells_53 at hF
    refine lv_istore (lv' := [(5, .int t0), (0, .ref (ad 9)), (1, .int a1), (2, .int a2), (3, .int a3), (4, .int a4)]) hx hb dX6_tells_53 hl (by decide) rfl (fun ls hl => ?_)
    refine lv_aload_n hx hb dX6_tells_55 rfl (lv_at hl 1 rfl) ?_
    refine gX6_get fx hw isO_9 0 (by decide) wd5_19 rfl dX6_tells_56 ?_
    refine lv_bipush (v := 6) hx hb dX6_tells_59 (by decide) ?_
    refine lv_iload hx hb dX6_tells_61 (lv_at hl 5 rfl) ?_
    refine lv_iadd hx hb dX6_tells_63 ?_
    refine lv_dup2_11 hx hb dX6_tells_64 rfl rfl ?_
    obtain ⟨hi59, hF⟩ := st_chk hF
    refine g_iald fx hw isA_10 hi59 dX6_tells_65 ?_
    refine lv_iconst (v := 1) hx hb dX6_tells_66 (by decide) ?_
    refine lv_iadd hx hb dX6_tells_67 ?_
    obtain ⟨hi61, hF⟩ := st_chk hF
    obtain ⟨M60, eM60, hF⟩ := st_letM hF
    refine g_iast fx hw isA_10 hi61 eM60 dX6_tells_68 (fun H locs hw => ?_)
    refine lv_iload hx hb dX6_tells_69 (lv_at hl 5 rfl) ?_
    refine lv_if_eq (tgt := 121) hx hb dX6_tells_71 (by decide) (fun hc71 => ?_) (fun hc71 => ?_)
    · replace hF := st_t hc71 hF
      exact n_121 a1 a2 a3 t0 M60 H locs ls (lv_sub hl [1, 2, 3, 4, 0] rfl) hw hF
    · replace hF := st_f hc71 hF
      refine lv_aload_n hx hb dX6_tells_74 rfl (lv_at hl 1 rfl) ?_
      refine lv_iload_n hx hb dX6_tells_75 rfl (lv_at hl 2 rfl) ?_
      refine lv_iconst (v := 2) hx hb dX6_tells_76 (by decide) ?_
      refine lv_iload_n hx hb dX6_tells_77 rfl (lv_at hl 4 rfl) ?_
      obtain ⟨r62, hgr62, hF⟩ := st_bnd hF
      refine g_cz hw (g_runV (C := RX6) (As := [.int a1, .int 2, .int a3]) (rest := []) fx hw isO_9 rfl (c_X6_isSet l x D cy ad a1 2 a3 H.size M60 r62 hgr62) wd5_173 wd5_175 wd0_55 wd1_8 wd5_176 yd_X6_isSet rfl rfl (Nat.le_of_ble_eq_true rfl) hl.1 ⟨Nat.le_trans (Nat.le_of_ble_eq_true rfl) hR.1, Nat.le_trans (Nat.le_of_ble_eq_true rfl) hR.2.1⟩ ⟨Nat.le_trans (Nat.le_of_ble_eq_true rfl) hR.2.2.1, Nat.le_trans (Nat.le_of_ble_eq_true rfl) hR.2.2.2⟩ dX6_tells_78) (fun H locs hbr62 hw => ?_)
      refine lv_if_eq (tgt := 121) hx hb dX6_tells_81 (by decide) (fun hc81 => ?_) (fun hc81 => ?_)
      · replace hF := st_t hc81 hF
        exact n_121 a1 a2 a3 t0 M60 H locs ls (lv_sub hl [1, 2, 3, 4, 0] rfl) hw hF
      · replace hF := st_f hc81 hF
        refine lv_aload_n hx hb dX6_tells_84 rfl (lv_at hl 1 rfl) ?_
        refine lv_iload_n hx hb dX6_tells_85 rfl (lv_at hl 3 rfl) ?_
        refine lv_iconst (v := 2) hx hb dX6_tells_86 (by decide) ?_
        refine lv_iload_n hx hb dX6_tells_87 rfl (lv_at hl 4 rfl) ?_
        obtain ⟨r63, hgr63, hF⟩ := st_bnd hF
        refine g_cz hw (g_runV (C := RX6) (As := [.int a2, .int 2, .int a3]) (rest := []) fx hw isO_9 rfl (c_X6_isSet l x D cy ad a2 2 a3 H.size M60 r63 hgr63) wd5_173 wd5_175 wd0_55 wd1_8 wd5_176 yd_X6_isSet rfl rfl (Nat.le_of_ble_eq_true rfl) hl.1 ⟨Nat.le_trans (Nat.le_of_ble_eq_true rfl) hR.1, Nat.le_trans (Nat.le_of_ble_eq_true rfl) hR.2.1⟩ ⟨Nat.le_trans (Nat.le_of_ble_eq_true rfl) hR.2.2.1, Nat.le_trans (Nat.le_of_ble_eq_true rfl) hR.2.2.2⟩ dX6_tells_88) (fun H locs hbr63 hw => ?_)
        refine lv_if_ne (tgt := 121) hx hb dX6_tells_91 (by decide) (fun hc91 => ?_) (fun hc91 => ?_)
        · replace hF := st_f hc91 hF
          exact n_121 a1 a2 a3 t0 M60 H locs ls (lv_sub hl [1, 2, 3, 4, 0] rfl) hw hF
        · replace hF := st_t hc91 hF
          refine lv_aload_n hx hb dX6_tells_94 rfl (lv_at hl 1 rfl) ?_
          refine gX6_get fx hw isO_9 0 (by decide) wd5_19 rfl dX6_tells_95 ?_
          refine lv_iload_n hx hb dX6_tells_98 rfl (lv_at hl 3 rfl) ?_
          refine lv_iconst (v := 2) hx hb dX6_tells_99 (by decide) ?_
          obtain ⟨r64, hgr64, hF⟩ := st_bnd hF
          refine g_ci hw (g_runS (As := [.int a2, .int 2]) (rest := [.ref (ad 10)]) fx hw (c_X6_mo l x D cy ad a2 2 H.size M60 r64 hgr64) wd5_16 wd5_17 wd1_8 wd5_18 yd_X6_mo rfl rfl (Nat.le_of_ble_eq_true rfl) hl.1 ⟨Nat.le_trans (Nat.le_of_ble_eq_true rfl) hR.1, Nat.le_trans (Nat.le_of_ble_eq_true rfl) hR.2.1⟩ ⟨Nat.le_trans (Nat.le_of_ble_eq_true rfl) hR.2.2.1, Nat.le_trans (Nat.le_of_ble_eq_true rfl) hR.2.2.2⟩ dX6_tells_100) (fun H locs hw => ?_)
          refine lv_dup2_11 hx hb dX6_tells_103 rfl rfl ?_
          obtain ⟨hi65, hF⟩ := st_chk hF
          refine g_iald fx hw isA_10 hi65 dX6_tells_104 ?_
          refine lv_iconst (v := 1) hx hb dX6_tells_105 (by decide) ?_
          refine lv_iload_n hx hb dX6_tells_106 rfl (lv_at hl 4 rfl) ?_
          refine g_ishl hx hb dX6_tells_107 ?_
          refine lv_ior hx hb dX6_tells_108 ?_
          obtain ⟨hi67, hF⟩ := st_chk hF
          obtain ⟨M66, eM66, hF⟩ := st_letM hF
          refine g_iast fx hw isA_10 hi67 eM66 dX6_tells_109 (fun H locs hw => ?_)
          refine lv_aload_n hx hb dX6_tells_110 rfl (lv_at hl 1 rfl) ?_
          refine gX6_get fx hw isO_9 0 (by decide) wd5_19 rfl dX6_tells_111 ?_
          refine lv_bipush (v := 19) hx hb dX6_tells_114 (by decide) ?_
          refine lv_dup2_11 hx hb dX6_tells_116 rfl rfl ?_
          refine g_ialdc fx hw isA_10 (k := 19) rfl (by decide) dX6_tells_117 ?_
          refine lv_iconst (v := 1) hx hb dX6_tells_118 (by decide) ?_
          refine lv_iadd hx hb dX6_tells_119 ?_
          obtain ⟨M68, eM68, hF⟩ := st_letM hF
          refine g_iastc fx hw isA_10 (k := 19) rfl (by decide) eM68 dX6_tells_120 (fun H locs hw => ?_)
          exact n_121 a1 a2 a3 t0 M68 H locs ls (lv_sub hl [1, 2, 3, 4, 0] rfl) hw hF
  unfold f_X6_tells at hF
  refine lv_iload hx hb dX6_tells_0 (lv_at hl 4 rfl) ?_
  refine lv_if_ne (tgt := 32) hx hb dX6_tells_2 (by decide) (fun hc2 => ?_) (fun hc2 => ?_)
  · replace hF := st_f hc2 hF
    refine lv_iload hx hb dX6_tells_32 (lv_at hl 4 rfl) ?_
    refine lv_iconst (v := 1) hx hb dX6_tells_34 (by decide) ?_
    refine lv_icmp_ne (tgt := 47) hx hb dX6_tells_35 (by decide) (fun hc35 => ?_) (fun hc35 => ?_)
    · replace hF := st_f hc35 hF
      refine lv_aload_n hx hb dX6_tells_47 rfl (lv_at hl 0 rfl) ?_
      refine lv_iload_n hx hb dX6_tells_48 rfl (lv_at hl 1 rfl) ?_
      refine lv_iload_n hx hb dX6_tells_49 rfl (lv_at hl 3 rfl) ?_
      obtain ⟨r69, M70, hgr69, hF⟩ := st_bnd2 hF
      refine g_ci hw (g_runV (C := RX6) (As := [.int p1, .int p3]) (rest := []) fx hw isO_9 rfl (c_X6_speaks l x D cy ad p1 p3 H.size M r69 M70 hgr69) wd6_67 wd6_69 wd0_73 wd1_8 wd6_70 yd_X6_speaks rfl rfl (Nat.le_of_ble_eq_true rfl) hl.1 ⟨Nat.le_trans (Nat.le_of_ble_eq_true rfl) hR.1, Nat.le_trans (Nat.le_of_ble_eq_true rfl) hR.2.1⟩ ⟨Nat.le_trans (Nat.le_of_ble_eq_true rfl) hR.2.2.1, Nat.le_trans (Nat.le_of_ble_eq_true rfl) hR.2.2.2⟩ dX6_tells_50) (fun H locs hw => ?_)
      exact n_53 p1 p2 p3 p4 r69 M70 H locs ls (lv_sub hl [0, 1, 2, 3, 4] rfl) hw hF
    · replace hF := st_t hc35 hF
      refine lv_aload_n hx hb dX6_tells_38 rfl (lv_at hl 0 rfl) ?_
      refine lv_iload_n hx hb dX6_tells_39 rfl (lv_at hl 1 rfl) ?_
      refine lv_iload_n hx hb dX6_tells_40 rfl (lv_at hl 3 rfl) ?_
      obtain ⟨r71, M72, hgr71, hF⟩ := st_bnd2 hF
      refine g_ci hw (g_runV (C := RX6) (As := [.int p1, .int p3]) (rest := []) fx hw isO_9 rfl (c_X6_writesSlip l x D cy ad p1 p3 H.size M r71 M72 hgr71) wd6_63 wd6_65 wd0_72 wd1_8 wd6_66 yd_X6_writesSlip rfl rfl (Nat.le_of_ble_eq_true rfl) hl.1 ⟨Nat.le_trans (Nat.le_of_ble_eq_true rfl) hR.1, Nat.le_trans (Nat.le_of_ble_eq_true rfl) hR.2.1⟩ ⟨Nat.le_trans (Nat.le_of_ble_eq_true rfl) hR.2.2.1, Nat.le_trans (Nat.le_of_ble_eq_true rfl) hR.2.2.2⟩ dX6_tells_41) (fun H locs hw => ?_)
      refine lv_goto (tgt := 53) hx hb dX6_tells_44 (by decide) ?_
      exact n_53 p1 p2 p3 p4 r71 M72 H locs ls (lv_sub hl [0, 1, 2, 3, 4] rfl) hw hF
  · replace hF := st_t hc2 hF
    refine lv_aload_n hx hb dX6_tells_5 rfl (lv_at hl 0 rfl) ?_
    refine gX6_get fx hw isO_9 0 (by decide) wd5_19 rfl dX6_tells_6 ?_
    refine lv_iload_n hx hb dX6_tells_9 rfl (lv_at hl 1 rfl) ?_
    refine lv_iconst (v := 2) hx hb dX6_tells_10 (by decide) ?_
    obtain ⟨r73, hgr73, hF⟩ := st_bnd hF
    refine g_ci hw (g_runS (As := [.int p1, .int 2]) (rest := [.ref (ad 10)]) fx hw (c_X6_mo l x D cy ad p1 2 H.size M r73 hgr73) wd5_16 wd5_17 wd1_8 wd5_18 yd_X6_mo rfl rfl (Nat.le_of_ble_eq_true rfl) hl.1 ⟨Nat.le_trans (Nat.le_of_ble_eq_true rfl) hR.1, Nat.le_trans (Nat.le_of_ble_eq_true rfl) hR.2.1⟩ ⟨Nat.le_trans (Nat.le_of_ble_eq_true rfl) hR.2.2.1, Nat.le_trans (Nat.le_of_ble_eq_true rfl) hR.2.2.2⟩ dX6_tells_11) (fun H locs hw => ?_)
    obtain ⟨hi74, hF⟩ := st_chk hF
    refine g_iald fx hw isA_10 hi74 dX6_tells_14 ?_
    refine lv_aload_n hx hb dX6_tells_15 rfl (lv_at hl 0 rfl) ?_
    refine gX6_get fx hw isO_9 0 (by decide) wd5_19 rfl dX6_tells_16 ?_
    refine lv_iload_n hx hb dX6_tells_19 rfl (lv_at hl 2 rfl) ?_
    refine lv_iconst (v := 2) hx hb dX6_tells_20 (by decide) ?_
    obtain ⟨r75, hgr75, hF⟩ := st_bnd hF
    refine g_ci hw (g_runS (As := [.int p2, .int 2]) (rest := [.ref (ad 10), .int (M 10 (ix r73))]) fx hw (c_X6_mo l x D cy ad p2 2 H.size M r75 hgr75) wd5_16 wd5_17 wd1_8 wd5_18 yd_X6_mo rfl rfl (Nat.le_of_ble_eq_true rfl) hl.1 ⟨Nat.le_trans (Nat.le_of_ble_eq_true rfl) hR.1, Nat.le_trans (Nat.le_of_ble_eq_true rfl) hR.2.1⟩ ⟨Nat.le_trans (Nat.le_of_ble_eq_true rfl) hR.2.2.1, Nat.le_trans (Nat.le_of_ble_eq_true rfl) hR.2.2.2⟩ dX6_tells_21) (fun H locs hw => ?_)
    obtain ⟨hi76, hF⟩ := st_chk hF
    refine g_iald fx hw isA_10 hi76 dX6_tells_24 ?_
    refine lv_iand hx hb dX6_tells_25 ?_
    obtain ⟨r77, hgr77, hF⟩ := st_bnd hF
    refine g_ci hw (g_runS (As := [.int ((M 10 (ix r73)) &&& (M 10 (ix r75)))]) (rest := []) fx hw (c_X6_bits l x D cy ad ((M 10 (ix r73)) &&& (M 10 (ix r75))) H.size M r77 hgr77) wd5_131 wd5_132 wd1_8 wd5_133 yd_X6_bits rfl rfl (Nat.le_of_ble_eq_true rfl) hl.1 ⟨Nat.le_trans (Nat.le_of_ble_eq_true rfl) hR.1, Nat.le_trans (Nat.le_of_ble_eq_true rfl) hR.2.1⟩ ⟨Nat.le_trans (Nat.le_of_ble_eq_true rfl) hR.2.2.1, Nat.le_trans (Nat.le_of_ble_eq_true rfl) hR.2.2.2⟩ dX6_tells_26) (fun H locs hw => ?_)
    refine lv_goto (tgt := 53) hx hb dX6_tells_29 (by decide) ?_
    exact n_53 p1 p2 p3 p4 r77 M H locs ls (lv_sub hl [0, 1, 2, 3, 4] rfl) hw hF
theorem c_X6_tells (l : Launch) (x : SX) (D : va_G) (cy : Nat → ClassId) (ad : Nat → Nat) (p1 p2 p3 p4 : Int32) (sz : Nat) (M : Mem) (z : Int32) (M' : Mem) (hF : f_X6_tells p1 p2 p3 p4 M = some (z, M')) : Met l yX6_tells (.code yX6_tells cX6_tells 6 (some .int) :: GB) ({ frames := 7, cells := 0, slots := 0, locals := 156 } : Room) (PcW D cy ad x sz M [.ref (ad 9), .int p1, .int p2, .int p3, .int p4]) (QiW D cy ad sz z M') 0 0 (AA ad sz) := by
  refine mk_m (own := RX6) (by decide) rfl (Nat.le_of_ble_eq_true rfl) ?_
  intro p e s m args below meth c ls fx hw hl hsz
  subst hsz
  exact b_X6_tells fx ⟨Nat.le_refl _, Nat.le_refl _, Nat.le_refl _, Nat.le_refl _⟩ p1 p2 p3 p4 M z M' hF (fun pc ls H locs v M1 hd hw h => by cases h; exact g_iret fx hw rfl hd) _ _ ls hl hw
noncomputable def f_X6_refusalOfGift (p1 p2 p3 : Int32) (M : Mem) : Option Int32 := (bnd (f_X6_mo p1 1 M) (fun r11 => (chk (inB r11 156) (if (M 10 (ix r11)) = 2 then (bnd (f_X6_mo p1 5 M) (fun r13 => (chk (inB r13 156) (if (M 10 (ix r13)) ≤ 0 then (bnd (f_X6_mo p2 5 M) (fun r15 => (chk (inB r15 156) (if (M 10 (ix r15)) ≤ 0 then (bnd (f_X6_mo p1 6 M) (fun r17 => (chk (inB r17 156) (if ((M 10 (ix r17)) + p3) ≤ (M 10 3) then (bnd (f_X6_mo p2 4 M) (fun r19 => (chk (inB r19 156) (if ((M 10 (ix r19)) + p3) ≤ 99 then (some 0) else (some (-20)))))) else (some (-19)))))) else (some (-18)))))) else (some (-17)))))) else (some (-16))))))
set_option maxHeartbeats 4000000 in
set_option maxRecDepth 100000 in
theorem b_X6_refusalOfGift {p : Program} {l : Launch} {e : Env} {R : Room} {s : State} {m : MethodId} {args : Array Value} {below : List Frame} {meth : Method} {c : Code} {Q : State → Prop} {D : va_G} {cy : Nat → ClassId} {ad : Nat → Nat} {x : SX} (fx : FX p s m args meth c cX6_refusalOfGift 4 (some .int) RX6 D cy ad x) (hR : 1 ≤ R.frames ∧ 21 ≤ R.locals ∧ 0 ≤ R.cells ∧ 0 ≤ R.slots) (p1 p2 p3 : Int32) (M : Mem) (z : Int32) (hF : f_X6_refusalOfGift p1 p2 p3 M = some z) (E : ∀ (pc : Nat) (ls : Array Slot) (H : Heap) (locs : List Loc) (v : Int32), decode cX6_refusalOfGift pc = .ok (.ireturn, 1) → WD D cy ad s M H locs → some v = some z → W p l e R s m args below meth c H locs 0 0 Q (F0 m pc ls [.int v])) (H : Heap) (locs : List Loc) (ls : Array Slot) (hl : lv_has ls 4 [(0, .ref (ad 9)), (1, .int p1), (2, .int p2), (3, .int p3)]) (hw : WD D cy ad s M H locs) : W p l e R s m args below meth c H locs 0 0 Q (F0 m 0 ls []) := by
  have hx := fx.1.1
  have hb := fx.1.2.1
  have hown := fx.1.2.2.2.1
  have hts := fx.1.2.2.2.2
  unfold f_X6_refusalOfGift at hF
  refine lv_aload_n hx hb dX6_refusalOfGift_0 rfl (lv_at hl 0 rfl) ?_
  refine gX6_get fx hw isO_9 0 (by decide) wd5_19 rfl dX6_refusalOfGift_1 ?_
  refine lv_iload_n hx hb dX6_refusalOfGift_4 rfl (lv_at hl 1 rfl) ?_
  refine lv_iconst (v := 1) hx hb dX6_refusalOfGift_5 (by decide) ?_
  obtain ⟨r11, hgr11, hF⟩ := st_bnd hF
  refine g_ci hw (g_runS (As := [.int p1, .int 1]) (rest := [.ref (ad 10)]) fx hw (c_X6_mo l x D cy ad p1 1 H.size M r11 hgr11) wd5_16 wd5_17 wd1_8 wd5_18 yd_X6_mo rfl rfl (Nat.le_of_ble_eq_true rfl) hl.1 ⟨Nat.le_trans (Nat.le_of_ble_eq_true rfl) hR.1, Nat.le_trans (Nat.le_of_ble_eq_true rfl) hR.2.1⟩ ⟨Nat.le_trans (Nat.le_of_ble_eq_true rfl) hR.2.2.1, Nat.le_trans (Nat.le_of_ble_eq_true rfl) hR.2.2.2⟩ dX6_refusalOfGift_6) (fun H locs hw => ?_)
  obtain ⟨hi12, hF⟩ := st_chk hF
  refine g_iald fx hw isA_10 hi12 dX6_refusalOfGift_9 ?_
  refine lv_iconst (v := 2) hx hb dX6_refusalOfGift_10 (by decide) ?_
  refine lv_icmp_eq (tgt := 17) hx hb dX6_refusalOfGift_11 (by decide) (fun hc11 => ?_) (fun hc11 => ?_)
  · replace hF := st_t hc11 hF
    refine lv_aload_n hx hb dX6_refusalOfGift_17 rfl (lv_at hl 0 rfl) ?_
    refine gX6_get fx hw isO_9 0 (by decide) wd5_19 rfl dX6_refusalOfGift_18 ?_
    refine lv_iload_n hx hb dX6_refusalOfGift_21 rfl (lv_at hl 1 rfl) ?_
    refine lv_iconst (v := 5) hx hb dX6_refusalOfGift_22 (by decide) ?_
    obtain ⟨r13, hgr13, hF⟩ := st_bnd hF
    refine g_ci hw (g_runS (As := [.int p1, .int 5]) (rest := [.ref (ad 10)]) fx hw (c_X6_mo l x D cy ad p1 5 H.size M r13 hgr13) wd5_16 wd5_17 wd1_8 wd5_18 yd_X6_mo rfl rfl (Nat.le_of_ble_eq_true rfl) hl.1 ⟨Nat.le_trans (Nat.le_of_ble_eq_true rfl) hR.1, Nat.le_trans (Nat.le_of_ble_eq_true rfl) hR.2.1⟩ ⟨Nat.le_trans (Nat.le_of_ble_eq_true rfl) hR.2.2.1, Nat.le_trans (Nat.le_of_ble_eq_true rfl) hR.2.2.2⟩ dX6_refusalOfGift_23) (fun H locs hw => ?_)
    obtain ⟨hi14, hF⟩ := st_chk hF
    refine g_iald fx hw isA_10 hi14 dX6_refusalOfGift_26 ?_
    refine lv_if_le (tgt := 33) hx hb dX6_refusalOfGift_27 (by decide) (fun hc27 => ?_) (fun hc27 => ?_)
    · replace hF := st_t hc27 hF
      refine lv_aload_n hx hb dX6_refusalOfGift_33 rfl (lv_at hl 0 rfl) ?_
      refine gX6_get fx hw isO_9 0 (by decide) wd5_19 rfl dX6_refusalOfGift_34 ?_
      refine lv_iload_n hx hb dX6_refusalOfGift_37 rfl (lv_at hl 2 rfl) ?_
      refine lv_iconst (v := 5) hx hb dX6_refusalOfGift_38 (by decide) ?_
      obtain ⟨r15, hgr15, hF⟩ := st_bnd hF
      refine g_ci hw (g_runS (As := [.int p2, .int 5]) (rest := [.ref (ad 10)]) fx hw (c_X6_mo l x D cy ad p2 5 H.size M r15 hgr15) wd5_16 wd5_17 wd1_8 wd5_18 yd_X6_mo rfl rfl (Nat.le_of_ble_eq_true rfl) hl.1 ⟨Nat.le_trans (Nat.le_of_ble_eq_true rfl) hR.1, Nat.le_trans (Nat.le_of_ble_eq_true rfl) hR.2.1⟩ ⟨Nat.le_trans (Nat.le_of_ble_eq_true rfl) hR.2.2.1, Nat.le_trans (Nat.le_of_ble_eq_true rfl) hR.2.2.2⟩ dX6_refusalOfGift_39) (fun H locs hw => ?_)
      obtain ⟨hi16, hF⟩ := st_chk hF
      refine g_iald fx hw isA_10 hi16 dX6_refusalOfGift_42 ?_
      refine lv_if_le (tgt := 49) hx hb dX6_refusalOfGift_43 (by decide) (fun hc43 => ?_) (fun hc43 => ?_)
      · replace hF := st_t hc43 hF
        refine lv_aload_n hx hb dX6_refusalOfGift_49 rfl (lv_at hl 0 rfl) ?_
        refine gX6_get fx hw isO_9 0 (by decide) wd5_19 rfl dX6_refusalOfGift_50 ?_
        refine lv_iload_n hx hb dX6_refusalOfGift_53 rfl (lv_at hl 1 rfl) ?_
        refine lv_bipush (v := 6) hx hb dX6_refusalOfGift_54 (by decide) ?_
        obtain ⟨r17, hgr17, hF⟩ := st_bnd hF
        refine g_ci hw (g_runS (As := [.int p1, .int 6]) (rest := [.ref (ad 10)]) fx hw (c_X6_mo l x D cy ad p1 6 H.size M r17 hgr17) wd5_16 wd5_17 wd1_8 wd5_18 yd_X6_mo rfl rfl (Nat.le_of_ble_eq_true rfl) hl.1 ⟨Nat.le_trans (Nat.le_of_ble_eq_true rfl) hR.1, Nat.le_trans (Nat.le_of_ble_eq_true rfl) hR.2.1⟩ ⟨Nat.le_trans (Nat.le_of_ble_eq_true rfl) hR.2.2.1, Nat.le_trans (Nat.le_of_ble_eq_true rfl) hR.2.2.2⟩ dX6_refusalOfGift_56) (fun H locs hw => ?_)
        obtain ⟨hi18, hF⟩ := st_chk hF
        refine g_iald fx hw isA_10 hi18 dX6_refusalOfGift_59 ?_
        refine lv_iload_n hx hb dX6_refusalOfGift_60 rfl (lv_at hl 3 rfl) ?_
        refine lv_iadd hx hb dX6_refusalOfGift_61 ?_
        refine lv_aload_n hx hb dX6_refusalOfGift_62 rfl (lv_at hl 0 rfl) ?_
        refine gX6_get fx hw isO_9 0 (by decide) wd5_19 rfl dX6_refusalOfGift_63 ?_
        refine lv_iconst (v := 3) hx hb dX6_refusalOfGift_66 (by decide) ?_
        refine g_ialdc fx hw isA_10 (k := 3) rfl (by decide) dX6_refusalOfGift_67 ?_
        refine lv_icmp_le (tgt := 74) hx hb dX6_refusalOfGift_68 (by decide) (fun hc68 => ?_) (fun hc68 => ?_)
        · replace hF := st_t hc68 hF
          refine lv_aload_n hx hb dX6_refusalOfGift_74 rfl (lv_at hl 0 rfl) ?_
          refine gX6_get fx hw isO_9 0 (by decide) wd5_19 rfl dX6_refusalOfGift_75 ?_
          refine lv_iload_n hx hb dX6_refusalOfGift_78 rfl (lv_at hl 2 rfl) ?_
          refine lv_iconst (v := 4) hx hb dX6_refusalOfGift_79 (by decide) ?_
          obtain ⟨r19, hgr19, hF⟩ := st_bnd hF
          refine g_ci hw (g_runS (As := [.int p2, .int 4]) (rest := [.ref (ad 10)]) fx hw (c_X6_mo l x D cy ad p2 4 H.size M r19 hgr19) wd5_16 wd5_17 wd1_8 wd5_18 yd_X6_mo rfl rfl (Nat.le_of_ble_eq_true rfl) hl.1 ⟨Nat.le_trans (Nat.le_of_ble_eq_true rfl) hR.1, Nat.le_trans (Nat.le_of_ble_eq_true rfl) hR.2.1⟩ ⟨Nat.le_trans (Nat.le_of_ble_eq_true rfl) hR.2.2.1, Nat.le_trans (Nat.le_of_ble_eq_true rfl) hR.2.2.2⟩ dX6_refusalOfGift_80) (fun H locs hw => ?_)
          obtain ⟨hi20, hF⟩ := st_chk hF
          refine g_iald fx hw isA_10 hi20 dX6_refusalOfGift_83 ?_
          refine lv_iload_n hx hb dX6_refusalOfGift_84 rfl (lv_at hl 3 rfl) ?_
          refine lv_iadd hx hb dX6_refusalOfGift_85 ?_
          refine lv_bipush (v := 99) hx hb dX6_refusalOfGift_86 (by decide) ?_
          refine lv_icmp_le (tgt := 96) hx hb dX6_refusalOfGift_88 (by decide) (fun hc88 => ?_) (fun hc88 => ?_)
          · replace hF := st_t hc88 hF
            refine lv_iconst (v := 0) hx hb dX6_refusalOfGift_96 (by decide) ?_
            exact E _ _ _ _ _ dX6_refusalOfGift_97 hw hF
          · replace hF := st_f hc88 hF
            refine lv_bipush (v := (-20)) hx hb dX6_refusalOfGift_91 (by decide) ?_
            refine lv_goto (tgt := 97) hx hb dX6_refusalOfGift_93 (by decide) ?_
            exact E _ _ _ _ _ dX6_refusalOfGift_97 hw hF
        · replace hF := st_f hc68 hF
          refine lv_bipush (v := (-19)) hx hb dX6_refusalOfGift_71 (by decide) ?_
          exact E _ _ _ _ _ dX6_refusalOfGift_73 hw hF
      · replace hF := st_f hc43 hF
        refine lv_bipush (v := (-18)) hx hb dX6_refusalOfGift_46 (by decide) ?_
        exact E _ _ _ _ _ dX6_refusalOfGift_48 hw hF
    · replace hF := st_f hc27 hF
      refine lv_bipush (v := (-17)) hx hb dX6_refusalOfGift_30 (by decide) ?_
      exact E _ _ _ _ _ dX6_refusalOfGift_32 hw hF
  · replace hF := st_f hc11 hF
    refine lv_bipush (v := (-16)) hx hb dX6_refusalOfGift_14 (by decide) ?_
    exact E _ _ _ _ _ dX6_refusalOfGift_16 hw hF
theorem c_X6_refusalOfGift (l : Launch) (x : SX) (D : va_G) (cy : Nat → ClassId) (ad : Nat → Nat) (p1 p2 p3 : Int32) (sz : Nat) (M : Mem) (z : Int32) (hF : f_X6_refusalOfGift p1 p2 p3 M = some z) : Met l yX6_refusalOfGift (.code yX6_refusalOfGift cX6_refusalOfGift 4 (some .int) :: GB) ({ frames := 1, cells := 0, slots := 0, locals := 21 } : Room) (PcW D cy ad x sz M [.ref (ad 9), .int p1, .int p2, .int p3]) (QiW D cy ad sz z M) 0 0 (AA ad sz) := by
  refine mk_m (own := RX6) (by decide) rfl (Nat.le_of_ble_eq_true rfl) ?_
  intro p e s m args below meth c ls fx hw hl hsz
  subst hsz
  exact b_X6_refusalOfGift fx ⟨Nat.le_refl _, Nat.le_refl _, Nat.le_refl _, Nat.le_refl _⟩ p1 p2 p3 M z hF (fun pc ls H locs v hd hw h => by cases h; exact g_iret fx hw rfl hd) _ _ ls hl hw
noncomputable def f_X6_gives (p1 p2 p3 : Int32) (M : Mem) : Option (Int32 × Mem) := (bnd (f_X6_mo p2 4 M) (fun r12 => (chk (inB r12 156) (chk (inB r12 156) (letM (mput M 10 (ix r12) ((M 10 (ix r12)) + p3)) (fun M14 => (bnd (f_X6_mo p1 6 M14) (fun r16 => (chk (inB r16 156) (chk (inB r16 156) (letM (mput M14 10 (ix r16) ((M14 10 (ix r16)) + p3)) (fun M18 => (letM (mput M18 10 16 ((M18 10 16) + p3)) (fun M20 => (bnd (f_X6_mo p2 4 M20) (fun r21 => (chk (inB r21 156) (some ((M20 10 (ix r21)), M20)))))))))))))))))))
set_option maxHeartbeats 4000000 in
set_option maxRecDepth 100000 in
theorem b_X6_gives {p : Program} {l : Launch} {e : Env} {R : Room} {s : State} {m : MethodId} {args : Array Value} {below : List Frame} {meth : Method} {c : Code} {Q : State → Prop} {D : va_G} {cy : Nat → ClassId} {ad : Nat → Nat} {x : SX} (fx : FX p s m args meth c cX6_gives 4 (some .int) RX6 D cy ad x) (hR : 1 ≤ R.frames ∧ 21 ≤ R.locals ∧ 0 ≤ R.cells ∧ 0 ≤ R.slots) (p1 p2 p3 : Int32) (M : Mem) (z : Int32) (M' : Mem) (hF : f_X6_gives p1 p2 p3 M = some (z, M')) (E : ∀ (pc : Nat) (ls : Array Slot) (H : Heap) (locs : List Loc) (v : Int32) (M1 : Mem), decode cX6_gives pc = .ok (.ireturn, 1) → WD D cy ad s M1 H locs → some (v, M1) = some (z, M') → W p l e R s m args below meth c H locs 0 0 Q (F0 m pc ls [.int v])) (H : Heap) (locs : List Loc) (ls : Array Slot) (hl : lv_has ls 4 [(0, .ref (ad 9)), (1, .int p1), (2, .int p2), (3, .int p3)]) (hw : WD D cy ad s M H locs) : W p l e R s m args below meth c H locs 0 0 Q (F0 m 0 ls []) := by
  have hx := fx.1.1
  have hb := fx.1.2.1
  have hown := fx.1.2.2.2.1
  have hts := fx.1.2.2.2.2
  unfold f_X6_gives at hF
  refine lv_aload_n hx hb dX6_gives_0 rfl (lv_at hl 0 rfl) ?_
  refine gX6_get fx hw isO_9 0 (by decide) wd5_19 rfl dX6_gives_1 ?_
  refine lv_iload_n hx hb dX6_gives_4 rfl (lv_at hl 2 rfl) ?_
  refine lv_iconst (v := 4) hx hb dX6_gives_5 (by decide) ?_
  obtain ⟨r12, hgr12, hF⟩ := st_bnd hF
  refine g_ci hw (g_runS (As := [.int p2, .int 4]) (rest := [.ref (ad 10)]) fx hw (c_X6_mo l x D cy ad p2 4 H.size M r12 hgr12) wd5_16 wd5_17 wd1_8 wd5_18 yd_X6_mo rfl rfl (Nat.le_of_ble_eq_true rfl) hl.1 ⟨Nat.le_trans (Nat.le_of_ble_eq_true rfl) hR.1, Nat.le_trans (Nat.le_of_ble_eq_true rfl) hR.2.1⟩ ⟨Nat.le_trans (Nat.le_of_ble_eq_true rfl) hR.2.2.1, Nat.le_trans (Nat.le_of_ble_eq_true rfl) hR.2.2.2⟩ dX6_gives_6) (fun H locs hw => ?_)
  refine lv_dup2_11 hx hb dX6_gives_9 rfl rfl ?_
  obtain ⟨hi13, hF⟩ := st_chk hF
  refine g_iald fx hw isA_10 hi13 dX6_gives_10 ?_
  refine lv_iload_n hx hb dX6_gives_11 rfl (lv_at hl 3 rfl) ?_
  refine lv_iadd hx hb dX6_gives_12 ?_
  obtain ⟨hi15, hF⟩ := st_chk hF
  obtain ⟨M14, eM14, hF⟩ := st_letM hF
  refine g_iast fx hw isA_10 hi15 eM14 dX6_gives_13 (fun H locs hw => ?_)
  refine lv_aload_n hx hb dX6_gives_14 rfl (lv_at hl 0 rfl) ?_
  refine gX6_get fx hw isO_9 0 (by decide) wd5_19 rfl dX6_gives_15 ?_
  refine lv_iload_n hx hb dX6_gives_18 rfl (lv_at hl 1 rfl) ?_
  refine lv_bipush (v := 6) hx hb dX6_gives_19 (by decide) ?_
  obtain ⟨r16, hgr16, hF⟩ := st_bnd hF
  refine g_ci hw (g_runS (As := [.int p1, .int 6]) (rest := [.ref (ad 10)]) fx hw (c_X6_mo l x D cy ad p1 6 H.size M14 r16 hgr16) wd5_16 wd5_17 wd1_8 wd5_18 yd_X6_mo rfl rfl (Nat.le_of_ble_eq_true rfl) hl.1 ⟨Nat.le_trans (Nat.le_of_ble_eq_true rfl) hR.1, Nat.le_trans (Nat.le_of_ble_eq_true rfl) hR.2.1⟩ ⟨Nat.le_trans (Nat.le_of_ble_eq_true rfl) hR.2.2.1, Nat.le_trans (Nat.le_of_ble_eq_true rfl) hR.2.2.2⟩ dX6_gives_21) (fun H locs hw => ?_)
  refine lv_dup2_11 hx hb dX6_gives_24 rfl rfl ?_
  obtain ⟨hi17, hF⟩ := st_chk hF
  refine g_iald fx hw isA_10 hi17 dX6_gives_25 ?_
  refine lv_iload_n hx hb dX6_gives_26 rfl (lv_at hl 3 rfl) ?_
  refine lv_iadd hx hb dX6_gives_27 ?_
  obtain ⟨hi19, hF⟩ := st_chk hF
  obtain ⟨M18, eM18, hF⟩ := st_letM hF
  refine g_iast fx hw isA_10 hi19 eM18 dX6_gives_28 (fun H locs hw => ?_)
  refine lv_aload_n hx hb dX6_gives_29 rfl (lv_at hl 0 rfl) ?_
  refine gX6_get fx hw isO_9 0 (by decide) wd5_19 rfl dX6_gives_30 ?_
  refine lv_bipush (v := 16) hx hb dX6_gives_33 (by decide) ?_
  refine lv_dup2_11 hx hb dX6_gives_35 rfl rfl ?_
  refine g_ialdc fx hw isA_10 (k := 16) rfl (by decide) dX6_gives_36 ?_
  refine lv_iload_n hx hb dX6_gives_37 rfl (lv_at hl 3 rfl) ?_
  refine lv_iadd hx hb dX6_gives_38 ?_
  obtain ⟨M20, eM20, hF⟩ := st_letM hF
  refine g_iastc fx hw isA_10 (k := 16) rfl (by decide) eM20 dX6_gives_39 (fun H locs hw => ?_)
  refine lv_aload_n hx hb dX6_gives_40 rfl (lv_at hl 0 rfl) ?_
  refine gX6_get fx hw isO_9 0 (by decide) wd5_19 rfl dX6_gives_41 ?_
  refine lv_iload_n hx hb dX6_gives_44 rfl (lv_at hl 2 rfl) ?_
  refine lv_iconst (v := 4) hx hb dX6_gives_45 (by decide) ?_
  obtain ⟨r21, hgr21, hF⟩ := st_bnd hF
  refine g_ci hw (g_runS (As := [.int p2, .int 4]) (rest := [.ref (ad 10)]) fx hw (c_X6_mo l x D cy ad p2 4 H.size M20 r21 hgr21) wd5_16 wd5_17 wd1_8 wd5_18 yd_X6_mo rfl rfl (Nat.le_of_ble_eq_true rfl) hl.1 ⟨Nat.le_trans (Nat.le_of_ble_eq_true rfl) hR.1, Nat.le_trans (Nat.le_of_ble_eq_true rfl) hR.2.1⟩ ⟨Nat.le_trans (Nat.le_of_ble_eq_true rfl) hR.2.2.1, Nat.le_trans (Nat.le_of_ble_eq_true rfl) hR.2.2.2⟩ dX6_gives_46) (fun H locs hw => ?_)
  obtain ⟨hi22, hF⟩ := st_chk hF
  refine g_iald fx hw isA_10 hi22 dX6_gives_49 ?_
  exact E _ _ _ _ _ _ dX6_gives_50 hw hF
theorem c_X6_gives (l : Launch) (x : SX) (D : va_G) (cy : Nat → ClassId) (ad : Nat → Nat) (p1 p2 p3 : Int32) (sz : Nat) (M : Mem) (z : Int32) (M' : Mem) (hF : f_X6_gives p1 p2 p3 M = some (z, M')) : Met l yX6_gives (.code yX6_gives cX6_gives 4 (some .int) :: GB) ({ frames := 1, cells := 0, slots := 0, locals := 21 } : Room) (PcW D cy ad x sz M [.ref (ad 9), .int p1, .int p2, .int p3]) (QiW D cy ad sz z M') 0 0 (AA ad sz) := by
  refine mk_m (own := RX6) (by decide) rfl (Nat.le_of_ble_eq_true rfl) ?_
  intro p e s m args below meth c ls fx hw hl hsz
  subst hsz
  exact b_X6_gives fx ⟨Nat.le_refl _, Nat.le_refl _, Nat.le_refl _, Nat.le_refl _⟩ p1 p2 p3 M z M' hF (fun pc ls H locs v M1 hd hw h => by cases h; exact g_iret fx hw rfl hd) _ _ ls hl hw
noncomputable def f_X6_endsDay_95 (rec2 : Int32 → Mem → Option Mem) : Int32 → Mem → Option Mem := fun a1 M => (bnd (f_X6_mo a1 6 M) (fun r37 => (chk (inB r37 156) (letM (mput M 10 (ix r37) 0) (fun M38 => (bnd (f_X6_mo a1 7 M38) (fun r40 => (chk (inB r40 156) (letM (mput M38 10 (ix r40) 0) (fun M41 => (rec2 (a1 + 1) M41)))))))))))
noncomputable def f_X6_endsDay_2 (rec2 : Int32 → Mem → Option Mem) : Int32 → Mem → Option Mem := fun a1 M => (if (M 10 0) ≤ a1 then (some M) else (bnd (f_X6_mo a1 4 M) (fun r43 => (chk (inB r43 156) (letM (mput M 10 17 ((M 10 17) + (M 10 (ix r43)))) (fun M45 => (bnd (f_X6_mo a1 4 M45) (fun r46 => (chk (inB r46 156) (letM (mput M45 10 (ix r46) 0) (fun M47 => (bnd (f_X6_mo a1 7 M47) (fun r49 => (chk (inB r49 156) (if (M47 10 (ix r49)) = 0 then (bnd (f_X6_mo a1 5 M47) (fun r51 => (chk (inB r51 156) (if (M47 10 (ix r51)) ≤ 0 then ((f_X6_endsDay_95 rec2) a1 M47) else (bnd (f_X6_mo a1 5 M47) (fun r53 => (chk (inB r53 156) (chk (inB r53 156) (letM (mput M47 10 (ix r53) ((M47 10 (ix r53)) - 1)) (fun M55 => (letM (mput M55 10 15 ((M55 10 15) + 1)) (fun M57 => ((f_X6_endsDay_95 rec2) a1 M57))))))))))))) else ((f_X6_endsDay_95 rec2) a1 M47))))))))))))))))
noncomputable def f_X6_endsDay (M : Mem) : Option Mem := ((lp (fun _ _ => none) (f_X6_endsDay_2) FU) 0 M)
set_option maxHeartbeats 4000000 in
set_option maxRecDepth 100000 in
theorem b_X6_endsDay {p : Program} {l : Launch} {e : Env} {R : Room} {s : State} {m : MethodId} {args : Array Value} {below : List Frame} {meth : Method} {c : Code} {Q : State → Prop} {D : va_G} {cy : Nat → ClassId} {ad : Nat → Nat} {x : SX} (fx : FX p s m args meth c cX6_endsDay 2 none RX6 D cy ad x) (hR : 1 ≤ R.frames ∧ 21 ≤ R.locals ∧ 0 ≤ R.cells ∧ 0 ≤ R.slots) (M : Mem) (M' : Mem) (hF : f_X6_endsDay M = some M') (E : ∀ (pc : Nat) (ls : Array Slot) (H : Heap) (locs : List Loc) (M1 : Mem), decode cX6_endsDay pc = .ok (.return_, 1) → WD D cy ad s M1 H locs → some M1 = some M' → W p l e R s m args below meth c H locs 0 0 Q (F0 m pc ls [])) (H : Heap) (locs : List Loc) (ls : Array Slot) (hl : lv_has ls 2 [(0, .ref (ad 9))]) (hw : WD D cy ad s M H locs) : W p l e R s m args below meth c H locs 0 0 Q (F0 m 0 ls []) := by
  have hx := fx.1.1
  have hb := fx.1.2.1
  have hown := fx.1.2.2.2.1
  have hts := fx.1.2.2.2.2
  have n_95 : ∀ (rec2 : Int32 → Mem → Option Mem) (_ : ∀ (a1 : Int32) (M : Mem) (H : Heap) (locs : List Loc) (ls : Array Slot), lv_has ls 2 [(0, .ref (ad 9)), (1, .int a1)] → WD D cy ad s M H locs → rec2 a1 M = some M' → W p l e R s m args below meth c H locs 0 0 Q (F0 m 2 ls [])) , ∀ (a1 : Int32) (M : Mem) (H : Heap) (locs : List Loc) (ls : Array Slot), lv_has ls 2 [(0, .ref (ad 9)), (1, .int a1)] → WD D cy ad s M H locs → f_X6_endsDay_95 rec2 a1 M = some M' → W p l e R s m args below meth c H locs 0 0 Q (F0 m 95 ls []) := by
    intro rec2 hr2 a1 M H locs ls hl hw hF
    unfold f_X6_endsDay_95 at hF
    refine lv_aload_n hx hb dX6_endsDay_95 rfl (lv_at hl 0 rfl) ?_
    refine gX6_get fx hw isO_9 0 (by decide) wd5_19 rfl dX6_endsDay_96 ?_
    refine lv_iload_n hx hb dX6_endsDay_99 rfl (lv_at hl 1 rfl) ?_
    refine lv_bipush (v := 6) hx hb dX6_endsDay_100 (by decide) ?_
    obtain ⟨r37, hgr37, hF⟩ := st_bnd hF
    refine g_ci hw (g_runS (As := [.int a1, .int 6]) (rest := [.ref (ad 10)]) fx hw (c_X6_mo l x D cy ad a1 6 H.size M r37 hgr37) wd5_16 wd5_17 wd1_8 wd5_18 yd_X6_mo rfl rfl (Nat.le_of_ble_eq_true rfl) hl.1 ⟨Nat.le_trans (Nat.le_of_ble_eq_true rfl) hR.1, Nat.le_trans (Nat.le_of_ble_eq_true rfl) hR.2.1⟩ ⟨Nat.le_trans (Nat.le_of_ble_eq_true rfl) hR.2.2.1, Nat.le_trans (Nat.le_of_ble_eq_true rfl) hR.2.2.2⟩ dX6_endsDay_102) (fun H locs hw => ?_)
    refine lv_iconst (v := 0) hx hb dX6_endsDay_105 (by decide) ?_
    obtain ⟨hi39, hF⟩ := st_chk hF
    obtain ⟨M38, eM38, hF⟩ := st_letM hF
    refine g_iast fx hw isA_10 hi39 eM38 dX6_endsDay_106 (fun H locs hw => ?_)
    refine lv_aload_n hx hb dX6_endsDay_107 rfl (lv_at hl 0 rfl) ?_
    refine gX6_get fx hw isO_9 0 (by decide) wd5_19 rfl dX6_endsDay_108 ?_
    refine lv_iload_n hx hb dX6_endsDay_111 rfl (lv_at hl 1 rfl) ?_
    refine lv_bipush (v := 7) hx hb dX6_endsDay_112 (by decide) ?_
    obtain ⟨r40, hgr40, hF⟩ := st_bnd hF
    refine g_ci hw (g_runS (As := [.int a1, .int 7]) (rest := [.ref (ad 10)]) fx hw (c_X6_mo l x D cy ad a1 7 H.size M38 r40 hgr40) wd5_16 wd5_17 wd1_8 wd5_18 yd_X6_mo rfl rfl (Nat.le_of_ble_eq_true rfl) hl.1 ⟨Nat.le_trans (Nat.le_of_ble_eq_true rfl) hR.1, Nat.le_trans (Nat.le_of_ble_eq_true rfl) hR.2.1⟩ ⟨Nat.le_trans (Nat.le_of_ble_eq_true rfl) hR.2.2.1, Nat.le_trans (Nat.le_of_ble_eq_true rfl) hR.2.2.2⟩ dX6_endsDay_114) (fun H locs hw => ?_)
    refine lv_iconst (v := 0) hx hb dX6_endsDay_117 (by decide) ?_
    obtain ⟨hi42, hF⟩ := st_chk hF
    obtain ⟨M41, eM41, hF⟩ := st_letM hF
    refine g_iast fx hw isA_10 hi42 eM41 dX6_endsDay_118 (fun H locs hw => ?_)
    refine lv_iinc (v := (a1 + 1)) (lv' := [(1, .int (a1 + 1)), (0, .ref (ad 9))]) hx hb dX6_endsDay_119 hl (k := 1) rfl rfl (by decide) rfl (fun ls hl => ?_)
    refine lv_goto (tgt := 2) hx hb dX6_endsDay_122 (by decide) ?_
    exact hr2 (a1 + 1) M41 H locs ls (lv_sub hl [1, 0] rfl) hw hF
  have n_2 : ∀ (n9 : Nat), ∀ (a1 : Int32) (M : Mem) (H : Heap) (locs : List Loc) (ls : Array Slot), lv_has ls 2 [(0, .ref (ad 9)), (1, .int a1)] → WD D cy ad s M H locs → (lp (fun _ _ => none) (f_X6_endsDay_2) n9) a1 M = some M' → W p l e R s m args below meth c H locs 0 0 Q (F0 m 2 ls []) := by
    intro n9
    refine lp_ind (fun (rec2 : Int32 → Mem → Option Mem) => ∀ (a1 : Int32) (M : Mem) (H : Heap) (locs : List Loc) (ls : Array Slot), lv_has ls 2 [(0, .ref (ad 9)), (1, .int a1)] → WD D cy ad s M H locs → rec2 a1 M = some M' → W p l e R s m args below meth c H locs 0 0 Q (F0 m 2 ls [])) ?_ ?_ n9
    · intro a1 M H locs ls hl hw hF
      exact nomatch hF
    · intro rec2 hr2 a1 M H locs ls hl hw hF
      unfold f_X6_endsDay_2 at hF
      refine lv_iload_n hx hb dX6_endsDay_2 rfl (lv_at hl 1 rfl) ?_
      refine lv_aload_n hx hb dX6_endsDay_3 rfl (lv_at hl 0 rfl) ?_
      refine gX6_get fx hw isO_9 0 (by decide) wd5_19 rfl dX6_endsDay_4 ?_
      refine lv_iconst (v := 0) hx hb dX6_endsDay_7 (by decide) ?_
      refine g_ialdc fx hw isA_10 (k := 0) rfl (by decide) dX6_endsDay_8 ?_
      refine lv_icmp_ge (tgt := 125) hx hb dX6_endsDay_9 (by decide) (fun hc9 => ?_) (fun hc9 => ?_)
      · replace hF := st_t hc9 hF
        exact E _ _ _ _ _ dX6_endsDay_125 hw hF
      · replace hF := st_f hc9 hF
        refine lv_aload_n hx hb dX6_endsDay_12 rfl (lv_at hl 0 rfl) ?_
        refine gX6_get fx hw isO_9 0 (by decide) wd5_19 rfl dX6_endsDay_13 ?_
        refine lv_bipush (v := 17) hx hb dX6_endsDay_16 (by decide) ?_
        refine lv_dup2_11 hx hb dX6_endsDay_18 rfl rfl ?_
        refine g_ialdc fx hw isA_10 (k := 17) rfl (by decide) dX6_endsDay_19 ?_
        refine lv_aload_n hx hb dX6_endsDay_20 rfl (lv_at hl 0 rfl) ?_
        refine gX6_get fx hw isO_9 0 (by decide) wd5_19 rfl dX6_endsDay_21 ?_
        refine lv_iload_n hx hb dX6_endsDay_24 rfl (lv_at hl 1 rfl) ?_
        refine lv_iconst (v := 4) hx hb dX6_endsDay_25 (by decide) ?_
        obtain ⟨r43, hgr43, hF⟩ := st_bnd hF
        refine g_ci hw (g_runS (As := [.int a1, .int 4]) (rest := [.ref (ad 10), .int (M 10 17), .int 17, .ref (ad 10)]) fx hw (c_X6_mo l x D cy ad a1 4 H.size M r43 hgr43) wd5_16 wd5_17 wd1_8 wd5_18 yd_X6_mo rfl rfl (Nat.le_of_ble_eq_true rfl) hl.1 ⟨Nat.le_trans (Nat.le_of_ble_eq_true rfl) hR.1, Nat.le_trans (Nat.le_of_ble_eq_true rfl) hR.2.1⟩ ⟨Nat.le_trans (Nat.le_of_ble_eq_true rfl) hR.2.2.1, Nat.le_trans (Nat.le_of_ble_eq_true rfl) hR.2.2.2⟩ dX6_endsDay_26) (fun H locs hw => ?_)
        obtain ⟨hi44, hF⟩ := st_chk hF
        refine g_iald fx hw isA_10 hi44 dX6_endsDay_29 ?_
        refine lv_iadd hx hb dX6_endsDay_30 ?_
        obtain ⟨M45, eM45, hF⟩ := st_letM hF
        refine g_iastc fx hw isA_10 (k := 17) rfl (by decide) eM45 dX6_endsDay_31 (fun H locs hw => ?_)
        refine lv_aload_n hx hb dX6_endsDay_32 rfl (lv_at hl 0 rfl) ?_
        refine gX6_get fx hw isO_9 0 (by decide) wd5_19 rfl dX6_endsDay_33 ?_
        refine lv_iload_n hx hb dX6_endsDay_36 rfl (lv_at hl 1 rfl) ?_
        refine lv_iconst (v := 4) hx hb dX6_endsDay_37 (by decide) ?_
        obtain ⟨r46, hgr46, hF⟩ := st_bnd hF
        refine g_ci hw (g_runS (As := [.int a1, .int 4]) (rest := [.ref (ad 10)]) fx hw (c_X6_mo l x D cy ad a1 4 H.size M45 r46 hgr46) wd5_16 wd5_17 wd1_8 wd5_18 yd_X6_mo rfl rfl (Nat.le_of_ble_eq_true rfl) hl.1 ⟨Nat.le_trans (Nat.le_of_ble_eq_true rfl) hR.1, Nat.le_trans (Nat.le_of_ble_eq_true rfl) hR.2.1⟩ ⟨Nat.le_trans (Nat.le_of_ble_eq_true rfl) hR.2.2.1, Nat.le_trans (Nat.le_of_ble_eq_true rfl) hR.2.2.2⟩ dX6_endsDay_38) (fun H locs hw => ?_)
        refine lv_iconst (v := 0) hx hb dX6_endsDay_41 (by decide) ?_
        obtain ⟨hi48, hF⟩ := st_chk hF
        obtain ⟨M47, eM47, hF⟩ := st_letM hF
        refine g_iast fx hw isA_10 hi48 eM47 dX6_endsDay_42 (fun H locs hw => ?_)
        refine lv_aload_n hx hb dX6_endsDay_43 rfl (lv_at hl 0 rfl) ?_
        refine gX6_get fx hw isO_9 0 (by decide) wd5_19 rfl dX6_endsDay_44 ?_
        refine lv_iload_n hx hb dX6_endsDay_47 rfl (lv_at hl 1 rfl) ?_
        refine lv_bipush (v := 7) hx hb dX6_endsDay_48 (by decide) ?_
        obtain ⟨r49, hgr49, hF⟩ := st_bnd hF
        refine g_ci hw (g_runS (As := [.int a1, .int 7]) (rest := [.ref (ad 10)]) fx hw (c_X6_mo l x D cy ad a1 7 H.size M47 r49 hgr49) wd5_16 wd5_17 wd1_8 wd5_18 yd_X6_mo rfl rfl (Nat.le_of_ble_eq_true rfl) hl.1 ⟨Nat.le_trans (Nat.le_of_ble_eq_true rfl) hR.1, Nat.le_trans (Nat.le_of_ble_eq_true rfl) hR.2.1⟩ ⟨Nat.le_trans (Nat.le_of_ble_eq_true rfl) hR.2.2.1, Nat.le_trans (Nat.le_of_ble_eq_true rfl) hR.2.2.2⟩ dX6_endsDay_50) (fun H locs hw => ?_)
        obtain ⟨hi50, hF⟩ := st_chk hF
        refine g_iald fx hw isA_10 hi50 dX6_endsDay_53 ?_
        refine lv_if_ne (tgt := 95) hx hb dX6_endsDay_54 (by decide) (fun hc54 => ?_) (fun hc54 => ?_)
        · replace hF := st_f hc54 hF
          exact n_95 rec2 hr2 a1 M47 H locs ls (lv_sub hl [0, 1] rfl) hw hF
        · replace hF := st_t hc54 hF
          refine lv_aload_n hx hb dX6_endsDay_57 rfl (lv_at hl 0 rfl) ?_
          refine gX6_get fx hw isO_9 0 (by decide) wd5_19 rfl dX6_endsDay_58 ?_
          refine lv_iload_n hx hb dX6_endsDay_61 rfl (lv_at hl 1 rfl) ?_
          refine lv_iconst (v := 5) hx hb dX6_endsDay_62 (by decide) ?_
          obtain ⟨r51, hgr51, hF⟩ := st_bnd hF
          refine g_ci hw (g_runS (As := [.int a1, .int 5]) (rest := [.ref (ad 10)]) fx hw (c_X6_mo l x D cy ad a1 5 H.size M47 r51 hgr51) wd5_16 wd5_17 wd1_8 wd5_18 yd_X6_mo rfl rfl (Nat.le_of_ble_eq_true rfl) hl.1 ⟨Nat.le_trans (Nat.le_of_ble_eq_true rfl) hR.1, Nat.le_trans (Nat.le_of_ble_eq_true rfl) hR.2.1⟩ ⟨Nat.le_trans (Nat.le_of_ble_eq_true rfl) hR.2.2.1, Nat.le_trans (Nat.le_of_ble_eq_true rfl) hR.2.2.2⟩ dX6_endsDay_63) (fun H locs hw => ?_)
          obtain ⟨hi52, hF⟩ := st_chk hF
          refine g_iald fx hw isA_10 hi52 dX6_endsDay_66 ?_
          refine lv_if_le (tgt := 95) hx hb dX6_endsDay_67 (by decide) (fun hc67 => ?_) (fun hc67 => ?_)
          · replace hF := st_t hc67 hF
            exact n_95 rec2 hr2 a1 M47 H locs ls (lv_sub hl [0, 1] rfl) hw hF
          · replace hF := st_f hc67 hF
            refine lv_aload_n hx hb dX6_endsDay_70 rfl (lv_at hl 0 rfl) ?_
            refine gX6_get fx hw isO_9 0 (by decide) wd5_19 rfl dX6_endsDay_71 ?_
            refine lv_iload_n hx hb dX6_endsDay_74 rfl (lv_at hl 1 rfl) ?_
            refine lv_iconst (v := 5) hx hb dX6_endsDay_75 (by decide) ?_
            obtain ⟨r53, hgr53, hF⟩ := st_bnd hF
            refine g_ci hw (g_runS (As := [.int a1, .int 5]) (rest := [.ref (ad 10)]) fx hw (c_X6_mo l x D cy ad a1 5 H.size M47 r53 hgr53) wd5_16 wd5_17 wd1_8 wd5_18 yd_X6_mo rfl rfl (Nat.le_of_ble_eq_true rfl) hl.1 ⟨Nat.le_trans (Nat.le_of_ble_eq_true rfl) hR.1, Nat.le_trans (Nat.le_of_ble_eq_true rfl) hR.2.1⟩ ⟨Nat.le_trans (Nat.le_of_ble_eq_true rfl) hR.2.2.1, Nat.le_trans (Nat.le_of_ble_eq_true rfl) hR.2.2.2⟩ dX6_endsDay_76) (fun H locs hw => ?_)
            refine lv_dup2_11 hx hb dX6_endsDay_79 rfl rfl ?_
            obtain ⟨hi54, hF⟩ := st_chk hF
            refine g_iald fx hw isA_10 hi54 dX6_endsDay_80 ?_
            refine lv_iconst (v := 1) hx hb dX6_endsDay_81 (by decide) ?_
            refine lv_isub hx hb dX6_endsDay_82 ?_
            obtain ⟨hi56, hF⟩ := st_chk hF
            obtain ⟨M55, eM55, hF⟩ := st_letM hF
            refine g_iast fx hw isA_10 hi56 eM55 dX6_endsDay_83 (fun H locs hw => ?_)
            refine lv_aload_n hx hb dX6_endsDay_84 rfl (lv_at hl 0 rfl) ?_
            refine gX6_get fx hw isO_9 0 (by decide) wd5_19 rfl dX6_endsDay_85 ?_
            refine lv_bipush (v := 15) hx hb dX6_endsDay_88 (by decide) ?_
            refine lv_dup2_11 hx hb dX6_endsDay_90 rfl rfl ?_
            refine g_ialdc fx hw isA_10 (k := 15) rfl (by decide) dX6_endsDay_91 ?_
            refine lv_iconst (v := 1) hx hb dX6_endsDay_92 (by decide) ?_
            refine lv_iadd hx hb dX6_endsDay_93 ?_
            obtain ⟨M57, eM57, hF⟩ := st_letM hF
            refine g_iastc fx hw isA_10 (k := 15) rfl (by decide) eM57 dX6_endsDay_94 (fun H locs hw => ?_)
            exact n_95 rec2 hr2 a1 M57 H locs ls (lv_sub hl [0, 1] rfl) hw hF
  unfold f_X6_endsDay at hF
  refine lv_iconst (v := 0) hx hb dX6_endsDay_0 (by decide) ?_
  refine lv_istore_n (lv' := [(1, .int 0), (0, .ref (ad 9))]) hx hb dX6_endsDay_1 rfl hl (by decide) rfl (fun ls hl => ?_)
  exact n_2 FU 0 M H locs ls (lv_sub hl [1, 0] rfl) hw hF
theorem c_X6_endsDay (l : Launch) (x : SX) (D : va_G) (cy : Nat → ClassId) (ad : Nat → Nat) (sz : Nat) (M : Mem) (M' : Mem) (hF : f_X6_endsDay M = some M') : Met l yX6_endsDay (.code yX6_endsDay cX6_endsDay 2 none :: GB) ({ frames := 1, cells := 0, slots := 0, locals := 21 } : Room) (PcW D cy ad x sz M [.ref (ad 9)]) (QvW D cy ad sz M') 0 0 (AA ad sz) := by
  refine mk_m (own := RX6) (by decide) rfl (Nat.le_of_ble_eq_true rfl) ?_
  intro p e s m args below meth c ls fx hw hl hsz
  subst hsz
  exact b_X6_endsDay fx ⟨Nat.le_refl _, Nat.le_refl _, Nat.le_refl _, Nat.le_refl _⟩ M M' hF (fun pc ls H locs M1 hd hw h => by cases h; exact g_vret fx hw hd) _ _ ls hl hw
noncomputable def f_X6_passes_41 (rec4 : Int32 → Int32 → Int32 → Mem → Option (Int32 × Mem)) : Int32 → Int32 → Int32 → Mem → Option (Int32 × Mem) := fun a1 a2 a3 M => (rec4 a1 a2 (a3 + 1) M)
noncomputable def f_X6_passes_4 (rec4 : Int32 → Int32 → Int32 → Mem → Option (Int32 × Mem)) : Int32 → Int32 → Int32 → Mem → Option (Int32 × Mem) := fun a1 a2 a3 M => (if a1 ≤ a3 then (some (a2, M)) else (letM (mput M 10 4 ((M 10 4) + 1)) (fun M7 => (if (irem (M7 10 4) 24) = 0 then (bnd (f_X6_endsDay M7) (fun M9 => ((f_X6_passes_41 rec4) a1 (a2 + 1) a3 M9))) else ((f_X6_passes_41 rec4) a1 a2 a3 M7)))))
noncomputable def f_X6_passes (p1 : Int32) (M : Mem) : Option (Int32 × Mem) := ((lp (fun _ _ _ _ => none) (f_X6_passes_4) FU) p1 0 0 M)
set_option maxHeartbeats 4000000 in
set_option maxRecDepth 100000 in
theorem b_X6_passes {p : Program} {l : Launch} {e : Env} {R : Room} {s : State} {m : MethodId} {args : Array Value} {below : List Frame} {meth : Method} {c : Code} {Q : State → Prop} {D : va_G} {cy : Nat → ClassId} {ad : Nat → Nat} {x : SX} (fx : FX p s m args meth c cX6_passes 4 (some .int) RX6 D cy ad x) (hR : 2 ≤ R.frames ∧ 42 ≤ R.locals ∧ 0 ≤ R.cells ∧ 0 ≤ R.slots) (p1 : Int32) (M : Mem) (z : Int32) (M' : Mem) (hF : f_X6_passes p1 M = some (z, M')) (E : ∀ (pc : Nat) (ls : Array Slot) (H : Heap) (locs : List Loc) (v : Int32) (M1 : Mem), decode cX6_passes pc = .ok (.ireturn, 1) → WD D cy ad s M1 H locs → some (v, M1) = some (z, M') → W p l e R s m args below meth c H locs 0 0 Q (F0 m pc ls [.int v])) (H : Heap) (locs : List Loc) (ls : Array Slot) (hl : lv_has ls 4 [(0, .ref (ad 9)), (1, .int p1)]) (hw : WD D cy ad s M H locs) : W p l e R s m args below meth c H locs 0 0 Q (F0 m 0 ls []) := by
  have hx := fx.1.1
  have hb := fx.1.2.1
  have hown := fx.1.2.2.2.1
  have hts := fx.1.2.2.2.2
  have n_41 : ∀ (rec4 : Int32 → Int32 → Int32 → Mem → Option (Int32 × Mem)) (_ : ∀ (a1 : Int32) (a2 : Int32) (a3 : Int32) (M : Mem) (H : Heap) (locs : List Loc) (ls : Array Slot), lv_has ls 4 [(0, .ref (ad 9)), (1, .int a1), (2, .int a2), (3, .int a3)] → WD D cy ad s M H locs → rec4 a1 a2 a3 M = some (z, M') → W p l e R s m args below meth c H locs 0 0 Q (F0 m 4 ls [])) , ∀ (a1 : Int32) (a2 : Int32) (a3 : Int32) (M : Mem) (H : Heap) (locs : List Loc) (ls : Array Slot), lv_has ls 4 [(0, .ref (ad 9)), (1, .int a1), (2, .int a2), (3, .int a3)] → WD D cy ad s M H locs → f_X6_passes_41 rec4 a1 a2 a3 M = some (z, M') → W p l e R s m args below meth c H locs 0 0 Q (F0 m 41 ls []) := by
    intro rec4 hr4 a1 a2 a3 M H locs ls hl hw hF
    unfold f_X6_passes_41 at hF
    refine lv_iinc (v := (a3 + 1)) (lv' := [(3, .int (a3 + 1)), (0, .ref (ad 9)), (1, .int a1), (2, .int a2)]) hx hb dX6_passes_41 hl (k := 3) rfl rfl (by decide) rfl (fun ls hl => ?_)
    refine lv_goto (tgt := 4) hx hb dX6_passes_44 (by decide) ?_
    exact hr4 a1 a2 (a3 + 1) M H locs ls (lv_sub hl [1, 2, 3, 0] rfl) hw hF
  have n_4 : ∀ (n9 : Nat), ∀ (a1 : Int32) (a2 : Int32) (a3 : Int32) (M : Mem) (H : Heap) (locs : List Loc) (ls : Array Slot), lv_has ls 4 [(0, .ref (ad 9)), (1, .int a1), (2, .int a2), (3, .int a3)] → WD D cy ad s M H locs → (lp (fun _ _ _ _ => none) (f_X6_passes_4) n9) a1 a2 a3 M = some (z, M') → W p l e R s m args below meth c H locs 0 0 Q (F0 m 4 ls []) := by
    intro n9
    refine lp_ind (fun (rec4 : Int32 → Int32 → Int32 → Mem → Option (Int32 × Mem)) => ∀ (a1 : Int32) (a2 : Int32) (a3 : Int32) (M : Mem) (H : Heap) (locs : List Loc) (ls : Array Slot), lv_has ls 4 [(0, .ref (ad 9)), (1, .int a1), (2, .int a2), (3, .int a3)] → WD D cy ad s M H locs → rec4 a1 a2 a3 M = some (z, M') → W p l e R s m args below meth c H locs 0 0 Q (F0 m 4 ls [])) ?_ ?_ n9
    · intro a1 a2 a3 M H locs ls hl hw hF
      exact nomatch hF
    · intro rec4 hr4 a1 a2 a3 M H locs ls hl hw hF
      unfold f_X6_passes_4 at hF
      refine lv_iload_n hx hb dX6_passes_4 rfl (lv_at hl 3 rfl) ?_
      refine lv_iload_n hx hb dX6_passes_5 rfl (lv_at hl 1 rfl) ?_
      refine lv_icmp_ge (tgt := 47) hx hb dX6_passes_6 (by decide) (fun hc6 => ?_) (fun hc6 => ?_)
      · replace hF := st_t hc6 hF
        refine lv_iload_n hx hb dX6_passes_47 rfl (lv_at hl 2 rfl) ?_
        exact E _ _ _ _ _ _ dX6_passes_48 hw hF
      · replace hF := st_f hc6 hF
        refine lv_aload_n hx hb dX6_passes_9 rfl (lv_at hl 0 rfl) ?_
        refine gX6_get fx hw isO_9 0 (by decide) wd5_19 rfl dX6_passes_10 ?_
        refine lv_iconst (v := 4) hx hb dX6_passes_13 (by decide) ?_
        refine lv_dup2_11 hx hb dX6_passes_14 rfl rfl ?_
        refine g_ialdc fx hw isA_10 (k := 4) rfl (by decide) dX6_passes_15 ?_
        refine lv_iconst (v := 1) hx hb dX6_passes_16 (by decide) ?_
        refine lv_iadd hx hb dX6_passes_17 ?_
        obtain ⟨M7, eM7, hF⟩ := st_letM hF
        refine g_iastc fx hw isA_10 (k := 4) rfl (by decide) eM7 dX6_passes_18 (fun H locs hw => ?_)
        refine lv_aload_n hx hb dX6_passes_19 rfl (lv_at hl 0 rfl) ?_
        refine gX6_get fx hw isO_9 0 (by decide) wd5_19 rfl dX6_passes_20 ?_
        refine lv_iconst (v := 4) hx hb dX6_passes_23 (by decide) ?_
        refine g_ialdc fx hw isA_10 (k := 4) rfl (by decide) dX6_passes_24 ?_
        refine lv_bipush (v := 24) hx hb dX6_passes_25 (by decide) ?_
        refine g_irem hx hb dX6_passes_27 (by decide) ?_
        refine lv_if_eq (tgt := 34) hx hb dX6_passes_28 (by decide) (fun hc28 => ?_) (fun hc28 => ?_)
        · replace hF := st_t hc28 hF
          refine lv_aload_n hx hb dX6_passes_34 rfl (lv_at hl 0 rfl) ?_
          obtain ⟨M9, hgr8, hF⟩ := st_bnd hF
          refine g_cv hw (g_runV (C := RX6) (As := []) (rest := []) fx hw isO_9 rfl (c_X6_endsDay l x D cy ad H.size M7 M9 hgr8) wd6_95 wd6_97 wd0_78 wd1_8 wd6_98 yd_X6_endsDay rfl rfl (Nat.le_of_ble_eq_true rfl) hl.1 ⟨Nat.le_trans (Nat.le_of_ble_eq_true rfl) hR.1, Nat.le_trans (Nat.le_of_ble_eq_true rfl) hR.2.1⟩ ⟨Nat.le_trans (Nat.le_of_ble_eq_true rfl) hR.2.2.1, Nat.le_trans (Nat.le_of_ble_eq_true rfl) hR.2.2.2⟩ dX6_passes_35) (fun H locs hw => ?_)
          refine lv_iinc (v := (a2 + 1)) (lv' := [(2, .int (a2 + 1)), (0, .ref (ad 9)), (1, .int a1), (3, .int a3)]) hx hb dX6_passes_38 hl (k := 2) rfl rfl (by decide) rfl (fun ls hl => ?_)
          exact n_41 rec4 hr4 a1 (a2 + 1) a3 M9 H locs ls (lv_sub hl [1, 2, 0, 3] rfl) hw hF
        · replace hF := st_f hc28 hF
          refine lv_goto (tgt := 41) hx hb dX6_passes_31 (by decide) ?_
          exact n_41 rec4 hr4 a1 a2 a3 M7 H locs ls (lv_sub hl [0, 1, 2, 3] rfl) hw hF
  unfold f_X6_passes at hF
  refine lv_iconst (v := 0) hx hb dX6_passes_0 (by decide) ?_
  refine lv_istore_n (lv' := [(2, .int 0), (0, .ref (ad 9)), (1, .int p1)]) hx hb dX6_passes_1 rfl hl (by decide) rfl (fun ls hl => ?_)
  refine lv_iconst (v := 0) hx hb dX6_passes_2 (by decide) ?_
  refine lv_istore_n (lv' := [(3, .int 0), (2, .int 0), (0, .ref (ad 9)), (1, .int p1)]) hx hb dX6_passes_3 rfl hl (by decide) rfl (fun ls hl => ?_)
  exact n_4 FU p1 0 0 M H locs ls (lv_sub hl [2, 3, 1, 0] rfl) hw hF
theorem c_X6_passes (l : Launch) (x : SX) (D : va_G) (cy : Nat → ClassId) (ad : Nat → Nat) (p1 : Int32) (sz : Nat) (M : Mem) (z : Int32) (M' : Mem) (hF : f_X6_passes p1 M = some (z, M')) : Met l yX6_passes (.code yX6_passes cX6_passes 4 (some .int) :: GB) ({ frames := 2, cells := 0, slots := 0, locals := 42 } : Room) (PcW D cy ad x sz M [.ref (ad 9), .int p1]) (QiW D cy ad sz z M') 0 0 (AA ad sz) := by
  refine mk_m (own := RX6) (by decide) rfl (Nat.le_of_ble_eq_true rfl) ?_
  intro p e s m args below meth c ls fx hw hl hsz
  subst hsz
  exact b_X6_passes fx ⟨Nat.le_refl _, Nat.le_refl _, Nat.le_refl _, Nat.le_refl _⟩ p1 M z M' hF (fun pc ls H locs v M1 hd hw h => by cases h; exact g_iret fx hw rfl hd) _ _ ls hl hw
noncomputable def f_X6_sum_4 (M : Mem) (rec4 : Int32 → Int32 → Int32 → Option Int32) : Int32 → Int32 → Int32 → Option Int32 := fun a1 a2 a3 => (if (M 10 0) ≤ a3 then (some a2) else (bnd (f_X6_mo a3 a1 M) (fun r5 => (chk (inB r5 156) (rec4 a1 (a2 + (M 10 (ix r5))) (a3 + 1))))))
noncomputable def f_X6_sum (p1 : Int32) (M : Mem) : Option Int32 := ((lp (fun _ _ _ => none) (f_X6_sum_4 M) FU) p1 0 0)
set_option maxHeartbeats 4000000 in
set_option maxRecDepth 100000 in
theorem b_X6_sum {p : Program} {l : Launch} {e : Env} {R : Room} {s : State} {m : MethodId} {args : Array Value} {below : List Frame} {meth : Method} {c : Code} {Q : State → Prop} {D : va_G} {cy : Nat → ClassId} {ad : Nat → Nat} {x : SX} (fx : FX p s m args meth c cX6_sum 4 (some .int) RX6 D cy ad x) (hR : 1 ≤ R.frames ∧ 21 ≤ R.locals ∧ 0 ≤ R.cells ∧ 0 ≤ R.slots) (p1 : Int32) (M : Mem) (z : Int32) (hF : f_X6_sum p1 M = some z) (E : ∀ (pc : Nat) (ls : Array Slot) (H : Heap) (locs : List Loc) (v : Int32), decode cX6_sum pc = .ok (.ireturn, 1) → WD D cy ad s M H locs → some v = some z → W p l e R s m args below meth c H locs 0 0 Q (F0 m pc ls [.int v])) (H : Heap) (locs : List Loc) (ls : Array Slot) (hl : lv_has ls 4 [(0, .ref (ad 9)), (1, .int p1)]) (hw : WD D cy ad s M H locs) : W p l e R s m args below meth c H locs 0 0 Q (F0 m 0 ls []) := by
  have hx := fx.1.1
  have hb := fx.1.2.1
  have hown := fx.1.2.2.2.1
  have hts := fx.1.2.2.2.2
  have n_4 : ∀ (n9 : Nat), ∀ (a1 : Int32) (a2 : Int32) (a3 : Int32) (H : Heap) (locs : List Loc) (ls : Array Slot), lv_has ls 4 [(0, .ref (ad 9)), (1, .int a1), (2, .int a2), (3, .int a3)] → WD D cy ad s M H locs → (lp (fun _ _ _ => none) (f_X6_sum_4 M) n9) a1 a2 a3 = some z → W p l e R s m args below meth c H locs 0 0 Q (F0 m 4 ls []) := by
    intro n9
    refine lp_ind (fun (rec4 : Int32 → Int32 → Int32 → Option Int32) => ∀ (a1 : Int32) (a2 : Int32) (a3 : Int32) (H : Heap) (locs : List Loc) (ls : Array Slot), lv_has ls 4 [(0, .ref (ad 9)), (1, .int a1), (2, .int a2), (3, .int a3)] → WD D cy ad s M H locs → rec4 a1 a2 a3 = some z → W p l e R s m args below meth c H locs 0 0 Q (F0 m 4 ls [])) ?_ ?_ n9
    · intro a1 a2 a3 H locs ls hl hw hF
      exact nomatch hF
    · intro rec4 hr4 a1 a2 a3 H locs ls hl hw hF
      unfold f_X6_sum_4 at hF
      refine lv_iload_n hx hb dX6_sum_4 rfl (lv_at hl 3 rfl) ?_
      refine lv_aload_n hx hb dX6_sum_5 rfl (lv_at hl 0 rfl) ?_
      refine gX6_get fx hw isO_9 0 (by decide) wd5_19 rfl dX6_sum_6 ?_
      refine lv_iconst (v := 0) hx hb dX6_sum_9 (by decide) ?_
      refine g_ialdc fx hw isA_10 (k := 0) rfl (by decide) dX6_sum_10 ?_
      refine lv_icmp_ge (tgt := 33) hx hb dX6_sum_11 (by decide) (fun hc11 => ?_) (fun hc11 => ?_)
      · replace hF := st_t hc11 hF
        refine lv_iload_n hx hb dX6_sum_33 rfl (lv_at hl 2 rfl) ?_
        exact E _ _ _ _ _ dX6_sum_34 hw hF
      · replace hF := st_f hc11 hF
        refine lv_iload_n hx hb dX6_sum_14 rfl (lv_at hl 2 rfl) ?_
        refine lv_aload_n hx hb dX6_sum_15 rfl (lv_at hl 0 rfl) ?_
        refine gX6_get fx hw isO_9 0 (by decide) wd5_19 rfl dX6_sum_16 ?_
        refine lv_iload_n hx hb dX6_sum_19 rfl (lv_at hl 3 rfl) ?_
        refine lv_iload_n hx hb dX6_sum_20 rfl (lv_at hl 1 rfl) ?_
        obtain ⟨r5, hgr5, hF⟩ := st_bnd hF
        refine g_ci hw (g_runS (As := [.int a3, .int a1]) (rest := [.ref (ad 10), .int a2]) fx hw (c_X6_mo l x D cy ad a3 a1 H.size M r5 hgr5) wd5_16 wd5_17 wd1_8 wd5_18 yd_X6_mo rfl rfl (Nat.le_of_ble_eq_true rfl) hl.1 ⟨Nat.le_trans (Nat.le_of_ble_eq_true rfl) hR.1, Nat.le_trans (Nat.le_of_ble_eq_true rfl) hR.2.1⟩ ⟨Nat.le_trans (Nat.le_of_ble_eq_true rfl) hR.2.2.1, Nat.le_trans (Nat.le_of_ble_eq_true rfl) hR.2.2.2⟩ dX6_sum_21) (fun H locs hw => ?_)
        obtain ⟨hi6, hF⟩ := st_chk hF
        refine g_iald fx hw isA_10 hi6 dX6_sum_24 ?_
        refine lv_iadd hx hb dX6_sum_25 ?_
        refine lv_istore_n (lv' := [(2, .int (a2 + (M 10 (ix r5)))), (0, .ref (ad 9)), (1, .int a1), (3, .int a3)]) hx hb dX6_sum_26 rfl hl (by decide) rfl (fun ls hl => ?_)
        refine lv_iinc (v := (a3 + 1)) (lv' := [(3, .int (a3 + 1)), (2, .int (a2 + (M 10 (ix r5)))), (0, .ref (ad 9)), (1, .int a1)]) hx hb dX6_sum_27 hl (k := 3) rfl rfl (by decide) rfl (fun ls hl => ?_)
        refine lv_goto (tgt := 4) hx hb dX6_sum_30 (by decide) ?_
        exact hr4 a1 (a2 + (M 10 (ix r5))) (a3 + 1) H locs ls (lv_sub hl [2, 3, 1, 0] rfl) hw hF
  unfold f_X6_sum at hF
  refine lv_iconst (v := 0) hx hb dX6_sum_0 (by decide) ?_
  refine lv_istore_n (lv' := [(2, .int 0), (0, .ref (ad 9)), (1, .int p1)]) hx hb dX6_sum_1 rfl hl (by decide) rfl (fun ls hl => ?_)
  refine lv_iconst (v := 0) hx hb dX6_sum_2 (by decide) ?_
  refine lv_istore_n (lv' := [(3, .int 0), (2, .int 0), (0, .ref (ad 9)), (1, .int p1)]) hx hb dX6_sum_3 rfl hl (by decide) rfl (fun ls hl => ?_)
  exact n_4 FU p1 0 0 H locs ls (lv_sub hl [2, 3, 1, 0] rfl) hw hF
theorem c_X6_sum (l : Launch) (x : SX) (D : va_G) (cy : Nat → ClassId) (ad : Nat → Nat) (p1 : Int32) (sz : Nat) (M : Mem) (z : Int32) (hF : f_X6_sum p1 M = some z) : Met l yX6_sum (.code yX6_sum cX6_sum 4 (some .int) :: GB) ({ frames := 1, cells := 0, slots := 0, locals := 21 } : Room) (PcW D cy ad x sz M [.ref (ad 9), .int p1]) (QiW D cy ad sz z M) 0 0 (AA ad sz) := by
  refine mk_m (own := RX6) (by decide) rfl (Nat.le_of_ble_eq_true rfl) ?_
  intro p e s m args below meth c ls fx hw hl hsz
  subst hsz
  exact b_X6_sum fx ⟨Nat.le_refl _, Nat.le_refl _, Nat.le_refl _, Nat.le_refl _⟩ p1 M z hF (fun pc ls H locs v hd hw h => by cases h; exact g_iret fx hw rfl hd) _ _ ls hl hw
noncomputable def f_X6_sumOfBits_4 (M : Mem) (rec4 : Int32 → Int32 → Int32 → Option Int32) : Int32 → Int32 → Int32 → Option Int32 := fun a1 a2 a3 => (if (M 10 0) ≤ a3 then (some a2) else (bnd (f_X6_mo a3 a1 M) (fun r7 => (chk (inB r7 156) (bnd (f_X6_bits (M 10 (ix r7)) M) (fun r9 => (rec4 a1 (a2 + r9) (a3 + 1))))))))
noncomputable def f_X6_sumOfBits (p1 : Int32) (M : Mem) : Option Int32 := ((lp (fun _ _ _ => none) (f_X6_sumOfBits_4 M) FU) p1 0 0)
set_option maxHeartbeats 4000000 in
set_option maxRecDepth 100000 in
theorem b_X6_sumOfBits {p : Program} {l : Launch} {e : Env} {R : Room} {s : State} {m : MethodId} {args : Array Value} {below : List Frame} {meth : Method} {c : Code} {Q : State → Prop} {D : va_G} {cy : Nat → ClassId} {ad : Nat → Nat} {x : SX} (fx : FX p s m args meth c cX6_sumOfBits 4 (some .int) RX6 D cy ad x) (hR : 1 ≤ R.frames ∧ 22 ≤ R.locals ∧ 0 ≤ R.cells ∧ 0 ≤ R.slots) (p1 : Int32) (M : Mem) (z : Int32) (hF : f_X6_sumOfBits p1 M = some z) (E : ∀ (pc : Nat) (ls : Array Slot) (H : Heap) (locs : List Loc) (v : Int32), decode cX6_sumOfBits pc = .ok (.ireturn, 1) → WD D cy ad s M H locs → some v = some z → W p l e R s m args below meth c H locs 0 0 Q (F0 m pc ls [.int v])) (H : Heap) (locs : List Loc) (ls : Array Slot) (hl : lv_has ls 4 [(0, .ref (ad 9)), (1, .int p1)]) (hw : WD D cy ad s M H locs) : W p l e R s m args below meth c H locs 0 0 Q (F0 m 0 ls []) := by
  have hx := fx.1.1
  have hb := fx.1.2.1
  have hown := fx.1.2.2.2.1
  have hts := fx.1.2.2.2.2
  have n_4 : ∀ (n9 : Nat), ∀ (a1 : Int32) (a2 : Int32) (a3 : Int32) (H : Heap) (locs : List Loc) (ls : Array Slot), lv_has ls 4 [(0, .ref (ad 9)), (1, .int a1), (2, .int a2), (3, .int a3)] → WD D cy ad s M H locs → (lp (fun _ _ _ => none) (f_X6_sumOfBits_4 M) n9) a1 a2 a3 = some z → W p l e R s m args below meth c H locs 0 0 Q (F0 m 4 ls []) := by
    intro n9
    refine lp_ind (fun (rec4 : Int32 → Int32 → Int32 → Option Int32) => ∀ (a1 : Int32) (a2 : Int32) (a3 : Int32) (H : Heap) (locs : List Loc) (ls : Array Slot), lv_has ls 4 [(0, .ref (ad 9)), (1, .int a1), (2, .int a2), (3, .int a3)] → WD D cy ad s M H locs → rec4 a1 a2 a3 = some z → W p l e R s m args below meth c H locs 0 0 Q (F0 m 4 ls [])) ?_ ?_ n9
    · intro a1 a2 a3 H locs ls hl hw hF
      exact nomatch hF
    · intro rec4 hr4 a1 a2 a3 H locs ls hl hw hF
      unfold f_X6_sumOfBits_4 at hF
      refine lv_iload_n hx hb dX6_sumOfBits_4 rfl (lv_at hl 3 rfl) ?_
      refine lv_aload_n hx hb dX6_sumOfBits_5 rfl (lv_at hl 0 rfl) ?_
      refine gX6_get fx hw isO_9 0 (by decide) wd5_19 rfl dX6_sumOfBits_6 ?_
      refine lv_iconst (v := 0) hx hb dX6_sumOfBits_9 (by decide) ?_
      refine g_ialdc fx hw isA_10 (k := 0) rfl (by decide) dX6_sumOfBits_10 ?_
      refine lv_icmp_ge (tgt := 36) hx hb dX6_sumOfBits_11 (by decide) (fun hc11 => ?_) (fun hc11 => ?_)
      · replace hF := st_t hc11 hF
        refine lv_iload_n hx hb dX6_sumOfBits_36 rfl (lv_at hl 2 rfl) ?_
        exact E _ _ _ _ _ dX6_sumOfBits_37 hw hF
      · replace hF := st_f hc11 hF
        refine lv_iload_n hx hb dX6_sumOfBits_14 rfl (lv_at hl 2 rfl) ?_
        refine lv_aload_n hx hb dX6_sumOfBits_15 rfl (lv_at hl 0 rfl) ?_
        refine gX6_get fx hw isO_9 0 (by decide) wd5_19 rfl dX6_sumOfBits_16 ?_
        refine lv_iload_n hx hb dX6_sumOfBits_19 rfl (lv_at hl 3 rfl) ?_
        refine lv_iload_n hx hb dX6_sumOfBits_20 rfl (lv_at hl 1 rfl) ?_
        obtain ⟨r7, hgr7, hF⟩ := st_bnd hF
        refine g_ci hw (g_runS (As := [.int a3, .int a1]) (rest := [.ref (ad 10), .int a2]) fx hw (c_X6_mo l x D cy ad a3 a1 H.size M r7 hgr7) wd5_16 wd5_17 wd1_8 wd5_18 yd_X6_mo rfl rfl (Nat.le_of_ble_eq_true rfl) hl.1 ⟨Nat.le_trans (Nat.le_of_ble_eq_true rfl) hR.1, Nat.le_trans (Nat.le_of_ble_eq_true rfl) hR.2.1⟩ ⟨Nat.le_trans (Nat.le_of_ble_eq_true rfl) hR.2.2.1, Nat.le_trans (Nat.le_of_ble_eq_true rfl) hR.2.2.2⟩ dX6_sumOfBits_21) (fun H locs hw => ?_)
        obtain ⟨hi8, hF⟩ := st_chk hF
        refine g_iald fx hw isA_10 hi8 dX6_sumOfBits_24 ?_
        obtain ⟨r9, hgr9, hF⟩ := st_bnd hF
        refine g_ci hw (g_runS (As := [.int (M 10 (ix r7))]) (rest := [.int a2]) fx hw (c_X6_bits l x D cy ad (M 10 (ix r7)) H.size M r9 hgr9) wd5_131 wd5_132 wd1_8 wd5_133 yd_X6_bits rfl rfl (Nat.le_of_ble_eq_true rfl) hl.1 ⟨Nat.le_trans (Nat.le_of_ble_eq_true rfl) hR.1, Nat.le_trans (Nat.le_of_ble_eq_true rfl) hR.2.1⟩ ⟨Nat.le_trans (Nat.le_of_ble_eq_true rfl) hR.2.2.1, Nat.le_trans (Nat.le_of_ble_eq_true rfl) hR.2.2.2⟩ dX6_sumOfBits_25) (fun H locs hw => ?_)
        refine lv_iadd hx hb dX6_sumOfBits_28 ?_
        refine lv_istore_n (lv' := [(2, .int (a2 + r9)), (0, .ref (ad 9)), (1, .int a1), (3, .int a3)]) hx hb dX6_sumOfBits_29 rfl hl (by decide) rfl (fun ls hl => ?_)
        refine lv_iinc (v := (a3 + 1)) (lv' := [(3, .int (a3 + 1)), (2, .int (a2 + r9)), (0, .ref (ad 9)), (1, .int a1)]) hx hb dX6_sumOfBits_30 hl (k := 3) rfl rfl (by decide) rfl (fun ls hl => ?_)
        refine lv_goto (tgt := 4) hx hb dX6_sumOfBits_33 (by decide) ?_
        exact hr4 a1 (a2 + r9) (a3 + 1) H locs ls (lv_sub hl [2, 3, 1, 0] rfl) hw hF
  unfold f_X6_sumOfBits at hF
  refine lv_iconst (v := 0) hx hb dX6_sumOfBits_0 (by decide) ?_
  refine lv_istore_n (lv' := [(2, .int 0), (0, .ref (ad 9)), (1, .int p1)]) hx hb dX6_sumOfBits_1 rfl hl (by decide) rfl (fun ls hl => ?_)
  refine lv_iconst (v := 0) hx hb dX6_sumOfBits_2 (by decide) ?_
  refine lv_istore_n (lv' := [(3, .int 0), (2, .int 0), (0, .ref (ad 9)), (1, .int p1)]) hx hb dX6_sumOfBits_3 rfl hl (by decide) rfl (fun ls hl => ?_)
  exact n_4 FU p1 0 0 H locs ls (lv_sub hl [2, 3, 1, 0] rfl) hw hF
theorem c_X6_sumOfBits (l : Launch) (x : SX) (D : va_G) (cy : Nat → ClassId) (ad : Nat → Nat) (p1 : Int32) (sz : Nat) (M : Mem) (z : Int32) (hF : f_X6_sumOfBits p1 M = some z) : Met l yX6_sumOfBits (.code yX6_sumOfBits cX6_sumOfBits 4 (some .int) :: GB) ({ frames := 1, cells := 0, slots := 0, locals := 22 } : Room) (PcW D cy ad x sz M [.ref (ad 9), .int p1]) (QiW D cy ad sz z M) 0 0 (AA ad sz) := by
  refine mk_m (own := RX6) (by decide) rfl (Nat.le_of_ble_eq_true rfl) ?_
  intro p e s m args below meth c ls fx hw hl hsz
  subst hsz
  exact b_X6_sumOfBits fx ⟨Nat.le_refl _, Nat.le_refl _, Nat.le_refl _, Nat.le_refl _⟩ p1 M z hF (fun pc ls H locs v hd hw h => by cases h; exact g_iret fx hw rfl hd) _ _ ls hl hw
noncomputable def f_X6_bells_28 (M : Mem) (rec4 : Int32 → Int32 → Option Int32) : Int32 → Int32 → Int32 → Option Int32 := fun a2 t0 t1 => (rec4 (t0 + t1) (a2 + 1))
noncomputable def f_X6_bells_4 (M : Mem) (rec4 : Int32 → Int32 → Option Int32) : Int32 → Int32 → Option Int32 := fun a1 a2 => (if 24 ≤ a2 then (some a1) else (chk (inB (20 + a2) 156) (if (M 10 (ix (20 + a2))) = 0 then ((f_X6_bells_28 M rec4) a2 a1 0) else ((f_X6_bells_28 M rec4) a2 a1 1))))
noncomputable def f_X6_bells (M : Mem) : Option Int32 := ((lp (fun _ _ => none) (f_X6_bells_4 M) FU) 0 0)
set_option maxHeartbeats 4000000 in
set_option maxRecDepth 100000 in
theorem b_X6_bells {p : Program} {l : Launch} {e : Env} {R : Room} {s : State} {m : MethodId} {args : Array Value} {below : List Frame} {meth : Method} {c : Code} {Q : State → Prop} {D : va_G} {cy : Nat → ClassId} {ad : Nat → Nat} {x : SX} (fx : FX p s m args meth c cX6_bells 3 (some .int) RX6 D cy ad x) (hR : 0 ≤ R.frames ∧ 0 ≤ R.locals ∧ 0 ≤ R.cells ∧ 0 ≤ R.slots) (M : Mem) (z : Int32) (hF : f_X6_bells M = some z) (E : ∀ (pc : Nat) (ls : Array Slot) (H : Heap) (locs : List Loc) (v : Int32), decode cX6_bells pc = .ok (.ireturn, 1) → WD D cy ad s M H locs → some v = some z → W p l e R s m args below meth c H locs 0 0 Q (F0 m pc ls [.int v])) (H : Heap) (locs : List Loc) (ls : Array Slot) (hl : lv_has ls 3 [(0, .ref (ad 9))]) (hw : WD D cy ad s M H locs) : W p l e R s m args below meth c H locs 0 0 Q (F0 m 0 ls []) := by
  have hx := fx.1.1
  have hb := fx.1.2.1
  have hown := fx.1.2.2.2.1
  have hts := fx.1.2.2.2.2
  have n_28 : ∀ (rec4 : Int32 → Int32 → Option Int32) (_ : ∀ (a1 : Int32) (a2 : Int32) (H : Heap) (locs : List Loc) (ls : Array Slot), lv_has ls 3 [(0, .ref (ad 9)), (1, .int a1), (2, .int a2)] → WD D cy ad s M H locs → rec4 a1 a2 = some z → W p l e R s m args below meth c H locs 0 0 Q (F0 m 4 ls [])) , ∀ (a2 : Int32) (t0 : Int32) (t1 : Int32) (H : Heap) (locs : List Loc) (ls : Array Slot), lv_has ls 3 [(0, .ref (ad 9)), (2, .int a2)] → WD D cy ad s M H locs → f_X6_bells_28 M rec4 a2 t0 t1 = some z → W p l e R s m args below meth c H locs 0 0 Q (F0 m 28 ls [.int t1, .int t0]) := by
    intro rec4 hr4 a2 t0 t1 H locs ls hl hw hF
    unfold f_X6_bells_28 at hF
    refine lv_iadd hx hb dX6_bells_28 ?_
    refine lv_istore_n (lv' := [(1, .int (t0 + t1)), (0, .ref (ad 9)), (2, .int a2)]) hx hb dX6_bells_29 rfl hl (by decide) rfl (fun ls hl => ?_)
    refine lv_iinc (v := (a2 + 1)) (lv' := [(2, .int (a2 + 1)), (1, .int (t0 + t1)), (0, .ref (ad 9))]) hx hb dX6_bells_30 hl (k := 2) rfl rfl (by decide) rfl (fun ls hl => ?_)
    refine lv_goto (tgt := 4) hx hb dX6_bells_33 (by decide) ?_
    exact hr4 (t0 + t1) (a2 + 1) H locs ls (lv_sub hl [2, 1, 0] rfl) hw hF
  have n_4 : ∀ (n9 : Nat), ∀ (a1 : Int32) (a2 : Int32) (H : Heap) (locs : List Loc) (ls : Array Slot), lv_has ls 3 [(0, .ref (ad 9)), (1, .int a1), (2, .int a2)] → WD D cy ad s M H locs → (lp (fun _ _ => none) (f_X6_bells_4 M) n9) a1 a2 = some z → W p l e R s m args below meth c H locs 0 0 Q (F0 m 4 ls []) := by
    intro n9
    refine lp_ind (fun (rec4 : Int32 → Int32 → Option Int32) => ∀ (a1 : Int32) (a2 : Int32) (H : Heap) (locs : List Loc) (ls : Array Slot), lv_has ls 3 [(0, .ref (ad 9)), (1, .int a1), (2, .int a2)] → WD D cy ad s M H locs → rec4 a1 a2 = some z → W p l e R s m args below meth c H locs 0 0 Q (F0 m 4 ls [])) ?_ ?_ n9
    · intro a1 a2 H locs ls hl hw hF
      exact nomatch hF
    · intro rec4 hr4 a1 a2 H locs ls hl hw hF
      unfold f_X6_bells_4 at hF
      refine lv_iload_n hx hb dX6_bells_4 rfl (lv_at hl 2 rfl) ?_
      refine lv_bipush (v := 24) hx hb dX6_bells_5 (by decide) ?_
      refine lv_icmp_ge (tgt := 36) hx hb dX6_bells_7 (by decide) (fun hc7 => ?_) (fun hc7 => ?_)
      · replace hF := st_t hc7 hF
        refine lv_iload_n hx hb dX6_bells_36 rfl (lv_at hl 1 rfl) ?_
        exact E _ _ _ _ _ dX6_bells_37 hw hF
      · replace hF := st_f hc7 hF
        refine lv_iload_n hx hb dX6_bells_10 rfl (lv_at hl 1 rfl) ?_
        refine lv_aload_n hx hb dX6_bells_11 rfl (lv_at hl 0 rfl) ?_
        refine gX6_get fx hw isO_9 0 (by decide) wd5_19 rfl dX6_bells_12 ?_
        refine lv_bipush (v := 20) hx hb dX6_bells_15 (by decide) ?_
        refine lv_iload_n hx hb dX6_bells_17 rfl (lv_at hl 2 rfl) ?_
        refine lv_iadd hx hb dX6_bells_18 ?_
        obtain ⟨hi3, hF⟩ := st_chk hF
        refine g_iald fx hw isA_10 hi3 dX6_bells_19 ?_
        refine lv_if_ne (tgt := 27) hx hb dX6_bells_20 (by decide) (fun hc20 => ?_) (fun hc20 => ?_)
        · replace hF := st_f hc20 hF
          refine lv_iconst (v := 1) hx hb dX6_bells_27 (by decide) ?_
          exact n_28 rec4 hr4 a2 a1 1 H locs ls (lv_sub hl [0, 2] rfl) hw hF
        · replace hF := st_t hc20 hF
          refine lv_iconst (v := 0) hx hb dX6_bells_23 (by decide) ?_
          refine lv_goto (tgt := 28) hx hb dX6_bells_24 (by decide) ?_
          exact n_28 rec4 hr4 a2 a1 0 H locs ls (lv_sub hl [0, 2] rfl) hw hF
  unfold f_X6_bells at hF
  refine lv_iconst (v := 0) hx hb dX6_bells_0 (by decide) ?_
  refine lv_istore_n (lv' := [(1, .int 0), (0, .ref (ad 9))]) hx hb dX6_bells_1 rfl hl (by decide) rfl (fun ls hl => ?_)
  refine lv_iconst (v := 0) hx hb dX6_bells_2 (by decide) ?_
  refine lv_istore_n (lv' := [(2, .int 0), (1, .int 0), (0, .ref (ad 9))]) hx hb dX6_bells_3 rfl hl (by decide) rfl (fun ls hl => ?_)
  exact n_4 FU 0 0 H locs ls (lv_sub hl [2, 1, 0] rfl) hw hF
theorem c_X6_bells (l : Launch) (x : SX) (D : va_G) (cy : Nat → ClassId) (ad : Nat → Nat) (sz : Nat) (M : Mem) (z : Int32) (hF : f_X6_bells M = some z) : Met l yX6_bells (.code yX6_bells cX6_bells 3 (some .int) :: GB) ({ frames := 0, cells := 0, slots := 0, locals := 0 } : Room) (PcW D cy ad x sz M [.ref (ad 9)]) (QiW D cy ad sz z M) 0 0 (AA ad sz) := by
  refine mk_m (own := RX6) (by decide) rfl (Nat.le_of_ble_eq_true rfl) ?_
  intro p e s m args below meth c ls fx hw hl hsz
  subst hsz
  exact b_X6_bells fx ⟨Nat.le_refl _, Nat.le_refl _, Nat.le_refl _, Nat.le_refl _⟩ M z hF (fun pc ls H locs v hd hw h => by cases h; exact g_iret fx hw rfl hd) _ _ ls hl hw
noncomputable def f_X6_count_16 : Int32 → Int32 → Mem → Option (Int32 × Mem) := fun a1 t1 M => (letM (mput M 9 6 t1) (fun M23 => (if (M23 9 6) ≤ 0 then (letV a1 (fun y24 => (if y24 = 5 then (bnd (f_X6_isSpeechNow M23) (fun r25 => (if r25 = 0 then (some (0, M23)) else (some (1, M23))))) else (if y24 = 6 then (bnd (f_X6_bells M23) (fun r26 => (some (r26, M23)))) else (if y24 = 7 then (bnd (f_X6_hoursOfSpeech M23) (fun r27 => (some (r27, M23)))) else (if y24 = 8 then (bnd (f_X6_sumOfBits 3 M23) (fun r28 => (some (r28, M23)))) else (if y24 = 9 then (bnd (f_X6_sum 4 M23) (fun r29 => (some (r29, M23)))) else (if y24 = 10 then (bnd (f_X6_sum 5 M23) (fun r30 => (some (r30, M23)))) else (if y24 = 11 then (bnd (f_X6_sumOfBits 2 M23) (fun r31 => (some (r31, M23)))) else (if y24 = 12 then (some ((M23 9 5), M23)) else (chk (inB a1 156) (some ((M23 10 (ix a1)), M23))))))))))))) else (some (0, M23)))))
noncomputable def f_X6_count (p1 : Int32) (M : Mem) : Option (Int32 × Mem) := (bnd (f_X6_isIn p1 0 12 M) (fun r33 => (if r33 = 0 then ((f_X6_count_16) p1 1 M) else ((f_X6_count_16) p1 0 M))))
set_option maxHeartbeats 4000000 in
set_option maxRecDepth 100000 in
theorem b_X6_count {p : Program} {l : Launch} {e : Env} {R : Room} {s : State} {m : MethodId} {args : Array Value} {below : List Frame} {meth : Method} {c : Code} {Q : State → Prop} {D : va_G} {cy : Nat → ClassId} {ad : Nat → Nat} {x : SX} (fx : FX p s m args meth c cX6_count 2 (some .int) RX6 D cy ad x) (hR : 3 ≤ R.frames ∧ 67 ≤ R.locals ∧ 0 ≤ R.cells ∧ 0 ≤ R.slots) (p1 : Int32) (M : Mem) (z : Int32) (M' : Mem) (hF : f_X6_count p1 M = some (z, M')) (E : ∀ (pc : Nat) (ls : Array Slot) (H : Heap) (locs : List Loc) (v : Int32) (M1 : Mem), decode cX6_count pc = .ok (.ireturn, 1) → WD D cy ad s M1 H locs → some (v, M1) = some (z, M') → W p l e R s m args below meth c H locs 0 0 Q (F0 m pc ls [.int v])) (H : Heap) (locs : List Loc) (ls : Array Slot) (hl : lv_has ls 2 [(0, .ref (ad 9)), (1, .int p1)]) (hw : WD D cy ad s M H locs) : W p l e R s m args below meth c H locs 0 0 Q (F0 m 0 ls []) := by
  have hx := fx.1.1
  have hb := fx.1.2.1
  have hown := fx.1.2.2.2.1
  have hts := fx.1.2.2.2.2
  have n_16 : ∀ (a1 : Int32) (t1 : Int32) (M : Mem) (H : Heap) (locs : List Loc) (ls : Array Slot), lv_has ls 2 [(0, .ref (ad 9)), (1, .int a1)] → WD D cy ad s M H locs → f_X6_count_16 a1 t1 M = some (z, M') → W p l e R s m args below meth c H locs 0 0 Q (F0 m 16 ls [.int t1, .ref (ad 9)]) := by
    intro a1 t1 M H locs ls hl hw hF
    unfold f_X6_count_16 at hF
    obtain ⟨M23, eM23, hF⟩ := st_letM hF
    refine gX6_put fx hw isO_9 6 (by decide) wd5_25 rfl eM23 rfl (Nat.le_of_ble_eq_true rfl) dX6_count_16 (fun H locs hw => ?_)
    refine lv_aload_n hx hb dX6_count_19 rfl (lv_at hl 0 rfl) ?_
    refine gX6_get fx hw isO_9 6 (by decide) wd5_25 rfl dX6_count_20 ?_
    refine lv_if_le (tgt := 28) hx hb dX6_count_23 (by decide) (fun hc23 => ?_) (fun hc23 => ?_)
    · replace hF := st_t hc23 hF
      refine lv_iload_n hx hb dX6_count_28 rfl (lv_at hl 1 rfl) ?_
      obtain ⟨y24, ey24, hF⟩ := st_letV hF
      refine g_top ey24 ?_
      by_cases hk29_0 : y24 = 5
      · replace hF := st_t hk29_0 hF
        subst hk29_0
        refine lv_tableIn (off := 47) (tgt := 76) hx hb dX6_count_29 (by decide) (by decide) rfl (by decide) ?_
        refine lv_aload_n hx hb dX6_count_76 rfl (lv_at hl 0 rfl) ?_
        obtain ⟨r25, hgr25, hF⟩ := st_bnd hF
        refine g_cz hw (g_runV (C := RX6) (As := []) (rest := []) fx hw isO_9 rfl (c_X6_isSpeechNow l x D cy ad H.size M23 r25 hgr25) wd5_107 wd5_109 wd0_43 wd1_8 wd5_110 yd_X6_isSpeechNow rfl rfl (Nat.le_of_ble_eq_true rfl) hl.1 ⟨Nat.le_trans (Nat.le_of_ble_eq_true rfl) hR.1, Nat.le_trans (Nat.le_of_ble_eq_true rfl) hR.2.1⟩ ⟨Nat.le_trans (Nat.le_of_ble_eq_true rfl) hR.2.2.1, Nat.le_trans (Nat.le_of_ble_eq_true rfl) hR.2.2.2⟩ dX6_count_77) (fun H locs hbr25 hw => ?_)
        refine lv_if_eq (tgt := 87) hx hb dX6_count_80 (by decide) (fun hc80 => ?_) (fun hc80 => ?_)
        · replace hF := st_t hc80 hF
          refine lv_iconst (v := 0) hx hb dX6_count_87 (by decide) ?_
          exact E _ _ _ _ _ _ dX6_count_88 hw hF
        · replace hF := st_f hc80 hF
          refine lv_iconst (v := 1) hx hb dX6_count_83 (by decide) ?_
          refine lv_goto (tgt := 88) hx hb dX6_count_84 (by decide) ?_
          exact E _ _ _ _ _ _ dX6_count_88 hw hF
      · replace hF := st_f hk29_0 hF
        by_cases hk29_1 : y24 = 6
        · replace hF := st_t hk29_1 hF
          subst hk29_1
          refine lv_tableIn (off := 60) (tgt := 89) hx hb dX6_count_29 (by decide) (by decide) rfl (by decide) ?_
          refine lv_aload_n hx hb dX6_count_89 rfl (lv_at hl 0 rfl) ?_
          obtain ⟨r26, hgr26, hF⟩ := st_bnd hF
          refine g_ci hw (g_runV (C := RX6) (As := []) (rest := []) fx hw isO_9 rfl (c_X6_bells l x D cy ad H.size M23 r26 hgr26) wd5_119 wd5_121 wd0_46 wd1_8 wd5_122 yd_X6_bells rfl rfl (Nat.le_of_ble_eq_true rfl) hl.1 ⟨Nat.le_trans (Nat.le_of_ble_eq_true rfl) hR.1, Nat.le_trans (Nat.le_of_ble_eq_true rfl) hR.2.1⟩ ⟨Nat.le_trans (Nat.le_of_ble_eq_true rfl) hR.2.2.1, Nat.le_trans (Nat.le_of_ble_eq_true rfl) hR.2.2.2⟩ dX6_count_90) (fun H locs hw => ?_)
          exact E _ _ _ _ _ _ dX6_count_93 hw hF
        · replace hF := st_f hk29_1 hF
          by_cases hk29_2 : y24 = 7
          · replace hF := st_t hk29_2 hF
            subst hk29_2
            refine lv_tableIn (off := 65) (tgt := 94) hx hb dX6_count_29 (by decide) (by decide) rfl (by decide) ?_
            refine lv_aload_n hx hb dX6_count_94 rfl (lv_at hl 0 rfl) ?_
            obtain ⟨r27, hgr27, hF⟩ := st_bnd hF
            refine g_ci hw (g_runV (C := RX6) (As := []) (rest := []) fx hw isO_9 rfl (c_X6_hoursOfSpeech l x D cy ad H.size M23 r27 hgr27) wd5_123 wd5_125 wd0_47 wd1_8 wd5_126 yd_X6_hoursOfSpeech rfl rfl (Nat.le_of_ble_eq_true rfl) hl.1 ⟨Nat.le_trans (Nat.le_of_ble_eq_true rfl) hR.1, Nat.le_trans (Nat.le_of_ble_eq_true rfl) hR.2.1⟩ ⟨Nat.le_trans (Nat.le_of_ble_eq_true rfl) hR.2.2.1, Nat.le_trans (Nat.le_of_ble_eq_true rfl) hR.2.2.2⟩ dX6_count_95) (fun H locs hw => ?_)
            exact E _ _ _ _ _ _ dX6_count_98 hw hF
          · replace hF := st_f hk29_2 hF
            by_cases hk29_3 : y24 = 8
            · replace hF := st_t hk29_3 hF
              subst hk29_3
              refine lv_tableIn (off := 70) (tgt := 99) hx hb dX6_count_29 (by decide) (by decide) rfl (by decide) ?_
              refine lv_aload_n hx hb dX6_count_99 rfl (lv_at hl 0 rfl) ?_
              refine lv_iconst (v := 3) hx hb dX6_count_100 (by decide) ?_
              obtain ⟨r28, hgr28, hF⟩ := st_bnd hF
              refine g_ci hw (g_runV (C := RX6) (As := [.int 3]) (rest := []) fx hw isO_9 rfl (c_X6_sumOfBits l x D cy ad 3 H.size M23 r28 hgr28) wd5_127 wd5_129 wd0_48 wd1_8 wd5_130 yd_X6_sumOfBits rfl rfl (Nat.le_of_ble_eq_true rfl) hl.1 ⟨Nat.le_trans (Nat.le_of_ble_eq_true rfl) hR.1, Nat.le_trans (Nat.le_of_ble_eq_true rfl) hR.2.1⟩ ⟨Nat.le_trans (Nat.le_of_ble_eq_true rfl) hR.2.2.1, Nat.le_trans (Nat.le_of_ble_eq_true rfl) hR.2.2.2⟩ dX6_count_101) (fun H locs hw => ?_)
              exact E _ _ _ _ _ _ dX6_count_104 hw hF
            · replace hF := st_f hk29_3 hF
              by_cases hk29_4 : y24 = 9
              · replace hF := st_t hk29_4 hF
                subst hk29_4
                refine lv_tableIn (off := 76) (tgt := 105) hx hb dX6_count_29 (by decide) (by decide) rfl (by decide) ?_
                refine lv_aload_n hx hb dX6_count_105 rfl (lv_at hl 0 rfl) ?_
                refine lv_iconst (v := 4) hx hb dX6_count_106 (by decide) ?_
                obtain ⟨r29, hgr29, hF⟩ := st_bnd hF
                refine g_ci hw (g_runV (C := RX6) (As := [.int 4]) (rest := []) fx hw isO_9 rfl (c_X6_sum l x D cy ad 4 H.size M23 r29 hgr29) wd5_134 wd5_136 wd0_49 wd1_8 wd5_137 yd_X6_sum rfl rfl (Nat.le_of_ble_eq_true rfl) hl.1 ⟨Nat.le_trans (Nat.le_of_ble_eq_true rfl) hR.1, Nat.le_trans (Nat.le_of_ble_eq_true rfl) hR.2.1⟩ ⟨Nat.le_trans (Nat.le_of_ble_eq_true rfl) hR.2.2.1, Nat.le_trans (Nat.le_of_ble_eq_true rfl) hR.2.2.2⟩ dX6_count_107) (fun H locs hw => ?_)
                exact E _ _ _ _ _ _ dX6_count_110 hw hF
              · replace hF := st_f hk29_4 hF
                by_cases hk29_5 : y24 = 10
                · replace hF := st_t hk29_5 hF
                  subst hk29_5
                  refine lv_tableIn (off := 82) (tgt := 111) hx hb dX6_count_29 (by decide) (by decide) rfl (by decide) ?_
                  refine lv_aload_n hx hb dX6_count_111 rfl (lv_at hl 0 rfl) ?_
                  refine lv_iconst (v := 5) hx hb dX6_count_112 (by decide) ?_
                  obtain ⟨r30, hgr30, hF⟩ := st_bnd hF
                  refine g_ci hw (g_runV (C := RX6) (As := [.int 5]) (rest := []) fx hw isO_9 rfl (c_X6_sum l x D cy ad 5 H.size M23 r30 hgr30) wd5_134 wd5_136 wd0_49 wd1_8 wd5_137 yd_X6_sum rfl rfl (Nat.le_of_ble_eq_true rfl) hl.1 ⟨Nat.le_trans (Nat.le_of_ble_eq_true rfl) hR.1, Nat.le_trans (Nat.le_of_ble_eq_true rfl) hR.2.1⟩ ⟨Nat.le_trans (Nat.le_of_ble_eq_true rfl) hR.2.2.1, Nat.le_trans (Nat.le_of_ble_eq_true rfl) hR.2.2.2⟩ dX6_count_113) (fun H locs hw => ?_)
                  exact E _ _ _ _ _ _ dX6_count_116 hw hF
                · replace hF := st_f hk29_5 hF
                  by_cases hk29_6 : y24 = 11
                  · replace hF := st_t hk29_6 hF
                    subst hk29_6
                    refine lv_tableIn (off := 88) (tgt := 117) hx hb dX6_count_29 (by decide) (by decide) rfl (by decide) ?_
                    refine lv_aload_n hx hb dX6_count_117 rfl (lv_at hl 0 rfl) ?_
                    refine lv_iconst (v := 2) hx hb dX6_count_118 (by decide) ?_
                    obtain ⟨r31, hgr31, hF⟩ := st_bnd hF
                    refine g_ci hw (g_runV (C := RX6) (As := [.int 2]) (rest := []) fx hw isO_9 rfl (c_X6_sumOfBits l x D cy ad 2 H.size M23 r31 hgr31) wd5_127 wd5_129 wd0_48 wd1_8 wd5_130 yd_X6_sumOfBits rfl rfl (Nat.le_of_ble_eq_true rfl) hl.1 ⟨Nat.le_trans (Nat.le_of_ble_eq_true rfl) hR.1, Nat.le_trans (Nat.le_of_ble_eq_true rfl) hR.2.1⟩ ⟨Nat.le_trans (Nat.le_of_ble_eq_true rfl) hR.2.2.1, Nat.le_trans (Nat.le_of_ble_eq_true rfl) hR.2.2.2⟩ dX6_count_119) (fun H locs hw => ?_)
                    exact E _ _ _ _ _ _ dX6_count_122 hw hF
                  · replace hF := st_f hk29_6 hF
                    by_cases hk29_7 : y24 = 12
                    · replace hF := st_t hk29_7 hF
                      subst hk29_7
                      refine lv_tableIn (off := 94) (tgt := 123) hx hb dX6_count_29 (by decide) (by decide) rfl (by decide) ?_
                      refine lv_aload_n hx hb dX6_count_123 rfl (lv_at hl 0 rfl) ?_
                      refine gX6_get fx hw isO_9 5 (by decide) wd5_24 rfl dX6_count_124 ?_
                      exact E _ _ _ _ _ _ dX6_count_127 hw hF
                    · replace hF := st_f hk29_7 hF
                      refine lv_tableOut (tgt := 128) hx hb dX6_count_29 (by have e_0 := lv_neT (a := 5) hk29_0 (by decide); have e_1 := lv_neT (a := 6) hk29_1 (by decide); have e_2 := lv_neT (a := 7) hk29_2 (by decide); have e_3 := lv_neT (a := 8) hk29_3 (by decide); have e_4 := lv_neT (a := 9) hk29_4 (by decide); have e_5 := lv_neT (a := 10) hk29_5 (by decide); have e_6 := lv_neT (a := 11) hk29_6 (by decide); have e_7 := lv_neT (a := 12) hk29_7 (by decide); omega) (by decide) ?_
                      refine lv_aload_n hx hb dX6_count_128 rfl (lv_at hl 0 rfl) ?_
                      refine gX6_get fx hw isO_9 0 (by decide) wd5_19 rfl dX6_count_129 ?_
                      refine lv_iload_n hx hb dX6_count_132 rfl (lv_at hl 1 rfl) ?_
                      obtain ⟨hi32, hF⟩ := st_chk hF
                      refine g_iald fx hw isA_10 hi32 dX6_count_133 ?_
                      exact E _ _ _ _ _ _ dX6_count_134 hw hF
    · replace hF := st_f hc23 hF
      refine lv_iconst (v := 0) hx hb dX6_count_26 (by decide) ?_
      exact E _ _ _ _ _ _ dX6_count_27 hw hF
  unfold f_X6_count at hF
  refine lv_aload_n hx hb dX6_count_0 rfl (lv_at hl 0 rfl) ?_
  refine lv_iload_n hx hb dX6_count_1 rfl (lv_at hl 1 rfl) ?_
  refine lv_iconst (v := 0) hx hb dX6_count_2 (by decide) ?_
  refine lv_bipush (v := 12) hx hb dX6_count_3 (by decide) ?_
  obtain ⟨r33, hgr33, hF⟩ := st_bnd hF
  refine g_cz hw (g_runS (As := [.int p1, .int 0, .int 12]) (rest := [.ref (ad 9)]) fx hw (c_X6_isIn l x D cy ad p1 0 12 H.size M r33 hgr33) wd5_92 wd5_93 wd1_8 wd5_94 yd_X6_isIn rfl rfl (Nat.le_of_ble_eq_true rfl) hl.1 ⟨Nat.le_trans (Nat.le_of_ble_eq_true rfl) hR.1, Nat.le_trans (Nat.le_of_ble_eq_true rfl) hR.2.1⟩ ⟨Nat.le_trans (Nat.le_of_ble_eq_true rfl) hR.2.2.1, Nat.le_trans (Nat.le_of_ble_eq_true rfl) hR.2.2.2⟩ dX6_count_5) (fun H locs hbr33 hw => ?_)
  refine lv_if_eq (tgt := 15) hx hb dX6_count_8 (by decide) (fun hc8 => ?_) (fun hc8 => ?_)
  · replace hF := st_t hc8 hF
    refine lv_iconst (v := 1) hx hb dX6_count_15 (by decide) ?_
    exact n_16 p1 1 M H locs ls (lv_sub hl [0, 1] rfl) hw hF
  · replace hF := st_f hc8 hF
    refine lv_iconst (v := 0) hx hb dX6_count_11 (by decide) ?_
    refine lv_goto (tgt := 16) hx hb dX6_count_12 (by decide) ?_
    exact n_16 p1 0 M H locs ls (lv_sub hl [0, 1] rfl) hw hF
theorem c_X6_count (l : Launch) (x : SX) (D : va_G) (cy : Nat → ClassId) (ad : Nat → Nat) (p1 : Int32) (sz : Nat) (M : Mem) (z : Int32) (M' : Mem) (hF : f_X6_count p1 M = some (z, M')) : Met l yX6_count (.code yX6_count cX6_count 2 (some .int) :: GB) ({ frames := 3, cells := 0, slots := 0, locals := 67 } : Room) (PcW D cy ad x sz M [.ref (ad 9), .int p1]) (QiW D cy ad sz z M') 0 0 (AA ad sz) := by
  refine mk_m (own := RX6) (by decide) rfl (Nat.le_of_ble_eq_true rfl) ?_
  intro p e s m args below meth c ls fx hw hl hsz
  subst hsz
  exact b_X6_count fx ⟨Nat.le_refl _, Nat.le_refl _, Nat.le_refl _, Nat.le_refl _⟩ p1 M z M' hF (fun pc ls H locs v M1 hd hw h => by cases h; exact g_iret fx hw rfl hd) _ _ ls hl hw
noncomputable def f_X6_account_16 : Int32 → Int32 → Mem → Option (Int32 × Mem) := fun a1 t1 M => (letM (mput M 9 6 t1) (fun M7 => (if (M7 9 6) ≤ 0 then (chk (inB (6 + a1) 156) (some ((M7 10 (ix (6 + a1))), M7))) else (some (0, M7)))))
noncomputable def f_X6_account (p1 : Int32) (M : Mem) : Option (Int32 × Mem) := (bnd (f_X6_isIn p1 0 13 M) (fun r9 => (if r9 = 0 then ((f_X6_account_16) p1 1 M) else ((f_X6_account_16) p1 0 M))))
set_option maxHeartbeats 4000000 in
set_option maxRecDepth 100000 in
theorem b_X6_account {p : Program} {l : Launch} {e : Env} {R : Room} {s : State} {m : MethodId} {args : Array Value} {below : List Frame} {meth : Method} {c : Code} {Q : State → Prop} {D : va_G} {cy : Nat → ClassId} {ad : Nat → Nat} {x : SX} (fx : FX p s m args meth c cX6_account 2 (some .int) RX6 D cy ad x) (hR : 1 ≤ R.frames ∧ 22 ≤ R.locals ∧ 0 ≤ R.cells ∧ 0 ≤ R.slots) (p1 : Int32) (M : Mem) (z : Int32) (M' : Mem) (hF : f_X6_account p1 M = some (z, M')) (E : ∀ (pc : Nat) (ls : Array Slot) (H : Heap) (locs : List Loc) (v : Int32) (M1 : Mem), decode cX6_account pc = .ok (.ireturn, 1) → WD D cy ad s M1 H locs → some (v, M1) = some (z, M') → W p l e R s m args below meth c H locs 0 0 Q (F0 m pc ls [.int v])) (H : Heap) (locs : List Loc) (ls : Array Slot) (hl : lv_has ls 2 [(0, .ref (ad 9)), (1, .int p1)]) (hw : WD D cy ad s M H locs) : W p l e R s m args below meth c H locs 0 0 Q (F0 m 0 ls []) := by
  have hx := fx.1.1
  have hb := fx.1.2.1
  have hown := fx.1.2.2.2.1
  have hts := fx.1.2.2.2.2
  have n_16 : ∀ (a1 : Int32) (t1 : Int32) (M : Mem) (H : Heap) (locs : List Loc) (ls : Array Slot), lv_has ls 2 [(0, .ref (ad 9)), (1, .int a1)] → WD D cy ad s M H locs → f_X6_account_16 a1 t1 M = some (z, M') → W p l e R s m args below meth c H locs 0 0 Q (F0 m 16 ls [.int t1, .ref (ad 9)]) := by
    intro a1 t1 M H locs ls hl hw hF
    unfold f_X6_account_16 at hF
    obtain ⟨M7, eM7, hF⟩ := st_letM hF
    refine gX6_put fx hw isO_9 6 (by decide) wd5_25 rfl eM7 rfl (Nat.le_of_ble_eq_true rfl) dX6_account_16 (fun H locs hw => ?_)
    refine lv_aload_n hx hb dX6_account_19 rfl (lv_at hl 0 rfl) ?_
    refine gX6_get fx hw isO_9 6 (by decide) wd5_25 rfl dX6_account_20 ?_
    refine lv_if_le (tgt := 30) hx hb dX6_account_23 (by decide) (fun hc23 => ?_) (fun hc23 => ?_)
    · replace hF := st_t hc23 hF
      refine lv_aload_n hx hb dX6_account_30 rfl (lv_at hl 0 rfl) ?_
      refine gX6_get fx hw isO_9 0 (by decide) wd5_19 rfl dX6_account_31 ?_
      refine lv_bipush (v := 6) hx hb dX6_account_34 (by decide) ?_
      refine lv_iload_n hx hb dX6_account_36 rfl (lv_at hl 1 rfl) ?_
      refine lv_iadd hx hb dX6_account_37 ?_
      obtain ⟨hi8, hF⟩ := st_chk hF
      refine g_iald fx hw isA_10 hi8 dX6_account_38 ?_
      exact E _ _ _ _ _ _ dX6_account_39 hw hF
    · replace hF := st_f hc23 hF
      refine lv_iconst (v := 0) hx hb dX6_account_26 (by decide) ?_
      refine lv_goto (tgt := 39) hx hb dX6_account_27 (by decide) ?_
      exact E _ _ _ _ _ _ dX6_account_39 hw hF
  unfold f_X6_account at hF
  refine lv_aload_n hx hb dX6_account_0 rfl (lv_at hl 0 rfl) ?_
  refine lv_iload_n hx hb dX6_account_1 rfl (lv_at hl 1 rfl) ?_
  refine lv_iconst (v := 0) hx hb dX6_account_2 (by decide) ?_
  refine lv_bipush (v := 13) hx hb dX6_account_3 (by decide) ?_
  obtain ⟨r9, hgr9, hF⟩ := st_bnd hF
  refine g_cz hw (g_runS (As := [.int p1, .int 0, .int 13]) (rest := [.ref (ad 9)]) fx hw (c_X6_isIn l x D cy ad p1 0 13 H.size M r9 hgr9) wd5_92 wd5_93 wd1_8 wd5_94 yd_X6_isIn rfl rfl (Nat.le_of_ble_eq_true rfl) hl.1 ⟨Nat.le_trans (Nat.le_of_ble_eq_true rfl) hR.1, Nat.le_trans (Nat.le_of_ble_eq_true rfl) hR.2.1⟩ ⟨Nat.le_trans (Nat.le_of_ble_eq_true rfl) hR.2.2.1, Nat.le_trans (Nat.le_of_ble_eq_true rfl) hR.2.2.2⟩ dX6_account_5) (fun H locs hbr9 hw => ?_)
  refine lv_if_eq (tgt := 15) hx hb dX6_account_8 (by decide) (fun hc8 => ?_) (fun hc8 => ?_)
  · replace hF := st_t hc8 hF
    refine lv_iconst (v := 1) hx hb dX6_account_15 (by decide) ?_
    exact n_16 p1 1 M H locs ls (lv_sub hl [0, 1] rfl) hw hF
  · replace hF := st_f hc8 hF
    refine lv_iconst (v := 0) hx hb dX6_account_11 (by decide) ?_
    refine lv_goto (tgt := 16) hx hb dX6_account_12 (by decide) ?_
    exact n_16 p1 0 M H locs ls (lv_sub hl [0, 1] rfl) hw hF
theorem c_X6_account (l : Launch) (x : SX) (D : va_G) (cy : Nat → ClassId) (ad : Nat → Nat) (p1 : Int32) (sz : Nat) (M : Mem) (z : Int32) (M' : Mem) (hF : f_X6_account p1 M = some (z, M')) : Met l yX6_account (.code yX6_account cX6_account 2 (some .int) :: GB) ({ frames := 1, cells := 0, slots := 0, locals := 22 } : Room) (PcW D cy ad x sz M [.ref (ad 9), .int p1]) (QiW D cy ad sz z M') 0 0 (AA ad sz) := by
  refine mk_m (own := RX6) (by decide) rfl (Nat.le_of_ble_eq_true rfl) ?_
  intro p e s m args below meth c ls fx hw hl hsz
  subst hsz
  exact b_X6_account fx ⟨Nat.le_refl _, Nat.le_refl _, Nat.le_refl _, Nat.le_refl _⟩ p1 M z M' hF (fun pc ls H locs v M1 hd hw h => by cases h; exact g_iret fx hw rfl hd) _ _ ls hl hw
noncomputable def f_X6_whoKnowAll_59 (M : Mem) (rec4 : Int32 → Int32 → Int32 → Option Int32) : Int32 → Int32 → Int32 → Int32 → Option Int32 := fun a1 a3 t0 t1 => (rec4 a1 (t0 + t1) (a3 + 1))
noncomputable def f_X6_whoKnowAll_58 (M : Mem) (rec4 : Int32 → Int32 → Int32 → Option Int32) : Int32 → Int32 → Int32 → Option Int32 := fun a1 a3 t0 => ((f_X6_whoKnowAll_59 M rec4) a1 a3 t0 0)
noncomputable def f_X6_whoKnowAll_4 (M : Mem) (rec4 : Int32 → Int32 → Int32 → Option Int32) : Int32 → Int32 → Int32 → Option Int32 := fun a1 a2 a3 => (if (M 10 0) ≤ a3 then (some a2) else (if a3 = a1 then ((f_X6_whoKnowAll_58 M rec4) a1 a3 a2) else (bnd (f_X6_mo a3 2 M) (fun r13 => (chk (inB r13 156) (bnd (f_X6_mo a1 2 M) (fun r15 => (chk (inB r15 156) (bnd (f_X6_mo a1 2 M) (fun r17 => (chk (inB r17 156) (if ((M 10 (ix r13)) &&& (M 10 (ix r15))) = (M 10 (ix r17)) then ((f_X6_whoKnowAll_59 M rec4) a1 a3 a2 1) else ((f_X6_whoKnowAll_58 M rec4) a1 a3 a2)))))))))))))
noncomputable def f_X6_whoKnowAll (p1 : Int32) (M : Mem) : Option Int32 := ((lp (fun _ _ _ => none) (f_X6_whoKnowAll_4 M) FU) p1 0 0)
set_option maxHeartbeats 4000000 in
set_option maxRecDepth 100000 in
theorem b_X6_whoKnowAll {p : Program} {l : Launch} {e : Env} {R : Room} {s : State} {m : MethodId} {args : Array Value} {below : List Frame} {meth : Method} {c : Code} {Q : State → Prop} {D : va_G} {cy : Nat → ClassId} {ad : Nat → Nat} {x : SX} (fx : FX p s m args meth c cX6_whoKnowAll 4 (some .int) RX6 D cy ad x) (hR : 1 ≤ R.frames ∧ 21 ≤ R.locals ∧ 0 ≤ R.cells ∧ 0 ≤ R.slots) (p1 : Int32) (M : Mem) (z : Int32) (hF : f_X6_whoKnowAll p1 M = some z) (E : ∀ (pc : Nat) (ls : Array Slot) (H : Heap) (locs : List Loc) (v : Int32), decode cX6_whoKnowAll pc = .ok (.ireturn, 1) → WD D cy ad s M H locs → some v = some z → W p l e R s m args below meth c H locs 0 0 Q (F0 m pc ls [.int v])) (H : Heap) (locs : List Loc) (ls : Array Slot) (hl : lv_has ls 4 [(0, .ref (ad 9)), (1, .int p1)]) (hw : WD D cy ad s M H locs) : W p l e R s m args below meth c H locs 0 0 Q (F0 m 0 ls []) := by
  have hx := fx.1.1
  have hb := fx.1.2.1
  have hown := fx.1.2.2.2.1
  have hts := fx.1.2.2.2.2
  have n_59 : ∀ (rec4 : Int32 → Int32 → Int32 → Option Int32) (_ : ∀ (a1 : Int32) (a2 : Int32) (a3 : Int32) (H : Heap) (locs : List Loc) (ls : Array Slot), lv_has ls 4 [(0, .ref (ad 9)), (1, .int a1), (2, .int a2), (3, .int a3)] → WD D cy ad s M H locs → rec4 a1 a2 a3 = some z → W p l e R s m args below meth c H locs 0 0 Q (F0 m 4 ls [])) , ∀ (a1 : Int32) (a3 : Int32) (t0 : Int32) (t1 : Int32) (H : Heap) (locs : List Loc) (ls : Array Slot), lv_has ls 4 [(0, .ref (ad 9)), (1, .int a1), (3, .int a3)] → WD D cy ad s M H locs → f_X6_whoKnowAll_59 M rec4 a1 a3 t0 t1 = some z → W p l e R s m args below meth c H locs 0 0 Q (F0 m 59 ls [.int t1, .int t0]) := by
    intro rec4 hr4 a1 a3 t0 t1 H locs ls hl hw hF
    unfold f_X6_whoKnowAll_59 at hF
    refine lv_iadd hx hb dX6_whoKnowAll_59 ?_
    refine lv_istore_n (lv' := [(2, .int (t0 + t1)), (0, .ref (ad 9)), (1, .int a1), (3, .int a3)]) hx hb dX6_whoKnowAll_60 rfl hl (by decide) rfl (fun ls hl => ?_)
    refine lv_iinc (v := (a3 + 1)) (lv' := [(3, .int (a3 + 1)), (2, .int (t0 + t1)), (0, .ref (ad 9)), (1, .int a1)]) hx hb dX6_whoKnowAll_61 hl (k := 3) rfl rfl (by decide) rfl (fun ls hl => ?_)
    refine lv_goto (tgt := 4) hx hb dX6_whoKnowAll_64 (by decide) ?_
    exact hr4 a1 (t0 + t1) (a3 + 1) H locs ls (lv_sub hl [2, 3, 1, 0] rfl) hw hF
  have n_58 : ∀ (rec4 : Int32 → Int32 → Int32 → Option Int32) (_ : ∀ (a1 : Int32) (a2 : Int32) (a3 : Int32) (H : Heap) (locs : List Loc) (ls : Array Slot), lv_has ls 4 [(0, .ref (ad 9)), (1, .int a1), (2, .int a2), (3, .int a3)] → WD D cy ad s M H locs → rec4 a1 a2 a3 = some z → W p l e R s m args below meth c H locs 0 0 Q (F0 m 4 ls [])) , ∀ (a1 : Int32) (a3 : Int32) (t0 : Int32) (H : Heap) (locs : List Loc) (ls : Array Slot), lv_has ls 4 [(0, .ref (ad 9)), (1, .int a1), (3, .int a3)] → WD D cy ad s M H locs → f_X6_whoKnowAll_58 M rec4 a1 a3 t0 = some z → W p l e R s m args below meth c H locs 0 0 Q (F0 m 58 ls [.int t0]) := by
    intro rec4 hr4 a1 a3 t0 H locs ls hl hw hF
    unfold f_X6_whoKnowAll_58 at hF
    refine lv_iconst (v := 0) hx hb dX6_whoKnowAll_58 (by decide) ?_
    exact n_59 rec4 hr4 a1 a3 t0 0 H locs ls (lv_sub hl [0, 1, 2] rfl) hw hF
  have n_4 : ∀ (n9 : Nat), ∀ (a1 : Int32) (a2 : Int32) (a3 : Int32) (H : Heap) (locs : List Loc) (ls : Array Slot), lv_has ls 4 [(0, .ref (ad 9)), (1, .int a1), (2, .int a2), (3, .int a3)] → WD D cy ad s M H locs → (lp (fun _ _ _ => none) (f_X6_whoKnowAll_4 M) n9) a1 a2 a3 = some z → W p l e R s m args below meth c H locs 0 0 Q (F0 m 4 ls []) := by
    intro n9
    refine lp_ind (fun (rec4 : Int32 → Int32 → Int32 → Option Int32) => ∀ (a1 : Int32) (a2 : Int32) (a3 : Int32) (H : Heap) (locs : List Loc) (ls : Array Slot), lv_has ls 4 [(0, .ref (ad 9)), (1, .int a1), (2, .int a2), (3, .int a3)] → WD D cy ad s M H locs → rec4 a1 a2 a3 = some z → W p l e R s m args below meth c H locs 0 0 Q (F0 m 4 ls [])) ?_ ?_ n9
    · intro a1 a2 a3 H locs ls hl hw hF
      exact nomatch hF
    · intro rec4 hr4 a1 a2 a3 H locs ls hl hw hF
      unfold f_X6_whoKnowAll_4 at hF
      refine lv_iload_n hx hb dX6_whoKnowAll_4 rfl (lv_at hl 3 rfl) ?_
      refine lv_aload_n hx hb dX6_whoKnowAll_5 rfl (lv_at hl 0 rfl) ?_
      refine gX6_get fx hw isO_9 0 (by decide) wd5_19 rfl dX6_whoKnowAll_6 ?_
      refine lv_iconst (v := 0) hx hb dX6_whoKnowAll_9 (by decide) ?_
      refine g_ialdc fx hw isA_10 (k := 0) rfl (by decide) dX6_whoKnowAll_10 ?_
      refine lv_icmp_ge (tgt := 67) hx hb dX6_whoKnowAll_11 (by decide) (fun hc11 => ?_) (fun hc11 => ?_)
      · replace hF := st_t hc11 hF
        refine lv_iload_n hx hb dX6_whoKnowAll_67 rfl (lv_at hl 2 rfl) ?_
        exact E _ _ _ _ _ dX6_whoKnowAll_68 hw hF
      · replace hF := st_f hc11 hF
        refine lv_iload_n hx hb dX6_whoKnowAll_14 rfl (lv_at hl 2 rfl) ?_
        refine lv_iload_n hx hb dX6_whoKnowAll_15 rfl (lv_at hl 3 rfl) ?_
        refine lv_iload_n hx hb dX6_whoKnowAll_16 rfl (lv_at hl 1 rfl) ?_
        refine lv_icmp_eq (tgt := 58) hx hb dX6_whoKnowAll_17 (by decide) (fun hc17 => ?_) (fun hc17 => ?_)
        · replace hF := st_t hc17 hF
          exact n_58 rec4 hr4 a1 a3 a2 H locs ls (lv_sub hl [0, 1, 3] rfl) hw hF
        · replace hF := st_f hc17 hF
          refine lv_aload_n hx hb dX6_whoKnowAll_20 rfl (lv_at hl 0 rfl) ?_
          refine gX6_get fx hw isO_9 0 (by decide) wd5_19 rfl dX6_whoKnowAll_21 ?_
          refine lv_iload_n hx hb dX6_whoKnowAll_24 rfl (lv_at hl 3 rfl) ?_
          refine lv_iconst (v := 2) hx hb dX6_whoKnowAll_25 (by decide) ?_
          obtain ⟨r13, hgr13, hF⟩ := st_bnd hF
          refine g_ci hw (g_runS (As := [.int a3, .int 2]) (rest := [.ref (ad 10), .int a2]) fx hw (c_X6_mo l x D cy ad a3 2 H.size M r13 hgr13) wd5_16 wd5_17 wd1_8 wd5_18 yd_X6_mo rfl rfl (Nat.le_of_ble_eq_true rfl) hl.1 ⟨Nat.le_trans (Nat.le_of_ble_eq_true rfl) hR.1, Nat.le_trans (Nat.le_of_ble_eq_true rfl) hR.2.1⟩ ⟨Nat.le_trans (Nat.le_of_ble_eq_true rfl) hR.2.2.1, Nat.le_trans (Nat.le_of_ble_eq_true rfl) hR.2.2.2⟩ dX6_whoKnowAll_26) (fun H locs hw => ?_)
          obtain ⟨hi14, hF⟩ := st_chk hF
          refine g_iald fx hw isA_10 hi14 dX6_whoKnowAll_29 ?_
          refine lv_aload_n hx hb dX6_whoKnowAll_30 rfl (lv_at hl 0 rfl) ?_
          refine gX6_get fx hw isO_9 0 (by decide) wd5_19 rfl dX6_whoKnowAll_31 ?_
          refine lv_iload_n hx hb dX6_whoKnowAll_34 rfl (lv_at hl 1 rfl) ?_
          refine lv_iconst (v := 2) hx hb dX6_whoKnowAll_35 (by decide) ?_
          obtain ⟨r15, hgr15, hF⟩ := st_bnd hF
          refine g_ci hw (g_runS (As := [.int a1, .int 2]) (rest := [.ref (ad 10), .int (M 10 (ix r13)), .int a2]) fx hw (c_X6_mo l x D cy ad a1 2 H.size M r15 hgr15) wd5_16 wd5_17 wd1_8 wd5_18 yd_X6_mo rfl rfl (Nat.le_of_ble_eq_true rfl) hl.1 ⟨Nat.le_trans (Nat.le_of_ble_eq_true rfl) hR.1, Nat.le_trans (Nat.le_of_ble_eq_true rfl) hR.2.1⟩ ⟨Nat.le_trans (Nat.le_of_ble_eq_true rfl) hR.2.2.1, Nat.le_trans (Nat.le_of_ble_eq_true rfl) hR.2.2.2⟩ dX6_whoKnowAll_36) (fun H locs hw => ?_)
          obtain ⟨hi16, hF⟩ := st_chk hF
          refine g_iald fx hw isA_10 hi16 dX6_whoKnowAll_39 ?_
          refine lv_iand hx hb dX6_whoKnowAll_40 ?_
          refine lv_aload_n hx hb dX6_whoKnowAll_41 rfl (lv_at hl 0 rfl) ?_
          refine gX6_get fx hw isO_9 0 (by decide) wd5_19 rfl dX6_whoKnowAll_42 ?_
          refine lv_iload_n hx hb dX6_whoKnowAll_45 rfl (lv_at hl 1 rfl) ?_
          refine lv_iconst (v := 2) hx hb dX6_whoKnowAll_46 (by decide) ?_
          obtain ⟨r17, hgr17, hF⟩ := st_bnd hF
          refine g_ci hw (g_runS (As := [.int a1, .int 2]) (rest := [.ref (ad 10), .int ((M 10 (ix r13)) &&& (M 10 (ix r15))), .int a2]) fx hw (c_X6_mo l x D cy ad a1 2 H.size M r17 hgr17) wd5_16 wd5_17 wd1_8 wd5_18 yd_X6_mo rfl rfl (Nat.le_of_ble_eq_true rfl) hl.1 ⟨Nat.le_trans (Nat.le_of_ble_eq_true rfl) hR.1, Nat.le_trans (Nat.le_of_ble_eq_true rfl) hR.2.1⟩ ⟨Nat.le_trans (Nat.le_of_ble_eq_true rfl) hR.2.2.1, Nat.le_trans (Nat.le_of_ble_eq_true rfl) hR.2.2.2⟩ dX6_whoKnowAll_47) (fun H locs hw => ?_)
          obtain ⟨hi18, hF⟩ := st_chk hF
          refine g_iald fx hw isA_10 hi18 dX6_whoKnowAll_50 ?_
          refine lv_icmp_ne (tgt := 58) hx hb dX6_whoKnowAll_51 (by decide) (fun hc51 => ?_) (fun hc51 => ?_)
          · replace hF := st_f hc51 hF
            exact n_58 rec4 hr4 a1 a3 a2 H locs ls (lv_sub hl [0, 1, 3] rfl) hw hF
          · replace hF := st_t hc51 hF
            refine lv_iconst (v := 1) hx hb dX6_whoKnowAll_54 (by decide) ?_
            refine lv_goto (tgt := 59) hx hb dX6_whoKnowAll_55 (by decide) ?_
            exact n_59 rec4 hr4 a1 a3 a2 1 H locs ls (lv_sub hl [0, 1, 3] rfl) hw hF
  unfold f_X6_whoKnowAll at hF
  refine lv_iconst (v := 0) hx hb dX6_whoKnowAll_0 (by decide) ?_
  refine lv_istore_n (lv' := [(2, .int 0), (0, .ref (ad 9)), (1, .int p1)]) hx hb dX6_whoKnowAll_1 rfl hl (by decide) rfl (fun ls hl => ?_)
  refine lv_iconst (v := 0) hx hb dX6_whoKnowAll_2 (by decide) ?_
  refine lv_istore_n (lv' := [(3, .int 0), (2, .int 0), (0, .ref (ad 9)), (1, .int p1)]) hx hb dX6_whoKnowAll_3 rfl hl (by decide) rfl (fun ls hl => ?_)
  exact n_4 FU p1 0 0 H locs ls (lv_sub hl [2, 3, 1, 0] rfl) hw hF
theorem c_X6_whoKnowAll (l : Launch) (x : SX) (D : va_G) (cy : Nat → ClassId) (ad : Nat → Nat) (p1 : Int32) (sz : Nat) (M : Mem) (z : Int32) (hF : f_X6_whoKnowAll p1 M = some z) : Met l yX6_whoKnowAll (.code yX6_whoKnowAll cX6_whoKnowAll 4 (some .int) :: GB) ({ frames := 1, cells := 0, slots := 0, locals := 21 } : Room) (PcW D cy ad x sz M [.ref (ad 9), .int p1]) (QiW D cy ad sz z M) 0 0 (AA ad sz) := by
  refine mk_m (own := RX6) (by decide) rfl (Nat.le_of_ble_eq_true rfl) ?_
  intro p e s m args below meth c ls fx hw hl hsz
  subst hsz
  exact b_X6_whoKnowAll fx ⟨Nat.le_refl _, Nat.le_refl _, Nat.le_refl _, Nat.le_refl _⟩ p1 M z hF (fun pc ls H locs v hd hw h => by cases h; exact g_iret fx hw rfl hd) _ _ ls hl hw
noncomputable def f_X6_lengthOf_4 (M : Mem) (rec4 : Int32 → Int32 → Option Int32) : Int32 → Int32 → Option Int32 := fun a1 a2 => (if a2 ≤ 0 then (some a1) else (rec4 (a1 + 1) (a2 / 27)))
noncomputable def f_X6_lengthOf (p1 : Int32) (M : Mem) : Option Int32 := ((lp (fun _ _ => none) (f_X6_lengthOf_4 M) FU) 0 p1)
set_option maxHeartbeats 4000000 in
set_option maxRecDepth 100000 in
theorem b_X6_lengthOf {p : Program} {l : Launch} {e : Env} {R : Room} {s : State} {m : MethodId} {args : Array Value} {below : List Frame} {meth : Method} {c : Code} {Q : State → Prop} {D : va_G} {cy : Nat → ClassId} {ad : Nat → Nat} {x : SX} (fx : FX p s m args meth c cX6_lengthOf 3 (some .int) RX6 D cy ad x) (hR : 0 ≤ R.frames ∧ 0 ≤ R.locals ∧ 0 ≤ R.cells ∧ 0 ≤ R.slots) (p1 : Int32) (M : Mem) (z : Int32) (hF : f_X6_lengthOf p1 M = some z) (E : ∀ (pc : Nat) (ls : Array Slot) (H : Heap) (locs : List Loc) (v : Int32), decode cX6_lengthOf pc = .ok (.ireturn, 1) → WD D cy ad s M H locs → some v = some z → W p l e R s m args below meth c H locs 0 0 Q (F0 m pc ls [.int v])) (H : Heap) (locs : List Loc) (ls : Array Slot) (hl : lv_has ls 3 [(0, .int p1)]) (hw : WD D cy ad s M H locs) : W p l e R s m args below meth c H locs 0 0 Q (F0 m 0 ls []) := by
  have hx := fx.1.1
  have hb := fx.1.2.1
  have hown := fx.1.2.2.2.1
  have hts := fx.1.2.2.2.2
  have n_4 : ∀ (n9 : Nat), ∀ (a1 : Int32) (a2 : Int32) (H : Heap) (locs : List Loc) (ls : Array Slot), lv_has ls 3 [(1, .int a1), (2, .int a2)] → WD D cy ad s M H locs → (lp (fun _ _ => none) (f_X6_lengthOf_4 M) n9) a1 a2 = some z → W p l e R s m args below meth c H locs 0 0 Q (F0 m 4 ls []) := by
    intro n9
    refine lp_ind (fun (rec4 : Int32 → Int32 → Option Int32) => ∀ (a1 : Int32) (a2 : Int32) (H : Heap) (locs : List Loc) (ls : Array Slot), lv_has ls 3 [(1, .int a1), (2, .int a2)] → WD D cy ad s M H locs → rec4 a1 a2 = some z → W p l e R s m args below meth c H locs 0 0 Q (F0 m 4 ls [])) ?_ ?_ n9
    · intro a1 a2 H locs ls hl hw hF
      exact nomatch hF
    · intro rec4 hr4 a1 a2 H locs ls hl hw hF
      unfold f_X6_lengthOf_4 at hF
      refine lv_iload_n hx hb dX6_lengthOf_4 rfl (lv_at hl 1 rfl) ?_
      refine lv_if_le (tgt := 19) hx hb dX6_lengthOf_5 (by decide) (fun hc5 => ?_) (fun hc5 => ?_)
      · replace hF := st_t hc5 hF
        refine lv_iload_n hx hb dX6_lengthOf_19 rfl (lv_at hl 0 rfl) ?_
        exact E _ _ _ _ _ dX6_lengthOf_20 hw hF
      · replace hF := st_f hc5 hF
        refine lv_iinc (v := (a1 + 1)) (lv' := [(1, .int (a1 + 1)), (2, .int a2)]) hx hb dX6_lengthOf_8 hl (k := 0) rfl rfl (by decide) rfl (fun ls hl => ?_)
        refine lv_iload_n hx hb dX6_lengthOf_11 rfl (lv_at hl 1 rfl) ?_
        refine lv_bipush (v := 27) hx hb dX6_lengthOf_12 (by decide) ?_
        refine lv_idiv hx hb dX6_lengthOf_14 (by decide) ?_
        refine lv_istore_n (lv' := [(2, .int (a2 / 27)), (1, .int (a1 + 1))]) hx hb dX6_lengthOf_15 rfl hl (by decide) rfl (fun ls hl => ?_)
        refine lv_goto (tgt := 4) hx hb dX6_lengthOf_16 (by decide) ?_
        exact hr4 (a1 + 1) (a2 / 27) H locs ls (lv_sub hl [1, 0] rfl) hw hF
  unfold f_X6_lengthOf at hF
  refine lv_iconst (v := 0) hx hb dX6_lengthOf_0 (by decide) ?_
  refine lv_istore_n (lv' := [(1, .int 0), (0, .int p1)]) hx hb dX6_lengthOf_1 rfl hl (by decide) rfl (fun ls hl => ?_)
  refine lv_iload_n hx hb dX6_lengthOf_2 rfl (lv_at hl 1 rfl) ?_
  refine lv_istore_n (lv' := [(2, .int p1), (1, .int 0), (0, .int p1)]) hx hb dX6_lengthOf_3 rfl hl (by decide) rfl (fun ls hl => ?_)
  exact n_4 FU 0 p1 H locs ls (lv_sub hl [1, 0] rfl) hw hF
theorem c_X6_lengthOf (l : Launch) (x : SX) (D : va_G) (cy : Nat → ClassId) (ad : Nat → Nat) (p1 : Int32) (sz : Nat) (M : Mem) (z : Int32) (hF : f_X6_lengthOf p1 M = some z) : Met l yX6_lengthOf (.code yX6_lengthOf cX6_lengthOf 3 (some .int) :: GB) ({ frames := 0, cells := 0, slots := 0, locals := 0 } : Room) (PcW D cy ad x sz M [.int p1]) (QiW D cy ad sz z M) 0 0 (AA ad sz) := by
  refine mk_m (own := RX6) (by decide) rfl (Nat.le_of_ble_eq_true rfl) ?_
  intro p e s m args below meth c ls fx hw hl hsz
  subst hsz
  exact b_X6_lengthOf fx ⟨Nat.le_refl _, Nat.le_refl _, Nat.le_refl _, Nat.le_refl _⟩ p1 M z hF (fun pc ls H locs v hd hw h => by cases h; exact g_iret fx hw rfl hd) _ _ ls hl hw
noncomputable def f_X6_monk_99 : Int32 → Int32 → Mem → Option (Int32 × Mem) := fun a1 a2 M => (bnd (f_X6_mo a1 ((4 + a2) - 1) M) (fun r35 => (chk (inB r35 156) (some ((M 10 (ix r35)), M)))))
noncomputable def f_X6_monk_28 : Int32 → Int32 → Int32 → Mem → Option (Int32 × Mem) := fun a1 a2 t1 M => (letM (mput M 9 6 t1) (fun M37 => (if (M37 9 6) ≤ 0 then (letV a2 (fun y38 => (if y38 = 0 then (bnd (f_X6_mo a1 1 M37) (fun r39 => (chk (inB r39 156) (some ((M37 10 (ix r39)), M37))))) else (if y38 = 1 then ((f_X6_monk_99) a1 a2 M37) else (if y38 = 2 then ((f_X6_monk_99) a1 a2 M37) else (if y38 = 3 then ((f_X6_monk_99) a1 a2 M37) else (if y38 = 4 then ((f_X6_monk_99) a1 a2 M37) else (if y38 = 5 then (bnd (f_X6_mo a1 2 M37) (fun r41 => (chk (inB r41 156) (bnd (f_X6_bits (M37 10 (ix r41)) M37) (fun r43 => (some (r43, M37))))))) else (if y38 = 6 then (bnd (f_X6_mo a1 3 M37) (fun r44 => (chk (inB r44 156) (bnd (f_X6_bits (M37 10 (ix r44)) M37) (fun r46 => (some (r46, M37))))))) else (if y38 = 7 then (bnd (f_X6_whoKnowAll a1 M37) (fun r47 => (some (r47, M37)))) else (bnd (f_X6_mo a1 0 M37) (fun r48 => (chk (inB r48 156) (bnd (f_X6_lengthOf (M37 10 (ix r48)) M37) (fun r50 => (some (r50, M37))))))))))))))))) else (some (0, M37)))))
noncomputable def f_X6_monk (p1 p2 : Int32) (M : Mem) : Option (Int32 × Mem) := (bnd (f_X6_isMonk p1 M) (fun r51 => (if r51 = 0 then ((f_X6_monk_28) p1 p2 1 M) else (bnd (f_X6_isIn p2 0 8 M) (fun r52 => (if r52 = 0 then ((f_X6_monk_28) p1 p2 2 M) else ((f_X6_monk_28) p1 p2 0 M)))))))
set_option maxHeartbeats 4000000 in
set_option maxRecDepth 100000 in
theorem b_X6_monk {p : Program} {l : Launch} {e : Env} {R : Room} {s : State} {m : MethodId} {args : Array Value} {below : List Frame} {meth : Method} {c : Code} {Q : State → Prop} {D : va_G} {cy : Nat → ClassId} {ad : Nat → Nat} {x : SX} (fx : FX p s m args meth c cX6_monk 3 (some .int) RX6 D cy ad x) (hR : 2 ≤ R.frames ∧ 44 ≤ R.locals ∧ 0 ≤ R.cells ∧ 0 ≤ R.slots) (p1 p2 : Int32) (M : Mem) (z : Int32) (M' : Mem) (hF : f_X6_monk p1 p2 M = some (z, M')) (E : ∀ (pc : Nat) (ls : Array Slot) (H : Heap) (locs : List Loc) (v : Int32) (M1 : Mem), decode cX6_monk pc = .ok (.ireturn, 1) → WD D cy ad s M1 H locs → some (v, M1) = some (z, M') → W p l e R s m args below meth c H locs 0 0 Q (F0 m pc ls [.int v])) (H : Heap) (locs : List Loc) (ls : Array Slot) (hl : lv_has ls 3 [(0, .ref (ad 9)), (1, .int p1), (2, .int p2)]) (hw : WD D cy ad s M H locs) : W p l e R s m args below meth c H locs 0 0 Q (F0 m 0 ls []) := by
  have hx := fx.1.1
  have hb := fx.1.2.1
  have hown := fx.1.2.2.2.1
  have hts := fx.1.2.2.2.2
  have n_99 : ∀ (a1 : Int32) (a2 : Int32) (M : Mem) (H : Heap) (locs : List Loc) (ls : Array Slot), lv_has ls 3 [(0, .ref (ad 9)), (1, .int a1), (2, .int a2)] → WD D cy ad s M H locs → f_X6_monk_99 a1 a2 M = some (z, M') → W p l e R s m args below meth c H locs 0 0 Q (F0 m 99 ls []) := by
    intro a1 a2 M H locs ls hl hw hF
    unfold f_X6_monk_99 at hF
    refine lv_aload_n hx hb dX6_monk_99 rfl (lv_at hl 0 rfl) ?_
    refine gX6_get fx hw isO_9 0 (by decide) wd5_19 rfl dX6_monk_100 ?_
    refine lv_iload_n hx hb dX6_monk_103 rfl (lv_at hl 1 rfl) ?_
    refine lv_iconst (v := 4) hx hb dX6_monk_104 (by decide) ?_
    refine lv_iload_n hx hb dX6_monk_105 rfl (lv_at hl 2 rfl) ?_
    refine lv_iadd hx hb dX6_monk_106 ?_
    refine lv_iconst (v := 1) hx hb dX6_monk_107 (by decide) ?_
    refine lv_isub hx hb dX6_monk_108 ?_
    obtain ⟨r35, hgr35, hF⟩ := st_bnd hF
    refine g_ci hw (g_runS (As := [.int a1, .int ((4 + a2) - 1)]) (rest := [.ref (ad 10)]) fx hw (c_X6_mo l x D cy ad a1 ((4 + a2) - 1) H.size M r35 hgr35) wd5_16 wd5_17 wd1_8 wd5_18 yd_X6_mo rfl rfl (Nat.le_of_ble_eq_true rfl) hl.1 ⟨Nat.le_trans (Nat.le_of_ble_eq_true rfl) hR.1, Nat.le_trans (Nat.le_of_ble_eq_true rfl) hR.2.1⟩ ⟨Nat.le_trans (Nat.le_of_ble_eq_true rfl) hR.2.2.1, Nat.le_trans (Nat.le_of_ble_eq_true rfl) hR.2.2.2⟩ dX6_monk_109) (fun H locs hw => ?_)
    obtain ⟨hi36, hF⟩ := st_chk hF
    refine g_iald fx hw isA_10 hi36 dX6_monk_112 ?_
    exact E _ _ _ _ _ _ dX6_monk_113 hw hF
  have n_28 : ∀ (a1 : Int32) (a2 : Int32) (t1 : Int32) (M : Mem) (H : Heap) (locs : List Loc) (ls : Array Slot), lv_has ls 3 [(0, .ref (ad 9)), (1, .int a1), (2, .int a2)] → WD D cy ad s M H locs → f_X6_monk_28 a1 a2 t1 M = some (z, M') → W p l e R s m args below meth c H locs 0 0 Q (F0 m 28 ls [.int t1, .ref (ad 9)]) := by
    intro a1 a2 t1 M H locs ls hl hw hF
    unfold f_X6_monk_28 at hF
    obtain ⟨M37, eM37, hF⟩ := st_letM hF
    refine gX6_put fx hw isO_9 6 (by decide) wd5_25 rfl eM37 rfl (Nat.le_of_ble_eq_true rfl) dX6_monk_28 (fun H locs hw => ?_)
    refine lv_aload_n hx hb dX6_monk_31 rfl (lv_at hl 0 rfl) ?_
    refine gX6_get fx hw isO_9 6 (by decide) wd5_25 rfl dX6_monk_32 ?_
    refine lv_if_le (tgt := 40) hx hb dX6_monk_35 (by decide) (fun hc35 => ?_) (fun hc35 => ?_)
    · replace hF := st_t hc35 hF
      refine lv_iload_n hx hb dX6_monk_40 rfl (lv_at hl 2 rfl) ?_
      obtain ⟨y38, ey38, hF⟩ := st_letV hF
      refine g_top ey38 ?_
      by_cases hk41_0 : y38 = 0
      · replace hF := st_t hk41_0 hF
        subst hk41_0
        refine lv_tableIn (off := 47) (tgt := 88) hx hb dX6_monk_41 (by decide) (by decide) rfl (by decide) ?_
        refine lv_aload_n hx hb dX6_monk_88 rfl (lv_at hl 0 rfl) ?_
        refine gX6_get fx hw isO_9 0 (by decide) wd5_19 rfl dX6_monk_89 ?_
        refine lv_iload_n hx hb dX6_monk_92 rfl (lv_at hl 1 rfl) ?_
        refine lv_iconst (v := 1) hx hb dX6_monk_93 (by decide) ?_
        obtain ⟨r39, hgr39, hF⟩ := st_bnd hF
        refine g_ci hw (g_runS (As := [.int a1, .int 1]) (rest := [.ref (ad 10)]) fx hw (c_X6_mo l x D cy ad a1 1 H.size M37 r39 hgr39) wd5_16 wd5_17 wd1_8 wd5_18 yd_X6_mo rfl rfl (Nat.le_of_ble_eq_true rfl) hl.1 ⟨Nat.le_trans (Nat.le_of_ble_eq_true rfl) hR.1, Nat.le_trans (Nat.le_of_ble_eq_true rfl) hR.2.1⟩ ⟨Nat.le_trans (Nat.le_of_ble_eq_true rfl) hR.2.2.1, Nat.le_trans (Nat.le_of_ble_eq_true rfl) hR.2.2.2⟩ dX6_monk_94) (fun H locs hw => ?_)
        obtain ⟨hi40, hF⟩ := st_chk hF
        refine g_iald fx hw isA_10 hi40 dX6_monk_97 ?_
        exact E _ _ _ _ _ _ dX6_monk_98 hw hF
      · replace hF := st_f hk41_0 hF
        by_cases hk41_1 : y38 = 1
        · replace hF := st_t hk41_1 hF
          subst hk41_1
          refine lv_tableIn (off := 58) (tgt := 99) hx hb dX6_monk_41 (by decide) (by decide) rfl (by decide) ?_
          exact n_99 a1 a2 M37 H locs ls (lv_sub hl [0, 1, 2] rfl) hw hF
        · replace hF := st_f hk41_1 hF
          by_cases hk41_2 : y38 = 2
          · replace hF := st_t hk41_2 hF
            subst hk41_2
            refine lv_tableIn (off := 58) (tgt := 99) hx hb dX6_monk_41 (by decide) (by decide) rfl (by decide) ?_
            exact n_99 a1 a2 M37 H locs ls (lv_sub hl [0, 1, 2] rfl) hw hF
          · replace hF := st_f hk41_2 hF
            by_cases hk41_3 : y38 = 3
            · replace hF := st_t hk41_3 hF
              subst hk41_3
              refine lv_tableIn (off := 58) (tgt := 99) hx hb dX6_monk_41 (by decide) (by decide) rfl (by decide) ?_
              exact n_99 a1 a2 M37 H locs ls (lv_sub hl [0, 1, 2] rfl) hw hF
            · replace hF := st_f hk41_3 hF
              by_cases hk41_4 : y38 = 4
              · replace hF := st_t hk41_4 hF
                subst hk41_4
                refine lv_tableIn (off := 58) (tgt := 99) hx hb dX6_monk_41 (by decide) (by decide) rfl (by decide) ?_
                exact n_99 a1 a2 M37 H locs ls (lv_sub hl [0, 1, 2] rfl) hw hF
              · replace hF := st_f hk41_4 hF
                by_cases hk41_5 : y38 = 5
                · replace hF := st_t hk41_5 hF
                  subst hk41_5
                  refine lv_tableIn (off := 73) (tgt := 114) hx hb dX6_monk_41 (by decide) (by decide) rfl (by decide) ?_
                  refine lv_aload_n hx hb dX6_monk_114 rfl (lv_at hl 0 rfl) ?_
                  refine gX6_get fx hw isO_9 0 (by decide) wd5_19 rfl dX6_monk_115 ?_
                  refine lv_iload_n hx hb dX6_monk_118 rfl (lv_at hl 1 rfl) ?_
                  refine lv_iconst (v := 2) hx hb dX6_monk_119 (by decide) ?_
                  obtain ⟨r41, hgr41, hF⟩ := st_bnd hF
                  refine g_ci hw (g_runS (As := [.int a1, .int 2]) (rest := [.ref (ad 10)]) fx hw (c_X6_mo l x D cy ad a1 2 H.size M37 r41 hgr41) wd5_16 wd5_17 wd1_8 wd5_18 yd_X6_mo rfl rfl (Nat.le_of_ble_eq_true rfl) hl.1 ⟨Nat.le_trans (Nat.le_of_ble_eq_true rfl) hR.1, Nat.le_trans (Nat.le_of_ble_eq_true rfl) hR.2.1⟩ ⟨Nat.le_trans (Nat.le_of_ble_eq_true rfl) hR.2.2.1, Nat.le_trans (Nat.le_of_ble_eq_true rfl) hR.2.2.2⟩ dX6_monk_120) (fun H locs hw => ?_)
                  obtain ⟨hi42, hF⟩ := st_chk hF
                  refine g_iald fx hw isA_10 hi42 dX6_monk_123 ?_
                  obtain ⟨r43, hgr43, hF⟩ := st_bnd hF
                  refine g_ci hw (g_runS (As := [.int (M37 10 (ix r41))]) (rest := []) fx hw (c_X6_bits l x D cy ad (M37 10 (ix r41)) H.size M37 r43 hgr43) wd5_131 wd5_132 wd1_8 wd5_133 yd_X6_bits rfl rfl (Nat.le_of_ble_eq_true rfl) hl.1 ⟨Nat.le_trans (Nat.le_of_ble_eq_true rfl) hR.1, Nat.le_trans (Nat.le_of_ble_eq_true rfl) hR.2.1⟩ ⟨Nat.le_trans (Nat.le_of_ble_eq_true rfl) hR.2.2.1, Nat.le_trans (Nat.le_of_ble_eq_true rfl) hR.2.2.2⟩ dX6_monk_124) (fun H locs hw => ?_)
                  exact E _ _ _ _ _ _ dX6_monk_127 hw hF
                · replace hF := st_f hk41_5 hF
                  by_cases hk41_6 : y38 = 6
                  · replace hF := st_t hk41_6 hF
                    subst hk41_6
                    refine lv_tableIn (off := 87) (tgt := 128) hx hb dX6_monk_41 (by decide) (by decide) rfl (by decide) ?_
                    refine lv_aload_n hx hb dX6_monk_128 rfl (lv_at hl 0 rfl) ?_
                    refine gX6_get fx hw isO_9 0 (by decide) wd5_19 rfl dX6_monk_129 ?_
                    refine lv_iload_n hx hb dX6_monk_132 rfl (lv_at hl 1 rfl) ?_
                    refine lv_iconst (v := 3) hx hb dX6_monk_133 (by decide) ?_
                    obtain ⟨r44, hgr44, hF⟩ := st_bnd hF
                    refine g_ci hw (g_runS (As := [.int a1, .int 3]) (rest := [.ref (ad 10)]) fx hw (c_X6_mo l x D cy ad a1 3 H.size M37 r44 hgr44) wd5_16 wd5_17 wd1_8 wd5_18 yd_X6_mo rfl rfl (Nat.le_of_ble_eq_true rfl) hl.1 ⟨Nat.le_trans (Nat.le_of_ble_eq_true rfl) hR.1, Nat.le_trans (Nat.le_of_ble_eq_true rfl) hR.2.1⟩ ⟨Nat.le_trans (Nat.le_of_ble_eq_true rfl) hR.2.2.1, Nat.le_trans (Nat.le_of_ble_eq_true rfl) hR.2.2.2⟩ dX6_monk_134) (fun H locs hw => ?_)
                    obtain ⟨hi45, hF⟩ := st_chk hF
                    refine g_iald fx hw isA_10 hi45 dX6_monk_137 ?_
                    obtain ⟨r46, hgr46, hF⟩ := st_bnd hF
                    refine g_ci hw (g_runS (As := [.int (M37 10 (ix r44))]) (rest := []) fx hw (c_X6_bits l x D cy ad (M37 10 (ix r44)) H.size M37 r46 hgr46) wd5_131 wd5_132 wd1_8 wd5_133 yd_X6_bits rfl rfl (Nat.le_of_ble_eq_true rfl) hl.1 ⟨Nat.le_trans (Nat.le_of_ble_eq_true rfl) hR.1, Nat.le_trans (Nat.le_of_ble_eq_true rfl) hR.2.1⟩ ⟨Nat.le_trans (Nat.le_of_ble_eq_true rfl) hR.2.2.1, Nat.le_trans (Nat.le_of_ble_eq_true rfl) hR.2.2.2⟩ dX6_monk_138) (fun H locs hw => ?_)
                    exact E _ _ _ _ _ _ dX6_monk_141 hw hF
                  · replace hF := st_f hk41_6 hF
                    by_cases hk41_7 : y38 = 7
                    · replace hF := st_t hk41_7 hF
                      subst hk41_7
                      refine lv_tableIn (off := 101) (tgt := 142) hx hb dX6_monk_41 (by decide) (by decide) rfl (by decide) ?_
                      refine lv_aload_n hx hb dX6_monk_142 rfl (lv_at hl 0 rfl) ?_
                      refine lv_iload_n hx hb dX6_monk_143 rfl (lv_at hl 1 rfl) ?_
                      obtain ⟨r47, hgr47, hF⟩ := st_bnd hF
                      refine g_ci hw (g_runV (C := RX6) (As := [.int a1]) (rest := []) fx hw isO_9 rfl (c_X6_whoKnowAll l x D cy ad a1 H.size M37 r47 hgr47) wd5_150 wd5_152 wd0_51 wd1_8 wd5_153 yd_X6_whoKnowAll rfl rfl (Nat.le_of_ble_eq_true rfl) hl.1 ⟨Nat.le_trans (Nat.le_of_ble_eq_true rfl) hR.1, Nat.le_trans (Nat.le_of_ble_eq_true rfl) hR.2.1⟩ ⟨Nat.le_trans (Nat.le_of_ble_eq_true rfl) hR.2.2.1, Nat.le_trans (Nat.le_of_ble_eq_true rfl) hR.2.2.2⟩ dX6_monk_144) (fun H locs hw => ?_)
                      exact E _ _ _ _ _ _ dX6_monk_147 hw hF
                    · replace hF := st_f hk41_7 hF
                      refine lv_tableOut (tgt := 148) hx hb dX6_monk_41 (by have e_0 := lv_neT (a := 0) hk41_0 (by decide); have e_1 := lv_neT (a := 1) hk41_1 (by decide); have e_2 := lv_neT (a := 2) hk41_2 (by decide); have e_3 := lv_neT (a := 3) hk41_3 (by decide); have e_4 := lv_neT (a := 4) hk41_4 (by decide); have e_5 := lv_neT (a := 5) hk41_5 (by decide); have e_6 := lv_neT (a := 6) hk41_6 (by decide); have e_7 := lv_neT (a := 7) hk41_7 (by decide); omega) (by decide) ?_
                      refine lv_aload_n hx hb dX6_monk_148 rfl (lv_at hl 0 rfl) ?_
                      refine gX6_get fx hw isO_9 0 (by decide) wd5_19 rfl dX6_monk_149 ?_
                      refine lv_iload_n hx hb dX6_monk_152 rfl (lv_at hl 1 rfl) ?_
                      refine lv_iconst (v := 0) hx hb dX6_monk_153 (by decide) ?_
                      obtain ⟨r48, hgr48, hF⟩ := st_bnd hF
                      refine g_ci hw (g_runS (As := [.int a1, .int 0]) (rest := [.ref (ad 10)]) fx hw (c_X6_mo l x D cy ad a1 0 H.size M37 r48 hgr48) wd5_16 wd5_17 wd1_8 wd5_18 yd_X6_mo rfl rfl (Nat.le_of_ble_eq_true rfl) hl.1 ⟨Nat.le_trans (Nat.le_of_ble_eq_true rfl) hR.1, Nat.le_trans (Nat.le_of_ble_eq_true rfl) hR.2.1⟩ ⟨Nat.le_trans (Nat.le_of_ble_eq_true rfl) hR.2.2.1, Nat.le_trans (Nat.le_of_ble_eq_true rfl) hR.2.2.2⟩ dX6_monk_154) (fun H locs hw => ?_)
                      obtain ⟨hi49, hF⟩ := st_chk hF
                      refine g_iald fx hw isA_10 hi49 dX6_monk_157 ?_
                      obtain ⟨r50, hgr50, hF⟩ := st_bnd hF
                      refine g_ci hw (g_runS (As := [.int (M37 10 (ix r48))]) (rest := []) fx hw (c_X6_lengthOf l x D cy ad (M37 10 (ix r48)) H.size M37 r50 hgr50) wd5_154 wd5_155 wd1_8 wd5_156 yd_X6_lengthOf rfl rfl (Nat.le_of_ble_eq_true rfl) hl.1 ⟨Nat.le_trans (Nat.le_of_ble_eq_true rfl) hR.1, Nat.le_trans (Nat.le_of_ble_eq_true rfl) hR.2.1⟩ ⟨Nat.le_trans (Nat.le_of_ble_eq_true rfl) hR.2.2.1, Nat.le_trans (Nat.le_of_ble_eq_true rfl) hR.2.2.2⟩ dX6_monk_158) (fun H locs hw => ?_)
                      exact E _ _ _ _ _ _ dX6_monk_161 hw hF
    · replace hF := st_f hc35 hF
      refine lv_iconst (v := 0) hx hb dX6_monk_38 (by decide) ?_
      exact E _ _ _ _ _ _ dX6_monk_39 hw hF
  unfold f_X6_monk at hF
  refine lv_aload_n hx hb dX6_monk_0 rfl (lv_at hl 0 rfl) ?_
  refine lv_aload_n hx hb dX6_monk_1 rfl (lv_at hl 0 rfl) ?_
  refine lv_iload_n hx hb dX6_monk_2 rfl (lv_at hl 1 rfl) ?_
  obtain ⟨r51, hgr51, hF⟩ := st_bnd hF
  refine g_cz hw (g_runV (C := RX6) (As := [.int p1]) (rest := [.ref (ad 9)]) fx hw isO_9 rfl (c_X6_isMonk l x D cy ad p1 H.size M r51 hgr51) wd5_146 wd5_148 wd0_50 wd1_8 wd5_149 yd_X6_isMonk rfl rfl (Nat.le_of_ble_eq_true rfl) hl.1 ⟨Nat.le_trans (Nat.le_of_ble_eq_true rfl) hR.1, Nat.le_trans (Nat.le_of_ble_eq_true rfl) hR.2.1⟩ ⟨Nat.le_trans (Nat.le_of_ble_eq_true rfl) hR.2.2.1, Nat.le_trans (Nat.le_of_ble_eq_true rfl) hR.2.2.2⟩ dX6_monk_3) (fun H locs hbr51 hw => ?_)
  refine lv_if_ne (tgt := 13) hx hb dX6_monk_6 (by decide) (fun hc6 => ?_) (fun hc6 => ?_)
  · replace hF := st_f hc6 hF
    refine lv_iload_n hx hb dX6_monk_13 rfl (lv_at hl 2 rfl) ?_
    refine lv_iconst (v := 0) hx hb dX6_monk_14 (by decide) ?_
    refine lv_bipush (v := 8) hx hb dX6_monk_15 (by decide) ?_
    obtain ⟨r52, hgr52, hF⟩ := st_bnd hF
    refine g_cz hw (g_runS (As := [.int p2, .int 0, .int 8]) (rest := [.ref (ad 9)]) fx hw (c_X6_isIn l x D cy ad p2 0 8 H.size M r52 hgr52) wd5_92 wd5_93 wd1_8 wd5_94 yd_X6_isIn rfl rfl (Nat.le_of_ble_eq_true rfl) hl.1 ⟨Nat.le_trans (Nat.le_of_ble_eq_true rfl) hR.1, Nat.le_trans (Nat.le_of_ble_eq_true rfl) hR.2.1⟩ ⟨Nat.le_trans (Nat.le_of_ble_eq_true rfl) hR.2.2.1, Nat.le_trans (Nat.le_of_ble_eq_true rfl) hR.2.2.2⟩ dX6_monk_17) (fun H locs hbr52 hw => ?_)
    refine lv_if_eq (tgt := 27) hx hb dX6_monk_20 (by decide) (fun hc20 => ?_) (fun hc20 => ?_)
    · replace hF := st_t hc20 hF
      refine lv_iconst (v := 2) hx hb dX6_monk_27 (by decide) ?_
      exact n_28 p1 p2 2 M H locs ls (lv_sub hl [0, 1, 2] rfl) hw hF
    · replace hF := st_f hc20 hF
      refine lv_iconst (v := 0) hx hb dX6_monk_23 (by decide) ?_
      refine lv_goto (tgt := 28) hx hb dX6_monk_24 (by decide) ?_
      exact n_28 p1 p2 0 M H locs ls (lv_sub hl [0, 1, 2] rfl) hw hF
  · replace hF := st_t hc6 hF
    refine lv_iconst (v := 1) hx hb dX6_monk_9 (by decide) ?_
    refine lv_goto (tgt := 28) hx hb dX6_monk_10 (by decide) ?_
    exact n_28 p1 p2 1 M H locs ls (lv_sub hl [0, 1, 2] rfl) hw hF
theorem c_X6_monk (l : Launch) (x : SX) (D : va_G) (cy : Nat → ClassId) (ad : Nat → Nat) (p1 p2 : Int32) (sz : Nat) (M : Mem) (z : Int32) (M' : Mem) (hF : f_X6_monk p1 p2 M = some (z, M')) : Met l yX6_monk (.code yX6_monk cX6_monk 3 (some .int) :: GB) ({ frames := 2, cells := 0, slots := 0, locals := 44 } : Room) (PcW D cy ad x sz M [.ref (ad 9), .int p1, .int p2]) (QiW D cy ad sz z M') 0 0 (AA ad sz) := by
  refine mk_m (own := RX6) (by decide) rfl (Nat.le_of_ble_eq_true rfl) ?_
  intro p e s m args below meth c ls fx hw hl hsz
  subst hsz
  exact b_X6_monk fx ⟨Nat.le_refl _, Nat.le_refl _, Nat.le_refl _, Nat.le_refl _⟩ p1 p2 M z M' hF (fun pc ls H locs v M1 hd hw h => by cases h; exact g_iret fx hw rfl hd) _ _ ls hl hw
noncomputable def f_X6_monksWith_33 (M : Mem) (rec5 : Int32 → Int32 → Int32 → Int32 → Option Int32) : Int32 → Int32 → Int32 → Int32 → Int32 → Option Int32 := fun a1 a2 a4 t0 t1 => (rec5 a1 a2 (t0 + t1) (a4 + 1))
noncomputable def f_X6_monksWith_5 (M : Mem) (rec5 : Int32 → Int32 → Int32 → Int32 → Option Int32) : Int32 → Int32 → Int32 → Int32 → Option Int32 := fun a1 a2 a3 a4 => (if (M 10 0) ≤ a4 then (some a3) else (bnd (f_X6_isSet a4 a1 a2 M) (fun r3 => (if r3 = 0 then ((f_X6_monksWith_33 M rec5) a1 a2 a4 a3 0) else ((f_X6_monksWith_33 M rec5) a1 a2 a4 a3 1)))))
noncomputable def f_X6_monksWith (p1 p2 : Int32) (M : Mem) : Option Int32 := ((lp (fun _ _ _ _ => none) (f_X6_monksWith_5 M) FU) p1 p2 0 0)
set_option maxHeartbeats 4000000 in
set_option maxRecDepth 100000 in
theorem b_X6_monksWith {p : Program} {l : Launch} {e : Env} {R : Room} {s : State} {m : MethodId} {args : Array Value} {below : List Frame} {meth : Method} {c : Code} {Q : State → Prop} {D : va_G} {cy : Nat → ClassId} {ad : Nat → Nat} {x : SX} (fx : FX p s m args meth c cX6_monksWith 5 (some .int) RX6 D cy ad x) (hR : 2 ≤ R.frames ∧ 44 ≤ R.locals ∧ 0 ≤ R.cells ∧ 0 ≤ R.slots) (p1 p2 : Int32) (M : Mem) (z : Int32) (hF : f_X6_monksWith p1 p2 M = some z) (E : ∀ (pc : Nat) (ls : Array Slot) (H : Heap) (locs : List Loc) (v : Int32), decode cX6_monksWith pc = .ok (.ireturn, 1) → WD D cy ad s M H locs → some v = some z → W p l e R s m args below meth c H locs 0 0 Q (F0 m pc ls [.int v])) (H : Heap) (locs : List Loc) (ls : Array Slot) (hl : lv_has ls 5 [(0, .ref (ad 9)), (1, .int p1), (2, .int p2)]) (hw : WD D cy ad s M H locs) : W p l e R s m args below meth c H locs 0 0 Q (F0 m 0 ls []) := by
  have hx := fx.1.1
  have hb := fx.1.2.1
  have hown := fx.1.2.2.2.1
  have hts := fx.1.2.2.2.2
  have n_33 : ∀ (rec5 : Int32 → Int32 → Int32 → Int32 → Option Int32) (_ : ∀ (a1 : Int32) (a2 : Int32) (a3 : Int32) (a4 : Int32) (H : Heap) (locs : List Loc) (ls : Array Slot), lv_has ls 5 [(0, .ref (ad 9)), (1, .int a1), (2, .int a2), (3, .int a3), (4, .int a4)] → WD D cy ad s M H locs → rec5 a1 a2 a3 a4 = some z → W p l e R s m args below meth c H locs 0 0 Q (F0 m 5 ls [])) , ∀ (a1 : Int32) (a2 : Int32) (a4 : Int32) (t0 : Int32) (t1 : Int32) (H : Heap) (locs : List Loc) (ls : Array Slot), lv_has ls 5 [(0, .ref (ad 9)), (1, .int a1), (2, .int a2), (4, .int a4)] → WD D cy ad s M H locs → f_X6_monksWith_33 M rec5 a1 a2 a4 t0 t1 = some z → W p l e R s m args below meth c H locs 0 0 Q (F0 m 33 ls [.int t1, .int t0]) := by
    intro rec5 hr5 a1 a2 a4 t0 t1 H locs ls hl hw hF
    unfold f_X6_monksWith_33 at hF
    refine lv_iadd hx hb dX6_monksWith_33 ?_
    refine lv_istore_n (lv' := [(3, .int (t0 + t1)), (0, .ref (ad 9)), (1, .int a1), (2, .int a2), (4, .int a4)]) hx hb dX6_monksWith_34 rfl hl (by decide) rfl (fun ls hl => ?_)
    refine lv_iinc (v := (a4 + 1)) (lv' := [(4, .int (a4 + 1)), (3, .int (t0 + t1)), (0, .ref (ad 9)), (1, .int a1), (2, .int a2)]) hx hb dX6_monksWith_35 hl (k := 4) rfl rfl (by decide) rfl (fun ls hl => ?_)
    refine lv_goto (tgt := 5) hx hb dX6_monksWith_38 (by decide) ?_
    exact hr5 a1 a2 (t0 + t1) (a4 + 1) H locs ls (lv_sub hl [2, 3, 4, 1, 0] rfl) hw hF
  have n_5 : ∀ (n9 : Nat), ∀ (a1 : Int32) (a2 : Int32) (a3 : Int32) (a4 : Int32) (H : Heap) (locs : List Loc) (ls : Array Slot), lv_has ls 5 [(0, .ref (ad 9)), (1, .int a1), (2, .int a2), (3, .int a3), (4, .int a4)] → WD D cy ad s M H locs → (lp (fun _ _ _ _ => none) (f_X6_monksWith_5 M) n9) a1 a2 a3 a4 = some z → W p l e R s m args below meth c H locs 0 0 Q (F0 m 5 ls []) := by
    intro n9
    refine lp_ind (fun (rec5 : Int32 → Int32 → Int32 → Int32 → Option Int32) => ∀ (a1 : Int32) (a2 : Int32) (a3 : Int32) (a4 : Int32) (H : Heap) (locs : List Loc) (ls : Array Slot), lv_has ls 5 [(0, .ref (ad 9)), (1, .int a1), (2, .int a2), (3, .int a3), (4, .int a4)] → WD D cy ad s M H locs → rec5 a1 a2 a3 a4 = some z → W p l e R s m args below meth c H locs 0 0 Q (F0 m 5 ls [])) ?_ ?_ n9
    · intro a1 a2 a3 a4 H locs ls hl hw hF
      exact nomatch hF
    · intro rec5 hr5 a1 a2 a3 a4 H locs ls hl hw hF
      unfold f_X6_monksWith_5 at hF
      refine lv_iload hx hb dX6_monksWith_5 (lv_at hl 4 rfl) ?_
      refine lv_aload_n hx hb dX6_monksWith_7 rfl (lv_at hl 0 rfl) ?_
      refine gX6_get fx hw isO_9 0 (by decide) wd5_19 rfl dX6_monksWith_8 ?_
      refine lv_iconst (v := 0) hx hb dX6_monksWith_11 (by decide) ?_
      refine g_ialdc fx hw isA_10 (k := 0) rfl (by decide) dX6_monksWith_12 ?_
      refine lv_icmp_ge (tgt := 41) hx hb dX6_monksWith_13 (by decide) (fun hc13 => ?_) (fun hc13 => ?_)
      · replace hF := st_t hc13 hF
        refine lv_iload_n hx hb dX6_monksWith_41 rfl (lv_at hl 3 rfl) ?_
        exact E _ _ _ _ _ dX6_monksWith_42 hw hF
      · replace hF := st_f hc13 hF
        refine lv_iload_n hx hb dX6_monksWith_16 rfl (lv_at hl 3 rfl) ?_
        refine lv_aload_n hx hb dX6_monksWith_17 rfl (lv_at hl 0 rfl) ?_
        refine lv_iload hx hb dX6_monksWith_18 (lv_at hl 4 rfl) ?_
        refine lv_iload_n hx hb dX6_monksWith_20 rfl (lv_at hl 1 rfl) ?_
        refine lv_iload_n hx hb dX6_monksWith_21 rfl (lv_at hl 2 rfl) ?_
        obtain ⟨r3, hgr3, hF⟩ := st_bnd hF
        refine g_cz hw (g_runV (C := RX6) (As := [.int a4, .int a1, .int a2]) (rest := [.int a3]) fx hw isO_9 rfl (c_X6_isSet l x D cy ad a4 a1 a2 H.size M r3 hgr3) wd5_173 wd5_175 wd0_55 wd1_8 wd5_176 yd_X6_isSet rfl rfl (Nat.le_of_ble_eq_true rfl) hl.1 ⟨Nat.le_trans (Nat.le_of_ble_eq_true rfl) hR.1, Nat.le_trans (Nat.le_of_ble_eq_true rfl) hR.2.1⟩ ⟨Nat.le_trans (Nat.le_of_ble_eq_true rfl) hR.2.2.1, Nat.le_trans (Nat.le_of_ble_eq_true rfl) hR.2.2.2⟩ dX6_monksWith_22) (fun H locs hbr3 hw => ?_)
        refine lv_if_eq (tgt := 32) hx hb dX6_monksWith_25 (by decide) (fun hc25 => ?_) (fun hc25 => ?_)
        · replace hF := st_t hc25 hF
          refine lv_iconst (v := 0) hx hb dX6_monksWith_32 (by decide) ?_
          exact n_33 rec5 hr5 a1 a2 a4 a3 0 H locs ls (lv_sub hl [0, 1, 2, 4] rfl) hw hF
        · replace hF := st_f hc25 hF
          refine lv_iconst (v := 1) hx hb dX6_monksWith_28 (by decide) ?_
          refine lv_goto (tgt := 33) hx hb dX6_monksWith_29 (by decide) ?_
          exact n_33 rec5 hr5 a1 a2 a4 a3 1 H locs ls (lv_sub hl [0, 1, 2, 4] rfl) hw hF
  unfold f_X6_monksWith at hF
  refine lv_iconst (v := 0) hx hb dX6_monksWith_0 (by decide) ?_
  refine lv_istore_n (lv' := [(3, .int 0), (0, .ref (ad 9)), (1, .int p1), (2, .int p2)]) hx hb dX6_monksWith_1 rfl hl (by decide) rfl (fun ls hl => ?_)
  refine lv_iconst (v := 0) hx hb dX6_monksWith_2 (by decide) ?_
  refine lv_istore (lv' := [(4, .int 0), (3, .int 0), (0, .ref (ad 9)), (1, .int p1), (2, .int p2)]) hx hb dX6_monksWith_3 hl (by decide) rfl (fun ls hl => ?_)
  exact n_5 FU p1 p2 0 0 H locs ls (lv_sub hl [2, 3, 4, 1, 0] rfl) hw hF
theorem c_X6_monksWith (l : Launch) (x : SX) (D : va_G) (cy : Nat → ClassId) (ad : Nat → Nat) (p1 p2 : Int32) (sz : Nat) (M : Mem) (z : Int32) (hF : f_X6_monksWith p1 p2 M = some z) : Met l yX6_monksWith (.code yX6_monksWith cX6_monksWith 5 (some .int) :: GB) ({ frames := 2, cells := 0, slots := 0, locals := 44 } : Room) (PcW D cy ad x sz M [.ref (ad 9), .int p1, .int p2]) (QiW D cy ad sz z M) 0 0 (AA ad sz) := by
  refine mk_m (own := RX6) (by decide) rfl (Nat.le_of_ble_eq_true rfl) ?_
  intro p e s m args below meth c ls fx hw hl hsz
  subst hsz
  exact b_X6_monksWith fx ⟨Nat.le_refl _, Nat.le_refl _, Nat.le_refl _, Nat.le_refl _⟩ p1 p2 M z hF (fun pc ls H locs v hd hw h => by cases h; exact g_iret fx hw rfl hd) _ _ ls hl hw
noncomputable def f_X6_need_27 : Int32 → Int32 → Int32 → Mem → Option (Int32 × Mem) := fun a1 a2 t1 M => (letM (mput M 9 6 t1) (fun M19 => (if (M19 9 6) ≤ 0 then (letV a2 (fun y20 => (if y20 = 0 then (bnd (f_X6_words a1 M19) (fun r21 => (some (r21, M19)))) else (if y20 = 1 then (bnd (f_X6_monksWith 2 a1 M19) (fun r22 => (some (r22, M19)))) else (if y20 = 2 then (bnd (f_X6_monksWith 3 a1 M19) (fun r23 => (some (r23, M19)))) else (if y20 = 3 then (bnd (f_X6_words a1 M19) (fun r24 => (some (((r24 + 9) / 10), M19)))) else (bnd (f_X6_words a1 M19) (fun r25 => (some (((r25 + 4) / 5), M19)))))))))) else (some (0, M19)))))
noncomputable def f_X6_need (p1 p2 : Int32) (M : Mem) : Option (Int32 × Mem) := (bnd (f_X6_isNeed p1 M) (fun r26 => (if r26 = 0 then ((f_X6_need_27) p1 p2 1 M) else (bnd (f_X6_isIn p2 0 4 M) (fun r27 => (if r27 = 0 then ((f_X6_need_27) p1 p2 2 M) else ((f_X6_need_27) p1 p2 0 M)))))))
set_option maxHeartbeats 4000000 in
set_option maxRecDepth 100000 in
theorem b_X6_need {p : Program} {l : Launch} {e : Env} {R : Room} {s : State} {m : MethodId} {args : Array Value} {below : List Frame} {meth : Method} {c : Code} {Q : State → Prop} {D : va_G} {cy : Nat → ClassId} {ad : Nat → Nat} {x : SX} (fx : FX p s m args meth c cX6_need 3 (some .int) RX6 D cy ad x) (hR : 3 ≤ R.frames ∧ 68 ≤ R.locals ∧ 0 ≤ R.cells ∧ 0 ≤ R.slots) (p1 p2 : Int32) (M : Mem) (z : Int32) (M' : Mem) (hF : f_X6_need p1 p2 M = some (z, M')) (E : ∀ (pc : Nat) (ls : Array Slot) (H : Heap) (locs : List Loc) (v : Int32) (M1 : Mem), decode cX6_need pc = .ok (.ireturn, 1) → WD D cy ad s M1 H locs → some (v, M1) = some (z, M') → W p l e R s m args below meth c H locs 0 0 Q (F0 m pc ls [.int v])) (H : Heap) (locs : List Loc) (ls : Array Slot) (hl : lv_has ls 3 [(0, .ref (ad 9)), (1, .int p1), (2, .int p2)]) (hw : WD D cy ad s M H locs) : W p l e R s m args below meth c H locs 0 0 Q (F0 m 0 ls []) := by
  have hx := fx.1.1
  have hb := fx.1.2.1
  have hown := fx.1.2.2.2.1
  have hts := fx.1.2.2.2.2
  have n_27 : ∀ (a1 : Int32) (a2 : Int32) (t1 : Int32) (M : Mem) (H : Heap) (locs : List Loc) (ls : Array Slot), lv_has ls 3 [(0, .ref (ad 9)), (1, .int a1), (2, .int a2)] → WD D cy ad s M H locs → f_X6_need_27 a1 a2 t1 M = some (z, M') → W p l e R s m args below meth c H locs 0 0 Q (F0 m 27 ls [.int t1, .ref (ad 9)]) := by
    intro a1 a2 t1 M H locs ls hl hw hF
    unfold f_X6_need_27 at hF
    obtain ⟨M19, eM19, hF⟩ := st_letM hF
    refine gX6_put fx hw isO_9 6 (by decide) wd5_25 rfl eM19 rfl (Nat.le_of_ble_eq_true rfl) dX6_need_27 (fun H locs hw => ?_)
    refine lv_aload_n hx hb dX6_need_30 rfl (lv_at hl 0 rfl) ?_
    refine gX6_get fx hw isO_9 6 (by decide) wd5_25 rfl dX6_need_31 ?_
    refine lv_if_le (tgt := 39) hx hb dX6_need_34 (by decide) (fun hc34 => ?_) (fun hc34 => ?_)
    · replace hF := st_t hc34 hF
      refine lv_iload_n hx hb dX6_need_39 rfl (lv_at hl 2 rfl) ?_
      obtain ⟨y20, ey20, hF⟩ := st_letV hF
      refine g_top ey20 ?_
      by_cases hk40_0 : y20 = 0
      · replace hF := st_t hk40_0 hF
        subst hk40_0
        refine lv_tableIn (off := 32) (tgt := 72) hx hb dX6_need_40 (by decide) (by decide) rfl (by decide) ?_
        refine lv_aload_n hx hb dX6_need_72 rfl (lv_at hl 0 rfl) ?_
        refine lv_iload_n hx hb dX6_need_73 rfl (lv_at hl 1 rfl) ?_
        obtain ⟨r21, hgr21, hF⟩ := st_bnd hF
        refine g_ci hw (g_runV (C := RX6) (As := [.int a1]) (rest := []) fx hw isO_9 rfl (c_X6_words l x D cy ad a1 H.size M19 r21 hgr21) wd5_165 wd5_167 wd0_53 wd1_8 wd5_168 yd_X6_words rfl rfl (Nat.le_of_ble_eq_true rfl) hl.1 ⟨Nat.le_trans (Nat.le_of_ble_eq_true rfl) hR.1, Nat.le_trans (Nat.le_of_ble_eq_true rfl) hR.2.1⟩ ⟨Nat.le_trans (Nat.le_of_ble_eq_true rfl) hR.2.2.1, Nat.le_trans (Nat.le_of_ble_eq_true rfl) hR.2.2.2⟩ dX6_need_74) (fun H locs hw => ?_)
        exact E _ _ _ _ _ _ dX6_need_77 hw hF
      · replace hF := st_f hk40_0 hF
        by_cases hk40_1 : y20 = 1
        · replace hF := st_t hk40_1 hF
          subst hk40_1
          refine lv_tableIn (off := 38) (tgt := 78) hx hb dX6_need_40 (by decide) (by decide) rfl (by decide) ?_
          refine lv_aload_n hx hb dX6_need_78 rfl (lv_at hl 0 rfl) ?_
          refine lv_iconst (v := 2) hx hb dX6_need_79 (by decide) ?_
          refine lv_iload_n hx hb dX6_need_80 rfl (lv_at hl 1 rfl) ?_
          obtain ⟨r22, hgr22, hF⟩ := st_bnd hF
          refine g_ci hw (g_runV (C := RX6) (As := [.int 2, .int a1]) (rest := []) fx hw isO_9 rfl (c_X6_monksWith l x D cy ad 2 a1 H.size M19 r22 hgr22) wd5_169 wd5_171 wd0_54 wd1_8 wd5_172 yd_X6_monksWith rfl rfl (Nat.le_of_ble_eq_true rfl) hl.1 ⟨Nat.le_trans (Nat.le_of_ble_eq_true rfl) hR.1, Nat.le_trans (Nat.le_of_ble_eq_true rfl) hR.2.1⟩ ⟨Nat.le_trans (Nat.le_of_ble_eq_true rfl) hR.2.2.1, Nat.le_trans (Nat.le_of_ble_eq_true rfl) hR.2.2.2⟩ dX6_need_81) (fun H locs hw => ?_)
          exact E _ _ _ _ _ _ dX6_need_84 hw hF
        · replace hF := st_f hk40_1 hF
          by_cases hk40_2 : y20 = 2
          · replace hF := st_t hk40_2 hF
            subst hk40_2
            refine lv_tableIn (off := 45) (tgt := 85) hx hb dX6_need_40 (by decide) (by decide) rfl (by decide) ?_
            refine lv_aload_n hx hb dX6_need_85 rfl (lv_at hl 0 rfl) ?_
            refine lv_iconst (v := 3) hx hb dX6_need_86 (by decide) ?_
            refine lv_iload_n hx hb dX6_need_87 rfl (lv_at hl 1 rfl) ?_
            obtain ⟨r23, hgr23, hF⟩ := st_bnd hF
            refine g_ci hw (g_runV (C := RX6) (As := [.int 3, .int a1]) (rest := []) fx hw isO_9 rfl (c_X6_monksWith l x D cy ad 3 a1 H.size M19 r23 hgr23) wd5_169 wd5_171 wd0_54 wd1_8 wd5_172 yd_X6_monksWith rfl rfl (Nat.le_of_ble_eq_true rfl) hl.1 ⟨Nat.le_trans (Nat.le_of_ble_eq_true rfl) hR.1, Nat.le_trans (Nat.le_of_ble_eq_true rfl) hR.2.1⟩ ⟨Nat.le_trans (Nat.le_of_ble_eq_true rfl) hR.2.2.1, Nat.le_trans (Nat.le_of_ble_eq_true rfl) hR.2.2.2⟩ dX6_need_88) (fun H locs hw => ?_)
            exact E _ _ _ _ _ _ dX6_need_91 hw hF
          · replace hF := st_f hk40_2 hF
            by_cases hk40_3 : y20 = 3
            · replace hF := st_t hk40_3 hF
              subst hk40_3
              refine lv_tableIn (off := 52) (tgt := 92) hx hb dX6_need_40 (by decide) (by decide) rfl (by decide) ?_
              refine lv_aload_n hx hb dX6_need_92 rfl (lv_at hl 0 rfl) ?_
              refine lv_iload_n hx hb dX6_need_93 rfl (lv_at hl 1 rfl) ?_
              obtain ⟨r24, hgr24, hF⟩ := st_bnd hF
              refine g_ci hw (g_runV (C := RX6) (As := [.int a1]) (rest := []) fx hw isO_9 rfl (c_X6_words l x D cy ad a1 H.size M19 r24 hgr24) wd5_165 wd5_167 wd0_53 wd1_8 wd5_168 yd_X6_words rfl rfl (Nat.le_of_ble_eq_true rfl) hl.1 ⟨Nat.le_trans (Nat.le_of_ble_eq_true rfl) hR.1, Nat.le_trans (Nat.le_of_ble_eq_true rfl) hR.2.1⟩ ⟨Nat.le_trans (Nat.le_of_ble_eq_true rfl) hR.2.2.1, Nat.le_trans (Nat.le_of_ble_eq_true rfl) hR.2.2.2⟩ dX6_need_94) (fun H locs hw => ?_)
              refine lv_bipush (v := 9) hx hb dX6_need_97 (by decide) ?_
              refine lv_iadd hx hb dX6_need_99 ?_
              refine lv_bipush (v := 10) hx hb dX6_need_100 (by decide) ?_
              refine lv_idiv hx hb dX6_need_102 (by decide) ?_
              exact E _ _ _ _ _ _ dX6_need_103 hw hF
            · replace hF := st_f hk40_3 hF
              refine lv_tableOut (tgt := 104) hx hb dX6_need_40 (by have e_0 := lv_neT (a := 0) hk40_0 (by decide); have e_1 := lv_neT (a := 1) hk40_1 (by decide); have e_2 := lv_neT (a := 2) hk40_2 (by decide); have e_3 := lv_neT (a := 3) hk40_3 (by decide); omega) (by decide) ?_
              refine lv_aload_n hx hb dX6_need_104 rfl (lv_at hl 0 rfl) ?_
              refine lv_iload_n hx hb dX6_need_105 rfl (lv_at hl 1 rfl) ?_
              obtain ⟨r25, hgr25, hF⟩ := st_bnd hF
              refine g_ci hw (g_runV (C := RX6) (As := [.int a1]) (rest := []) fx hw isO_9 rfl (c_X6_words l x D cy ad a1 H.size M19 r25 hgr25) wd5_165 wd5_167 wd0_53 wd1_8 wd5_168 yd_X6_words rfl rfl (Nat.le_of_ble_eq_true rfl) hl.1 ⟨Nat.le_trans (Nat.le_of_ble_eq_true rfl) hR.1, Nat.le_trans (Nat.le_of_ble_eq_true rfl) hR.2.1⟩ ⟨Nat.le_trans (Nat.le_of_ble_eq_true rfl) hR.2.2.1, Nat.le_trans (Nat.le_of_ble_eq_true rfl) hR.2.2.2⟩ dX6_need_106) (fun H locs hw => ?_)
              refine lv_iconst (v := 4) hx hb dX6_need_109 (by decide) ?_
              refine lv_iadd hx hb dX6_need_110 ?_
              refine lv_iconst (v := 5) hx hb dX6_need_111 (by decide) ?_
              refine lv_idiv hx hb dX6_need_112 (by decide) ?_
              exact E _ _ _ _ _ _ dX6_need_113 hw hF
    · replace hF := st_f hc34 hF
      refine lv_iconst (v := 0) hx hb dX6_need_37 (by decide) ?_
      exact E _ _ _ _ _ _ dX6_need_38 hw hF
  unfold f_X6_need at hF
  refine lv_aload_n hx hb dX6_need_0 rfl (lv_at hl 0 rfl) ?_
  refine lv_aload_n hx hb dX6_need_1 rfl (lv_at hl 0 rfl) ?_
  refine lv_iload_n hx hb dX6_need_2 rfl (lv_at hl 1 rfl) ?_
  obtain ⟨r26, hgr26, hF⟩ := st_bnd hF
  refine g_cz hw (g_runV (C := RX6) (As := [.int p1]) (rest := [.ref (ad 9)]) fx hw isO_9 rfl (c_X6_isNeed l x D cy ad p1 H.size M r26 hgr26) wd5_161 wd5_163 wd0_52 wd1_8 wd5_164 yd_X6_isNeed rfl rfl (Nat.le_of_ble_eq_true rfl) hl.1 ⟨Nat.le_trans (Nat.le_of_ble_eq_true rfl) hR.1, Nat.le_trans (Nat.le_of_ble_eq_true rfl) hR.2.1⟩ ⟨Nat.le_trans (Nat.le_of_ble_eq_true rfl) hR.2.2.1, Nat.le_trans (Nat.le_of_ble_eq_true rfl) hR.2.2.2⟩ dX6_need_3) (fun H locs hbr26 hw => ?_)
  refine lv_if_ne (tgt := 13) hx hb dX6_need_6 (by decide) (fun hc6 => ?_) (fun hc6 => ?_)
  · replace hF := st_f hc6 hF
    refine lv_iload_n hx hb dX6_need_13 rfl (lv_at hl 2 rfl) ?_
    refine lv_iconst (v := 0) hx hb dX6_need_14 (by decide) ?_
    refine lv_iconst (v := 4) hx hb dX6_need_15 (by decide) ?_
    obtain ⟨r27, hgr27, hF⟩ := st_bnd hF
    refine g_cz hw (g_runS (As := [.int p2, .int 0, .int 4]) (rest := [.ref (ad 9)]) fx hw (c_X6_isIn l x D cy ad p2 0 4 H.size M r27 hgr27) wd5_92 wd5_93 wd1_8 wd5_94 yd_X6_isIn rfl rfl (Nat.le_of_ble_eq_true rfl) hl.1 ⟨Nat.le_trans (Nat.le_of_ble_eq_true rfl) hR.1, Nat.le_trans (Nat.le_of_ble_eq_true rfl) hR.2.1⟩ ⟨Nat.le_trans (Nat.le_of_ble_eq_true rfl) hR.2.2.1, Nat.le_trans (Nat.le_of_ble_eq_true rfl) hR.2.2.2⟩ dX6_need_16) (fun H locs hbr27 hw => ?_)
    refine lv_if_eq (tgt := 26) hx hb dX6_need_19 (by decide) (fun hc19 => ?_) (fun hc19 => ?_)
    · replace hF := st_t hc19 hF
      refine lv_iconst (v := 2) hx hb dX6_need_26 (by decide) ?_
      exact n_27 p1 p2 2 M H locs ls (lv_sub hl [0, 1, 2] rfl) hw hF
    · replace hF := st_f hc19 hF
      refine lv_iconst (v := 0) hx hb dX6_need_22 (by decide) ?_
      refine lv_goto (tgt := 27) hx hb dX6_need_23 (by decide) ?_
      exact n_27 p1 p2 0 M H locs ls (lv_sub hl [0, 1, 2] rfl) hw hF
  · replace hF := st_t hc6 hF
    refine lv_iconst (v := 1) hx hb dX6_need_9 (by decide) ?_
    refine lv_goto (tgt := 27) hx hb dX6_need_10 (by decide) ?_
    exact n_27 p1 p2 1 M H locs ls (lv_sub hl [0, 1, 2] rfl) hw hF
theorem c_X6_need (l : Launch) (x : SX) (D : va_G) (cy : Nat → ClassId) (ad : Nat → Nat) (p1 p2 : Int32) (sz : Nat) (M : Mem) (z : Int32) (M' : Mem) (hF : f_X6_need p1 p2 M = some (z, M')) : Met l yX6_need (.code yX6_need cX6_need 3 (some .int) :: GB) ({ frames := 3, cells := 0, slots := 0, locals := 68 } : Room) (PcW D cy ad x sz M [.ref (ad 9), .int p1, .int p2]) (QiW D cy ad sz z M') 0 0 (AA ad sz) := by
  refine mk_m (own := RX6) (by decide) rfl (Nat.le_of_ble_eq_true rfl) ?_
  intro p e s m args below meth c ls fx hw hl hsz
  subst hsz
  exact b_X6_need fx ⟨Nat.le_refl _, Nat.le_refl _, Nat.le_refl _, Nat.le_refl _⟩ p1 p2 M z M' hF (fun pc ls H locs v M1 hd hw h => by cases h; exact g_iret fx hw rfl hd) _ _ ls hl hw
noncomputable def f_X6_has_43 : Int32 → Int32 → Int32 → Mem → Option (Int32 × Mem) := fun a2 t1 t2 M => (bnd (f_X6_isSet t1 t2 a2 M) (fun r8 => (if r8 = 0 then (some (0, M)) else (some (1, M)))))
noncomputable def f_X6_has_22 : Int32 → Int32 → Int32 → Int32 → Mem → Option (Int32 × Mem) := fun a1 a2 a3 t1 M => (letM (mput M 9 6 t1) (fun M9 => (if (M9 9 6) = 0 then (if a3 = 0 then ((f_X6_has_43) a2 a1 2 M9) else ((f_X6_has_43) a2 a1 3 M9)) else (some (0, M9)))))
noncomputable def f_X6_has_21 : Int32 → Int32 → Int32 → Mem → Option (Int32 × Mem) := fun a1 a2 a3 M => ((f_X6_has_22) a1 a2 a3 1 M)
noncomputable def f_X6_has (p1 p2 p3 : Int32) (M : Mem) : Option (Int32 × Mem) := (bnd (f_X6_isMonk p1 M) (fun r10 => (if r10 = 0 then ((f_X6_has_21) p1 p2 p3 M) else (bnd (f_X6_isNeed p2 M) (fun r11 => (if r11 = 0 then ((f_X6_has_21) p1 p2 p3 M) else ((f_X6_has_22) p1 p2 p3 0 M)))))))
set_option maxHeartbeats 4000000 in
set_option maxRecDepth 100000 in
theorem b_X6_has {p : Program} {l : Launch} {e : Env} {R : Room} {s : State} {m : MethodId} {args : Array Value} {below : List Frame} {meth : Method} {c : Code} {Q : State → Prop} {D : va_G} {cy : Nat → ClassId} {ad : Nat → Nat} {x : SX} (fx : FX p s m args meth c cX6_has 4 (some .boolean) RX6 D cy ad x) (hR : 2 ≤ R.frames ∧ 44 ≤ R.locals ∧ 0 ≤ R.cells ∧ 0 ≤ R.slots) (p1 p2 p3 : Int32) (M : Mem) (z : Int32) (M' : Mem) (hF : f_X6_has p1 p2 p3 M = some (z, M')) (E : ∀ (pc : Nat) (ls : Array Slot) (H : Heap) (locs : List Loc) (v : Int32) (M1 : Mem), decode cX6_has pc = .ok (.ireturn, 1) → (v = 0 ∨ v = 1) → WD D cy ad s M1 H locs → some (v, M1) = some (z, M') → W p l e R s m args below meth c H locs 0 0 Q (F0 m pc ls [.int v])) (H : Heap) (locs : List Loc) (ls : Array Slot) (hl : lv_has ls 4 [(0, .ref (ad 9)), (1, .int p1), (2, .int p2), (3, .int p3)]) (hw : WD D cy ad s M H locs) : W p l e R s m args below meth c H locs 0 0 Q (F0 m 0 ls []) := by
  have hx := fx.1.1
  have hb := fx.1.2.1
  have hown := fx.1.2.2.2.1
  have hts := fx.1.2.2.2.2
  have n_43 : ∀ (a2 : Int32) (t1 : Int32) (t2 : Int32) (M : Mem) (H : Heap) (locs : List Loc) (ls : Array Slot), lv_has ls 4 [(2, .int a2)] → WD D cy ad s M H locs → f_X6_has_43 a2 t1 t2 M = some (z, M') → W p l e R s m args below meth c H locs 0 0 Q (F0 m 43 ls [.int t2, .int t1, .ref (ad 9)]) := by
    intro a2 t1 t2 M H locs ls hl hw hF
    unfold f_X6_has_43 at hF
    refine lv_iload_n hx hb dX6_has_43 rfl (lv_at hl 0 rfl) ?_
    obtain ⟨r8, hgr8, hF⟩ := st_bnd hF
    refine g_cz hw (g_runV (C := RX6) (As := [.int t1, .int t2, .int a2]) (rest := []) fx hw isO_9 rfl (c_X6_isSet l x D cy ad t1 t2 a2 H.size M r8 hgr8) wd5_173 wd5_175 wd0_55 wd1_8 wd5_176 yd_X6_isSet rfl rfl (Nat.le_of_ble_eq_true rfl) hl.1 ⟨Nat.le_trans (Nat.le_of_ble_eq_true rfl) hR.1, Nat.le_trans (Nat.le_of_ble_eq_true rfl) hR.2.1⟩ ⟨Nat.le_trans (Nat.le_of_ble_eq_true rfl) hR.2.2.1, Nat.le_trans (Nat.le_of_ble_eq_true rfl) hR.2.2.2⟩ dX6_has_44) (fun H locs hbr8 hw => ?_)
    refine lv_if_eq (tgt := 54) hx hb dX6_has_47 (by decide) (fun hc47 => ?_) (fun hc47 => ?_)
    · replace hF := st_t hc47 hF
      refine lv_iconst (v := 0) hx hb dX6_has_54 (by decide) ?_
      exact E _ _ _ _ _ _ dX6_has_55 (Or.inl rfl) hw hF
    · replace hF := st_f hc47 hF
      refine lv_iconst (v := 1) hx hb dX6_has_50 (by decide) ?_
      refine lv_goto (tgt := 55) hx hb dX6_has_51 (by decide) ?_
      exact E _ _ _ _ _ _ dX6_has_55 (Or.inr rfl) hw hF
  have n_22 : ∀ (a1 : Int32) (a2 : Int32) (a3 : Int32) (t1 : Int32) (M : Mem) (H : Heap) (locs : List Loc) (ls : Array Slot), lv_has ls 4 [(0, .ref (ad 9)), (1, .int a1), (2, .int a2), (3, .int a3)] → WD D cy ad s M H locs → f_X6_has_22 a1 a2 a3 t1 M = some (z, M') → W p l e R s m args below meth c H locs 0 0 Q (F0 m 22 ls [.int t1, .ref (ad 9)]) := by
    intro a1 a2 a3 t1 M H locs ls hl hw hF
    unfold f_X6_has_22 at hF
    obtain ⟨M9, eM9, hF⟩ := st_letM hF
    refine gX6_put fx hw isO_9 6 (by decide) wd5_25 rfl eM9 rfl (Nat.le_of_ble_eq_true rfl) dX6_has_22 (fun H locs hw => ?_)
    refine lv_aload_n hx hb dX6_has_25 rfl (lv_at hl 0 rfl) ?_
    refine gX6_get fx hw isO_9 6 (by decide) wd5_25 rfl dX6_has_26 ?_
    refine lv_if_ne (tgt := 54) hx hb dX6_has_29 (by decide) (fun hc29 => ?_) (fun hc29 => ?_)
    · replace hF := st_f hc29 hF
      refine lv_iconst (v := 0) hx hb dX6_has_54 (by decide) ?_
      exact E _ _ _ _ _ _ dX6_has_55 (Or.inl rfl) hw hF
    · replace hF := st_t hc29 hF
      refine lv_aload_n hx hb dX6_has_32 rfl (lv_at hl 0 rfl) ?_
      refine lv_iload_n hx hb dX6_has_33 rfl (lv_at hl 1 rfl) ?_
      refine lv_iload_n hx hb dX6_has_34 rfl (lv_at hl 3 rfl) ?_
      refine lv_if_eq (tgt := 42) hx hb dX6_has_35 (by decide) (fun hc35 => ?_) (fun hc35 => ?_)
      · replace hF := st_t hc35 hF
        refine lv_iconst (v := 2) hx hb dX6_has_42 (by decide) ?_
        exact n_43 a2 a1 2 M9 H locs ls (lv_sub hl [2] rfl) hw hF
      · replace hF := st_f hc35 hF
        refine lv_iconst (v := 3) hx hb dX6_has_38 (by decide) ?_
        refine lv_goto (tgt := 43) hx hb dX6_has_39 (by decide) ?_
        exact n_43 a2 a1 3 M9 H locs ls (lv_sub hl [2] rfl) hw hF
  have n_21 : ∀ (a1 : Int32) (a2 : Int32) (a3 : Int32) (M : Mem) (H : Heap) (locs : List Loc) (ls : Array Slot), lv_has ls 4 [(0, .ref (ad 9)), (1, .int a1), (2, .int a2), (3, .int a3)] → WD D cy ad s M H locs → f_X6_has_21 a1 a2 a3 M = some (z, M') → W p l e R s m args below meth c H locs 0 0 Q (F0 m 21 ls [.ref (ad 9)]) := by
    intro a1 a2 a3 M H locs ls hl hw hF
    unfold f_X6_has_21 at hF
    refine lv_iconst (v := 1) hx hb dX6_has_21 (by decide) ?_
    exact n_22 a1 a2 a3 1 M H locs ls (lv_sub hl [0, 1, 2, 3] rfl) hw hF
  unfold f_X6_has at hF
  refine lv_aload_n hx hb dX6_has_0 rfl (lv_at hl 0 rfl) ?_
  refine lv_aload_n hx hb dX6_has_1 rfl (lv_at hl 0 rfl) ?_
  refine lv_iload_n hx hb dX6_has_2 rfl (lv_at hl 1 rfl) ?_
  obtain ⟨r10, hgr10, hF⟩ := st_bnd hF
  refine g_cz hw (g_runV (C := RX6) (As := [.int p1]) (rest := [.ref (ad 9)]) fx hw isO_9 rfl (c_X6_isMonk l x D cy ad p1 H.size M r10 hgr10) wd5_146 wd5_148 wd0_50 wd1_8 wd5_149 yd_X6_isMonk rfl rfl (Nat.le_of_ble_eq_true rfl) hl.1 ⟨Nat.le_trans (Nat.le_of_ble_eq_true rfl) hR.1, Nat.le_trans (Nat.le_of_ble_eq_true rfl) hR.2.1⟩ ⟨Nat.le_trans (Nat.le_of_ble_eq_true rfl) hR.2.2.1, Nat.le_trans (Nat.le_of_ble_eq_true rfl) hR.2.2.2⟩ dX6_has_3) (fun H locs hbr10 hw => ?_)
  refine lv_if_eq (tgt := 21) hx hb dX6_has_6 (by decide) (fun hc6 => ?_) (fun hc6 => ?_)
  · replace hF := st_t hc6 hF
    exact n_21 p1 p2 p3 M H locs ls (lv_sub hl [0, 1, 2, 3] rfl) hw hF
  · replace hF := st_f hc6 hF
    refine lv_aload_n hx hb dX6_has_9 rfl (lv_at hl 0 rfl) ?_
    refine lv_iload_n hx hb dX6_has_10 rfl (lv_at hl 2 rfl) ?_
    obtain ⟨r11, hgr11, hF⟩ := st_bnd hF
    refine g_cz hw (g_runV (C := RX6) (As := [.int p2]) (rest := [.ref (ad 9)]) fx hw isO_9 rfl (c_X6_isNeed l x D cy ad p2 H.size M r11 hgr11) wd5_161 wd5_163 wd0_52 wd1_8 wd5_164 yd_X6_isNeed rfl rfl (Nat.le_of_ble_eq_true rfl) hl.1 ⟨Nat.le_trans (Nat.le_of_ble_eq_true rfl) hR.1, Nat.le_trans (Nat.le_of_ble_eq_true rfl) hR.2.1⟩ ⟨Nat.le_trans (Nat.le_of_ble_eq_true rfl) hR.2.2.1, Nat.le_trans (Nat.le_of_ble_eq_true rfl) hR.2.2.2⟩ dX6_has_11) (fun H locs hbr11 hw => ?_)
    refine lv_if_eq (tgt := 21) hx hb dX6_has_14 (by decide) (fun hc14 => ?_) (fun hc14 => ?_)
    · replace hF := st_t hc14 hF
      exact n_21 p1 p2 p3 M H locs ls (lv_sub hl [0, 1, 2, 3] rfl) hw hF
    · replace hF := st_f hc14 hF
      refine lv_iconst (v := 0) hx hb dX6_has_17 (by decide) ?_
      refine lv_goto (tgt := 22) hx hb dX6_has_18 (by decide) ?_
      exact n_22 p1 p2 p3 0 M H locs ls (lv_sub hl [0, 1, 2, 3] rfl) hw hF
theorem c_X6_has (l : Launch) (x : SX) (D : va_G) (cy : Nat → ClassId) (ad : Nat → Nat) (p1 p2 p3 : Int32) (sz : Nat) (M : Mem) (z : Int32) (M' : Mem) (hF : f_X6_has p1 p2 p3 M = some (z, M')) : Met l yX6_has (.code yX6_has cX6_has 4 (some .boolean) :: GB) ({ frames := 2, cells := 0, slots := 0, locals := 44 } : Room) (PcW D cy ad x sz M [.ref (ad 9), .int p1, .int p2, .int p3]) (QzW D cy ad sz z M') 0 0 (AA ad sz) := by
  refine mk_m (own := RX6) (by decide) rfl (Nat.le_of_ble_eq_true rfl) ?_
  intro p e s m args below meth c ls fx hw hl hsz
  subst hsz
  exact b_X6_has fx ⟨Nat.le_refl _, Nat.le_refl _, Nat.le_refl _, Nat.le_refl _⟩ p1 p2 p3 M z M' hF (fun pc ls H locs v M1 hd hb hw h => by cases h; exact g_zret fx hw rfl hb hd) _ _ ls hl hw
noncomputable def f_X6_bell_16 : Int32 → Int32 → Mem → Option (Int32 × Mem) := fun a1 t1 M => (letM (mput M 9 6 t1) (fun M7 => (if (M7 9 6) ≤ 0 then (chk (inB (20 + a1) 156) (some ((M7 10 (ix (20 + a1))), M7))) else (some (0, M7)))))
noncomputable def f_X6_bell (p1 : Int32) (M : Mem) : Option (Int32 × Mem) := (bnd (f_X6_isIn p1 0 23 M) (fun r9 => (if r9 = 0 then ((f_X6_bell_16) p1 1 M) else ((f_X6_bell_16) p1 0 M))))
set_option maxHeartbeats 4000000 in
set_option maxRecDepth 100000 in
theorem b_X6_bell {p : Program} {l : Launch} {e : Env} {R : Room} {s : State} {m : MethodId} {args : Array Value} {below : List Frame} {meth : Method} {c : Code} {Q : State → Prop} {D : va_G} {cy : Nat → ClassId} {ad : Nat → Nat} {x : SX} (fx : FX p s m args meth c cX6_bell 2 (some .int) RX6 D cy ad x) (hR : 1 ≤ R.frames ∧ 22 ≤ R.locals ∧ 0 ≤ R.cells ∧ 0 ≤ R.slots) (p1 : Int32) (M : Mem) (z : Int32) (M' : Mem) (hF : f_X6_bell p1 M = some (z, M')) (E : ∀ (pc : Nat) (ls : Array Slot) (H : Heap) (locs : List Loc) (v : Int32) (M1 : Mem), decode cX6_bell pc = .ok (.ireturn, 1) → WD D cy ad s M1 H locs → some (v, M1) = some (z, M') → W p l e R s m args below meth c H locs 0 0 Q (F0 m pc ls [.int v])) (H : Heap) (locs : List Loc) (ls : Array Slot) (hl : lv_has ls 2 [(0, .ref (ad 9)), (1, .int p1)]) (hw : WD D cy ad s M H locs) : W p l e R s m args below meth c H locs 0 0 Q (F0 m 0 ls []) := by
  have hx := fx.1.1
  have hb := fx.1.2.1
  have hown := fx.1.2.2.2.1
  have hts := fx.1.2.2.2.2
  have n_16 : ∀ (a1 : Int32) (t1 : Int32) (M : Mem) (H : Heap) (locs : List Loc) (ls : Array Slot), lv_has ls 2 [(0, .ref (ad 9)), (1, .int a1)] → WD D cy ad s M H locs → f_X6_bell_16 a1 t1 M = some (z, M') → W p l e R s m args below meth c H locs 0 0 Q (F0 m 16 ls [.int t1, .ref (ad 9)]) := by
    intro a1 t1 M H locs ls hl hw hF
    unfold f_X6_bell_16 at hF
    obtain ⟨M7, eM7, hF⟩ := st_letM hF
    refine gX6_put fx hw isO_9 6 (by decide) wd5_25 rfl eM7 rfl (Nat.le_of_ble_eq_true rfl) dX6_bell_16 (fun H locs hw => ?_)
    refine lv_aload_n hx hb dX6_bell_19 rfl (lv_at hl 0 rfl) ?_
    refine gX6_get fx hw isO_9 6 (by decide) wd5_25 rfl dX6_bell_20 ?_
    refine lv_if_le (tgt := 30) hx hb dX6_bell_23 (by decide) (fun hc23 => ?_) (fun hc23 => ?_)
    · replace hF := st_t hc23 hF
      refine lv_aload_n hx hb dX6_bell_30 rfl (lv_at hl 0 rfl) ?_
      refine gX6_get fx hw isO_9 0 (by decide) wd5_19 rfl dX6_bell_31 ?_
      refine lv_bipush (v := 20) hx hb dX6_bell_34 (by decide) ?_
      refine lv_iload_n hx hb dX6_bell_36 rfl (lv_at hl 1 rfl) ?_
      refine lv_iadd hx hb dX6_bell_37 ?_
      obtain ⟨hi8, hF⟩ := st_chk hF
      refine g_iald fx hw isA_10 hi8 dX6_bell_38 ?_
      exact E _ _ _ _ _ _ dX6_bell_39 hw hF
    · replace hF := st_f hc23 hF
      refine lv_iconst (v := 0) hx hb dX6_bell_26 (by decide) ?_
      refine lv_goto (tgt := 39) hx hb dX6_bell_27 (by decide) ?_
      exact E _ _ _ _ _ _ dX6_bell_39 hw hF
  unfold f_X6_bell at hF
  refine lv_aload_n hx hb dX6_bell_0 rfl (lv_at hl 0 rfl) ?_
  refine lv_iload_n hx hb dX6_bell_1 rfl (lv_at hl 1 rfl) ?_
  refine lv_iconst (v := 0) hx hb dX6_bell_2 (by decide) ?_
  refine lv_bipush (v := 23) hx hb dX6_bell_3 (by decide) ?_
  obtain ⟨r9, hgr9, hF⟩ := st_bnd hF
  refine g_cz hw (g_runS (As := [.int p1, .int 0, .int 23]) (rest := [.ref (ad 9)]) fx hw (c_X6_isIn l x D cy ad p1 0 23 H.size M r9 hgr9) wd5_92 wd5_93 wd1_8 wd5_94 yd_X6_isIn rfl rfl (Nat.le_of_ble_eq_true rfl) hl.1 ⟨Nat.le_trans (Nat.le_of_ble_eq_true rfl) hR.1, Nat.le_trans (Nat.le_of_ble_eq_true rfl) hR.2.1⟩ ⟨Nat.le_trans (Nat.le_of_ble_eq_true rfl) hR.2.2.1, Nat.le_trans (Nat.le_of_ble_eq_true rfl) hR.2.2.2⟩ dX6_bell_5) (fun H locs hbr9 hw => ?_)
  refine lv_if_eq (tgt := 15) hx hb dX6_bell_8 (by decide) (fun hc8 => ?_) (fun hc8 => ?_)
  · replace hF := st_t hc8 hF
    refine lv_iconst (v := 1) hx hb dX6_bell_15 (by decide) ?_
    exact n_16 p1 1 M H locs ls (lv_sub hl [0, 1] rfl) hw hF
  · replace hF := st_f hc8 hF
    refine lv_iconst (v := 0) hx hb dX6_bell_11 (by decide) ?_
    refine lv_goto (tgt := 16) hx hb dX6_bell_12 (by decide) ?_
    exact n_16 p1 0 M H locs ls (lv_sub hl [0, 1] rfl) hw hF
theorem c_X6_bell (l : Launch) (x : SX) (D : va_G) (cy : Nat → ClassId) (ad : Nat → Nat) (p1 : Int32) (sz : Nat) (M : Mem) (z : Int32) (M' : Mem) (hF : f_X6_bell p1 M = some (z, M')) : Met l yX6_bell (.code yX6_bell cX6_bell 2 (some .int) :: GB) ({ frames := 1, cells := 0, slots := 0, locals := 22 } : Room) (PcW D cy ad x sz M [.ref (ad 9), .int p1]) (QiW D cy ad sz z M') 0 0 (AA ad sz) := by
  refine mk_m (own := RX6) (by decide) rfl (Nat.le_of_ble_eq_true rfl) ?_
  intro p e s m args below meth c ls fx hw hl hsz
  subst hsz
  exact b_X6_bell fx ⟨Nat.le_refl _, Nat.le_refl _, Nat.le_refl _, Nat.le_refl _⟩ p1 M z M' hF (fun pc ls H locs v M1 hd hw h => by cases h; exact g_iret fx hw rfl hd) _ _ ls hl hw
noncomputable def f_X6_howSpoken (p1 p2 : Int32) (M : Mem) : Option Int32 := (bnd (f_X6_isSpeechNow M) (fun r5 => (if r5 = 0 then (bnd (f_X6_restOf p1 p2 M) (fun r6 => (if r6 = 0 then (some 21) else (bnd (f_X6_mo p1 4 M) (fun r7 => (chk (inB r7 156) (if (M 10 (ix r7)) ≤ 0 then (some 23) else (some 22)))))))) else (some 20))))
set_option maxHeartbeats 4000000 in
set_option maxRecDepth 100000 in
theorem b_X6_howSpoken {p : Program} {l : Launch} {e : Env} {R : Room} {s : State} {m : MethodId} {args : Array Value} {below : List Frame} {meth : Method} {c : Code} {Q : State → Prop} {D : va_G} {cy : Nat → ClassId} {ad : Nat → Nat} {x : SX} (fx : FX p s m args meth c cX6_howSpoken 3 (some .int) RX6 D cy ad x) (hR : 5 ≤ R.frames ∧ 109 ≤ R.locals ∧ 0 ≤ R.cells ∧ 0 ≤ R.slots) (p1 p2 : Int32) (M : Mem) (z : Int32) (hF : f_X6_howSpoken p1 p2 M = some z) (E : ∀ (pc : Nat) (ls : Array Slot) (H : Heap) (locs : List Loc) (v : Int32), decode cX6_howSpoken pc = .ok (.ireturn, 1) → WD D cy ad s M H locs → some v = some z → W p l e R s m args below meth c H locs 0 0 Q (F0 m pc ls [.int v])) (H : Heap) (locs : List Loc) (ls : Array Slot) (hl : lv_has ls 3 [(0, .ref (ad 9)), (1, .int p1), (2, .int p2)]) (hw : WD D cy ad s M H locs) : W p l e R s m args below meth c H locs 0 0 Q (F0 m 0 ls []) := by
  have hx := fx.1.1
  have hb := fx.1.2.1
  have hown := fx.1.2.2.2.1
  have hts := fx.1.2.2.2.2
  unfold f_X6_howSpoken at hF
  refine lv_aload_n hx hb dX6_howSpoken_0 rfl (lv_at hl 0 rfl) ?_
  obtain ⟨r5, hgr5, hF⟩ := st_bnd hF
  refine g_cz hw (g_runV (C := RX6) (As := []) (rest := []) fx hw isO_9 rfl (c_X6_isSpeechNow l x D cy ad H.size M r5 hgr5) wd5_107 wd5_109 wd0_43 wd1_8 wd5_110 yd_X6_isSpeechNow rfl rfl (Nat.le_of_ble_eq_true rfl) hl.1 ⟨Nat.le_trans (Nat.le_of_ble_eq_true rfl) hR.1, Nat.le_trans (Nat.le_of_ble_eq_true rfl) hR.2.1⟩ ⟨Nat.le_trans (Nat.le_of_ble_eq_true rfl) hR.2.2.1, Nat.le_trans (Nat.le_of_ble_eq_true rfl) hR.2.2.2⟩ dX6_howSpoken_1) (fun H locs hbr5 hw => ?_)
  refine lv_if_eq (tgt := 10) hx hb dX6_howSpoken_4 (by decide) (fun hc4 => ?_) (fun hc4 => ?_)
  · replace hF := st_t hc4 hF
    refine lv_aload_n hx hb dX6_howSpoken_10 rfl (lv_at hl 0 rfl) ?_
    refine lv_iload_n hx hb dX6_howSpoken_11 rfl (lv_at hl 1 rfl) ?_
    refine lv_iload_n hx hb dX6_howSpoken_12 rfl (lv_at hl 2 rfl) ?_
    obtain ⟨r6, hgr6, hF⟩ := st_bnd hF
    refine g_ci hw (g_runV (C := RX6) (As := [.int p1, .int p2]) (rest := []) fx hw isO_9 rfl (c_X6_restOf l x D cy ad p1 p2 H.size M r6 hgr6) wd5_205 wd5_207 wd0_60 wd1_8 wd5_208 yd_X6_restOf rfl rfl (Nat.le_of_ble_eq_true rfl) hl.1 ⟨Nat.le_trans (Nat.le_of_ble_eq_true rfl) hR.1, Nat.le_trans (Nat.le_of_ble_eq_true rfl) hR.2.1⟩ ⟨Nat.le_trans (Nat.le_of_ble_eq_true rfl) hR.2.2.1, Nat.le_trans (Nat.le_of_ble_eq_true rfl) hR.2.2.2⟩ dX6_howSpoken_13) (fun H locs hw => ?_)
    refine lv_if_ne (tgt := 24) hx hb dX6_howSpoken_16 (by decide) (fun hc16 => ?_) (fun hc16 => ?_)
    · replace hF := st_f hc16 hF
      refine lv_aload_n hx hb dX6_howSpoken_24 rfl (lv_at hl 0 rfl) ?_
      refine gX6_get fx hw isO_9 0 (by decide) wd5_19 rfl dX6_howSpoken_25 ?_
      refine lv_iload_n hx hb dX6_howSpoken_28 rfl (lv_at hl 1 rfl) ?_
      refine lv_iconst (v := 4) hx hb dX6_howSpoken_29 (by decide) ?_
      obtain ⟨r7, hgr7, hF⟩ := st_bnd hF
      refine g_ci hw (g_runS (As := [.int p1, .int 4]) (rest := [.ref (ad 10)]) fx hw (c_X6_mo l x D cy ad p1 4 H.size M r7 hgr7) wd5_16 wd5_17 wd1_8 wd5_18 yd_X6_mo rfl rfl (Nat.le_of_ble_eq_true rfl) hl.1 ⟨Nat.le_trans (Nat.le_of_ble_eq_true rfl) hR.1, Nat.le_trans (Nat.le_of_ble_eq_true rfl) hR.2.1⟩ ⟨Nat.le_trans (Nat.le_of_ble_eq_true rfl) hR.2.2.1, Nat.le_trans (Nat.le_of_ble_eq_true rfl) hR.2.2.2⟩ dX6_howSpoken_30) (fun H locs hw => ?_)
      obtain ⟨hi8, hF⟩ := st_chk hF
      refine g_iald fx hw isA_10 hi8 dX6_howSpoken_33 ?_
      refine lv_if_le (tgt := 42) hx hb dX6_howSpoken_34 (by decide) (fun hc34 => ?_) (fun hc34 => ?_)
      · replace hF := st_t hc34 hF
        refine lv_bipush (v := 23) hx hb dX6_howSpoken_42 (by decide) ?_
        exact E _ _ _ _ _ dX6_howSpoken_44 hw hF
      · replace hF := st_f hc34 hF
        refine lv_bipush (v := 22) hx hb dX6_howSpoken_37 (by decide) ?_
        refine lv_goto (tgt := 44) hx hb dX6_howSpoken_39 (by decide) ?_
        exact E _ _ _ _ _ dX6_howSpoken_44 hw hF
    · replace hF := st_t hc16 hF
      refine lv_bipush (v := 21) hx hb dX6_howSpoken_19 (by decide) ?_
      refine lv_goto (tgt := 44) hx hb dX6_howSpoken_21 (by decide) ?_
      exact E _ _ _ _ _ dX6_howSpoken_44 hw hF
  · replace hF := st_f hc4 hF
    refine lv_bipush (v := 20) hx hb dX6_howSpoken_7 (by decide) ?_
    exact E _ _ _ _ _ dX6_howSpoken_9 hw hF
theorem c_X6_howSpoken (l : Launch) (x : SX) (D : va_G) (cy : Nat → ClassId) (ad : Nat → Nat) (p1 p2 : Int32) (sz : Nat) (M : Mem) (z : Int32) (hF : f_X6_howSpoken p1 p2 M = some z) : Met l yX6_howSpoken (.code yX6_howSpoken cX6_howSpoken 3 (some .int) :: GB) ({ frames := 5, cells := 0, slots := 0, locals := 109 } : Room) (PcW D cy ad x sz M [.ref (ad 9), .int p1, .int p2]) (QiW D cy ad sz z M) 0 0 (AA ad sz) := by
  refine mk_m (own := RX6) (by decide) rfl (Nat.le_of_ble_eq_true rfl) ?_
  intro p e s m args below meth c ls fx hw hl hsz
  subst hsz
  exact b_X6_howSpoken fx ⟨Nat.le_refl _, Nat.le_refl _, Nat.le_refl _, Nat.le_refl _⟩ p1 p2 M z hF (fun pc ls H locs v hd hw h => by cases h; exact g_iret fx hw rfl hd) _ _ ls hl hw
noncomputable def f_X6_cause_157 (M : Mem) : Int32 → Int32 → Int32 → Option Int32 := fun a1 a3 a4 => (if a4 = 0 then (some 0) else (bnd (f_X6_pagesOf a1 a3 M) (fun r17 => (some r17))))
noncomputable def f_X6_cause_140 (M : Mem) : Int32 → Option Int32 := fun a1 => (bnd (f_X6_mo a1 4 M) (fun r18 => (chk (inB r18 156) (some (M 10 (ix r18))))))
noncomputable def f_X6_cause (p1 p2 p3 p4 p5 : Int32) (M : Mem) : Option Int32 := (letV p5 (fun y20 => (if y20 = 2 then (some p1) else (if y20 = 3 then (some p2) else (if y20 = 4 then (some (M 10 2)) else (if y20 = 5 then (bnd (f_X6_mo p1 5 M) (fun r21 => (chk (inB r21 156) (some (M 10 (ix r21)))))) else (if y20 = 6 then ((f_X6_cause_157 M) p1 p3 p4) else (if y20 = 7 then ((f_X6_cause_157 M) p1 p3 p4) else (if y20 = 8 then ((f_X6_cause_157 M) p1 p3 p4) else (if y20 = 9 then ((f_X6_cause_157 M) p1 p3 p4) else (if y20 = 10 then ((f_X6_cause_157 M) p1 p3 p4) else (if y20 = 11 then ((f_X6_cause_157 M) p1 p3 p4) else (if y20 = 12 then ((f_X6_cause_157 M) p1 p3 p4) else (if y20 = 13 then ((f_X6_cause_157 M) p1 p3 p4) else (if y20 = 14 then ((f_X6_cause_157 M) p1 p3 p4) else (if y20 = 15 then ((f_X6_cause_157 M) p1 p3 p4) else (if y20 = 16 then ((f_X6_cause_157 M) p1 p3 p4) else (if y20 = 17 then ((f_X6_cause_157 M) p1 p3 p4) else (if y20 = 18 then ((f_X6_cause_157 M) p1 p3 p4) else (if y20 = 19 then ((f_X6_cause_157 M) p1 p3 p4) else (if y20 = 20 then (bnd (f_X6_hourOfBell (irem (M 10 4) 24) M) (fun r23 => (some r23))) else (if y20 = 21 then ((f_X6_cause_140 M) p1) else (if y20 = 22 then ((f_X6_cause_140 M) p1) else (if y20 = 23 then (bnd (f_X6_words p3 M) (fun r24 => (some r24))) else ((f_X6_cause_157 M) p1 p3 p4)))))))))))))))))))))))))
set_option maxHeartbeats 4000000 in
set_option maxRecDepth 100000 in
theorem b_X6_cause {p : Program} {l : Launch} {e : Env} {R : Room} {s : State} {m : MethodId} {args : Array Value} {below : List Frame} {meth : Method} {c : Code} {Q : State → Prop} {D : va_G} {cy : Nat → ClassId} {ad : Nat → Nat} {x : SX} (fx : FX p s m args meth c cX6_cause 6 (some .int) RX6 D cy ad x) (hR : 2 ≤ R.frames ∧ 43 ≤ R.locals ∧ 0 ≤ R.cells ∧ 0 ≤ R.slots) (p1 p2 p3 p4 p5 : Int32) (M : Mem) (z : Int32) (hF : f_X6_cause p1 p2 p3 p4 p5 M = some z) (E : ∀ (pc : Nat) (ls : Array Slot) (H : Heap) (locs : List Loc) (v : Int32), decode cX6_cause pc = .ok (.ireturn, 1) → WD D cy ad s M H locs → some v = some z → W p l e R s m args below meth c H locs 0 0 Q (F0 m pc ls [.int v])) (H : Heap) (locs : List Loc) (ls : Array Slot) (hl : lv_has ls 6 [(0, .ref (ad 9)), (1, .int p1), (2, .int p2), (3, .int p3), (4, .int p4), (5, .int p5)]) (hw : WD D cy ad s M H locs) : W p l e R s m args below meth c H locs 0 0 Q (F0 m 0 ls []) := by
  have hx := fx.1.1
  have hb := fx.1.2.1
  have hown := fx.1.2.2.2.1
  have hts := fx.1.2.2.2.2
  have n_157 : ∀ (a1 : Int32) (a3 : Int32) (a4 : Int32) (H : Heap) (locs : List Loc) (ls : Array Slot), lv_has ls 6 [(0, .ref (ad 9)), (1, .int a1), (3, .int a3), (4, .int a4)] → WD D cy ad s M H locs → f_X6_cause_157 M a1 a3 a4 = some z → W p l e R s m args below meth c H locs 0 0 Q (F0 m 157 ls []) := by
    intro a1 a3 a4 H locs ls hl hw hF
    unfold f_X6_cause_157 at hF
    refine lv_iload hx hb dX6_cause_157 (lv_at hl 3 rfl) ?_
    refine lv_if_ne (tgt := 166) hx hb dX6_cause_159 (by decide) (fun hc159 => ?_) (fun hc159 => ?_)
    · replace hF := st_f hc159 hF
      refine lv_aload_n hx hb dX6_cause_166 rfl (lv_at hl 0 rfl) ?_
      refine lv_iload_n hx hb dX6_cause_167 rfl (lv_at hl 1 rfl) ?_
      refine lv_iload_n hx hb dX6_cause_168 rfl (lv_at hl 2 rfl) ?_
      obtain ⟨r17, hgr17, hF⟩ := st_bnd hF
      refine g_ci hw (g_runV (C := RX6) (As := [.int a1, .int a3]) (rest := []) fx hw isO_9 rfl (c_X6_pagesOf l x D cy ad a1 a3 H.size M r17 hgr17) wd5_197 wd5_199 wd0_58 wd1_8 wd5_200 yd_X6_pagesOf rfl rfl (Nat.le_of_ble_eq_true rfl) hl.1 ⟨Nat.le_trans (Nat.le_of_ble_eq_true rfl) hR.1, Nat.le_trans (Nat.le_of_ble_eq_true rfl) hR.2.1⟩ ⟨Nat.le_trans (Nat.le_of_ble_eq_true rfl) hR.2.2.1, Nat.le_trans (Nat.le_of_ble_eq_true rfl) hR.2.2.2⟩ dX6_cause_169) (fun H locs hw => ?_)
      exact E _ _ _ _ _ dX6_cause_172 hw hF
    · replace hF := st_t hc159 hF
      refine lv_iconst (v := 0) hx hb dX6_cause_162 (by decide) ?_
      refine lv_goto (tgt := 172) hx hb dX6_cause_163 (by decide) ?_
      exact E _ _ _ _ _ dX6_cause_172 hw hF
  have n_140 : ∀ (a1 : Int32) (H : Heap) (locs : List Loc) (ls : Array Slot), lv_has ls 6 [(0, .ref (ad 9)), (1, .int a1)] → WD D cy ad s M H locs → f_X6_cause_140 M a1 = some z → W p l e R s m args below meth c H locs 0 0 Q (F0 m 140 ls []) := by
    intro a1 H locs ls hl hw hF
    unfold f_X6_cause_140 at hF
    refine lv_aload_n hx hb dX6_cause_140 rfl (lv_at hl 0 rfl) ?_
    refine gX6_get fx hw isO_9 0 (by decide) wd5_19 rfl dX6_cause_141 ?_
    refine lv_iload_n hx hb dX6_cause_144 rfl (lv_at hl 1 rfl) ?_
    refine lv_iconst (v := 4) hx hb dX6_cause_145 (by decide) ?_
    obtain ⟨r18, hgr18, hF⟩ := st_bnd hF
    refine g_ci hw (g_runS (As := [.int a1, .int 4]) (rest := [.ref (ad 10)]) fx hw (c_X6_mo l x D cy ad a1 4 H.size M r18 hgr18) wd5_16 wd5_17 wd1_8 wd5_18 yd_X6_mo rfl rfl (Nat.le_of_ble_eq_true rfl) hl.1 ⟨Nat.le_trans (Nat.le_of_ble_eq_true rfl) hR.1, Nat.le_trans (Nat.le_of_ble_eq_true rfl) hR.2.1⟩ ⟨Nat.le_trans (Nat.le_of_ble_eq_true rfl) hR.2.2.1, Nat.le_trans (Nat.le_of_ble_eq_true rfl) hR.2.2.2⟩ dX6_cause_146) (fun H locs hw => ?_)
    obtain ⟨hi19, hF⟩ := st_chk hF
    refine g_iald fx hw isA_10 hi19 dX6_cause_149 ?_
    exact E _ _ _ _ _ dX6_cause_150 hw hF
  unfold f_X6_cause at hF
  refine lv_iload hx hb dX6_cause_0 (lv_at hl 5 rfl) ?_
  obtain ⟨y20, ey20, hF⟩ := st_letV hF
  refine g_top ey20 ?_
  by_cases hk2_0 : y20 = 2
  · replace hF := st_t hk2_0 hF
    subst hk2_0
    refine lv_tableIn (off := 102) (tgt := 104) hx hb dX6_cause_2 (by decide) (by decide) rfl (by decide) ?_
    refine lv_iload_n hx hb dX6_cause_104 rfl (lv_at hl 1 rfl) ?_
    exact E _ _ _ _ _ dX6_cause_105 hw hF
  · replace hF := st_f hk2_0 hF
    by_cases hk2_1 : y20 = 3
    · replace hF := st_t hk2_1 hF
      subst hk2_1
      refine lv_tableIn (off := 104) (tgt := 106) hx hb dX6_cause_2 (by decide) (by decide) rfl (by decide) ?_
      refine lv_iload_n hx hb dX6_cause_106 rfl (lv_at hl 2 rfl) ?_
      exact E _ _ _ _ _ dX6_cause_107 hw hF
    · replace hF := st_f hk2_1 hF
      by_cases hk2_2 : y20 = 4
      · replace hF := st_t hk2_2 hF
        subst hk2_2
        refine lv_tableIn (off := 106) (tgt := 108) hx hb dX6_cause_2 (by decide) (by decide) rfl (by decide) ?_
        refine lv_aload_n hx hb dX6_cause_108 rfl (lv_at hl 0 rfl) ?_
        refine gX6_get fx hw isO_9 0 (by decide) wd5_19 rfl dX6_cause_109 ?_
        refine lv_iconst (v := 2) hx hb dX6_cause_112 (by decide) ?_
        refine g_ialdc fx hw isA_10 (k := 2) rfl (by decide) dX6_cause_113 ?_
        exact E _ _ _ _ _ dX6_cause_114 hw hF
      · replace hF := st_f hk2_2 hF
        by_cases hk2_3 : y20 = 5
        · replace hF := st_t hk2_3 hF
          subst hk2_3
          refine lv_tableIn (off := 113) (tgt := 115) hx hb dX6_cause_2 (by decide) (by decide) rfl (by decide) ?_
          refine lv_aload_n hx hb dX6_cause_115 rfl (lv_at hl 0 rfl) ?_
          refine gX6_get fx hw isO_9 0 (by decide) wd5_19 rfl dX6_cause_116 ?_
          refine lv_iload_n hx hb dX6_cause_119 rfl (lv_at hl 1 rfl) ?_
          refine lv_iconst (v := 5) hx hb dX6_cause_120 (by decide) ?_
          obtain ⟨r21, hgr21, hF⟩ := st_bnd hF
          refine g_ci hw (g_runS (As := [.int p1, .int 5]) (rest := [.ref (ad 10)]) fx hw (c_X6_mo l x D cy ad p1 5 H.size M r21 hgr21) wd5_16 wd5_17 wd1_8 wd5_18 yd_X6_mo rfl rfl (Nat.le_of_ble_eq_true rfl) hl.1 ⟨Nat.le_trans (Nat.le_of_ble_eq_true rfl) hR.1, Nat.le_trans (Nat.le_of_ble_eq_true rfl) hR.2.1⟩ ⟨Nat.le_trans (Nat.le_of_ble_eq_true rfl) hR.2.2.1, Nat.le_trans (Nat.le_of_ble_eq_true rfl) hR.2.2.2⟩ dX6_cause_121) (fun H locs hw => ?_)
          obtain ⟨hi22, hF⟩ := st_chk hF
          refine g_iald fx hw isA_10 hi22 dX6_cause_124 ?_
          exact E _ _ _ _ _ dX6_cause_125 hw hF
        · replace hF := st_f hk2_3 hF
          by_cases hk2_4 : y20 = 6
          · replace hF := st_t hk2_4 hF
            subst hk2_4
            refine lv_tableIn (off := 155) (tgt := 157) hx hb dX6_cause_2 (by decide) (by decide) rfl (by decide) ?_
            exact n_157 p1 p3 p4 H locs ls (lv_sub hl [0, 1, 3, 4] rfl) hw hF
          · replace hF := st_f hk2_4 hF
            by_cases hk2_5 : y20 = 7
            · replace hF := st_t hk2_5 hF
              subst hk2_5
              refine lv_tableIn (off := 155) (tgt := 157) hx hb dX6_cause_2 (by decide) (by decide) rfl (by decide) ?_
              exact n_157 p1 p3 p4 H locs ls (lv_sub hl [0, 1, 3, 4] rfl) hw hF
            · replace hF := st_f hk2_5 hF
              by_cases hk2_6 : y20 = 8
              · replace hF := st_t hk2_6 hF
                subst hk2_6
                refine lv_tableIn (off := 155) (tgt := 157) hx hb dX6_cause_2 (by decide) (by decide) rfl (by decide) ?_
                exact n_157 p1 p3 p4 H locs ls (lv_sub hl [0, 1, 3, 4] rfl) hw hF
              · replace hF := st_f hk2_6 hF
                by_cases hk2_7 : y20 = 9
                · replace hF := st_t hk2_7 hF
                  subst hk2_7
                  refine lv_tableIn (off := 155) (tgt := 157) hx hb dX6_cause_2 (by decide) (by decide) rfl (by decide) ?_
                  exact n_157 p1 p3 p4 H locs ls (lv_sub hl [0, 1, 3, 4] rfl) hw hF
                · replace hF := st_f hk2_7 hF
                  by_cases hk2_8 : y20 = 10
                  · replace hF := st_t hk2_8 hF
                    subst hk2_8
                    refine lv_tableIn (off := 155) (tgt := 157) hx hb dX6_cause_2 (by decide) (by decide) rfl (by decide) ?_
                    exact n_157 p1 p3 p4 H locs ls (lv_sub hl [0, 1, 3, 4] rfl) hw hF
                  · replace hF := st_f hk2_8 hF
                    by_cases hk2_9 : y20 = 11
                    · replace hF := st_t hk2_9 hF
                      subst hk2_9
                      refine lv_tableIn (off := 155) (tgt := 157) hx hb dX6_cause_2 (by decide) (by decide) rfl (by decide) ?_
                      exact n_157 p1 p3 p4 H locs ls (lv_sub hl [0, 1, 3, 4] rfl) hw hF
                    · replace hF := st_f hk2_9 hF
                      by_cases hk2_10 : y20 = 12
                      · replace hF := st_t hk2_10 hF
                        subst hk2_10
                        refine lv_tableIn (off := 155) (tgt := 157) hx hb dX6_cause_2 (by decide) (by decide) rfl (by decide) ?_
                        exact n_157 p1 p3 p4 H locs ls (lv_sub hl [0, 1, 3, 4] rfl) hw hF
                      · replace hF := st_f hk2_10 hF
                        by_cases hk2_11 : y20 = 13
                        · replace hF := st_t hk2_11 hF
                          subst hk2_11
                          refine lv_tableIn (off := 155) (tgt := 157) hx hb dX6_cause_2 (by decide) (by decide) rfl (by decide) ?_
                          exact n_157 p1 p3 p4 H locs ls (lv_sub hl [0, 1, 3, 4] rfl) hw hF
                        · replace hF := st_f hk2_11 hF
                          by_cases hk2_12 : y20 = 14
                          · replace hF := st_t hk2_12 hF
                            subst hk2_12
                            refine lv_tableIn (off := 155) (tgt := 157) hx hb dX6_cause_2 (by decide) (by decide) rfl (by decide) ?_
                            exact n_157 p1 p3 p4 H locs ls (lv_sub hl [0, 1, 3, 4] rfl) hw hF
                          · replace hF := st_f hk2_12 hF
                            by_cases hk2_13 : y20 = 15
                            · replace hF := st_t hk2_13 hF
                              subst hk2_13
                              refine lv_tableIn (off := 155) (tgt := 157) hx hb dX6_cause_2 (by decide) (by decide) rfl (by decide) ?_
                              exact n_157 p1 p3 p4 H locs ls (lv_sub hl [0, 1, 3, 4] rfl) hw hF
                            · replace hF := st_f hk2_13 hF
                              by_cases hk2_14 : y20 = 16
                              · replace hF := st_t hk2_14 hF
                                subst hk2_14
                                refine lv_tableIn (off := 155) (tgt := 157) hx hb dX6_cause_2 (by decide) (by decide) rfl (by decide) ?_
                                exact n_157 p1 p3 p4 H locs ls (lv_sub hl [0, 1, 3, 4] rfl) hw hF
                              · replace hF := st_f hk2_14 hF
                                by_cases hk2_15 : y20 = 17
                                · replace hF := st_t hk2_15 hF
                                  subst hk2_15
                                  refine lv_tableIn (off := 155) (tgt := 157) hx hb dX6_cause_2 (by decide) (by decide) rfl (by decide) ?_
                                  exact n_157 p1 p3 p4 H locs ls (lv_sub hl [0, 1, 3, 4] rfl) hw hF
                                · replace hF := st_f hk2_15 hF
                                  by_cases hk2_16 : y20 = 18
                                  · replace hF := st_t hk2_16 hF
                                    subst hk2_16
                                    refine lv_tableIn (off := 155) (tgt := 157) hx hb dX6_cause_2 (by decide) (by decide) rfl (by decide) ?_
                                    exact n_157 p1 p3 p4 H locs ls (lv_sub hl [0, 1, 3, 4] rfl) hw hF
                                  · replace hF := st_f hk2_16 hF
                                    by_cases hk2_17 : y20 = 19
                                    · replace hF := st_t hk2_17 hF
                                      subst hk2_17
                                      refine lv_tableIn (off := 155) (tgt := 157) hx hb dX6_cause_2 (by decide) (by decide) rfl (by decide) ?_
                                      exact n_157 p1 p3 p4 H locs ls (lv_sub hl [0, 1, 3, 4] rfl) hw hF
                                    · replace hF := st_f hk2_17 hF
                                      by_cases hk2_18 : y20 = 20
                                      · replace hF := st_t hk2_18 hF
                                        subst hk2_18
                                        refine lv_tableIn (off := 124) (tgt := 126) hx hb dX6_cause_2 (by decide) (by decide) rfl (by decide) ?_
                                        refine lv_aload_n hx hb dX6_cause_126 rfl (lv_at hl 0 rfl) ?_
                                        refine lv_aload_n hx hb dX6_cause_127 rfl (lv_at hl 0 rfl) ?_
                                        refine gX6_get fx hw isO_9 0 (by decide) wd5_19 rfl dX6_cause_128 ?_
                                        refine lv_iconst (v := 4) hx hb dX6_cause_131 (by decide) ?_
                                        refine g_ialdc fx hw isA_10 (k := 4) rfl (by decide) dX6_cause_132 ?_
                                        refine lv_bipush (v := 24) hx hb dX6_cause_133 (by decide) ?_
                                        refine g_irem hx hb dX6_cause_135 (by decide) ?_
                                        obtain ⟨r23, hgr23, hF⟩ := st_bnd hF
                                        refine g_ci hw (g_runV (C := RX6) (As := [.int (irem (M 10 4) 24)]) (rest := []) fx hw isO_9 rfl (c_X6_hourOfBell l x D cy ad (irem (M 10 4) 24) H.size M r23 hgr23) wd5_115 wd5_117 wd0_45 wd1_8 wd5_118 yd_X6_hourOfBell rfl rfl (Nat.le_of_ble_eq_true rfl) hl.1 ⟨Nat.le_trans (Nat.le_of_ble_eq_true rfl) hR.1, Nat.le_trans (Nat.le_of_ble_eq_true rfl) hR.2.1⟩ ⟨Nat.le_trans (Nat.le_of_ble_eq_true rfl) hR.2.2.1, Nat.le_trans (Nat.le_of_ble_eq_true rfl) hR.2.2.2⟩ dX6_cause_136) (fun H locs hw => ?_)
                                        exact E _ _ _ _ _ dX6_cause_139 hw hF
                                      · replace hF := st_f hk2_18 hF
                                        by_cases hk2_19 : y20 = 21
                                        · replace hF := st_t hk2_19 hF
                                          subst hk2_19
                                          refine lv_tableIn (off := 138) (tgt := 140) hx hb dX6_cause_2 (by decide) (by decide) rfl (by decide) ?_
                                          exact n_140 p1 H locs ls (lv_sub hl [0, 1] rfl) hw hF
                                        · replace hF := st_f hk2_19 hF
                                          by_cases hk2_20 : y20 = 22
                                          · replace hF := st_t hk2_20 hF
                                            subst hk2_20
                                            refine lv_tableIn (off := 138) (tgt := 140) hx hb dX6_cause_2 (by decide) (by decide) rfl (by decide) ?_
                                            exact n_140 p1 H locs ls (lv_sub hl [0, 1] rfl) hw hF
                                          · replace hF := st_f hk2_20 hF
                                            by_cases hk2_21 : y20 = 23
                                            · replace hF := st_t hk2_21 hF
                                              subst hk2_21
                                              refine lv_tableIn (off := 149) (tgt := 151) hx hb dX6_cause_2 (by decide) (by decide) rfl (by decide) ?_
                                              refine lv_aload_n hx hb dX6_cause_151 rfl (lv_at hl 0 rfl) ?_
                                              refine lv_iload_n hx hb dX6_cause_152 rfl (lv_at hl 3 rfl) ?_
                                              obtain ⟨r24, hgr24, hF⟩ := st_bnd hF
                                              refine g_ci hw (g_runV (C := RX6) (As := [.int p3]) (rest := []) fx hw isO_9 rfl (c_X6_words l x D cy ad p3 H.size M r24 hgr24) wd5_165 wd5_167 wd0_53 wd1_8 wd5_168 yd_X6_words rfl rfl (Nat.le_of_ble_eq_true rfl) hl.1 ⟨Nat.le_trans (Nat.le_of_ble_eq_true rfl) hR.1, Nat.le_trans (Nat.le_of_ble_eq_true rfl) hR.2.1⟩ ⟨Nat.le_trans (Nat.le_of_ble_eq_true rfl) hR.2.2.1, Nat.le_trans (Nat.le_of_ble_eq_true rfl) hR.2.2.2⟩ dX6_cause_153) (fun H locs hw => ?_)
                                              exact E _ _ _ _ _ dX6_cause_156 hw hF
                                            · replace hF := st_f hk2_21 hF
                                              refine lv_tableOut (tgt := 157) hx hb dX6_cause_2 (by have e_0 := lv_neT (a := 2) hk2_0 (by decide); have e_1 := lv_neT (a := 3) hk2_1 (by decide); have e_2 := lv_neT (a := 4) hk2_2 (by decide); have e_3 := lv_neT (a := 5) hk2_3 (by decide); have e_4 := lv_neT (a := 6) hk2_4 (by decide); have e_5 := lv_neT (a := 7) hk2_5 (by decide); have e_6 := lv_neT (a := 8) hk2_6 (by decide); have e_7 := lv_neT (a := 9) hk2_7 (by decide); have e_8 := lv_neT (a := 10) hk2_8 (by decide); have e_9 := lv_neT (a := 11) hk2_9 (by decide); have e_10 := lv_neT (a := 12) hk2_10 (by decide); have e_11 := lv_neT (a := 13) hk2_11 (by decide); have e_12 := lv_neT (a := 14) hk2_12 (by decide); have e_13 := lv_neT (a := 15) hk2_13 (by decide); have e_14 := lv_neT (a := 16) hk2_14 (by decide); have e_15 := lv_neT (a := 17) hk2_15 (by decide); have e_16 := lv_neT (a := 18) hk2_16 (by decide); have e_17 := lv_neT (a := 19) hk2_17 (by decide); have e_18 := lv_neT (a := 20) hk2_18 (by decide); have e_19 := lv_neT (a := 21) hk2_19 (by decide); have e_20 := lv_neT (a := 22) hk2_20 (by decide); have e_21 := lv_neT (a := 23) hk2_21 (by decide); omega) (by decide) ?_
                                              exact n_157 p1 p3 p4 H locs ls (lv_sub hl [0, 1, 3, 4] rfl) hw hF
theorem c_X6_cause (l : Launch) (x : SX) (D : va_G) (cy : Nat → ClassId) (ad : Nat → Nat) (p1 p2 p3 p4 p5 : Int32) (sz : Nat) (M : Mem) (z : Int32) (hF : f_X6_cause p1 p2 p3 p4 p5 M = some z) : Met l yX6_cause (.code yX6_cause cX6_cause 6 (some .int) :: GB) ({ frames := 2, cells := 0, slots := 0, locals := 43 } : Room) (PcW D cy ad x sz M [.ref (ad 9), .int p1, .int p2, .int p3, .int p4, .int p5]) (QiW D cy ad sz z M) 0 0 (AA ad sz) := by
  refine mk_m (own := RX6) (by decide) rfl (Nat.le_of_ble_eq_true rfl) ?_
  intro p e s m args below meth c ls fx hw hl hsz
  subst hsz
  exact b_X6_cause fx ⟨Nat.le_refl _, Nat.le_refl _, Nat.le_refl _, Nat.le_refl _⟩ p1 p2 p3 p4 p5 M z hF (fun pc ls H locs v hd hw h => by cases h; exact g_iret fx hw rfl hd) _ _ ls hl hw
noncomputable def f_X6_deep_59 (M : Mem) : Int32 → Int32 → Option Int32 := fun a1 a2 => (bnd (f_X6_daysOf a1 a2 M) (fun r13 => (some r13)))
noncomputable def f_X6_deep (p1 p2 p3 : Int32) (M : Mem) : Option Int32 := (letV p3 (fun y14 => (if y14 = 4 then (bnd (f_X6_pagesOf p1 p2 M) (fun r15 => (some r15))) else (if y14 = 5 then ((f_X6_deep_59 M) p1 p2) else (if y14 = 21 then (bnd (f_X6_mo p1 4 M) (fun r16 => (chk (inB r16 156) (bnd (f_X6_words p2 M) (fun r18 => (some ((M 10 (ix r16)) - r18))))))) else (if y14 = 22 then ((f_X6_deep_59 M) p1 p2) else (if y14 = 23 then ((f_X6_deep_59 M) p1 p2) else (some (-1)))))))))
set_option maxHeartbeats 4000000 in
set_option maxRecDepth 100000 in
theorem b_X6_deep {p : Program} {l : Launch} {e : Env} {R : Room} {s : State} {m : MethodId} {args : Array Value} {below : List Frame} {meth : Method} {c : Code} {Q : State → Prop} {D : va_G} {cy : Nat → ClassId} {ad : Nat → Nat} {x : SX} (fx : FX p s m args meth c cX6_deep 4 (some .int) RX6 D cy ad x) (hR : 6 ≤ R.frames ∧ 131 ≤ R.locals ∧ 0 ≤ R.cells ∧ 0 ≤ R.slots) (p1 p2 p3 : Int32) (M : Mem) (z : Int32) (hF : f_X6_deep p1 p2 p3 M = some z) (E : ∀ (pc : Nat) (ls : Array Slot) (H : Heap) (locs : List Loc) (v : Int32), decode cX6_deep pc = .ok (.ireturn, 1) → WD D cy ad s M H locs → some v = some z → W p l e R s m args below meth c H locs 0 0 Q (F0 m pc ls [.int v])) (H : Heap) (locs : List Loc) (ls : Array Slot) (hl : lv_has ls 4 [(0, .ref (ad 9)), (1, .int p1), (2, .int p2), (3, .int p3)]) (hw : WD D cy ad s M H locs) : W p l e R s m args below meth c H locs 0 0 Q (F0 m 0 ls []) := by
  have hx := fx.1.1
  have hb := fx.1.2.1
  have hown := fx.1.2.2.2.1
  have hts := fx.1.2.2.2.2
  have n_59 : ∀ (a1 : Int32) (a2 : Int32) (H : Heap) (locs : List Loc) (ls : Array Slot), lv_has ls 4 [(0, .ref (ad 9)), (1, .int a1), (2, .int a2)] → WD D cy ad s M H locs → f_X6_deep_59 M a1 a2 = some z → W p l e R s m args below meth c H locs 0 0 Q (F0 m 59 ls []) := by
    intro a1 a2 H locs ls hl hw hF
    unfold f_X6_deep_59 at hF
    refine lv_aload_n hx hb dX6_deep_59 rfl (lv_at hl 0 rfl) ?_
    refine lv_iload_n hx hb dX6_deep_60 rfl (lv_at hl 1 rfl) ?_
    refine lv_iload_n hx hb dX6_deep_61 rfl (lv_at hl 2 rfl) ?_
    obtain ⟨r13, hgr13, hF⟩ := st_bnd hF
    refine g_ci hw (g_runV (C := RX6) (As := [.int a1, .int a2]) (rest := []) fx hw isO_9 rfl (c_X6_daysOf l x D cy ad a1 a2 H.size M r13 hgr13) wd5_201 wd5_203 wd0_59 wd1_8 wd5_204 yd_X6_daysOf rfl rfl (Nat.le_of_ble_eq_true rfl) hl.1 ⟨Nat.le_trans (Nat.le_of_ble_eq_true rfl) hR.1, Nat.le_trans (Nat.le_of_ble_eq_true rfl) hR.2.1⟩ ⟨Nat.le_trans (Nat.le_of_ble_eq_true rfl) hR.2.2.1, Nat.le_trans (Nat.le_of_ble_eq_true rfl) hR.2.2.2⟩ dX6_deep_62) (fun H locs hw => ?_)
    exact E _ _ _ _ _ dX6_deep_65 hw hF
  unfold f_X6_deep at hF
  refine lv_iload_n hx hb dX6_deep_0 rfl (lv_at hl 3 rfl) ?_
  obtain ⟨y14, ey14, hF⟩ := st_letV hF
  refine g_top ey14 ?_
  by_cases hk1_0 : y14 = 4
  · replace hF := st_t hk1_0 hF
    subst hk1_0
    refine lv_lookup (off := 51) (tgt := 52) hx hb dX6_deep_1 (by decide) (by decide) (by decide) ?_
    refine lv_aload_n hx hb dX6_deep_52 rfl (lv_at hl 0 rfl) ?_
    refine lv_iload_n hx hb dX6_deep_53 rfl (lv_at hl 1 rfl) ?_
    refine lv_iload_n hx hb dX6_deep_54 rfl (lv_at hl 2 rfl) ?_
    obtain ⟨r15, hgr15, hF⟩ := st_bnd hF
    refine g_ci hw (g_runV (C := RX6) (As := [.int p1, .int p2]) (rest := []) fx hw isO_9 rfl (c_X6_pagesOf l x D cy ad p1 p2 H.size M r15 hgr15) wd5_197 wd5_199 wd0_58 wd1_8 wd5_200 yd_X6_pagesOf rfl rfl (Nat.le_of_ble_eq_true rfl) hl.1 ⟨Nat.le_trans (Nat.le_of_ble_eq_true rfl) hR.1, Nat.le_trans (Nat.le_of_ble_eq_true rfl) hR.2.1⟩ ⟨Nat.le_trans (Nat.le_of_ble_eq_true rfl) hR.2.2.1, Nat.le_trans (Nat.le_of_ble_eq_true rfl) hR.2.2.2⟩ dX6_deep_55) (fun H locs hw => ?_)
    exact E _ _ _ _ _ dX6_deep_58 hw hF
  · replace hF := st_f hk1_0 hF
    by_cases hk1_1 : y14 = 5
    · replace hF := st_t hk1_1 hF
      subst hk1_1
      refine lv_lookup (off := 58) (tgt := 59) hx hb dX6_deep_1 (by decide) (by decide) (by decide) ?_
      exact n_59 p1 p2 H locs ls (lv_sub hl [0, 1, 2] rfl) hw hF
    · replace hF := st_f hk1_1 hF
      by_cases hk1_2 : y14 = 21
      · replace hF := st_t hk1_2 hF
        subst hk1_2
        refine lv_lookup (off := 65) (tgt := 66) hx hb dX6_deep_1 (by decide) (by decide) (by decide) ?_
        refine lv_aload_n hx hb dX6_deep_66 rfl (lv_at hl 0 rfl) ?_
        refine gX6_get fx hw isO_9 0 (by decide) wd5_19 rfl dX6_deep_67 ?_
        refine lv_iload_n hx hb dX6_deep_70 rfl (lv_at hl 1 rfl) ?_
        refine lv_iconst (v := 4) hx hb dX6_deep_71 (by decide) ?_
        obtain ⟨r16, hgr16, hF⟩ := st_bnd hF
        refine g_ci hw (g_runS (As := [.int p1, .int 4]) (rest := [.ref (ad 10)]) fx hw (c_X6_mo l x D cy ad p1 4 H.size M r16 hgr16) wd5_16 wd5_17 wd1_8 wd5_18 yd_X6_mo rfl rfl (Nat.le_of_ble_eq_true rfl) hl.1 ⟨Nat.le_trans (Nat.le_of_ble_eq_true rfl) hR.1, Nat.le_trans (Nat.le_of_ble_eq_true rfl) hR.2.1⟩ ⟨Nat.le_trans (Nat.le_of_ble_eq_true rfl) hR.2.2.1, Nat.le_trans (Nat.le_of_ble_eq_true rfl) hR.2.2.2⟩ dX6_deep_72) (fun H locs hw => ?_)
        obtain ⟨hi17, hF⟩ := st_chk hF
        refine g_iald fx hw isA_10 hi17 dX6_deep_75 ?_
        refine lv_aload_n hx hb dX6_deep_76 rfl (lv_at hl 0 rfl) ?_
        refine lv_iload_n hx hb dX6_deep_77 rfl (lv_at hl 2 rfl) ?_
        obtain ⟨r18, hgr18, hF⟩ := st_bnd hF
        refine g_ci hw (g_runV (C := RX6) (As := [.int p2]) (rest := [.int (M 10 (ix r16))]) fx hw isO_9 rfl (c_X6_words l x D cy ad p2 H.size M r18 hgr18) wd5_165 wd5_167 wd0_53 wd1_8 wd5_168 yd_X6_words rfl rfl (Nat.le_of_ble_eq_true rfl) hl.1 ⟨Nat.le_trans (Nat.le_of_ble_eq_true rfl) hR.1, Nat.le_trans (Nat.le_of_ble_eq_true rfl) hR.2.1⟩ ⟨Nat.le_trans (Nat.le_of_ble_eq_true rfl) hR.2.2.1, Nat.le_trans (Nat.le_of_ble_eq_true rfl) hR.2.2.2⟩ dX6_deep_78) (fun H locs hw => ?_)
        refine lv_isub hx hb dX6_deep_81 ?_
        exact E _ _ _ _ _ dX6_deep_82 hw hF
      · replace hF := st_f hk1_2 hF
        by_cases hk1_3 : y14 = 22
        · replace hF := st_t hk1_3 hF
          subst hk1_3
          refine lv_lookup (off := 58) (tgt := 59) hx hb dX6_deep_1 (by decide) (by decide) (by decide) ?_
          exact n_59 p1 p2 H locs ls (lv_sub hl [0, 1, 2] rfl) hw hF
        · replace hF := st_f hk1_3 hF
          by_cases hk1_4 : y14 = 23
          · replace hF := st_t hk1_4 hF
            subst hk1_4
            refine lv_lookup (off := 58) (tgt := 59) hx hb dX6_deep_1 (by decide) (by decide) (by decide) ?_
            exact n_59 p1 p2 H locs ls (lv_sub hl [0, 1, 2] rfl) hw hF
          · replace hF := st_f hk1_4 hF
            refine lv_lookup (off := 82) (tgt := 83) hx hb dX6_deep_1 (by decide) ((lv_osw hk1_0 (by decide)).trans ((lv_osw hk1_1 (by decide)).trans ((lv_osw hk1_2 (by decide)).trans ((lv_osw hk1_3 (by decide)).trans ((lv_osw hk1_4 (by decide)).trans (rfl)))))) (by decide) ?_
            refine lv_iconst (v := (-1)) hx hb dX6_deep_83 (by decide) ?_
            exact E _ _ _ _ _ dX6_deep_84 hw hF
theorem c_X6_deep (l : Launch) (x : SX) (D : va_G) (cy : Nat → ClassId) (ad : Nat → Nat) (p1 p2 p3 : Int32) (sz : Nat) (M : Mem) (z : Int32) (hF : f_X6_deep p1 p2 p3 M = some z) : Met l yX6_deep (.code yX6_deep cX6_deep 4 (some .int) :: GB) ({ frames := 6, cells := 0, slots := 0, locals := 131 } : Room) (PcW D cy ad x sz M [.ref (ad 9), .int p1, .int p2, .int p3]) (QiW D cy ad sz z M) 0 0 (AA ad sz) := by
  refine mk_m (own := RX6) (by decide) rfl (Nat.le_of_ble_eq_true rfl) ?_
  intro p e s m args below meth c ls fx hw hl hsz
  subst hsz
  exact b_X6_deep fx ⟨Nat.le_refl _, Nat.le_refl _, Nat.le_refl _, Nat.le_refl _⟩ p1 p2 p3 M z hF (fun pc ls H locs v hd hw h => by cases h; exact g_iret fx hw rfl hd) _ _ ls hl hw
noncomputable def f_X6_wrongTwo_24 (M : Mem) : Option Int32 := (some 1)
noncomputable def f_X6_wrongTwo (p1 p2 p3 : Int32) (M : Mem) : Option Int32 := (bnd (f_X6_isMonk p1 M) (fun r7 => (if r7 = 0 then ((f_X6_wrongTwo_24 M)) else (bnd (f_X6_isMonk p2 M) (fun r8 => (if r8 = 0 then ((f_X6_wrongTwo_24 M)) else (bnd (f_X6_isNeed p3 M) (fun r9 => (if r9 = 0 then ((f_X6_wrongTwo_24 M)) else (if p1 = p2 then (some 2) else (some 0)))))))))))
set_option maxHeartbeats 4000000 in
set_option maxRecDepth 100000 in
theorem b_X6_wrongTwo {p : Program} {l : Launch} {e : Env} {R : Room} {s : State} {m : MethodId} {args : Array Value} {below : List Frame} {meth : Method} {c : Code} {Q : State → Prop} {D : va_G} {cy : Nat → ClassId} {ad : Nat → Nat} {x : SX} (fx : FX p s m args meth c cX6_wrongTwo 4 (some .int) RX6 D cy ad x) (hR : 2 ≤ R.frames ∧ 43 ≤ R.locals ∧ 0 ≤ R.cells ∧ 0 ≤ R.slots) (p1 p2 p3 : Int32) (M : Mem) (z : Int32) (hF : f_X6_wrongTwo p1 p2 p3 M = some z) (E : ∀ (pc : Nat) (ls : Array Slot) (H : Heap) (locs : List Loc) (v : Int32), decode cX6_wrongTwo pc = .ok (.ireturn, 1) → WD D cy ad s M H locs → some v = some z → W p l e R s m args below meth c H locs 0 0 Q (F0 m pc ls [.int v])) (H : Heap) (locs : List Loc) (ls : Array Slot) (hl : lv_has ls 4 [(0, .ref (ad 9)), (1, .int p1), (2, .int p2), (3, .int p3)]) (hw : WD D cy ad s M H locs) : W p l e R s m args below meth c H locs 0 0 Q (F0 m 0 ls []) := by
  have hx := fx.1.1
  have hb := fx.1.2.1
  have hown := fx.1.2.2.2.1
  have hts := fx.1.2.2.2.2
  have n_24 : ∀ (H : Heap) (locs : List Loc) (ls : Array Slot), lv_has ls 4 [] → WD D cy ad s M H locs → f_X6_wrongTwo_24 M = some z → W p l e R s m args below meth c H locs 0 0 Q (F0 m 24 ls []) := by
    intro H locs ls hl hw hF
    unfold f_X6_wrongTwo_24 at hF
    refine lv_iconst (v := 1) hx hb dX6_wrongTwo_24 (by decide) ?_
    refine lv_goto (tgt := 38) hx hb dX6_wrongTwo_25 (by decide) ?_
    exact E _ _ _ _ _ dX6_wrongTwo_38 hw hF
  unfold f_X6_wrongTwo at hF
  refine lv_aload_n hx hb dX6_wrongTwo_0 rfl (lv_at hl 0 rfl) ?_
  refine lv_iload_n hx hb dX6_wrongTwo_1 rfl (lv_at hl 1 rfl) ?_
  obtain ⟨r7, hgr7, hF⟩ := st_bnd hF
  refine g_cz hw (g_runV (C := RX6) (As := [.int p1]) (rest := []) fx hw isO_9 rfl (c_X6_isMonk l x D cy ad p1 H.size M r7 hgr7) wd5_146 wd5_148 wd0_50 wd1_8 wd5_149 yd_X6_isMonk rfl rfl (Nat.le_of_ble_eq_true rfl) hl.1 ⟨Nat.le_trans (Nat.le_of_ble_eq_true rfl) hR.1, Nat.le_trans (Nat.le_of_ble_eq_true rfl) hR.2.1⟩ ⟨Nat.le_trans (Nat.le_of_ble_eq_true rfl) hR.2.2.1, Nat.le_trans (Nat.le_of_ble_eq_true rfl) hR.2.2.2⟩ dX6_wrongTwo_2) (fun H locs hbr7 hw => ?_)
  refine lv_if_eq (tgt := 24) hx hb dX6_wrongTwo_5 (by decide) (fun hc5 => ?_) (fun hc5 => ?_)
  · replace hF := st_t hc5 hF
    exact n_24 H locs ls (lv_sub hl [] rfl) hw hF
  · replace hF := st_f hc5 hF
    refine lv_aload_n hx hb dX6_wrongTwo_8 rfl (lv_at hl 0 rfl) ?_
    refine lv_iload_n hx hb dX6_wrongTwo_9 rfl (lv_at hl 2 rfl) ?_
    obtain ⟨r8, hgr8, hF⟩ := st_bnd hF
    refine g_cz hw (g_runV (C := RX6) (As := [.int p2]) (rest := []) fx hw isO_9 rfl (c_X6_isMonk l x D cy ad p2 H.size M r8 hgr8) wd5_146 wd5_148 wd0_50 wd1_8 wd5_149 yd_X6_isMonk rfl rfl (Nat.le_of_ble_eq_true rfl) hl.1 ⟨Nat.le_trans (Nat.le_of_ble_eq_true rfl) hR.1, Nat.le_trans (Nat.le_of_ble_eq_true rfl) hR.2.1⟩ ⟨Nat.le_trans (Nat.le_of_ble_eq_true rfl) hR.2.2.1, Nat.le_trans (Nat.le_of_ble_eq_true rfl) hR.2.2.2⟩ dX6_wrongTwo_10) (fun H locs hbr8 hw => ?_)
    refine lv_if_eq (tgt := 24) hx hb dX6_wrongTwo_13 (by decide) (fun hc13 => ?_) (fun hc13 => ?_)
    · replace hF := st_t hc13 hF
      exact n_24 H locs ls (lv_sub hl [] rfl) hw hF
    · replace hF := st_f hc13 hF
      refine lv_aload_n hx hb dX6_wrongTwo_16 rfl (lv_at hl 0 rfl) ?_
      refine lv_iload_n hx hb dX6_wrongTwo_17 rfl (lv_at hl 3 rfl) ?_
      obtain ⟨r9, hgr9, hF⟩ := st_bnd hF
      refine g_cz hw (g_runV (C := RX6) (As := [.int p3]) (rest := []) fx hw isO_9 rfl (c_X6_isNeed l x D cy ad p3 H.size M r9 hgr9) wd5_161 wd5_163 wd0_52 wd1_8 wd5_164 yd_X6_isNeed rfl rfl (Nat.le_of_ble_eq_true rfl) hl.1 ⟨Nat.le_trans (Nat.le_of_ble_eq_true rfl) hR.1, Nat.le_trans (Nat.le_of_ble_eq_true rfl) hR.2.1⟩ ⟨Nat.le_trans (Nat.le_of_ble_eq_true rfl) hR.2.2.1, Nat.le_trans (Nat.le_of_ble_eq_true rfl) hR.2.2.2⟩ dX6_wrongTwo_18) (fun H locs hbr9 hw => ?_)
      refine lv_if_ne (tgt := 28) hx hb dX6_wrongTwo_21 (by decide) (fun hc21 => ?_) (fun hc21 => ?_)
      · replace hF := st_f hc21 hF
        refine lv_iload_n hx hb dX6_wrongTwo_28 rfl (lv_at hl 1 rfl) ?_
        refine lv_iload_n hx hb dX6_wrongTwo_29 rfl (lv_at hl 2 rfl) ?_
        refine lv_icmp_ne (tgt := 37) hx hb dX6_wrongTwo_30 (by decide) (fun hc30 => ?_) (fun hc30 => ?_)
        · replace hF := st_f hc30 hF
          refine lv_iconst (v := 0) hx hb dX6_wrongTwo_37 (by decide) ?_
          exact E _ _ _ _ _ dX6_wrongTwo_38 hw hF
        · replace hF := st_t hc30 hF
          refine lv_iconst (v := 2) hx hb dX6_wrongTwo_33 (by decide) ?_
          refine lv_goto (tgt := 38) hx hb dX6_wrongTwo_34 (by decide) ?_
          exact E _ _ _ _ _ dX6_wrongTwo_38 hw hF
      · replace hF := st_t hc21 hF
        exact n_24 H locs ls (lv_sub hl [] rfl) hw hF
theorem c_X6_wrongTwo (l : Launch) (x : SX) (D : va_G) (cy : Nat → ClassId) (ad : Nat → Nat) (p1 p2 p3 : Int32) (sz : Nat) (M : Mem) (z : Int32) (hF : f_X6_wrongTwo p1 p2 p3 M = some z) : Met l yX6_wrongTwo (.code yX6_wrongTwo cX6_wrongTwo 4 (some .int) :: GB) ({ frames := 2, cells := 0, slots := 0, locals := 43 } : Room) (PcW D cy ad x sz M [.ref (ad 9), .int p1, .int p2, .int p3]) (QiW D cy ad sz z M) 0 0 (AA ad sz) := by
  refine mk_m (own := RX6) (by decide) rfl (Nat.le_of_ble_eq_true rfl) ?_
  intro p e s m args below meth c ls fx hw hl hsz
  subst hsz
  exact b_X6_wrongTwo fx ⟨Nat.le_refl _, Nat.le_refl _, Nat.le_refl _, Nat.le_refl _⟩ p1 p2 p3 M z hF (fun pc ls H locs v hd hw h => by cases h; exact g_iret fx hw rfl hd) _ _ ls hl hw
noncomputable def f_X6_why_82 : Int32 → Int32 → Int32 → Int32 → Int32 → Int32 → Mem → Option (Int32 × Mem) := fun a1 a2 a3 a4 a5 a6 M => (if a5 = 0 then (some (a6, M)) else (if a5 = 1 then (bnd (f_X6_cause a1 a2 a3 a4 a6 M) (fun r18 => (some (r18, M)))) else (bnd (f_X6_deep a1 a3 a6 M) (fun r17 => (some (r17, M))))))
noncomputable def f_X6_why_43 : Int32 → Int32 → Int32 → Int32 → Int32 → Mem → Option (Int32 × Mem) := fun a1 a2 a3 a4 a5 M => (if (M 9 6) ≤ 0 then (bnd (f_X6_reason a1 a2 a3 a4 M) (fun r19 => (if r19 = 0 then (if a4 = 2 then (bnd (f_X6_howSpoken a1 a3 M) (fun r20 => ((f_X6_why_82) a1 a2 a3 a4 a5 r20 M))) else ((f_X6_why_82) a1 a2 a3 a4 a5 r19 M)) else ((f_X6_why_82) a1 a2 a3 a4 a5 r19 M)))) else (some (0, M)))
noncomputable def f_X6_why_38 : Int32 → Int32 → Int32 → Int32 → Int32 → Mem → Option (Int32 × Mem) := fun a1 a2 a3 a4 a5 M => (letM (mput M 9 6 2) (fun M21 => ((f_X6_why_43) a1 a2 a3 a4 a5 M21)))
noncomputable def f_X6_why (p1 p2 p3 p4 p5 : Int32) (M : Mem) : Option (Int32 × Mem) := (bnd (f_X6_wrongTwo p1 p2 p3 M) (fun r22 => (letM (mput M 9 6 r22) (fun M23 => (if (M23 9 6) = 0 then (bnd (f_X6_isIn p4 0 2 M23) (fun r24 => (if r24 = 0 then ((f_X6_why_38) p1 p2 p3 p4 p5 M23) else (bnd (f_X6_isIn p5 0 2 M23) (fun r25 => (if r25 = 0 then ((f_X6_why_38) p1 p2 p3 p4 p5 M23) else ((f_X6_why_43) p1 p2 p3 p4 p5 M23))))))) else ((f_X6_why_43) p1 p2 p3 p4 p5 M23))))))
set_option maxHeartbeats 4000000 in
set_option maxRecDepth 100000 in
theorem b_X6_why {p : Program} {l : Launch} {e : Env} {R : Room} {s : State} {m : MethodId} {args : Array Value} {below : List Frame} {meth : Method} {c : Code} {Q : State → Prop} {D : va_G} {cy : Nat → ClassId} {ad : Nat → Nat} {x : SX} (fx : FX p s m args meth c cX6_why 7 (some .int) RX6 D cy ad x) (hR : 7 ≤ R.frames ∧ 155 ≤ R.locals ∧ 0 ≤ R.cells ∧ 0 ≤ R.slots) (p1 p2 p3 p4 p5 : Int32) (M : Mem) (z : Int32) (M' : Mem) (hF : f_X6_why p1 p2 p3 p4 p5 M = some (z, M')) (E : ∀ (pc : Nat) (ls : Array Slot) (H : Heap) (locs : List Loc) (v : Int32) (M1 : Mem), decode cX6_why pc = .ok (.ireturn, 1) → WD D cy ad s M1 H locs → some (v, M1) = some (z, M') → W p l e R s m args below meth c H locs 0 0 Q (F0 m pc ls [.int v])) (H : Heap) (locs : List Loc) (ls : Array Slot) (hl : lv_has ls 7 [(0, .ref (ad 9)), (1, .int p1), (2, .int p2), (3, .int p3), (4, .int p4), (5, .int p5)]) (hw : WD D cy ad s M H locs) : W p l e R s m args below meth c H locs 0 0 Q (F0 m 0 ls []) := by
  have hx := fx.1.1
  have hb := fx.1.2.1
  have hown := fx.1.2.2.2.1
  have hts := fx.1.2.2.2.2
  have n_82 : ∀ (a1 : Int32) (a2 : Int32) (a3 : Int32) (a4 : Int32) (a5 : Int32) (a6 : Int32) (M : Mem) (H : Heap) (locs : List Loc) (ls : Array Slot), lv_has ls 7 [(0, .ref (ad 9)), (1, .int a1), (2, .int a2), (3, .int a3), (4, .int a4), (5, .int a5), (6, .int a6)] → WD D cy ad s M H locs → f_X6_why_82 a1 a2 a3 a4 a5 a6 M = some (z, M') → W p l e R s m args below meth c H locs 0 0 Q (F0 m 82 ls []) := by
    intro a1 a2 a3 a4 a5 a6 M H locs ls hl hw hF
    unfold f_X6_why_82 at hF
    refine lv_iload hx hb dX6_why_82 (lv_at hl 5 rfl) ?_
    refine lv_if_ne (tgt := 92) hx hb dX6_why_84 (by decide) (fun hc84 => ?_) (fun hc84 => ?_)
    · replace hF := st_f hc84 hF
      refine lv_iload hx hb dX6_why_92 (lv_at hl 5 rfl) ?_
      refine lv_iconst (v := 1) hx hb dX6_why_94 (by decide) ?_
      refine lv_icmp_ne (tgt := 112) hx hb dX6_why_95 (by decide) (fun hc95 => ?_) (fun hc95 => ?_)
      · replace hF := st_f hc95 hF
        refine lv_aload_n hx hb dX6_why_112 rfl (lv_at hl 0 rfl) ?_
        refine lv_iload_n hx hb dX6_why_113 rfl (lv_at hl 1 rfl) ?_
        refine lv_iload_n hx hb dX6_why_114 rfl (lv_at hl 3 rfl) ?_
        refine lv_iload hx hb dX6_why_115 (lv_at hl 6 rfl) ?_
        obtain ⟨r17, hgr17, hF⟩ := st_bnd hF
        refine g_ci hw (g_runV (C := RX6) (As := [.int a1, .int a3, .int a6]) (rest := []) fx hw isO_9 rfl (c_X6_deep l x D cy ad a1 a3 a6 H.size M r17 hgr17) wd5_222 wd5_224 wd0_64 wd1_8 wd5_225 yd_X6_deep rfl rfl (Nat.le_of_ble_eq_true rfl) hl.1 ⟨Nat.le_trans (Nat.le_of_ble_eq_true rfl) hR.1, Nat.le_trans (Nat.le_of_ble_eq_true rfl) hR.2.1⟩ ⟨Nat.le_trans (Nat.le_of_ble_eq_true rfl) hR.2.2.1, Nat.le_trans (Nat.le_of_ble_eq_true rfl) hR.2.2.2⟩ dX6_why_117) (fun H locs hw => ?_)
        exact E _ _ _ _ _ _ dX6_why_120 hw hF
      · replace hF := st_t hc95 hF
        refine lv_aload_n hx hb dX6_why_98 rfl (lv_at hl 0 rfl) ?_
        refine lv_iload_n hx hb dX6_why_99 rfl (lv_at hl 1 rfl) ?_
        refine lv_iload_n hx hb dX6_why_100 rfl (lv_at hl 2 rfl) ?_
        refine lv_iload_n hx hb dX6_why_101 rfl (lv_at hl 3 rfl) ?_
        refine lv_iload hx hb dX6_why_102 (lv_at hl 4 rfl) ?_
        refine lv_iload hx hb dX6_why_104 (lv_at hl 6 rfl) ?_
        obtain ⟨r18, hgr18, hF⟩ := st_bnd hF
        refine g_ci hw (g_runV (C := RX6) (As := [.int a1, .int a2, .int a3, .int a4, .int a6]) (rest := []) fx hw isO_9 rfl (c_X6_cause l x D cy ad a1 a2 a3 a4 a6 H.size M r18 hgr18) wd5_218 wd5_220 wd0_63 wd1_8 wd5_221 yd_X6_cause rfl rfl (Nat.le_of_ble_eq_true rfl) hl.1 ⟨Nat.le_trans (Nat.le_of_ble_eq_true rfl) hR.1, Nat.le_trans (Nat.le_of_ble_eq_true rfl) hR.2.1⟩ ⟨Nat.le_trans (Nat.le_of_ble_eq_true rfl) hR.2.2.1, Nat.le_trans (Nat.le_of_ble_eq_true rfl) hR.2.2.2⟩ dX6_why_106) (fun H locs hw => ?_)
        refine lv_goto (tgt := 120) hx hb dX6_why_109 (by decide) ?_
        exact E _ _ _ _ _ _ dX6_why_120 hw hF
    · replace hF := st_t hc84 hF
      refine lv_iload hx hb dX6_why_87 (lv_at hl 6 rfl) ?_
      refine lv_goto (tgt := 120) hx hb dX6_why_89 (by decide) ?_
      exact E _ _ _ _ _ _ dX6_why_120 hw hF
  have n_43 : ∀ (a1 : Int32) (a2 : Int32) (a3 : Int32) (a4 : Int32) (a5 : Int32) (M : Mem) (H : Heap) (locs : List Loc) (ls : Array Slot), lv_has ls 7 [(0, .ref (ad 9)), (1, .int a1), (2, .int a2), (3, .int a3), (4, .int a4), (5, .int a5)] → WD D cy ad s M H locs → f_X6_why_43 a1 a2 a3 a4 a5 M = some (z, M') → W p l e R s m args below meth c H locs 0 0 Q (F0 m 43 ls []) := by
    intro a1 a2 a3 a4 a5 M H locs ls hl hw hF
    unfold f_X6_why_43 at hF
    refine lv_aload_n hx hb dX6_why_43 rfl (lv_at hl 0 rfl) ?_
    refine gX6_get fx hw isO_9 6 (by decide) wd5_25 rfl dX6_why_44 ?_
    refine lv_if_le (tgt := 52) hx hb dX6_why_47 (by decide) (fun hc47 => ?_) (fun hc47 => ?_)
    · replace hF := st_t hc47 hF
      refine lv_aload_n hx hb dX6_why_52 rfl (lv_at hl 0 rfl) ?_
      refine lv_iload_n hx hb dX6_why_53 rfl (lv_at hl 1 rfl) ?_
      refine lv_iload_n hx hb dX6_why_54 rfl (lv_at hl 2 rfl) ?_
      refine lv_iload_n hx hb dX6_why_55 rfl (lv_at hl 3 rfl) ?_
      refine lv_iload hx hb dX6_why_56 (lv_at hl 4 rfl) ?_
      obtain ⟨r19, hgr19, hF⟩ := st_bnd hF
      refine g_ci hw (g_runV (C := RX6) (As := [.int a1, .int a2, .int a3, .int a4]) (rest := []) fx hw isO_9 rfl (c_X6_reason l x D cy ad a1 a2 a3 a4 H.size M r19 hgr19) wd5_193 wd5_195 wd0_57 wd1_8 wd5_196 yd_X6_reason rfl rfl (Nat.le_of_ble_eq_true rfl) hl.1 ⟨Nat.le_trans (Nat.le_of_ble_eq_true rfl) hR.1, Nat.le_trans (Nat.le_of_ble_eq_true rfl) hR.2.1⟩ ⟨Nat.le_trans (Nat.le_of_ble_eq_true rfl) hR.2.2.1, Nat.le_trans (Nat.le_of_ble_eq_true rfl) hR.2.2.2⟩ dX6_why_58) (fun H locs hw => ?_)
      refine lv_istore (lv' := [(6, .int r19), (0, .ref (ad 9)), (1, .int a1), (2, .int a2), (3, .int a3), (4, .int a4), (5, .int a5)]) hx hb dX6_why_61 hl (by decide) rfl (fun ls hl => ?_)
      refine lv_iload hx hb dX6_why_63 (lv_at hl 0 rfl) ?_
      refine lv_if_ne (tgt := 82) hx hb dX6_why_65 (by decide) (fun hc65 => ?_) (fun hc65 => ?_)
      · replace hF := st_f hc65 hF
        exact n_82 a1 a2 a3 a4 a5 r19 M H locs ls (lv_sub hl [1, 2, 3, 4, 5, 6, 0] rfl) hw hF
      · replace hF := st_t hc65 hF
        refine lv_iload hx hb dX6_why_68 (lv_at hl 5 rfl) ?_
        refine lv_iconst (v := 2) hx hb dX6_why_70 (by decide) ?_
        refine lv_icmp_ne (tgt := 82) hx hb dX6_why_71 (by decide) (fun hc71 => ?_) (fun hc71 => ?_)
        · replace hF := st_f hc71 hF
          exact n_82 a1 a2 a3 a4 a5 r19 M H locs ls (lv_sub hl [1, 2, 3, 4, 5, 6, 0] rfl) hw hF
        · replace hF := st_t hc71 hF
          refine lv_aload_n hx hb dX6_why_74 rfl (lv_at hl 1 rfl) ?_
          refine lv_iload_n hx hb dX6_why_75 rfl (lv_at hl 2 rfl) ?_
          refine lv_iload_n hx hb dX6_why_76 rfl (lv_at hl 4 rfl) ?_
          obtain ⟨r20, hgr20, hF⟩ := st_bnd hF
          refine g_ci hw (g_runV (C := RX6) (As := [.int a1, .int a3]) (rest := []) fx hw isO_9 rfl (c_X6_howSpoken l x D cy ad a1 a3 H.size M r20 hgr20) wd5_214 wd5_216 wd0_62 wd1_8 wd5_217 yd_X6_howSpoken rfl rfl (Nat.le_of_ble_eq_true rfl) hl.1 ⟨Nat.le_trans (Nat.le_of_ble_eq_true rfl) hR.1, Nat.le_trans (Nat.le_of_ble_eq_true rfl) hR.2.1⟩ ⟨Nat.le_trans (Nat.le_of_ble_eq_true rfl) hR.2.2.1, Nat.le_trans (Nat.le_of_ble_eq_true rfl) hR.2.2.2⟩ dX6_why_77) (fun H locs hw => ?_)
          refine lv_istore (lv' := [(6, .int r20), (0, .ref (ad 9)), (1, .int a1), (2, .int a2), (3, .int a3), (4, .int a4), (5, .int a5)]) hx hb dX6_why_80 hl (by decide) rfl (fun ls hl => ?_)
          exact n_82 a1 a2 a3 a4 a5 r20 M H locs ls (lv_sub hl [1, 2, 3, 4, 5, 6, 0] rfl) hw hF
    · replace hF := st_f hc47 hF
      refine lv_iconst (v := 0) hx hb dX6_why_50 (by decide) ?_
      exact E _ _ _ _ _ _ dX6_why_51 hw hF
  have n_38 : ∀ (a1 : Int32) (a2 : Int32) (a3 : Int32) (a4 : Int32) (a5 : Int32) (M : Mem) (H : Heap) (locs : List Loc) (ls : Array Slot), lv_has ls 7 [(0, .ref (ad 9)), (1, .int a1), (2, .int a2), (3, .int a3), (4, .int a4), (5, .int a5)] → WD D cy ad s M H locs → f_X6_why_38 a1 a2 a3 a4 a5 M = some (z, M') → W p l e R s m args below meth c H locs 0 0 Q (F0 m 38 ls []) := by
    intro a1 a2 a3 a4 a5 M H locs ls hl hw hF
    unfold f_X6_why_38 at hF
    refine lv_aload_n hx hb dX6_why_38 rfl (lv_at hl 0 rfl) ?_
    refine lv_iconst (v := 2) hx hb dX6_why_39 (by decide) ?_
    obtain ⟨M21, eM21, hF⟩ := st_letM hF
    refine gX6_put fx hw isO_9 6 (by decide) wd5_25 rfl eM21 rfl (Nat.le_of_ble_eq_true rfl) dX6_why_40 (fun H locs hw => ?_)
    exact n_43 a1 a2 a3 a4 a5 M21 H locs ls (lv_sub hl [0, 1, 2, 3, 4, 5] rfl) hw hF
  unfold f_X6_why at hF
  refine lv_aload_n hx hb dX6_why_0 rfl (lv_at hl 0 rfl) ?_
  refine lv_aload_n hx hb dX6_why_1 rfl (lv_at hl 0 rfl) ?_
  refine lv_iload_n hx hb dX6_why_2 rfl (lv_at hl 1 rfl) ?_
  refine lv_iload_n hx hb dX6_why_3 rfl (lv_at hl 2 rfl) ?_
  refine lv_iload_n hx hb dX6_why_4 rfl (lv_at hl 3 rfl) ?_
  obtain ⟨r22, hgr22, hF⟩ := st_bnd hF
  refine g_ci hw (g_runV (C := RX6) (As := [.int p1, .int p2, .int p3]) (rest := [.ref (ad 9)]) fx hw isO_9 rfl (c_X6_wrongTwo l x D cy ad p1 p2 p3 H.size M r22 hgr22) wd5_189 wd5_191 wd0_56 wd1_8 wd5_192 yd_X6_wrongTwo rfl rfl (Nat.le_of_ble_eq_true rfl) hl.1 ⟨Nat.le_trans (Nat.le_of_ble_eq_true rfl) hR.1, Nat.le_trans (Nat.le_of_ble_eq_true rfl) hR.2.1⟩ ⟨Nat.le_trans (Nat.le_of_ble_eq_true rfl) hR.2.2.1, Nat.le_trans (Nat.le_of_ble_eq_true rfl) hR.2.2.2⟩ dX6_why_5) (fun H locs hw => ?_)
  obtain ⟨M23, eM23, hF⟩ := st_letM hF
  refine gX6_put fx hw isO_9 6 (by decide) wd5_25 rfl eM23 rfl (Nat.le_of_ble_eq_true rfl) dX6_why_8 (fun H locs hw => ?_)
  refine lv_aload_n hx hb dX6_why_11 rfl (lv_at hl 0 rfl) ?_
  refine gX6_get fx hw isO_9 6 (by decide) wd5_25 rfl dX6_why_12 ?_
  refine lv_if_ne (tgt := 43) hx hb dX6_why_15 (by decide) (fun hc15 => ?_) (fun hc15 => ?_)
  · replace hF := st_f hc15 hF
    exact n_43 p1 p2 p3 p4 p5 M23 H locs ls (lv_sub hl [0, 1, 2, 3, 4, 5] rfl) hw hF
  · replace hF := st_t hc15 hF
    refine lv_iload hx hb dX6_why_18 (lv_at hl 4 rfl) ?_
    refine lv_iconst (v := 0) hx hb dX6_why_20 (by decide) ?_
    refine lv_iconst (v := 2) hx hb dX6_why_21 (by decide) ?_
    obtain ⟨r24, hgr24, hF⟩ := st_bnd hF
    refine g_cz hw (g_runS (As := [.int p4, .int 0, .int 2]) (rest := []) fx hw (c_X6_isIn l x D cy ad p4 0 2 H.size M23 r24 hgr24) wd5_92 wd5_93 wd1_8 wd5_94 yd_X6_isIn rfl rfl (Nat.le_of_ble_eq_true rfl) hl.1 ⟨Nat.le_trans (Nat.le_of_ble_eq_true rfl) hR.1, Nat.le_trans (Nat.le_of_ble_eq_true rfl) hR.2.1⟩ ⟨Nat.le_trans (Nat.le_of_ble_eq_true rfl) hR.2.2.1, Nat.le_trans (Nat.le_of_ble_eq_true rfl) hR.2.2.2⟩ dX6_why_22) (fun H locs hbr24 hw => ?_)
    refine lv_if_eq (tgt := 38) hx hb dX6_why_25 (by decide) (fun hc25 => ?_) (fun hc25 => ?_)
    · replace hF := st_t hc25 hF
      exact n_38 p1 p2 p3 p4 p5 M23 H locs ls (lv_sub hl [0, 1, 2, 3, 4, 5] rfl) hw hF
    · replace hF := st_f hc25 hF
      refine lv_iload hx hb dX6_why_28 (lv_at hl 5 rfl) ?_
      refine lv_iconst (v := 0) hx hb dX6_why_30 (by decide) ?_
      refine lv_iconst (v := 2) hx hb dX6_why_31 (by decide) ?_
      obtain ⟨r25, hgr25, hF⟩ := st_bnd hF
      refine g_cz hw (g_runS (As := [.int p5, .int 0, .int 2]) (rest := []) fx hw (c_X6_isIn l x D cy ad p5 0 2 H.size M23 r25 hgr25) wd5_92 wd5_93 wd1_8 wd5_94 yd_X6_isIn rfl rfl (Nat.le_of_ble_eq_true rfl) hl.1 ⟨Nat.le_trans (Nat.le_of_ble_eq_true rfl) hR.1, Nat.le_trans (Nat.le_of_ble_eq_true rfl) hR.2.1⟩ ⟨Nat.le_trans (Nat.le_of_ble_eq_true rfl) hR.2.2.1, Nat.le_trans (Nat.le_of_ble_eq_true rfl) hR.2.2.2⟩ dX6_why_32) (fun H locs hbr25 hw => ?_)
      refine lv_if_ne (tgt := 43) hx hb dX6_why_35 (by decide) (fun hc35 => ?_) (fun hc35 => ?_)
      · replace hF := st_f hc35 hF
        exact n_43 p1 p2 p3 p4 p5 M23 H locs ls (lv_sub hl [0, 1, 2, 3, 4, 5] rfl) hw hF
      · replace hF := st_t hc35 hF
        exact n_38 p1 p2 p3 p4 p5 M23 H locs ls (lv_sub hl [0, 1, 2, 3, 4, 5] rfl) hw hF
theorem c_X6_why (l : Launch) (x : SX) (D : va_G) (cy : Nat → ClassId) (ad : Nat → Nat) (p1 p2 p3 p4 p5 : Int32) (sz : Nat) (M : Mem) (z : Int32) (M' : Mem) (hF : f_X6_why p1 p2 p3 p4 p5 M = some (z, M')) : Met l yX6_why (.code yX6_why cX6_why 7 (some .int) :: GB) ({ frames := 7, cells := 0, slots := 0, locals := 155 } : Room) (PcW D cy ad x sz M [.ref (ad 9), .int p1, .int p2, .int p3, .int p4, .int p5]) (QiW D cy ad sz z M') 0 0 (AA ad sz) := by
  refine mk_m (own := RX6) (by decide) rfl (Nat.le_of_ble_eq_true rfl) ?_
  intro p e s m args below meth c ls fx hw hl hsz
  subst hsz
  exact b_X6_why fx ⟨Nat.le_refl _, Nat.le_refl _, Nat.le_refl _, Nat.le_refl _⟩ p1 p2 p3 p4 p5 M z M' hF (fun pc ls H locs v M1 hd hw h => by cases h; exact g_iret fx hw rfl hd) _ _ ls hl hw
noncomputable def f_X6_spoken (M : Mem) : Option Int32 := (some (((M 10 10) + (M 10 11)) + (M 10 12)))
set_option maxHeartbeats 4000000 in
set_option maxRecDepth 100000 in
theorem b_X6_spoken {p : Program} {l : Launch} {e : Env} {R : Room} {s : State} {m : MethodId} {args : Array Value} {below : List Frame} {meth : Method} {c : Code} {Q : State → Prop} {D : va_G} {cy : Nat → ClassId} {ad : Nat → Nat} {x : SX} (fx : FX p s m args meth c cX6_spoken 1 (some .int) RX6 D cy ad x) (hR : 0 ≤ R.frames ∧ 0 ≤ R.locals ∧ 0 ≤ R.cells ∧ 0 ≤ R.slots) (M : Mem) (z : Int32) (hF : f_X6_spoken M = some z) (E : ∀ (pc : Nat) (ls : Array Slot) (H : Heap) (locs : List Loc) (v : Int32), decode cX6_spoken pc = .ok (.ireturn, 1) → WD D cy ad s M H locs → some v = some z → W p l e R s m args below meth c H locs 0 0 Q (F0 m pc ls [.int v])) (H : Heap) (locs : List Loc) (ls : Array Slot) (hl : lv_has ls 1 [(0, .ref (ad 9))]) (hw : WD D cy ad s M H locs) : W p l e R s m args below meth c H locs 0 0 Q (F0 m 0 ls []) := by
  have hx := fx.1.1
  have hb := fx.1.2.1
  have hown := fx.1.2.2.2.1
  have hts := fx.1.2.2.2.2
  unfold f_X6_spoken at hF
  refine lv_aload_n hx hb dX6_spoken_0 rfl (lv_at hl 0 rfl) ?_
  refine gX6_get fx hw isO_9 0 (by decide) wd5_19 rfl dX6_spoken_1 ?_
  refine lv_bipush (v := 10) hx hb dX6_spoken_4 (by decide) ?_
  refine g_ialdc fx hw isA_10 (k := 10) rfl (by decide) dX6_spoken_6 ?_
  refine lv_aload_n hx hb dX6_spoken_7 rfl (lv_at hl 0 rfl) ?_
  refine gX6_get fx hw isO_9 0 (by decide) wd5_19 rfl dX6_spoken_8 ?_
  refine lv_bipush (v := 11) hx hb dX6_spoken_11 (by decide) ?_
  refine g_ialdc fx hw isA_10 (k := 11) rfl (by decide) dX6_spoken_13 ?_
  refine lv_iadd hx hb dX6_spoken_14 ?_
  refine lv_aload_n hx hb dX6_spoken_15 rfl (lv_at hl 0 rfl) ?_
  refine gX6_get fx hw isO_9 0 (by decide) wd5_19 rfl dX6_spoken_16 ?_
  refine lv_bipush (v := 12) hx hb dX6_spoken_19 (by decide) ?_
  refine g_ialdc fx hw isA_10 (k := 12) rfl (by decide) dX6_spoken_21 ?_
  refine lv_iadd hx hb dX6_spoken_22 ?_
  exact E _ _ _ _ _ dX6_spoken_23 hw hF
theorem c_X6_spoken (l : Launch) (x : SX) (D : va_G) (cy : Nat → ClassId) (ad : Nat → Nat) (sz : Nat) (M : Mem) (z : Int32) (hF : f_X6_spoken M = some z) : Met l yX6_spoken (.code yX6_spoken cX6_spoken 1 (some .int) :: GB) ({ frames := 0, cells := 0, slots := 0, locals := 0 } : Room) (PcW D cy ad x sz M [.ref (ad 9)]) (QiW D cy ad sz z M) 0 0 (AA ad sz) := by
  refine mk_m (own := RX6) (by decide) rfl (Nat.le_of_ble_eq_true rfl) ?_
  intro p e s m args below meth c ls fx hw hl hsz
  subst hsz
  exact b_X6_spoken fx ⟨Nat.le_refl _, Nat.le_refl _, Nat.le_refl _, Nat.le_refl _⟩ M z hF (fun pc ls H locs v hd hw h => by cases h; exact g_iret fx hw rfl hd) _ _ ls hl hw
noncomputable def f_X6_gap (M : Mem) : Option (Int32 × Mem) := (letM (mput M 9 6 0) (fun M5 => (bnd (f_X6_spoken M5) (fun r6 => (bnd (f_X6_sum 5 M5) (fun r7 => (bnd (f_X6_sum 4 M5) (fun r8 => (some (((((((r6 - (M5 10 5)) + (((M5 10 14) - (M5 10 15)) - r7)) + (M5 10 16)) - (M5 10 11)) - (M5 10 17)) - r8), M5))))))))))
set_option maxHeartbeats 4000000 in
set_option maxRecDepth 100000 in
theorem b_X6_gap {p : Program} {l : Launch} {e : Env} {R : Room} {s : State} {m : MethodId} {args : Array Value} {below : List Frame} {meth : Method} {c : Code} {Q : State → Prop} {D : va_G} {cy : Nat → ClassId} {ad : Nat → Nat} {x : SX} (fx : FX p s m args meth c cX6_gap 2 (some .int) RX6 D cy ad x) (hR : 2 ≤ R.frames ∧ 44 ≤ R.locals ∧ 0 ≤ R.cells ∧ 0 ≤ R.slots) (M : Mem) (z : Int32) (M' : Mem) (hF : f_X6_gap M = some (z, M')) (E : ∀ (pc : Nat) (ls : Array Slot) (H : Heap) (locs : List Loc) (v : Int32) (M1 : Mem), decode cX6_gap pc = .ok (.ireturn, 1) → WD D cy ad s M1 H locs → some (v, M1) = some (z, M') → W p l e R s m args below meth c H locs 0 0 Q (F0 m pc ls [.int v])) (H : Heap) (locs : List Loc) (ls : Array Slot) (hl : lv_has ls 2 [(0, .ref (ad 9))]) (hw : WD D cy ad s M H locs) : W p l e R s m args below meth c H locs 0 0 Q (F0 m 0 ls []) := by
  have hx := fx.1.1
  have hb := fx.1.2.1
  have hown := fx.1.2.2.2.1
  have hts := fx.1.2.2.2.2
  unfold f_X6_gap at hF
  refine lv_aload_n hx hb dX6_gap_0 rfl (lv_at hl 0 rfl) ?_
  refine lv_iconst (v := 0) hx hb dX6_gap_1 (by decide) ?_
  obtain ⟨M5, eM5, hF⟩ := st_letM hF
  refine gX6_put fx hw isO_9 6 (by decide) wd5_25 rfl eM5 rfl (Nat.le_of_ble_eq_true rfl) dX6_gap_2 (fun H locs hw => ?_)
  refine lv_aload_n hx hb dX6_gap_5 rfl (lv_at hl 0 rfl) ?_
  obtain ⟨r6, hgr6, hF⟩ := st_bnd hF
  refine g_ci hw (g_runV (C := RX6) (As := []) (rest := []) fx hw isO_9 rfl (c_X6_spoken l x D cy ad H.size M5 r6 hgr6) wd5_230 wd5_232 wd0_65 wd1_8 wd5_233 yd_X6_spoken rfl rfl (Nat.le_of_ble_eq_true rfl) hl.1 ⟨Nat.le_trans (Nat.le_of_ble_eq_true rfl) hR.1, Nat.le_trans (Nat.le_of_ble_eq_true rfl) hR.2.1⟩ ⟨Nat.le_trans (Nat.le_of_ble_eq_true rfl) hR.2.2.1, Nat.le_trans (Nat.le_of_ble_eq_true rfl) hR.2.2.2⟩ dX6_gap_6) (fun H locs hw => ?_)
  refine lv_aload_n hx hb dX6_gap_9 rfl (lv_at hl 0 rfl) ?_
  refine gX6_get fx hw isO_9 0 (by decide) wd5_19 rfl dX6_gap_10 ?_
  refine lv_iconst (v := 5) hx hb dX6_gap_13 (by decide) ?_
  refine g_ialdc fx hw isA_10 (k := 5) rfl (by decide) dX6_gap_14 ?_
  refine lv_isub hx hb dX6_gap_15 ?_
  refine lv_istore_n (lv' := [(1, .int (r6 - (M5 10 5))), (0, .ref (ad 9))]) hx hb dX6_gap_16 rfl hl (by decide) rfl (fun ls hl => ?_)
  refine lv_iload_n hx hb dX6_gap_17 rfl (lv_at hl 0 rfl) ?_
  refine lv_aload_n hx hb dX6_gap_18 rfl (lv_at hl 1 rfl) ?_
  refine gX6_get fx hw isO_9 0 (by decide) wd5_19 rfl dX6_gap_19 ?_
  refine lv_bipush (v := 14) hx hb dX6_gap_22 (by decide) ?_
  refine g_ialdc fx hw isA_10 (k := 14) rfl (by decide) dX6_gap_24 ?_
  refine lv_aload_n hx hb dX6_gap_25 rfl (lv_at hl 1 rfl) ?_
  refine gX6_get fx hw isO_9 0 (by decide) wd5_19 rfl dX6_gap_26 ?_
  refine lv_bipush (v := 15) hx hb dX6_gap_29 (by decide) ?_
  refine g_ialdc fx hw isA_10 (k := 15) rfl (by decide) dX6_gap_31 ?_
  refine lv_isub hx hb dX6_gap_32 ?_
  refine lv_aload_n hx hb dX6_gap_33 rfl (lv_at hl 1 rfl) ?_
  refine lv_iconst (v := 5) hx hb dX6_gap_34 (by decide) ?_
  obtain ⟨r7, hgr7, hF⟩ := st_bnd hF
  refine g_ci hw (g_runV (C := RX6) (As := [.int 5]) (rest := [.int ((M5 10 14) - (M5 10 15)), .int (r6 - (M5 10 5))]) fx hw isO_9 rfl (c_X6_sum l x D cy ad 5 H.size M5 r7 hgr7) wd5_134 wd5_136 wd0_49 wd1_8 wd5_137 yd_X6_sum rfl rfl (Nat.le_of_ble_eq_true rfl) hl.1 ⟨Nat.le_trans (Nat.le_of_ble_eq_true rfl) hR.1, Nat.le_trans (Nat.le_of_ble_eq_true rfl) hR.2.1⟩ ⟨Nat.le_trans (Nat.le_of_ble_eq_true rfl) hR.2.2.1, Nat.le_trans (Nat.le_of_ble_eq_true rfl) hR.2.2.2⟩ dX6_gap_35) (fun H locs hw => ?_)
  refine lv_isub hx hb dX6_gap_38 ?_
  refine lv_iadd hx hb dX6_gap_39 ?_
  refine lv_istore_n (lv' := [(1, .int ((r6 - (M5 10 5)) + (((M5 10 14) - (M5 10 15)) - r7))), (0, .ref (ad 9))]) hx hb dX6_gap_40 rfl hl (by decide) rfl (fun ls hl => ?_)
  refine lv_iload_n hx hb dX6_gap_41 rfl (lv_at hl 0 rfl) ?_
  refine lv_aload_n hx hb dX6_gap_42 rfl (lv_at hl 1 rfl) ?_
  refine gX6_get fx hw isO_9 0 (by decide) wd5_19 rfl dX6_gap_43 ?_
  refine lv_bipush (v := 16) hx hb dX6_gap_46 (by decide) ?_
  refine g_ialdc fx hw isA_10 (k := 16) rfl (by decide) dX6_gap_48 ?_
  refine lv_iadd hx hb dX6_gap_49 ?_
  refine lv_aload_n hx hb dX6_gap_50 rfl (lv_at hl 1 rfl) ?_
  refine gX6_get fx hw isO_9 0 (by decide) wd5_19 rfl dX6_gap_51 ?_
  refine lv_bipush (v := 11) hx hb dX6_gap_54 (by decide) ?_
  refine g_ialdc fx hw isA_10 (k := 11) rfl (by decide) dX6_gap_56 ?_
  refine lv_isub hx hb dX6_gap_57 ?_
  refine lv_aload_n hx hb dX6_gap_58 rfl (lv_at hl 1 rfl) ?_
  refine gX6_get fx hw isO_9 0 (by decide) wd5_19 rfl dX6_gap_59 ?_
  refine lv_bipush (v := 17) hx hb dX6_gap_62 (by decide) ?_
  refine g_ialdc fx hw isA_10 (k := 17) rfl (by decide) dX6_gap_64 ?_
  refine lv_isub hx hb dX6_gap_65 ?_
  refine lv_aload_n hx hb dX6_gap_66 rfl (lv_at hl 1 rfl) ?_
  refine lv_iconst (v := 4) hx hb dX6_gap_67 (by decide) ?_
  obtain ⟨r8, hgr8, hF⟩ := st_bnd hF
  refine g_ci hw (g_runV (C := RX6) (As := [.int 4]) (rest := [.int (((((r6 - (M5 10 5)) + (((M5 10 14) - (M5 10 15)) - r7)) + (M5 10 16)) - (M5 10 11)) - (M5 10 17))]) fx hw isO_9 rfl (c_X6_sum l x D cy ad 4 H.size M5 r8 hgr8) wd5_134 wd5_136 wd0_49 wd1_8 wd5_137 yd_X6_sum rfl rfl (Nat.le_of_ble_eq_true rfl) hl.1 ⟨Nat.le_trans (Nat.le_of_ble_eq_true rfl) hR.1, Nat.le_trans (Nat.le_of_ble_eq_true rfl) hR.2.1⟩ ⟨Nat.le_trans (Nat.le_of_ble_eq_true rfl) hR.2.2.1, Nat.le_trans (Nat.le_of_ble_eq_true rfl) hR.2.2.2⟩ dX6_gap_68) (fun H locs hw => ?_)
  refine lv_isub hx hb dX6_gap_71 ?_
  exact E _ _ _ _ _ _ dX6_gap_72 hw hF
theorem c_X6_gap (l : Launch) (x : SX) (D : va_G) (cy : Nat → ClassId) (ad : Nat → Nat) (sz : Nat) (M : Mem) (z : Int32) (M' : Mem) (hF : f_X6_gap M = some (z, M')) : Met l yX6_gap (.code yX6_gap cX6_gap 2 (some .int) :: GB) ({ frames := 2, cells := 0, slots := 0, locals := 44 } : Room) (PcW D cy ad x sz M [.ref (ad 9)]) (QiW D cy ad sz z M') 0 0 (AA ad sz) := by
  refine mk_m (own := RX6) (by decide) rfl (Nat.le_of_ble_eq_true rfl) ?_
  intro p e s m args below meth c ls fx hw hl hsz
  subst hsz
  exact b_X6_gap fx ⟨Nat.le_refl _, Nat.le_refl _, Nat.le_refl _, Nat.le_refl _⟩ M z M' hF (fun pc ls H locs v M1 hd hw h => by cases h; exact g_iret fx hw rfl hd) _ _ ls hl hw
noncomputable def f_X6_isAhead (p1 p2 : Int32) (M : Mem) : Option Int32 := (bnd (f_X6_mo p1 5 M) (fun r17 => (chk (inB r17 156) (bnd (f_X6_mo p2 5 M) (fun r19 => (chk (inB r19 156) (if (M 10 (ix r17)) = (M 10 (ix r19)) then (bnd (f_X6_mo p1 4 M) (fun r21 => (chk (inB r21 156) (bnd (f_X6_mo p2 4 M) (fun r23 => (chk (inB r23 156) (if (M 10 (ix r21)) = (M 10 (ix r23)) then (if p2 ≤ p1 then (some 0) else (some 1)) else (bnd (f_X6_mo p1 4 M) (fun r25 => (chk (inB r25 156) (bnd (f_X6_mo p2 4 M) (fun r27 => (chk (inB r27 156) (if (M 10 (ix r25)) ≤ (M 10 (ix r27)) then (some 0) else (some 1))))))))))))))) else (bnd (f_X6_mo p1 5 M) (fun r29 => (chk (inB r29 156) (bnd (f_X6_mo p2 5 M) (fun r31 => (chk (inB r31 156) (if (M 10 (ix r29)) ≤ (M 10 (ix r31)) then (some 0) else (some 1)))))))))))))))
set_option maxHeartbeats 4000000 in
set_option maxRecDepth 100000 in
theorem b_X6_isAhead {p : Program} {l : Launch} {e : Env} {R : Room} {s : State} {m : MethodId} {args : Array Value} {below : List Frame} {meth : Method} {c : Code} {Q : State → Prop} {D : va_G} {cy : Nat → ClassId} {ad : Nat → Nat} {x : SX} (fx : FX p s m args meth c cX6_isAhead 3 (some .boolean) RX6 D cy ad x) (hR : 1 ≤ R.frames ∧ 21 ≤ R.locals ∧ 0 ≤ R.cells ∧ 0 ≤ R.slots) (p1 p2 : Int32) (M : Mem) (z : Int32) (hF : f_X6_isAhead p1 p2 M = some z) (E : ∀ (pc : Nat) (ls : Array Slot) (H : Heap) (locs : List Loc) (v : Int32), decode cX6_isAhead pc = .ok (.ireturn, 1) → (v = 0 ∨ v = 1) → WD D cy ad s M H locs → some v = some z → W p l e R s m args below meth c H locs 0 0 Q (F0 m pc ls [.int v])) (H : Heap) (locs : List Loc) (ls : Array Slot) (hl : lv_has ls 3 [(0, .ref (ad 9)), (1, .int p1), (2, .int p2)]) (hw : WD D cy ad s M H locs) : W p l e R s m args below meth c H locs 0 0 Q (F0 m 0 ls []) := by
  have hx := fx.1.1
  have hb := fx.1.2.1
  have hown := fx.1.2.2.2.1
  have hts := fx.1.2.2.2.2
  unfold f_X6_isAhead at hF
  refine lv_aload_n hx hb dX6_isAhead_0 rfl (lv_at hl 0 rfl) ?_
  refine gX6_get fx hw isO_9 0 (by decide) wd5_19 rfl dX6_isAhead_1 ?_
  refine lv_iload_n hx hb dX6_isAhead_4 rfl (lv_at hl 1 rfl) ?_
  refine lv_iconst (v := 5) hx hb dX6_isAhead_5 (by decide) ?_
  obtain ⟨r17, hgr17, hF⟩ := st_bnd hF
  refine g_ci hw (g_runS (As := [.int p1, .int 5]) (rest := [.ref (ad 10)]) fx hw (c_X6_mo l x D cy ad p1 5 H.size M r17 hgr17) wd5_16 wd5_17 wd1_8 wd5_18 yd_X6_mo rfl rfl (Nat.le_of_ble_eq_true rfl) hl.1 ⟨Nat.le_trans (Nat.le_of_ble_eq_true rfl) hR.1, Nat.le_trans (Nat.le_of_ble_eq_true rfl) hR.2.1⟩ ⟨Nat.le_trans (Nat.le_of_ble_eq_true rfl) hR.2.2.1, Nat.le_trans (Nat.le_of_ble_eq_true rfl) hR.2.2.2⟩ dX6_isAhead_6) (fun H locs hw => ?_)
  obtain ⟨hi18, hF⟩ := st_chk hF
  refine g_iald fx hw isA_10 hi18 dX6_isAhead_9 ?_
  refine lv_aload_n hx hb dX6_isAhead_10 rfl (lv_at hl 0 rfl) ?_
  refine gX6_get fx hw isO_9 0 (by decide) wd5_19 rfl dX6_isAhead_11 ?_
  refine lv_iload_n hx hb dX6_isAhead_14 rfl (lv_at hl 2 rfl) ?_
  refine lv_iconst (v := 5) hx hb dX6_isAhead_15 (by decide) ?_
  obtain ⟨r19, hgr19, hF⟩ := st_bnd hF
  refine g_ci hw (g_runS (As := [.int p2, .int 5]) (rest := [.ref (ad 10), .int (M 10 (ix r17))]) fx hw (c_X6_mo l x D cy ad p2 5 H.size M r19 hgr19) wd5_16 wd5_17 wd1_8 wd5_18 yd_X6_mo rfl rfl (Nat.le_of_ble_eq_true rfl) hl.1 ⟨Nat.le_trans (Nat.le_of_ble_eq_true rfl) hR.1, Nat.le_trans (Nat.le_of_ble_eq_true rfl) hR.2.1⟩ ⟨Nat.le_trans (Nat.le_of_ble_eq_true rfl) hR.2.2.1, Nat.le_trans (Nat.le_of_ble_eq_true rfl) hR.2.2.2⟩ dX6_isAhead_16) (fun H locs hw => ?_)
  obtain ⟨hi20, hF⟩ := st_chk hF
  refine g_iald fx hw isA_10 hi20 dX6_isAhead_19 ?_
  refine lv_icmp_eq (tgt := 52) hx hb dX6_isAhead_20 (by decide) (fun hc20 => ?_) (fun hc20 => ?_)
  · replace hF := st_t hc20 hF
    refine lv_aload_n hx hb dX6_isAhead_52 rfl (lv_at hl 0 rfl) ?_
    refine gX6_get fx hw isO_9 0 (by decide) wd5_19 rfl dX6_isAhead_53 ?_
    refine lv_iload_n hx hb dX6_isAhead_56 rfl (lv_at hl 1 rfl) ?_
    refine lv_iconst (v := 4) hx hb dX6_isAhead_57 (by decide) ?_
    obtain ⟨r21, hgr21, hF⟩ := st_bnd hF
    refine g_ci hw (g_runS (As := [.int p1, .int 4]) (rest := [.ref (ad 10)]) fx hw (c_X6_mo l x D cy ad p1 4 H.size M r21 hgr21) wd5_16 wd5_17 wd1_8 wd5_18 yd_X6_mo rfl rfl (Nat.le_of_ble_eq_true rfl) hl.1 ⟨Nat.le_trans (Nat.le_of_ble_eq_true rfl) hR.1, Nat.le_trans (Nat.le_of_ble_eq_true rfl) hR.2.1⟩ ⟨Nat.le_trans (Nat.le_of_ble_eq_true rfl) hR.2.2.1, Nat.le_trans (Nat.le_of_ble_eq_true rfl) hR.2.2.2⟩ dX6_isAhead_58) (fun H locs hw => ?_)
    obtain ⟨hi22, hF⟩ := st_chk hF
    refine g_iald fx hw isA_10 hi22 dX6_isAhead_61 ?_
    refine lv_aload_n hx hb dX6_isAhead_62 rfl (lv_at hl 0 rfl) ?_
    refine gX6_get fx hw isO_9 0 (by decide) wd5_19 rfl dX6_isAhead_63 ?_
    refine lv_iload_n hx hb dX6_isAhead_66 rfl (lv_at hl 2 rfl) ?_
    refine lv_iconst (v := 4) hx hb dX6_isAhead_67 (by decide) ?_
    obtain ⟨r23, hgr23, hF⟩ := st_bnd hF
    refine g_ci hw (g_runS (As := [.int p2, .int 4]) (rest := [.ref (ad 10), .int (M 10 (ix r21))]) fx hw (c_X6_mo l x D cy ad p2 4 H.size M r23 hgr23) wd5_16 wd5_17 wd1_8 wd5_18 yd_X6_mo rfl rfl (Nat.le_of_ble_eq_true rfl) hl.1 ⟨Nat.le_trans (Nat.le_of_ble_eq_true rfl) hR.1, Nat.le_trans (Nat.le_of_ble_eq_true rfl) hR.2.1⟩ ⟨Nat.le_trans (Nat.le_of_ble_eq_true rfl) hR.2.2.1, Nat.le_trans (Nat.le_of_ble_eq_true rfl) hR.2.2.2⟩ dX6_isAhead_68) (fun H locs hw => ?_)
    obtain ⟨hi24, hF⟩ := st_chk hF
    refine g_iald fx hw isA_10 hi24 dX6_isAhead_71 ?_
    refine lv_icmp_eq (tgt := 106) hx hb dX6_isAhead_72 (by decide) (fun hc72 => ?_) (fun hc72 => ?_)
    · replace hF := st_t hc72 hF
      refine lv_iload_n hx hb dX6_isAhead_106 rfl (lv_at hl 1 rfl) ?_
      refine lv_iload_n hx hb dX6_isAhead_107 rfl (lv_at hl 2 rfl) ?_
      refine lv_icmp_ge (tgt := 115) hx hb dX6_isAhead_108 (by decide) (fun hc108 => ?_) (fun hc108 => ?_)
      · replace hF := st_t hc108 hF
        refine lv_iconst (v := 0) hx hb dX6_isAhead_115 (by decide) ?_
        exact E _ _ _ _ _ dX6_isAhead_116 (Or.inl rfl) hw hF
      · replace hF := st_f hc108 hF
        refine lv_iconst (v := 1) hx hb dX6_isAhead_111 (by decide) ?_
        refine lv_goto (tgt := 116) hx hb dX6_isAhead_112 (by decide) ?_
        exact E _ _ _ _ _ dX6_isAhead_116 (Or.inr rfl) hw hF
    · replace hF := st_f hc72 hF
      refine lv_aload_n hx hb dX6_isAhead_75 rfl (lv_at hl 0 rfl) ?_
      refine gX6_get fx hw isO_9 0 (by decide) wd5_19 rfl dX6_isAhead_76 ?_
      refine lv_iload_n hx hb dX6_isAhead_79 rfl (lv_at hl 1 rfl) ?_
      refine lv_iconst (v := 4) hx hb dX6_isAhead_80 (by decide) ?_
      obtain ⟨r25, hgr25, hF⟩ := st_bnd hF
      refine g_ci hw (g_runS (As := [.int p1, .int 4]) (rest := [.ref (ad 10)]) fx hw (c_X6_mo l x D cy ad p1 4 H.size M r25 hgr25) wd5_16 wd5_17 wd1_8 wd5_18 yd_X6_mo rfl rfl (Nat.le_of_ble_eq_true rfl) hl.1 ⟨Nat.le_trans (Nat.le_of_ble_eq_true rfl) hR.1, Nat.le_trans (Nat.le_of_ble_eq_true rfl) hR.2.1⟩ ⟨Nat.le_trans (Nat.le_of_ble_eq_true rfl) hR.2.2.1, Nat.le_trans (Nat.le_of_ble_eq_true rfl) hR.2.2.2⟩ dX6_isAhead_81) (fun H locs hw => ?_)
      obtain ⟨hi26, hF⟩ := st_chk hF
      refine g_iald fx hw isA_10 hi26 dX6_isAhead_84 ?_
      refine lv_aload_n hx hb dX6_isAhead_85 rfl (lv_at hl 0 rfl) ?_
      refine gX6_get fx hw isO_9 0 (by decide) wd5_19 rfl dX6_isAhead_86 ?_
      refine lv_iload_n hx hb dX6_isAhead_89 rfl (lv_at hl 2 rfl) ?_
      refine lv_iconst (v := 4) hx hb dX6_isAhead_90 (by decide) ?_
      obtain ⟨r27, hgr27, hF⟩ := st_bnd hF
      refine g_ci hw (g_runS (As := [.int p2, .int 4]) (rest := [.ref (ad 10), .int (M 10 (ix r25))]) fx hw (c_X6_mo l x D cy ad p2 4 H.size M r27 hgr27) wd5_16 wd5_17 wd1_8 wd5_18 yd_X6_mo rfl rfl (Nat.le_of_ble_eq_true rfl) hl.1 ⟨Nat.le_trans (Nat.le_of_ble_eq_true rfl) hR.1, Nat.le_trans (Nat.le_of_ble_eq_true rfl) hR.2.1⟩ ⟨Nat.le_trans (Nat.le_of_ble_eq_true rfl) hR.2.2.1, Nat.le_trans (Nat.le_of_ble_eq_true rfl) hR.2.2.2⟩ dX6_isAhead_91) (fun H locs hw => ?_)
      obtain ⟨hi28, hF⟩ := st_chk hF
      refine g_iald fx hw isA_10 hi28 dX6_isAhead_94 ?_
      refine lv_icmp_le (tgt := 102) hx hb dX6_isAhead_95 (by decide) (fun hc95 => ?_) (fun hc95 => ?_)
      · replace hF := st_t hc95 hF
        refine lv_iconst (v := 0) hx hb dX6_isAhead_102 (by decide) ?_
        refine lv_goto (tgt := 116) hx hb dX6_isAhead_103 (by decide) ?_
        exact E _ _ _ _ _ dX6_isAhead_116 (Or.inl rfl) hw hF
      · replace hF := st_f hc95 hF
        refine lv_iconst (v := 1) hx hb dX6_isAhead_98 (by decide) ?_
        refine lv_goto (tgt := 116) hx hb dX6_isAhead_99 (by decide) ?_
        exact E _ _ _ _ _ dX6_isAhead_116 (Or.inr rfl) hw hF
  · replace hF := st_f hc20 hF
    refine lv_aload_n hx hb dX6_isAhead_23 rfl (lv_at hl 0 rfl) ?_
    refine gX6_get fx hw isO_9 0 (by decide) wd5_19 rfl dX6_isAhead_24 ?_
    refine lv_iload_n hx hb dX6_isAhead_27 rfl (lv_at hl 1 rfl) ?_
    refine lv_iconst (v := 5) hx hb dX6_isAhead_28 (by decide) ?_
    obtain ⟨r29, hgr29, hF⟩ := st_bnd hF
    refine g_ci hw (g_runS (As := [.int p1, .int 5]) (rest := [.ref (ad 10)]) fx hw (c_X6_mo l x D cy ad p1 5 H.size M r29 hgr29) wd5_16 wd5_17 wd1_8 wd5_18 yd_X6_mo rfl rfl (Nat.le_of_ble_eq_true rfl) hl.1 ⟨Nat.le_trans (Nat.le_of_ble_eq_true rfl) hR.1, Nat.le_trans (Nat.le_of_ble_eq_true rfl) hR.2.1⟩ ⟨Nat.le_trans (Nat.le_of_ble_eq_true rfl) hR.2.2.1, Nat.le_trans (Nat.le_of_ble_eq_true rfl) hR.2.2.2⟩ dX6_isAhead_29) (fun H locs hw => ?_)
    obtain ⟨hi30, hF⟩ := st_chk hF
    refine g_iald fx hw isA_10 hi30 dX6_isAhead_32 ?_
    refine lv_aload_n hx hb dX6_isAhead_33 rfl (lv_at hl 0 rfl) ?_
    refine gX6_get fx hw isO_9 0 (by decide) wd5_19 rfl dX6_isAhead_34 ?_
    refine lv_iload_n hx hb dX6_isAhead_37 rfl (lv_at hl 2 rfl) ?_
    refine lv_iconst (v := 5) hx hb dX6_isAhead_38 (by decide) ?_
    obtain ⟨r31, hgr31, hF⟩ := st_bnd hF
    refine g_ci hw (g_runS (As := [.int p2, .int 5]) (rest := [.ref (ad 10), .int (M 10 (ix r29))]) fx hw (c_X6_mo l x D cy ad p2 5 H.size M r31 hgr31) wd5_16 wd5_17 wd1_8 wd5_18 yd_X6_mo rfl rfl (Nat.le_of_ble_eq_true rfl) hl.1 ⟨Nat.le_trans (Nat.le_of_ble_eq_true rfl) hR.1, Nat.le_trans (Nat.le_of_ble_eq_true rfl) hR.2.1⟩ ⟨Nat.le_trans (Nat.le_of_ble_eq_true rfl) hR.2.2.1, Nat.le_trans (Nat.le_of_ble_eq_true rfl) hR.2.2.2⟩ dX6_isAhead_39) (fun H locs hw => ?_)
    obtain ⟨hi32, hF⟩ := st_chk hF
    refine g_iald fx hw isA_10 hi32 dX6_isAhead_42 ?_
    refine lv_icmp_le (tgt := 50) hx hb dX6_isAhead_43 (by decide) (fun hc43 => ?_) (fun hc43 => ?_)
    · replace hF := st_t hc43 hF
      refine lv_iconst (v := 0) hx hb dX6_isAhead_50 (by decide) ?_
      exact E _ _ _ _ _ dX6_isAhead_51 (Or.inl rfl) hw hF
    · replace hF := st_f hc43 hF
      refine lv_iconst (v := 1) hx hb dX6_isAhead_46 (by decide) ?_
      refine lv_goto (tgt := 51) hx hb dX6_isAhead_47 (by decide) ?_
      exact E _ _ _ _ _ dX6_isAhead_51 (Or.inr rfl) hw hF
theorem c_X6_isAhead (l : Launch) (x : SX) (D : va_G) (cy : Nat → ClassId) (ad : Nat → Nat) (p1 p2 : Int32) (sz : Nat) (M : Mem) (z : Int32) (hF : f_X6_isAhead p1 p2 M = some z) : Met l yX6_isAhead (.code yX6_isAhead cX6_isAhead 3 (some .boolean) :: GB) ({ frames := 1, cells := 0, slots := 0, locals := 21 } : Room) (PcW D cy ad x sz M [.ref (ad 9), .int p1, .int p2]) (QzW D cy ad sz z M) 0 0 (AA ad sz) := by
  refine mk_m (own := RX6) (by decide) rfl (Nat.le_of_ble_eq_true rfl) ?_
  intro p e s m args below meth c ls fx hw hl hsz
  subst hsz
  exact b_X6_isAhead fx ⟨Nat.le_refl _, Nat.le_refl _, Nat.le_refl _, Nat.le_refl _⟩ p1 p2 M z hF (fun pc ls H locs v hd hb hw h => by cases h; exact g_zret fx hw rfl hb hd) _ _ ls hl hw
noncomputable def f_X6_ranked_49 (rec7 : Int32 → Int32 → Mem → Option (Int32 × Mem)) (rec22 : Int32 → Int32 → Int32 → Int32 → Mem → Option (Int32 × Mem)) : Int32 → Int32 → Int32 → Int32 → Int32 → Mem → Option (Int32 × Mem) := fun a1 a2 a4 t0 t1 M => (rec22 a1 a2 (t0 + t1) (a4 + 1) M)
noncomputable def f_X6_ranked_22 (rec7 : Int32 → Int32 → Mem → Option (Int32 × Mem)) (rec22 : Int32 → Int32 → Int32 → Int32 → Mem → Option (Int32 × Mem)) : Int32 → Int32 → Int32 → Int32 → Mem → Option (Int32 × Mem) := fun a1 a2 a3 a4 M => (if (M 10 0) ≤ a4 then (if a3 = a1 then (some (a2, M)) else (rec7 a1 (a2 + 1) M)) else (bnd (f_X6_isAhead a4 a2 M) (fun r6 => (if r6 = 0 then ((f_X6_ranked_49 rec7 rec22) a1 a2 a4 a3 0 M) else ((f_X6_ranked_49 rec7 rec22) a1 a2 a4 a3 1 M)))))
noncomputable def f_X6_ranked_7 (rec7 : Int32 → Int32 → Mem → Option (Int32 × Mem)) : Int32 → Int32 → Mem → Option (Int32 × Mem) := fun a1 a2 M => (if (M 10 0) ≤ a2 then (some ((-1), M)) else ((lp (fun _ _ _ _ _ => none) (f_X6_ranked_22 rec7) FU) a1 a2 0 0 M))
noncomputable def f_X6_ranked (p1 : Int32) (M : Mem) : Option (Int32 × Mem) := (letM (mput M 9 6 0) (fun M7 => ((lp (fun _ _ _ => none) (f_X6_ranked_7) FU) p1 0 M7)))
set_option maxHeartbeats 4000000 in
set_option maxRecDepth 100000 in
theorem b_X6_ranked {p : Program} {l : Launch} {e : Env} {R : Room} {s : State} {m : MethodId} {args : Array Value} {below : List Frame} {meth : Method} {c : Code} {Q : State → Prop} {D : va_G} {cy : Nat → ClassId} {ad : Nat → Nat} {x : SX} (fx : FX p s m args meth c cX6_ranked 5 (some .int) RX6 D cy ad x) (hR : 2 ≤ R.frames ∧ 43 ≤ R.locals ∧ 0 ≤ R.cells ∧ 0 ≤ R.slots) (p1 : Int32) (M : Mem) (z : Int32) (M' : Mem) (hF : f_X6_ranked p1 M = some (z, M')) (E : ∀ (pc : Nat) (ls : Array Slot) (H : Heap) (locs : List Loc) (v : Int32) (M1 : Mem), decode cX6_ranked pc = .ok (.ireturn, 1) → WD D cy ad s M1 H locs → some (v, M1) = some (z, M') → W p l e R s m args below meth c H locs 0 0 Q (F0 m pc ls [.int v])) (H : Heap) (locs : List Loc) (ls : Array Slot) (hl : lv_has ls 5 [(0, .ref (ad 9)), (1, .int p1)]) (hw : WD D cy ad s M H locs) : W p l e R s m args below meth c H locs 0 0 Q (F0 m 0 ls []) := by
  have hx := fx.1.1
  have hb := fx.1.2.1
  have hown := fx.1.2.2.2.1
  have hts := fx.1.2.2.2.2
  have n_49 : ∀ (rec7 : Int32 → Int32 → Mem → Option (Int32 × Mem)) (_ : ∀ (a1 : Int32) (a2 : Int32) (M : Mem) (H : Heap) (locs : List Loc) (ls : Array Slot), lv_has ls 5 [(0, .ref (ad 9)), (1, .int a1), (2, .int a2)] → WD D cy ad s M H locs → rec7 a1 a2 M = some (z, M') → W p l e R s m args below meth c H locs 0 0 Q (F0 m 7 ls [])) (rec22 : Int32 → Int32 → Int32 → Int32 → Mem → Option (Int32 × Mem)) (_ : ∀ (a1 : Int32) (a2 : Int32) (a3 : Int32) (a4 : Int32) (M : Mem) (H : Heap) (locs : List Loc) (ls : Array Slot), lv_has ls 5 [(0, .ref (ad 9)), (1, .int a1), (2, .int a2), (3, .int a3), (4, .int a4)] → WD D cy ad s M H locs → rec22 a1 a2 a3 a4 M = some (z, M') → W p l e R s m args below meth c H locs 0 0 Q (F0 m 22 ls [])) , ∀ (a1 : Int32) (a2 : Int32) (a4 : Int32) (t0 : Int32) (t1 : Int32) (M : Mem) (H : Heap) (locs : List Loc) (ls : Array Slot), lv_has ls 5 [(0, .ref (ad 9)), (1, .int a1), (2, .int a2), (4, .int a4)] → WD D cy ad s M H locs → f_X6_ranked_49 rec7 rec22 a1 a2 a4 t0 t1 M = some (z, M') → W p l e R s m args below meth c H locs 0 0 Q (F0 m 49 ls [.int t1, .int t0]) := by
    intro rec7 hr7 rec22 hr22 a1 a2 a4 t0 t1 M H locs ls hl hw hF
    unfold f_X6_ranked_49 at hF
    refine lv_iadd hx hb dX6_ranked_49 ?_
    refine lv_istore_n (lv' := [(3, .int (t0 + t1)), (0, .ref (ad 9)), (1, .int a1), (2, .int a2), (4, .int a4)]) hx hb dX6_ranked_50 rfl hl (by decide) rfl (fun ls hl => ?_)
    refine lv_iinc (v := (a4 + 1)) (lv' := [(4, .int (a4 + 1)), (3, .int (t0 + t1)), (0, .ref (ad 9)), (1, .int a1), (2, .int a2)]) hx hb dX6_ranked_51 hl (k := 4) rfl rfl (by decide) rfl (fun ls hl => ?_)
    refine lv_goto (tgt := 22) hx hb dX6_ranked_54 (by decide) ?_
    exact hr22 a1 a2 (t0 + t1) (a4 + 1) M H locs ls (lv_sub hl [2, 3, 4, 1, 0] rfl) hw hF
  have n_22 : ∀ (rec7 : Int32 → Int32 → Mem → Option (Int32 × Mem)) (_ : ∀ (a1 : Int32) (a2 : Int32) (M : Mem) (H : Heap) (locs : List Loc) (ls : Array Slot), lv_has ls 5 [(0, .ref (ad 9)), (1, .int a1), (2, .int a2)] → WD D cy ad s M H locs → rec7 a1 a2 M = some (z, M') → W p l e R s m args below meth c H locs 0 0 Q (F0 m 7 ls [])) (n9 : Nat), ∀ (a1 : Int32) (a2 : Int32) (a3 : Int32) (a4 : Int32) (M : Mem) (H : Heap) (locs : List Loc) (ls : Array Slot), lv_has ls 5 [(0, .ref (ad 9)), (1, .int a1), (2, .int a2), (3, .int a3), (4, .int a4)] → WD D cy ad s M H locs → (lp (fun _ _ _ _ _ => none) (f_X6_ranked_22 rec7) n9) a1 a2 a3 a4 M = some (z, M') → W p l e R s m args below meth c H locs 0 0 Q (F0 m 22 ls []) := by
    intro rec7 hr7 n9
    refine lp_ind (fun (rec22 : Int32 → Int32 → Int32 → Int32 → Mem → Option (Int32 × Mem)) => ∀ (a1 : Int32) (a2 : Int32) (a3 : Int32) (a4 : Int32) (M : Mem) (H : Heap) (locs : List Loc) (ls : Array Slot), lv_has ls 5 [(0, .ref (ad 9)), (1, .int a1), (2, .int a2), (3, .int a3), (4, .int a4)] → WD D cy ad s M H locs → rec22 a1 a2 a3 a4 M = some (z, M') → W p l e R s m args below meth c H locs 0 0 Q (F0 m 22 ls [])) ?_ ?_ n9
    · intro a1 a2 a3 a4 M H locs ls hl hw hF
      exact nomatch hF
    · intro rec22 hr22 a1 a2 a3 a4 M H locs ls hl hw hF
      unfold f_X6_ranked_22 at hF
      refine lv_iload hx hb dX6_ranked_22 (lv_at hl 4 rfl) ?_
      refine lv_aload_n hx hb dX6_ranked_24 rfl (lv_at hl 0 rfl) ?_
      refine gX6_get fx hw isO_9 0 (by decide) wd5_19 rfl dX6_ranked_25 ?_
      refine lv_iconst (v := 0) hx hb dX6_ranked_28 (by decide) ?_
      refine g_ialdc fx hw isA_10 (k := 0) rfl (by decide) dX6_ranked_29 ?_
      refine lv_icmp_ge (tgt := 57) hx hb dX6_ranked_30 (by decide) (fun hc30 => ?_) (fun hc30 => ?_)
      · replace hF := st_t hc30 hF
        refine lv_iload_n hx hb dX6_ranked_57 rfl (lv_at hl 3 rfl) ?_
        refine lv_iload_n hx hb dX6_ranked_58 rfl (lv_at hl 1 rfl) ?_
        refine lv_icmp_ne (tgt := 64) hx hb dX6_ranked_59 (by decide) (fun hc59 => ?_) (fun hc59 => ?_)
        · replace hF := st_f hc59 hF
          refine lv_iinc (v := (a2 + 1)) (lv' := [(2, .int (a2 + 1)), (0, .ref (ad 9)), (1, .int a1), (3, .int a3), (4, .int a4)]) hx hb dX6_ranked_64 hl (k := 2) rfl rfl (by decide) rfl (fun ls hl => ?_)
          refine lv_goto (tgt := 7) hx hb dX6_ranked_67 (by decide) ?_
          exact hr7 a1 (a2 + 1) M H locs ls (lv_sub hl [1, 2, 0] rfl) hw hF
        · replace hF := st_t hc59 hF
          refine lv_iload_n hx hb dX6_ranked_62 rfl (lv_at hl 2 rfl) ?_
          exact E _ _ _ _ _ _ dX6_ranked_63 hw hF
      · replace hF := st_f hc30 hF
        refine lv_iload_n hx hb dX6_ranked_33 rfl (lv_at hl 3 rfl) ?_
        refine lv_aload_n hx hb dX6_ranked_34 rfl (lv_at hl 0 rfl) ?_
        refine lv_iload hx hb dX6_ranked_35 (lv_at hl 4 rfl) ?_
        refine lv_iload_n hx hb dX6_ranked_37 rfl (lv_at hl 2 rfl) ?_
        obtain ⟨r6, hgr6, hF⟩ := st_bnd hF
        refine g_cz hw (g_runV (C := RX6) (As := [.int a4, .int a2]) (rest := [.int a3]) fx hw isO_9 rfl (c_X6_isAhead l x D cy ad a4 a2 H.size M r6 hgr6) wd6_6 wd6_8 wd0_66 wd1_8 wd6_9 yd_X6_isAhead rfl rfl (Nat.le_of_ble_eq_true rfl) hl.1 ⟨Nat.le_trans (Nat.le_of_ble_eq_true rfl) hR.1, Nat.le_trans (Nat.le_of_ble_eq_true rfl) hR.2.1⟩ ⟨Nat.le_trans (Nat.le_of_ble_eq_true rfl) hR.2.2.1, Nat.le_trans (Nat.le_of_ble_eq_true rfl) hR.2.2.2⟩ dX6_ranked_38) (fun H locs hbr6 hw => ?_)
        refine lv_if_eq (tgt := 48) hx hb dX6_ranked_41 (by decide) (fun hc41 => ?_) (fun hc41 => ?_)
        · replace hF := st_t hc41 hF
          refine lv_iconst (v := 0) hx hb dX6_ranked_48 (by decide) ?_
          exact n_49 rec7 hr7 rec22 hr22 a1 a2 a4 a3 0 M H locs ls (lv_sub hl [0, 1, 2, 4] rfl) hw hF
        · replace hF := st_f hc41 hF
          refine lv_iconst (v := 1) hx hb dX6_ranked_44 (by decide) ?_
          refine lv_goto (tgt := 49) hx hb dX6_ranked_45 (by decide) ?_
          exact n_49 rec7 hr7 rec22 hr22 a1 a2 a4 a3 1 M H locs ls (lv_sub hl [0, 1, 2, 4] rfl) hw hF
  have n_7 : ∀ (n9 : Nat), ∀ (a1 : Int32) (a2 : Int32) (M : Mem) (H : Heap) (locs : List Loc) (ls : Array Slot), lv_has ls 5 [(0, .ref (ad 9)), (1, .int a1), (2, .int a2)] → WD D cy ad s M H locs → (lp (fun _ _ _ => none) (f_X6_ranked_7) n9) a1 a2 M = some (z, M') → W p l e R s m args below meth c H locs 0 0 Q (F0 m 7 ls []) := by
    intro n9
    refine lp_ind (fun (rec7 : Int32 → Int32 → Mem → Option (Int32 × Mem)) => ∀ (a1 : Int32) (a2 : Int32) (M : Mem) (H : Heap) (locs : List Loc) (ls : Array Slot), lv_has ls 5 [(0, .ref (ad 9)), (1, .int a1), (2, .int a2)] → WD D cy ad s M H locs → rec7 a1 a2 M = some (z, M') → W p l e R s m args below meth c H locs 0 0 Q (F0 m 7 ls [])) ?_ ?_ n9
    · intro a1 a2 M H locs ls hl hw hF
      exact nomatch hF
    · intro rec7 hr7 a1 a2 M H locs ls hl hw hF
      unfold f_X6_ranked_7 at hF
      refine lv_iload_n hx hb dX6_ranked_7 rfl (lv_at hl 2 rfl) ?_
      refine lv_aload_n hx hb dX6_ranked_8 rfl (lv_at hl 0 rfl) ?_
      refine gX6_get fx hw isO_9 0 (by decide) wd5_19 rfl dX6_ranked_9 ?_
      refine lv_iconst (v := 0) hx hb dX6_ranked_12 (by decide) ?_
      refine g_ialdc fx hw isA_10 (k := 0) rfl (by decide) dX6_ranked_13 ?_
      refine lv_icmp_ge (tgt := 70) hx hb dX6_ranked_14 (by decide) (fun hc14 => ?_) (fun hc14 => ?_)
      · replace hF := st_t hc14 hF
        refine lv_iconst (v := (-1)) hx hb dX6_ranked_70 (by decide) ?_
        exact E _ _ _ _ _ _ dX6_ranked_71 hw hF
      · replace hF := st_f hc14 hF
        refine lv_iconst (v := 0) hx hb dX6_ranked_17 (by decide) ?_
        refine lv_istore_n (lv' := [(3, .int 0), (0, .ref (ad 9)), (1, .int a1), (2, .int a2)]) hx hb dX6_ranked_18 rfl hl (by decide) rfl (fun ls hl => ?_)
        refine lv_iconst (v := 0) hx hb dX6_ranked_19 (by decide) ?_
        refine lv_istore (lv' := [(4, .int 0), (3, .int 0), (0, .ref (ad 9)), (1, .int a1), (2, .int a2)]) hx hb dX6_ranked_20 hl (by decide) rfl (fun ls hl => ?_)
        exact n_22 rec7 hr7 FU a1 a2 0 0 M H locs ls (lv_sub hl [2, 3, 4, 1, 0] rfl) hw hF
  unfold f_X6_ranked at hF
  refine lv_aload_n hx hb dX6_ranked_0 rfl (lv_at hl 0 rfl) ?_
  refine lv_iconst (v := 0) hx hb dX6_ranked_1 (by decide) ?_
  obtain ⟨M7, eM7, hF⟩ := st_letM hF
  refine gX6_put fx hw isO_9 6 (by decide) wd5_25 rfl eM7 rfl (Nat.le_of_ble_eq_true rfl) dX6_ranked_2 (fun H locs hw => ?_)
  refine lv_iconst (v := 0) hx hb dX6_ranked_5 (by decide) ?_
  refine lv_istore_n (lv' := [(2, .int 0), (0, .ref (ad 9)), (1, .int p1)]) hx hb dX6_ranked_6 rfl hl (by decide) rfl (fun ls hl => ?_)
  exact n_7 FU p1 0 M7 H locs ls (lv_sub hl [1, 2, 0] rfl) hw hF
theorem c_X6_ranked (l : Launch) (x : SX) (D : va_G) (cy : Nat → ClassId) (ad : Nat → Nat) (p1 : Int32) (sz : Nat) (M : Mem) (z : Int32) (M' : Mem) (hF : f_X6_ranked p1 M = some (z, M')) : Met l yX6_ranked (.code yX6_ranked cX6_ranked 5 (some .int) :: GB) ({ frames := 2, cells := 0, slots := 0, locals := 43 } : Room) (PcW D cy ad x sz M [.ref (ad 9), .int p1]) (QiW D cy ad sz z M') 0 0 (AA ad sz) := by
  refine mk_m (own := RX6) (by decide) rfl (Nat.le_of_ble_eq_true rfl) ?_
  intro p e s m args below meth c ls fx hw hl hsz
  subst hsz
  exact b_X6_ranked fx ⟨Nat.le_refl _, Nat.le_refl _, Nat.le_refl _, Nat.le_refl _⟩ p1 M z M' hF (fun pc ls H locs v M1 hd hw h => by cases h; exact g_iret fx hw rfl hd) _ _ ls hl hw
noncomputable def f_X6_costOf (p1 p2 p3 : Int32) (M : Mem) : Option Int32 := (if p3 = 0 then (some 0) else (if p3 = 1 then (bnd (f_X6_pagesOf p1 p2 M) (fun r6 => (some (3 * r6)))) else (bnd (f_X6_daysOf p1 p2 M) (fun r4 => (bnd (f_X6_byLeave p1 p2 M) (fun r5 => (some ((10 * r4) + r5))))))))
set_option maxHeartbeats 4000000 in
set_option maxRecDepth 100000 in
theorem b_X6_costOf {p : Program} {l : Launch} {e : Env} {R : Room} {s : State} {m : MethodId} {args : Array Value} {below : List Frame} {meth : Method} {c : Code} {Q : State → Prop} {D : va_G} {cy : Nat → ClassId} {ad : Nat → Nat} {x : SX} (fx : FX p s m args meth c cX6_costOf 4 (some .int) RX6 D cy ad x) (hR : 6 ≤ R.frames ∧ 131 ≤ R.locals ∧ 0 ≤ R.cells ∧ 0 ≤ R.slots) (p1 p2 p3 : Int32) (M : Mem) (z : Int32) (hF : f_X6_costOf p1 p2 p3 M = some z) (E : ∀ (pc : Nat) (ls : Array Slot) (H : Heap) (locs : List Loc) (v : Int32), decode cX6_costOf pc = .ok (.ireturn, 1) → WD D cy ad s M H locs → some v = some z → W p l e R s m args below meth c H locs 0 0 Q (F0 m pc ls [.int v])) (H : Heap) (locs : List Loc) (ls : Array Slot) (hl : lv_has ls 4 [(0, .ref (ad 9)), (1, .int p1), (2, .int p2), (3, .int p3)]) (hw : WD D cy ad s M H locs) : W p l e R s m args below meth c H locs 0 0 Q (F0 m 0 ls []) := by
  have hx := fx.1.1
  have hb := fx.1.2.1
  have hown := fx.1.2.2.2.1
  have hts := fx.1.2.2.2.2
  unfold f_X6_costOf at hF
  refine lv_iload_n hx hb dX6_costOf_0 rfl (lv_at hl 3 rfl) ?_
  refine lv_if_ne (tgt := 8) hx hb dX6_costOf_1 (by decide) (fun hc1 => ?_) (fun hc1 => ?_)
  · replace hF := st_f hc1 hF
    refine lv_iload_n hx hb dX6_costOf_8 rfl (lv_at hl 3 rfl) ?_
    refine lv_iconst (v := 1) hx hb dX6_costOf_9 (by decide) ?_
    refine lv_icmp_ne (tgt := 24) hx hb dX6_costOf_10 (by decide) (fun hc10 => ?_) (fun hc10 => ?_)
    · replace hF := st_f hc10 hF
      refine lv_bipush (v := 10) hx hb dX6_costOf_24 (by decide) ?_
      refine lv_aload_n hx hb dX6_costOf_26 rfl (lv_at hl 0 rfl) ?_
      refine lv_iload_n hx hb dX6_costOf_27 rfl (lv_at hl 1 rfl) ?_
      refine lv_iload_n hx hb dX6_costOf_28 rfl (lv_at hl 2 rfl) ?_
      obtain ⟨r4, hgr4, hF⟩ := st_bnd hF
      refine g_ci hw (g_runV (C := RX6) (As := [.int p1, .int p2]) (rest := [.int 10]) fx hw isO_9 rfl (c_X6_daysOf l x D cy ad p1 p2 H.size M r4 hgr4) wd5_201 wd5_203 wd0_59 wd1_8 wd5_204 yd_X6_daysOf rfl rfl (Nat.le_of_ble_eq_true rfl) hl.1 ⟨Nat.le_trans (Nat.le_of_ble_eq_true rfl) hR.1, Nat.le_trans (Nat.le_of_ble_eq_true rfl) hR.2.1⟩ ⟨Nat.le_trans (Nat.le_of_ble_eq_true rfl) hR.2.2.1, Nat.le_trans (Nat.le_of_ble_eq_true rfl) hR.2.2.2⟩ dX6_costOf_29) (fun H locs hw => ?_)
      refine lv_imul hx hb dX6_costOf_32 ?_
      refine lv_aload_n hx hb dX6_costOf_33 rfl (lv_at hl 0 rfl) ?_
      refine lv_iload_n hx hb dX6_costOf_34 rfl (lv_at hl 1 rfl) ?_
      refine lv_iload_n hx hb dX6_costOf_35 rfl (lv_at hl 2 rfl) ?_
      obtain ⟨r5, hgr5, hF⟩ := st_bnd hF
      refine g_ci hw (g_runV (C := RX6) (As := [.int p1, .int p2]) (rest := [.int (10 * r4)]) fx hw isO_9 rfl (c_X6_byLeave l x D cy ad p1 p2 H.size M r5 hgr5) wd5_209 wd5_211 wd0_61 wd1_8 wd5_212 yd_X6_byLeave rfl rfl (Nat.le_of_ble_eq_true rfl) hl.1 ⟨Nat.le_trans (Nat.le_of_ble_eq_true rfl) hR.1, Nat.le_trans (Nat.le_of_ble_eq_true rfl) hR.2.1⟩ ⟨Nat.le_trans (Nat.le_of_ble_eq_true rfl) hR.2.2.1, Nat.le_trans (Nat.le_of_ble_eq_true rfl) hR.2.2.2⟩ dX6_costOf_36) (fun H locs hw => ?_)
      refine lv_iadd hx hb dX6_costOf_39 ?_
      exact E _ _ _ _ _ dX6_costOf_40 hw hF
    · replace hF := st_t hc10 hF
      refine lv_iconst (v := 3) hx hb dX6_costOf_13 (by decide) ?_
      refine lv_aload_n hx hb dX6_costOf_14 rfl (lv_at hl 0 rfl) ?_
      refine lv_iload_n hx hb dX6_costOf_15 rfl (lv_at hl 1 rfl) ?_
      refine lv_iload_n hx hb dX6_costOf_16 rfl (lv_at hl 2 rfl) ?_
      obtain ⟨r6, hgr6, hF⟩ := st_bnd hF
      refine g_ci hw (g_runV (C := RX6) (As := [.int p1, .int p2]) (rest := [.int 3]) fx hw isO_9 rfl (c_X6_pagesOf l x D cy ad p1 p2 H.size M r6 hgr6) wd5_197 wd5_199 wd0_58 wd1_8 wd5_200 yd_X6_pagesOf rfl rfl (Nat.le_of_ble_eq_true rfl) hl.1 ⟨Nat.le_trans (Nat.le_of_ble_eq_true rfl) hR.1, Nat.le_trans (Nat.le_of_ble_eq_true rfl) hR.2.1⟩ ⟨Nat.le_trans (Nat.le_of_ble_eq_true rfl) hR.2.2.1, Nat.le_trans (Nat.le_of_ble_eq_true rfl) hR.2.2.2⟩ dX6_costOf_17) (fun H locs hw => ?_)
      refine lv_imul hx hb dX6_costOf_20 ?_
      refine lv_goto (tgt := 40) hx hb dX6_costOf_21 (by decide) ?_
      exact E _ _ _ _ _ dX6_costOf_40 hw hF
  · replace hF := st_t hc1 hF
    refine lv_iconst (v := 0) hx hb dX6_costOf_4 (by decide) ?_
    refine lv_goto (tgt := 40) hx hb dX6_costOf_5 (by decide) ?_
    exact E _ _ _ _ _ dX6_costOf_40 hw hF
theorem c_X6_costOf (l : Launch) (x : SX) (D : va_G) (cy : Nat → ClassId) (ad : Nat → Nat) (p1 p2 p3 : Int32) (sz : Nat) (M : Mem) (z : Int32) (hF : f_X6_costOf p1 p2 p3 M = some z) : Met l yX6_costOf (.code yX6_costOf cX6_costOf 4 (some .int) :: GB) ({ frames := 6, cells := 0, slots := 0, locals := 131 } : Room) (PcW D cy ad x sz M [.ref (ad 9), .int p1, .int p2, .int p3]) (QiW D cy ad sz z M) 0 0 (AA ad sz) := by
  refine mk_m (own := RX6) (by decide) rfl (Nat.le_of_ble_eq_true rfl) ?_
  intro p e s m args below meth c ls fx hw hl hsz
  subst hsz
  exact b_X6_costOf fx ⟨Nat.le_refl _, Nat.le_refl _, Nat.le_refl _, Nat.le_refl _⟩ p1 p2 p3 M z hF (fun pc ls H locs v hd hw h => by cases h; exact g_iret fx hw rfl hd) _ _ ls hl hw
noncomputable def f_X6_bestWay_76 (rec26 : Int32 → Int32 → Int32 → Int32 → Int32 → Mem → Option (Int32 × Mem)) : Int32 → Int32 → Int32 → Int32 → Int32 → Mem → Option (Int32 × Mem) := fun a1 a2 a3 a4 a5 M => (rec26 a1 a2 a3 a4 (a5 + 1) M)
noncomputable def f_X6_bestWay_72 (rec26 : Int32 → Int32 → Int32 → Int32 → Int32 → Mem → Option (Int32 × Mem)) : Int32 → Int32 → Int32 → Int32 → Mem → Option (Int32 × Mem) := fun a1 a2 a3 a5 M => ((f_X6_bestWay_76 rec26) a1 a2 a3 a5 a5 M)
noncomputable def f_X6_bestWay_26 (rec26 : Int32 → Int32 → Int32 → Int32 → Int32 → Mem → Option (Int32 × Mem)) : Int32 → Int32 → Int32 → Int32 → Int32 → Mem → Option (Int32 × Mem) := fun a1 a2 a3 a4 a5 M => (if 2 < a5 then (some (a4, M)) else (bnd (f_X6_reason a1 a2 a3 a5 M) (fun r11 => (if r11 = 0 then (if a4 = (-1) then ((f_X6_bestWay_72 rec26) a1 a2 a3 a5 M) else (bnd (f_X6_costOf a1 a3 a5 M) (fun r12 => (bnd (f_X6_costOf a1 a3 a4 M) (fun r13 => (if r13 ≤ r12 then ((f_X6_bestWay_76 rec26) a1 a2 a3 a4 a5 M) else ((f_X6_bestWay_72 rec26) a1 a2 a3 a5 M))))))) else ((f_X6_bestWay_76 rec26) a1 a2 a3 a4 a5 M)))))
noncomputable def f_X6_bestWay (p1 p2 p3 : Int32) (M : Mem) : Option (Int32 × Mem) := (bnd (f_X6_wrongTwo p1 p2 p3 M) (fun r14 => (letM (mput M 9 6 r14) (fun M15 => (if (M15 9 6) ≤ 0 then ((lp (fun _ _ _ _ _ _ => none) (f_X6_bestWay_26) FU) p1 p2 p3 (-1) 0 M15) else (some (0, M15)))))))
set_option maxHeartbeats 4000000 in
set_option maxRecDepth 100000 in
theorem b_X6_bestWay {p : Program} {l : Launch} {e : Env} {R : Room} {s : State} {m : MethodId} {args : Array Value} {below : List Frame} {meth : Method} {c : Code} {Q : State → Prop} {D : va_G} {cy : Nat → ClassId} {ad : Nat → Nat} {x : SX} (fx : FX p s m args meth c cX6_bestWay 6 (some .int) RX6 D cy ad x) (hR : 7 ≤ R.frames ∧ 155 ≤ R.locals ∧ 0 ≤ R.cells ∧ 0 ≤ R.slots) (p1 p2 p3 : Int32) (M : Mem) (z : Int32) (M' : Mem) (hF : f_X6_bestWay p1 p2 p3 M = some (z, M')) (E : ∀ (pc : Nat) (ls : Array Slot) (H : Heap) (locs : List Loc) (v : Int32) (M1 : Mem), decode cX6_bestWay pc = .ok (.ireturn, 1) → WD D cy ad s M1 H locs → some (v, M1) = some (z, M') → W p l e R s m args below meth c H locs 0 0 Q (F0 m pc ls [.int v])) (H : Heap) (locs : List Loc) (ls : Array Slot) (hl : lv_has ls 6 [(0, .ref (ad 9)), (1, .int p1), (2, .int p2), (3, .int p3)]) (hw : WD D cy ad s M H locs) : W p l e R s m args below meth c H locs 0 0 Q (F0 m 0 ls []) := by
  have hx := fx.1.1
  have hb := fx.1.2.1
  have hown := fx.1.2.2.2.1
  have hts := fx.1.2.2.2.2
  have n_76 : ∀ (rec26 : Int32 → Int32 → Int32 → Int32 → Int32 → Mem → Option (Int32 × Mem)) (_ : ∀ (a1 : Int32) (a2 : Int32) (a3 : Int32) (a4 : Int32) (a5 : Int32) (M : Mem) (H : Heap) (locs : List Loc) (ls : Array Slot), lv_has ls 6 [(0, .ref (ad 9)), (1, .int a1), (2, .int a2), (3, .int a3), (4, .int a4), (5, .int a5)] → WD D cy ad s M H locs → rec26 a1 a2 a3 a4 a5 M = some (z, M') → W p l e R s m args below meth c H locs 0 0 Q (F0 m 26 ls [])) , ∀ (a1 : Int32) (a2 : Int32) (a3 : Int32) (a4 : Int32) (a5 : Int32) (M : Mem) (H : Heap) (locs : List Loc) (ls : Array Slot), lv_has ls 6 [(0, .ref (ad 9)), (1, .int a1), (2, .int a2), (3, .int a3), (4, .int a4), (5, .int a5)] → WD D cy ad s M H locs → f_X6_bestWay_76 rec26 a1 a2 a3 a4 a5 M = some (z, M') → W p l e R s m args below meth c H locs 0 0 Q (F0 m 76 ls []) := by
    intro rec26 hr26 a1 a2 a3 a4 a5 M H locs ls hl hw hF
    unfold f_X6_bestWay_76 at hF
    refine lv_iinc (v := (a5 + 1)) (lv' := [(5, .int (a5 + 1)), (0, .ref (ad 9)), (1, .int a1), (2, .int a2), (3, .int a3), (4, .int a4)]) hx hb dX6_bestWay_76 hl (k := 5) rfl rfl (by decide) rfl (fun ls hl => ?_)
    refine lv_goto (tgt := 26) hx hb dX6_bestWay_79 (by decide) ?_
    exact hr26 a1 a2 a3 a4 (a5 + 1) M H locs ls (lv_sub hl [1, 2, 3, 4, 5, 0] rfl) hw hF
  have n_72 : ∀ (rec26 : Int32 → Int32 → Int32 → Int32 → Int32 → Mem → Option (Int32 × Mem)) (_ : ∀ (a1 : Int32) (a2 : Int32) (a3 : Int32) (a4 : Int32) (a5 : Int32) (M : Mem) (H : Heap) (locs : List Loc) (ls : Array Slot), lv_has ls 6 [(0, .ref (ad 9)), (1, .int a1), (2, .int a2), (3, .int a3), (4, .int a4), (5, .int a5)] → WD D cy ad s M H locs → rec26 a1 a2 a3 a4 a5 M = some (z, M') → W p l e R s m args below meth c H locs 0 0 Q (F0 m 26 ls [])) , ∀ (a1 : Int32) (a2 : Int32) (a3 : Int32) (a5 : Int32) (M : Mem) (H : Heap) (locs : List Loc) (ls : Array Slot), lv_has ls 6 [(0, .ref (ad 9)), (1, .int a1), (2, .int a2), (3, .int a3), (5, .int a5)] → WD D cy ad s M H locs → f_X6_bestWay_72 rec26 a1 a2 a3 a5 M = some (z, M') → W p l e R s m args below meth c H locs 0 0 Q (F0 m 72 ls []) := by
    intro rec26 hr26 a1 a2 a3 a5 M H locs ls hl hw hF
    unfold f_X6_bestWay_72 at hF
    refine lv_iload hx hb dX6_bestWay_72 (lv_at hl 4 rfl) ?_
    refine lv_istore (lv' := [(4, .int a5), (0, .ref (ad 9)), (1, .int a1), (2, .int a2), (3, .int a3), (5, .int a5)]) hx hb dX6_bestWay_74 hl (by decide) rfl (fun ls hl => ?_)
    exact n_76 rec26 hr26 a1 a2 a3 a5 a5 M H locs ls (lv_sub hl [1, 2, 3, 4, 0, 5] rfl) hw hF
  have n_26 : ∀ (n9 : Nat), ∀ (a1 : Int32) (a2 : Int32) (a3 : Int32) (a4 : Int32) (a5 : Int32) (M : Mem) (H : Heap) (locs : List Loc) (ls : Array Slot), lv_has ls 6 [(0, .ref (ad 9)), (1, .int a1), (2, .int a2), (3, .int a3), (4, .int a4), (5, .int a5)] → WD D cy ad s M H locs → (lp (fun _ _ _ _ _ _ => none) (f_X6_bestWay_26) n9) a1 a2 a3 a4 a5 M = some (z, M') → W p l e R s m args below meth c H locs 0 0 Q (F0 m 26 ls []) := by
    intro n9
    refine lp_ind (fun (rec26 : Int32 → Int32 → Int32 → Int32 → Int32 → Mem → Option (Int32 × Mem)) => ∀ (a1 : Int32) (a2 : Int32) (a3 : Int32) (a4 : Int32) (a5 : Int32) (M : Mem) (H : Heap) (locs : List Loc) (ls : Array Slot), lv_has ls 6 [(0, .ref (ad 9)), (1, .int a1), (2, .int a2), (3, .int a3), (4, .int a4), (5, .int a5)] → WD D cy ad s M H locs → rec26 a1 a2 a3 a4 a5 M = some (z, M') → W p l e R s m args below meth c H locs 0 0 Q (F0 m 26 ls [])) ?_ ?_ n9
    · intro a1 a2 a3 a4 a5 M H locs ls hl hw hF
      exact nomatch hF
    · intro rec26 hr26 a1 a2 a3 a4 a5 M H locs ls hl hw hF
      unfold f_X6_bestWay_26 at hF
      refine lv_iload hx hb dX6_bestWay_26 (lv_at hl 5 rfl) ?_
      refine lv_iconst (v := 2) hx hb dX6_bestWay_28 (by decide) ?_
      refine lv_icmp_gt (tgt := 82) hx hb dX6_bestWay_29 (by decide) (fun hc29 => ?_) (fun hc29 => ?_)
      · replace hF := st_t hc29 hF
        refine lv_iload hx hb dX6_bestWay_82 (lv_at hl 4 rfl) ?_
        exact E _ _ _ _ _ _ dX6_bestWay_84 hw hF
      · replace hF := st_f hc29 hF
        refine lv_aload_n hx hb dX6_bestWay_32 rfl (lv_at hl 0 rfl) ?_
        refine lv_iload_n hx hb dX6_bestWay_33 rfl (lv_at hl 1 rfl) ?_
        refine lv_iload_n hx hb dX6_bestWay_34 rfl (lv_at hl 2 rfl) ?_
        refine lv_iload_n hx hb dX6_bestWay_35 rfl (lv_at hl 3 rfl) ?_
        refine lv_iload hx hb dX6_bestWay_36 (lv_at hl 5 rfl) ?_
        obtain ⟨r11, hgr11, hF⟩ := st_bnd hF
        refine g_ci hw (g_runV (C := RX6) (As := [.int a1, .int a2, .int a3, .int a5]) (rest := []) fx hw isO_9 rfl (c_X6_reason l x D cy ad a1 a2 a3 a5 H.size M r11 hgr11) wd5_193 wd5_195 wd0_57 wd1_8 wd5_196 yd_X6_reason rfl rfl (Nat.le_of_ble_eq_true rfl) hl.1 ⟨Nat.le_trans (Nat.le_of_ble_eq_true rfl) hR.1, Nat.le_trans (Nat.le_of_ble_eq_true rfl) hR.2.1⟩ ⟨Nat.le_trans (Nat.le_of_ble_eq_true rfl) hR.2.2.1, Nat.le_trans (Nat.le_of_ble_eq_true rfl) hR.2.2.2⟩ dX6_bestWay_38) (fun H locs hw => ?_)
        refine lv_if_eq (tgt := 47) hx hb dX6_bestWay_41 (by decide) (fun hc41 => ?_) (fun hc41 => ?_)
        · replace hF := st_t hc41 hF
          refine lv_iload hx hb dX6_bestWay_47 (lv_at hl 4 rfl) ?_
          refine lv_iconst (v := (-1)) hx hb dX6_bestWay_49 (by decide) ?_
          refine lv_icmp_eq (tgt := 72) hx hb dX6_bestWay_50 (by decide) (fun hc50 => ?_) (fun hc50 => ?_)
          · replace hF := st_t hc50 hF
            exact n_72 rec26 hr26 a1 a2 a3 a5 M H locs ls (lv_sub hl [0, 1, 2, 3, 5] rfl) hw hF
          · replace hF := st_f hc50 hF
            refine lv_aload_n hx hb dX6_bestWay_53 rfl (lv_at hl 0 rfl) ?_
            refine lv_iload_n hx hb dX6_bestWay_54 rfl (lv_at hl 1 rfl) ?_
            refine lv_iload_n hx hb dX6_bestWay_55 rfl (lv_at hl 3 rfl) ?_
            refine lv_iload hx hb dX6_bestWay_56 (lv_at hl 5 rfl) ?_
            obtain ⟨r12, hgr12, hF⟩ := st_bnd hF
            refine g_ci hw (g_runV (C := RX6) (As := [.int a1, .int a3, .int a5]) (rest := []) fx hw isO_9 rfl (c_X6_costOf l x D cy ad a1 a3 a5 H.size M r12 hgr12) wd6_14 wd6_16 wd0_67 wd1_8 wd6_17 yd_X6_costOf rfl rfl (Nat.le_of_ble_eq_true rfl) hl.1 ⟨Nat.le_trans (Nat.le_of_ble_eq_true rfl) hR.1, Nat.le_trans (Nat.le_of_ble_eq_true rfl) hR.2.1⟩ ⟨Nat.le_trans (Nat.le_of_ble_eq_true rfl) hR.2.2.1, Nat.le_trans (Nat.le_of_ble_eq_true rfl) hR.2.2.2⟩ dX6_bestWay_58) (fun H locs hw => ?_)
            refine lv_aload_n hx hb dX6_bestWay_61 rfl (lv_at hl 0 rfl) ?_
            refine lv_iload_n hx hb dX6_bestWay_62 rfl (lv_at hl 1 rfl) ?_
            refine lv_iload_n hx hb dX6_bestWay_63 rfl (lv_at hl 3 rfl) ?_
            refine lv_iload hx hb dX6_bestWay_64 (lv_at hl 4 rfl) ?_
            obtain ⟨r13, hgr13, hF⟩ := st_bnd hF
            refine g_ci hw (g_runV (C := RX6) (As := [.int a1, .int a3, .int a4]) (rest := [.int r12]) fx hw isO_9 rfl (c_X6_costOf l x D cy ad a1 a3 a4 H.size M r13 hgr13) wd6_14 wd6_16 wd0_67 wd1_8 wd6_17 yd_X6_costOf rfl rfl (Nat.le_of_ble_eq_true rfl) hl.1 ⟨Nat.le_trans (Nat.le_of_ble_eq_true rfl) hR.1, Nat.le_trans (Nat.le_of_ble_eq_true rfl) hR.2.1⟩ ⟨Nat.le_trans (Nat.le_of_ble_eq_true rfl) hR.2.2.1, Nat.le_trans (Nat.le_of_ble_eq_true rfl) hR.2.2.2⟩ dX6_bestWay_66) (fun H locs hw => ?_)
            refine lv_icmp_ge (tgt := 76) hx hb dX6_bestWay_69 (by decide) (fun hc69 => ?_) (fun hc69 => ?_)
            · replace hF := st_t hc69 hF
              exact n_76 rec26 hr26 a1 a2 a3 a4 a5 M H locs ls (lv_sub hl [0, 1, 2, 3, 4, 5] rfl) hw hF
            · replace hF := st_f hc69 hF
              exact n_72 rec26 hr26 a1 a2 a3 a5 M H locs ls (lv_sub hl [0, 1, 2, 3, 5] rfl) hw hF
        · replace hF := st_f hc41 hF
          refine lv_goto (tgt := 76) hx hb dX6_bestWay_44 (by decide) ?_
          exact n_76 rec26 hr26 a1 a2 a3 a4 a5 M H locs ls (lv_sub hl [0, 1, 2, 3, 4, 5] rfl) hw hF
  unfold f_X6_bestWay at hF
  refine lv_aload_n hx hb dX6_bestWay_0 rfl (lv_at hl 0 rfl) ?_
  refine lv_aload_n hx hb dX6_bestWay_1 rfl (lv_at hl 0 rfl) ?_
  refine lv_iload_n hx hb dX6_bestWay_2 rfl (lv_at hl 1 rfl) ?_
  refine lv_iload_n hx hb dX6_bestWay_3 rfl (lv_at hl 2 rfl) ?_
  refine lv_iload_n hx hb dX6_bestWay_4 rfl (lv_at hl 3 rfl) ?_
  obtain ⟨r14, hgr14, hF⟩ := st_bnd hF
  refine g_ci hw (g_runV (C := RX6) (As := [.int p1, .int p2, .int p3]) (rest := [.ref (ad 9)]) fx hw isO_9 rfl (c_X6_wrongTwo l x D cy ad p1 p2 p3 H.size M r14 hgr14) wd5_189 wd5_191 wd0_56 wd1_8 wd5_192 yd_X6_wrongTwo rfl rfl (Nat.le_of_ble_eq_true rfl) hl.1 ⟨Nat.le_trans (Nat.le_of_ble_eq_true rfl) hR.1, Nat.le_trans (Nat.le_of_ble_eq_true rfl) hR.2.1⟩ ⟨Nat.le_trans (Nat.le_of_ble_eq_true rfl) hR.2.2.1, Nat.le_trans (Nat.le_of_ble_eq_true rfl) hR.2.2.2⟩ dX6_bestWay_5) (fun H locs hw => ?_)
  obtain ⟨M15, eM15, hF⟩ := st_letM hF
  refine gX6_put fx hw isO_9 6 (by decide) wd5_25 rfl eM15 rfl (Nat.le_of_ble_eq_true rfl) dX6_bestWay_8 (fun H locs hw => ?_)
  refine lv_aload_n hx hb dX6_bestWay_11 rfl (lv_at hl 0 rfl) ?_
  refine gX6_get fx hw isO_9 6 (by decide) wd5_25 rfl dX6_bestWay_12 ?_
  refine lv_if_le (tgt := 20) hx hb dX6_bestWay_15 (by decide) (fun hc15 => ?_) (fun hc15 => ?_)
  · replace hF := st_t hc15 hF
    refine lv_iconst (v := (-1)) hx hb dX6_bestWay_20 (by decide) ?_
    refine lv_istore (lv' := [(4, .int (-1)), (0, .ref (ad 9)), (1, .int p1), (2, .int p2), (3, .int p3)]) hx hb dX6_bestWay_21 hl (by decide) rfl (fun ls hl => ?_)
    refine lv_iconst (v := 0) hx hb dX6_bestWay_23 (by decide) ?_
    refine lv_istore (lv' := [(5, .int 0), (4, .int (-1)), (0, .ref (ad 9)), (1, .int p1), (2, .int p2), (3, .int p3)]) hx hb dX6_bestWay_24 hl (by decide) rfl (fun ls hl => ?_)
    exact n_26 FU p1 p2 p3 (-1) 0 M15 H locs ls (lv_sub hl [2, 3, 4, 5, 1, 0] rfl) hw hF
  · replace hF := st_f hc15 hF
    refine lv_iconst (v := 0) hx hb dX6_bestWay_18 (by decide) ?_
    exact E _ _ _ _ _ _ dX6_bestWay_19 hw hF
theorem c_X6_bestWay (l : Launch) (x : SX) (D : va_G) (cy : Nat → ClassId) (ad : Nat → Nat) (p1 p2 p3 : Int32) (sz : Nat) (M : Mem) (z : Int32) (M' : Mem) (hF : f_X6_bestWay p1 p2 p3 M = some (z, M')) : Met l yX6_bestWay (.code yX6_bestWay cX6_bestWay 6 (some .int) :: GB) ({ frames := 7, cells := 0, slots := 0, locals := 155 } : Room) (PcW D cy ad x sz M [.ref (ad 9), .int p1, .int p2, .int p3]) (QiW D cy ad sz z M') 0 0 (AA ad sz) := by
  refine mk_m (own := RX6) (by decide) rfl (Nat.le_of_ble_eq_true rfl) ?_
  intro p e s m args below meth c ls fx hw hl hsz
  subst hsz
  exact b_X6_bestWay fx ⟨Nat.le_refl _, Nat.le_refl _, Nat.le_refl _, Nat.le_refl _⟩ p1 p2 p3 M z M' hF (fun pc ls H locs v M1 hd hw h => by cases h; exact g_iret fx hw rfl hd) _ _ ls hl hw
noncomputable def f_X6_speechIn_7 (rec7 : Int32 → Mem → Option (Int32 × Mem)) : Int32 → Mem → Option (Int32 × Mem) := fun a1 M => (if 24 ≤ a1 then (some ((-1), M)) else (bnd (f_X6_isSpeech (irem ((M 10 4) + a1) 24) M) (fun r5 => (if r5 = 0 then (rec7 (a1 + 1) M) else (some (a1, M))))))
noncomputable def f_X6_speechIn (M : Mem) : Option (Int32 × Mem) := (letM (mput M 9 6 0) (fun M6 => ((lp (fun _ _ => none) (f_X6_speechIn_7) FU) 0 M6)))
set_option maxHeartbeats 4000000 in
set_option maxRecDepth 100000 in
theorem b_X6_speechIn {p : Program} {l : Launch} {e : Env} {R : Room} {s : State} {m : MethodId} {args : Array Value} {below : List Frame} {meth : Method} {c : Code} {Q : State → Prop} {D : va_G} {cy : Nat → ClassId} {ad : Nat → Nat} {x : SX} (fx : FX p s m args meth c cX6_speechIn 2 (some .int) RX6 D cy ad x) (hR : 2 ≤ R.frames ∧ 45 ≤ R.locals ∧ 0 ≤ R.cells ∧ 0 ≤ R.slots) (M : Mem) (z : Int32) (M' : Mem) (hF : f_X6_speechIn M = some (z, M')) (E : ∀ (pc : Nat) (ls : Array Slot) (H : Heap) (locs : List Loc) (v : Int32) (M1 : Mem), decode cX6_speechIn pc = .ok (.ireturn, 1) → WD D cy ad s M1 H locs → some (v, M1) = some (z, M') → W p l e R s m args below meth c H locs 0 0 Q (F0 m pc ls [.int v])) (H : Heap) (locs : List Loc) (ls : Array Slot) (hl : lv_has ls 2 [(0, .ref (ad 9))]) (hw : WD D cy ad s M H locs) : W p l e R s m args below meth c H locs 0 0 Q (F0 m 0 ls []) := by
  have hx := fx.1.1
  have hb := fx.1.2.1
  have hown := fx.1.2.2.2.1
  have hts := fx.1.2.2.2.2
  have n_7 : ∀ (n9 : Nat), ∀ (a1 : Int32) (M : Mem) (H : Heap) (locs : List Loc) (ls : Array Slot), lv_has ls 2 [(0, .ref (ad 9)), (1, .int a1)] → WD D cy ad s M H locs → (lp (fun _ _ => none) (f_X6_speechIn_7) n9) a1 M = some (z, M') → W p l e R s m args below meth c H locs 0 0 Q (F0 m 7 ls []) := by
    intro n9
    refine lp_ind (fun (rec7 : Int32 → Mem → Option (Int32 × Mem)) => ∀ (a1 : Int32) (M : Mem) (H : Heap) (locs : List Loc) (ls : Array Slot), lv_has ls 2 [(0, .ref (ad 9)), (1, .int a1)] → WD D cy ad s M H locs → rec7 a1 M = some (z, M') → W p l e R s m args below meth c H locs 0 0 Q (F0 m 7 ls [])) ?_ ?_ n9
    · intro a1 M H locs ls hl hw hF
      exact nomatch hF
    · intro rec7 hr7 a1 M H locs ls hl hw hF
      unfold f_X6_speechIn_7 at hF
      refine lv_iload_n hx hb dX6_speechIn_7 rfl (lv_at hl 1 rfl) ?_
      refine lv_bipush (v := 24) hx hb dX6_speechIn_8 (by decide) ?_
      refine lv_icmp_ge (tgt := 39) hx hb dX6_speechIn_10 (by decide) (fun hc10 => ?_) (fun hc10 => ?_)
      · replace hF := st_t hc10 hF
        refine lv_iconst (v := (-1)) hx hb dX6_speechIn_39 (by decide) ?_
        exact E _ _ _ _ _ _ dX6_speechIn_40 hw hF
      · replace hF := st_f hc10 hF
        refine lv_aload_n hx hb dX6_speechIn_13 rfl (lv_at hl 0 rfl) ?_
        refine lv_aload_n hx hb dX6_speechIn_14 rfl (lv_at hl 0 rfl) ?_
        refine gX6_get fx hw isO_9 0 (by decide) wd5_19 rfl dX6_speechIn_15 ?_
        refine lv_iconst (v := 4) hx hb dX6_speechIn_18 (by decide) ?_
        refine g_ialdc fx hw isA_10 (k := 4) rfl (by decide) dX6_speechIn_19 ?_
        refine lv_iload_n hx hb dX6_speechIn_20 rfl (lv_at hl 1 rfl) ?_
        refine lv_iadd hx hb dX6_speechIn_21 ?_
        refine lv_bipush (v := 24) hx hb dX6_speechIn_22 (by decide) ?_
        refine g_irem hx hb dX6_speechIn_24 (by decide) ?_
        obtain ⟨r5, hgr5, hF⟩ := st_bnd hF
        refine g_cz hw (g_runV (C := RX6) (As := [.int (irem ((M 10 4) + a1) 24)]) (rest := []) fx hw isO_9 rfl (c_X6_isSpeech l x D cy ad (irem ((M 10 4) + a1) 24) H.size M r5 hgr5) wd5_111 wd5_113 wd0_44 wd1_8 wd5_114 yd_X6_isSpeech rfl rfl (Nat.le_of_ble_eq_true rfl) hl.1 ⟨Nat.le_trans (Nat.le_of_ble_eq_true rfl) hR.1, Nat.le_trans (Nat.le_of_ble_eq_true rfl) hR.2.1⟩ ⟨Nat.le_trans (Nat.le_of_ble_eq_true rfl) hR.2.2.1, Nat.le_trans (Nat.le_of_ble_eq_true rfl) hR.2.2.2⟩ dX6_speechIn_25) (fun H locs hbr5 hw => ?_)
        refine lv_if_eq (tgt := 33) hx hb dX6_speechIn_28 (by decide) (fun hc28 => ?_) (fun hc28 => ?_)
        · replace hF := st_t hc28 hF
          refine lv_iinc (v := (a1 + 1)) (lv' := [(1, .int (a1 + 1)), (0, .ref (ad 9))]) hx hb dX6_speechIn_33 hl (k := 1) rfl rfl (by decide) rfl (fun ls hl => ?_)
          refine lv_goto (tgt := 7) hx hb dX6_speechIn_36 (by decide) ?_
          exact hr7 (a1 + 1) M H locs ls (lv_sub hl [1, 0] rfl) hw hF
        · replace hF := st_f hc28 hF
          refine lv_iload_n hx hb dX6_speechIn_31 rfl (lv_at hl 1 rfl) ?_
          exact E _ _ _ _ _ _ dX6_speechIn_32 hw hF
  unfold f_X6_speechIn at hF
  refine lv_aload_n hx hb dX6_speechIn_0 rfl (lv_at hl 0 rfl) ?_
  refine lv_iconst (v := 0) hx hb dX6_speechIn_1 (by decide) ?_
  obtain ⟨M6, eM6, hF⟩ := st_letM hF
  refine gX6_put fx hw isO_9 6 (by decide) wd5_25 rfl eM6 rfl (Nat.le_of_ble_eq_true rfl) dX6_speechIn_2 (fun H locs hw => ?_)
  refine lv_iconst (v := 0) hx hb dX6_speechIn_5 (by decide) ?_
  refine lv_istore_n (lv' := [(1, .int 0), (0, .ref (ad 9))]) hx hb dX6_speechIn_6 rfl hl (by decide) rfl (fun ls hl => ?_)
  exact n_7 FU 0 M6 H locs ls (lv_sub hl [1, 0] rfl) hw hF
theorem c_X6_speechIn (l : Launch) (x : SX) (D : va_G) (cy : Nat → ClassId) (ad : Nat → Nat) (sz : Nat) (M : Mem) (z : Int32) (M' : Mem) (hF : f_X6_speechIn M = some (z, M')) : Met l yX6_speechIn (.code yX6_speechIn cX6_speechIn 2 (some .int) :: GB) ({ frames := 2, cells := 0, slots := 0, locals := 45 } : Room) (PcW D cy ad x sz M [.ref (ad 9)]) (QiW D cy ad sz z M') 0 0 (AA ad sz) := by
  refine mk_m (own := RX6) (by decide) rfl (Nat.le_of_ble_eq_true rfl) ?_
  intro p e s m args below meth c ls fx hw hl hsz
  subst hsz
  exact b_X6_speechIn fx ⟨Nat.le_refl _, Nat.le_refl _, Nat.le_refl _, Nat.le_refl _⟩ M z M' hF (fun pc ls H locs v M1 hd hw h => by cases h; exact g_iret fx hw rfl hd) _ _ ls hl hw
noncomputable def f_X6_fastIn_49 (rec49 : Int32 → Int32 → Int32 → Mem → Option (Int32 × Mem)) : Int32 → Int32 → Int32 → Mem → Option (Int32 × Mem) := fun a2 a3 a4 M => (if (M 10 0) ≤ a4 then (some (a3, M)) else (bnd (f_X6_mo a4 5 M) (fun r9 => (chk (inB r9 156) (bnd (f_X6_mo a4 7 M) (fun r11 => (chk (inB r11 156) (rec49 a2 (a3 + (imax 0 ((M 10 (ix r9)) - (imax 0 (a2 - (M 10 (ix r11))))))) (a4 + 1) M))))))))
noncomputable def f_X6_fastIn_17 : Int32 → Int32 → Mem → Option (Int32 × Mem) := fun a1 t1 M => (letM (mput M 9 6 t1) (fun M13 => (if (M13 9 6) ≤ 0 then ((lp (fun _ _ _ _ => none) (f_X6_fastIn_49) FU) (((irem (M13 10 4) 24) + a1) / 24) 0 0 M13) else (some (0, M13)))))
noncomputable def f_X6_fastIn (p1 : Int32) (M : Mem) : Option (Int32 × Mem) := (bnd (f_X6_isIn p1 0 999 M) (fun r14 => (if r14 = 0 then ((f_X6_fastIn_17) p1 1 M) else ((f_X6_fastIn_17) p1 0 M))))
set_option maxHeartbeats 4000000 in
set_option maxRecDepth 100000 in
theorem b_X6_fastIn {p : Program} {l : Launch} {e : Env} {R : Room} {s : State} {m : MethodId} {args : Array Value} {below : List Frame} {meth : Method} {c : Code} {Q : State → Prop} {D : va_G} {cy : Nat → ClassId} {ad : Nat → Nat} {x : SX} (fx : FX p s m args meth c cX6_fastIn 5 (some .int) RX6 D cy ad x) (hR : 1 ≤ R.frames ∧ 22 ≤ R.locals ∧ 0 ≤ R.cells ∧ 0 ≤ R.slots) (p1 : Int32) (M : Mem) (z : Int32) (M' : Mem) (hF : f_X6_fastIn p1 M = some (z, M')) (E : ∀ (pc : Nat) (ls : Array Slot) (H : Heap) (locs : List Loc) (v : Int32) (M1 : Mem), decode cX6_fastIn pc = .ok (.ireturn, 1) → WD D cy ad s M1 H locs → some (v, M1) = some (z, M') → W p l e R s m args below meth c H locs 0 0 Q (F0 m pc ls [.int v])) (H : Heap) (locs : List Loc) (ls : Array Slot) (hl : lv_has ls 5 [(0, .ref (ad 9)), (1, .int p1)]) (hw : WD D cy ad s M H locs) : W p l e R s m args below meth c H locs 0 0 Q (F0 m 0 ls []) := by
  have hx := fx.1.1
  have hb := fx.1.2.1
  have hown := fx.1.2.2.2.1
  have hts := fx.1.2.2.2.2
  have n_49 : ∀ (n9 : Nat), ∀ (a2 : Int32) (a3 : Int32) (a4 : Int32) (M : Mem) (H : Heap) (locs : List Loc) (ls : Array Slot), lv_has ls 5 [(0, .ref (ad 9)), (2, .int a2), (3, .int a3), (4, .int a4)] → WD D cy ad s M H locs → (lp (fun _ _ _ _ => none) (f_X6_fastIn_49) n9) a2 a3 a4 M = some (z, M') → W p l e R s m args below meth c H locs 0 0 Q (F0 m 49 ls []) := by
    intro n9
    refine lp_ind (fun (rec49 : Int32 → Int32 → Int32 → Mem → Option (Int32 × Mem)) => ∀ (a2 : Int32) (a3 : Int32) (a4 : Int32) (M : Mem) (H : Heap) (locs : List Loc) (ls : Array Slot), lv_has ls 5 [(0, .ref (ad 9)), (2, .int a2), (3, .int a3), (4, .int a4)] → WD D cy ad s M H locs → rec49 a2 a3 a4 M = some (z, M') → W p l e R s m args below meth c H locs 0 0 Q (F0 m 49 ls [])) ?_ ?_ n9
    · intro a2 a3 a4 M H locs ls hl hw hF
      exact nomatch hF
    · intro rec49 hr49 a2 a3 a4 M H locs ls hl hw hF
      unfold f_X6_fastIn_49 at hF
      refine lv_iload hx hb dX6_fastIn_49 (lv_at hl 3 rfl) ?_
      refine lv_aload_n hx hb dX6_fastIn_51 rfl (lv_at hl 0 rfl) ?_
      refine gX6_get fx hw isO_9 0 (by decide) wd5_19 rfl dX6_fastIn_52 ?_
      refine lv_iconst (v := 0) hx hb dX6_fastIn_55 (by decide) ?_
      refine g_ialdc fx hw isA_10 (k := 0) rfl (by decide) dX6_fastIn_56 ?_
      refine lv_icmp_ge (tgt := 103) hx hb dX6_fastIn_57 (by decide) (fun hc57 => ?_) (fun hc57 => ?_)
      · replace hF := st_t hc57 hF
        refine lv_iload_n hx hb dX6_fastIn_103 rfl (lv_at hl 2 rfl) ?_
        exact E _ _ _ _ _ _ dX6_fastIn_104 hw hF
      · replace hF := st_f hc57 hF
        refine lv_iload_n hx hb dX6_fastIn_60 rfl (lv_at hl 2 rfl) ?_
        refine lv_iconst (v := 0) hx hb dX6_fastIn_61 (by decide) ?_
        refine lv_aload_n hx hb dX6_fastIn_62 rfl (lv_at hl 0 rfl) ?_
        refine gX6_get fx hw isO_9 0 (by decide) wd5_19 rfl dX6_fastIn_63 ?_
        refine lv_iload hx hb dX6_fastIn_66 (lv_at hl 3 rfl) ?_
        refine lv_iconst (v := 5) hx hb dX6_fastIn_68 (by decide) ?_
        obtain ⟨r9, hgr9, hF⟩ := st_bnd hF
        refine g_ci hw (g_runS (As := [.int a4, .int 5]) (rest := [.ref (ad 10), .int 0, .int a3]) fx hw (c_X6_mo l x D cy ad a4 5 H.size M r9 hgr9) wd5_16 wd5_17 wd1_8 wd5_18 yd_X6_mo rfl rfl (Nat.le_of_ble_eq_true rfl) hl.1 ⟨Nat.le_trans (Nat.le_of_ble_eq_true rfl) hR.1, Nat.le_trans (Nat.le_of_ble_eq_true rfl) hR.2.1⟩ ⟨Nat.le_trans (Nat.le_of_ble_eq_true rfl) hR.2.2.1, Nat.le_trans (Nat.le_of_ble_eq_true rfl) hR.2.2.2⟩ dX6_fastIn_69) (fun H locs hw => ?_)
        obtain ⟨hi10, hF⟩ := st_chk hF
        refine g_iald fx hw isA_10 hi10 dX6_fastIn_72 ?_
        refine lv_iconst (v := 0) hx hb dX6_fastIn_73 (by decide) ?_
        refine lv_iload_n hx hb dX6_fastIn_74 rfl (lv_at hl 1 rfl) ?_
        refine lv_aload_n hx hb dX6_fastIn_75 rfl (lv_at hl 0 rfl) ?_
        refine gX6_get fx hw isO_9 0 (by decide) wd5_19 rfl dX6_fastIn_76 ?_
        refine lv_iload hx hb dX6_fastIn_79 (lv_at hl 3 rfl) ?_
        refine lv_bipush (v := 7) hx hb dX6_fastIn_81 (by decide) ?_
        obtain ⟨r11, hgr11, hF⟩ := st_bnd hF
        refine g_ci hw (g_runS (As := [.int a4, .int 7]) (rest := [.ref (ad 10), .int a2, .int 0, .int (M 10 (ix r9)), .int 0, .int a3]) fx hw (c_X6_mo l x D cy ad a4 7 H.size M r11 hgr11) wd5_16 wd5_17 wd1_8 wd5_18 yd_X6_mo rfl rfl (Nat.le_of_ble_eq_true rfl) hl.1 ⟨Nat.le_trans (Nat.le_of_ble_eq_true rfl) hR.1, Nat.le_trans (Nat.le_of_ble_eq_true rfl) hR.2.1⟩ ⟨Nat.le_trans (Nat.le_of_ble_eq_true rfl) hR.2.2.1, Nat.le_trans (Nat.le_of_ble_eq_true rfl) hR.2.2.2⟩ dX6_fastIn_83) (fun H locs hw => ?_)
        obtain ⟨hi12, hF⟩ := st_chk hF
        refine g_iald fx hw isA_10 hi12 dX6_fastIn_86 ?_
        refine lv_isub hx hb dX6_fastIn_87 ?_
        refine g_mmax fx wd6_26 wd2_212 wd1_17 wd2_213 hl.1 (Nat.le_trans (Nat.le_of_ble_eq_true rfl) hR.1) (Nat.le_trans (Nat.le_of_ble_eq_true rfl) hR.2.1) ⟨Nat.le_trans (Nat.le_of_ble_eq_true rfl) hR.2.2.1, Nat.le_trans (Nat.le_of_ble_eq_true rfl) hR.2.2.2⟩ dX6_fastIn_88 ?_
        refine lv_isub hx hb dX6_fastIn_91 ?_
        refine g_mmax fx wd6_26 wd2_212 wd1_17 wd2_213 hl.1 (Nat.le_trans (Nat.le_of_ble_eq_true rfl) hR.1) (Nat.le_trans (Nat.le_of_ble_eq_true rfl) hR.2.1) ⟨Nat.le_trans (Nat.le_of_ble_eq_true rfl) hR.2.2.1, Nat.le_trans (Nat.le_of_ble_eq_true rfl) hR.2.2.2⟩ dX6_fastIn_92 ?_
        refine lv_iadd hx hb dX6_fastIn_95 ?_
        refine lv_istore_n (lv' := [(3, .int (a3 + (imax 0 ((M 10 (ix r9)) - (imax 0 (a2 - (M 10 (ix r11)))))))), (0, .ref (ad 9)), (2, .int a2), (4, .int a4)]) hx hb dX6_fastIn_96 rfl hl (by decide) rfl (fun ls hl => ?_)
        refine lv_iinc (v := (a4 + 1)) (lv' := [(4, .int (a4 + 1)), (3, .int (a3 + (imax 0 ((M 10 (ix r9)) - (imax 0 (a2 - (M 10 (ix r11)))))))), (0, .ref (ad 9)), (2, .int a2)]) hx hb dX6_fastIn_97 hl (k := 3) rfl rfl (by decide) rfl (fun ls hl => ?_)
        refine lv_goto (tgt := 49) hx hb dX6_fastIn_100 (by decide) ?_
        exact hr49 a2 (a3 + (imax 0 ((M 10 (ix r9)) - (imax 0 (a2 - (M 10 (ix r11))))))) (a4 + 1) M H locs ls (lv_sub hl [2, 3, 1, 0] rfl) hw hF
  have n_17 : ∀ (a1 : Int32) (t1 : Int32) (M : Mem) (H : Heap) (locs : List Loc) (ls : Array Slot), lv_has ls 5 [(0, .ref (ad 9)), (1, .int a1)] → WD D cy ad s M H locs → f_X6_fastIn_17 a1 t1 M = some (z, M') → W p l e R s m args below meth c H locs 0 0 Q (F0 m 17 ls [.int t1, .ref (ad 9)]) := by
    intro a1 t1 M H locs ls hl hw hF
    unfold f_X6_fastIn_17 at hF
    obtain ⟨M13, eM13, hF⟩ := st_letM hF
    refine gX6_put fx hw isO_9 6 (by decide) wd5_25 rfl eM13 rfl (Nat.le_of_ble_eq_true rfl) dX6_fastIn_17 (fun H locs hw => ?_)
    refine lv_aload_n hx hb dX6_fastIn_20 rfl (lv_at hl 0 rfl) ?_
    refine gX6_get fx hw isO_9 6 (by decide) wd5_25 rfl dX6_fastIn_21 ?_
    refine lv_if_le (tgt := 29) hx hb dX6_fastIn_24 (by decide) (fun hc24 => ?_) (fun hc24 => ?_)
    · replace hF := st_t hc24 hF
      refine lv_aload_n hx hb dX6_fastIn_29 rfl (lv_at hl 0 rfl) ?_
      refine gX6_get fx hw isO_9 0 (by decide) wd5_19 rfl dX6_fastIn_30 ?_
      refine lv_iconst (v := 4) hx hb dX6_fastIn_33 (by decide) ?_
      refine g_ialdc fx hw isA_10 (k := 4) rfl (by decide) dX6_fastIn_34 ?_
      refine lv_bipush (v := 24) hx hb dX6_fastIn_35 (by decide) ?_
      refine g_irem hx hb dX6_fastIn_37 (by decide) ?_
      refine lv_iload_n hx hb dX6_fastIn_38 rfl (lv_at hl 1 rfl) ?_
      refine lv_iadd hx hb dX6_fastIn_39 ?_
      refine lv_bipush (v := 24) hx hb dX6_fastIn_40 (by decide) ?_
      refine lv_idiv hx hb dX6_fastIn_42 (by decide) ?_
      refine lv_istore_n (lv' := [(2, .int (((irem (M13 10 4) 24) + a1) / 24)), (0, .ref (ad 9)), (1, .int a1)]) hx hb dX6_fastIn_43 rfl hl (by decide) rfl (fun ls hl => ?_)
      refine lv_iconst (v := 0) hx hb dX6_fastIn_44 (by decide) ?_
      refine lv_istore_n (lv' := [(3, .int 0), (2, .int (((irem (M13 10 4) 24) + a1) / 24)), (0, .ref (ad 9)), (1, .int a1)]) hx hb dX6_fastIn_45 rfl hl (by decide) rfl (fun ls hl => ?_)
      refine lv_iconst (v := 0) hx hb dX6_fastIn_46 (by decide) ?_
      refine lv_istore (lv' := [(4, .int 0), (3, .int 0), (2, .int (((irem (M13 10 4) 24) + a1) / 24)), (0, .ref (ad 9)), (1, .int a1)]) hx hb dX6_fastIn_47 hl (by decide) rfl (fun ls hl => ?_)
      exact n_49 FU (((irem (M13 10 4) 24) + a1) / 24) 0 0 M13 H locs ls (lv_sub hl [3, 2, 1, 0] rfl) hw hF
    · replace hF := st_f hc24 hF
      refine lv_iconst (v := 0) hx hb dX6_fastIn_27 (by decide) ?_
      exact E _ _ _ _ _ _ dX6_fastIn_28 hw hF
  unfold f_X6_fastIn at hF
  refine lv_aload_n hx hb dX6_fastIn_0 rfl (lv_at hl 0 rfl) ?_
  refine lv_iload_n hx hb dX6_fastIn_1 rfl (lv_at hl 1 rfl) ?_
  refine lv_iconst (v := 0) hx hb dX6_fastIn_2 (by decide) ?_
  refine lv_sipush (v := 999) hx hb dX6_fastIn_3 (by decide) ?_
  obtain ⟨r14, hgr14, hF⟩ := st_bnd hF
  refine g_cz hw (g_runS (As := [.int p1, .int 0, .int 999]) (rest := [.ref (ad 9)]) fx hw (c_X6_isIn l x D cy ad p1 0 999 H.size M r14 hgr14) wd5_92 wd5_93 wd1_8 wd5_94 yd_X6_isIn rfl rfl (Nat.le_of_ble_eq_true rfl) hl.1 ⟨Nat.le_trans (Nat.le_of_ble_eq_true rfl) hR.1, Nat.le_trans (Nat.le_of_ble_eq_true rfl) hR.2.1⟩ ⟨Nat.le_trans (Nat.le_of_ble_eq_true rfl) hR.2.2.1, Nat.le_trans (Nat.le_of_ble_eq_true rfl) hR.2.2.2⟩ dX6_fastIn_6) (fun H locs hbr14 hw => ?_)
  refine lv_if_eq (tgt := 16) hx hb dX6_fastIn_9 (by decide) (fun hc9 => ?_) (fun hc9 => ?_)
  · replace hF := st_t hc9 hF
    refine lv_iconst (v := 1) hx hb dX6_fastIn_16 (by decide) ?_
    exact n_17 p1 1 M H locs ls (lv_sub hl [0, 1] rfl) hw hF
  · replace hF := st_f hc9 hF
    refine lv_iconst (v := 0) hx hb dX6_fastIn_12 (by decide) ?_
    refine lv_goto (tgt := 17) hx hb dX6_fastIn_13 (by decide) ?_
    exact n_17 p1 0 M H locs ls (lv_sub hl [0, 1] rfl) hw hF
theorem c_X6_fastIn (l : Launch) (x : SX) (D : va_G) (cy : Nat → ClassId) (ad : Nat → Nat) (p1 : Int32) (sz : Nat) (M : Mem) (z : Int32) (M' : Mem) (hF : f_X6_fastIn p1 M = some (z, M')) : Met l yX6_fastIn (.code yX6_fastIn cX6_fastIn 5 (some .int) :: GB) ({ frames := 1, cells := 0, slots := 0, locals := 22 } : Room) (PcW D cy ad x sz M [.ref (ad 9), .int p1]) (QiW D cy ad sz z M') 0 0 (AA ad sz) := by
  refine mk_m (own := RX6) (by decide) rfl (Nat.le_of_ble_eq_true rfl) ?_
  intro p e s m args below meth c ls fx hw hl hsz
  subst hsz
  exact b_X6_fastIn fx ⟨Nat.le_refl _, Nat.le_refl _, Nat.le_refl _, Nat.le_refl _⟩ p1 M z M' hF (fun pc ls H locs v M1 hd hw h => by cases h; exact g_iret fx hw rfl hd) _ _ ls hl hw
noncomputable def f_X6_freeIn_14 : Int32 → Int32 → Mem → Option (Int32 × Mem) := fun a1 t1 M => (letM (mput M 9 6 t1) (fun M17 => (if 0 < (M17 9 6) then (some (0, M17)) else (bnd (f_X6_mo a1 5 M17) (fun r18 => (chk (inB r18 156) (if (M17 10 (ix r18)) = 0 then (some (0, M17)) else (bnd (f_X6_mo a1 5 M17) (fun r20 => (chk (inB r20 156) (bnd (f_X6_mo a1 7 M17) (fun r22 => (chk (inB r22 156) (some (((24 * ((M17 10 (ix r20)) + (M17 10 (ix r22)))) - (irem (M17 10 4) 24)), M17)))))))))))))))
noncomputable def f_X6_freeIn (p1 : Int32) (M : Mem) : Option (Int32 × Mem) := (bnd (f_X6_isMonk p1 M) (fun r24 => (if r24 = 0 then ((f_X6_freeIn_14) p1 1 M) else ((f_X6_freeIn_14) p1 0 M))))
set_option maxHeartbeats 4000000 in
set_option maxRecDepth 100000 in
theorem b_X6_freeIn {p : Program} {l : Launch} {e : Env} {R : Room} {s : State} {m : MethodId} {args : Array Value} {below : List Frame} {meth : Method} {c : Code} {Q : State → Prop} {D : va_G} {cy : Nat → ClassId} {ad : Nat → Nat} {x : SX} (fx : FX p s m args meth c cX6_freeIn 2 (some .int) RX6 D cy ad x) (hR : 2 ≤ R.frames ∧ 43 ≤ R.locals ∧ 0 ≤ R.cells ∧ 0 ≤ R.slots) (p1 : Int32) (M : Mem) (z : Int32) (M' : Mem) (hF : f_X6_freeIn p1 M = some (z, M')) (E : ∀ (pc : Nat) (ls : Array Slot) (H : Heap) (locs : List Loc) (v : Int32) (M1 : Mem), decode cX6_freeIn pc = .ok (.ireturn, 1) → WD D cy ad s M1 H locs → some (v, M1) = some (z, M') → W p l e R s m args below meth c H locs 0 0 Q (F0 m pc ls [.int v])) (H : Heap) (locs : List Loc) (ls : Array Slot) (hl : lv_has ls 2 [(0, .ref (ad 9)), (1, .int p1)]) (hw : WD D cy ad s M H locs) : W p l e R s m args below meth c H locs 0 0 Q (F0 m 0 ls []) := by
  have hx := fx.1.1
  have hb := fx.1.2.1
  have hown := fx.1.2.2.2.1
  have hts := fx.1.2.2.2.2
  have n_14 : ∀ (a1 : Int32) (t1 : Int32) (M : Mem) (H : Heap) (locs : List Loc) (ls : Array Slot), lv_has ls 2 [(0, .ref (ad 9)), (1, .int a1)] → WD D cy ad s M H locs → f_X6_freeIn_14 a1 t1 M = some (z, M') → W p l e R s m args below meth c H locs 0 0 Q (F0 m 14 ls [.int t1, .ref (ad 9)]) := by
    intro a1 t1 M H locs ls hl hw hF
    unfold f_X6_freeIn_14 at hF
    obtain ⟨M17, eM17, hF⟩ := st_letM hF
    refine gX6_put fx hw isO_9 6 (by decide) wd5_25 rfl eM17 rfl (Nat.le_of_ble_eq_true rfl) dX6_freeIn_14 (fun H locs hw => ?_)
    refine lv_aload_n hx hb dX6_freeIn_17 rfl (lv_at hl 0 rfl) ?_
    refine gX6_get fx hw isO_9 6 (by decide) wd5_25 rfl dX6_freeIn_18 ?_
    refine lv_if_gt (tgt := 37) hx hb dX6_freeIn_21 (by decide) (fun hc21 => ?_) (fun hc21 => ?_)
    · replace hF := st_t hc21 hF
      refine lv_iconst (v := 0) hx hb dX6_freeIn_37 (by decide) ?_
      exact E _ _ _ _ _ _ dX6_freeIn_38 hw hF
    · replace hF := st_f hc21 hF
      refine lv_aload_n hx hb dX6_freeIn_24 rfl (lv_at hl 0 rfl) ?_
      refine gX6_get fx hw isO_9 0 (by decide) wd5_19 rfl dX6_freeIn_25 ?_
      refine lv_iload_n hx hb dX6_freeIn_28 rfl (lv_at hl 1 rfl) ?_
      refine lv_iconst (v := 5) hx hb dX6_freeIn_29 (by decide) ?_
      obtain ⟨r18, hgr18, hF⟩ := st_bnd hF
      refine g_ci hw (g_runS (As := [.int a1, .int 5]) (rest := [.ref (ad 10)]) fx hw (c_X6_mo l x D cy ad a1 5 H.size M17 r18 hgr18) wd5_16 wd5_17 wd1_8 wd5_18 yd_X6_mo rfl rfl (Nat.le_of_ble_eq_true rfl) hl.1 ⟨Nat.le_trans (Nat.le_of_ble_eq_true rfl) hR.1, Nat.le_trans (Nat.le_of_ble_eq_true rfl) hR.2.1⟩ ⟨Nat.le_trans (Nat.le_of_ble_eq_true rfl) hR.2.2.1, Nat.le_trans (Nat.le_of_ble_eq_true rfl) hR.2.2.2⟩ dX6_freeIn_30) (fun H locs hw => ?_)
      obtain ⟨hi19, hF⟩ := st_chk hF
      refine g_iald fx hw isA_10 hi19 dX6_freeIn_33 ?_
      refine lv_if_ne (tgt := 39) hx hb dX6_freeIn_34 (by decide) (fun hc34 => ?_) (fun hc34 => ?_)
      · replace hF := st_f hc34 hF
        refine lv_bipush (v := 24) hx hb dX6_freeIn_39 (by decide) ?_
        refine lv_aload_n hx hb dX6_freeIn_41 rfl (lv_at hl 0 rfl) ?_
        refine gX6_get fx hw isO_9 0 (by decide) wd5_19 rfl dX6_freeIn_42 ?_
        refine lv_iload_n hx hb dX6_freeIn_45 rfl (lv_at hl 1 rfl) ?_
        refine lv_iconst (v := 5) hx hb dX6_freeIn_46 (by decide) ?_
        obtain ⟨r20, hgr20, hF⟩ := st_bnd hF
        refine g_ci hw (g_runS (As := [.int a1, .int 5]) (rest := [.ref (ad 10), .int 24]) fx hw (c_X6_mo l x D cy ad a1 5 H.size M17 r20 hgr20) wd5_16 wd5_17 wd1_8 wd5_18 yd_X6_mo rfl rfl (Nat.le_of_ble_eq_true rfl) hl.1 ⟨Nat.le_trans (Nat.le_of_ble_eq_true rfl) hR.1, Nat.le_trans (Nat.le_of_ble_eq_true rfl) hR.2.1⟩ ⟨Nat.le_trans (Nat.le_of_ble_eq_true rfl) hR.2.2.1, Nat.le_trans (Nat.le_of_ble_eq_true rfl) hR.2.2.2⟩ dX6_freeIn_47) (fun H locs hw => ?_)
        obtain ⟨hi21, hF⟩ := st_chk hF
        refine g_iald fx hw isA_10 hi21 dX6_freeIn_50 ?_
        refine lv_aload_n hx hb dX6_freeIn_51 rfl (lv_at hl 0 rfl) ?_
        refine gX6_get fx hw isO_9 0 (by decide) wd5_19 rfl dX6_freeIn_52 ?_
        refine lv_iload_n hx hb dX6_freeIn_55 rfl (lv_at hl 1 rfl) ?_
        refine lv_bipush (v := 7) hx hb dX6_freeIn_56 (by decide) ?_
        obtain ⟨r22, hgr22, hF⟩ := st_bnd hF
        refine g_ci hw (g_runS (As := [.int a1, .int 7]) (rest := [.ref (ad 10), .int (M17 10 (ix r20)), .int 24]) fx hw (c_X6_mo l x D cy ad a1 7 H.size M17 r22 hgr22) wd5_16 wd5_17 wd1_8 wd5_18 yd_X6_mo rfl rfl (Nat.le_of_ble_eq_true rfl) hl.1 ⟨Nat.le_trans (Nat.le_of_ble_eq_true rfl) hR.1, Nat.le_trans (Nat.le_of_ble_eq_true rfl) hR.2.1⟩ ⟨Nat.le_trans (Nat.le_of_ble_eq_true rfl) hR.2.2.1, Nat.le_trans (Nat.le_of_ble_eq_true rfl) hR.2.2.2⟩ dX6_freeIn_58) (fun H locs hw => ?_)
        obtain ⟨hi23, hF⟩ := st_chk hF
        refine g_iald fx hw isA_10 hi23 dX6_freeIn_61 ?_
        refine lv_iadd hx hb dX6_freeIn_62 ?_
        refine lv_imul hx hb dX6_freeIn_63 ?_
        refine lv_aload_n hx hb dX6_freeIn_64 rfl (lv_at hl 0 rfl) ?_
        refine gX6_get fx hw isO_9 0 (by decide) wd5_19 rfl dX6_freeIn_65 ?_
        refine lv_iconst (v := 4) hx hb dX6_freeIn_68 (by decide) ?_
        refine g_ialdc fx hw isA_10 (k := 4) rfl (by decide) dX6_freeIn_69 ?_
        refine lv_bipush (v := 24) hx hb dX6_freeIn_70 (by decide) ?_
        refine g_irem hx hb dX6_freeIn_72 (by decide) ?_
        refine lv_isub hx hb dX6_freeIn_73 ?_
        exact E _ _ _ _ _ _ dX6_freeIn_74 hw hF
      · replace hF := st_t hc34 hF
        refine lv_iconst (v := 0) hx hb dX6_freeIn_37 (by decide) ?_
        exact E _ _ _ _ _ _ dX6_freeIn_38 hw hF
  unfold f_X6_freeIn at hF
  refine lv_aload_n hx hb dX6_freeIn_0 rfl (lv_at hl 0 rfl) ?_
  refine lv_aload_n hx hb dX6_freeIn_1 rfl (lv_at hl 0 rfl) ?_
  refine lv_iload_n hx hb dX6_freeIn_2 rfl (lv_at hl 1 rfl) ?_
  obtain ⟨r24, hgr24, hF⟩ := st_bnd hF
  refine g_cz hw (g_runV (C := RX6) (As := [.int p1]) (rest := [.ref (ad 9)]) fx hw isO_9 rfl (c_X6_isMonk l x D cy ad p1 H.size M r24 hgr24) wd5_146 wd5_148 wd0_50 wd1_8 wd5_149 yd_X6_isMonk rfl rfl (Nat.le_of_ble_eq_true rfl) hl.1 ⟨Nat.le_trans (Nat.le_of_ble_eq_true rfl) hR.1, Nat.le_trans (Nat.le_of_ble_eq_true rfl) hR.2.1⟩ ⟨Nat.le_trans (Nat.le_of_ble_eq_true rfl) hR.2.2.1, Nat.le_trans (Nat.le_of_ble_eq_true rfl) hR.2.2.2⟩ dX6_freeIn_3) (fun H locs hbr24 hw => ?_)
  refine lv_if_eq (tgt := 13) hx hb dX6_freeIn_6 (by decide) (fun hc6 => ?_) (fun hc6 => ?_)
  · replace hF := st_t hc6 hF
    refine lv_iconst (v := 1) hx hb dX6_freeIn_13 (by decide) ?_
    exact n_14 p1 1 M H locs ls (lv_sub hl [0, 1] rfl) hw hF
  · replace hF := st_f hc6 hF
    refine lv_iconst (v := 0) hx hb dX6_freeIn_9 (by decide) ?_
    refine lv_goto (tgt := 14) hx hb dX6_freeIn_10 (by decide) ?_
    exact n_14 p1 0 M H locs ls (lv_sub hl [0, 1] rfl) hw hF
theorem c_X6_freeIn (l : Launch) (x : SX) (D : va_G) (cy : Nat → ClassId) (ad : Nat → Nat) (p1 : Int32) (sz : Nat) (M : Mem) (z : Int32) (M' : Mem) (hF : f_X6_freeIn p1 M = some (z, M')) : Met l yX6_freeIn (.code yX6_freeIn cX6_freeIn 2 (some .int) :: GB) ({ frames := 2, cells := 0, slots := 0, locals := 43 } : Room) (PcW D cy ad x sz M [.ref (ad 9), .int p1]) (QiW D cy ad sz z M') 0 0 (AA ad sz) := by
  refine mk_m (own := RX6) (by decide) rfl (Nat.le_of_ble_eq_true rfl) ?_
  intro p e s m args below meth c ls fx hw hl hsz
  subst hsz
  exact b_X6_freeIn fx ⟨Nat.le_refl _, Nat.le_refl _, Nat.le_refl _, Nat.le_refl _⟩ p1 M z M' hF (fun pc ls H locs v M1 hd hw h => by cases h; exact g_iret fx hw rfl hd) _ _ ls hl hw
noncomputable def f_X6_hoursWithBell (p1 : Int32) (M : Mem) : Option (Int32 × Mem) := (chk (inB (20 + p1) 156) (chk (inB (20 + p1) 156) (letM (mput M 10 (ix (20 + p1)) 2) (fun M8 => (bnd (f_X6_hoursOfSpeech M8) (fun r10 => (chk (inB (20 + p1) 156) (letM (mput M8 10 (ix (20 + p1)) (M 10 (ix (20 + p1)))) (fun M11 => (some (r10, M11)))))))))))
set_option maxHeartbeats 4000000 in
set_option maxRecDepth 100000 in
theorem b_X6_hoursWithBell {p : Program} {l : Launch} {e : Env} {R : Room} {s : State} {m : MethodId} {args : Array Value} {below : List Frame} {meth : Method} {c : Code} {Q : State → Prop} {D : va_G} {cy : Nat → ClassId} {ad : Nat → Nat} {x : SX} (fx : FX p s m args meth c cX6_hoursWithBell 4 (some .int) RX6 D cy ad x) (hR : 3 ≤ R.frames ∧ 67 ≤ R.locals ∧ 0 ≤ R.cells ∧ 0 ≤ R.slots) (p1 : Int32) (M : Mem) (z : Int32) (M' : Mem) (hF : f_X6_hoursWithBell p1 M = some (z, M')) (E : ∀ (pc : Nat) (ls : Array Slot) (H : Heap) (locs : List Loc) (v : Int32) (M1 : Mem), decode cX6_hoursWithBell pc = .ok (.ireturn, 1) → WD D cy ad s M1 H locs → some (v, M1) = some (z, M') → W p l e R s m args below meth c H locs 0 0 Q (F0 m pc ls [.int v])) (H : Heap) (locs : List Loc) (ls : Array Slot) (hl : lv_has ls 4 [(0, .ref (ad 9)), (1, .int p1)]) (hw : WD D cy ad s M H locs) : W p l e R s m args below meth c H locs 0 0 Q (F0 m 0 ls []) := by
  have hx := fx.1.1
  have hb := fx.1.2.1
  have hown := fx.1.2.2.2.1
  have hts := fx.1.2.2.2.2
  unfold f_X6_hoursWithBell at hF
  refine lv_aload_n hx hb dX6_hoursWithBell_0 rfl (lv_at hl 0 rfl) ?_
  refine gX6_get fx hw isO_9 0 (by decide) wd5_19 rfl dX6_hoursWithBell_1 ?_
  refine lv_bipush (v := 20) hx hb dX6_hoursWithBell_4 (by decide) ?_
  refine lv_iload_n hx hb dX6_hoursWithBell_6 rfl (lv_at hl 1 rfl) ?_
  refine lv_iadd hx hb dX6_hoursWithBell_7 ?_
  obtain ⟨hi7, hF⟩ := st_chk hF
  refine g_iald fx hw isA_10 hi7 dX6_hoursWithBell_8 ?_
  refine lv_istore_n (lv' := [(2, .int (M 10 (ix (20 + p1)))), (0, .ref (ad 9)), (1, .int p1)]) hx hb dX6_hoursWithBell_9 rfl hl (by decide) rfl (fun ls hl => ?_)
  refine lv_aload_n hx hb dX6_hoursWithBell_10 rfl (lv_at hl 1 rfl) ?_
  refine gX6_get fx hw isO_9 0 (by decide) wd5_19 rfl dX6_hoursWithBell_11 ?_
  refine lv_bipush (v := 20) hx hb dX6_hoursWithBell_14 (by decide) ?_
  refine lv_iload_n hx hb dX6_hoursWithBell_16 rfl (lv_at hl 2 rfl) ?_
  refine lv_iadd hx hb dX6_hoursWithBell_17 ?_
  refine lv_iconst (v := 2) hx hb dX6_hoursWithBell_18 (by decide) ?_
  obtain ⟨hi9, hF⟩ := st_chk hF
  obtain ⟨M8, eM8, hF⟩ := st_letM hF
  refine g_iast fx hw isA_10 hi9 eM8 dX6_hoursWithBell_19 (fun H locs hw => ?_)
  refine lv_aload_n hx hb dX6_hoursWithBell_20 rfl (lv_at hl 1 rfl) ?_
  obtain ⟨r10, hgr10, hF⟩ := st_bnd hF
  refine g_ci hw (g_runV (C := RX6) (As := []) (rest := []) fx hw isO_9 rfl (c_X6_hoursOfSpeech l x D cy ad H.size M8 r10 hgr10) wd5_123 wd5_125 wd0_47 wd1_8 wd5_126 yd_X6_hoursOfSpeech rfl rfl (Nat.le_of_ble_eq_true rfl) hl.1 ⟨Nat.le_trans (Nat.le_of_ble_eq_true rfl) hR.1, Nat.le_trans (Nat.le_of_ble_eq_true rfl) hR.2.1⟩ ⟨Nat.le_trans (Nat.le_of_ble_eq_true rfl) hR.2.2.1, Nat.le_trans (Nat.le_of_ble_eq_true rfl) hR.2.2.2⟩ dX6_hoursWithBell_21) (fun H locs hw => ?_)
  refine lv_istore_n (lv' := [(3, .int r10), (2, .int (M 10 (ix (20 + p1)))), (0, .ref (ad 9)), (1, .int p1)]) hx hb dX6_hoursWithBell_24 rfl hl (by decide) rfl (fun ls hl => ?_)
  refine lv_aload_n hx hb dX6_hoursWithBell_25 rfl (lv_at hl 2 rfl) ?_
  refine gX6_get fx hw isO_9 0 (by decide) wd5_19 rfl dX6_hoursWithBell_26 ?_
  refine lv_bipush (v := 20) hx hb dX6_hoursWithBell_29 (by decide) ?_
  refine lv_iload_n hx hb dX6_hoursWithBell_31 rfl (lv_at hl 3 rfl) ?_
  refine lv_iadd hx hb dX6_hoursWithBell_32 ?_
  refine lv_iload_n hx hb dX6_hoursWithBell_33 rfl (lv_at hl 1 rfl) ?_
  obtain ⟨hi12, hF⟩ := st_chk hF
  obtain ⟨M11, eM11, hF⟩ := st_letM hF
  refine g_iast fx hw isA_10 hi12 eM11 dX6_hoursWithBell_34 (fun H locs hw => ?_)
  refine lv_iload_n hx hb dX6_hoursWithBell_35 rfl (lv_at hl 0 rfl) ?_
  exact E _ _ _ _ _ _ dX6_hoursWithBell_36 hw hF
theorem c_X6_hoursWithBell (l : Launch) (x : SX) (D : va_G) (cy : Nat → ClassId) (ad : Nat → Nat) (p1 : Int32) (sz : Nat) (M : Mem) (z : Int32) (M' : Mem) (hF : f_X6_hoursWithBell p1 M = some (z, M')) : Met l yX6_hoursWithBell (.code yX6_hoursWithBell cX6_hoursWithBell 4 (some .int) :: GB) ({ frames := 3, cells := 0, slots := 0, locals := 67 } : Room) (PcW D cy ad x sz M [.ref (ad 9), .int p1]) (QiW D cy ad sz z M') 0 0 (AA ad sz) := by
  refine mk_m (own := RX6) (by decide) rfl (Nat.le_of_ble_eq_true rfl) ?_
  intro p e s m args below meth c ls fx hw hl hsz
  subst hsz
  exact b_X6_hoursWithBell fx ⟨Nat.le_refl _, Nat.le_refl _, Nat.le_refl _, Nat.le_refl _⟩ p1 M z M' hF (fun pc ls H locs v M1 hd hw h => by cases h; exact g_iret fx hw rfl hd) _ _ ls hl hw
noncomputable def f_X6_bestBell_30 (rec9 : Int32 → Int32 → Mem → Option (Int32 × Mem)) : Int32 → Int32 → Mem → Option (Int32 × Mem) := fun a1 a2 M => (rec9 a1 (a2 + 1) M)
noncomputable def f_X6_bestBell_9 (rec9 : Int32 → Int32 → Mem → Option (Int32 × Mem)) : Int32 → Int32 → Mem → Option (Int32 × Mem) := fun a1 a2 M => (if 24 ≤ a2 then (some (a1, M)) else (bnd2 (f_X6_hoursWithBell a2 M) (fun r11 M12 => (bnd2 (f_X6_hoursWithBell a1 M12) (fun r13 M14 => (if r11 ≤ r13 then ((f_X6_bestBell_30 rec9) a1 a2 M14) else ((f_X6_bestBell_30 rec9) a2 a2 M14)))))))
noncomputable def f_X6_bestBell (M : Mem) : Option (Int32 × Mem) := (letM (mput M 9 6 0) (fun M15 => ((lp (fun _ _ _ => none) (f_X6_bestBell_9) FU) 0 1 M15)))
set_option maxHeartbeats 4000000 in
set_option maxRecDepth 100000 in
theorem b_X6_bestBell {p : Program} {l : Launch} {e : Env} {R : Room} {s : State} {m : MethodId} {args : Array Value} {below : List Frame} {meth : Method} {c : Code} {Q : State → Prop} {D : va_G} {cy : Nat → ClassId} {ad : Nat → Nat} {x : SX} (fx : FX p s m args meth c cX6_bestBell 3 (some .int) RX6 D cy ad x) (hR : 4 ≤ R.frames ∧ 90 ≤ R.locals ∧ 0 ≤ R.cells ∧ 0 ≤ R.slots) (M : Mem) (z : Int32) (M' : Mem) (hF : f_X6_bestBell M = some (z, M')) (E : ∀ (pc : Nat) (ls : Array Slot) (H : Heap) (locs : List Loc) (v : Int32) (M1 : Mem), decode cX6_bestBell pc = .ok (.ireturn, 1) → WD D cy ad s M1 H locs → some (v, M1) = some (z, M') → W p l e R s m args below meth c H locs 0 0 Q (F0 m pc ls [.int v])) (H : Heap) (locs : List Loc) (ls : Array Slot) (hl : lv_has ls 3 [(0, .ref (ad 9))]) (hw : WD D cy ad s M H locs) : W p l e R s m args below meth c H locs 0 0 Q (F0 m 0 ls []) := by
  have hx := fx.1.1
  have hb := fx.1.2.1
  have hown := fx.1.2.2.2.1
  have hts := fx.1.2.2.2.2
  have n_30 : ∀ (rec9 : Int32 → Int32 → Mem → Option (Int32 × Mem)) (_ : ∀ (a1 : Int32) (a2 : Int32) (M : Mem) (H : Heap) (locs : List Loc) (ls : Array Slot), lv_has ls 3 [(0, .ref (ad 9)), (1, .int a1), (2, .int a2)] → WD D cy ad s M H locs → rec9 a1 a2 M = some (z, M') → W p l e R s m args below meth c H locs 0 0 Q (F0 m 9 ls [])) , ∀ (a1 : Int32) (a2 : Int32) (M : Mem) (H : Heap) (locs : List Loc) (ls : Array Slot), lv_has ls 3 [(0, .ref (ad 9)), (1, .int a1), (2, .int a2)] → WD D cy ad s M H locs → f_X6_bestBell_30 rec9 a1 a2 M = some (z, M') → W p l e R s m args below meth c H locs 0 0 Q (F0 m 30 ls []) := by
    intro rec9 hr9 a1 a2 M H locs ls hl hw hF
    unfold f_X6_bestBell_30 at hF
    refine lv_iinc (v := (a2 + 1)) (lv' := [(2, .int (a2 + 1)), (0, .ref (ad 9)), (1, .int a1)]) hx hb dX6_bestBell_30 hl (k := 2) rfl rfl (by decide) rfl (fun ls hl => ?_)
    refine lv_goto (tgt := 9) hx hb dX6_bestBell_33 (by decide) ?_
    exact hr9 a1 (a2 + 1) M H locs ls (lv_sub hl [1, 2, 0] rfl) hw hF
  have n_9 : ∀ (n9 : Nat), ∀ (a1 : Int32) (a2 : Int32) (M : Mem) (H : Heap) (locs : List Loc) (ls : Array Slot), lv_has ls 3 [(0, .ref (ad 9)), (1, .int a1), (2, .int a2)] → WD D cy ad s M H locs → (lp (fun _ _ _ => none) (f_X6_bestBell_9) n9) a1 a2 M = some (z, M') → W p l e R s m args below meth c H locs 0 0 Q (F0 m 9 ls []) := by
    intro n9
    refine lp_ind (fun (rec9 : Int32 → Int32 → Mem → Option (Int32 × Mem)) => ∀ (a1 : Int32) (a2 : Int32) (M : Mem) (H : Heap) (locs : List Loc) (ls : Array Slot), lv_has ls 3 [(0, .ref (ad 9)), (1, .int a1), (2, .int a2)] → WD D cy ad s M H locs → rec9 a1 a2 M = some (z, M') → W p l e R s m args below meth c H locs 0 0 Q (F0 m 9 ls [])) ?_ ?_ n9
    · intro a1 a2 M H locs ls hl hw hF
      exact nomatch hF
    · intro rec9 hr9 a1 a2 M H locs ls hl hw hF
      unfold f_X6_bestBell_9 at hF
      refine lv_iload_n hx hb dX6_bestBell_9 rfl (lv_at hl 2 rfl) ?_
      refine lv_bipush (v := 24) hx hb dX6_bestBell_10 (by decide) ?_
      refine lv_icmp_ge (tgt := 36) hx hb dX6_bestBell_12 (by decide) (fun hc12 => ?_) (fun hc12 => ?_)
      · replace hF := st_t hc12 hF
        refine lv_iload_n hx hb dX6_bestBell_36 rfl (lv_at hl 1 rfl) ?_
        exact E _ _ _ _ _ _ dX6_bestBell_37 hw hF
      · replace hF := st_f hc12 hF
        refine lv_aload_n hx hb dX6_bestBell_15 rfl (lv_at hl 0 rfl) ?_
        refine lv_iload_n hx hb dX6_bestBell_16 rfl (lv_at hl 2 rfl) ?_
        obtain ⟨r11, M12, hgr11, hF⟩ := st_bnd2 hF
        refine g_ci hw (g_runV (C := RX6) (As := [.int a2]) (rest := []) fx hw isO_9 rfl (c_X6_hoursWithBell l x D cy ad a2 H.size M r11 M12 hgr11) wd6_35 wd6_37 wd0_68 wd1_8 wd6_38 yd_X6_hoursWithBell rfl rfl (Nat.le_of_ble_eq_true rfl) hl.1 ⟨Nat.le_trans (Nat.le_of_ble_eq_true rfl) hR.1, Nat.le_trans (Nat.le_of_ble_eq_true rfl) hR.2.1⟩ ⟨Nat.le_trans (Nat.le_of_ble_eq_true rfl) hR.2.2.1, Nat.le_trans (Nat.le_of_ble_eq_true rfl) hR.2.2.2⟩ dX6_bestBell_17) (fun H locs hw => ?_)
        refine lv_aload_n hx hb dX6_bestBell_20 rfl (lv_at hl 0 rfl) ?_
        refine lv_iload_n hx hb dX6_bestBell_21 rfl (lv_at hl 1 rfl) ?_
        obtain ⟨r13, M14, hgr13, hF⟩ := st_bnd2 hF
        refine g_ci hw (g_runV (C := RX6) (As := [.int a1]) (rest := [.int r11]) fx hw isO_9 rfl (c_X6_hoursWithBell l x D cy ad a1 H.size M12 r13 M14 hgr13) wd6_35 wd6_37 wd0_68 wd1_8 wd6_38 yd_X6_hoursWithBell rfl rfl (Nat.le_of_ble_eq_true rfl) hl.1 ⟨Nat.le_trans (Nat.le_of_ble_eq_true rfl) hR.1, Nat.le_trans (Nat.le_of_ble_eq_true rfl) hR.2.1⟩ ⟨Nat.le_trans (Nat.le_of_ble_eq_true rfl) hR.2.2.1, Nat.le_trans (Nat.le_of_ble_eq_true rfl) hR.2.2.2⟩ dX6_bestBell_22) (fun H locs hw => ?_)
        refine lv_icmp_le (tgt := 30) hx hb dX6_bestBell_25 (by decide) (fun hc25 => ?_) (fun hc25 => ?_)
        · replace hF := st_t hc25 hF
          exact n_30 rec9 hr9 a1 a2 M14 H locs ls (lv_sub hl [0, 1, 2] rfl) hw hF
        · replace hF := st_f hc25 hF
          refine lv_iload_n hx hb dX6_bestBell_28 rfl (lv_at hl 2 rfl) ?_
          refine lv_istore_n (lv' := [(1, .int a2), (0, .ref (ad 9)), (2, .int a2)]) hx hb dX6_bestBell_29 rfl hl (by decide) rfl (fun ls hl => ?_)
          exact n_30 rec9 hr9 a2 a2 M14 H locs ls (lv_sub hl [1, 0, 2] rfl) hw hF
  unfold f_X6_bestBell at hF
  refine lv_aload_n hx hb dX6_bestBell_0 rfl (lv_at hl 0 rfl) ?_
  refine lv_iconst (v := 0) hx hb dX6_bestBell_1 (by decide) ?_
  obtain ⟨M15, eM15, hF⟩ := st_letM hF
  refine gX6_put fx hw isO_9 6 (by decide) wd5_25 rfl eM15 rfl (Nat.le_of_ble_eq_true rfl) dX6_bestBell_2 (fun H locs hw => ?_)
  refine lv_iconst (v := 0) hx hb dX6_bestBell_5 (by decide) ?_
  refine lv_istore_n (lv' := [(1, .int 0), (0, .ref (ad 9))]) hx hb dX6_bestBell_6 rfl hl (by decide) rfl (fun ls hl => ?_)
  refine lv_iconst (v := 1) hx hb dX6_bestBell_7 (by decide) ?_
  refine lv_istore_n (lv' := [(2, .int 1), (1, .int 0), (0, .ref (ad 9))]) hx hb dX6_bestBell_8 rfl hl (by decide) rfl (fun ls hl => ?_)
  exact n_9 FU 0 1 M15 H locs ls (lv_sub hl [2, 1, 0] rfl) hw hF
theorem c_X6_bestBell (l : Launch) (x : SX) (D : va_G) (cy : Nat → ClassId) (ad : Nat → Nat) (sz : Nat) (M : Mem) (z : Int32) (M' : Mem) (hF : f_X6_bestBell M = some (z, M')) : Met l yX6_bestBell (.code yX6_bestBell cX6_bestBell 3 (some .int) :: GB) ({ frames := 4, cells := 0, slots := 0, locals := 90 } : Room) (PcW D cy ad x sz M [.ref (ad 9)]) (QiW D cy ad sz z M') 0 0 (AA ad sz) := by
  refine mk_m (own := RX6) (by decide) rfl (Nat.le_of_ble_eq_true rfl) ?_
  intro p e s m args below meth c ls fx hw hl hsz
  subst hsz
  exact b_X6_bestBell fx ⟨Nat.le_refl _, Nat.le_refl _, Nat.le_refl _, Nat.le_refl _⟩ M z M' hF (fun pc ls H locs v M1 hd hw h => by cases h; exact g_iret fx hw rfl hd) _ _ ls hl hw
noncomputable def f_X6_metBy_83 (M : Mem) (rec4 : Int32 → Int32 → Int32 → Option Int32) : Int32 → Int32 → Int32 → Option Int32 := fun a1 a2 a3 => (rec4 a1 a2 (a3 + 1))
noncomputable def f_X6_metBy_4 (M : Mem) (rec4 : Int32 → Int32 → Int32 → Option Int32) : Int32 → Int32 → Int32 → Option Int32 := fun a1 a2 a3 => (if (M 10 0) ≤ a3 then (some a2) else (if a3 = a1 then ((f_X6_metBy_83 M rec4) a1 a2 a3) else (bnd (f_X6_mo a3 1 M) (fun r23 => (chk (inB r23 156) (bnd (f_X6_mo a1 1 M) (fun r25 => (chk (inB r25 156) (if (M 10 (ix r23)) ≤ (M 10 (ix r25)) then (bnd (f_X6_mo a3 3 M) (fun r27 => (chk (inB r27 156) (bnd (f_X6_mo a3 2 M) (fun r29 => (chk (inB r29 156) (bnd (f_X6_mo a1 2 M) (fun r31 => (chk (inB r31 156) (bnd (f_X6_bits (((M 10 (ix r27)) &&& (M 10 (ix r29))) &&& (M 10 (ix r31))) M) (fun r33 => ((f_X6_metBy_83 M rec4) a1 (a2 + r33) a3)))))))))))) else ((f_X6_metBy_83 M rec4) a1 a2 a3))))))))))
noncomputable def f_X6_metBy (p1 : Int32) (M : Mem) : Option Int32 := ((lp (fun _ _ _ => none) (f_X6_metBy_4 M) FU) p1 0 0)
set_option maxHeartbeats 4000000 in
set_option maxRecDepth 100000 in
theorem b_X6_metBy {p : Program} {l : Launch} {e : Env} {R : Room} {s : State} {m : MethodId} {args : Array Value} {below : List Frame} {meth : Method} {c : Code} {Q : State → Prop} {D : va_G} {cy : Nat → ClassId} {ad : Nat → Nat} {x : SX} (fx : FX p s m args meth c cX6_metBy 4 (some .int) RX6 D cy ad x) (hR : 1 ≤ R.frames ∧ 22 ≤ R.locals ∧ 0 ≤ R.cells ∧ 0 ≤ R.slots) (p1 : Int32) (M : Mem) (z : Int32) (hF : f_X6_metBy p1 M = some z) (E : ∀ (pc : Nat) (ls : Array Slot) (H : Heap) (locs : List Loc) (v : Int32), decode cX6_metBy pc = .ok (.ireturn, 1) → WD D cy ad s M H locs → some v = some z → W p l e R s m args below meth c H locs 0 0 Q (F0 m pc ls [.int v])) (H : Heap) (locs : List Loc) (ls : Array Slot) (hl : lv_has ls 4 [(0, .ref (ad 9)), (1, .int p1)]) (hw : WD D cy ad s M H locs) : W p l e R s m args below meth c H locs 0 0 Q (F0 m 0 ls []) := by
  have hx := fx.1.1
  have hb := fx.1.2.1
  have hown := fx.1.2.2.2.1
  have hts := fx.1.2.2.2.2
  have n_83 : ∀ (rec4 : Int32 → Int32 → Int32 → Option Int32) (_ : ∀ (a1 : Int32) (a2 : Int32) (a3 : Int32) (H : Heap) (locs : List Loc) (ls : Array Slot), lv_has ls 4 [(0, .ref (ad 9)), (1, .int a1), (2, .int a2), (3, .int a3)] → WD D cy ad s M H locs → rec4 a1 a2 a3 = some z → W p l e R s m args below meth c H locs 0 0 Q (F0 m 4 ls [])) , ∀ (a1 : Int32) (a2 : Int32) (a3 : Int32) (H : Heap) (locs : List Loc) (ls : Array Slot), lv_has ls 4 [(0, .ref (ad 9)), (1, .int a1), (2, .int a2), (3, .int a3)] → WD D cy ad s M H locs → f_X6_metBy_83 M rec4 a1 a2 a3 = some z → W p l e R s m args below meth c H locs 0 0 Q (F0 m 83 ls []) := by
    intro rec4 hr4 a1 a2 a3 H locs ls hl hw hF
    unfold f_X6_metBy_83 at hF
    refine lv_iinc (v := (a3 + 1)) (lv' := [(3, .int (a3 + 1)), (0, .ref (ad 9)), (1, .int a1), (2, .int a2)]) hx hb dX6_metBy_83 hl (k := 3) rfl rfl (by decide) rfl (fun ls hl => ?_)
    refine lv_goto (tgt := 4) hx hb dX6_metBy_86 (by decide) ?_
    exact hr4 a1 a2 (a3 + 1) H locs ls (lv_sub hl [1, 2, 3, 0] rfl) hw hF
  have n_4 : ∀ (n9 : Nat), ∀ (a1 : Int32) (a2 : Int32) (a3 : Int32) (H : Heap) (locs : List Loc) (ls : Array Slot), lv_has ls 4 [(0, .ref (ad 9)), (1, .int a1), (2, .int a2), (3, .int a3)] → WD D cy ad s M H locs → (lp (fun _ _ _ => none) (f_X6_metBy_4 M) n9) a1 a2 a3 = some z → W p l e R s m args below meth c H locs 0 0 Q (F0 m 4 ls []) := by
    intro n9
    refine lp_ind (fun (rec4 : Int32 → Int32 → Int32 → Option Int32) => ∀ (a1 : Int32) (a2 : Int32) (a3 : Int32) (H : Heap) (locs : List Loc) (ls : Array Slot), lv_has ls 4 [(0, .ref (ad 9)), (1, .int a1), (2, .int a2), (3, .int a3)] → WD D cy ad s M H locs → rec4 a1 a2 a3 = some z → W p l e R s m args below meth c H locs 0 0 Q (F0 m 4 ls [])) ?_ ?_ n9
    · intro a1 a2 a3 H locs ls hl hw hF
      exact nomatch hF
    · intro rec4 hr4 a1 a2 a3 H locs ls hl hw hF
      unfold f_X6_metBy_4 at hF
      refine lv_iload_n hx hb dX6_metBy_4 rfl (lv_at hl 3 rfl) ?_
      refine lv_aload_n hx hb dX6_metBy_5 rfl (lv_at hl 0 rfl) ?_
      refine gX6_get fx hw isO_9 0 (by decide) wd5_19 rfl dX6_metBy_6 ?_
      refine lv_iconst (v := 0) hx hb dX6_metBy_9 (by decide) ?_
      refine g_ialdc fx hw isA_10 (k := 0) rfl (by decide) dX6_metBy_10 ?_
      refine lv_icmp_ge (tgt := 89) hx hb dX6_metBy_11 (by decide) (fun hc11 => ?_) (fun hc11 => ?_)
      · replace hF := st_t hc11 hF
        refine lv_iload_n hx hb dX6_metBy_89 rfl (lv_at hl 2 rfl) ?_
        exact E _ _ _ _ _ dX6_metBy_90 hw hF
      · replace hF := st_f hc11 hF
        refine lv_iload_n hx hb dX6_metBy_14 rfl (lv_at hl 3 rfl) ?_
        refine lv_iload_n hx hb dX6_metBy_15 rfl (lv_at hl 1 rfl) ?_
        refine lv_icmp_eq (tgt := 83) hx hb dX6_metBy_16 (by decide) (fun hc16 => ?_) (fun hc16 => ?_)
        · replace hF := st_t hc16 hF
          exact n_83 rec4 hr4 a1 a2 a3 H locs ls (lv_sub hl [0, 1, 2, 3] rfl) hw hF
        · replace hF := st_f hc16 hF
          refine lv_aload_n hx hb dX6_metBy_19 rfl (lv_at hl 0 rfl) ?_
          refine gX6_get fx hw isO_9 0 (by decide) wd5_19 rfl dX6_metBy_20 ?_
          refine lv_iload_n hx hb dX6_metBy_23 rfl (lv_at hl 3 rfl) ?_
          refine lv_iconst (v := 1) hx hb dX6_metBy_24 (by decide) ?_
          obtain ⟨r23, hgr23, hF⟩ := st_bnd hF
          refine g_ci hw (g_runS (As := [.int a3, .int 1]) (rest := [.ref (ad 10)]) fx hw (c_X6_mo l x D cy ad a3 1 H.size M r23 hgr23) wd5_16 wd5_17 wd1_8 wd5_18 yd_X6_mo rfl rfl (Nat.le_of_ble_eq_true rfl) hl.1 ⟨Nat.le_trans (Nat.le_of_ble_eq_true rfl) hR.1, Nat.le_trans (Nat.le_of_ble_eq_true rfl) hR.2.1⟩ ⟨Nat.le_trans (Nat.le_of_ble_eq_true rfl) hR.2.2.1, Nat.le_trans (Nat.le_of_ble_eq_true rfl) hR.2.2.2⟩ dX6_metBy_25) (fun H locs hw => ?_)
          obtain ⟨hi24, hF⟩ := st_chk hF
          refine g_iald fx hw isA_10 hi24 dX6_metBy_28 ?_
          refine lv_aload_n hx hb dX6_metBy_29 rfl (lv_at hl 0 rfl) ?_
          refine gX6_get fx hw isO_9 0 (by decide) wd5_19 rfl dX6_metBy_30 ?_
          refine lv_iload_n hx hb dX6_metBy_33 rfl (lv_at hl 1 rfl) ?_
          refine lv_iconst (v := 1) hx hb dX6_metBy_34 (by decide) ?_
          obtain ⟨r25, hgr25, hF⟩ := st_bnd hF
          refine g_ci hw (g_runS (As := [.int a1, .int 1]) (rest := [.ref (ad 10), .int (M 10 (ix r23))]) fx hw (c_X6_mo l x D cy ad a1 1 H.size M r25 hgr25) wd5_16 wd5_17 wd1_8 wd5_18 yd_X6_mo rfl rfl (Nat.le_of_ble_eq_true rfl) hl.1 ⟨Nat.le_trans (Nat.le_of_ble_eq_true rfl) hR.1, Nat.le_trans (Nat.le_of_ble_eq_true rfl) hR.2.1⟩ ⟨Nat.le_trans (Nat.le_of_ble_eq_true rfl) hR.2.2.1, Nat.le_trans (Nat.le_of_ble_eq_true rfl) hR.2.2.2⟩ dX6_metBy_35) (fun H locs hw => ?_)
          obtain ⟨hi26, hF⟩ := st_chk hF
          refine g_iald fx hw isA_10 hi26 dX6_metBy_38 ?_
          refine lv_icmp_le (tgt := 45) hx hb dX6_metBy_39 (by decide) (fun hc39 => ?_) (fun hc39 => ?_)
          · replace hF := st_t hc39 hF
            refine lv_iload_n hx hb dX6_metBy_45 rfl (lv_at hl 2 rfl) ?_
            refine lv_aload_n hx hb dX6_metBy_46 rfl (lv_at hl 0 rfl) ?_
            refine gX6_get fx hw isO_9 0 (by decide) wd5_19 rfl dX6_metBy_47 ?_
            refine lv_iload_n hx hb dX6_metBy_50 rfl (lv_at hl 3 rfl) ?_
            refine lv_iconst (v := 3) hx hb dX6_metBy_51 (by decide) ?_
            obtain ⟨r27, hgr27, hF⟩ := st_bnd hF
            refine g_ci hw (g_runS (As := [.int a3, .int 3]) (rest := [.ref (ad 10), .int a2]) fx hw (c_X6_mo l x D cy ad a3 3 H.size M r27 hgr27) wd5_16 wd5_17 wd1_8 wd5_18 yd_X6_mo rfl rfl (Nat.le_of_ble_eq_true rfl) hl.1 ⟨Nat.le_trans (Nat.le_of_ble_eq_true rfl) hR.1, Nat.le_trans (Nat.le_of_ble_eq_true rfl) hR.2.1⟩ ⟨Nat.le_trans (Nat.le_of_ble_eq_true rfl) hR.2.2.1, Nat.le_trans (Nat.le_of_ble_eq_true rfl) hR.2.2.2⟩ dX6_metBy_52) (fun H locs hw => ?_)
            obtain ⟨hi28, hF⟩ := st_chk hF
            refine g_iald fx hw isA_10 hi28 dX6_metBy_55 ?_
            refine lv_aload_n hx hb dX6_metBy_56 rfl (lv_at hl 0 rfl) ?_
            refine gX6_get fx hw isO_9 0 (by decide) wd5_19 rfl dX6_metBy_57 ?_
            refine lv_iload_n hx hb dX6_metBy_60 rfl (lv_at hl 3 rfl) ?_
            refine lv_iconst (v := 2) hx hb dX6_metBy_61 (by decide) ?_
            obtain ⟨r29, hgr29, hF⟩ := st_bnd hF
            refine g_ci hw (g_runS (As := [.int a3, .int 2]) (rest := [.ref (ad 10), .int (M 10 (ix r27)), .int a2]) fx hw (c_X6_mo l x D cy ad a3 2 H.size M r29 hgr29) wd5_16 wd5_17 wd1_8 wd5_18 yd_X6_mo rfl rfl (Nat.le_of_ble_eq_true rfl) hl.1 ⟨Nat.le_trans (Nat.le_of_ble_eq_true rfl) hR.1, Nat.le_trans (Nat.le_of_ble_eq_true rfl) hR.2.1⟩ ⟨Nat.le_trans (Nat.le_of_ble_eq_true rfl) hR.2.2.1, Nat.le_trans (Nat.le_of_ble_eq_true rfl) hR.2.2.2⟩ dX6_metBy_62) (fun H locs hw => ?_)
            obtain ⟨hi30, hF⟩ := st_chk hF
            refine g_iald fx hw isA_10 hi30 dX6_metBy_65 ?_
            refine lv_iand hx hb dX6_metBy_66 ?_
            refine lv_aload_n hx hb dX6_metBy_67 rfl (lv_at hl 0 rfl) ?_
            refine gX6_get fx hw isO_9 0 (by decide) wd5_19 rfl dX6_metBy_68 ?_
            refine lv_iload_n hx hb dX6_metBy_71 rfl (lv_at hl 1 rfl) ?_
            refine lv_iconst (v := 2) hx hb dX6_metBy_72 (by decide) ?_
            obtain ⟨r31, hgr31, hF⟩ := st_bnd hF
            refine g_ci hw (g_runS (As := [.int a1, .int 2]) (rest := [.ref (ad 10), .int ((M 10 (ix r27)) &&& (M 10 (ix r29))), .int a2]) fx hw (c_X6_mo l x D cy ad a1 2 H.size M r31 hgr31) wd5_16 wd5_17 wd1_8 wd5_18 yd_X6_mo rfl rfl (Nat.le_of_ble_eq_true rfl) hl.1 ⟨Nat.le_trans (Nat.le_of_ble_eq_true rfl) hR.1, Nat.le_trans (Nat.le_of_ble_eq_true rfl) hR.2.1⟩ ⟨Nat.le_trans (Nat.le_of_ble_eq_true rfl) hR.2.2.1, Nat.le_trans (Nat.le_of_ble_eq_true rfl) hR.2.2.2⟩ dX6_metBy_73) (fun H locs hw => ?_)
            obtain ⟨hi32, hF⟩ := st_chk hF
            refine g_iald fx hw isA_10 hi32 dX6_metBy_76 ?_
            refine lv_iand hx hb dX6_metBy_77 ?_
            obtain ⟨r33, hgr33, hF⟩ := st_bnd hF
            refine g_ci hw (g_runS (As := [.int (((M 10 (ix r27)) &&& (M 10 (ix r29))) &&& (M 10 (ix r31)))]) (rest := [.int a2]) fx hw (c_X6_bits l x D cy ad (((M 10 (ix r27)) &&& (M 10 (ix r29))) &&& (M 10 (ix r31))) H.size M r33 hgr33) wd5_131 wd5_132 wd1_8 wd5_133 yd_X6_bits rfl rfl (Nat.le_of_ble_eq_true rfl) hl.1 ⟨Nat.le_trans (Nat.le_of_ble_eq_true rfl) hR.1, Nat.le_trans (Nat.le_of_ble_eq_true rfl) hR.2.1⟩ ⟨Nat.le_trans (Nat.le_of_ble_eq_true rfl) hR.2.2.1, Nat.le_trans (Nat.le_of_ble_eq_true rfl) hR.2.2.2⟩ dX6_metBy_78) (fun H locs hw => ?_)
            refine lv_iadd hx hb dX6_metBy_81 ?_
            refine lv_istore_n (lv' := [(2, .int (a2 + r33)), (0, .ref (ad 9)), (1, .int a1), (3, .int a3)]) hx hb dX6_metBy_82 rfl hl (by decide) rfl (fun ls hl => ?_)
            exact n_83 rec4 hr4 a1 (a2 + r33) a3 H locs ls (lv_sub hl [1, 2, 0, 3] rfl) hw hF
          · replace hF := st_f hc39 hF
            refine lv_goto (tgt := 83) hx hb dX6_metBy_42 (by decide) ?_
            exact n_83 rec4 hr4 a1 a2 a3 H locs ls (lv_sub hl [0, 1, 2, 3] rfl) hw hF
  unfold f_X6_metBy at hF
  refine lv_iconst (v := 0) hx hb dX6_metBy_0 (by decide) ?_
  refine lv_istore_n (lv' := [(2, .int 0), (0, .ref (ad 9)), (1, .int p1)]) hx hb dX6_metBy_1 rfl hl (by decide) rfl (fun ls hl => ?_)
  refine lv_iconst (v := 0) hx hb dX6_metBy_2 (by decide) ?_
  refine lv_istore_n (lv' := [(3, .int 0), (2, .int 0), (0, .ref (ad 9)), (1, .int p1)]) hx hb dX6_metBy_3 rfl hl (by decide) rfl (fun ls hl => ?_)
  exact n_4 FU p1 0 0 H locs ls (lv_sub hl [2, 3, 1, 0] rfl) hw hF
theorem c_X6_metBy (l : Launch) (x : SX) (D : va_G) (cy : Nat → ClassId) (ad : Nat → Nat) (p1 : Int32) (sz : Nat) (M : Mem) (z : Int32) (hF : f_X6_metBy p1 M = some z) : Met l yX6_metBy (.code yX6_metBy cX6_metBy 4 (some .int) :: GB) ({ frames := 1, cells := 0, slots := 0, locals := 22 } : Room) (PcW D cy ad x sz M [.ref (ad 9), .int p1]) (QiW D cy ad sz z M) 0 0 (AA ad sz) := by
  refine mk_m (own := RX6) (by decide) rfl (Nat.le_of_ble_eq_true rfl) ?_
  intro p e s m args below meth c ls fx hw hl hsz
  subst hsz
  exact b_X6_metBy fx ⟨Nat.le_refl _, Nat.le_refl _, Nat.le_refl _, Nat.le_refl _⟩ p1 M z hF (fun pc ls H locs v hd hw h => by cases h; exact g_iret fx hw rfl hd) _ _ ls hl hw
noncomputable def f_X6_bestHearer_34 (rec9 : Int32 → Int32 → Mem → Option (Int32 × Mem)) : Int32 → Int32 → Mem → Option (Int32 × Mem) := fun a1 a2 M => (rec9 a1 (a2 + 1) M)
noncomputable def f_X6_bestHearer_9 (rec9 : Int32 → Int32 → Mem → Option (Int32 × Mem)) : Int32 → Int32 → Mem → Option (Int32 × Mem) := fun a1 a2 M => (if (M 10 0) ≤ a2 then (some (a1, M)) else (bnd (f_X6_metBy a2 M) (fun r7 => (bnd (f_X6_metBy a1 M) (fun r8 => (if r7 ≤ r8 then ((f_X6_bestHearer_34 rec9) a1 a2 M) else ((f_X6_bestHearer_34 rec9) a2 a2 M)))))))
noncomputable def f_X6_bestHearer (M : Mem) : Option (Int32 × Mem) := (letM (mput M 9 6 0) (fun M9 => ((lp (fun _ _ _ => none) (f_X6_bestHearer_9) FU) 0 1 M9)))
set_option maxHeartbeats 4000000 in
set_option maxRecDepth 100000 in
theorem b_X6_bestHearer {p : Program} {l : Launch} {e : Env} {R : Room} {s : State} {m : MethodId} {args : Array Value} {below : List Frame} {meth : Method} {c : Code} {Q : State → Prop} {D : va_G} {cy : Nat → ClassId} {ad : Nat → Nat} {x : SX} (fx : FX p s m args meth c cX6_bestHearer 3 (some .int) RX6 D cy ad x) (hR : 2 ≤ R.frames ∧ 45 ≤ R.locals ∧ 0 ≤ R.cells ∧ 0 ≤ R.slots) (M : Mem) (z : Int32) (M' : Mem) (hF : f_X6_bestHearer M = some (z, M')) (E : ∀ (pc : Nat) (ls : Array Slot) (H : Heap) (locs : List Loc) (v : Int32) (M1 : Mem), decode cX6_bestHearer pc = .ok (.ireturn, 1) → WD D cy ad s M1 H locs → some (v, M1) = some (z, M') → W p l e R s m args below meth c H locs 0 0 Q (F0 m pc ls [.int v])) (H : Heap) (locs : List Loc) (ls : Array Slot) (hl : lv_has ls 3 [(0, .ref (ad 9))]) (hw : WD D cy ad s M H locs) : W p l e R s m args below meth c H locs 0 0 Q (F0 m 0 ls []) := by
  have hx := fx.1.1
  have hb := fx.1.2.1
  have hown := fx.1.2.2.2.1
  have hts := fx.1.2.2.2.2
  have n_34 : ∀ (rec9 : Int32 → Int32 → Mem → Option (Int32 × Mem)) (_ : ∀ (a1 : Int32) (a2 : Int32) (M : Mem) (H : Heap) (locs : List Loc) (ls : Array Slot), lv_has ls 3 [(0, .ref (ad 9)), (1, .int a1), (2, .int a2)] → WD D cy ad s M H locs → rec9 a1 a2 M = some (z, M') → W p l e R s m args below meth c H locs 0 0 Q (F0 m 9 ls [])) , ∀ (a1 : Int32) (a2 : Int32) (M : Mem) (H : Heap) (locs : List Loc) (ls : Array Slot), lv_has ls 3 [(0, .ref (ad 9)), (1, .int a1), (2, .int a2)] → WD D cy ad s M H locs → f_X6_bestHearer_34 rec9 a1 a2 M = some (z, M') → W p l e R s m args below meth c H locs 0 0 Q (F0 m 34 ls []) := by
    intro rec9 hr9 a1 a2 M H locs ls hl hw hF
    unfold f_X6_bestHearer_34 at hF
    refine lv_iinc (v := (a2 + 1)) (lv' := [(2, .int (a2 + 1)), (0, .ref (ad 9)), (1, .int a1)]) hx hb dX6_bestHearer_34 hl (k := 2) rfl rfl (by decide) rfl (fun ls hl => ?_)
    refine lv_goto (tgt := 9) hx hb dX6_bestHearer_37 (by decide) ?_
    exact hr9 a1 (a2 + 1) M H locs ls (lv_sub hl [1, 2, 0] rfl) hw hF
  have n_9 : ∀ (n9 : Nat), ∀ (a1 : Int32) (a2 : Int32) (M : Mem) (H : Heap) (locs : List Loc) (ls : Array Slot), lv_has ls 3 [(0, .ref (ad 9)), (1, .int a1), (2, .int a2)] → WD D cy ad s M H locs → (lp (fun _ _ _ => none) (f_X6_bestHearer_9) n9) a1 a2 M = some (z, M') → W p l e R s m args below meth c H locs 0 0 Q (F0 m 9 ls []) := by
    intro n9
    refine lp_ind (fun (rec9 : Int32 → Int32 → Mem → Option (Int32 × Mem)) => ∀ (a1 : Int32) (a2 : Int32) (M : Mem) (H : Heap) (locs : List Loc) (ls : Array Slot), lv_has ls 3 [(0, .ref (ad 9)), (1, .int a1), (2, .int a2)] → WD D cy ad s M H locs → rec9 a1 a2 M = some (z, M') → W p l e R s m args below meth c H locs 0 0 Q (F0 m 9 ls [])) ?_ ?_ n9
    · intro a1 a2 M H locs ls hl hw hF
      exact nomatch hF
    · intro rec9 hr9 a1 a2 M H locs ls hl hw hF
      unfold f_X6_bestHearer_9 at hF
      refine lv_iload_n hx hb dX6_bestHearer_9 rfl (lv_at hl 2 rfl) ?_
      refine lv_aload_n hx hb dX6_bestHearer_10 rfl (lv_at hl 0 rfl) ?_
      refine gX6_get fx hw isO_9 0 (by decide) wd5_19 rfl dX6_bestHearer_11 ?_
      refine lv_iconst (v := 0) hx hb dX6_bestHearer_14 (by decide) ?_
      refine g_ialdc fx hw isA_10 (k := 0) rfl (by decide) dX6_bestHearer_15 ?_
      refine lv_icmp_ge (tgt := 40) hx hb dX6_bestHearer_16 (by decide) (fun hc16 => ?_) (fun hc16 => ?_)
      · replace hF := st_t hc16 hF
        refine lv_iload_n hx hb dX6_bestHearer_40 rfl (lv_at hl 1 rfl) ?_
        exact E _ _ _ _ _ _ dX6_bestHearer_41 hw hF
      · replace hF := st_f hc16 hF
        refine lv_aload_n hx hb dX6_bestHearer_19 rfl (lv_at hl 0 rfl) ?_
        refine lv_iload_n hx hb dX6_bestHearer_20 rfl (lv_at hl 2 rfl) ?_
        obtain ⟨r7, hgr7, hF⟩ := st_bnd hF
        refine g_ci hw (g_runV (C := RX6) (As := [.int a2]) (rest := []) fx hw isO_9 rfl (c_X6_metBy l x D cy ad a2 H.size M r7 hgr7) wd6_43 wd6_45 wd0_69 wd1_8 wd6_46 yd_X6_metBy rfl rfl (Nat.le_of_ble_eq_true rfl) hl.1 ⟨Nat.le_trans (Nat.le_of_ble_eq_true rfl) hR.1, Nat.le_trans (Nat.le_of_ble_eq_true rfl) hR.2.1⟩ ⟨Nat.le_trans (Nat.le_of_ble_eq_true rfl) hR.2.2.1, Nat.le_trans (Nat.le_of_ble_eq_true rfl) hR.2.2.2⟩ dX6_bestHearer_21) (fun H locs hw => ?_)
        refine lv_aload_n hx hb dX6_bestHearer_24 rfl (lv_at hl 0 rfl) ?_
        refine lv_iload_n hx hb dX6_bestHearer_25 rfl (lv_at hl 1 rfl) ?_
        obtain ⟨r8, hgr8, hF⟩ := st_bnd hF
        refine g_ci hw (g_runV (C := RX6) (As := [.int a1]) (rest := [.int r7]) fx hw isO_9 rfl (c_X6_metBy l x D cy ad a1 H.size M r8 hgr8) wd6_43 wd6_45 wd0_69 wd1_8 wd6_46 yd_X6_metBy rfl rfl (Nat.le_of_ble_eq_true rfl) hl.1 ⟨Nat.le_trans (Nat.le_of_ble_eq_true rfl) hR.1, Nat.le_trans (Nat.le_of_ble_eq_true rfl) hR.2.1⟩ ⟨Nat.le_trans (Nat.le_of_ble_eq_true rfl) hR.2.2.1, Nat.le_trans (Nat.le_of_ble_eq_true rfl) hR.2.2.2⟩ dX6_bestHearer_26) (fun H locs hw => ?_)
        refine lv_icmp_le (tgt := 34) hx hb dX6_bestHearer_29 (by decide) (fun hc29 => ?_) (fun hc29 => ?_)
        · replace hF := st_t hc29 hF
          exact n_34 rec9 hr9 a1 a2 M H locs ls (lv_sub hl [0, 1, 2] rfl) hw hF
        · replace hF := st_f hc29 hF
          refine lv_iload_n hx hb dX6_bestHearer_32 rfl (lv_at hl 2 rfl) ?_
          refine lv_istore_n (lv' := [(1, .int a2), (0, .ref (ad 9)), (2, .int a2)]) hx hb dX6_bestHearer_33 rfl hl (by decide) rfl (fun ls hl => ?_)
          exact n_34 rec9 hr9 a2 a2 M H locs ls (lv_sub hl [1, 0, 2] rfl) hw hF
  unfold f_X6_bestHearer at hF
  refine lv_aload_n hx hb dX6_bestHearer_0 rfl (lv_at hl 0 rfl) ?_
  refine lv_iconst (v := 0) hx hb dX6_bestHearer_1 (by decide) ?_
  obtain ⟨M9, eM9, hF⟩ := st_letM hF
  refine gX6_put fx hw isO_9 6 (by decide) wd5_25 rfl eM9 rfl (Nat.le_of_ble_eq_true rfl) dX6_bestHearer_2 (fun H locs hw => ?_)
  refine lv_iconst (v := 0) hx hb dX6_bestHearer_5 (by decide) ?_
  refine lv_istore_n (lv' := [(1, .int 0), (0, .ref (ad 9))]) hx hb dX6_bestHearer_6 rfl hl (by decide) rfl (fun ls hl => ?_)
  refine lv_iconst (v := 1) hx hb dX6_bestHearer_7 (by decide) ?_
  refine lv_istore_n (lv' := [(2, .int 1), (1, .int 0), (0, .ref (ad 9))]) hx hb dX6_bestHearer_8 rfl hl (by decide) rfl (fun ls hl => ?_)
  exact n_9 FU 0 1 M9 H locs ls (lv_sub hl [2, 1, 0] rfl) hw hF
theorem c_X6_bestHearer (l : Launch) (x : SX) (D : va_G) (cy : Nat → ClassId) (ad : Nat → Nat) (sz : Nat) (M : Mem) (z : Int32) (M' : Mem) (hF : f_X6_bestHearer M = some (z, M')) : Met l yX6_bestHearer (.code yX6_bestHearer cX6_bestHearer 3 (some .int) :: GB) ({ frames := 2, cells := 0, slots := 0, locals := 45 } : Room) (PcW D cy ad x sz M [.ref (ad 9)]) (QiW D cy ad sz z M') 0 0 (AA ad sz) := by
  refine mk_m (own := RX6) (by decide) rfl (Nat.le_of_ble_eq_true rfl) ?_
  intro p e s m args below meth c ls fx hw hl hsz
  subst hsz
  exact b_X6_bestHearer fx ⟨Nat.le_refl _, Nat.le_refl _, Nat.le_refl _, Nat.le_refl _⟩ M z M' hF (fun pc ls H locs v M1 hd hw h => by cases h; exact g_iret fx hw rfl hd) _ _ ls hl hw
noncomputable def f_X6_wants (p1 p2 : Int32) (M : Mem) : Option (Int32 × Mem) := (bnd (f_X6_mo p1 3 M) (fun r8 => (chk (inB r8 156) (chk (inB r8 156) (letM (mput M 10 (ix r8) ((M 10 (ix r8)) ||| (ishl 1 p2))) (fun M10 => (bnd (f_X6_mo p1 3 M10) (fun r12 => (chk (inB r12 156) (bnd (f_X6_bits (M10 10 (ix r12)) M10) (fun r14 => (some (r14, M10)))))))))))))
set_option maxHeartbeats 4000000 in
set_option maxRecDepth 100000 in
theorem b_X6_wants {p : Program} {l : Launch} {e : Env} {R : Room} {s : State} {m : MethodId} {args : Array Value} {below : List Frame} {meth : Method} {c : Code} {Q : State → Prop} {D : va_G} {cy : Nat → ClassId} {ad : Nat → Nat} {x : SX} (fx : FX p s m args meth c cX6_wants 3 (some .int) RX6 D cy ad x) (hR : 1 ≤ R.frames ∧ 22 ≤ R.locals ∧ 0 ≤ R.cells ∧ 0 ≤ R.slots) (p1 p2 : Int32) (M : Mem) (z : Int32) (M' : Mem) (hF : f_X6_wants p1 p2 M = some (z, M')) (E : ∀ (pc : Nat) (ls : Array Slot) (H : Heap) (locs : List Loc) (v : Int32) (M1 : Mem), decode cX6_wants pc = .ok (.ireturn, 1) → WD D cy ad s M1 H locs → some (v, M1) = some (z, M') → W p l e R s m args below meth c H locs 0 0 Q (F0 m pc ls [.int v])) (H : Heap) (locs : List Loc) (ls : Array Slot) (hl : lv_has ls 3 [(0, .ref (ad 9)), (1, .int p1), (2, .int p2)]) (hw : WD D cy ad s M H locs) : W p l e R s m args below meth c H locs 0 0 Q (F0 m 0 ls []) := by
  have hx := fx.1.1
  have hb := fx.1.2.1
  have hown := fx.1.2.2.2.1
  have hts := fx.1.2.2.2.2
  unfold f_X6_wants at hF
  refine lv_aload_n hx hb dX6_wants_0 rfl (lv_at hl 0 rfl) ?_
  refine gX6_get fx hw isO_9 0 (by decide) wd5_19 rfl dX6_wants_1 ?_
  refine lv_iload_n hx hb dX6_wants_4 rfl (lv_at hl 1 rfl) ?_
  refine lv_iconst (v := 3) hx hb dX6_wants_5 (by decide) ?_
  obtain ⟨r8, hgr8, hF⟩ := st_bnd hF
  refine g_ci hw (g_runS (As := [.int p1, .int 3]) (rest := [.ref (ad 10)]) fx hw (c_X6_mo l x D cy ad p1 3 H.size M r8 hgr8) wd5_16 wd5_17 wd1_8 wd5_18 yd_X6_mo rfl rfl (Nat.le_of_ble_eq_true rfl) hl.1 ⟨Nat.le_trans (Nat.le_of_ble_eq_true rfl) hR.1, Nat.le_trans (Nat.le_of_ble_eq_true rfl) hR.2.1⟩ ⟨Nat.le_trans (Nat.le_of_ble_eq_true rfl) hR.2.2.1, Nat.le_trans (Nat.le_of_ble_eq_true rfl) hR.2.2.2⟩ dX6_wants_6) (fun H locs hw => ?_)
  refine lv_dup2_11 hx hb dX6_wants_9 rfl rfl ?_
  obtain ⟨hi9, hF⟩ := st_chk hF
  refine g_iald fx hw isA_10 hi9 dX6_wants_10 ?_
  refine lv_iconst (v := 1) hx hb dX6_wants_11 (by decide) ?_
  refine lv_iload_n hx hb dX6_wants_12 rfl (lv_at hl 2 rfl) ?_
  refine g_ishl hx hb dX6_wants_13 ?_
  refine lv_ior hx hb dX6_wants_14 ?_
  obtain ⟨hi11, hF⟩ := st_chk hF
  obtain ⟨M10, eM10, hF⟩ := st_letM hF
  refine g_iast fx hw isA_10 hi11 eM10 dX6_wants_15 (fun H locs hw => ?_)
  refine lv_aload_n hx hb dX6_wants_16 rfl (lv_at hl 0 rfl) ?_
  refine gX6_get fx hw isO_9 0 (by decide) wd5_19 rfl dX6_wants_17 ?_
  refine lv_iload_n hx hb dX6_wants_20 rfl (lv_at hl 1 rfl) ?_
  refine lv_iconst (v := 3) hx hb dX6_wants_21 (by decide) ?_
  obtain ⟨r12, hgr12, hF⟩ := st_bnd hF
  refine g_ci hw (g_runS (As := [.int p1, .int 3]) (rest := [.ref (ad 10)]) fx hw (c_X6_mo l x D cy ad p1 3 H.size M10 r12 hgr12) wd5_16 wd5_17 wd1_8 wd5_18 yd_X6_mo rfl rfl (Nat.le_of_ble_eq_true rfl) hl.1 ⟨Nat.le_trans (Nat.le_of_ble_eq_true rfl) hR.1, Nat.le_trans (Nat.le_of_ble_eq_true rfl) hR.2.1⟩ ⟨Nat.le_trans (Nat.le_of_ble_eq_true rfl) hR.2.2.1, Nat.le_trans (Nat.le_of_ble_eq_true rfl) hR.2.2.2⟩ dX6_wants_22) (fun H locs hw => ?_)
  obtain ⟨hi13, hF⟩ := st_chk hF
  refine g_iald fx hw isA_10 hi13 dX6_wants_25 ?_
  obtain ⟨r14, hgr14, hF⟩ := st_bnd hF
  refine g_ci hw (g_runS (As := [.int (M10 10 (ix r12))]) (rest := []) fx hw (c_X6_bits l x D cy ad (M10 10 (ix r12)) H.size M10 r14 hgr14) wd5_131 wd5_132 wd1_8 wd5_133 yd_X6_bits rfl rfl (Nat.le_of_ble_eq_true rfl) hl.1 ⟨Nat.le_trans (Nat.le_of_ble_eq_true rfl) hR.1, Nat.le_trans (Nat.le_of_ble_eq_true rfl) hR.2.1⟩ ⟨Nat.le_trans (Nat.le_of_ble_eq_true rfl) hR.2.2.1, Nat.le_trans (Nat.le_of_ble_eq_true rfl) hR.2.2.2⟩ dX6_wants_26) (fun H locs hw => ?_)
  exact E _ _ _ _ _ _ dX6_wants_29 hw hF
theorem c_X6_wants (l : Launch) (x : SX) (D : va_G) (cy : Nat → ClassId) (ad : Nat → Nat) (p1 p2 : Int32) (sz : Nat) (M : Mem) (z : Int32) (M' : Mem) (hF : f_X6_wants p1 p2 M = some (z, M')) : Met l yX6_wants (.code yX6_wants cX6_wants 3 (some .int) :: GB) ({ frames := 1, cells := 0, slots := 0, locals := 22 } : Room) (PcW D cy ad x sz M [.ref (ad 9), .int p1, .int p2]) (QiW D cy ad sz z M') 0 0 (AA ad sz) := by
  refine mk_m (own := RX6) (by decide) rfl (Nat.le_of_ble_eq_true rfl) ?_
  intro p e s m args below meth c ls fx hw hl hsz
  subst hsz
  exact b_X6_wants fx ⟨Nat.le_refl _, Nat.le_refl _, Nat.le_refl _, Nat.le_refl _⟩ p1 p2 M z M' hF (fun pc ls H locs v M1 hd hw h => by cases h; exact g_iret fx hw rfl hd) _ _ ls hl hw
noncomputable def f_X6_want_22 : Int32 → Int32 → Int32 → Mem → Option (Int32 × Mem) := fun a1 a2 t1 M => (letM (mput M 9 6 t1) (fun M17 => (if (M17 9 6) ≤ 0 then (bnd (f_X6_isSet a1 3 a2 M17) (fun r18 => (if r18 = 0 then (bnd (f_X6_keeps 10 M17) (fun M20 => (bnd2 (f_X6_wants a1 a2 M20) (fun r21 M22 => (some (r21, M22)))))) else (some ((-11), M17))))) else (some (0, M17)))))
noncomputable def f_X6_want_21 : Int32 → Int32 → Mem → Option (Int32 × Mem) := fun a1 a2 M => ((f_X6_want_22) a1 a2 1 M)
noncomputable def f_X6_want (p1 p2 : Int32) (M : Mem) : Option (Int32 × Mem) := (bnd (f_X6_isMonk p1 M) (fun r23 => (if r23 = 0 then ((f_X6_want_21) p1 p2 M) else (bnd (f_X6_isNeed p2 M) (fun r24 => (if r24 = 0 then ((f_X6_want_21) p1 p2 M) else ((f_X6_want_22) p1 p2 0 M)))))))
set_option maxHeartbeats 4000000 in
set_option maxRecDepth 100000 in
theorem b_X6_want {p : Program} {l : Launch} {e : Env} {R : Room} {s : State} {m : MethodId} {args : Array Value} {below : List Frame} {meth : Method} {c : Code} {Q : State → Prop} {D : va_G} {cy : Nat → ClassId} {ad : Nat → Nat} {x : SX} (fx : FX p s m args meth c cX6_want 3 (some .int) RX6 D cy ad x) (hR : 2 ≤ R.frames ∧ 46 ≤ R.locals ∧ 0 ≤ R.cells ∧ 0 ≤ R.slots) (p1 p2 : Int32) (M : Mem) (z : Int32) (M' : Mem) (hF : f_X6_want p1 p2 M = some (z, M')) (E : ∀ (pc : Nat) (ls : Array Slot) (H : Heap) (locs : List Loc) (v : Int32) (M1 : Mem), decode cX6_want pc = .ok (.ireturn, 1) → WD D cy ad s M1 H locs → some (v, M1) = some (z, M') → W p l e R s m args below meth c H locs 0 0 Q (F0 m pc ls [.int v])) (H : Heap) (locs : List Loc) (ls : Array Slot) (hl : lv_has ls 3 [(0, .ref (ad 9)), (1, .int p1), (2, .int p2)]) (hw : WD D cy ad s M H locs) : W p l e R s m args below meth c H locs 0 0 Q (F0 m 0 ls []) := by
  have hx := fx.1.1
  have hb := fx.1.2.1
  have hown := fx.1.2.2.2.1
  have hts := fx.1.2.2.2.2
  have n_22 : ∀ (a1 : Int32) (a2 : Int32) (t1 : Int32) (M : Mem) (H : Heap) (locs : List Loc) (ls : Array Slot), lv_has ls 3 [(0, .ref (ad 9)), (1, .int a1), (2, .int a2)] → WD D cy ad s M H locs → f_X6_want_22 a1 a2 t1 M = some (z, M') → W p l e R s m args below meth c H locs 0 0 Q (F0 m 22 ls [.int t1, .ref (ad 9)]) := by
    intro a1 a2 t1 M H locs ls hl hw hF
    unfold f_X6_want_22 at hF
    obtain ⟨M17, eM17, hF⟩ := st_letM hF
    refine gX6_put fx hw isO_9 6 (by decide) wd5_25 rfl eM17 rfl (Nat.le_of_ble_eq_true rfl) dX6_want_22 (fun H locs hw => ?_)
    refine lv_aload_n hx hb dX6_want_25 rfl (lv_at hl 0 rfl) ?_
    refine gX6_get fx hw isO_9 6 (by decide) wd5_25 rfl dX6_want_26 ?_
    refine lv_if_le (tgt := 34) hx hb dX6_want_29 (by decide) (fun hc29 => ?_) (fun hc29 => ?_)
    · replace hF := st_t hc29 hF
      refine lv_aload_n hx hb dX6_want_34 rfl (lv_at hl 0 rfl) ?_
      refine lv_iload_n hx hb dX6_want_35 rfl (lv_at hl 1 rfl) ?_
      refine lv_iconst (v := 3) hx hb dX6_want_36 (by decide) ?_
      refine lv_iload_n hx hb dX6_want_37 rfl (lv_at hl 2 rfl) ?_
      obtain ⟨r18, hgr18, hF⟩ := st_bnd hF
      refine g_cz hw (g_runV (C := RX6) (As := [.int a1, .int 3, .int a2]) (rest := []) fx hw isO_9 rfl (c_X6_isSet l x D cy ad a1 3 a2 H.size M17 r18 hgr18) wd5_173 wd5_175 wd0_55 wd1_8 wd5_176 yd_X6_isSet rfl rfl (Nat.le_of_ble_eq_true rfl) hl.1 ⟨Nat.le_trans (Nat.le_of_ble_eq_true rfl) hR.1, Nat.le_trans (Nat.le_of_ble_eq_true rfl) hR.2.1⟩ ⟨Nat.le_trans (Nat.le_of_ble_eq_true rfl) hR.2.2.1, Nat.le_trans (Nat.le_of_ble_eq_true rfl) hR.2.2.2⟩ dX6_want_38) (fun H locs hbr18 hw => ?_)
      refine lv_if_eq (tgt := 47) hx hb dX6_want_41 (by decide) (fun hc41 => ?_) (fun hc41 => ?_)
      · replace hF := st_t hc41 hF
        refine lv_aload_n hx hb dX6_want_47 rfl (lv_at hl 0 rfl) ?_
        refine lv_aload_n hx hb dX6_want_48 rfl (lv_at hl 0 rfl) ?_
        refine gX6_get fx hw isO_9 0 (by decide) wd5_19 rfl dX6_want_49 ?_
        obtain ⟨M20, hgr19, hF⟩ := st_bnd hF
        refine g_cv hw (g_runV (C := RX6) (As := [.ref (ad 10)]) (rest := []) fx hw isO_9 rfl (c_X6_keeps l x D cy ad 10 isA_10 H.size M17 M20 hgr19) wd5_99 wd5_101 wd0_42 wd1_8 wd5_102 yd_X6_keeps rfl rfl (Nat.le_of_ble_eq_true rfl) hl.1 ⟨Nat.le_trans (Nat.le_of_ble_eq_true rfl) hR.1, Nat.le_trans (Nat.le_of_ble_eq_true rfl) hR.2.1⟩ ⟨Nat.le_trans (Nat.le_of_ble_eq_true rfl) hR.2.2.1, Nat.le_trans (Nat.le_of_ble_eq_true rfl) hR.2.2.2⟩ dX6_want_52) (fun H locs hw => ?_)
        refine lv_aload_n hx hb dX6_want_55 rfl (lv_at hl 0 rfl) ?_
        refine lv_iload_n hx hb dX6_want_56 rfl (lv_at hl 1 rfl) ?_
        refine lv_iload_n hx hb dX6_want_57 rfl (lv_at hl 2 rfl) ?_
        obtain ⟨r21, M22, hgr21, hF⟩ := st_bnd2 hF
        refine g_ci hw (g_runV (C := RX6) (As := [.int a1, .int a2]) (rest := []) fx hw isO_9 rfl (c_X6_wants l x D cy ad a1 a2 H.size M20 r21 M22 hgr21) wd6_51 wd6_53 wd0_70 wd1_8 wd6_54 yd_X6_wants rfl rfl (Nat.le_of_ble_eq_true rfl) hl.1 ⟨Nat.le_trans (Nat.le_of_ble_eq_true rfl) hR.1, Nat.le_trans (Nat.le_of_ble_eq_true rfl) hR.2.1⟩ ⟨Nat.le_trans (Nat.le_of_ble_eq_true rfl) hR.2.2.1, Nat.le_trans (Nat.le_of_ble_eq_true rfl) hR.2.2.2⟩ dX6_want_58) (fun H locs hw => ?_)
        exact E _ _ _ _ _ _ dX6_want_61 hw hF
      · replace hF := st_f hc41 hF
        refine lv_bipush (v := (-11)) hx hb dX6_want_44 (by decide) ?_
        exact E _ _ _ _ _ _ dX6_want_46 hw hF
    · replace hF := st_f hc29 hF
      refine lv_iconst (v := 0) hx hb dX6_want_32 (by decide) ?_
      exact E _ _ _ _ _ _ dX6_want_33 hw hF
  have n_21 : ∀ (a1 : Int32) (a2 : Int32) (M : Mem) (H : Heap) (locs : List Loc) (ls : Array Slot), lv_has ls 3 [(0, .ref (ad 9)), (1, .int a1), (2, .int a2)] → WD D cy ad s M H locs → f_X6_want_21 a1 a2 M = some (z, M') → W p l e R s m args below meth c H locs 0 0 Q (F0 m 21 ls [.ref (ad 9)]) := by
    intro a1 a2 M H locs ls hl hw hF
    unfold f_X6_want_21 at hF
    refine lv_iconst (v := 1) hx hb dX6_want_21 (by decide) ?_
    exact n_22 a1 a2 1 M H locs ls (lv_sub hl [0, 1, 2] rfl) hw hF
  unfold f_X6_want at hF
  refine lv_aload_n hx hb dX6_want_0 rfl (lv_at hl 0 rfl) ?_
  refine lv_aload_n hx hb dX6_want_1 rfl (lv_at hl 0 rfl) ?_
  refine lv_iload_n hx hb dX6_want_2 rfl (lv_at hl 1 rfl) ?_
  obtain ⟨r23, hgr23, hF⟩ := st_bnd hF
  refine g_cz hw (g_runV (C := RX6) (As := [.int p1]) (rest := [.ref (ad 9)]) fx hw isO_9 rfl (c_X6_isMonk l x D cy ad p1 H.size M r23 hgr23) wd5_146 wd5_148 wd0_50 wd1_8 wd5_149 yd_X6_isMonk rfl rfl (Nat.le_of_ble_eq_true rfl) hl.1 ⟨Nat.le_trans (Nat.le_of_ble_eq_true rfl) hR.1, Nat.le_trans (Nat.le_of_ble_eq_true rfl) hR.2.1⟩ ⟨Nat.le_trans (Nat.le_of_ble_eq_true rfl) hR.2.2.1, Nat.le_trans (Nat.le_of_ble_eq_true rfl) hR.2.2.2⟩ dX6_want_3) (fun H locs hbr23 hw => ?_)
  refine lv_if_eq (tgt := 21) hx hb dX6_want_6 (by decide) (fun hc6 => ?_) (fun hc6 => ?_)
  · replace hF := st_t hc6 hF
    exact n_21 p1 p2 M H locs ls (lv_sub hl [0, 1, 2] rfl) hw hF
  · replace hF := st_f hc6 hF
    refine lv_aload_n hx hb dX6_want_9 rfl (lv_at hl 0 rfl) ?_
    refine lv_iload_n hx hb dX6_want_10 rfl (lv_at hl 2 rfl) ?_
    obtain ⟨r24, hgr24, hF⟩ := st_bnd hF
    refine g_cz hw (g_runV (C := RX6) (As := [.int p2]) (rest := [.ref (ad 9)]) fx hw isO_9 rfl (c_X6_isNeed l x D cy ad p2 H.size M r24 hgr24) wd5_161 wd5_163 wd0_52 wd1_8 wd5_164 yd_X6_isNeed rfl rfl (Nat.le_of_ble_eq_true rfl) hl.1 ⟨Nat.le_trans (Nat.le_of_ble_eq_true rfl) hR.1, Nat.le_trans (Nat.le_of_ble_eq_true rfl) hR.2.1⟩ ⟨Nat.le_trans (Nat.le_of_ble_eq_true rfl) hR.2.2.1, Nat.le_trans (Nat.le_of_ble_eq_true rfl) hR.2.2.2⟩ dX6_want_11) (fun H locs hbr24 hw => ?_)
    refine lv_if_eq (tgt := 21) hx hb dX6_want_14 (by decide) (fun hc14 => ?_) (fun hc14 => ?_)
    · replace hF := st_t hc14 hF
      exact n_21 p1 p2 M H locs ls (lv_sub hl [0, 1, 2] rfl) hw hF
    · replace hF := st_f hc14 hF
      refine lv_iconst (v := 0) hx hb dX6_want_17 (by decide) ?_
      refine lv_goto (tgt := 22) hx hb dX6_want_18 (by decide) ?_
      exact n_22 p1 p2 0 M H locs ls (lv_sub hl [0, 1, 2] rfl) hw hF
theorem c_X6_want (l : Launch) (x : SX) (D : va_G) (cy : Nat → ClassId) (ad : Nat → Nat) (p1 p2 : Int32) (sz : Nat) (M : Mem) (z : Int32) (M' : Mem) (hF : f_X6_want p1 p2 M = some (z, M')) : Met l yX6_want (.code yX6_want cX6_want 3 (some .int) :: GB) ({ frames := 2, cells := 0, slots := 0, locals := 46 } : Room) (PcW D cy ad x sz M [.ref (ad 9), .int p1, .int p2]) (QiW D cy ad sz z M') 0 0 (AA ad sz) := by
  refine mk_m (own := RX6) (by decide) rfl (Nat.le_of_ble_eq_true rfl) ?_
  intro p e s m args below meth c ls fx hw hl hsz
  subst hsz
  exact b_X6_want fx ⟨Nat.le_refl _, Nat.le_refl _, Nat.le_refl _, Nat.le_refl _⟩ p1 p2 M z M' hF (fun pc ls H locs v M1 hd hw h => by cases h; exact g_iret fx hw rfl hd) _ _ ls hl hw
noncomputable def f_X6_tell_33 : Int32 → Int32 → Int32 → Int32 → Mem → Option (Int32 × Mem) := fun a1 a2 a3 a4 M => (if (M 9 6) ≤ 0 then (bnd (f_X6_reason a1 a2 a3 a4 M) (fun r19 => (if r19 = 0 then (bnd (f_X6_keeps 10 M) (fun M21 => (bnd2 (f_X6_tells a1 a2 a3 a4 M21) (fun r22 M23 => (some (r22, M23)))))) else (some (((-10) - r19), M))))) else (some (0, M)))
noncomputable def f_X6_tell (p1 p2 p3 p4 : Int32) (M : Mem) : Option (Int32 × Mem) := (bnd (f_X6_wrongTwo p1 p2 p3 M) (fun r24 => (letM (mput M 9 6 r24) (fun M25 => (if (M25 9 6) = 0 then (bnd (f_X6_isIn p4 0 2 M25) (fun r26 => (if r26 = 0 then (letM (mput M25 9 6 2) (fun M27 => ((f_X6_tell_33) p1 p2 p3 p4 M27))) else ((f_X6_tell_33) p1 p2 p3 p4 M25)))) else ((f_X6_tell_33) p1 p2 p3 p4 M25))))))
set_option maxHeartbeats 4000000 in
set_option maxRecDepth 100000 in
theorem b_X6_tell {p : Program} {l : Launch} {e : Env} {R : Room} {s : State} {m : MethodId} {args : Array Value} {below : List Frame} {meth : Method} {c : Code} {Q : State → Prop} {D : va_G} {cy : Nat → ClassId} {ad : Nat → Nat} {x : SX} (fx : FX p s m args meth c cX6_tell 6 (some .int) RX6 D cy ad x) (hR : 8 ≤ R.frames ∧ 181 ≤ R.locals ∧ 0 ≤ R.cells ∧ 0 ≤ R.slots) (p1 p2 p3 p4 : Int32) (M : Mem) (z : Int32) (M' : Mem) (hF : f_X6_tell p1 p2 p3 p4 M = some (z, M')) (E : ∀ (pc : Nat) (ls : Array Slot) (H : Heap) (locs : List Loc) (v : Int32) (M1 : Mem), decode cX6_tell pc = .ok (.ireturn, 1) → WD D cy ad s M1 H locs → some (v, M1) = some (z, M') → W p l e R s m args below meth c H locs 0 0 Q (F0 m pc ls [.int v])) (H : Heap) (locs : List Loc) (ls : Array Slot) (hl : lv_has ls 6 [(0, .ref (ad 9)), (1, .int p1), (2, .int p2), (3, .int p3), (4, .int p4)]) (hw : WD D cy ad s M H locs) : W p l e R s m args below meth c H locs 0 0 Q (F0 m 0 ls []) := by
  have hx := fx.1.1
  have hb := fx.1.2.1
  have hown := fx.1.2.2.2.1
  have hts := fx.1.2.2.2.2
  have n_33 : ∀ (a1 : Int32) (a2 : Int32) (a3 : Int32) (a4 : Int32) (M : Mem) (H : Heap) (locs : List Loc) (ls : Array Slot), lv_has ls 6 [(0, .ref (ad 9)), (1, .int a1), (2, .int a2), (3, .int a3), (4, .int a4)] → WD D cy ad s M H locs → f_X6_tell_33 a1 a2 a3 a4 M = some (z, M') → W p l e R s m args below meth c H locs 0 0 Q (F0 m 33 ls []) := by
    intro a1 a2 a3 a4 M H locs ls hl hw hF
    unfold f_X6_tell_33 at hF
    refine lv_aload_n hx hb dX6_tell_33 rfl (lv_at hl 0 rfl) ?_
    refine gX6_get fx hw isO_9 6 (by decide) wd5_25 rfl dX6_tell_34 ?_
    refine lv_if_le (tgt := 42) hx hb dX6_tell_37 (by decide) (fun hc37 => ?_) (fun hc37 => ?_)
    · replace hF := st_t hc37 hF
      refine lv_aload_n hx hb dX6_tell_42 rfl (lv_at hl 0 rfl) ?_
      refine lv_iload_n hx hb dX6_tell_43 rfl (lv_at hl 1 rfl) ?_
      refine lv_iload_n hx hb dX6_tell_44 rfl (lv_at hl 2 rfl) ?_
      refine lv_iload_n hx hb dX6_tell_45 rfl (lv_at hl 3 rfl) ?_
      refine lv_iload hx hb dX6_tell_46 (lv_at hl 4 rfl) ?_
      obtain ⟨r19, hgr19, hF⟩ := st_bnd hF
      refine g_ci hw (g_runV (C := RX6) (As := [.int a1, .int a2, .int a3, .int a4]) (rest := []) fx hw isO_9 rfl (c_X6_reason l x D cy ad a1 a2 a3 a4 H.size M r19 hgr19) wd5_193 wd5_195 wd0_57 wd1_8 wd5_196 yd_X6_reason rfl rfl (Nat.le_of_ble_eq_true rfl) hl.1 ⟨Nat.le_trans (Nat.le_of_ble_eq_true rfl) hR.1, Nat.le_trans (Nat.le_of_ble_eq_true rfl) hR.2.1⟩ ⟨Nat.le_trans (Nat.le_of_ble_eq_true rfl) hR.2.2.1, Nat.le_trans (Nat.le_of_ble_eq_true rfl) hR.2.2.2⟩ dX6_tell_48) (fun H locs hw => ?_)
      refine lv_istore (lv' := [(5, .int r19), (0, .ref (ad 9)), (1, .int a1), (2, .int a2), (3, .int a3), (4, .int a4)]) hx hb dX6_tell_51 hl (by decide) rfl (fun ls hl => ?_)
      refine lv_iload hx hb dX6_tell_53 (lv_at hl 0 rfl) ?_
      refine lv_if_eq (tgt := 64) hx hb dX6_tell_55 (by decide) (fun hc55 => ?_) (fun hc55 => ?_)
      · replace hF := st_t hc55 hF
        refine lv_aload_n hx hb dX6_tell_64 rfl (lv_at hl 1 rfl) ?_
        refine lv_aload_n hx hb dX6_tell_65 rfl (lv_at hl 1 rfl) ?_
        refine gX6_get fx hw isO_9 0 (by decide) wd5_19 rfl dX6_tell_66 ?_
        obtain ⟨M21, hgr20, hF⟩ := st_bnd hF
        refine g_cv hw (g_runV (C := RX6) (As := [.ref (ad 10)]) (rest := []) fx hw isO_9 rfl (c_X6_keeps l x D cy ad 10 isA_10 H.size M M21 hgr20) wd5_99 wd5_101 wd0_42 wd1_8 wd5_102 yd_X6_keeps rfl rfl (Nat.le_of_ble_eq_true rfl) hl.1 ⟨Nat.le_trans (Nat.le_of_ble_eq_true rfl) hR.1, Nat.le_trans (Nat.le_of_ble_eq_true rfl) hR.2.1⟩ ⟨Nat.le_trans (Nat.le_of_ble_eq_true rfl) hR.2.2.1, Nat.le_trans (Nat.le_of_ble_eq_true rfl) hR.2.2.2⟩ dX6_tell_69) (fun H locs hw => ?_)
        refine lv_aload_n hx hb dX6_tell_72 rfl (lv_at hl 1 rfl) ?_
        refine lv_iload_n hx hb dX6_tell_73 rfl (lv_at hl 2 rfl) ?_
        refine lv_iload_n hx hb dX6_tell_74 rfl (lv_at hl 3 rfl) ?_
        refine lv_iload_n hx hb dX6_tell_75 rfl (lv_at hl 4 rfl) ?_
        refine lv_iload hx hb dX6_tell_76 (lv_at hl 5 rfl) ?_
        obtain ⟨r22, M23, hgr22, hF⟩ := st_bnd2 hF
        refine g_ci hw (g_runV (C := RX6) (As := [.int a1, .int a2, .int a3, .int a4]) (rest := []) fx hw isO_9 rfl (c_X6_tells l x D cy ad a1 a2 a3 a4 H.size M21 r22 M23 hgr22) wd6_59 wd6_61 wd0_71 wd1_8 wd6_62 yd_X6_tells rfl rfl (Nat.le_of_ble_eq_true rfl) hl.1 ⟨Nat.le_trans (Nat.le_of_ble_eq_true rfl) hR.1, Nat.le_trans (Nat.le_of_ble_eq_true rfl) hR.2.1⟩ ⟨Nat.le_trans (Nat.le_of_ble_eq_true rfl) hR.2.2.1, Nat.le_trans (Nat.le_of_ble_eq_true rfl) hR.2.2.2⟩ dX6_tell_78) (fun H locs hw => ?_)
        exact E _ _ _ _ _ _ dX6_tell_81 hw hF
      · replace hF := st_f hc55 hF
        refine lv_bipush (v := (-10)) hx hb dX6_tell_58 (by decide) ?_
        refine lv_iload hx hb dX6_tell_60 (lv_at hl 0 rfl) ?_
        refine lv_isub hx hb dX6_tell_62 ?_
        exact E _ _ _ _ _ _ dX6_tell_63 hw hF
    · replace hF := st_f hc37 hF
      refine lv_iconst (v := 0) hx hb dX6_tell_40 (by decide) ?_
      exact E _ _ _ _ _ _ dX6_tell_41 hw hF
  unfold f_X6_tell at hF
  refine lv_aload_n hx hb dX6_tell_0 rfl (lv_at hl 0 rfl) ?_
  refine lv_aload_n hx hb dX6_tell_1 rfl (lv_at hl 0 rfl) ?_
  refine lv_iload_n hx hb dX6_tell_2 rfl (lv_at hl 1 rfl) ?_
  refine lv_iload_n hx hb dX6_tell_3 rfl (lv_at hl 2 rfl) ?_
  refine lv_iload_n hx hb dX6_tell_4 rfl (lv_at hl 3 rfl) ?_
  obtain ⟨r24, hgr24, hF⟩ := st_bnd hF
  refine g_ci hw (g_runV (C := RX6) (As := [.int p1, .int p2, .int p3]) (rest := [.ref (ad 9)]) fx hw isO_9 rfl (c_X6_wrongTwo l x D cy ad p1 p2 p3 H.size M r24 hgr24) wd5_189 wd5_191 wd0_56 wd1_8 wd5_192 yd_X6_wrongTwo rfl rfl (Nat.le_of_ble_eq_true rfl) hl.1 ⟨Nat.le_trans (Nat.le_of_ble_eq_true rfl) hR.1, Nat.le_trans (Nat.le_of_ble_eq_true rfl) hR.2.1⟩ ⟨Nat.le_trans (Nat.le_of_ble_eq_true rfl) hR.2.2.1, Nat.le_trans (Nat.le_of_ble_eq_true rfl) hR.2.2.2⟩ dX6_tell_5) (fun H locs hw => ?_)
  obtain ⟨M25, eM25, hF⟩ := st_letM hF
  refine gX6_put fx hw isO_9 6 (by decide) wd5_25 rfl eM25 rfl (Nat.le_of_ble_eq_true rfl) dX6_tell_8 (fun H locs hw => ?_)
  refine lv_aload_n hx hb dX6_tell_11 rfl (lv_at hl 0 rfl) ?_
  refine gX6_get fx hw isO_9 6 (by decide) wd5_25 rfl dX6_tell_12 ?_
  refine lv_if_ne (tgt := 33) hx hb dX6_tell_15 (by decide) (fun hc15 => ?_) (fun hc15 => ?_)
  · replace hF := st_f hc15 hF
    exact n_33 p1 p2 p3 p4 M25 H locs ls (lv_sub hl [0, 1, 2, 3, 4] rfl) hw hF
  · replace hF := st_t hc15 hF
    refine lv_iload hx hb dX6_tell_18 (lv_at hl 4 rfl) ?_
    refine lv_iconst (v := 0) hx hb dX6_tell_20 (by decide) ?_
    refine lv_iconst (v := 2) hx hb dX6_tell_21 (by decide) ?_
    obtain ⟨r26, hgr26, hF⟩ := st_bnd hF
    refine g_cz hw (g_runS (As := [.int p4, .int 0, .int 2]) (rest := []) fx hw (c_X6_isIn l x D cy ad p4 0 2 H.size M25 r26 hgr26) wd5_92 wd5_93 wd1_8 wd5_94 yd_X6_isIn rfl rfl (Nat.le_of_ble_eq_true rfl) hl.1 ⟨Nat.le_trans (Nat.le_of_ble_eq_true rfl) hR.1, Nat.le_trans (Nat.le_of_ble_eq_true rfl) hR.2.1⟩ ⟨Nat.le_trans (Nat.le_of_ble_eq_true rfl) hR.2.2.1, Nat.le_trans (Nat.le_of_ble_eq_true rfl) hR.2.2.2⟩ dX6_tell_22) (fun H locs hbr26 hw => ?_)
    refine lv_if_ne (tgt := 33) hx hb dX6_tell_25 (by decide) (fun hc25 => ?_) (fun hc25 => ?_)
    · replace hF := st_f hc25 hF
      exact n_33 p1 p2 p3 p4 M25 H locs ls (lv_sub hl [0, 1, 2, 3, 4] rfl) hw hF
    · replace hF := st_t hc25 hF
      refine lv_aload_n hx hb dX6_tell_28 rfl (lv_at hl 0 rfl) ?_
      refine lv_iconst (v := 2) hx hb dX6_tell_29 (by decide) ?_
      obtain ⟨M27, eM27, hF⟩ := st_letM hF
      refine gX6_put fx hw isO_9 6 (by decide) wd5_25 rfl eM27 rfl (Nat.le_of_ble_eq_true rfl) dX6_tell_30 (fun H locs hw => ?_)
      exact n_33 p1 p2 p3 p4 M27 H locs ls (lv_sub hl [0, 1, 2, 3, 4] rfl) hw hF
theorem c_X6_tell (l : Launch) (x : SX) (D : va_G) (cy : Nat → ClassId) (ad : Nat → Nat) (p1 p2 p3 p4 : Int32) (sz : Nat) (M : Mem) (z : Int32) (M' : Mem) (hF : f_X6_tell p1 p2 p3 p4 M = some (z, M')) : Met l yX6_tell (.code yX6_tell cX6_tell 6 (some .int) :: GB) ({ frames := 8, cells := 0, slots := 0, locals := 181 } : Room) (PcW D cy ad x sz M [.ref (ad 9), .int p1, .int p2, .int p3, .int p4]) (QiW D cy ad sz z M') 0 0 (AA ad sz) := by
  refine mk_m (own := RX6) (by decide) rfl (Nat.le_of_ble_eq_true rfl) ?_
  intro p e s m args below meth c ls fx hw hl hsz
  subst hsz
  exact b_X6_tell fx ⟨Nat.le_refl _, Nat.le_refl _, Nat.le_refl _, Nat.le_refl _⟩ p1 p2 p3 p4 M z M' hF (fun pc ls H locs v M1 hd hw h => by cases h; exact g_iret fx hw rfl hd) _ _ ls hl hw
noncomputable def f_X6_give_41 : Int32 → Int32 → Int32 → Int32 → Mem → Option (Int32 × Mem) := fun a1 a2 a3 t1 M => (letM (mput M 9 6 t1) (fun M19 => (if (M19 9 6) ≤ 0 then (bnd (f_X6_refusalOfGift a1 a2 a3 M19) (fun r20 => (if r20 = 0 then (bnd (f_X6_keeps 10 M19) (fun M22 => (bnd2 (f_X6_gives a1 a2 a3 M22) (fun r23 M24 => (some (r23, M24)))))) else (some (r20, M19))))) else (some (0, M19)))))
noncomputable def f_X6_give_17 : Int32 → Int32 → Int32 → Mem → Option (Int32 × Mem) := fun a1 a2 a3 M => ((f_X6_give_41) a1 a2 a3 1 M)
noncomputable def f_X6_give_40 : Int32 → Int32 → Int32 → Mem → Option (Int32 × Mem) := fun a1 a2 a3 M => ((f_X6_give_41) a1 a2 a3 2 M)
noncomputable def f_X6_give (p1 p2 p3 : Int32) (M : Mem) : Option (Int32 × Mem) := (bnd (f_X6_isMonk p1 M) (fun r25 => (if r25 = 0 then ((f_X6_give_17) p1 p2 p3 M) else (bnd (f_X6_isMonk p2 M) (fun r26 => (if r26 = 0 then ((f_X6_give_17) p1 p2 p3 M) else (if p1 = p2 then ((f_X6_give_40) p1 p2 p3 M) else (bnd (f_X6_isIn p3 1 50 M) (fun r27 => (if r27 = 0 then ((f_X6_give_40) p1 p2 p3 M) else ((f_X6_give_41) p1 p2 p3 0 M)))))))))))
set_option maxHeartbeats 4000000 in
set_option maxRecDepth 100000 in
theorem b_X6_give {p : Program} {l : Launch} {e : Env} {R : Room} {s : State} {m : MethodId} {args : Array Value} {below : List Frame} {meth : Method} {c : Code} {Q : State → Prop} {D : va_G} {cy : Nat → ClassId} {ad : Nat → Nat} {x : SX} (fx : FX p s m args meth c cX6_give 5 (some .int) RX6 D cy ad x) (hR : 2 ≤ R.frames ∧ 46 ≤ R.locals ∧ 0 ≤ R.cells ∧ 0 ≤ R.slots) (p1 p2 p3 : Int32) (M : Mem) (z : Int32) (M' : Mem) (hF : f_X6_give p1 p2 p3 M = some (z, M')) (E : ∀ (pc : Nat) (ls : Array Slot) (H : Heap) (locs : List Loc) (v : Int32) (M1 : Mem), decode cX6_give pc = .ok (.ireturn, 1) → WD D cy ad s M1 H locs → some (v, M1) = some (z, M') → W p l e R s m args below meth c H locs 0 0 Q (F0 m pc ls [.int v])) (H : Heap) (locs : List Loc) (ls : Array Slot) (hl : lv_has ls 5 [(0, .ref (ad 9)), (1, .int p1), (2, .int p2), (3, .int p3)]) (hw : WD D cy ad s M H locs) : W p l e R s m args below meth c H locs 0 0 Q (F0 m 0 ls []) := by
  have hx := fx.1.1
  have hb := fx.1.2.1
  have hown := fx.1.2.2.2.1
  have hts := fx.1.2.2.2.2
  have n_41 : ∀ (a1 : Int32) (a2 : Int32) (a3 : Int32) (t1 : Int32) (M : Mem) (H : Heap) (locs : List Loc) (ls : Array Slot), lv_has ls 5 [(0, .ref (ad 9)), (1, .int a1), (2, .int a2), (3, .int a3)] → WD D cy ad s M H locs → f_X6_give_41 a1 a2 a3 t1 M = some (z, M') → W p l e R s m args below meth c H locs 0 0 Q (F0 m 41 ls [.int t1, .ref (ad 9)]) := by
    intro a1 a2 a3 t1 M H locs ls hl hw hF
    unfold f_X6_give_41 at hF
    obtain ⟨M19, eM19, hF⟩ := st_letM hF
    refine gX6_put fx hw isO_9 6 (by decide) wd5_25 rfl eM19 rfl (Nat.le_of_ble_eq_true rfl) dX6_give_41 (fun H locs hw => ?_)
    refine lv_aload_n hx hb dX6_give_44 rfl (lv_at hl 0 rfl) ?_
    refine gX6_get fx hw isO_9 6 (by decide) wd5_25 rfl dX6_give_45 ?_
    refine lv_if_le (tgt := 53) hx hb dX6_give_48 (by decide) (fun hc48 => ?_) (fun hc48 => ?_)
    · replace hF := st_t hc48 hF
      refine lv_aload_n hx hb dX6_give_53 rfl (lv_at hl 0 rfl) ?_
      refine lv_iload_n hx hb dX6_give_54 rfl (lv_at hl 1 rfl) ?_
      refine lv_iload_n hx hb dX6_give_55 rfl (lv_at hl 2 rfl) ?_
      refine lv_iload_n hx hb dX6_give_56 rfl (lv_at hl 3 rfl) ?_
      obtain ⟨r20, hgr20, hF⟩ := st_bnd hF
      refine g_ci hw (g_runV (C := RX6) (As := [.int a1, .int a2, .int a3]) (rest := []) fx hw isO_9 rfl (c_X6_refusalOfGift l x D cy ad a1 a2 a3 H.size M19 r20 hgr20) wd6_75 wd6_77 wd0_74 wd1_8 wd6_78 yd_X6_refusalOfGift rfl rfl (Nat.le_of_ble_eq_true rfl) hl.1 ⟨Nat.le_trans (Nat.le_of_ble_eq_true rfl) hR.1, Nat.le_trans (Nat.le_of_ble_eq_true rfl) hR.2.1⟩ ⟨Nat.le_trans (Nat.le_of_ble_eq_true rfl) hR.2.2.1, Nat.le_trans (Nat.le_of_ble_eq_true rfl) hR.2.2.2⟩ dX6_give_57) (fun H locs hw => ?_)
      refine lv_istore (lv' := [(4, .int r20), (0, .ref (ad 9)), (1, .int a1), (2, .int a2), (3, .int a3)]) hx hb dX6_give_60 hl (by decide) rfl (fun ls hl => ?_)
      refine lv_iload hx hb dX6_give_62 (lv_at hl 0 rfl) ?_
      refine lv_if_eq (tgt := 70) hx hb dX6_give_64 (by decide) (fun hc64 => ?_) (fun hc64 => ?_)
      · replace hF := st_t hc64 hF
        refine lv_aload_n hx hb dX6_give_70 rfl (lv_at hl 1 rfl) ?_
        refine lv_aload_n hx hb dX6_give_71 rfl (lv_at hl 1 rfl) ?_
        refine gX6_get fx hw isO_9 0 (by decide) wd5_19 rfl dX6_give_72 ?_
        obtain ⟨M22, hgr21, hF⟩ := st_bnd hF
        refine g_cv hw (g_runV (C := RX6) (As := [.ref (ad 10)]) (rest := []) fx hw isO_9 rfl (c_X6_keeps l x D cy ad 10 isA_10 H.size M19 M22 hgr21) wd5_99 wd5_101 wd0_42 wd1_8 wd5_102 yd_X6_keeps rfl rfl (Nat.le_of_ble_eq_true rfl) hl.1 ⟨Nat.le_trans (Nat.le_of_ble_eq_true rfl) hR.1, Nat.le_trans (Nat.le_of_ble_eq_true rfl) hR.2.1⟩ ⟨Nat.le_trans (Nat.le_of_ble_eq_true rfl) hR.2.2.1, Nat.le_trans (Nat.le_of_ble_eq_true rfl) hR.2.2.2⟩ dX6_give_75) (fun H locs hw => ?_)
        refine lv_aload_n hx hb dX6_give_78 rfl (lv_at hl 1 rfl) ?_
        refine lv_iload_n hx hb dX6_give_79 rfl (lv_at hl 2 rfl) ?_
        refine lv_iload_n hx hb dX6_give_80 rfl (lv_at hl 3 rfl) ?_
        refine lv_iload_n hx hb dX6_give_81 rfl (lv_at hl 4 rfl) ?_
        obtain ⟨r23, M24, hgr23, hF⟩ := st_bnd2 hF
        refine g_ci hw (g_runV (C := RX6) (As := [.int a1, .int a2, .int a3]) (rest := []) fx hw isO_9 rfl (c_X6_gives l x D cy ad a1 a2 a3 H.size M22 r23 M24 hgr23) wd6_79 wd6_81 wd0_75 wd1_8 wd6_82 yd_X6_gives rfl rfl (Nat.le_of_ble_eq_true rfl) hl.1 ⟨Nat.le_trans (Nat.le_of_ble_eq_true rfl) hR.1, Nat.le_trans (Nat.le_of_ble_eq_true rfl) hR.2.1⟩ ⟨Nat.le_trans (Nat.le_of_ble_eq_true rfl) hR.2.2.1, Nat.le_trans (Nat.le_of_ble_eq_true rfl) hR.2.2.2⟩ dX6_give_82) (fun H locs hw => ?_)
        exact E _ _ _ _ _ _ dX6_give_85 hw hF
      · replace hF := st_f hc64 hF
        refine lv_iload hx hb dX6_give_67 (lv_at hl 0 rfl) ?_
        exact E _ _ _ _ _ _ dX6_give_69 hw hF
    · replace hF := st_f hc48 hF
      refine lv_iconst (v := 0) hx hb dX6_give_51 (by decide) ?_
      exact E _ _ _ _ _ _ dX6_give_52 hw hF
  have n_17 : ∀ (a1 : Int32) (a2 : Int32) (a3 : Int32) (M : Mem) (H : Heap) (locs : List Loc) (ls : Array Slot), lv_has ls 5 [(0, .ref (ad 9)), (1, .int a1), (2, .int a2), (3, .int a3)] → WD D cy ad s M H locs → f_X6_give_17 a1 a2 a3 M = some (z, M') → W p l e R s m args below meth c H locs 0 0 Q (F0 m 17 ls [.ref (ad 9)]) := by
    intro a1 a2 a3 M H locs ls hl hw hF
    unfold f_X6_give_17 at hF
    refine lv_iconst (v := 1) hx hb dX6_give_17 (by decide) ?_
    refine lv_goto (tgt := 41) hx hb dX6_give_18 (by decide) ?_
    exact n_41 a1 a2 a3 1 M H locs ls (lv_sub hl [0, 1, 2, 3] rfl) hw hF
  have n_40 : ∀ (a1 : Int32) (a2 : Int32) (a3 : Int32) (M : Mem) (H : Heap) (locs : List Loc) (ls : Array Slot), lv_has ls 5 [(0, .ref (ad 9)), (1, .int a1), (2, .int a2), (3, .int a3)] → WD D cy ad s M H locs → f_X6_give_40 a1 a2 a3 M = some (z, M') → W p l e R s m args below meth c H locs 0 0 Q (F0 m 40 ls [.ref (ad 9)]) := by
    intro a1 a2 a3 M H locs ls hl hw hF
    unfold f_X6_give_40 at hF
    refine lv_iconst (v := 2) hx hb dX6_give_40 (by decide) ?_
    exact n_41 a1 a2 a3 2 M H locs ls (lv_sub hl [0, 1, 2, 3] rfl) hw hF
  unfold f_X6_give at hF
  refine lv_aload_n hx hb dX6_give_0 rfl (lv_at hl 0 rfl) ?_
  refine lv_aload_n hx hb dX6_give_1 rfl (lv_at hl 0 rfl) ?_
  refine lv_iload_n hx hb dX6_give_2 rfl (lv_at hl 1 rfl) ?_
  obtain ⟨r25, hgr25, hF⟩ := st_bnd hF
  refine g_cz hw (g_runV (C := RX6) (As := [.int p1]) (rest := [.ref (ad 9)]) fx hw isO_9 rfl (c_X6_isMonk l x D cy ad p1 H.size M r25 hgr25) wd5_146 wd5_148 wd0_50 wd1_8 wd5_149 yd_X6_isMonk rfl rfl (Nat.le_of_ble_eq_true rfl) hl.1 ⟨Nat.le_trans (Nat.le_of_ble_eq_true rfl) hR.1, Nat.le_trans (Nat.le_of_ble_eq_true rfl) hR.2.1⟩ ⟨Nat.le_trans (Nat.le_of_ble_eq_true rfl) hR.2.2.1, Nat.le_trans (Nat.le_of_ble_eq_true rfl) hR.2.2.2⟩ dX6_give_3) (fun H locs hbr25 hw => ?_)
  refine lv_if_eq (tgt := 17) hx hb dX6_give_6 (by decide) (fun hc6 => ?_) (fun hc6 => ?_)
  · replace hF := st_t hc6 hF
    exact n_17 p1 p2 p3 M H locs ls (lv_sub hl [0, 1, 2, 3] rfl) hw hF
  · replace hF := st_f hc6 hF
    refine lv_aload_n hx hb dX6_give_9 rfl (lv_at hl 0 rfl) ?_
    refine lv_iload_n hx hb dX6_give_10 rfl (lv_at hl 2 rfl) ?_
    obtain ⟨r26, hgr26, hF⟩ := st_bnd hF
    refine g_cz hw (g_runV (C := RX6) (As := [.int p2]) (rest := [.ref (ad 9)]) fx hw isO_9 rfl (c_X6_isMonk l x D cy ad p2 H.size M r26 hgr26) wd5_146 wd5_148 wd0_50 wd1_8 wd5_149 yd_X6_isMonk rfl rfl (Nat.le_of_ble_eq_true rfl) hl.1 ⟨Nat.le_trans (Nat.le_of_ble_eq_true rfl) hR.1, Nat.le_trans (Nat.le_of_ble_eq_true rfl) hR.2.1⟩ ⟨Nat.le_trans (Nat.le_of_ble_eq_true rfl) hR.2.2.1, Nat.le_trans (Nat.le_of_ble_eq_true rfl) hR.2.2.2⟩ dX6_give_11) (fun H locs hbr26 hw => ?_)
    refine lv_if_ne (tgt := 21) hx hb dX6_give_14 (by decide) (fun hc14 => ?_) (fun hc14 => ?_)
    · replace hF := st_f hc14 hF
      refine lv_iload_n hx hb dX6_give_21 rfl (lv_at hl 1 rfl) ?_
      refine lv_iload_n hx hb dX6_give_22 rfl (lv_at hl 2 rfl) ?_
      refine lv_icmp_eq (tgt := 40) hx hb dX6_give_23 (by decide) (fun hc23 => ?_) (fun hc23 => ?_)
      · replace hF := st_t hc23 hF
        exact n_40 p1 p2 p3 M H locs ls (lv_sub hl [0, 1, 2, 3] rfl) hw hF
      · replace hF := st_f hc23 hF
        refine lv_iload_n hx hb dX6_give_26 rfl (lv_at hl 3 rfl) ?_
        refine lv_iconst (v := 1) hx hb dX6_give_27 (by decide) ?_
        refine lv_bipush (v := 50) hx hb dX6_give_28 (by decide) ?_
        obtain ⟨r27, hgr27, hF⟩ := st_bnd hF
        refine g_cz hw (g_runS (As := [.int p3, .int 1, .int 50]) (rest := [.ref (ad 9)]) fx hw (c_X6_isIn l x D cy ad p3 1 50 H.size M r27 hgr27) wd5_92 wd5_93 wd1_8 wd5_94 yd_X6_isIn rfl rfl (Nat.le_of_ble_eq_true rfl) hl.1 ⟨Nat.le_trans (Nat.le_of_ble_eq_true rfl) hR.1, Nat.le_trans (Nat.le_of_ble_eq_true rfl) hR.2.1⟩ ⟨Nat.le_trans (Nat.le_of_ble_eq_true rfl) hR.2.2.1, Nat.le_trans (Nat.le_of_ble_eq_true rfl) hR.2.2.2⟩ dX6_give_30) (fun H locs hbr27 hw => ?_)
        refine lv_if_eq (tgt := 40) hx hb dX6_give_33 (by decide) (fun hc33 => ?_) (fun hc33 => ?_)
        · replace hF := st_t hc33 hF
          exact n_40 p1 p2 p3 M H locs ls (lv_sub hl [0, 1, 2, 3] rfl) hw hF
        · replace hF := st_f hc33 hF
          refine lv_iconst (v := 0) hx hb dX6_give_36 (by decide) ?_
          refine lv_goto (tgt := 41) hx hb dX6_give_37 (by decide) ?_
          exact n_41 p1 p2 p3 0 M H locs ls (lv_sub hl [0, 1, 2, 3] rfl) hw hF
    · replace hF := st_t hc14 hF
      exact n_17 p1 p2 p3 M H locs ls (lv_sub hl [0, 1, 2, 3] rfl) hw hF
theorem c_X6_give (l : Launch) (x : SX) (D : va_G) (cy : Nat → ClassId) (ad : Nat → Nat) (p1 p2 p3 : Int32) (sz : Nat) (M : Mem) (z : Int32) (M' : Mem) (hF : f_X6_give p1 p2 p3 M = some (z, M')) : Met l yX6_give (.code yX6_give cX6_give 5 (some .int) :: GB) ({ frames := 2, cells := 0, slots := 0, locals := 46 } : Room) (PcW D cy ad x sz M [.ref (ad 9), .int p1, .int p2, .int p3]) (QiW D cy ad sz z M') 0 0 (AA ad sz) := by
  refine mk_m (own := RX6) (by decide) rfl (Nat.le_of_ble_eq_true rfl) ?_
  intro p e s m args below meth c ls fx hw hl hsz
  subst hsz
  exact b_X6_give fx ⟨Nat.le_refl _, Nat.le_refl _, Nat.le_refl _, Nat.le_refl _⟩ p1 p2 p3 M z M' hF (fun pc ls H locs v M1 hd hw h => by cases h; exact g_iret fx hw rfl hd) _ _ ls hl hw
noncomputable def f_X6_refusalOfHours (p1 : Int32) (M : Mem) : Option Int32 := (if ((M 10 4) + p1) ≤ 9999 then (some 0) else (some (-21)))
set_option maxHeartbeats 4000000 in
set_option maxRecDepth 100000 in
theorem b_X6_refusalOfHours {p : Program} {l : Launch} {e : Env} {R : Room} {s : State} {m : MethodId} {args : Array Value} {below : List Frame} {meth : Method} {c : Code} {Q : State → Prop} {D : va_G} {cy : Nat → ClassId} {ad : Nat → Nat} {x : SX} (fx : FX p s m args meth c cX6_refusalOfHours 2 (some .int) RX6 D cy ad x) (hR : 0 ≤ R.frames ∧ 0 ≤ R.locals ∧ 0 ≤ R.cells ∧ 0 ≤ R.slots) (p1 : Int32) (M : Mem) (z : Int32) (hF : f_X6_refusalOfHours p1 M = some z) (E : ∀ (pc : Nat) (ls : Array Slot) (H : Heap) (locs : List Loc) (v : Int32), decode cX6_refusalOfHours pc = .ok (.ireturn, 1) → WD D cy ad s M H locs → some v = some z → W p l e R s m args below meth c H locs 0 0 Q (F0 m pc ls [.int v])) (H : Heap) (locs : List Loc) (ls : Array Slot) (hl : lv_has ls 2 [(0, .ref (ad 9)), (1, .int p1)]) (hw : WD D cy ad s M H locs) : W p l e R s m args below meth c H locs 0 0 Q (F0 m 0 ls []) := by
  have hx := fx.1.1
  have hb := fx.1.2.1
  have hown := fx.1.2.2.2.1
  have hts := fx.1.2.2.2.2
  unfold f_X6_refusalOfHours at hF
  refine lv_aload_n hx hb dX6_refusalOfHours_0 rfl (lv_at hl 0 rfl) ?_
  refine gX6_get fx hw isO_9 0 (by decide) wd5_19 rfl dX6_refusalOfHours_1 ?_
  refine lv_iconst (v := 4) hx hb dX6_refusalOfHours_4 (by decide) ?_
  refine g_ialdc fx hw isA_10 (k := 4) rfl (by decide) dX6_refusalOfHours_5 ?_
  refine lv_iload_n hx hb dX6_refusalOfHours_6 rfl (lv_at hl 1 rfl) ?_
  refine lv_iadd hx hb dX6_refusalOfHours_7 ?_
  refine lv_sipush (v := 9999) hx hb dX6_refusalOfHours_8 (by decide) ?_
  refine lv_icmp_le (tgt := 19) hx hb dX6_refusalOfHours_11 (by decide) (fun hc11 => ?_) (fun hc11 => ?_)
  · replace hF := st_t hc11 hF
    refine lv_iconst (v := 0) hx hb dX6_refusalOfHours_19 (by decide) ?_
    exact E _ _ _ _ _ dX6_refusalOfHours_20 hw hF
  · replace hF := st_f hc11 hF
    refine lv_bipush (v := (-21)) hx hb dX6_refusalOfHours_14 (by decide) ?_
    refine lv_goto (tgt := 20) hx hb dX6_refusalOfHours_16 (by decide) ?_
    exact E _ _ _ _ _ dX6_refusalOfHours_20 hw hF
theorem c_X6_refusalOfHours (l : Launch) (x : SX) (D : va_G) (cy : Nat → ClassId) (ad : Nat → Nat) (p1 : Int32) (sz : Nat) (M : Mem) (z : Int32) (hF : f_X6_refusalOfHours p1 M = some z) : Met l yX6_refusalOfHours (.code yX6_refusalOfHours cX6_refusalOfHours 2 (some .int) :: GB) ({ frames := 0, cells := 0, slots := 0, locals := 0 } : Room) (PcW D cy ad x sz M [.ref (ad 9), .int p1]) (QiW D cy ad sz z M) 0 0 (AA ad sz) := by
  refine mk_m (own := RX6) (by decide) rfl (Nat.le_of_ble_eq_true rfl) ?_
  intro p e s m args below meth c ls fx hw hl hsz
  subst hsz
  exact b_X6_refusalOfHours fx ⟨Nat.le_refl _, Nat.le_refl _, Nat.le_refl _, Nat.le_refl _⟩ p1 M z hF (fun pc ls H locs v hd hw h => by cases h; exact g_iret fx hw rfl hd) _ _ ls hl hw
noncomputable def f_X6_pass_16 : Int32 → Int32 → Mem → Option (Int32 × Mem) := fun a1 t1 M => (letM (mput M 9 6 t1) (fun M15 => (if (M15 9 6) ≤ 0 then (bnd (f_X6_refusalOfHours a1 M15) (fun r16 => (if r16 = 0 then (bnd (f_X6_keeps 10 M15) (fun M18 => (bnd2 (f_X6_passes a1 M18) (fun r19 M20 => (some (r19, M20)))))) else (some (r16, M15))))) else (some (0, M15)))))
noncomputable def f_X6_pass (p1 : Int32) (M : Mem) : Option (Int32 × Mem) := (bnd (f_X6_isIn p1 1 99 M) (fun r21 => (if r21 = 0 then ((f_X6_pass_16) p1 1 M) else ((f_X6_pass_16) p1 0 M))))
set_option maxHeartbeats 4000000 in
set_option maxRecDepth 100000 in
theorem b_X6_pass {p : Program} {l : Launch} {e : Env} {R : Room} {s : State} {m : MethodId} {args : Array Value} {below : List Frame} {meth : Method} {c : Code} {Q : State → Prop} {D : va_G} {cy : Nat → ClassId} {ad : Nat → Nat} {x : SX} (fx : FX p s m args meth c cX6_pass 3 (some .int) RX6 D cy ad x) (hR : 3 ≤ R.frames ∧ 65 ≤ R.locals ∧ 0 ≤ R.cells ∧ 0 ≤ R.slots) (p1 : Int32) (M : Mem) (z : Int32) (M' : Mem) (hF : f_X6_pass p1 M = some (z, M')) (E : ∀ (pc : Nat) (ls : Array Slot) (H : Heap) (locs : List Loc) (v : Int32) (M1 : Mem), decode cX6_pass pc = .ok (.ireturn, 1) → WD D cy ad s M1 H locs → some (v, M1) = some (z, M') → W p l e R s m args below meth c H locs 0 0 Q (F0 m pc ls [.int v])) (H : Heap) (locs : List Loc) (ls : Array Slot) (hl : lv_has ls 3 [(0, .ref (ad 9)), (1, .int p1)]) (hw : WD D cy ad s M H locs) : W p l e R s m args below meth c H locs 0 0 Q (F0 m 0 ls []) := by
  have hx := fx.1.1
  have hb := fx.1.2.1
  have hown := fx.1.2.2.2.1
  have hts := fx.1.2.2.2.2
  have n_16 : ∀ (a1 : Int32) (t1 : Int32) (M : Mem) (H : Heap) (locs : List Loc) (ls : Array Slot), lv_has ls 3 [(0, .ref (ad 9)), (1, .int a1)] → WD D cy ad s M H locs → f_X6_pass_16 a1 t1 M = some (z, M') → W p l e R s m args below meth c H locs 0 0 Q (F0 m 16 ls [.int t1, .ref (ad 9)]) := by
    intro a1 t1 M H locs ls hl hw hF
    unfold f_X6_pass_16 at hF
    obtain ⟨M15, eM15, hF⟩ := st_letM hF
    refine gX6_put fx hw isO_9 6 (by decide) wd5_25 rfl eM15 rfl (Nat.le_of_ble_eq_true rfl) dX6_pass_16 (fun H locs hw => ?_)
    refine lv_aload_n hx hb dX6_pass_19 rfl (lv_at hl 0 rfl) ?_
    refine gX6_get fx hw isO_9 6 (by decide) wd5_25 rfl dX6_pass_20 ?_
    refine lv_if_le (tgt := 28) hx hb dX6_pass_23 (by decide) (fun hc23 => ?_) (fun hc23 => ?_)
    · replace hF := st_t hc23 hF
      refine lv_aload_n hx hb dX6_pass_28 rfl (lv_at hl 0 rfl) ?_
      refine lv_iload_n hx hb dX6_pass_29 rfl (lv_at hl 1 rfl) ?_
      obtain ⟨r16, hgr16, hF⟩ := st_bnd hF
      refine g_ci hw (g_runV (C := RX6) (As := [.int a1]) (rest := []) fx hw isO_9 rfl (c_X6_refusalOfHours l x D cy ad a1 H.size M15 r16 hgr16) wd6_87 wd6_89 wd0_76 wd1_8 wd6_90 yd_X6_refusalOfHours rfl rfl (Nat.le_of_ble_eq_true rfl) hl.1 ⟨Nat.le_trans (Nat.le_of_ble_eq_true rfl) hR.1, Nat.le_trans (Nat.le_of_ble_eq_true rfl) hR.2.1⟩ ⟨Nat.le_trans (Nat.le_of_ble_eq_true rfl) hR.2.2.1, Nat.le_trans (Nat.le_of_ble_eq_true rfl) hR.2.2.2⟩ dX6_pass_30) (fun H locs hw => ?_)
      refine lv_istore_n (lv' := [(2, .int r16), (0, .ref (ad 9)), (1, .int a1)]) hx hb dX6_pass_33 rfl hl (by decide) rfl (fun ls hl => ?_)
      refine lv_iload_n hx hb dX6_pass_34 rfl (lv_at hl 0 rfl) ?_
      refine lv_if_eq (tgt := 40) hx hb dX6_pass_35 (by decide) (fun hc35 => ?_) (fun hc35 => ?_)
      · replace hF := st_t hc35 hF
        refine lv_aload_n hx hb dX6_pass_40 rfl (lv_at hl 1 rfl) ?_
        refine lv_aload_n hx hb dX6_pass_41 rfl (lv_at hl 1 rfl) ?_
        refine gX6_get fx hw isO_9 0 (by decide) wd5_19 rfl dX6_pass_42 ?_
        obtain ⟨M18, hgr17, hF⟩ := st_bnd hF
        refine g_cv hw (g_runV (C := RX6) (As := [.ref (ad 10)]) (rest := []) fx hw isO_9 rfl (c_X6_keeps l x D cy ad 10 isA_10 H.size M15 M18 hgr17) wd5_99 wd5_101 wd0_42 wd1_8 wd5_102 yd_X6_keeps rfl rfl (Nat.le_of_ble_eq_true rfl) hl.1 ⟨Nat.le_trans (Nat.le_of_ble_eq_true rfl) hR.1, Nat.le_trans (Nat.le_of_ble_eq_true rfl) hR.2.1⟩ ⟨Nat.le_trans (Nat.le_of_ble_eq_true rfl) hR.2.2.1, Nat.le_trans (Nat.le_of_ble_eq_true rfl) hR.2.2.2⟩ dX6_pass_45) (fun H locs hw => ?_)
        refine lv_aload_n hx hb dX6_pass_48 rfl (lv_at hl 1 rfl) ?_
        refine lv_iload_n hx hb dX6_pass_49 rfl (lv_at hl 2 rfl) ?_
        obtain ⟨r19, M20, hgr19, hF⟩ := st_bnd2 hF
        refine g_ci hw (g_runV (C := RX6) (As := [.int a1]) (rest := []) fx hw isO_9 rfl (c_X6_passes l x D cy ad a1 H.size M18 r19 M20 hgr19) wd6_91 wd6_93 wd0_77 wd1_8 wd6_94 yd_X6_passes rfl rfl (Nat.le_of_ble_eq_true rfl) hl.1 ⟨Nat.le_trans (Nat.le_of_ble_eq_true rfl) hR.1, Nat.le_trans (Nat.le_of_ble_eq_true rfl) hR.2.1⟩ ⟨Nat.le_trans (Nat.le_of_ble_eq_true rfl) hR.2.2.1, Nat.le_trans (Nat.le_of_ble_eq_true rfl) hR.2.2.2⟩ dX6_pass_50) (fun H locs hw => ?_)
        exact E _ _ _ _ _ _ dX6_pass_53 hw hF
      · replace hF := st_f hc35 hF
        refine lv_iload_n hx hb dX6_pass_38 rfl (lv_at hl 0 rfl) ?_
        exact E _ _ _ _ _ _ dX6_pass_39 hw hF
    · replace hF := st_f hc23 hF
      refine lv_iconst (v := 0) hx hb dX6_pass_26 (by decide) ?_
      exact E _ _ _ _ _ _ dX6_pass_27 hw hF
  unfold f_X6_pass at hF
  refine lv_aload_n hx hb dX6_pass_0 rfl (lv_at hl 0 rfl) ?_
  refine lv_iload_n hx hb dX6_pass_1 rfl (lv_at hl 1 rfl) ?_
  refine lv_iconst (v := 1) hx hb dX6_pass_2 (by decide) ?_
  refine lv_bipush (v := 99) hx hb dX6_pass_3 (by decide) ?_
  obtain ⟨r21, hgr21, hF⟩ := st_bnd hF
  refine g_cz hw (g_runS (As := [.int p1, .int 1, .int 99]) (rest := [.ref (ad 9)]) fx hw (c_X6_isIn l x D cy ad p1 1 99 H.size M r21 hgr21) wd5_92 wd5_93 wd1_8 wd5_94 yd_X6_isIn rfl rfl (Nat.le_of_ble_eq_true rfl) hl.1 ⟨Nat.le_trans (Nat.le_of_ble_eq_true rfl) hR.1, Nat.le_trans (Nat.le_of_ble_eq_true rfl) hR.2.1⟩ ⟨Nat.le_trans (Nat.le_of_ble_eq_true rfl) hR.2.2.1, Nat.le_trans (Nat.le_of_ble_eq_true rfl) hR.2.2.2⟩ dX6_pass_5) (fun H locs hbr21 hw => ?_)
  refine lv_if_eq (tgt := 15) hx hb dX6_pass_8 (by decide) (fun hc8 => ?_) (fun hc8 => ?_)
  · replace hF := st_t hc8 hF
    refine lv_iconst (v := 1) hx hb dX6_pass_15 (by decide) ?_
    exact n_16 p1 1 M H locs ls (lv_sub hl [0, 1] rfl) hw hF
  · replace hF := st_f hc8 hF
    refine lv_iconst (v := 0) hx hb dX6_pass_11 (by decide) ?_
    refine lv_goto (tgt := 16) hx hb dX6_pass_12 (by decide) ?_
    exact n_16 p1 0 M H locs ls (lv_sub hl [0, 1] rfl) hw hF
theorem c_X6_pass (l : Launch) (x : SX) (D : va_G) (cy : Nat → ClassId) (ad : Nat → Nat) (p1 : Int32) (sz : Nat) (M : Mem) (z : Int32) (M' : Mem) (hF : f_X6_pass p1 M = some (z, M')) : Met l yX6_pass (.code yX6_pass cX6_pass 3 (some .int) :: GB) ({ frames := 3, cells := 0, slots := 0, locals := 65 } : Room) (PcW D cy ad x sz M [.ref (ad 9), .int p1]) (QiW D cy ad sz z M') 0 0 (AA ad sz) := by
  refine mk_m (own := RX6) (by decide) rfl (Nat.le_of_ble_eq_true rfl) ?_
  intro p e s m args below meth c ls fx hw hl hsz
  subst hsz
  exact b_X6_pass fx ⟨Nat.le_refl _, Nat.le_refl _, Nat.le_refl _, Nat.le_refl _⟩ p1 M z M' hF (fun pc ls H locs v M1 hd hw h => by cases h; exact g_iret fx hw rfl hd) _ _ ls hl hw
noncomputable def f_X6_setBell_29 : Int32 → Int32 → Int32 → Mem → Option (Int32 × Mem) := fun a1 a2 t1 M => (letM (mput M 9 6 t1) (fun M17 => (if (M17 9 6) ≤ 0 then (bnd (f_X6_keeps 10 M17) (fun M19 => (chk (inB (20 + a1) 156) (chk (inB (20 + a1) 156) (letM (mput M19 10 (ix (20 + a1)) a2) (fun M21 => (some ((M19 10 (ix (20 + a1))), M21)))))))) else (some (0, M17)))))
noncomputable def f_X6_setBell (p1 p2 : Int32) (M : Mem) : Option (Int32 × Mem) := (bnd (f_X6_isIn p1 0 23 M) (fun r23 => (if r23 = 0 then ((f_X6_setBell_29) p1 p2 1 M) else (bnd (f_X6_isIn p2 0 2 M) (fun r24 => (if r24 = 0 then ((f_X6_setBell_29) p1 p2 2 M) else ((f_X6_setBell_29) p1 p2 0 M)))))))
set_option maxHeartbeats 4000000 in
set_option maxRecDepth 100000 in
theorem b_X6_setBell {p : Program} {l : Launch} {e : Env} {R : Room} {s : State} {m : MethodId} {args : Array Value} {below : List Frame} {meth : Method} {c : Code} {Q : State → Prop} {D : va_G} {cy : Nat → ClassId} {ad : Nat → Nat} {x : SX} (fx : FX p s m args meth c cX6_setBell 4 (some .int) RX6 D cy ad x) (hR : 2 ≤ R.frames ∧ 46 ≤ R.locals ∧ 0 ≤ R.cells ∧ 0 ≤ R.slots) (p1 p2 : Int32) (M : Mem) (z : Int32) (M' : Mem) (hF : f_X6_setBell p1 p2 M = some (z, M')) (E : ∀ (pc : Nat) (ls : Array Slot) (H : Heap) (locs : List Loc) (v : Int32) (M1 : Mem), decode cX6_setBell pc = .ok (.ireturn, 1) → WD D cy ad s M1 H locs → some (v, M1) = some (z, M') → W p l e R s m args below meth c H locs 0 0 Q (F0 m pc ls [.int v])) (H : Heap) (locs : List Loc) (ls : Array Slot) (hl : lv_has ls 4 [(0, .ref (ad 9)), (1, .int p1), (2, .int p2)]) (hw : WD D cy ad s M H locs) : W p l e R s m args below meth c H locs 0 0 Q (F0 m 0 ls []) := by
  have hx := fx.1.1
  have hb := fx.1.2.1
  have hown := fx.1.2.2.2.1
  have hts := fx.1.2.2.2.2
  have n_29 : ∀ (a1 : Int32) (a2 : Int32) (t1 : Int32) (M : Mem) (H : Heap) (locs : List Loc) (ls : Array Slot), lv_has ls 4 [(0, .ref (ad 9)), (1, .int a1), (2, .int a2)] → WD D cy ad s M H locs → f_X6_setBell_29 a1 a2 t1 M = some (z, M') → W p l e R s m args below meth c H locs 0 0 Q (F0 m 29 ls [.int t1, .ref (ad 9)]) := by
    intro a1 a2 t1 M H locs ls hl hw hF
    unfold f_X6_setBell_29 at hF
    obtain ⟨M17, eM17, hF⟩ := st_letM hF
    refine gX6_put fx hw isO_9 6 (by decide) wd5_25 rfl eM17 rfl (Nat.le_of_ble_eq_true rfl) dX6_setBell_29 (fun H locs hw => ?_)
    refine lv_aload_n hx hb dX6_setBell_32 rfl (lv_at hl 0 rfl) ?_
    refine gX6_get fx hw isO_9 6 (by decide) wd5_25 rfl dX6_setBell_33 ?_
    refine lv_if_le (tgt := 41) hx hb dX6_setBell_36 (by decide) (fun hc36 => ?_) (fun hc36 => ?_)
    · replace hF := st_t hc36 hF
      refine lv_aload_n hx hb dX6_setBell_41 rfl (lv_at hl 0 rfl) ?_
      refine lv_aload_n hx hb dX6_setBell_42 rfl (lv_at hl 0 rfl) ?_
      refine gX6_get fx hw isO_9 0 (by decide) wd5_19 rfl dX6_setBell_43 ?_
      obtain ⟨M19, hgr18, hF⟩ := st_bnd hF
      refine g_cv hw (g_runV (C := RX6) (As := [.ref (ad 10)]) (rest := []) fx hw isO_9 rfl (c_X6_keeps l x D cy ad 10 isA_10 H.size M17 M19 hgr18) wd5_99 wd5_101 wd0_42 wd1_8 wd5_102 yd_X6_keeps rfl rfl (Nat.le_of_ble_eq_true rfl) hl.1 ⟨Nat.le_trans (Nat.le_of_ble_eq_true rfl) hR.1, Nat.le_trans (Nat.le_of_ble_eq_true rfl) hR.2.1⟩ ⟨Nat.le_trans (Nat.le_of_ble_eq_true rfl) hR.2.2.1, Nat.le_trans (Nat.le_of_ble_eq_true rfl) hR.2.2.2⟩ dX6_setBell_46) (fun H locs hw => ?_)
      refine lv_aload_n hx hb dX6_setBell_49 rfl (lv_at hl 0 rfl) ?_
      refine gX6_get fx hw isO_9 0 (by decide) wd5_19 rfl dX6_setBell_50 ?_
      refine lv_bipush (v := 20) hx hb dX6_setBell_53 (by decide) ?_
      refine lv_iload_n hx hb dX6_setBell_55 rfl (lv_at hl 1 rfl) ?_
      refine lv_iadd hx hb dX6_setBell_56 ?_
      obtain ⟨hi20, hF⟩ := st_chk hF
      refine g_iald fx hw isA_10 hi20 dX6_setBell_57 ?_
      refine lv_istore_n (lv' := [(3, .int (M19 10 (ix (20 + a1)))), (0, .ref (ad 9)), (1, .int a1), (2, .int a2)]) hx hb dX6_setBell_58 rfl hl (by decide) rfl (fun ls hl => ?_)
      refine lv_aload_n hx hb dX6_setBell_59 rfl (lv_at hl 1 rfl) ?_
      refine gX6_get fx hw isO_9 0 (by decide) wd5_19 rfl dX6_setBell_60 ?_
      refine lv_bipush (v := 20) hx hb dX6_setBell_63 (by decide) ?_
      refine lv_iload_n hx hb dX6_setBell_65 rfl (lv_at hl 2 rfl) ?_
      refine lv_iadd hx hb dX6_setBell_66 ?_
      refine lv_iload_n hx hb dX6_setBell_67 rfl (lv_at hl 3 rfl) ?_
      obtain ⟨hi22, hF⟩ := st_chk hF
      obtain ⟨M21, eM21, hF⟩ := st_letM hF
      refine g_iast fx hw isA_10 hi22 eM21 dX6_setBell_68 (fun H locs hw => ?_)
      refine lv_iload_n hx hb dX6_setBell_69 rfl (lv_at hl 0 rfl) ?_
      exact E _ _ _ _ _ _ dX6_setBell_70 hw hF
    · replace hF := st_f hc36 hF
      refine lv_iconst (v := 0) hx hb dX6_setBell_39 (by decide) ?_
      exact E _ _ _ _ _ _ dX6_setBell_40 hw hF
  unfold f_X6_setBell at hF
  refine lv_aload_n hx hb dX6_setBell_0 rfl (lv_at hl 0 rfl) ?_
  refine lv_iload_n hx hb dX6_setBell_1 rfl (lv_at hl 1 rfl) ?_
  refine lv_iconst (v := 0) hx hb dX6_setBell_2 (by decide) ?_
  refine lv_bipush (v := 23) hx hb dX6_setBell_3 (by decide) ?_
  obtain ⟨r23, hgr23, hF⟩ := st_bnd hF
  refine g_cz hw (g_runS (As := [.int p1, .int 0, .int 23]) (rest := [.ref (ad 9)]) fx hw (c_X6_isIn l x D cy ad p1 0 23 H.size M r23 hgr23) wd5_92 wd5_93 wd1_8 wd5_94 yd_X6_isIn rfl rfl (Nat.le_of_ble_eq_true rfl) hl.1 ⟨Nat.le_trans (Nat.le_of_ble_eq_true rfl) hR.1, Nat.le_trans (Nat.le_of_ble_eq_true rfl) hR.2.1⟩ ⟨Nat.le_trans (Nat.le_of_ble_eq_true rfl) hR.2.2.1, Nat.le_trans (Nat.le_of_ble_eq_true rfl) hR.2.2.2⟩ dX6_setBell_5) (fun H locs hbr23 hw => ?_)
  refine lv_if_ne (tgt := 15) hx hb dX6_setBell_8 (by decide) (fun hc8 => ?_) (fun hc8 => ?_)
  · replace hF := st_f hc8 hF
    refine lv_iload_n hx hb dX6_setBell_15 rfl (lv_at hl 2 rfl) ?_
    refine lv_iconst (v := 0) hx hb dX6_setBell_16 (by decide) ?_
    refine lv_iconst (v := 2) hx hb dX6_setBell_17 (by decide) ?_
    obtain ⟨r24, hgr24, hF⟩ := st_bnd hF
    refine g_cz hw (g_runS (As := [.int p2, .int 0, .int 2]) (rest := [.ref (ad 9)]) fx hw (c_X6_isIn l x D cy ad p2 0 2 H.size M r24 hgr24) wd5_92 wd5_93 wd1_8 wd5_94 yd_X6_isIn rfl rfl (Nat.le_of_ble_eq_true rfl) hl.1 ⟨Nat.le_trans (Nat.le_of_ble_eq_true rfl) hR.1, Nat.le_trans (Nat.le_of_ble_eq_true rfl) hR.2.1⟩ ⟨Nat.le_trans (Nat.le_of_ble_eq_true rfl) hR.2.2.1, Nat.le_trans (Nat.le_of_ble_eq_true rfl) hR.2.2.2⟩ dX6_setBell_18) (fun H locs hbr24 hw => ?_)
    refine lv_if_eq (tgt := 28) hx hb dX6_setBell_21 (by decide) (fun hc21 => ?_) (fun hc21 => ?_)
    · replace hF := st_t hc21 hF
      refine lv_iconst (v := 2) hx hb dX6_setBell_28 (by decide) ?_
      exact n_29 p1 p2 2 M H locs ls (lv_sub hl [0, 1, 2] rfl) hw hF
    · replace hF := st_f hc21 hF
      refine lv_iconst (v := 0) hx hb dX6_setBell_24 (by decide) ?_
      refine lv_goto (tgt := 29) hx hb dX6_setBell_25 (by decide) ?_
      exact n_29 p1 p2 0 M H locs ls (lv_sub hl [0, 1, 2] rfl) hw hF
  · replace hF := st_t hc8 hF
    refine lv_iconst (v := 1) hx hb dX6_setBell_11 (by decide) ?_
    refine lv_goto (tgt := 29) hx hb dX6_setBell_12 (by decide) ?_
    exact n_29 p1 p2 1 M H locs ls (lv_sub hl [0, 1, 2] rfl) hw hF
theorem c_X6_setBell (l : Launch) (x : SX) (D : va_G) (cy : Nat → ClassId) (ad : Nat → Nat) (p1 p2 : Int32) (sz : Nat) (M : Mem) (z : Int32) (M' : Mem) (hF : f_X6_setBell p1 p2 M = some (z, M')) : Met l yX6_setBell (.code yX6_setBell cX6_setBell 4 (some .int) :: GB) ({ frames := 2, cells := 0, slots := 0, locals := 46 } : Room) (PcW D cy ad x sz M [.ref (ad 9), .int p1, .int p2]) (QiW D cy ad sz z M') 0 0 (AA ad sz) := by
  refine mk_m (own := RX6) (by decide) rfl (Nat.le_of_ble_eq_true rfl) ?_
  intro p e s m args below meth c ls fx hw hl hsz
  subst hsz
  exact b_X6_setBell fx ⟨Nat.le_refl _, Nat.le_refl _, Nat.le_refl _, Nat.le_refl _⟩ p1 p2 M z M' hF (fun pc ls H locs v M1 hd hw h => by cases h; exact g_iret fx hw rfl hd) _ _ ls hl hw
noncomputable def f_X6_set_36 : Int32 → Int32 → Int32 → Mem → Option (Int32 × Mem) := fun a1 a2 t1 M => (letM (mput M 9 6 t1) (fun M11 => (if (M11 9 6) ≤ 0 then (bnd (f_X6_keeps 10 M11) (fun M13 => (chk (inB a1 156) (chk (inB a1 156) (letM (mput M13 10 (ix a1) a2) (fun M15 => (some ((M13 10 (ix a1)), M15)))))))) else (some (0, M11)))))
noncomputable def f_X6_set_35 : Int32 → Int32 → Mem → Option (Int32 × Mem) := fun a1 a2 M => ((f_X6_set_36) a1 a2 1 M)
noncomputable def f_X6_set_31 : Int32 → Int32 → Mem → Option (Int32 × Mem) := fun a1 a2 M => ((f_X6_set_36) a1 a2 0 M)
noncomputable def f_X6_set_16 : Int32 → Int32 → Mem → Option (Int32 × Mem) := fun a1 a2 M => (if a1 = 3 then (bnd (f_X6_isIn a2 0 50 M) (fun r17 => (if r17 = 0 then ((f_X6_set_35) a1 a2 M) else ((f_X6_set_31) a1 a2 M)))) else ((f_X6_set_35) a1 a2 M))
noncomputable def f_X6_set (p1 p2 : Int32) (M : Mem) : Option (Int32 × Mem) := (if p1 = 2 then (bnd (f_X6_isIn p2 0 99 M) (fun r18 => (if r18 = 0 then ((f_X6_set_16) p1 p2 M) else ((f_X6_set_31) p1 p2 M)))) else ((f_X6_set_16) p1 p2 M))
set_option maxHeartbeats 4000000 in
set_option maxRecDepth 100000 in
theorem b_X6_set {p : Program} {l : Launch} {e : Env} {R : Room} {s : State} {m : MethodId} {args : Array Value} {below : List Frame} {meth : Method} {c : Code} {Q : State → Prop} {D : va_G} {cy : Nat → ClassId} {ad : Nat → Nat} {x : SX} (fx : FX p s m args meth c cX6_set 4 (some .int) RX6 D cy ad x) (hR : 2 ≤ R.frames ∧ 46 ≤ R.locals ∧ 0 ≤ R.cells ∧ 0 ≤ R.slots) (p1 p2 : Int32) (M : Mem) (z : Int32) (M' : Mem) (hF : f_X6_set p1 p2 M = some (z, M')) (E : ∀ (pc : Nat) (ls : Array Slot) (H : Heap) (locs : List Loc) (v : Int32) (M1 : Mem), decode cX6_set pc = .ok (.ireturn, 1) → WD D cy ad s M1 H locs → some (v, M1) = some (z, M') → W p l e R s m args below meth c H locs 0 0 Q (F0 m pc ls [.int v])) (H : Heap) (locs : List Loc) (ls : Array Slot) (hl : lv_has ls 4 [(0, .ref (ad 9)), (1, .int p1), (2, .int p2)]) (hw : WD D cy ad s M H locs) : W p l e R s m args below meth c H locs 0 0 Q (F0 m 0 ls []) := by
  have hx := fx.1.1
  have hb := fx.1.2.1
  have hown := fx.1.2.2.2.1
  have hts := fx.1.2.2.2.2
  have n_36 : ∀ (a1 : Int32) (a2 : Int32) (t1 : Int32) (M : Mem) (H : Heap) (locs : List Loc) (ls : Array Slot), lv_has ls 4 [(0, .ref (ad 9)), (1, .int a1), (2, .int a2)] → WD D cy ad s M H locs → f_X6_set_36 a1 a2 t1 M = some (z, M') → W p l e R s m args below meth c H locs 0 0 Q (F0 m 36 ls [.int t1, .ref (ad 9)]) := by
    intro a1 a2 t1 M H locs ls hl hw hF
    unfold f_X6_set_36 at hF
    obtain ⟨M11, eM11, hF⟩ := st_letM hF
    refine gX6_put fx hw isO_9 6 (by decide) wd5_25 rfl eM11 rfl (Nat.le_of_ble_eq_true rfl) dX6_set_36 (fun H locs hw => ?_)
    refine lv_aload_n hx hb dX6_set_39 rfl (lv_at hl 0 rfl) ?_
    refine gX6_get fx hw isO_9 6 (by decide) wd5_25 rfl dX6_set_40 ?_
    refine lv_if_le (tgt := 48) hx hb dX6_set_43 (by decide) (fun hc43 => ?_) (fun hc43 => ?_)
    · replace hF := st_t hc43 hF
      refine lv_aload_n hx hb dX6_set_48 rfl (lv_at hl 0 rfl) ?_
      refine lv_aload_n hx hb dX6_set_49 rfl (lv_at hl 0 rfl) ?_
      refine gX6_get fx hw isO_9 0 (by decide) wd5_19 rfl dX6_set_50 ?_
      obtain ⟨M13, hgr12, hF⟩ := st_bnd hF
      refine g_cv hw (g_runV (C := RX6) (As := [.ref (ad 10)]) (rest := []) fx hw isO_9 rfl (c_X6_keeps l x D cy ad 10 isA_10 H.size M11 M13 hgr12) wd5_99 wd5_101 wd0_42 wd1_8 wd5_102 yd_X6_keeps rfl rfl (Nat.le_of_ble_eq_true rfl) hl.1 ⟨Nat.le_trans (Nat.le_of_ble_eq_true rfl) hR.1, Nat.le_trans (Nat.le_of_ble_eq_true rfl) hR.2.1⟩ ⟨Nat.le_trans (Nat.le_of_ble_eq_true rfl) hR.2.2.1, Nat.le_trans (Nat.le_of_ble_eq_true rfl) hR.2.2.2⟩ dX6_set_53) (fun H locs hw => ?_)
      refine lv_aload_n hx hb dX6_set_56 rfl (lv_at hl 0 rfl) ?_
      refine gX6_get fx hw isO_9 0 (by decide) wd5_19 rfl dX6_set_57 ?_
      refine lv_iload_n hx hb dX6_set_60 rfl (lv_at hl 1 rfl) ?_
      obtain ⟨hi14, hF⟩ := st_chk hF
      refine g_iald fx hw isA_10 hi14 dX6_set_61 ?_
      refine lv_istore_n (lv' := [(3, .int (M13 10 (ix a1))), (0, .ref (ad 9)), (1, .int a1), (2, .int a2)]) hx hb dX6_set_62 rfl hl (by decide) rfl (fun ls hl => ?_)
      refine lv_aload_n hx hb dX6_set_63 rfl (lv_at hl 1 rfl) ?_
      refine gX6_get fx hw isO_9 0 (by decide) wd5_19 rfl dX6_set_64 ?_
      refine lv_iload_n hx hb dX6_set_67 rfl (lv_at hl 2 rfl) ?_
      refine lv_iload_n hx hb dX6_set_68 rfl (lv_at hl 3 rfl) ?_
      obtain ⟨hi16, hF⟩ := st_chk hF
      obtain ⟨M15, eM15, hF⟩ := st_letM hF
      refine g_iast fx hw isA_10 hi16 eM15 dX6_set_69 (fun H locs hw => ?_)
      refine lv_iload_n hx hb dX6_set_70 rfl (lv_at hl 0 rfl) ?_
      exact E _ _ _ _ _ _ dX6_set_71 hw hF
    · replace hF := st_f hc43 hF
      refine lv_iconst (v := 0) hx hb dX6_set_46 (by decide) ?_
      exact E _ _ _ _ _ _ dX6_set_47 hw hF
  have n_35 : ∀ (a1 : Int32) (a2 : Int32) (M : Mem) (H : Heap) (locs : List Loc) (ls : Array Slot), lv_has ls 4 [(0, .ref (ad 9)), (1, .int a1), (2, .int a2)] → WD D cy ad s M H locs → f_X6_set_35 a1 a2 M = some (z, M') → W p l e R s m args below meth c H locs 0 0 Q (F0 m 35 ls [.ref (ad 9)]) := by
    intro a1 a2 M H locs ls hl hw hF
    unfold f_X6_set_35 at hF
    refine lv_iconst (v := 1) hx hb dX6_set_35 (by decide) ?_
    exact n_36 a1 a2 1 M H locs ls (lv_sub hl [0, 1, 2] rfl) hw hF
  have n_31 : ∀ (a1 : Int32) (a2 : Int32) (M : Mem) (H : Heap) (locs : List Loc) (ls : Array Slot), lv_has ls 4 [(0, .ref (ad 9)), (1, .int a1), (2, .int a2)] → WD D cy ad s M H locs → f_X6_set_31 a1 a2 M = some (z, M') → W p l e R s m args below meth c H locs 0 0 Q (F0 m 31 ls [.ref (ad 9)]) := by
    intro a1 a2 M H locs ls hl hw hF
    unfold f_X6_set_31 at hF
    refine lv_iconst (v := 0) hx hb dX6_set_31 (by decide) ?_
    refine lv_goto (tgt := 36) hx hb dX6_set_32 (by decide) ?_
    exact n_36 a1 a2 0 M H locs ls (lv_sub hl [0, 1, 2] rfl) hw hF
  have n_16 : ∀ (a1 : Int32) (a2 : Int32) (M : Mem) (H : Heap) (locs : List Loc) (ls : Array Slot), lv_has ls 4 [(0, .ref (ad 9)), (1, .int a1), (2, .int a2)] → WD D cy ad s M H locs → f_X6_set_16 a1 a2 M = some (z, M') → W p l e R s m args below meth c H locs 0 0 Q (F0 m 16 ls [.ref (ad 9)]) := by
    intro a1 a2 M H locs ls hl hw hF
    unfold f_X6_set_16 at hF
    refine lv_iload_n hx hb dX6_set_16 rfl (lv_at hl 1 rfl) ?_
    refine lv_iconst (v := 3) hx hb dX6_set_17 (by decide) ?_
    refine lv_icmp_ne (tgt := 35) hx hb dX6_set_18 (by decide) (fun hc18 => ?_) (fun hc18 => ?_)
    · replace hF := st_f hc18 hF
      exact n_35 a1 a2 M H locs ls (lv_sub hl [0, 1, 2] rfl) hw hF
    · replace hF := st_t hc18 hF
      refine lv_iload_n hx hb dX6_set_21 rfl (lv_at hl 2 rfl) ?_
      refine lv_iconst (v := 0) hx hb dX6_set_22 (by decide) ?_
      refine lv_bipush (v := 50) hx hb dX6_set_23 (by decide) ?_
      obtain ⟨r17, hgr17, hF⟩ := st_bnd hF
      refine g_cz hw (g_runS (As := [.int a2, .int 0, .int 50]) (rest := [.ref (ad 9)]) fx hw (c_X6_isIn l x D cy ad a2 0 50 H.size M r17 hgr17) wd5_92 wd5_93 wd1_8 wd5_94 yd_X6_isIn rfl rfl (Nat.le_of_ble_eq_true rfl) hl.1 ⟨Nat.le_trans (Nat.le_of_ble_eq_true rfl) hR.1, Nat.le_trans (Nat.le_of_ble_eq_true rfl) hR.2.1⟩ ⟨Nat.le_trans (Nat.le_of_ble_eq_true rfl) hR.2.2.1, Nat.le_trans (Nat.le_of_ble_eq_true rfl) hR.2.2.2⟩ dX6_set_25) (fun H locs hbr17 hw => ?_)
      refine lv_if_eq (tgt := 35) hx hb dX6_set_28 (by decide) (fun hc28 => ?_) (fun hc28 => ?_)
      · replace hF := st_t hc28 hF
        exact n_35 a1 a2 M H locs ls (lv_sub hl [0, 1, 2] rfl) hw hF
      · replace hF := st_f hc28 hF
        exact n_31 a1 a2 M H locs ls (lv_sub hl [0, 1, 2] rfl) hw hF
  unfold f_X6_set at hF
  refine lv_aload_n hx hb dX6_set_0 rfl (lv_at hl 0 rfl) ?_
  refine lv_iload_n hx hb dX6_set_1 rfl (lv_at hl 1 rfl) ?_
  refine lv_iconst (v := 2) hx hb dX6_set_2 (by decide) ?_
  refine lv_icmp_ne (tgt := 16) hx hb dX6_set_3 (by decide) (fun hc3 => ?_) (fun hc3 => ?_)
  · replace hF := st_f hc3 hF
    exact n_16 p1 p2 M H locs ls (lv_sub hl [0, 1, 2] rfl) hw hF
  · replace hF := st_t hc3 hF
    refine lv_iload_n hx hb dX6_set_6 rfl (lv_at hl 2 rfl) ?_
    refine lv_iconst (v := 0) hx hb dX6_set_7 (by decide) ?_
    refine lv_bipush (v := 99) hx hb dX6_set_8 (by decide) ?_
    obtain ⟨r18, hgr18, hF⟩ := st_bnd hF
    refine g_cz hw (g_runS (As := [.int p2, .int 0, .int 99]) (rest := [.ref (ad 9)]) fx hw (c_X6_isIn l x D cy ad p2 0 99 H.size M r18 hgr18) wd5_92 wd5_93 wd1_8 wd5_94 yd_X6_isIn rfl rfl (Nat.le_of_ble_eq_true rfl) hl.1 ⟨Nat.le_trans (Nat.le_of_ble_eq_true rfl) hR.1, Nat.le_trans (Nat.le_of_ble_eq_true rfl) hR.2.1⟩ ⟨Nat.le_trans (Nat.le_of_ble_eq_true rfl) hR.2.2.1, Nat.le_trans (Nat.le_of_ble_eq_true rfl) hR.2.2.2⟩ dX6_set_10) (fun H locs hbr18 hw => ?_)
    refine lv_if_ne (tgt := 31) hx hb dX6_set_13 (by decide) (fun hc13 => ?_) (fun hc13 => ?_)
    · replace hF := st_f hc13 hF
      exact n_31 p1 p2 M H locs ls (lv_sub hl [0, 1, 2] rfl) hw hF
    · replace hF := st_t hc13 hF
      exact n_16 p1 p2 M H locs ls (lv_sub hl [0, 1, 2] rfl) hw hF
theorem c_X6_set (l : Launch) (x : SX) (D : va_G) (cy : Nat → ClassId) (ad : Nat → Nat) (p1 p2 : Int32) (sz : Nat) (M : Mem) (z : Int32) (M' : Mem) (hF : f_X6_set p1 p2 M = some (z, M')) : Met l yX6_set (.code yX6_set cX6_set 4 (some .int) :: GB) ({ frames := 2, cells := 0, slots := 0, locals := 46 } : Room) (PcW D cy ad x sz M [.ref (ad 9), .int p1, .int p2]) (QiW D cy ad sz z M') 0 0 (AA ad sz) := by
  refine mk_m (own := RX6) (by decide) rfl (Nat.le_of_ble_eq_true rfl) ?_
  intro p e s m args below meth c ls fx hw hl hsz
  subst hsz
  exact b_X6_set fx ⟨Nat.le_refl _, Nat.le_refl _, Nat.le_refl _, Nat.le_refl _⟩ p1 p2 M z M' hF (fun pc ls H locs v M1 hd hw h => by cases h; exact g_iret fx hw rfl hd) _ _ ls hl hw
noncomputable def f_X6_writes (p1 : Int32) (M : Mem) : Option Mem := (chk (inB (M 9 8) 200) (letM (mput M 15 (ix (M 9 8)) p1) (fun M4 => (letM (mput M4 9 8 ((M4 9 8) + 1)) (fun M6 => (some M6))))))
set_option maxHeartbeats 4000000 in
set_option maxRecDepth 100000 in
theorem b_X6_writes {p : Program} {l : Launch} {e : Env} {R : Room} {s : State} {m : MethodId} {args : Array Value} {below : List Frame} {meth : Method} {c : Code} {Q : State → Prop} {D : va_G} {cy : Nat → ClassId} {ad : Nat → Nat} {x : SX} (fx : FX p s m args meth c cX6_writes 2 none RX6 D cy ad x) (hR : 0 ≤ R.frames ∧ 0 ≤ R.locals ∧ 0 ≤ R.cells ∧ 0 ≤ R.slots) (p1 : Int32) (M : Mem) (M' : Mem) (hF : f_X6_writes p1 M = some M') (E : ∀ (pc : Nat) (ls : Array Slot) (H : Heap) (locs : List Loc) (M1 : Mem), decode cX6_writes pc = .ok (.return_, 1) → WD D cy ad s M1 H locs → some M1 = some M' → W p l e R s m args below meth c H locs 0 0 Q (F0 m pc ls [])) (H : Heap) (locs : List Loc) (ls : Array Slot) (hl : lv_has ls 2 [(0, .ref (ad 9)), (1, .int p1)]) (hw : WD D cy ad s M H locs) : W p l e R s m args below meth c H locs 0 0 Q (F0 m 0 ls []) := by
  have hx := fx.1.1
  have hb := fx.1.2.1
  have hown := fx.1.2.2.2.1
  have hts := fx.1.2.2.2.2
  unfold f_X6_writes at hF
  refine lv_aload_n hx hb dX6_writes_0 rfl (lv_at hl 0 rfl) ?_
  refine gX6_get fx hw isO_9 7 (by decide) wd5_26 rfl dX6_writes_1 ?_
  refine lv_aload_n hx hb dX6_writes_4 rfl (lv_at hl 0 rfl) ?_
  refine gX6_get fx hw isO_9 8 (by decide) wd5_27 rfl dX6_writes_5 ?_
  refine lv_iload_n hx hb dX6_writes_8 rfl (lv_at hl 1 rfl) ?_
  obtain ⟨hi5, hF⟩ := st_chk hF
  obtain ⟨M4, eM4, hF⟩ := st_letM hF
  refine g_iast fx hw isA_15 hi5 eM4 dX6_writes_9 (fun H locs hw => ?_)
  refine lv_aload_n hx hb dX6_writes_10 rfl (lv_at hl 0 rfl) ?_
  refine lv_dup hx hb dX6_writes_11 rfl ?_
  refine gX6_get fx hw isO_9 8 (by decide) wd5_27 rfl dX6_writes_12 ?_
  refine lv_iconst (v := 1) hx hb dX6_writes_15 (by decide) ?_
  refine lv_iadd hx hb dX6_writes_16 ?_
  obtain ⟨M6, eM6, hF⟩ := st_letM hF
  refine gX6_put fx hw isO_9 8 (by decide) wd5_27 rfl eM6 rfl (Nat.le_of_ble_eq_true rfl) dX6_writes_17 (fun H locs hw => ?_)
  exact E _ _ _ _ _ dX6_writes_20 hw hF
theorem c_X6_writes (l : Launch) (x : SX) (D : va_G) (cy : Nat → ClassId) (ad : Nat → Nat) (p1 : Int32) (sz : Nat) (M : Mem) (M' : Mem) (hF : f_X6_writes p1 M = some M') : Met l yX6_writes (.code yX6_writes cX6_writes 2 none :: GB) ({ frames := 0, cells := 0, slots := 0, locals := 0 } : Room) (PcW D cy ad x sz M [.ref (ad 9), .int p1]) (QvW D cy ad sz M') 0 0 (AA ad sz) := by
  refine mk_m (own := RX6) (by decide) rfl (Nat.le_of_ble_eq_true rfl) ?_
  intro p e s m args below meth c ls fx hw hl hsz
  subst hsz
  exact b_X6_writes fx ⟨Nat.le_refl _, Nat.le_refl _, Nat.le_refl _, Nat.le_refl _⟩ p1 M M' hF (fun pc ls H locs M1 hd hw h => by cases h; exact g_vret fx hw hd) _ _ ls hl hw
noncomputable def f_X6_writesName_16 (rec7 : Int32 → Int32 → Mem → Option Mem) (rec16 : Int32 → Int32 → Int32 → Int32 → Mem → Option Mem) : Int32 → Int32 → Int32 → Int32 → Mem → Option Mem := fun a1 a2 a3 a4 M => (if a2 ≤ a4 then (bnd (f_X6_writes (((irem a3 27) - 1) + 97) M) (fun M6 => (rec7 a1 (a2 + (-1)) M6))) else (rec16 a1 a2 (a3 / 27) (a4 + 1) M))
noncomputable def f_X6_writesName_7 (rec7 : Int32 → Int32 → Mem → Option Mem) : Int32 → Int32 → Mem → Option Mem := fun a1 a2 M => (if a2 < 0 then (some M) else ((lp (fun _ _ _ _ _ => none) (f_X6_writesName_16 rec7) FU) a1 a2 a1 0 M))
noncomputable def f_X6_writesName (p1 : Int32) (M : Mem) : Option Mem := (bnd (f_X6_lengthOf p1 M) (fun r7 => ((lp (fun _ _ _ => none) (f_X6_writesName_7) FU) p1 (r7 - 1) M)))
set_option maxHeartbeats 4000000 in
set_option maxRecDepth 100000 in
theorem b_X6_writesName {p : Program} {l : Launch} {e : Env} {R : Room} {s : State} {m : MethodId} {args : Array Value} {below : List Frame} {meth : Method} {c : Code} {Q : State → Prop} {D : va_G} {cy : Nat → ClassId} {ad : Nat → Nat} {x : SX} (fx : FX p s m args meth c cX6_writesName 5 none RX6 D cy ad x) (hR : 1 ≤ R.frames ∧ 22 ≤ R.locals ∧ 0 ≤ R.cells ∧ 0 ≤ R.slots) (p1 : Int32) (M : Mem) (M' : Mem) (hF : f_X6_writesName p1 M = some M') (E : ∀ (pc : Nat) (ls : Array Slot) (H : Heap) (locs : List Loc) (M1 : Mem), decode cX6_writesName pc = .ok (.return_, 1) → WD D cy ad s M1 H locs → some M1 = some M' → W p l e R s m args below meth c H locs 0 0 Q (F0 m pc ls [])) (H : Heap) (locs : List Loc) (ls : Array Slot) (hl : lv_has ls 5 [(0, .ref (ad 9)), (1, .int p1)]) (hw : WD D cy ad s M H locs) : W p l e R s m args below meth c H locs 0 0 Q (F0 m 0 ls []) := by
  have hx := fx.1.1
  have hb := fx.1.2.1
  have hown := fx.1.2.2.2.1
  have hts := fx.1.2.2.2.2
  have n_16 : ∀ (rec7 : Int32 → Int32 → Mem → Option Mem) (_ : ∀ (a1 : Int32) (a2 : Int32) (M : Mem) (H : Heap) (locs : List Loc) (ls : Array Slot), lv_has ls 5 [(0, .ref (ad 9)), (1, .int a1), (2, .int a2)] → WD D cy ad s M H locs → rec7 a1 a2 M = some M' → W p l e R s m args below meth c H locs 0 0 Q (F0 m 7 ls [])) (n9 : Nat), ∀ (a1 : Int32) (a2 : Int32) (a3 : Int32) (a4 : Int32) (M : Mem) (H : Heap) (locs : List Loc) (ls : Array Slot), lv_has ls 5 [(0, .ref (ad 9)), (1, .int a1), (2, .int a2), (3, .int a3), (4, .int a4)] → WD D cy ad s M H locs → (lp (fun _ _ _ _ _ => none) (f_X6_writesName_16 rec7) n9) a1 a2 a3 a4 M = some M' → W p l e R s m args below meth c H locs 0 0 Q (F0 m 16 ls []) := by
    intro rec7 hr7 n9
    refine lp_ind (fun (rec16 : Int32 → Int32 → Int32 → Int32 → Mem → Option Mem) => ∀ (a1 : Int32) (a2 : Int32) (a3 : Int32) (a4 : Int32) (M : Mem) (H : Heap) (locs : List Loc) (ls : Array Slot), lv_has ls 5 [(0, .ref (ad 9)), (1, .int a1), (2, .int a2), (3, .int a3), (4, .int a4)] → WD D cy ad s M H locs → rec16 a1 a2 a3 a4 M = some M' → W p l e R s m args below meth c H locs 0 0 Q (F0 m 16 ls [])) ?_ ?_ n9
    · intro a1 a2 a3 a4 M H locs ls hl hw hF
      exact nomatch hF
    · intro rec16 hr16 a1 a2 a3 a4 M H locs ls hl hw hF
      unfold f_X6_writesName_16 at hF
      refine lv_iload hx hb dX6_writesName_16 (lv_at hl 4 rfl) ?_
      refine lv_iload_n hx hb dX6_writesName_18 rfl (lv_at hl 2 rfl) ?_
      refine lv_icmp_ge (tgt := 33) hx hb dX6_writesName_19 (by decide) (fun hc19 => ?_) (fun hc19 => ?_)
      · replace hF := st_t hc19 hF
        refine lv_aload_n hx hb dX6_writesName_33 rfl (lv_at hl 0 rfl) ?_
        refine lv_iload_n hx hb dX6_writesName_34 rfl (lv_at hl 3 rfl) ?_
        refine lv_bipush (v := 27) hx hb dX6_writesName_35 (by decide) ?_
        refine g_irem hx hb dX6_writesName_37 (by decide) ?_
        refine lv_iconst (v := 1) hx hb dX6_writesName_38 (by decide) ?_
        refine lv_isub hx hb dX6_writesName_39 ?_
        refine lv_bipush (v := 97) hx hb dX6_writesName_40 (by decide) ?_
        refine lv_iadd hx hb dX6_writesName_42 ?_
        obtain ⟨M6, hgr5, hF⟩ := st_bnd hF
        refine g_cv hw (g_runV (C := RX6) (As := [.int (((irem a3 27) - 1) + 97)]) (rest := []) fx hw isO_9 rfl (c_X6_writes l x D cy ad (((irem a3 27) - 1) + 97) H.size M M6 hgr5) wd6_115 wd6_117 wd0_80 wd1_8 wd6_118 yd_X6_writes rfl rfl (Nat.le_of_ble_eq_true rfl) hl.1 ⟨Nat.le_trans (Nat.le_of_ble_eq_true rfl) hR.1, Nat.le_trans (Nat.le_of_ble_eq_true rfl) hR.2.1⟩ ⟨Nat.le_trans (Nat.le_of_ble_eq_true rfl) hR.2.2.1, Nat.le_trans (Nat.le_of_ble_eq_true rfl) hR.2.2.2⟩ dX6_writesName_43) (fun H locs hw => ?_)
        refine lv_iinc (v := (a2 + (-1))) (lv' := [(2, .int (a2 + (-1))), (0, .ref (ad 9)), (1, .int a1), (3, .int a3), (4, .int a4)]) hx hb dX6_writesName_46 hl (k := 2) rfl rfl (by decide) rfl (fun ls hl => ?_)
        refine lv_goto (tgt := 7) hx hb dX6_writesName_49 (by decide) ?_
        exact hr7 a1 (a2 + (-1)) M6 H locs ls (lv_sub hl [1, 2, 0] rfl) hw hF
      · replace hF := st_f hc19 hF
        refine lv_iload_n hx hb dX6_writesName_22 rfl (lv_at hl 3 rfl) ?_
        refine lv_bipush (v := 27) hx hb dX6_writesName_23 (by decide) ?_
        refine lv_idiv hx hb dX6_writesName_25 (by decide) ?_
        refine lv_istore_n (lv' := [(3, .int (a3 / 27)), (0, .ref (ad 9)), (1, .int a1), (2, .int a2), (4, .int a4)]) hx hb dX6_writesName_26 rfl hl (by decide) rfl (fun ls hl => ?_)
        refine lv_iinc (v := (a4 + 1)) (lv' := [(4, .int (a4 + 1)), (3, .int (a3 / 27)), (0, .ref (ad 9)), (1, .int a1), (2, .int a2)]) hx hb dX6_writesName_27 hl (k := 4) rfl rfl (by decide) rfl (fun ls hl => ?_)
        refine lv_goto (tgt := 16) hx hb dX6_writesName_30 (by decide) ?_
        exact hr16 a1 a2 (a3 / 27) (a4 + 1) M H locs ls (lv_sub hl [2, 3, 4, 1, 0] rfl) hw hF
  have n_7 : ∀ (n9 : Nat), ∀ (a1 : Int32) (a2 : Int32) (M : Mem) (H : Heap) (locs : List Loc) (ls : Array Slot), lv_has ls 5 [(0, .ref (ad 9)), (1, .int a1), (2, .int a2)] → WD D cy ad s M H locs → (lp (fun _ _ _ => none) (f_X6_writesName_7) n9) a1 a2 M = some M' → W p l e R s m args below meth c H locs 0 0 Q (F0 m 7 ls []) := by
    intro n9
    refine lp_ind (fun (rec7 : Int32 → Int32 → Mem → Option Mem) => ∀ (a1 : Int32) (a2 : Int32) (M : Mem) (H : Heap) (locs : List Loc) (ls : Array Slot), lv_has ls 5 [(0, .ref (ad 9)), (1, .int a1), (2, .int a2)] → WD D cy ad s M H locs → rec7 a1 a2 M = some M' → W p l e R s m args below meth c H locs 0 0 Q (F0 m 7 ls [])) ?_ ?_ n9
    · intro a1 a2 M H locs ls hl hw hF
      exact nomatch hF
    · intro rec7 hr7 a1 a2 M H locs ls hl hw hF
      unfold f_X6_writesName_7 at hF
      refine lv_iload_n hx hb dX6_writesName_7 rfl (lv_at hl 2 rfl) ?_
      refine lv_if_lt (tgt := 52) hx hb dX6_writesName_8 (by decide) (fun hc8 => ?_) (fun hc8 => ?_)
      · replace hF := st_t hc8 hF
        exact E _ _ _ _ _ dX6_writesName_52 hw hF
      · replace hF := st_f hc8 hF
        refine lv_iload_n hx hb dX6_writesName_11 rfl (lv_at hl 1 rfl) ?_
        refine lv_istore_n (lv' := [(3, .int a1), (0, .ref (ad 9)), (1, .int a1), (2, .int a2)]) hx hb dX6_writesName_12 rfl hl (by decide) rfl (fun ls hl => ?_)
        refine lv_iconst (v := 0) hx hb dX6_writesName_13 (by decide) ?_
        refine lv_istore (lv' := [(4, .int 0), (3, .int a1), (0, .ref (ad 9)), (1, .int a1), (2, .int a2)]) hx hb dX6_writesName_14 hl (by decide) rfl (fun ls hl => ?_)
        exact n_16 rec7 hr7 FU a1 a2 a1 0 M H locs ls (lv_sub hl [2, 3, 4, 1, 0] rfl) hw hF
  unfold f_X6_writesName at hF
  refine lv_iload_n hx hb dX6_writesName_0 rfl (lv_at hl 1 rfl) ?_
  obtain ⟨r7, hgr7, hF⟩ := st_bnd hF
  refine g_ci hw (g_runS (As := [.int p1]) (rest := []) fx hw (c_X6_lengthOf l x D cy ad p1 H.size M r7 hgr7) wd5_154 wd5_155 wd1_8 wd5_156 yd_X6_lengthOf rfl rfl (Nat.le_of_ble_eq_true rfl) hl.1 ⟨Nat.le_trans (Nat.le_of_ble_eq_true rfl) hR.1, Nat.le_trans (Nat.le_of_ble_eq_true rfl) hR.2.1⟩ ⟨Nat.le_trans (Nat.le_of_ble_eq_true rfl) hR.2.2.1, Nat.le_trans (Nat.le_of_ble_eq_true rfl) hR.2.2.2⟩ dX6_writesName_1) (fun H locs hw => ?_)
  refine lv_iconst (v := 1) hx hb dX6_writesName_4 (by decide) ?_
  refine lv_isub hx hb dX6_writesName_5 ?_
  refine lv_istore_n (lv' := [(2, .int (r7 - 1)), (0, .ref (ad 9)), (1, .int p1)]) hx hb dX6_writesName_6 rfl hl (by decide) rfl (fun ls hl => ?_)
  exact n_7 FU p1 (r7 - 1) M H locs ls (lv_sub hl [1, 2, 0] rfl) hw hF
theorem c_X6_writesName (l : Launch) (x : SX) (D : va_G) (cy : Nat → ClassId) (ad : Nat → Nat) (p1 : Int32) (sz : Nat) (M : Mem) (M' : Mem) (hF : f_X6_writesName p1 M = some M') : Met l yX6_writesName (.code yX6_writesName cX6_writesName 5 none :: GB) ({ frames := 1, cells := 0, slots := 0, locals := 22 } : Room) (PcW D cy ad x sz M [.ref (ad 9), .int p1]) (QvW D cy ad sz M') 0 0 (AA ad sz) := by
  refine mk_m (own := RX6) (by decide) rfl (Nat.le_of_ble_eq_true rfl) ?_
  intro p e s m args below meth c ls fx hw hl hsz
  subst hsz
  exact b_X6_writesName fx ⟨Nat.le_refl _, Nat.le_refl _, Nat.le_refl _, Nat.le_refl _⟩ p1 M M' hF (fun pc ls H locs M1 hd hw h => by cases h; exact g_vret fx hw hd) _ _ ls hl hw
noncomputable def f_X6_writesNeeds_53 (rec4 : Int32 → Int32 → Int32 → Mem → Option Mem) : Int32 → Int32 → Int32 → Mem → Option Mem := fun a1 a2 a3 M => (rec4 a1 a2 (a3 + 1) M)
noncomputable def f_X6_writesNeeds_35 (rec4 : Int32 → Int32 → Int32 → Mem → Option Mem) : Int32 → Int32 → Int32 → Mem → Option Mem := fun a1 a2 a3 M => (chk (inB (44 + (2 * a3)) 156) (bnd (f_X6_writesName (M 10 (ix (44 + (2 * a3)))) M) (fun M10 => ((f_X6_writesNeeds_53 rec4) a1 (a2 + 1) a3 M10))))
noncomputable def f_X6_writesNeeds_4 (rec4 : Int32 → Int32 → Int32 → Mem → Option Mem) : Int32 → Int32 → Int32 → Mem → Option Mem := fun a1 a2 a3 M => (if (M 10 1) ≤ a3 then (some M) else (if ((ishr a1 a3) &&& 1) = 0 then ((f_X6_writesNeeds_53 rec4) a1 a2 a3 M) else (if a2 ≤ 0 then ((f_X6_writesNeeds_35 rec4) a1 a2 a3 M) else (bnd (f_X6_writes 32 M) (fun M12 => ((f_X6_writesNeeds_35 rec4) a1 a2 a3 M12))))))
noncomputable def f_X6_writesNeeds (p1 : Int32) (M : Mem) : Option Mem := ((lp (fun _ _ _ _ => none) (f_X6_writesNeeds_4) FU) p1 0 0 M)
set_option maxHeartbeats 4000000 in
set_option maxRecDepth 100000 in
theorem b_X6_writesNeeds {p : Program} {l : Launch} {e : Env} {R : Room} {s : State} {m : MethodId} {args : Array Value} {below : List Frame} {meth : Method} {c : Code} {Q : State → Prop} {D : va_G} {cy : Nat → ClassId} {ad : Nat → Nat} {x : SX} (fx : FX p s m args meth c cX6_writesNeeds 4 none RX6 D cy ad x) (hR : 2 ≤ R.frames ∧ 46 ≤ R.locals ∧ 0 ≤ R.cells ∧ 0 ≤ R.slots) (p1 : Int32) (M : Mem) (M' : Mem) (hF : f_X6_writesNeeds p1 M = some M') (E : ∀ (pc : Nat) (ls : Array Slot) (H : Heap) (locs : List Loc) (M1 : Mem), decode cX6_writesNeeds pc = .ok (.return_, 1) → WD D cy ad s M1 H locs → some M1 = some M' → W p l e R s m args below meth c H locs 0 0 Q (F0 m pc ls [])) (H : Heap) (locs : List Loc) (ls : Array Slot) (hl : lv_has ls 4 [(0, .ref (ad 9)), (1, .int p1)]) (hw : WD D cy ad s M H locs) : W p l e R s m args below meth c H locs 0 0 Q (F0 m 0 ls []) := by
  have hx := fx.1.1
  have hb := fx.1.2.1
  have hown := fx.1.2.2.2.1
  have hts := fx.1.2.2.2.2
  have n_53 : ∀ (rec4 : Int32 → Int32 → Int32 → Mem → Option Mem) (_ : ∀ (a1 : Int32) (a2 : Int32) (a3 : Int32) (M : Mem) (H : Heap) (locs : List Loc) (ls : Array Slot), lv_has ls 4 [(0, .ref (ad 9)), (1, .int a1), (2, .int a2), (3, .int a3)] → WD D cy ad s M H locs → rec4 a1 a2 a3 M = some M' → W p l e R s m args below meth c H locs 0 0 Q (F0 m 4 ls [])) , ∀ (a1 : Int32) (a2 : Int32) (a3 : Int32) (M : Mem) (H : Heap) (locs : List Loc) (ls : Array Slot), lv_has ls 4 [(0, .ref (ad 9)), (1, .int a1), (2, .int a2), (3, .int a3)] → WD D cy ad s M H locs → f_X6_writesNeeds_53 rec4 a1 a2 a3 M = some M' → W p l e R s m args below meth c H locs 0 0 Q (F0 m 53 ls []) := by
    intro rec4 hr4 a1 a2 a3 M H locs ls hl hw hF
    unfold f_X6_writesNeeds_53 at hF
    refine lv_iinc (v := (a3 + 1)) (lv' := [(3, .int (a3 + 1)), (0, .ref (ad 9)), (1, .int a1), (2, .int a2)]) hx hb dX6_writesNeeds_53 hl (k := 3) rfl rfl (by decide) rfl (fun ls hl => ?_)
    refine lv_goto (tgt := 4) hx hb dX6_writesNeeds_56 (by decide) ?_
    exact hr4 a1 a2 (a3 + 1) M H locs ls (lv_sub hl [1, 2, 3, 0] rfl) hw hF
  have n_35 : ∀ (rec4 : Int32 → Int32 → Int32 → Mem → Option Mem) (_ : ∀ (a1 : Int32) (a2 : Int32) (a3 : Int32) (M : Mem) (H : Heap) (locs : List Loc) (ls : Array Slot), lv_has ls 4 [(0, .ref (ad 9)), (1, .int a1), (2, .int a2), (3, .int a3)] → WD D cy ad s M H locs → rec4 a1 a2 a3 M = some M' → W p l e R s m args below meth c H locs 0 0 Q (F0 m 4 ls [])) , ∀ (a1 : Int32) (a2 : Int32) (a3 : Int32) (M : Mem) (H : Heap) (locs : List Loc) (ls : Array Slot), lv_has ls 4 [(0, .ref (ad 9)), (1, .int a1), (2, .int a2), (3, .int a3)] → WD D cy ad s M H locs → f_X6_writesNeeds_35 rec4 a1 a2 a3 M = some M' → W p l e R s m args below meth c H locs 0 0 Q (F0 m 35 ls []) := by
    intro rec4 hr4 a1 a2 a3 M H locs ls hl hw hF
    unfold f_X6_writesNeeds_35 at hF
    refine lv_aload_n hx hb dX6_writesNeeds_35 rfl (lv_at hl 0 rfl) ?_
    refine lv_aload_n hx hb dX6_writesNeeds_36 rfl (lv_at hl 0 rfl) ?_
    refine gX6_get fx hw isO_9 0 (by decide) wd5_19 rfl dX6_writesNeeds_37 ?_
    refine lv_bipush (v := 44) hx hb dX6_writesNeeds_40 (by decide) ?_
    refine lv_iconst (v := 2) hx hb dX6_writesNeeds_42 (by decide) ?_
    refine lv_iload_n hx hb dX6_writesNeeds_43 rfl (lv_at hl 3 rfl) ?_
    refine lv_imul hx hb dX6_writesNeeds_44 ?_
    refine lv_iadd hx hb dX6_writesNeeds_45 ?_
    obtain ⟨hi8, hF⟩ := st_chk hF
    refine g_iald fx hw isA_10 hi8 dX6_writesNeeds_46 ?_
    obtain ⟨M10, hgr9, hF⟩ := st_bnd hF
    refine g_cv hw (g_runV (C := RX6) (As := [.int (M 10 (ix (44 + (2 * a3))))]) (rest := []) fx hw isO_9 rfl (c_X6_writesName l x D cy ad (M 10 (ix (44 + (2 * a3)))) H.size M M10 hgr9) wd6_111 wd6_113 wd0_79 wd1_8 wd6_114 yd_X6_writesName rfl rfl (Nat.le_of_ble_eq_true rfl) hl.1 ⟨Nat.le_trans (Nat.le_of_ble_eq_true rfl) hR.1, Nat.le_trans (Nat.le_of_ble_eq_true rfl) hR.2.1⟩ ⟨Nat.le_trans (Nat.le_of_ble_eq_true rfl) hR.2.2.1, Nat.le_trans (Nat.le_of_ble_eq_true rfl) hR.2.2.2⟩ dX6_writesNeeds_47) (fun H locs hw => ?_)
    refine lv_iinc (v := (a2 + 1)) (lv' := [(2, .int (a2 + 1)), (0, .ref (ad 9)), (1, .int a1), (3, .int a3)]) hx hb dX6_writesNeeds_50 hl (k := 2) rfl rfl (by decide) rfl (fun ls hl => ?_)
    exact n_53 rec4 hr4 a1 (a2 + 1) a3 M10 H locs ls (lv_sub hl [1, 2, 0, 3] rfl) hw hF
  have n_4 : ∀ (n9 : Nat), ∀ (a1 : Int32) (a2 : Int32) (a3 : Int32) (M : Mem) (H : Heap) (locs : List Loc) (ls : Array Slot), lv_has ls 4 [(0, .ref (ad 9)), (1, .int a1), (2, .int a2), (3, .int a3)] → WD D cy ad s M H locs → (lp (fun _ _ _ _ => none) (f_X6_writesNeeds_4) n9) a1 a2 a3 M = some M' → W p l e R s m args below meth c H locs 0 0 Q (F0 m 4 ls []) := by
    intro n9
    refine lp_ind (fun (rec4 : Int32 → Int32 → Int32 → Mem → Option Mem) => ∀ (a1 : Int32) (a2 : Int32) (a3 : Int32) (M : Mem) (H : Heap) (locs : List Loc) (ls : Array Slot), lv_has ls 4 [(0, .ref (ad 9)), (1, .int a1), (2, .int a2), (3, .int a3)] → WD D cy ad s M H locs → rec4 a1 a2 a3 M = some M' → W p l e R s m args below meth c H locs 0 0 Q (F0 m 4 ls [])) ?_ ?_ n9
    · intro a1 a2 a3 M H locs ls hl hw hF
      exact nomatch hF
    · intro rec4 hr4 a1 a2 a3 M H locs ls hl hw hF
      unfold f_X6_writesNeeds_4 at hF
      refine lv_iload_n hx hb dX6_writesNeeds_4 rfl (lv_at hl 3 rfl) ?_
      refine lv_aload_n hx hb dX6_writesNeeds_5 rfl (lv_at hl 0 rfl) ?_
      refine gX6_get fx hw isO_9 0 (by decide) wd5_19 rfl dX6_writesNeeds_6 ?_
      refine lv_iconst (v := 1) hx hb dX6_writesNeeds_9 (by decide) ?_
      refine g_ialdc fx hw isA_10 (k := 1) rfl (by decide) dX6_writesNeeds_10 ?_
      refine lv_icmp_ge (tgt := 59) hx hb dX6_writesNeeds_11 (by decide) (fun hc11 => ?_) (fun hc11 => ?_)
      · replace hF := st_t hc11 hF
        exact E _ _ _ _ _ dX6_writesNeeds_59 hw hF
      · replace hF := st_f hc11 hF
        refine lv_iload_n hx hb dX6_writesNeeds_14 rfl (lv_at hl 1 rfl) ?_
        refine lv_iload_n hx hb dX6_writesNeeds_15 rfl (lv_at hl 3 rfl) ?_
        refine g_ishr hx hb dX6_writesNeeds_16 ?_
        refine lv_iconst (v := 1) hx hb dX6_writesNeeds_17 (by decide) ?_
        refine lv_iand hx hb dX6_writesNeeds_18 ?_
        refine lv_if_ne (tgt := 25) hx hb dX6_writesNeeds_19 (by decide) (fun hc19 => ?_) (fun hc19 => ?_)
        · replace hF := st_f hc19 hF
          refine lv_iload_n hx hb dX6_writesNeeds_25 rfl (lv_at hl 2 rfl) ?_
          refine lv_if_le (tgt := 35) hx hb dX6_writesNeeds_26 (by decide) (fun hc26 => ?_) (fun hc26 => ?_)
          · replace hF := st_t hc26 hF
            exact n_35 rec4 hr4 a1 a2 a3 M H locs ls (lv_sub hl [0, 1, 2, 3] rfl) hw hF
          · replace hF := st_f hc26 hF
            refine lv_aload_n hx hb dX6_writesNeeds_29 rfl (lv_at hl 0 rfl) ?_
            refine lv_bipush (v := 32) hx hb dX6_writesNeeds_30 (by decide) ?_
            obtain ⟨M12, hgr11, hF⟩ := st_bnd hF
            refine g_cv hw (g_runV (C := RX6) (As := [.int 32]) (rest := []) fx hw isO_9 rfl (c_X6_writes l x D cy ad 32 H.size M M12 hgr11) wd6_115 wd6_117 wd0_80 wd1_8 wd6_118 yd_X6_writes rfl rfl (Nat.le_of_ble_eq_true rfl) hl.1 ⟨Nat.le_trans (Nat.le_of_ble_eq_true rfl) hR.1, Nat.le_trans (Nat.le_of_ble_eq_true rfl) hR.2.1⟩ ⟨Nat.le_trans (Nat.le_of_ble_eq_true rfl) hR.2.2.1, Nat.le_trans (Nat.le_of_ble_eq_true rfl) hR.2.2.2⟩ dX6_writesNeeds_32) (fun H locs hw => ?_)
            exact n_35 rec4 hr4 a1 a2 a3 M12 H locs ls (lv_sub hl [0, 1, 2, 3] rfl) hw hF
        · replace hF := st_t hc19 hF
          refine lv_goto (tgt := 53) hx hb dX6_writesNeeds_22 (by decide) ?_
          exact n_53 rec4 hr4 a1 a2 a3 M H locs ls (lv_sub hl [0, 1, 2, 3] rfl) hw hF
  unfold f_X6_writesNeeds at hF
  refine lv_iconst (v := 0) hx hb dX6_writesNeeds_0 (by decide) ?_
  refine lv_istore_n (lv' := [(2, .int 0), (0, .ref (ad 9)), (1, .int p1)]) hx hb dX6_writesNeeds_1 rfl hl (by decide) rfl (fun ls hl => ?_)
  refine lv_iconst (v := 0) hx hb dX6_writesNeeds_2 (by decide) ?_
  refine lv_istore_n (lv' := [(3, .int 0), (2, .int 0), (0, .ref (ad 9)), (1, .int p1)]) hx hb dX6_writesNeeds_3 rfl hl (by decide) rfl (fun ls hl => ?_)
  exact n_4 FU p1 0 0 M H locs ls (lv_sub hl [2, 3, 1, 0] rfl) hw hF
theorem c_X6_writesNeeds (l : Launch) (x : SX) (D : va_G) (cy : Nat → ClassId) (ad : Nat → Nat) (p1 : Int32) (sz : Nat) (M : Mem) (M' : Mem) (hF : f_X6_writesNeeds p1 M = some M') : Met l yX6_writesNeeds (.code yX6_writesNeeds cX6_writesNeeds 4 none :: GB) ({ frames := 2, cells := 0, slots := 0, locals := 46 } : Room) (PcW D cy ad x sz M [.ref (ad 9), .int p1]) (QvW D cy ad sz M') 0 0 (AA ad sz) := by
  refine mk_m (own := RX6) (by decide) rfl (Nat.le_of_ble_eq_true rfl) ?_
  intro p e s m args below meth c ls fx hw hl hsz
  subst hsz
  exact b_X6_writesNeeds fx ⟨Nat.le_refl _, Nat.le_refl _, Nat.le_refl _, Nat.le_refl _⟩ p1 M M' hF (fun pc ls H locs M1 hd hw h => by cases h; exact g_vret fx hw hd) _ _ ls hl hw
noncomputable def f_X6_writeMonk_14 : Int32 → Int32 → Mem → Option (Int32 × Mem) := fun a1 t1 M => (letM (mput M 9 6 t1) (fun M39 => (if (M39 9 6) ≤ 0 then (letM (mput M39 9 8 0) (fun M40 => (bnd (f_X6_mo a1 0 M40) (fun r41 => (chk (inB r41 156) (bnd (f_X6_writesName (M40 10 (ix r41)) M40) (fun M44 => (bnd (f_X6_writes 58 M44) (fun M46 => (bnd (f_X6_mo a1 2 M46) (fun r47 => (chk (inB r47 156) (bnd (f_X6_writesNeeds (M46 10 (ix r47)) M46) (fun M50 => (bnd (f_X6_writes 47 M50) (fun M52 => (bnd (f_X6_mo a1 3 M52) (fun r53 => (chk (inB r53 156) (bnd (f_X6_writesNeeds (M52 10 (ix r53)) M52) (fun M56 => (some ((M56 9 8), M56))))))))))))))))))))))) else (some (0, M39)))))
noncomputable def f_X6_writeMonk (p1 : Int32) (M : Mem) : Option (Int32 × Mem) := (bnd (f_X6_isMonk p1 M) (fun r57 => (if r57 = 0 then ((f_X6_writeMonk_14) p1 1 M) else ((f_X6_writeMonk_14) p1 0 M))))
set_option maxHeartbeats 4000000 in
set_option maxRecDepth 100000 in
theorem b_X6_writeMonk {p : Program} {l : Launch} {e : Env} {R : Room} {s : State} {m : MethodId} {args : Array Value} {below : List Frame} {meth : Method} {c : Code} {Q : State → Prop} {D : va_G} {cy : Nat → ClassId} {ad : Nat → Nat} {x : SX} (fx : FX p s m args meth c cX6_writeMonk 2 (some .int) RX6 D cy ad x) (hR : 3 ≤ R.frames ∧ 69 ≤ R.locals ∧ 0 ≤ R.cells ∧ 0 ≤ R.slots) (p1 : Int32) (M : Mem) (z : Int32) (M' : Mem) (hF : f_X6_writeMonk p1 M = some (z, M')) (E : ∀ (pc : Nat) (ls : Array Slot) (H : Heap) (locs : List Loc) (v : Int32) (M1 : Mem), decode cX6_writeMonk pc = .ok (.ireturn, 1) → WD D cy ad s M1 H locs → some (v, M1) = some (z, M') → W p l e R s m args below meth c H locs 0 0 Q (F0 m pc ls [.int v])) (H : Heap) (locs : List Loc) (ls : Array Slot) (hl : lv_has ls 2 [(0, .ref (ad 9)), (1, .int p1)]) (hw : WD D cy ad s M H locs) : W p l e R s m args below meth c H locs 0 0 Q (F0 m 0 ls []) := by
  have hx := fx.1.1
  have hb := fx.1.2.1
  have hown := fx.1.2.2.2.1
  have hts := fx.1.2.2.2.2
  have n_14 : ∀ (a1 : Int32) (t1 : Int32) (M : Mem) (H : Heap) (locs : List Loc) (ls : Array Slot), lv_has ls 2 [(0, .ref (ad 9)), (1, .int a1)] → WD D cy ad s M H locs → f_X6_writeMonk_14 a1 t1 M = some (z, M') → W p l e R s m args below meth c H locs 0 0 Q (F0 m 14 ls [.int t1, .ref (ad 9)]) := by
    intro a1 t1 M H locs ls hl hw hF
    unfold f_X6_writeMonk_14 at hF
    obtain ⟨M39, eM39, hF⟩ := st_letM hF
    refine gX6_put fx hw isO_9 6 (by decide) wd5_25 rfl eM39 rfl (Nat.le_of_ble_eq_true rfl) dX6_writeMonk_14 (fun H locs hw => ?_)
    refine lv_aload_n hx hb dX6_writeMonk_17 rfl (lv_at hl 0 rfl) ?_
    refine gX6_get fx hw isO_9 6 (by decide) wd5_25 rfl dX6_writeMonk_18 ?_
    refine lv_if_le (tgt := 26) hx hb dX6_writeMonk_21 (by decide) (fun hc21 => ?_) (fun hc21 => ?_)
    · replace hF := st_t hc21 hF
      refine lv_aload_n hx hb dX6_writeMonk_26 rfl (lv_at hl 0 rfl) ?_
      refine lv_iconst (v := 0) hx hb dX6_writeMonk_27 (by decide) ?_
      obtain ⟨M40, eM40, hF⟩ := st_letM hF
      refine gX6_put fx hw isO_9 8 (by decide) wd5_27 rfl eM40 rfl (Nat.le_of_ble_eq_true rfl) dX6_writeMonk_28 (fun H locs hw => ?_)
      refine lv_aload_n hx hb dX6_writeMonk_31 rfl (lv_at hl 0 rfl) ?_
      refine lv_aload_n hx hb dX6_writeMonk_32 rfl (lv_at hl 0 rfl) ?_
      refine gX6_get fx hw isO_9 0 (by decide) wd5_19 rfl dX6_writeMonk_33 ?_
      refine lv_iload_n hx hb dX6_writeMonk_36 rfl (lv_at hl 1 rfl) ?_
      refine lv_iconst (v := 0) hx hb dX6_writeMonk_37 (by decide) ?_
      obtain ⟨r41, hgr41, hF⟩ := st_bnd hF
      refine g_ci hw (g_runS (As := [.int a1, .int 0]) (rest := [.ref (ad 10), .ref (ad 9)]) fx hw (c_X6_mo l x D cy ad a1 0 H.size M40 r41 hgr41) wd5_16 wd5_17 wd1_8 wd5_18 yd_X6_mo rfl rfl (Nat.le_of_ble_eq_true rfl) hl.1 ⟨Nat.le_trans (Nat.le_of_ble_eq_true rfl) hR.1, Nat.le_trans (Nat.le_of_ble_eq_true rfl) hR.2.1⟩ ⟨Nat.le_trans (Nat.le_of_ble_eq_true rfl) hR.2.2.1, Nat.le_trans (Nat.le_of_ble_eq_true rfl) hR.2.2.2⟩ dX6_writeMonk_38) (fun H locs hw => ?_)
      obtain ⟨hi42, hF⟩ := st_chk hF
      refine g_iald fx hw isA_10 hi42 dX6_writeMonk_41 ?_
      obtain ⟨M44, hgr43, hF⟩ := st_bnd hF
      refine g_cv hw (g_runV (C := RX6) (As := [.int (M40 10 (ix r41))]) (rest := []) fx hw isO_9 rfl (c_X6_writesName l x D cy ad (M40 10 (ix r41)) H.size M40 M44 hgr43) wd6_111 wd6_113 wd0_79 wd1_8 wd6_114 yd_X6_writesName rfl rfl (Nat.le_of_ble_eq_true rfl) hl.1 ⟨Nat.le_trans (Nat.le_of_ble_eq_true rfl) hR.1, Nat.le_trans (Nat.le_of_ble_eq_true rfl) hR.2.1⟩ ⟨Nat.le_trans (Nat.le_of_ble_eq_true rfl) hR.2.2.1, Nat.le_trans (Nat.le_of_ble_eq_true rfl) hR.2.2.2⟩ dX6_writeMonk_42) (fun H locs hw => ?_)
      refine lv_aload_n hx hb dX6_writeMonk_45 rfl (lv_at hl 0 rfl) ?_
      refine lv_bipush (v := 58) hx hb dX6_writeMonk_46 (by decide) ?_
      obtain ⟨M46, hgr45, hF⟩ := st_bnd hF
      refine g_cv hw (g_runV (C := RX6) (As := [.int 58]) (rest := []) fx hw isO_9 rfl (c_X6_writes l x D cy ad 58 H.size M44 M46 hgr45) wd6_115 wd6_117 wd0_80 wd1_8 wd6_118 yd_X6_writes rfl rfl (Nat.le_of_ble_eq_true rfl) hl.1 ⟨Nat.le_trans (Nat.le_of_ble_eq_true rfl) hR.1, Nat.le_trans (Nat.le_of_ble_eq_true rfl) hR.2.1⟩ ⟨Nat.le_trans (Nat.le_of_ble_eq_true rfl) hR.2.2.1, Nat.le_trans (Nat.le_of_ble_eq_true rfl) hR.2.2.2⟩ dX6_writeMonk_48) (fun H locs hw => ?_)
      refine lv_aload_n hx hb dX6_writeMonk_51 rfl (lv_at hl 0 rfl) ?_
      refine lv_aload_n hx hb dX6_writeMonk_52 rfl (lv_at hl 0 rfl) ?_
      refine gX6_get fx hw isO_9 0 (by decide) wd5_19 rfl dX6_writeMonk_53 ?_
      refine lv_iload_n hx hb dX6_writeMonk_56 rfl (lv_at hl 1 rfl) ?_
      refine lv_iconst (v := 2) hx hb dX6_writeMonk_57 (by decide) ?_
      obtain ⟨r47, hgr47, hF⟩ := st_bnd hF
      refine g_ci hw (g_runS (As := [.int a1, .int 2]) (rest := [.ref (ad 10), .ref (ad 9)]) fx hw (c_X6_mo l x D cy ad a1 2 H.size M46 r47 hgr47) wd5_16 wd5_17 wd1_8 wd5_18 yd_X6_mo rfl rfl (Nat.le_of_ble_eq_true rfl) hl.1 ⟨Nat.le_trans (Nat.le_of_ble_eq_true rfl) hR.1, Nat.le_trans (Nat.le_of_ble_eq_true rfl) hR.2.1⟩ ⟨Nat.le_trans (Nat.le_of_ble_eq_true rfl) hR.2.2.1, Nat.le_trans (Nat.le_of_ble_eq_true rfl) hR.2.2.2⟩ dX6_writeMonk_58) (fun H locs hw => ?_)
      obtain ⟨hi48, hF⟩ := st_chk hF
      refine g_iald fx hw isA_10 hi48 dX6_writeMonk_61 ?_
      obtain ⟨M50, hgr49, hF⟩ := st_bnd hF
      refine g_cv hw (g_runV (C := RX6) (As := [.int (M46 10 (ix r47))]) (rest := []) fx hw isO_9 rfl (c_X6_writesNeeds l x D cy ad (M46 10 (ix r47)) H.size M46 M50 hgr49) wd6_119 wd6_121 wd0_81 wd1_8 wd6_122 yd_X6_writesNeeds rfl rfl (Nat.le_of_ble_eq_true rfl) hl.1 ⟨Nat.le_trans (Nat.le_of_ble_eq_true rfl) hR.1, Nat.le_trans (Nat.le_of_ble_eq_true rfl) hR.2.1⟩ ⟨Nat.le_trans (Nat.le_of_ble_eq_true rfl) hR.2.2.1, Nat.le_trans (Nat.le_of_ble_eq_true rfl) hR.2.2.2⟩ dX6_writeMonk_62) (fun H locs hw => ?_)
      refine lv_aload_n hx hb dX6_writeMonk_65 rfl (lv_at hl 0 rfl) ?_
      refine lv_bipush (v := 47) hx hb dX6_writeMonk_66 (by decide) ?_
      obtain ⟨M52, hgr51, hF⟩ := st_bnd hF
      refine g_cv hw (g_runV (C := RX6) (As := [.int 47]) (rest := []) fx hw isO_9 rfl (c_X6_writes l x D cy ad 47 H.size M50 M52 hgr51) wd6_115 wd6_117 wd0_80 wd1_8 wd6_118 yd_X6_writes rfl rfl (Nat.le_of_ble_eq_true rfl) hl.1 ⟨Nat.le_trans (Nat.le_of_ble_eq_true rfl) hR.1, Nat.le_trans (Nat.le_of_ble_eq_true rfl) hR.2.1⟩ ⟨Nat.le_trans (Nat.le_of_ble_eq_true rfl) hR.2.2.1, Nat.le_trans (Nat.le_of_ble_eq_true rfl) hR.2.2.2⟩ dX6_writeMonk_68) (fun H locs hw => ?_)
      refine lv_aload_n hx hb dX6_writeMonk_71 rfl (lv_at hl 0 rfl) ?_
      refine lv_aload_n hx hb dX6_writeMonk_72 rfl (lv_at hl 0 rfl) ?_
      refine gX6_get fx hw isO_9 0 (by decide) wd5_19 rfl dX6_writeMonk_73 ?_
      refine lv_iload_n hx hb dX6_writeMonk_76 rfl (lv_at hl 1 rfl) ?_
      refine lv_iconst (v := 3) hx hb dX6_writeMonk_77 (by decide) ?_
      obtain ⟨r53, hgr53, hF⟩ := st_bnd hF
      refine g_ci hw (g_runS (As := [.int a1, .int 3]) (rest := [.ref (ad 10), .ref (ad 9)]) fx hw (c_X6_mo l x D cy ad a1 3 H.size M52 r53 hgr53) wd5_16 wd5_17 wd1_8 wd5_18 yd_X6_mo rfl rfl (Nat.le_of_ble_eq_true rfl) hl.1 ⟨Nat.le_trans (Nat.le_of_ble_eq_true rfl) hR.1, Nat.le_trans (Nat.le_of_ble_eq_true rfl) hR.2.1⟩ ⟨Nat.le_trans (Nat.le_of_ble_eq_true rfl) hR.2.2.1, Nat.le_trans (Nat.le_of_ble_eq_true rfl) hR.2.2.2⟩ dX6_writeMonk_78) (fun H locs hw => ?_)
      obtain ⟨hi54, hF⟩ := st_chk hF
      refine g_iald fx hw isA_10 hi54 dX6_writeMonk_81 ?_
      obtain ⟨M56, hgr55, hF⟩ := st_bnd hF
      refine g_cv hw (g_runV (C := RX6) (As := [.int (M52 10 (ix r53))]) (rest := []) fx hw isO_9 rfl (c_X6_writesNeeds l x D cy ad (M52 10 (ix r53)) H.size M52 M56 hgr55) wd6_119 wd6_121 wd0_81 wd1_8 wd6_122 yd_X6_writesNeeds rfl rfl (Nat.le_of_ble_eq_true rfl) hl.1 ⟨Nat.le_trans (Nat.le_of_ble_eq_true rfl) hR.1, Nat.le_trans (Nat.le_of_ble_eq_true rfl) hR.2.1⟩ ⟨Nat.le_trans (Nat.le_of_ble_eq_true rfl) hR.2.2.1, Nat.le_trans (Nat.le_of_ble_eq_true rfl) hR.2.2.2⟩ dX6_writeMonk_82) (fun H locs hw => ?_)
      refine lv_aload_n hx hb dX6_writeMonk_85 rfl (lv_at hl 0 rfl) ?_
      refine gX6_get fx hw isO_9 8 (by decide) wd5_27 rfl dX6_writeMonk_86 ?_
      exact E _ _ _ _ _ _ dX6_writeMonk_89 hw hF
    · replace hF := st_f hc21 hF
      refine lv_iconst (v := 0) hx hb dX6_writeMonk_24 (by decide) ?_
      exact E _ _ _ _ _ _ dX6_writeMonk_25 hw hF
  unfold f_X6_writeMonk at hF
  refine lv_aload_n hx hb dX6_writeMonk_0 rfl (lv_at hl 0 rfl) ?_
  refine lv_aload_n hx hb dX6_writeMonk_1 rfl (lv_at hl 0 rfl) ?_
  refine lv_iload_n hx hb dX6_writeMonk_2 rfl (lv_at hl 1 rfl) ?_
  obtain ⟨r57, hgr57, hF⟩ := st_bnd hF
  refine g_cz hw (g_runV (C := RX6) (As := [.int p1]) (rest := [.ref (ad 9)]) fx hw isO_9 rfl (c_X6_isMonk l x D cy ad p1 H.size M r57 hgr57) wd5_146 wd5_148 wd0_50 wd1_8 wd5_149 yd_X6_isMonk rfl rfl (Nat.le_of_ble_eq_true rfl) hl.1 ⟨Nat.le_trans (Nat.le_of_ble_eq_true rfl) hR.1, Nat.le_trans (Nat.le_of_ble_eq_true rfl) hR.2.1⟩ ⟨Nat.le_trans (Nat.le_of_ble_eq_true rfl) hR.2.2.1, Nat.le_trans (Nat.le_of_ble_eq_true rfl) hR.2.2.2⟩ dX6_writeMonk_3) (fun H locs hbr57 hw => ?_)
  refine lv_if_eq (tgt := 13) hx hb dX6_writeMonk_6 (by decide) (fun hc6 => ?_) (fun hc6 => ?_)
  · replace hF := st_t hc6 hF
    refine lv_iconst (v := 1) hx hb dX6_writeMonk_13 (by decide) ?_
    exact n_14 p1 1 M H locs ls (lv_sub hl [0, 1] rfl) hw hF
  · replace hF := st_f hc6 hF
    refine lv_iconst (v := 0) hx hb dX6_writeMonk_9 (by decide) ?_
    refine lv_goto (tgt := 14) hx hb dX6_writeMonk_10 (by decide) ?_
    exact n_14 p1 0 M H locs ls (lv_sub hl [0, 1] rfl) hw hF
theorem c_X6_writeMonk (l : Launch) (x : SX) (D : va_G) (cy : Nat → ClassId) (ad : Nat → Nat) (p1 : Int32) (sz : Nat) (M : Mem) (z : Int32) (M' : Mem) (hF : f_X6_writeMonk p1 M = some (z, M')) : Met l yX6_writeMonk (.code yX6_writeMonk cX6_writeMonk 2 (some .int) :: GB) ({ frames := 3, cells := 0, slots := 0, locals := 69 } : Room) (PcW D cy ad x sz M [.ref (ad 9), .int p1]) (QiW D cy ad sz z M') 0 0 (AA ad sz) := by
  refine mk_m (own := RX6) (by decide) rfl (Nat.le_of_ble_eq_true rfl) ?_
  intro p e s m args below meth c ls fx hw hl hsz
  subst hsz
  exact b_X6_writeMonk fx ⟨Nat.le_refl _, Nat.le_refl _, Nat.le_refl _, Nat.le_refl _⟩ p1 M z M' hF (fun pc ls H locs v M1 hd hw h => by cases h; exact g_iret fx hw rfl hd) _ _ ls hl hw
noncomputable def f_X6_writeDay_76 (rec76 : Int32 → Mem → Option (Int32 × Mem)) : Int32 → Mem → Option (Int32 × Mem) := fun a1 M => (if a1 ≤ 0 then (some ((M 9 8), M)) else (chk (nz a1) (bnd (f_X6_writes (48 + (irem ((M 10 4) / a1) 10)) M) (fun M23 => (rec76 (a1 / 10) M23)))))
noncomputable def f_X6_writeDay_53 (rec53 : Int32 → Mem → Option (Int32 × Mem)) : Int32 → Mem → Option (Int32 × Mem) := fun a1 M => (if a1 ≤ 1 then ((lp (fun _ _ => none) (f_X6_writeDay_76) FU) a1 M) else (if a1 ≤ (M 10 4) then ((lp (fun _ _ => none) (f_X6_writeDay_76) FU) a1 M) else (rec53 (a1 / 10) M)))
noncomputable def f_X6_writeDay_34 (rec12 : Int32 → Mem → Option (Int32 × Mem)) : Int32 → Int32 → Mem → Option (Int32 × Mem) := fun a1 t1 M => (bnd (f_X6_writes t1 M) (fun M25 => (rec12 (a1 + 1) M25)))
noncomputable def f_X6_writeDay_12 (rec12 : Int32 → Mem → Option (Int32 × Mem)) : Int32 → Mem → Option (Int32 × Mem) := fun a1 M => (if 24 ≤ a1 then (bnd (f_X6_writes 47 M) (fun M27 => ((lp (fun _ _ => none) (f_X6_writeDay_53) FU) 1000 M27))) else (bnd (f_X6_isSpeech a1 M) (fun r28 => (if r28 = 0 then ((f_X6_writeDay_34 rec12) a1 46 M) else ((f_X6_writeDay_34 rec12) a1 115 M)))))
noncomputable def f_X6_writeDay (M : Mem) : Option (Int32 × Mem) := (letM (mput M 9 6 0) (fun M29 => (letM (mput M29 9 8 0) (fun M30 => ((lp (fun _ _ => none) (f_X6_writeDay_12) FU) 0 M30)))))
set_option maxHeartbeats 4000000 in
set_option maxRecDepth 100000 in
theorem b_X6_writeDay {p : Program} {l : Launch} {e : Env} {R : Room} {s : State} {m : MethodId} {args : Array Value} {below : List Frame} {meth : Method} {c : Code} {Q : State → Prop} {D : va_G} {cy : Nat → ClassId} {ad : Nat → Nat} {x : SX} (fx : FX p s m args meth c cX6_writeDay 2 (some .int) RX6 D cy ad x) (hR : 2 ≤ R.frames ∧ 45 ≤ R.locals ∧ 0 ≤ R.cells ∧ 0 ≤ R.slots) (M : Mem) (z : Int32) (M' : Mem) (hF : f_X6_writeDay M = some (z, M')) (E : ∀ (pc : Nat) (ls : Array Slot) (H : Heap) (locs : List Loc) (v : Int32) (M1 : Mem), decode cX6_writeDay pc = .ok (.ireturn, 1) → WD D cy ad s M1 H locs → some (v, M1) = some (z, M') → W p l e R s m args below meth c H locs 0 0 Q (F0 m pc ls [.int v])) (H : Heap) (locs : List Loc) (ls : Array Slot) (hl : lv_has ls 2 [(0, .ref (ad 9))]) (hw : WD D cy ad s M H locs) : W p l e R s m args below meth c H locs 0 0 Q (F0 m 0 ls []) := by
  have hx := fx.1.1
  have hb := fx.1.2.1
  have hown := fx.1.2.2.2.1
  have hts := fx.1.2.2.2.2
  have n_76 : ∀ (n9 : Nat), ∀ (a1 : Int32) (M : Mem) (H : Heap) (locs : List Loc) (ls : Array Slot), lv_has ls 2 [(0, .ref (ad 9)), (1, .int a1)] → WD D cy ad s M H locs → (lp (fun _ _ => none) (f_X6_writeDay_76) n9) a1 M = some (z, M') → W p l e R s m args below meth c H locs 0 0 Q (F0 m 76 ls []) := by
    intro n9
    refine lp_ind (fun (rec76 : Int32 → Mem → Option (Int32 × Mem)) => ∀ (a1 : Int32) (M : Mem) (H : Heap) (locs : List Loc) (ls : Array Slot), lv_has ls 2 [(0, .ref (ad 9)), (1, .int a1)] → WD D cy ad s M H locs → rec76 a1 M = some (z, M') → W p l e R s m args below meth c H locs 0 0 Q (F0 m 76 ls [])) ?_ ?_ n9
    · intro a1 M H locs ls hl hw hF
      exact nomatch hF
    · intro rec76 hr76 a1 M H locs ls hl hw hF
      unfold f_X6_writeDay_76 at hF
      refine lv_iload_n hx hb dX6_writeDay_76 rfl (lv_at hl 1 rfl) ?_
      refine lv_if_le (tgt := 106) hx hb dX6_writeDay_77 (by decide) (fun hc77 => ?_) (fun hc77 => ?_)
      · replace hF := st_t hc77 hF
        refine lv_aload_n hx hb dX6_writeDay_106 rfl (lv_at hl 0 rfl) ?_
        refine gX6_get fx hw isO_9 8 (by decide) wd5_27 rfl dX6_writeDay_107 ?_
        exact E _ _ _ _ _ _ dX6_writeDay_110 hw hF
      · replace hF := st_f hc77 hF
        refine lv_aload_n hx hb dX6_writeDay_80 rfl (lv_at hl 0 rfl) ?_
        refine lv_bipush (v := 48) hx hb dX6_writeDay_81 (by decide) ?_
        refine lv_aload_n hx hb dX6_writeDay_83 rfl (lv_at hl 0 rfl) ?_
        refine gX6_get fx hw isO_9 0 (by decide) wd5_19 rfl dX6_writeDay_84 ?_
        refine lv_iconst (v := 4) hx hb dX6_writeDay_87 (by decide) ?_
        refine g_ialdc fx hw isA_10 (k := 4) rfl (by decide) dX6_writeDay_88 ?_
        refine lv_iload_n hx hb dX6_writeDay_89 rfl (lv_at hl 1 rfl) ?_
        have hz_90 := st_chk hF
        obtain ⟨hz_90, hF⟩ := hz_90
        refine lv_idiv hx hb dX6_writeDay_90 (nz_of hz_90) ?_
        refine lv_bipush (v := 10) hx hb dX6_writeDay_91 (by decide) ?_
        refine g_irem hx hb dX6_writeDay_93 (by decide) ?_
        refine lv_iadd hx hb dX6_writeDay_94 ?_
        obtain ⟨M23, hgr22, hF⟩ := st_bnd hF
        refine g_cv hw (g_runV (C := RX6) (As := [.int (48 + (irem ((M 10 4) / a1) 10))]) (rest := []) fx hw isO_9 rfl (c_X6_writes l x D cy ad (48 + (irem ((M 10 4) / a1) 10)) H.size M M23 hgr22) wd6_115 wd6_117 wd0_80 wd1_8 wd6_118 yd_X6_writes rfl rfl (Nat.le_of_ble_eq_true rfl) hl.1 ⟨Nat.le_trans (Nat.le_of_ble_eq_true rfl) hR.1, Nat.le_trans (Nat.le_of_ble_eq_true rfl) hR.2.1⟩ ⟨Nat.le_trans (Nat.le_of_ble_eq_true rfl) hR.2.2.1, Nat.le_trans (Nat.le_of_ble_eq_true rfl) hR.2.2.2⟩ dX6_writeDay_95) (fun H locs hw => ?_)
        refine lv_iload_n hx hb dX6_writeDay_98 rfl (lv_at hl 1 rfl) ?_
        refine lv_bipush (v := 10) hx hb dX6_writeDay_99 (by decide) ?_
        refine lv_idiv hx hb dX6_writeDay_101 (by decide) ?_
        refine lv_istore_n (lv' := [(1, .int (a1 / 10)), (0, .ref (ad 9))]) hx hb dX6_writeDay_102 rfl hl (by decide) rfl (fun ls hl => ?_)
        refine lv_goto (tgt := 76) hx hb dX6_writeDay_103 (by decide) ?_
        exact hr76 (a1 / 10) M23 H locs ls (lv_sub hl [1, 0] rfl) hw hF
  have n_53 : ∀ (n9 : Nat), ∀ (a1 : Int32) (M : Mem) (H : Heap) (locs : List Loc) (ls : Array Slot), lv_has ls 2 [(0, .ref (ad 9)), (1, .int a1)] → WD D cy ad s M H locs → (lp (fun _ _ => none) (f_X6_writeDay_53) n9) a1 M = some (z, M') → W p l e R s m args below meth c H locs 0 0 Q (F0 m 53 ls []) := by
    intro n9
    refine lp_ind (fun (rec53 : Int32 → Mem → Option (Int32 × Mem)) => ∀ (a1 : Int32) (M : Mem) (H : Heap) (locs : List Loc) (ls : Array Slot), lv_has ls 2 [(0, .ref (ad 9)), (1, .int a1)] → WD D cy ad s M H locs → rec53 a1 M = some (z, M') → W p l e R s m args below meth c H locs 0 0 Q (F0 m 53 ls [])) ?_ ?_ n9
    · intro a1 M H locs ls hl hw hF
      exact nomatch hF
    · intro rec53 hr53 a1 M H locs ls hl hw hF
      unfold f_X6_writeDay_53 at hF
      refine lv_iload_n hx hb dX6_writeDay_53 rfl (lv_at hl 1 rfl) ?_
      refine lv_iconst (v := 1) hx hb dX6_writeDay_54 (by decide) ?_
      refine lv_icmp_le (tgt := 76) hx hb dX6_writeDay_55 (by decide) (fun hc55 => ?_) (fun hc55 => ?_)
      · replace hF := st_t hc55 hF
        exact n_76 FU a1 M H locs ls (lv_sub hl [0, 1] rfl) hw hF
      · replace hF := st_f hc55 hF
        refine lv_aload_n hx hb dX6_writeDay_58 rfl (lv_at hl 0 rfl) ?_
        refine gX6_get fx hw isO_9 0 (by decide) wd5_19 rfl dX6_writeDay_59 ?_
        refine lv_iconst (v := 4) hx hb dX6_writeDay_62 (by decide) ?_
        refine g_ialdc fx hw isA_10 (k := 4) rfl (by decide) dX6_writeDay_63 ?_
        refine lv_iload_n hx hb dX6_writeDay_64 rfl (lv_at hl 1 rfl) ?_
        refine lv_icmp_ge (tgt := 76) hx hb dX6_writeDay_65 (by decide) (fun hc65 => ?_) (fun hc65 => ?_)
        · replace hF := st_t hc65 hF
          exact n_76 FU a1 M H locs ls (lv_sub hl [0, 1] rfl) hw hF
        · replace hF := st_f hc65 hF
          refine lv_iload_n hx hb dX6_writeDay_68 rfl (lv_at hl 1 rfl) ?_
          refine lv_bipush (v := 10) hx hb dX6_writeDay_69 (by decide) ?_
          refine lv_idiv hx hb dX6_writeDay_71 (by decide) ?_
          refine lv_istore_n (lv' := [(1, .int (a1 / 10)), (0, .ref (ad 9))]) hx hb dX6_writeDay_72 rfl hl (by decide) rfl (fun ls hl => ?_)
          refine lv_goto (tgt := 53) hx hb dX6_writeDay_73 (by decide) ?_
          exact hr53 (a1 / 10) M H locs ls (lv_sub hl [1, 0] rfl) hw hF
  have n_34 : ∀ (rec12 : Int32 → Mem → Option (Int32 × Mem)) (_ : ∀ (a1 : Int32) (M : Mem) (H : Heap) (locs : List Loc) (ls : Array Slot), lv_has ls 2 [(0, .ref (ad 9)), (1, .int a1)] → WD D cy ad s M H locs → rec12 a1 M = some (z, M') → W p l e R s m args below meth c H locs 0 0 Q (F0 m 12 ls [])) , ∀ (a1 : Int32) (t1 : Int32) (M : Mem) (H : Heap) (locs : List Loc) (ls : Array Slot), lv_has ls 2 [(0, .ref (ad 9)), (1, .int a1)] → WD D cy ad s M H locs → f_X6_writeDay_34 rec12 a1 t1 M = some (z, M') → W p l e R s m args below meth c H locs 0 0 Q (F0 m 34 ls [.int t1, .ref (ad 9)]) := by
    intro rec12 hr12 a1 t1 M H locs ls hl hw hF
    unfold f_X6_writeDay_34 at hF
    obtain ⟨M25, hgr24, hF⟩ := st_bnd hF
    refine g_cv hw (g_runV (C := RX6) (As := [.int t1]) (rest := []) fx hw isO_9 rfl (c_X6_writes l x D cy ad t1 H.size M M25 hgr24) wd6_115 wd6_117 wd0_80 wd1_8 wd6_118 yd_X6_writes rfl rfl (Nat.le_of_ble_eq_true rfl) hl.1 ⟨Nat.le_trans (Nat.le_of_ble_eq_true rfl) hR.1, Nat.le_trans (Nat.le_of_ble_eq_true rfl) hR.2.1⟩ ⟨Nat.le_trans (Nat.le_of_ble_eq_true rfl) hR.2.2.1, Nat.le_trans (Nat.le_of_ble_eq_true rfl) hR.2.2.2⟩ dX6_writeDay_34) (fun H locs hw => ?_)
    refine lv_iinc (v := (a1 + 1)) (lv' := [(1, .int (a1 + 1)), (0, .ref (ad 9))]) hx hb dX6_writeDay_37 hl (k := 1) rfl rfl (by decide) rfl (fun ls hl => ?_)
    refine lv_goto (tgt := 12) hx hb dX6_writeDay_40 (by decide) ?_
    exact hr12 (a1 + 1) M25 H locs ls (lv_sub hl [1, 0] rfl) hw hF
  have n_12 : ∀ (n9 : Nat), ∀ (a1 : Int32) (M : Mem) (H : Heap) (locs : List Loc) (ls : Array Slot), lv_has ls 2 [(0, .ref (ad 9)), (1, .int a1)] → WD D cy ad s M H locs → (lp (fun _ _ => none) (f_X6_writeDay_12) n9) a1 M = some (z, M') → W p l e R s m args below meth c H locs 0 0 Q (F0 m 12 ls []) := by
    intro n9
    refine lp_ind (fun (rec12 : Int32 → Mem → Option (Int32 × Mem)) => ∀ (a1 : Int32) (M : Mem) (H : Heap) (locs : List Loc) (ls : Array Slot), lv_has ls 2 [(0, .ref (ad 9)), (1, .int a1)] → WD D cy ad s M H locs → rec12 a1 M = some (z, M') → W p l e R s m args below meth c H locs 0 0 Q (F0 m 12 ls [])) ?_ ?_ n9
    · intro a1 M H locs ls hl hw hF
      exact nomatch hF
    · intro rec12 hr12 a1 M H locs ls hl hw hF
      unfold f_X6_writeDay_12 at hF
      refine lv_iload_n hx hb dX6_writeDay_12 rfl (lv_at hl 1 rfl) ?_
      refine lv_bipush (v := 24) hx hb dX6_writeDay_13 (by decide) ?_
      refine lv_icmp_ge (tgt := 43) hx hb dX6_writeDay_15 (by decide) (fun hc15 => ?_) (fun hc15 => ?_)
      · replace hF := st_t hc15 hF
        refine lv_aload_n hx hb dX6_writeDay_43 rfl (lv_at hl 0 rfl) ?_
        refine lv_bipush (v := 47) hx hb dX6_writeDay_44 (by decide) ?_
        obtain ⟨M27, hgr26, hF⟩ := st_bnd hF
        refine g_cv hw (g_runV (C := RX6) (As := [.int 47]) (rest := []) fx hw isO_9 rfl (c_X6_writes l x D cy ad 47 H.size M M27 hgr26) wd6_115 wd6_117 wd0_80 wd1_8 wd6_118 yd_X6_writes rfl rfl (Nat.le_of_ble_eq_true rfl) hl.1 ⟨Nat.le_trans (Nat.le_of_ble_eq_true rfl) hR.1, Nat.le_trans (Nat.le_of_ble_eq_true rfl) hR.2.1⟩ ⟨Nat.le_trans (Nat.le_of_ble_eq_true rfl) hR.2.2.1, Nat.le_trans (Nat.le_of_ble_eq_true rfl) hR.2.2.2⟩ dX6_writeDay_46) (fun H locs hw => ?_)
        refine lv_sipush (v := 1000) hx hb dX6_writeDay_49 (by decide) ?_
        refine lv_istore_n (lv' := [(1, .int 1000), (0, .ref (ad 9))]) hx hb dX6_writeDay_52 rfl hl (by decide) rfl (fun ls hl => ?_)
        exact n_53 FU 1000 M27 H locs ls (lv_sub hl [1, 0] rfl) hw hF
      · replace hF := st_f hc15 hF
        refine lv_aload_n hx hb dX6_writeDay_18 rfl (lv_at hl 0 rfl) ?_
        refine lv_aload_n hx hb dX6_writeDay_19 rfl (lv_at hl 0 rfl) ?_
        refine lv_iload_n hx hb dX6_writeDay_20 rfl (lv_at hl 1 rfl) ?_
        obtain ⟨r28, hgr28, hF⟩ := st_bnd hF
        refine g_cz hw (g_runV (C := RX6) (As := [.int a1]) (rest := [.ref (ad 9)]) fx hw isO_9 rfl (c_X6_isSpeech l x D cy ad a1 H.size M r28 hgr28) wd5_111 wd5_113 wd0_44 wd1_8 wd5_114 yd_X6_isSpeech rfl rfl (Nat.le_of_ble_eq_true rfl) hl.1 ⟨Nat.le_trans (Nat.le_of_ble_eq_true rfl) hR.1, Nat.le_trans (Nat.le_of_ble_eq_true rfl) hR.2.1⟩ ⟨Nat.le_trans (Nat.le_of_ble_eq_true rfl) hR.2.2.1, Nat.le_trans (Nat.le_of_ble_eq_true rfl) hR.2.2.2⟩ dX6_writeDay_21) (fun H locs hbr28 hw => ?_)
        refine lv_if_eq (tgt := 32) hx hb dX6_writeDay_24 (by decide) (fun hc24 => ?_) (fun hc24 => ?_)
        · replace hF := st_t hc24 hF
          refine lv_bipush (v := 46) hx hb dX6_writeDay_32 (by decide) ?_
          exact n_34 rec12 hr12 a1 46 M H locs ls (lv_sub hl [0, 1] rfl) hw hF
        · replace hF := st_f hc24 hF
          refine lv_bipush (v := 115) hx hb dX6_writeDay_27 (by decide) ?_
          refine lv_goto (tgt := 34) hx hb dX6_writeDay_29 (by decide) ?_
          exact n_34 rec12 hr12 a1 115 M H locs ls (lv_sub hl [0, 1] rfl) hw hF
  unfold f_X6_writeDay at hF
  refine lv_aload_n hx hb dX6_writeDay_0 rfl (lv_at hl 0 rfl) ?_
  refine lv_iconst (v := 0) hx hb dX6_writeDay_1 (by decide) ?_
  obtain ⟨M29, eM29, hF⟩ := st_letM hF
  refine gX6_put fx hw isO_9 6 (by decide) wd5_25 rfl eM29 rfl (Nat.le_of_ble_eq_true rfl) dX6_writeDay_2 (fun H locs hw => ?_)
  refine lv_aload_n hx hb dX6_writeDay_5 rfl (lv_at hl 0 rfl) ?_
  refine lv_iconst (v := 0) hx hb dX6_writeDay_6 (by decide) ?_
  obtain ⟨M30, eM30, hF⟩ := st_letM hF
  refine gX6_put fx hw isO_9 8 (by decide) wd5_27 rfl eM30 rfl (Nat.le_of_ble_eq_true rfl) dX6_writeDay_7 (fun H locs hw => ?_)
  refine lv_iconst (v := 0) hx hb dX6_writeDay_10 (by decide) ?_
  refine lv_istore_n (lv' := [(1, .int 0), (0, .ref (ad 9))]) hx hb dX6_writeDay_11 rfl hl (by decide) rfl (fun ls hl => ?_)
  exact n_12 FU 0 M30 H locs ls (lv_sub hl [1, 0] rfl) hw hF
theorem c_X6_writeDay (l : Launch) (x : SX) (D : va_G) (cy : Nat → ClassId) (ad : Nat → Nat) (sz : Nat) (M : Mem) (z : Int32) (M' : Mem) (hF : f_X6_writeDay M = some (z, M')) : Met l yX6_writeDay (.code yX6_writeDay cX6_writeDay 2 (some .int) :: GB) ({ frames := 2, cells := 0, slots := 0, locals := 45 } : Room) (PcW D cy ad x sz M [.ref (ad 9)]) (QiW D cy ad sz z M') 0 0 (AA ad sz) := by
  refine mk_m (own := RX6) (by decide) rfl (Nat.le_of_ble_eq_true rfl) ?_
  intro p e s m args below meth c ls fx hw hl hsz
  subst hsz
  exact b_X6_writeDay fx ⟨Nat.le_refl _, Nat.le_refl _, Nat.le_refl _, Nat.le_refl _⟩ M z M' hF (fun pc ls H locs v M1 hd hw h => by cases h; exact g_iret fx hw rfl hd) _ _ ls hl hw
noncomputable def f_X6_writtenByte_20 : Int32 → Int32 → Mem → Option (Int32 × Mem) := fun a1 t1 M => (letM (mput M 9 6 t1) (fun M7 => (if (M7 9 6) ≤ 0 then (chk (inB a1 200) (some ((M7 15 (ix a1)), M7))) else (some (0, M7)))))
noncomputable def f_X6_writtenByte (p1 : Int32) (M : Mem) : Option (Int32 × Mem) := (bnd (f_X6_isIn p1 0 ((M 9 8) - 1) M) (fun r9 => (if r9 = 0 then ((f_X6_writtenByte_20) p1 1 M) else ((f_X6_writtenByte_20) p1 0 M))))
set_option maxHeartbeats 4000000 in
set_option maxRecDepth 100000 in
theorem b_X6_writtenByte {p : Program} {l : Launch} {e : Env} {R : Room} {s : State} {m : MethodId} {args : Array Value} {below : List Frame} {meth : Method} {c : Code} {Q : State → Prop} {D : va_G} {cy : Nat → ClassId} {ad : Nat → Nat} {x : SX} (fx : FX p s m args meth c cX6_writtenByte 2 (some .int) RX6 D cy ad x) (hR : 1 ≤ R.frames ∧ 22 ≤ R.locals ∧ 0 ≤ R.cells ∧ 0 ≤ R.slots) (p1 : Int32) (M : Mem) (z : Int32) (M' : Mem) (hF : f_X6_writtenByte p1 M = some (z, M')) (E : ∀ (pc : Nat) (ls : Array Slot) (H : Heap) (locs : List Loc) (v : Int32) (M1 : Mem), decode cX6_writtenByte pc = .ok (.ireturn, 1) → WD D cy ad s M1 H locs → some (v, M1) = some (z, M') → W p l e R s m args below meth c H locs 0 0 Q (F0 m pc ls [.int v])) (H : Heap) (locs : List Loc) (ls : Array Slot) (hl : lv_has ls 2 [(0, .ref (ad 9)), (1, .int p1)]) (hw : WD D cy ad s M H locs) : W p l e R s m args below meth c H locs 0 0 Q (F0 m 0 ls []) := by
  have hx := fx.1.1
  have hb := fx.1.2.1
  have hown := fx.1.2.2.2.1
  have hts := fx.1.2.2.2.2
  have n_20 : ∀ (a1 : Int32) (t1 : Int32) (M : Mem) (H : Heap) (locs : List Loc) (ls : Array Slot), lv_has ls 2 [(0, .ref (ad 9)), (1, .int a1)] → WD D cy ad s M H locs → f_X6_writtenByte_20 a1 t1 M = some (z, M') → W p l e R s m args below meth c H locs 0 0 Q (F0 m 20 ls [.int t1, .ref (ad 9)]) := by
    intro a1 t1 M H locs ls hl hw hF
    unfold f_X6_writtenByte_20 at hF
    obtain ⟨M7, eM7, hF⟩ := st_letM hF
    refine gX6_put fx hw isO_9 6 (by decide) wd5_25 rfl eM7 rfl (Nat.le_of_ble_eq_true rfl) dX6_writtenByte_20 (fun H locs hw => ?_)
    refine lv_aload_n hx hb dX6_writtenByte_23 rfl (lv_at hl 0 rfl) ?_
    refine gX6_get fx hw isO_9 6 (by decide) wd5_25 rfl dX6_writtenByte_24 ?_
    refine lv_if_le (tgt := 34) hx hb dX6_writtenByte_27 (by decide) (fun hc27 => ?_) (fun hc27 => ?_)
    · replace hF := st_t hc27 hF
      refine lv_aload_n hx hb dX6_writtenByte_34 rfl (lv_at hl 0 rfl) ?_
      refine gX6_get fx hw isO_9 7 (by decide) wd5_26 rfl dX6_writtenByte_35 ?_
      refine lv_iload_n hx hb dX6_writtenByte_38 rfl (lv_at hl 1 rfl) ?_
      obtain ⟨hi8, hF⟩ := st_chk hF
      refine g_iald fx hw isA_15 hi8 dX6_writtenByte_39 ?_
      exact E _ _ _ _ _ _ dX6_writtenByte_40 hw hF
    · replace hF := st_f hc27 hF
      refine lv_iconst (v := 0) hx hb dX6_writtenByte_30 (by decide) ?_
      refine lv_goto (tgt := 40) hx hb dX6_writtenByte_31 (by decide) ?_
      exact E _ _ _ _ _ _ dX6_writtenByte_40 hw hF
  unfold f_X6_writtenByte at hF
  refine lv_aload_n hx hb dX6_writtenByte_0 rfl (lv_at hl 0 rfl) ?_
  refine lv_iload_n hx hb dX6_writtenByte_1 rfl (lv_at hl 1 rfl) ?_
  refine lv_iconst (v := 0) hx hb dX6_writtenByte_2 (by decide) ?_
  refine lv_aload_n hx hb dX6_writtenByte_3 rfl (lv_at hl 0 rfl) ?_
  refine gX6_get fx hw isO_9 8 (by decide) wd5_27 rfl dX6_writtenByte_4 ?_
  refine lv_iconst (v := 1) hx hb dX6_writtenByte_7 (by decide) ?_
  refine lv_isub hx hb dX6_writtenByte_8 ?_
  obtain ⟨r9, hgr9, hF⟩ := st_bnd hF
  refine g_cz hw (g_runS (As := [.int p1, .int 0, .int ((M 9 8) - 1)]) (rest := [.ref (ad 9)]) fx hw (c_X6_isIn l x D cy ad p1 0 ((M 9 8) - 1) H.size M r9 hgr9) wd5_92 wd5_93 wd1_8 wd5_94 yd_X6_isIn rfl rfl (Nat.le_of_ble_eq_true rfl) hl.1 ⟨Nat.le_trans (Nat.le_of_ble_eq_true rfl) hR.1, Nat.le_trans (Nat.le_of_ble_eq_true rfl) hR.2.1⟩ ⟨Nat.le_trans (Nat.le_of_ble_eq_true rfl) hR.2.2.1, Nat.le_trans (Nat.le_of_ble_eq_true rfl) hR.2.2.2⟩ dX6_writtenByte_9) (fun H locs hbr9 hw => ?_)
  refine lv_if_eq (tgt := 19) hx hb dX6_writtenByte_12 (by decide) (fun hc12 => ?_) (fun hc12 => ?_)
  · replace hF := st_t hc12 hF
    refine lv_iconst (v := 1) hx hb dX6_writtenByte_19 (by decide) ?_
    exact n_20 p1 1 M H locs ls (lv_sub hl [0, 1] rfl) hw hF
  · replace hF := st_f hc12 hF
    refine lv_iconst (v := 0) hx hb dX6_writtenByte_15 (by decide) ?_
    refine lv_goto (tgt := 20) hx hb dX6_writtenByte_16 (by decide) ?_
    exact n_20 p1 0 M H locs ls (lv_sub hl [0, 1] rfl) hw hF
theorem c_X6_writtenByte (l : Launch) (x : SX) (D : va_G) (cy : Nat → ClassId) (ad : Nat → Nat) (p1 : Int32) (sz : Nat) (M : Mem) (z : Int32) (M' : Mem) (hF : f_X6_writtenByte p1 M = some (z, M')) : Met l yX6_writtenByte (.code yX6_writtenByte cX6_writtenByte 2 (some .int) :: GB) ({ frames := 1, cells := 0, slots := 0, locals := 22 } : Room) (PcW D cy ad x sz M [.ref (ad 9), .int p1]) (QiW D cy ad sz z M') 0 0 (AA ad sz) := by
  refine mk_m (own := RX6) (by decide) rfl (Nat.le_of_ble_eq_true rfl) ?_
  intro p e s m args below meth c ls fx hw hl hsz
  subst hsz
  exact b_X6_writtenByte fx ⟨Nat.le_refl _, Nat.le_refl _, Nat.le_refl _, Nat.le_refl _⟩ p1 M z M' hF (fun pc ls H locs v M1 hd hw h => by cases h; exact g_iret fx hw rfl hd) _ _ ls hl hw
noncomputable def f_X6_byteOf_42 (M : Mem) : Int32 → Int32 → Option Int32 := fun a0 t0 => (some ((ishr t0 (24 - (8 * (irem a0 4)))) &&& 255))
noncomputable def f_X6_byteOf (p1 p2 p3 p4 p5 p6 : Int32) (M : Mem) : Option Int32 := (if 4 ≤ p1 then (if 8 ≤ p1 then (if 12 ≤ p1 then (if 16 ≤ p1 then ((f_X6_byteOf_42 M) p1 p6) else ((f_X6_byteOf_42 M) p1 p5)) else ((f_X6_byteOf_42 M) p1 p4)) else ((f_X6_byteOf_42 M) p1 p3)) else ((f_X6_byteOf_42 M) p1 p2))
set_option maxHeartbeats 4000000 in
set_option maxRecDepth 100000 in
theorem b_X6_byteOf {p : Program} {l : Launch} {e : Env} {R : Room} {s : State} {m : MethodId} {args : Array Value} {below : List Frame} {meth : Method} {c : Code} {Q : State → Prop} {D : va_G} {cy : Nat → ClassId} {ad : Nat → Nat} {x : SX} (fx : FX p s m args meth c cX6_byteOf 7 (some .int) RX6 D cy ad x) (hR : 0 ≤ R.frames ∧ 0 ≤ R.locals ∧ 0 ≤ R.cells ∧ 0 ≤ R.slots) (p1 p2 p3 p4 p5 p6 : Int32) (M : Mem) (z : Int32) (hF : f_X6_byteOf p1 p2 p3 p4 p5 p6 M = some z) (E : ∀ (pc : Nat) (ls : Array Slot) (H : Heap) (locs : List Loc) (v : Int32), decode cX6_byteOf pc = .ok (.ireturn, 1) → WD D cy ad s M H locs → some v = some z → W p l e R s m args below meth c H locs 0 0 Q (F0 m pc ls [.int v])) (H : Heap) (locs : List Loc) (ls : Array Slot) (hl : lv_has ls 7 [(0, .int p1), (1, .int p2), (2, .int p3), (3, .int p4), (4, .int p5), (5, .int p6)]) (hw : WD D cy ad s M H locs) : W p l e R s m args below meth c H locs 0 0 Q (F0 m 0 ls []) := by
  have hx := fx.1.1
  have hb := fx.1.2.1
  have hown := fx.1.2.2.2.1
  have hts := fx.1.2.2.2.2
  have n_42 : ∀ (a0 : Int32) (t0 : Int32) (H : Heap) (locs : List Loc) (ls : Array Slot), lv_has ls 7 [(0, .int a0)] → WD D cy ad s M H locs → f_X6_byteOf_42 M a0 t0 = some z → W p l e R s m args below meth c H locs 0 0 Q (F0 m 42 ls [.int t0]) := by
    intro a0 t0 H locs ls hl hw hF
    unfold f_X6_byteOf_42 at hF
    refine lv_istore (lv' := [(6, .int t0), (0, .int a0)]) hx hb dX6_byteOf_42 hl (by decide) rfl (fun ls hl => ?_)
    refine lv_iload hx hb dX6_byteOf_44 (lv_at hl 0 rfl) ?_
    refine lv_bipush (v := 24) hx hb dX6_byteOf_46 (by decide) ?_
    refine lv_bipush (v := 8) hx hb dX6_byteOf_48 (by decide) ?_
    refine lv_iload_n hx hb dX6_byteOf_50 rfl (lv_at hl 1 rfl) ?_
    refine lv_iconst (v := 4) hx hb dX6_byteOf_51 (by decide) ?_
    refine g_irem hx hb dX6_byteOf_52 (by decide) ?_
    refine lv_imul hx hb dX6_byteOf_53 ?_
    refine lv_isub hx hb dX6_byteOf_54 ?_
    refine g_ishr hx hb dX6_byteOf_55 ?_
    refine lv_sipush (v := 255) hx hb dX6_byteOf_56 (by decide) ?_
    refine lv_iand hx hb dX6_byteOf_59 ?_
    exact E _ _ _ _ _ dX6_byteOf_60 hw hF
  unfold f_X6_byteOf at hF
  refine lv_iload_n hx hb dX6_byteOf_0 rfl (lv_at hl 0 rfl) ?_
  refine lv_iconst (v := 4) hx hb dX6_byteOf_1 (by decide) ?_
  refine lv_icmp_ge (tgt := 9) hx hb dX6_byteOf_2 (by decide) (fun hc2 => ?_) (fun hc2 => ?_)
  · replace hF := st_t hc2 hF
    refine lv_iload_n hx hb dX6_byteOf_9 rfl (lv_at hl 0 rfl) ?_
    refine lv_bipush (v := 8) hx hb dX6_byteOf_10 (by decide) ?_
    refine lv_icmp_ge (tgt := 19) hx hb dX6_byteOf_12 (by decide) (fun hc12 => ?_) (fun hc12 => ?_)
    · replace hF := st_t hc12 hF
      refine lv_iload_n hx hb dX6_byteOf_19 rfl (lv_at hl 0 rfl) ?_
      refine lv_bipush (v := 12) hx hb dX6_byteOf_20 (by decide) ?_
      refine lv_icmp_ge (tgt := 29) hx hb dX6_byteOf_22 (by decide) (fun hc22 => ?_) (fun hc22 => ?_)
      · replace hF := st_t hc22 hF
        refine lv_iload_n hx hb dX6_byteOf_29 rfl (lv_at hl 0 rfl) ?_
        refine lv_bipush (v := 16) hx hb dX6_byteOf_30 (by decide) ?_
        refine lv_icmp_ge (tgt := 40) hx hb dX6_byteOf_32 (by decide) (fun hc32 => ?_) (fun hc32 => ?_)
        · replace hF := st_t hc32 hF
          refine lv_iload hx hb dX6_byteOf_40 (lv_at hl 5 rfl) ?_
          exact n_42 p1 p6 H locs ls (lv_sub hl [0] rfl) hw hF
        · replace hF := st_f hc32 hF
          refine lv_iload hx hb dX6_byteOf_35 (lv_at hl 4 rfl) ?_
          refine lv_goto (tgt := 42) hx hb dX6_byteOf_37 (by decide) ?_
          exact n_42 p1 p5 H locs ls (lv_sub hl [0] rfl) hw hF
      · replace hF := st_f hc22 hF
        refine lv_iload_n hx hb dX6_byteOf_25 rfl (lv_at hl 3 rfl) ?_
        refine lv_goto (tgt := 42) hx hb dX6_byteOf_26 (by decide) ?_
        exact n_42 p1 p4 H locs ls (lv_sub hl [0] rfl) hw hF
    · replace hF := st_f hc12 hF
      refine lv_iload_n hx hb dX6_byteOf_15 rfl (lv_at hl 2 rfl) ?_
      refine lv_goto (tgt := 42) hx hb dX6_byteOf_16 (by decide) ?_
      exact n_42 p1 p3 H locs ls (lv_sub hl [0] rfl) hw hF
  · replace hF := st_f hc2 hF
    refine lv_iload_n hx hb dX6_byteOf_5 rfl (lv_at hl 1 rfl) ?_
    refine lv_goto (tgt := 42) hx hb dX6_byteOf_6 (by decide) ?_
    exact n_42 p1 p2 H locs ls (lv_sub hl [0] rfl) hw hF
theorem c_X6_byteOf (l : Launch) (x : SX) (D : va_G) (cy : Nat → ClassId) (ad : Nat → Nat) (p1 p2 p3 p4 p5 p6 : Int32) (sz : Nat) (M : Mem) (z : Int32) (hF : f_X6_byteOf p1 p2 p3 p4 p5 p6 M = some z) : Met l yX6_byteOf (.code yX6_byteOf cX6_byteOf 7 (some .int) :: GB) ({ frames := 0, cells := 0, slots := 0, locals := 0 } : Room) (PcW D cy ad x sz M [.int p1, .int p2, .int p3, .int p4, .int p5, .int p6]) (QiW D cy ad sz z M) 0 0 (AA ad sz) := by
  refine mk_m (own := RX6) (by decide) rfl (Nat.le_of_ble_eq_true rfl) ?_
  intro p e s m args below meth c ls fx hw hl hsz
  subst hsz
  exact b_X6_byteOf fx ⟨Nat.le_refl _, Nat.le_refl _, Nat.le_refl _, Nat.le_refl _⟩ p1 p2 p3 p4 p5 p6 M z hF (fun pc ls H locs v hd hw h => by cases h; exact g_iret fx hw rfl hd) _ _ ls hl hw
noncomputable def f_X6_append_128 (rec78 : Int32 → Int32 → Int32 → Int32 → Int32 → Int32 → Mem → Option (Int32 × Mem)) : Int32 → Int32 → Int32 → Int32 → Int32 → Int32 → Mem → Option (Int32 × Mem) := fun a1 a2 a3 a4 a5 a7 M => (rec78 a1 a2 a3 a4 a5 (a7 + 1) M)
noncomputable def f_X6_append_78 (rec78 : Int32 → Int32 → Int32 → Int32 → Int32 → Int32 → Mem → Option (Int32 × Mem)) : Int32 → Int32 → Int32 → Int32 → Int32 → Int32 → Mem → Option (Int32 × Mem) := fun a1 a2 a3 a4 a5 a7 M => (if 20 ≤ a7 then (some ((M 9 10), M)) else (bnd (f_X6_byteOf a7 a1 a2 a3 a4 a5 M) (fun r16 => (if r16 = 0 then ((f_X6_append_128 rec78) a1 a2 a3 a4 a5 a7 M) else (chk (inB (M 9 10) 800) (letM (mput M 16 (ix (M 9 10)) r16) (fun M17 => (letM (mput M17 9 10 ((M17 9 10) + 1)) (fun M19 => ((f_X6_append_128 rec78) a1 a2 a3 a4 a5 a7 M19))))))))))
noncomputable def f_X6_append_63 : Int32 → Int32 → Int32 → Int32 → Int32 → Int32 → Mem → Option (Int32 × Mem) := fun a1 a2 a3 a4 a5 t1 M => (letM (mput M 9 6 t1) (fun M20 => (if (M20 9 6) ≤ 0 then ((lp (fun _ _ _ _ _ _ _ => none) (f_X6_append_78) FU) a1 a2 a3 a4 a5 0 M20) else (some (0, M20)))))
noncomputable def f_X6_append_35 (rec6 : Int32 → Int32 → Int32 → Int32 → Int32 → Int32 → Int32 → Mem → Option (Int32 × Mem)) : Int32 → Int32 → Int32 → Int32 → Int32 → Int32 → Int32 → Int32 → Mem → Option (Int32 × Mem) := fun a1 a2 a3 a4 a5 a7 t0 t1 M => (rec6 a1 a2 a3 a4 a5 (t0 + t1) (a7 + 1) M)
noncomputable def f_X6_append_6 (rec6 : Int32 → Int32 → Int32 → Int32 → Int32 → Int32 → Int32 → Mem → Option (Int32 × Mem)) : Int32 → Int32 → Int32 → Int32 → Int32 → Int32 → Int32 → Mem → Option (Int32 × Mem) := fun a1 a2 a3 a4 a5 a6 a7 M => (if 20 ≤ a7 then (if ((M 9 10) + a6) ≤ 800 then ((f_X6_append_63) a1 a2 a3 a4 a5 0 M) else ((f_X6_append_63) a1 a2 a3 a4 a5 1 M)) else (bnd (f_X6_byteOf a7 a1 a2 a3 a4 a5 M) (fun r21 => (if r21 = 0 then ((f_X6_append_35 rec6) a1 a2 a3 a4 a5 a7 a6 0 M) else ((f_X6_append_35 rec6) a1 a2 a3 a4 a5 a7 a6 1 M)))))
noncomputable def f_X6_append (p1 p2 p3 p4 p5 : Int32) (M : Mem) : Option (Int32 × Mem) := ((lp (fun _ _ _ _ _ _ _ _ => none) (f_X6_append_6) FU) p1 p2 p3 p4 p5 0 0 M)
set_option maxHeartbeats 4000000 in
set_option maxRecDepth 100000 in
theorem b_X6_append {p : Program} {l : Launch} {e : Env} {R : Room} {s : State} {m : MethodId} {args : Array Value} {below : List Frame} {meth : Method} {c : Code} {Q : State → Prop} {D : va_G} {cy : Nat → ClassId} {ad : Nat → Nat} {x : SX} (fx : FX p s m args meth c cX6_append 9 (some .int) RX6 D cy ad x) (hR : 1 ≤ R.frames ∧ 26 ≤ R.locals ∧ 0 ≤ R.cells ∧ 0 ≤ R.slots) (p1 p2 p3 p4 p5 : Int32) (M : Mem) (z : Int32) (M' : Mem) (hF : f_X6_append p1 p2 p3 p4 p5 M = some (z, M')) (E : ∀ (pc : Nat) (ls : Array Slot) (H : Heap) (locs : List Loc) (v : Int32) (M1 : Mem), decode cX6_append pc = .ok (.ireturn, 1) → WD D cy ad s M1 H locs → some (v, M1) = some (z, M') → W p l e R s m args below meth c H locs 0 0 Q (F0 m pc ls [.int v])) (H : Heap) (locs : List Loc) (ls : Array Slot) (hl : lv_has ls 9 [(0, .ref (ad 9)), (1, .int p1), (2, .int p2), (3, .int p3), (4, .int p4), (5, .int p5)]) (hw : WD D cy ad s M H locs) : W p l e R s m args below meth c H locs 0 0 Q (F0 m 0 ls []) := by
  have hx := fx.1.1
  have hb := fx.1.2.1
  have hown := fx.1.2.2.2.1
  have hts := fx.1.2.2.2.2
  have n_128 : ∀ (rec78 : Int32 → Int32 → Int32 → Int32 → Int32 → Int32 → Mem → Option (Int32 × Mem)) (_ : ∀ (a1 : Int32) (a2 : Int32) (a3 : Int32) (a4 : Int32) (a5 : Int32) (a7 : Int32) (M : Mem) (H : Heap) (locs : List Loc) (ls : Array Slot), lv_has ls 9 [(0, .ref (ad 9)), (1, .int a1), (2, .int a2), (3, .int a3), (4, .int a4), (5, .int a5), (7, .int a7)] → WD D cy ad s M H locs → rec78 a1 a2 a3 a4 a5 a7 M = some (z, M') → W p l e R s m args below meth c H locs 0 0 Q (F0 m 78 ls [])) , ∀ (a1 : Int32) (a2 : Int32) (a3 : Int32) (a4 : Int32) (a5 : Int32) (a7 : Int32) (M : Mem) (H : Heap) (locs : List Loc) (ls : Array Slot), lv_has ls 9 [(0, .ref (ad 9)), (1, .int a1), (2, .int a2), (3, .int a3), (4, .int a4), (5, .int a5), (7, .int a7)] → WD D cy ad s M H locs → f_X6_append_128 rec78 a1 a2 a3 a4 a5 a7 M = some (z, M') → W p l e R s m args below meth c H locs 0 0 Q (F0 m 128 ls []) := by
    intro rec78 hr78 a1 a2 a3 a4 a5 a7 M H locs ls hl hw hF
    unfold f_X6_append_128 at hF
    refine lv_iinc (v := (a7 + 1)) (lv' := [(7, .int (a7 + 1)), (0, .ref (ad 9)), (1, .int a1), (2, .int a2), (3, .int a3), (4, .int a4), (5, .int a5)]) hx hb dX6_append_128 hl (k := 6) rfl rfl (by decide) rfl (fun ls hl => ?_)
    refine lv_goto (tgt := 78) hx hb dX6_append_131 (by decide) ?_
    exact hr78 a1 a2 a3 a4 a5 (a7 + 1) M H locs ls (lv_sub hl [1, 2, 3, 4, 5, 6, 0] rfl) hw hF
  have n_78 : ∀ (n9 : Nat), ∀ (a1 : Int32) (a2 : Int32) (a3 : Int32) (a4 : Int32) (a5 : Int32) (a7 : Int32) (M : Mem) (H : Heap) (locs : List Loc) (ls : Array Slot), lv_has ls 9 [(0, .ref (ad 9)), (1, .int a1), (2, .int a2), (3, .int a3), (4, .int a4), (5, .int a5), (7, .int a7)] → WD D cy ad s M H locs → (lp (fun _ _ _ _ _ _ _ => none) (f_X6_append_78) n9) a1 a2 a3 a4 a5 a7 M = some (z, M') → W p l e R s m args below meth c H locs 0 0 Q (F0 m 78 ls []) := by
    intro n9
    refine lp_ind (fun (rec78 : Int32 → Int32 → Int32 → Int32 → Int32 → Int32 → Mem → Option (Int32 × Mem)) => ∀ (a1 : Int32) (a2 : Int32) (a3 : Int32) (a4 : Int32) (a5 : Int32) (a7 : Int32) (M : Mem) (H : Heap) (locs : List Loc) (ls : Array Slot), lv_has ls 9 [(0, .ref (ad 9)), (1, .int a1), (2, .int a2), (3, .int a3), (4, .int a4), (5, .int a5), (7, .int a7)] → WD D cy ad s M H locs → rec78 a1 a2 a3 a4 a5 a7 M = some (z, M') → W p l e R s m args below meth c H locs 0 0 Q (F0 m 78 ls [])) ?_ ?_ n9
    · intro a1 a2 a3 a4 a5 a7 M H locs ls hl hw hF
      exact nomatch hF
    · intro rec78 hr78 a1 a2 a3 a4 a5 a7 M H locs ls hl hw hF
      unfold f_X6_append_78 at hF
      refine lv_iload hx hb dX6_append_78 (lv_at hl 6 rfl) ?_
      refine lv_bipush (v := 20) hx hb dX6_append_80 (by decide) ?_
      refine lv_icmp_ge (tgt := 134) hx hb dX6_append_82 (by decide) (fun hc82 => ?_) (fun hc82 => ?_)
      · replace hF := st_t hc82 hF
        refine lv_aload_n hx hb dX6_append_134 rfl (lv_at hl 0 rfl) ?_
        refine gX6_get fx hw isO_9 10 (by decide) wd5_29 rfl dX6_append_135 ?_
        exact E _ _ _ _ _ _ dX6_append_138 hw hF
      · replace hF := st_f hc82 hF
        refine lv_iload hx hb dX6_append_85 (lv_at hl 6 rfl) ?_
        refine lv_iload_n hx hb dX6_append_87 rfl (lv_at hl 1 rfl) ?_
        refine lv_iload_n hx hb dX6_append_88 rfl (lv_at hl 2 rfl) ?_
        refine lv_iload_n hx hb dX6_append_89 rfl (lv_at hl 3 rfl) ?_
        refine lv_iload hx hb dX6_append_90 (lv_at hl 4 rfl) ?_
        refine lv_iload hx hb dX6_append_92 (lv_at hl 5 rfl) ?_
        obtain ⟨r16, hgr16, hF⟩ := st_bnd hF
        refine g_ci hw (g_runS (As := [.int a7, .int a1, .int a2, .int a3, .int a4, .int a5]) (rest := []) fx hw (c_X6_byteOf l x D cy ad a7 a1 a2 a3 a4 a5 H.size M r16 hgr16) wd6_135 wd6_136 wd1_8 wd6_137 yd_X6_byteOf rfl rfl (Nat.le_of_ble_eq_true rfl) hl.1 ⟨Nat.le_trans (Nat.le_of_ble_eq_true rfl) hR.1, Nat.le_trans (Nat.le_of_ble_eq_true rfl) hR.2.1⟩ ⟨Nat.le_trans (Nat.le_of_ble_eq_true rfl) hR.2.2.1, Nat.le_trans (Nat.le_of_ble_eq_true rfl) hR.2.2.2⟩ dX6_append_94) (fun H locs hw => ?_)
        refine lv_istore (lv' := [(8, .int r16), (0, .ref (ad 9)), (1, .int a1), (2, .int a2), (3, .int a3), (4, .int a4), (5, .int a5), (7, .int a7)]) hx hb dX6_append_97 hl (by decide) rfl (fun ls hl => ?_)
        refine lv_iload hx hb dX6_append_99 (lv_at hl 0 rfl) ?_
        refine lv_if_ne (tgt := 107) hx hb dX6_append_101 (by decide) (fun hc101 => ?_) (fun hc101 => ?_)
        · replace hF := st_f hc101 hF
          refine lv_aload_n hx hb dX6_append_107 rfl (lv_at hl 1 rfl) ?_
          refine gX6_get fx hw isO_9 9 (by decide) wd5_28 rfl dX6_append_108 ?_
          refine lv_aload_n hx hb dX6_append_111 rfl (lv_at hl 1 rfl) ?_
          refine gX6_get fx hw isO_9 10 (by decide) wd5_29 rfl dX6_append_112 ?_
          refine lv_iload hx hb dX6_append_115 (lv_at hl 0 rfl) ?_
          obtain ⟨hi18, hF⟩ := st_chk hF
          obtain ⟨M17, eM17, hF⟩ := st_letM hF
          refine g_iast fx hw isA_16 hi18 eM17 dX6_append_117 (fun H locs hw => ?_)
          refine lv_aload_n hx hb dX6_append_118 rfl (lv_at hl 1 rfl) ?_
          refine lv_dup hx hb dX6_append_119 rfl ?_
          refine gX6_get fx hw isO_9 10 (by decide) wd5_29 rfl dX6_append_120 ?_
          refine lv_iconst (v := 1) hx hb dX6_append_123 (by decide) ?_
          refine lv_iadd hx hb dX6_append_124 ?_
          obtain ⟨M19, eM19, hF⟩ := st_letM hF
          refine gX6_put fx hw isO_9 10 (by decide) wd5_29 rfl eM19 rfl (Nat.le_of_ble_eq_true rfl) dX6_append_125 (fun H locs hw => ?_)
          exact n_128 rec78 hr78 a1 a2 a3 a4 a5 a7 M19 H locs ls (lv_sub hl [1, 2, 3, 4, 5, 6, 7] rfl) hw hF
        · replace hF := st_t hc101 hF
          refine lv_goto (tgt := 128) hx hb dX6_append_104 (by decide) ?_
          exact n_128 rec78 hr78 a1 a2 a3 a4 a5 a7 M H locs ls (lv_sub hl [1, 2, 3, 4, 5, 6, 7] rfl) hw hF
  have n_63 : ∀ (a1 : Int32) (a2 : Int32) (a3 : Int32) (a4 : Int32) (a5 : Int32) (t1 : Int32) (M : Mem) (H : Heap) (locs : List Loc) (ls : Array Slot), lv_has ls 9 [(0, .ref (ad 9)), (1, .int a1), (2, .int a2), (3, .int a3), (4, .int a4), (5, .int a5)] → WD D cy ad s M H locs → f_X6_append_63 a1 a2 a3 a4 a5 t1 M = some (z, M') → W p l e R s m args below meth c H locs 0 0 Q (F0 m 63 ls [.int t1, .ref (ad 9)]) := by
    intro a1 a2 a3 a4 a5 t1 M H locs ls hl hw hF
    unfold f_X6_append_63 at hF
    obtain ⟨M20, eM20, hF⟩ := st_letM hF
    refine gX6_put fx hw isO_9 6 (by decide) wd5_25 rfl eM20 rfl (Nat.le_of_ble_eq_true rfl) dX6_append_63 (fun H locs hw => ?_)
    refine lv_aload_n hx hb dX6_append_66 rfl (lv_at hl 0 rfl) ?_
    refine gX6_get fx hw isO_9 6 (by decide) wd5_25 rfl dX6_append_67 ?_
    refine lv_if_le (tgt := 75) hx hb dX6_append_70 (by decide) (fun hc70 => ?_) (fun hc70 => ?_)
    · replace hF := st_t hc70 hF
      refine lv_iconst (v := 0) hx hb dX6_append_75 (by decide) ?_
      refine lv_istore (lv' := [(7, .int 0), (0, .ref (ad 9)), (1, .int a1), (2, .int a2), (3, .int a3), (4, .int a4), (5, .int a5)]) hx hb dX6_append_76 hl (by decide) rfl (fun ls hl => ?_)
      exact n_78 FU a1 a2 a3 a4 a5 0 M20 H locs ls (lv_sub hl [1, 2, 3, 4, 5, 6, 0] rfl) hw hF
    · replace hF := st_f hc70 hF
      refine lv_iconst (v := 0) hx hb dX6_append_73 (by decide) ?_
      exact E _ _ _ _ _ _ dX6_append_74 hw hF
  have n_35 : ∀ (rec6 : Int32 → Int32 → Int32 → Int32 → Int32 → Int32 → Int32 → Mem → Option (Int32 × Mem)) (_ : ∀ (a1 : Int32) (a2 : Int32) (a3 : Int32) (a4 : Int32) (a5 : Int32) (a6 : Int32) (a7 : Int32) (M : Mem) (H : Heap) (locs : List Loc) (ls : Array Slot), lv_has ls 9 [(0, .ref (ad 9)), (1, .int a1), (2, .int a2), (3, .int a3), (4, .int a4), (5, .int a5), (6, .int a6), (7, .int a7)] → WD D cy ad s M H locs → rec6 a1 a2 a3 a4 a5 a6 a7 M = some (z, M') → W p l e R s m args below meth c H locs 0 0 Q (F0 m 6 ls [])) , ∀ (a1 : Int32) (a2 : Int32) (a3 : Int32) (a4 : Int32) (a5 : Int32) (a7 : Int32) (t0 : Int32) (t1 : Int32) (M : Mem) (H : Heap) (locs : List Loc) (ls : Array Slot), lv_has ls 9 [(0, .ref (ad 9)), (1, .int a1), (2, .int a2), (3, .int a3), (4, .int a4), (5, .int a5), (7, .int a7)] → WD D cy ad s M H locs → f_X6_append_35 rec6 a1 a2 a3 a4 a5 a7 t0 t1 M = some (z, M') → W p l e R s m args below meth c H locs 0 0 Q (F0 m 35 ls [.int t1, .int t0]) := by
    intro rec6 hr6 a1 a2 a3 a4 a5 a7 t0 t1 M H locs ls hl hw hF
    unfold f_X6_append_35 at hF
    refine lv_iadd hx hb dX6_append_35 ?_
    refine lv_istore (lv' := [(6, .int (t0 + t1)), (0, .ref (ad 9)), (1, .int a1), (2, .int a2), (3, .int a3), (4, .int a4), (5, .int a5), (7, .int a7)]) hx hb dX6_append_36 hl (by decide) rfl (fun ls hl => ?_)
    refine lv_iinc (v := (a7 + 1)) (lv' := [(7, .int (a7 + 1)), (6, .int (t0 + t1)), (0, .ref (ad 9)), (1, .int a1), (2, .int a2), (3, .int a3), (4, .int a4), (5, .int a5)]) hx hb dX6_append_38 hl (k := 7) rfl rfl (by decide) rfl (fun ls hl => ?_)
    refine lv_goto (tgt := 6) hx hb dX6_append_41 (by decide) ?_
    exact hr6 a1 a2 a3 a4 a5 (t0 + t1) (a7 + 1) M H locs ls (lv_sub hl [2, 3, 4, 5, 6, 7, 1, 0] rfl) hw hF
  have n_6 : ∀ (n9 : Nat), ∀ (a1 : Int32) (a2 : Int32) (a3 : Int32) (a4 : Int32) (a5 : Int32) (a6 : Int32) (a7 : Int32) (M : Mem) (H : Heap) (locs : List Loc) (ls : Array Slot), lv_has ls 9 [(0, .ref (ad 9)), (1, .int a1), (2, .int a2), (3, .int a3), (4, .int a4), (5, .int a5), (6, .int a6), (7, .int a7)] → WD D cy ad s M H locs → (lp (fun _ _ _ _ _ _ _ _ => none) (f_X6_append_6) n9) a1 a2 a3 a4 a5 a6 a7 M = some (z, M') → W p l e R s m args below meth c H locs 0 0 Q (F0 m 6 ls []) := by
    intro n9
    refine lp_ind (fun (rec6 : Int32 → Int32 → Int32 → Int32 → Int32 → Int32 → Int32 → Mem → Option (Int32 × Mem)) => ∀ (a1 : Int32) (a2 : Int32) (a3 : Int32) (a4 : Int32) (a5 : Int32) (a6 : Int32) (a7 : Int32) (M : Mem) (H : Heap) (locs : List Loc) (ls : Array Slot), lv_has ls 9 [(0, .ref (ad 9)), (1, .int a1), (2, .int a2), (3, .int a3), (4, .int a4), (5, .int a5), (6, .int a6), (7, .int a7)] → WD D cy ad s M H locs → rec6 a1 a2 a3 a4 a5 a6 a7 M = some (z, M') → W p l e R s m args below meth c H locs 0 0 Q (F0 m 6 ls [])) ?_ ?_ n9
    · intro a1 a2 a3 a4 a5 a6 a7 M H locs ls hl hw hF
      exact nomatch hF
    · intro rec6 hr6 a1 a2 a3 a4 a5 a6 a7 M H locs ls hl hw hF
      unfold f_X6_append_6 at hF
      refine lv_iload hx hb dX6_append_6 (lv_at hl 7 rfl) ?_
      refine lv_bipush (v := 20) hx hb dX6_append_8 (by decide) ?_
      refine lv_icmp_ge (tgt := 44) hx hb dX6_append_10 (by decide) (fun hc10 => ?_) (fun hc10 => ?_)
      · replace hF := st_t hc10 hF
        refine lv_aload_n hx hb dX6_append_44 rfl (lv_at hl 0 rfl) ?_
        refine lv_aload_n hx hb dX6_append_45 rfl (lv_at hl 0 rfl) ?_
        refine gX6_get fx hw isO_9 10 (by decide) wd5_29 rfl dX6_append_46 ?_
        refine lv_iload hx hb dX6_append_49 (lv_at hl 6 rfl) ?_
        refine lv_iadd hx hb dX6_append_51 ?_
        refine lv_sipush (v := 800) hx hb dX6_append_52 (by decide) ?_
        refine lv_icmp_le (tgt := 62) hx hb dX6_append_55 (by decide) (fun hc55 => ?_) (fun hc55 => ?_)
        · replace hF := st_t hc55 hF
          refine lv_iconst (v := 0) hx hb dX6_append_62 (by decide) ?_
          exact n_63 a1 a2 a3 a4 a5 0 M H locs ls (lv_sub hl [0, 1, 2, 3, 4, 5] rfl) hw hF
        · replace hF := st_f hc55 hF
          refine lv_iconst (v := 1) hx hb dX6_append_58 (by decide) ?_
          refine lv_goto (tgt := 63) hx hb dX6_append_59 (by decide) ?_
          exact n_63 a1 a2 a3 a4 a5 1 M H locs ls (lv_sub hl [0, 1, 2, 3, 4, 5] rfl) hw hF
      · replace hF := st_f hc10 hF
        refine lv_iload hx hb dX6_append_13 (lv_at hl 6 rfl) ?_
        refine lv_iload hx hb dX6_append_15 (lv_at hl 7 rfl) ?_
        refine lv_iload_n hx hb dX6_append_17 rfl (lv_at hl 1 rfl) ?_
        refine lv_iload_n hx hb dX6_append_18 rfl (lv_at hl 2 rfl) ?_
        refine lv_iload_n hx hb dX6_append_19 rfl (lv_at hl 3 rfl) ?_
        refine lv_iload hx hb dX6_append_20 (lv_at hl 4 rfl) ?_
        refine lv_iload hx hb dX6_append_22 (lv_at hl 5 rfl) ?_
        obtain ⟨r21, hgr21, hF⟩ := st_bnd hF
        refine g_ci hw (g_runS (As := [.int a7, .int a1, .int a2, .int a3, .int a4, .int a5]) (rest := [.int a6]) fx hw (c_X6_byteOf l x D cy ad a7 a1 a2 a3 a4 a5 H.size M r21 hgr21) wd6_135 wd6_136 wd1_8 wd6_137 yd_X6_byteOf rfl rfl (Nat.le_of_ble_eq_true rfl) hl.1 ⟨Nat.le_trans (Nat.le_of_ble_eq_true rfl) hR.1, Nat.le_trans (Nat.le_of_ble_eq_true rfl) hR.2.1⟩ ⟨Nat.le_trans (Nat.le_of_ble_eq_true rfl) hR.2.2.1, Nat.le_trans (Nat.le_of_ble_eq_true rfl) hR.2.2.2⟩ dX6_append_24) (fun H locs hw => ?_)
        refine lv_if_ne (tgt := 34) hx hb dX6_append_27 (by decide) (fun hc27 => ?_) (fun hc27 => ?_)
        · replace hF := st_f hc27 hF
          refine lv_iconst (v := 1) hx hb dX6_append_34 (by decide) ?_
          exact n_35 rec6 hr6 a1 a2 a3 a4 a5 a7 a6 1 M H locs ls (lv_sub hl [0, 1, 2, 3, 4, 5, 7] rfl) hw hF
        · replace hF := st_t hc27 hF
          refine lv_iconst (v := 0) hx hb dX6_append_30 (by decide) ?_
          refine lv_goto (tgt := 35) hx hb dX6_append_31 (by decide) ?_
          exact n_35 rec6 hr6 a1 a2 a3 a4 a5 a7 a6 0 M H locs ls (lv_sub hl [0, 1, 2, 3, 4, 5, 7] rfl) hw hF
  unfold f_X6_append at hF
  refine lv_iconst (v := 0) hx hb dX6_append_0 (by decide) ?_
  refine lv_istore (lv' := [(6, .int 0), (0, .ref (ad 9)), (1, .int p1), (2, .int p2), (3, .int p3), (4, .int p4), (5, .int p5)]) hx hb dX6_append_1 hl (by decide) rfl (fun ls hl => ?_)
  refine lv_iconst (v := 0) hx hb dX6_append_3 (by decide) ?_
  refine lv_istore (lv' := [(7, .int 0), (6, .int 0), (0, .ref (ad 9)), (1, .int p1), (2, .int p2), (3, .int p3), (4, .int p4), (5, .int p5)]) hx hb dX6_append_4 hl (by decide) rfl (fun ls hl => ?_)
  exact n_6 FU p1 p2 p3 p4 p5 0 0 M H locs ls (lv_sub hl [2, 3, 4, 5, 6, 7, 1, 0] rfl) hw hF
theorem c_X6_append (l : Launch) (x : SX) (D : va_G) (cy : Nat → ClassId) (ad : Nat → Nat) (p1 p2 p3 p4 p5 : Int32) (sz : Nat) (M : Mem) (z : Int32) (M' : Mem) (hF : f_X6_append p1 p2 p3 p4 p5 M = some (z, M')) : Met l yX6_append (.code yX6_append cX6_append 9 (some .int) :: GB) ({ frames := 1, cells := 0, slots := 0, locals := 26 } : Room) (PcW D cy ad x sz M [.ref (ad 9), .int p1, .int p2, .int p3, .int p4, .int p5]) (QiW D cy ad sz z M') 0 0 (AA ad sz) := by
  refine mk_m (own := RX6) (by decide) rfl (Nat.le_of_ble_eq_true rfl) ?_
  intro p e s m args below meth c ls fx hw hl hsz
  subst hsz
  exact b_X6_append fx ⟨Nat.le_refl _, Nat.le_refl _, Nat.le_refl _, Nat.le_refl _⟩ p1 p2 p3 p4 p5 M z M' hF (fun pc ls H locs v M1 hd hw h => by cases h; exact g_iret fx hw rfl hd) _ _ ls hl hw
noncomputable def f_X6_look (p1 : Int32) (M : Mem) : Option Int32 := (if (M 9 10) ≤ p1 then (some (-1)) else (chk (inB p1 800) (some (M 16 (ix p1)))))
set_option maxHeartbeats 4000000 in
set_option maxRecDepth 100000 in
theorem b_X6_look {p : Program} {l : Launch} {e : Env} {R : Room} {s : State} {m : MethodId} {args : Array Value} {below : List Frame} {meth : Method} {c : Code} {Q : State → Prop} {D : va_G} {cy : Nat → ClassId} {ad : Nat → Nat} {x : SX} (fx : FX p s m args meth c cX6_look 2 (some .int) RX6 D cy ad x) (hR : 0 ≤ R.frames ∧ 0 ≤ R.locals ∧ 0 ≤ R.cells ∧ 0 ≤ R.slots) (p1 : Int32) (M : Mem) (z : Int32) (hF : f_X6_look p1 M = some z) (E : ∀ (pc : Nat) (ls : Array Slot) (H : Heap) (locs : List Loc) (v : Int32), decode cX6_look pc = .ok (.ireturn, 1) → WD D cy ad s M H locs → some v = some z → W p l e R s m args below meth c H locs 0 0 Q (F0 m pc ls [.int v])) (H : Heap) (locs : List Loc) (ls : Array Slot) (hl : lv_has ls 2 [(0, .ref (ad 9)), (1, .int p1)]) (hw : WD D cy ad s M H locs) : W p l e R s m args below meth c H locs 0 0 Q (F0 m 0 ls []) := by
  have hx := fx.1.1
  have hb := fx.1.2.1
  have hown := fx.1.2.2.2.1
  have hts := fx.1.2.2.2.2
  unfold f_X6_look at hF
  refine lv_iload_n hx hb dX6_look_0 rfl (lv_at hl 1 rfl) ?_
  refine lv_aload_n hx hb dX6_look_1 rfl (lv_at hl 0 rfl) ?_
  refine gX6_get fx hw isO_9 10 (by decide) wd5_29 rfl dX6_look_2 ?_
  refine lv_icmp_ge (tgt := 17) hx hb dX6_look_5 (by decide) (fun hc5 => ?_) (fun hc5 => ?_)
  · replace hF := st_t hc5 hF
    refine lv_iconst (v := (-1)) hx hb dX6_look_17 (by decide) ?_
    exact E _ _ _ _ _ dX6_look_18 hw hF
  · replace hF := st_f hc5 hF
    refine lv_aload_n hx hb dX6_look_8 rfl (lv_at hl 0 rfl) ?_
    refine gX6_get fx hw isO_9 9 (by decide) wd5_28 rfl dX6_look_9 ?_
    refine lv_iload_n hx hb dX6_look_12 rfl (lv_at hl 1 rfl) ?_
    obtain ⟨hi2, hF⟩ := st_chk hF
    refine g_iald fx hw isA_16 hi2 dX6_look_13 ?_
    refine lv_goto (tgt := 18) hx hb dX6_look_14 (by decide) ?_
    exact E _ _ _ _ _ dX6_look_18 hw hF
theorem c_X6_look (l : Launch) (x : SX) (D : va_G) (cy : Nat → ClassId) (ad : Nat → Nat) (p1 : Int32) (sz : Nat) (M : Mem) (z : Int32) (hF : f_X6_look p1 M = some z) : Met l yX6_look (.code yX6_look cX6_look 2 (some .int) :: GB) ({ frames := 0, cells := 0, slots := 0, locals := 0 } : Room) (PcW D cy ad x sz M [.ref (ad 9), .int p1]) (QiW D cy ad sz z M) 0 0 (AA ad sz) := by
  refine mk_m (own := RX6) (by decide) rfl (Nat.le_of_ble_eq_true rfl) ?_
  intro p e s m args below meth c ls fx hw hl hsz
  subst hsz
  exact b_X6_look fx ⟨Nat.le_refl _, Nat.le_refl _, Nat.le_refl _, Nat.le_refl _⟩ p1 M z hF (fun pc ls H locs v hd hw h => by cases h; exact g_iret fx hw rfl hd) _ _ ls hl hw
noncomputable def f_X6_isLetter (p1 : Int32) (M : Mem) : Option Int32 := (bnd (f_X6_look p1 M) (fun r3 => (bnd (f_X6_isIn r3 97 122 M) (fun r4 => (some r4)))))
set_option maxHeartbeats 4000000 in
set_option maxRecDepth 100000 in
theorem b_X6_isLetter {p : Program} {l : Launch} {e : Env} {R : Room} {s : State} {m : MethodId} {args : Array Value} {below : List Frame} {meth : Method} {c : Code} {Q : State → Prop} {D : va_G} {cy : Nat → ClassId} {ad : Nat → Nat} {x : SX} (fx : FX p s m args meth c cX6_isLetter 2 (some .boolean) RX6 D cy ad x) (hR : 1 ≤ R.frames ∧ 22 ≤ R.locals ∧ 0 ≤ R.cells ∧ 0 ≤ R.slots) (p1 : Int32) (M : Mem) (z : Int32) (hF : f_X6_isLetter p1 M = some z) (E : ∀ (pc : Nat) (ls : Array Slot) (H : Heap) (locs : List Loc) (v : Int32), decode cX6_isLetter pc = .ok (.ireturn, 1) → (v = 0 ∨ v = 1) → WD D cy ad s M H locs → some v = some z → W p l e R s m args below meth c H locs 0 0 Q (F0 m pc ls [.int v])) (H : Heap) (locs : List Loc) (ls : Array Slot) (hl : lv_has ls 2 [(0, .ref (ad 9)), (1, .int p1)]) (hw : WD D cy ad s M H locs) : W p l e R s m args below meth c H locs 0 0 Q (F0 m 0 ls []) := by
  have hx := fx.1.1
  have hb := fx.1.2.1
  have hown := fx.1.2.2.2.1
  have hts := fx.1.2.2.2.2
  unfold f_X6_isLetter at hF
  refine lv_aload_n hx hb dX6_isLetter_0 rfl (lv_at hl 0 rfl) ?_
  refine lv_iload_n hx hb dX6_isLetter_1 rfl (lv_at hl 1 rfl) ?_
  obtain ⟨r3, hgr3, hF⟩ := st_bnd hF
  refine g_ci hw (g_runV (C := RX6) (As := [.int p1]) (rest := []) fx hw isO_9 rfl (c_X6_look l x D cy ad p1 H.size M r3 hgr3) wd6_146 wd6_148 wd0_83 wd1_8 wd6_149 yd_X6_look rfl rfl (Nat.le_of_ble_eq_true rfl) hl.1 ⟨Nat.le_trans (Nat.le_of_ble_eq_true rfl) hR.1, Nat.le_trans (Nat.le_of_ble_eq_true rfl) hR.2.1⟩ ⟨Nat.le_trans (Nat.le_of_ble_eq_true rfl) hR.2.2.1, Nat.le_trans (Nat.le_of_ble_eq_true rfl) hR.2.2.2⟩ dX6_isLetter_2) (fun H locs hw => ?_)
  refine lv_bipush (v := 97) hx hb dX6_isLetter_5 (by decide) ?_
  refine lv_bipush (v := 122) hx hb dX6_isLetter_7 (by decide) ?_
  obtain ⟨r4, hgr4, hF⟩ := st_bnd hF
  refine g_cz hw (g_runS (As := [.int r3, .int 97, .int 122]) (rest := []) fx hw (c_X6_isIn l x D cy ad r3 97 122 H.size M r4 hgr4) wd5_92 wd5_93 wd1_8 wd5_94 yd_X6_isIn rfl rfl (Nat.le_of_ble_eq_true rfl) hl.1 ⟨Nat.le_trans (Nat.le_of_ble_eq_true rfl) hR.1, Nat.le_trans (Nat.le_of_ble_eq_true rfl) hR.2.1⟩ ⟨Nat.le_trans (Nat.le_of_ble_eq_true rfl) hR.2.2.1, Nat.le_trans (Nat.le_of_ble_eq_true rfl) hR.2.2.2⟩ dX6_isLetter_9) (fun H locs hbr4 hw => ?_)
  exact E _ _ _ _ _ dX6_isLetter_12 hbr4 hw hF
theorem c_X6_isLetter (l : Launch) (x : SX) (D : va_G) (cy : Nat → ClassId) (ad : Nat → Nat) (p1 : Int32) (sz : Nat) (M : Mem) (z : Int32) (hF : f_X6_isLetter p1 M = some z) : Met l yX6_isLetter (.code yX6_isLetter cX6_isLetter 2 (some .boolean) :: GB) ({ frames := 1, cells := 0, slots := 0, locals := 22 } : Room) (PcW D cy ad x sz M [.ref (ad 9), .int p1]) (QzW D cy ad sz z M) 0 0 (AA ad sz) := by
  refine mk_m (own := RX6) (by decide) rfl (Nat.le_of_ble_eq_true rfl) ?_
  intro p e s m args below meth c ls fx hw hl hsz
  subst hsz
  exact b_X6_isLetter fx ⟨Nat.le_refl _, Nat.le_refl _, Nat.le_refl _, Nat.le_refl _⟩ p1 M z hF (fun pc ls H locs v hd hb hw h => by cases h; exact g_zret fx hw rfl hb hd) _ _ ls hl hw
noncomputable def f_X6_isDigit (p1 : Int32) (M : Mem) : Option Int32 := (bnd (f_X6_look p1 M) (fun r3 => (bnd (f_X6_isIn r3 48 57 M) (fun r4 => (some r4)))))
set_option maxHeartbeats 4000000 in
set_option maxRecDepth 100000 in
theorem b_X6_isDigit {p : Program} {l : Launch} {e : Env} {R : Room} {s : State} {m : MethodId} {args : Array Value} {below : List Frame} {meth : Method} {c : Code} {Q : State → Prop} {D : va_G} {cy : Nat → ClassId} {ad : Nat → Nat} {x : SX} (fx : FX p s m args meth c cX6_isDigit 2 (some .boolean) RX6 D cy ad x) (hR : 1 ≤ R.frames ∧ 22 ≤ R.locals ∧ 0 ≤ R.cells ∧ 0 ≤ R.slots) (p1 : Int32) (M : Mem) (z : Int32) (hF : f_X6_isDigit p1 M = some z) (E : ∀ (pc : Nat) (ls : Array Slot) (H : Heap) (locs : List Loc) (v : Int32), decode cX6_isDigit pc = .ok (.ireturn, 1) → (v = 0 ∨ v = 1) → WD D cy ad s M H locs → some v = some z → W p l e R s m args below meth c H locs 0 0 Q (F0 m pc ls [.int v])) (H : Heap) (locs : List Loc) (ls : Array Slot) (hl : lv_has ls 2 [(0, .ref (ad 9)), (1, .int p1)]) (hw : WD D cy ad s M H locs) : W p l e R s m args below meth c H locs 0 0 Q (F0 m 0 ls []) := by
  have hx := fx.1.1
  have hb := fx.1.2.1
  have hown := fx.1.2.2.2.1
  have hts := fx.1.2.2.2.2
  unfold f_X6_isDigit at hF
  refine lv_aload_n hx hb dX6_isDigit_0 rfl (lv_at hl 0 rfl) ?_
  refine lv_iload_n hx hb dX6_isDigit_1 rfl (lv_at hl 1 rfl) ?_
  obtain ⟨r3, hgr3, hF⟩ := st_bnd hF
  refine g_ci hw (g_runV (C := RX6) (As := [.int p1]) (rest := []) fx hw isO_9 rfl (c_X6_look l x D cy ad p1 H.size M r3 hgr3) wd6_146 wd6_148 wd0_83 wd1_8 wd6_149 yd_X6_look rfl rfl (Nat.le_of_ble_eq_true rfl) hl.1 ⟨Nat.le_trans (Nat.le_of_ble_eq_true rfl) hR.1, Nat.le_trans (Nat.le_of_ble_eq_true rfl) hR.2.1⟩ ⟨Nat.le_trans (Nat.le_of_ble_eq_true rfl) hR.2.2.1, Nat.le_trans (Nat.le_of_ble_eq_true rfl) hR.2.2.2⟩ dX6_isDigit_2) (fun H locs hw => ?_)
  refine lv_bipush (v := 48) hx hb dX6_isDigit_5 (by decide) ?_
  refine lv_bipush (v := 57) hx hb dX6_isDigit_7 (by decide) ?_
  obtain ⟨r4, hgr4, hF⟩ := st_bnd hF
  refine g_cz hw (g_runS (As := [.int r3, .int 48, .int 57]) (rest := []) fx hw (c_X6_isIn l x D cy ad r3 48 57 H.size M r4 hgr4) wd5_92 wd5_93 wd1_8 wd5_94 yd_X6_isIn rfl rfl (Nat.le_of_ble_eq_true rfl) hl.1 ⟨Nat.le_trans (Nat.le_of_ble_eq_true rfl) hR.1, Nat.le_trans (Nat.le_of_ble_eq_true rfl) hR.2.1⟩ ⟨Nat.le_trans (Nat.le_of_ble_eq_true rfl) hR.2.2.1, Nat.le_trans (Nat.le_of_ble_eq_true rfl) hR.2.2.2⟩ dX6_isDigit_9) (fun H locs hbr4 hw => ?_)
  exact E _ _ _ _ _ dX6_isDigit_12 hbr4 hw hF
theorem c_X6_isDigit (l : Launch) (x : SX) (D : va_G) (cy : Nat → ClassId) (ad : Nat → Nat) (p1 : Int32) (sz : Nat) (M : Mem) (z : Int32) (hF : f_X6_isDigit p1 M = some z) : Met l yX6_isDigit (.code yX6_isDigit cX6_isDigit 2 (some .boolean) :: GB) ({ frames := 1, cells := 0, slots := 0, locals := 22 } : Room) (PcW D cy ad x sz M [.ref (ad 9), .int p1]) (QzW D cy ad sz z M) 0 0 (AA ad sz) := by
  refine mk_m (own := RX6) (by decide) rfl (Nat.le_of_ble_eq_true rfl) ?_
  intro p e s m args below meth c ls fx hw hl hsz
  subst hsz
  exact b_X6_isDigit fx ⟨Nat.le_refl _, Nat.le_refl _, Nat.le_refl _, Nat.le_refl _⟩ p1 M z hF (fun pc ls H locs v hd hb hw h => by cases h; exact g_zret fx hw rfl hb hd) _ _ ls hl hw
noncomputable def f_X6_next_120 (rec120 : Mem → Option Mem) : Mem → Option Mem := fun M => (bnd (f_X6_isDigit (M 9 12) M) (fun r29 => (if r29 = 0 then (letM (mput M 9 13 1) (fun M30 => (some M30))) else (bnd (f_X6_look (M 9 12) M) (fun r31 => (letM (mput M 9 14 (imin 10000 (((10 * (M 9 14)) + r31) - 48))) (fun M32 => (letM (mput M32 9 12 ((M32 9 12) + 1)) (fun M33 => (rec120 M33))))))))))
noncomputable def f_X6_next_77 (rec77 : Mem → Option Mem) : Mem → Option Mem := fun M => (bnd (f_X6_isLetter (M 9 12) M) (fun r34 => (if r34 = 0 then (letM (mput M 9 13 0) (fun M35 => (some M35))) else (letM (mput M 9 12 ((M 9 12) + 1)) (fun M36 => (rec77 M36))))))
noncomputable def f_X6_next_8 (rec8 : Mem → Option Mem) : Mem → Option Mem := fun M => (bnd (f_X6_look (M 9 11) M) (fun r37 => (if r37 = 32 then (letM (mput M 9 11 ((M 9 11) + 1)) (fun M45 => (rec8 M45))) else (letM (mput M 9 12 (M 9 11)) (fun M38 => (letM (mput M38 9 14 0) (fun M39 => (if (M39 9 11) < (M39 9 10) then (bnd (f_X6_isLetter (M39 9 11) M39) (fun r40 => (if r40 = 0 then (bnd (f_X6_isDigit (M39 9 11) M39) (fun r41 => (if r41 = 0 then (letM (mput M39 9 12 ((M39 9 12) + 1)) (fun M42 => (letM (mput M42 9 13 2) (fun M43 => (some M43))))) else ((lp (fun _ => none) (f_X6_next_120) FU) M39)))) else ((lp (fun _ => none) (f_X6_next_77) FU) M39)))) else (letM (mput M39 9 13 3) (fun M44 => (some M44)))))))))))
noncomputable def f_X6_next (M : Mem) : Option Mem := (letM (mput M 9 11 (M 9 12)) (fun M46 => ((lp (fun _ => none) (f_X6_next_8) FU) M46)))
set_option maxHeartbeats 4000000 in
set_option maxRecDepth 100000 in
theorem b_X6_next {p : Program} {l : Launch} {e : Env} {R : Room} {s : State} {m : MethodId} {args : Array Value} {below : List Frame} {meth : Method} {c : Code} {Q : State → Prop} {D : va_G} {cy : Nat → ClassId} {ad : Nat → Nat} {x : SX} (fx : FX p s m args meth c cX6_next 1 none RX6 D cy ad x) (hR : 2 ≤ R.frames ∧ 43 ≤ R.locals ∧ 0 ≤ R.cells ∧ 0 ≤ R.slots) (M : Mem) (M' : Mem) (hF : f_X6_next M = some M') (E : ∀ (pc : Nat) (ls : Array Slot) (H : Heap) (locs : List Loc) (M1 : Mem), decode cX6_next pc = .ok (.return_, 1) → WD D cy ad s M1 H locs → some M1 = some M' → W p l e R s m args below meth c H locs 0 0 Q (F0 m pc ls [])) (H : Heap) (locs : List Loc) (ls : Array Slot) (hl : lv_has ls 1 [(0, .ref (ad 9))]) (hw : WD D cy ad s M H locs) : W p l e R s m args below meth c H locs 0 0 Q (F0 m 0 ls []) := by
  have hx := fx.1.1
  have hb := fx.1.2.1
  have hown := fx.1.2.2.2.1
  have hts := fx.1.2.2.2.2
  have n_120 : ∀ (n9 : Nat), ∀ (M : Mem) (H : Heap) (locs : List Loc) (ls : Array Slot), lv_has ls 1 [(0, .ref (ad 9))] → WD D cy ad s M H locs → (lp (fun _ => none) (f_X6_next_120) n9) M = some M' → W p l e R s m args below meth c H locs 0 0 Q (F0 m 120 ls []) := by
    intro n9
    refine lp_ind (fun (rec120 : Mem → Option Mem) => ∀ (M : Mem) (H : Heap) (locs : List Loc) (ls : Array Slot), lv_has ls 1 [(0, .ref (ad 9))] → WD D cy ad s M H locs → rec120 M = some M' → W p l e R s m args below meth c H locs 0 0 Q (F0 m 120 ls [])) ?_ ?_ n9
    · intro M H locs ls hl hw hF
      exact nomatch hF
    · intro rec120 hr120 M H locs ls hl hw hF
      unfold f_X6_next_120 at hF
      refine lv_aload_n hx hb dX6_next_120 rfl (lv_at hl 0 rfl) ?_
      refine lv_aload_n hx hb dX6_next_121 rfl (lv_at hl 0 rfl) ?_
      refine gX6_get fx hw isO_9 12 (by decide) wd5_31 rfl dX6_next_122 ?_
      obtain ⟨r29, hgr29, hF⟩ := st_bnd hF
      refine g_cz hw (g_runV (C := RX6) (As := [.int (M 9 12)]) (rest := []) fx hw isO_9 rfl (c_X6_isDigit l x D cy ad (M 9 12) H.size M r29 hgr29) wd6_154 wd6_156 wd0_85 wd1_8 wd6_157 yd_X6_isDigit rfl rfl (Nat.le_of_ble_eq_true rfl) hl.1 ⟨Nat.le_trans (Nat.le_of_ble_eq_true rfl) hR.1, Nat.le_trans (Nat.le_of_ble_eq_true rfl) hR.2.1⟩ ⟨Nat.le_trans (Nat.le_of_ble_eq_true rfl) hR.2.2.1, Nat.le_trans (Nat.le_of_ble_eq_true rfl) hR.2.2.2⟩ dX6_next_125) (fun H locs hbr29 hw => ?_)
      refine lv_if_eq (tgt := 173) hx hb dX6_next_128 (by decide) (fun hc128 => ?_) (fun hc128 => ?_)
      · replace hF := st_t hc128 hF
        refine lv_aload_n hx hb dX6_next_173 rfl (lv_at hl 0 rfl) ?_
        refine lv_iconst (v := 1) hx hb dX6_next_174 (by decide) ?_
        obtain ⟨M30, eM30, hF⟩ := st_letM hF
        refine gX6_put fx hw isO_9 13 (by decide) wd5_32 rfl eM30 rfl (Nat.le_of_ble_eq_true rfl) dX6_next_175 (fun H locs hw => ?_)
        refine lv_goto (tgt := 196) hx hb dX6_next_178 (by decide) ?_
        exact E _ _ _ _ _ dX6_next_196 hw hF
      · replace hF := st_f hc128 hF
        refine lv_aload_n hx hb dX6_next_131 rfl (lv_at hl 0 rfl) ?_
        refine lv_sipush (v := 10000) hx hb dX6_next_132 (by decide) ?_
        refine lv_bipush (v := 10) hx hb dX6_next_135 (by decide) ?_
        refine lv_aload_n hx hb dX6_next_137 rfl (lv_at hl 0 rfl) ?_
        refine gX6_get fx hw isO_9 14 (by decide) wd5_33 rfl dX6_next_138 ?_
        refine lv_imul hx hb dX6_next_141 ?_
        refine lv_aload_n hx hb dX6_next_142 rfl (lv_at hl 0 rfl) ?_
        refine lv_aload_n hx hb dX6_next_143 rfl (lv_at hl 0 rfl) ?_
        refine gX6_get fx hw isO_9 12 (by decide) wd5_31 rfl dX6_next_144 ?_
        obtain ⟨r31, hgr31, hF⟩ := st_bnd hF
        refine g_ci hw (g_runV (C := RX6) (As := [.int (M 9 12)]) (rest := [.int (10 * (M 9 14)), .int 10000, .ref (ad 9)]) fx hw isO_9 rfl (c_X6_look l x D cy ad (M 9 12) H.size M r31 hgr31) wd6_146 wd6_148 wd0_83 wd1_8 wd6_149 yd_X6_look rfl rfl (Nat.le_of_ble_eq_true rfl) hl.1 ⟨Nat.le_trans (Nat.le_of_ble_eq_true rfl) hR.1, Nat.le_trans (Nat.le_of_ble_eq_true rfl) hR.2.1⟩ ⟨Nat.le_trans (Nat.le_of_ble_eq_true rfl) hR.2.2.1, Nat.le_trans (Nat.le_of_ble_eq_true rfl) hR.2.2.2⟩ dX6_next_147) (fun H locs hw => ?_)
        refine lv_iadd hx hb dX6_next_150 ?_
        refine lv_bipush (v := 48) hx hb dX6_next_151 (by decide) ?_
        refine lv_isub hx hb dX6_next_153 ?_
        refine g_mmin fx wd5_213 wd2_72 wd1_17 wd2_73 hl.1 (Nat.le_trans (Nat.le_of_ble_eq_true rfl) hR.1) (Nat.le_trans (Nat.le_of_ble_eq_true rfl) hR.2.1) ⟨Nat.le_trans (Nat.le_of_ble_eq_true rfl) hR.2.2.1, Nat.le_trans (Nat.le_of_ble_eq_true rfl) hR.2.2.2⟩ dX6_next_154 ?_
        obtain ⟨M32, eM32, hF⟩ := st_letM hF
        refine gX6_put fx hw isO_9 14 (by decide) wd5_33 rfl eM32 rfl (Nat.le_of_ble_eq_true rfl) dX6_next_157 (fun H locs hw => ?_)
        refine lv_aload_n hx hb dX6_next_160 rfl (lv_at hl 0 rfl) ?_
        refine lv_dup hx hb dX6_next_161 rfl ?_
        refine gX6_get fx hw isO_9 12 (by decide) wd5_31 rfl dX6_next_162 ?_
        refine lv_iconst (v := 1) hx hb dX6_next_165 (by decide) ?_
        refine lv_iadd hx hb dX6_next_166 ?_
        obtain ⟨M33, eM33, hF⟩ := st_letM hF
        refine gX6_put fx hw isO_9 12 (by decide) wd5_31 rfl eM33 rfl (Nat.le_of_ble_eq_true rfl) dX6_next_167 (fun H locs hw => ?_)
        refine lv_goto (tgt := 120) hx hb dX6_next_170 (by decide) ?_
        exact hr120 M33 H locs ls (lv_sub hl [0] rfl) hw hF
  have n_77 : ∀ (n9 : Nat), ∀ (M : Mem) (H : Heap) (locs : List Loc) (ls : Array Slot), lv_has ls 1 [(0, .ref (ad 9))] → WD D cy ad s M H locs → (lp (fun _ => none) (f_X6_next_77) n9) M = some M' → W p l e R s m args below meth c H locs 0 0 Q (F0 m 77 ls []) := by
    intro n9
    refine lp_ind (fun (rec77 : Mem → Option Mem) => ∀ (M : Mem) (H : Heap) (locs : List Loc) (ls : Array Slot), lv_has ls 1 [(0, .ref (ad 9))] → WD D cy ad s M H locs → rec77 M = some M' → W p l e R s m args below meth c H locs 0 0 Q (F0 m 77 ls [])) ?_ ?_ n9
    · intro M H locs ls hl hw hF
      exact nomatch hF
    · intro rec77 hr77 M H locs ls hl hw hF
      unfold f_X6_next_77 at hF
      refine lv_aload_n hx hb dX6_next_77 rfl (lv_at hl 0 rfl) ?_
      refine lv_aload_n hx hb dX6_next_78 rfl (lv_at hl 0 rfl) ?_
      refine gX6_get fx hw isO_9 12 (by decide) wd5_31 rfl dX6_next_79 ?_
      obtain ⟨r34, hgr34, hF⟩ := st_bnd hF
      refine g_cz hw (g_runV (C := RX6) (As := [.int (M 9 12)]) (rest := []) fx hw isO_9 rfl (c_X6_isLetter l x D cy ad (M 9 12) H.size M r34 hgr34) wd6_150 wd6_152 wd0_84 wd1_8 wd6_153 yd_X6_isLetter rfl rfl (Nat.le_of_ble_eq_true rfl) hl.1 ⟨Nat.le_trans (Nat.le_of_ble_eq_true rfl) hR.1, Nat.le_trans (Nat.le_of_ble_eq_true rfl) hR.2.1⟩ ⟨Nat.le_trans (Nat.le_of_ble_eq_true rfl) hR.2.2.1, Nat.le_trans (Nat.le_of_ble_eq_true rfl) hR.2.2.2⟩ dX6_next_82) (fun H locs hbr34 hw => ?_)
      refine lv_if_eq (tgt := 101) hx hb dX6_next_85 (by decide) (fun hc85 => ?_) (fun hc85 => ?_)
      · replace hF := st_t hc85 hF
        refine lv_aload_n hx hb dX6_next_101 rfl (lv_at hl 0 rfl) ?_
        refine lv_iconst (v := 0) hx hb dX6_next_102 (by decide) ?_
        obtain ⟨M35, eM35, hF⟩ := st_letM hF
        refine gX6_put fx hw isO_9 13 (by decide) wd5_32 rfl eM35 rfl (Nat.le_of_ble_eq_true rfl) dX6_next_103 (fun H locs hw => ?_)
        refine lv_goto (tgt := 196) hx hb dX6_next_106 (by decide) ?_
        exact E _ _ _ _ _ dX6_next_196 hw hF
      · replace hF := st_f hc85 hF
        refine lv_aload_n hx hb dX6_next_88 rfl (lv_at hl 0 rfl) ?_
        refine lv_dup hx hb dX6_next_89 rfl ?_
        refine gX6_get fx hw isO_9 12 (by decide) wd5_31 rfl dX6_next_90 ?_
        refine lv_iconst (v := 1) hx hb dX6_next_93 (by decide) ?_
        refine lv_iadd hx hb dX6_next_94 ?_
        obtain ⟨M36, eM36, hF⟩ := st_letM hF
        refine gX6_put fx hw isO_9 12 (by decide) wd5_31 rfl eM36 rfl (Nat.le_of_ble_eq_true rfl) dX6_next_95 (fun H locs hw => ?_)
        refine lv_goto (tgt := 77) hx hb dX6_next_98 (by decide) ?_
        exact hr77 M36 H locs ls (lv_sub hl [0] rfl) hw hF
  have n_8 : ∀ (n9 : Nat), ∀ (M : Mem) (H : Heap) (locs : List Loc) (ls : Array Slot), lv_has ls 1 [(0, .ref (ad 9))] → WD D cy ad s M H locs → (lp (fun _ => none) (f_X6_next_8) n9) M = some M' → W p l e R s m args below meth c H locs 0 0 Q (F0 m 8 ls []) := by
    intro n9
    refine lp_ind (fun (rec8 : Mem → Option Mem) => ∀ (M : Mem) (H : Heap) (locs : List Loc) (ls : Array Slot), lv_has ls 1 [(0, .ref (ad 9))] → WD D cy ad s M H locs → rec8 M = some M' → W p l e R s m args below meth c H locs 0 0 Q (F0 m 8 ls [])) ?_ ?_ n9
    · intro M H locs ls hl hw hF
      exact nomatch hF
    · intro rec8 hr8 M H locs ls hl hw hF
      unfold f_X6_next_8 at hF
      refine lv_aload_n hx hb dX6_next_8 rfl (lv_at hl 0 rfl) ?_
      refine lv_aload_n hx hb dX6_next_9 rfl (lv_at hl 0 rfl) ?_
      refine gX6_get fx hw isO_9 11 (by decide) wd5_30 rfl dX6_next_10 ?_
      obtain ⟨r37, hgr37, hF⟩ := st_bnd hF
      refine g_ci hw (g_runV (C := RX6) (As := [.int (M 9 11)]) (rest := []) fx hw isO_9 rfl (c_X6_look l x D cy ad (M 9 11) H.size M r37 hgr37) wd6_146 wd6_148 wd0_83 wd1_8 wd6_149 yd_X6_look rfl rfl (Nat.le_of_ble_eq_true rfl) hl.1 ⟨Nat.le_trans (Nat.le_of_ble_eq_true rfl) hR.1, Nat.le_trans (Nat.le_of_ble_eq_true rfl) hR.2.1⟩ ⟨Nat.le_trans (Nat.le_of_ble_eq_true rfl) hR.2.2.1, Nat.le_trans (Nat.le_of_ble_eq_true rfl) hR.2.2.2⟩ dX6_next_13) (fun H locs hw => ?_)
      refine lv_bipush (v := 32) hx hb dX6_next_16 (by decide) ?_
      refine lv_icmp_ne (tgt := 34) hx hb dX6_next_18 (by decide) (fun hc18 => ?_) (fun hc18 => ?_)
      · replace hF := st_f hc18 hF
        refine lv_aload_n hx hb dX6_next_34 rfl (lv_at hl 0 rfl) ?_
        refine lv_aload_n hx hb dX6_next_35 rfl (lv_at hl 0 rfl) ?_
        refine gX6_get fx hw isO_9 11 (by decide) wd5_30 rfl dX6_next_36 ?_
        obtain ⟨M38, eM38, hF⟩ := st_letM hF
        refine gX6_put fx hw isO_9 12 (by decide) wd5_31 rfl eM38 rfl (Nat.le_of_ble_eq_true rfl) dX6_next_39 (fun H locs hw => ?_)
        refine lv_aload_n hx hb dX6_next_42 rfl (lv_at hl 0 rfl) ?_
        refine lv_iconst (v := 0) hx hb dX6_next_43 (by decide) ?_
        obtain ⟨M39, eM39, hF⟩ := st_letM hF
        refine gX6_put fx hw isO_9 14 (by decide) wd5_33 rfl eM39 rfl (Nat.le_of_ble_eq_true rfl) dX6_next_44 (fun H locs hw => ?_)
        refine lv_aload_n hx hb dX6_next_47 rfl (lv_at hl 0 rfl) ?_
        refine gX6_get fx hw isO_9 11 (by decide) wd5_30 rfl dX6_next_48 ?_
        refine lv_aload_n hx hb dX6_next_51 rfl (lv_at hl 0 rfl) ?_
        refine gX6_get fx hw isO_9 10 (by decide) wd5_29 rfl dX6_next_52 ?_
        refine lv_icmp_lt (tgt := 66) hx hb dX6_next_55 (by decide) (fun hc55 => ?_) (fun hc55 => ?_)
        · replace hF := st_t hc55 hF
          refine lv_aload_n hx hb dX6_next_66 rfl (lv_at hl 0 rfl) ?_
          refine lv_aload_n hx hb dX6_next_67 rfl (lv_at hl 0 rfl) ?_
          refine gX6_get fx hw isO_9 11 (by decide) wd5_30 rfl dX6_next_68 ?_
          obtain ⟨r40, hgr40, hF⟩ := st_bnd hF
          refine g_cz hw (g_runV (C := RX6) (As := [.int (M39 9 11)]) (rest := []) fx hw isO_9 rfl (c_X6_isLetter l x D cy ad (M39 9 11) H.size M39 r40 hgr40) wd6_150 wd6_152 wd0_84 wd1_8 wd6_153 yd_X6_isLetter rfl rfl (Nat.le_of_ble_eq_true rfl) hl.1 ⟨Nat.le_trans (Nat.le_of_ble_eq_true rfl) hR.1, Nat.le_trans (Nat.le_of_ble_eq_true rfl) hR.2.1⟩ ⟨Nat.le_trans (Nat.le_of_ble_eq_true rfl) hR.2.2.1, Nat.le_trans (Nat.le_of_ble_eq_true rfl) hR.2.2.2⟩ dX6_next_71) (fun H locs hbr40 hw => ?_)
          refine lv_if_eq (tgt := 109) hx hb dX6_next_74 (by decide) (fun hc74 => ?_) (fun hc74 => ?_)
          · replace hF := st_t hc74 hF
            refine lv_aload_n hx hb dX6_next_109 rfl (lv_at hl 0 rfl) ?_
            refine lv_aload_n hx hb dX6_next_110 rfl (lv_at hl 0 rfl) ?_
            refine gX6_get fx hw isO_9 11 (by decide) wd5_30 rfl dX6_next_111 ?_
            obtain ⟨r41, hgr41, hF⟩ := st_bnd hF
            refine g_cz hw (g_runV (C := RX6) (As := [.int (M39 9 11)]) (rest := []) fx hw isO_9 rfl (c_X6_isDigit l x D cy ad (M39 9 11) H.size M39 r41 hgr41) wd6_154 wd6_156 wd0_85 wd1_8 wd6_157 yd_X6_isDigit rfl rfl (Nat.le_of_ble_eq_true rfl) hl.1 ⟨Nat.le_trans (Nat.le_of_ble_eq_true rfl) hR.1, Nat.le_trans (Nat.le_of_ble_eq_true rfl) hR.2.1⟩ ⟨Nat.le_trans (Nat.le_of_ble_eq_true rfl) hR.2.2.1, Nat.le_trans (Nat.le_of_ble_eq_true rfl) hR.2.2.2⟩ dX6_next_114) (fun H locs hbr41 hw => ?_)
            refine lv_if_eq (tgt := 181) hx hb dX6_next_117 (by decide) (fun hc117 => ?_) (fun hc117 => ?_)
            · replace hF := st_t hc117 hF
              refine lv_aload_n hx hb dX6_next_181 rfl (lv_at hl 0 rfl) ?_
              refine lv_dup hx hb dX6_next_182 rfl ?_
              refine gX6_get fx hw isO_9 12 (by decide) wd5_31 rfl dX6_next_183 ?_
              refine lv_iconst (v := 1) hx hb dX6_next_186 (by decide) ?_
              refine lv_iadd hx hb dX6_next_187 ?_
              obtain ⟨M42, eM42, hF⟩ := st_letM hF
              refine gX6_put fx hw isO_9 12 (by decide) wd5_31 rfl eM42 rfl (Nat.le_of_ble_eq_true rfl) dX6_next_188 (fun H locs hw => ?_)
              refine lv_aload_n hx hb dX6_next_191 rfl (lv_at hl 0 rfl) ?_
              refine lv_iconst (v := 2) hx hb dX6_next_192 (by decide) ?_
              obtain ⟨M43, eM43, hF⟩ := st_letM hF
              refine gX6_put fx hw isO_9 13 (by decide) wd5_32 rfl eM43 rfl (Nat.le_of_ble_eq_true rfl) dX6_next_193 (fun H locs hw => ?_)
              exact E _ _ _ _ _ dX6_next_196 hw hF
            · replace hF := st_f hc117 hF
              exact n_120 FU M39 H locs ls (lv_sub hl [0] rfl) hw hF
          · replace hF := st_f hc74 hF
            exact n_77 FU M39 H locs ls (lv_sub hl [0] rfl) hw hF
        · replace hF := st_f hc55 hF
          refine lv_aload_n hx hb dX6_next_58 rfl (lv_at hl 0 rfl) ?_
          refine lv_iconst (v := 3) hx hb dX6_next_59 (by decide) ?_
          obtain ⟨M44, eM44, hF⟩ := st_letM hF
          refine gX6_put fx hw isO_9 13 (by decide) wd5_32 rfl eM44 rfl (Nat.le_of_ble_eq_true rfl) dX6_next_60 (fun H locs hw => ?_)
          refine lv_goto (tgt := 196) hx hb dX6_next_63 (by decide) ?_
          exact E _ _ _ _ _ dX6_next_196 hw hF
      · replace hF := st_t hc18 hF
        refine lv_aload_n hx hb dX6_next_21 rfl (lv_at hl 0 rfl) ?_
        refine lv_dup hx hb dX6_next_22 rfl ?_
        refine gX6_get fx hw isO_9 11 (by decide) wd5_30 rfl dX6_next_23 ?_
        refine lv_iconst (v := 1) hx hb dX6_next_26 (by decide) ?_
        refine lv_iadd hx hb dX6_next_27 ?_
        obtain ⟨M45, eM45, hF⟩ := st_letM hF
        refine gX6_put fx hw isO_9 11 (by decide) wd5_30 rfl eM45 rfl (Nat.le_of_ble_eq_true rfl) dX6_next_28 (fun H locs hw => ?_)
        refine lv_goto (tgt := 8) hx hb dX6_next_31 (by decide) ?_
        exact hr8 M45 H locs ls (lv_sub hl [0] rfl) hw hF
  unfold f_X6_next at hF
  refine lv_aload_n hx hb dX6_next_0 rfl (lv_at hl 0 rfl) ?_
  refine lv_aload_n hx hb dX6_next_1 rfl (lv_at hl 0 rfl) ?_
  refine gX6_get fx hw isO_9 12 (by decide) wd5_31 rfl dX6_next_2 ?_
  obtain ⟨M46, eM46, hF⟩ := st_letM hF
  refine gX6_put fx hw isO_9 11 (by decide) wd5_30 rfl eM46 rfl (Nat.le_of_ble_eq_true rfl) dX6_next_5 (fun H locs hw => ?_)
  exact n_8 FU M46 H locs ls (lv_sub hl [0] rfl) hw hF
theorem c_X6_next (l : Launch) (x : SX) (D : va_G) (cy : Nat → ClassId) (ad : Nat → Nat) (sz : Nat) (M : Mem) (M' : Mem) (hF : f_X6_next M = some M') : Met l yX6_next (.code yX6_next cX6_next 1 none :: GB) ({ frames := 2, cells := 0, slots := 0, locals := 43 } : Room) (PcW D cy ad x sz M [.ref (ad 9)]) (QvW D cy ad sz M') 0 0 (AA ad sz) := by
  refine mk_m (own := RX6) (by decide) rfl (Nat.le_of_ble_eq_true rfl) ?_
  intro p e s m args below meth c ls fx hw hl hsz
  subst hsz
  exact b_X6_next fx ⟨Nat.le_refl _, Nat.le_refl _, Nat.le_refl _, Nat.le_refl _⟩ M M' hF (fun pc ls H locs M1 hd hw h => by cases h; exact g_vret fx hw hd) _ _ ls hl hw
noncomputable def f_X6_isWord_34 (w1 : Nat) (M : Mem) (rec34 : Int32 → Option Int32) : Int32 → Option Int32 := fun a2 => (bnd (f_J0_length_8abf5 w1 M) (fun r9 => (if r9 ≤ a2 then (some 1) else (chk (inB ((M 9 11) + a2) 800) (bnd (f_J0_charAt_5068e w1 a2 M) (fun r11 => (if (M 16 (ix ((M 9 11) + a2))) = r11 then (rec34 (a2 + 1)) else (some 0))))))))
noncomputable def f_X6_isWord (w1 : Nat) (M : Mem) : Option Int32 := (if (M 9 15) = 0 then (if (M 9 13) = 0 then (bnd (f_J0_length_8abf5 w1 M) (fun r12 => (if ((M 9 12) - (M 9 11)) = r12 then ((lp (fun _ => none) (f_X6_isWord_34 w1 M) FU) 0) else (some 0)))) else (some 0)) else (some 0))
set_option maxHeartbeats 4000000 in
set_option maxRecDepth 100000 in
theorem b_X6_isWord {p : Program} {l : Launch} {e : Env} {R : Room} {s : State} {m : MethodId} {args : Array Value} {below : List Frame} {meth : Method} {c : Code} {Q : State → Prop} {D : va_G} {cy : Nat → ClassId} {ad : Nat → Nat} {x : SX} (fx : FX p s m args meth c cX6_isWord 3 (some .boolean) RX6 D cy ad x) (hR : 4 ≤ R.frames ∧ 85 ≤ R.locals ∧ 0 ≤ R.cells ∧ 0 ≤ R.slots) (w1 : Nat) (hw1 : w1 < 32) (M : Mem) (z : Int32) (hF : f_X6_isWord w1 M = some z) (E : ∀ (pc : Nat) (ls : Array Slot) (H : Heap) (locs : List Loc) (v : Int32), decode cX6_isWord pc = .ok (.ireturn, 1) → (v = 0 ∨ v = 1) → WD D cy ad s M H locs → some v = some z → W p l e R s m args below meth c H locs 0 0 Q (F0 m pc ls [.int v])) (H : Heap) (locs : List Loc) (ls : Array Slot) (hl : lv_has ls 3 [(0, .ref (ad 9)), (1, .ref (x.1 w1))]) (hw : WD D cy ad s M H locs) : W p l e R s m args below meth c H locs 0 0 Q (F0 m 0 ls []) := by
  have hx := fx.1.1
  have hb := fx.1.2.1
  have hown := fx.1.2.2.2.1
  have hts := fx.1.2.2.2.2
  have n_34 : ∀ (n9 : Nat), ∀ (a2 : Int32) (H : Heap) (locs : List Loc) (ls : Array Slot), lv_has ls 3 [(0, .ref (ad 9)), (1, .ref (x.1 w1)), (2, .int a2)] → WD D cy ad s M H locs → (lp (fun _ => none) (f_X6_isWord_34 w1 M) n9) a2 = some z → W p l e R s m args below meth c H locs 0 0 Q (F0 m 34 ls []) := by
    intro n9
    refine lp_ind (fun (rec34 : Int32 → Option Int32) => ∀ (a2 : Int32) (H : Heap) (locs : List Loc) (ls : Array Slot), lv_has ls 3 [(0, .ref (ad 9)), (1, .ref (x.1 w1)), (2, .int a2)] → WD D cy ad s M H locs → rec34 a2 = some z → W p l e R s m args below meth c H locs 0 0 Q (F0 m 34 ls [])) ?_ ?_ n9
    · intro a2 H locs ls hl hw hF
      exact nomatch hF
    · intro rec34 hr34 a2 H locs ls hl hw hF
      unfold f_X6_isWord_34 at hF
      refine lv_iload_n hx hb dX6_isWord_34 rfl (lv_at hl 2 rfl) ?_
      refine lv_aload_n hx hb dX6_isWord_35 rfl (lv_at hl 1 rfl) ?_
      obtain ⟨r9, hgr9, hF⟩ := st_bnd hF
      refine g_ci hw (g_runT (As := []) (rest := [.int a2]) fx hw hw1 (c_J0_length_8abf5 l x D cy ad w1 hw1 H.size M r9 hgr9) wd6_167 wd2_12 wd2_13 wd1_13 wd2_14 yd_J0_length_8abf5 rfl rfl (Nat.le_of_ble_eq_true rfl) hl.1 ⟨Nat.le_trans (Nat.le_of_ble_eq_true rfl) hR.1, Nat.le_trans (Nat.le_of_ble_eq_true rfl) hR.2.1⟩ ⟨Nat.le_trans (Nat.le_of_ble_eq_true rfl) hR.2.2.1, Nat.le_trans (Nat.le_of_ble_eq_true rfl) hR.2.2.2⟩ dX6_isWord_36) (fun H locs hw => ?_)
      refine lv_icmp_ge (tgt := 69) hx hb dX6_isWord_39 (by decide) (fun hc39 => ?_) (fun hc39 => ?_)
      · replace hF := st_t hc39 hF
        refine lv_iconst (v := 1) hx hb dX6_isWord_69 (by decide) ?_
        exact E _ _ _ _ _ dX6_isWord_70 (Or.inr rfl) hw hF
      · replace hF := st_f hc39 hF
        refine lv_aload_n hx hb dX6_isWord_42 rfl (lv_at hl 0 rfl) ?_
        refine gX6_get fx hw isO_9 9 (by decide) wd5_28 rfl dX6_isWord_43 ?_
        refine lv_aload_n hx hb dX6_isWord_46 rfl (lv_at hl 0 rfl) ?_
        refine gX6_get fx hw isO_9 11 (by decide) wd5_30 rfl dX6_isWord_47 ?_
        refine lv_iload_n hx hb dX6_isWord_50 rfl (lv_at hl 2 rfl) ?_
        refine lv_iadd hx hb dX6_isWord_51 ?_
        obtain ⟨hi10, hF⟩ := st_chk hF
        refine g_iald fx hw isA_16 hi10 dX6_isWord_52 ?_
        refine lv_aload_n hx hb dX6_isWord_53 rfl (lv_at hl 1 rfl) ?_
        refine lv_iload_n hx hb dX6_isWord_54 rfl (lv_at hl 2 rfl) ?_
        obtain ⟨r11, hgr11, hF⟩ := st_bnd hF
        refine g_ci hw (g_runT (As := [.int a2]) (rest := [.int (M 16 (ix ((M 9 11) + a2)))]) fx hw hw1 (c_J0_charAt_5068e l x D cy ad w1 hw1 a2 H.size M r11 hgr11) wd6_168 wd2_22 wd2_23 wd1_13 wd2_24 yd_J0_charAt_5068e rfl rfl (Nat.le_of_ble_eq_true rfl) hl.1 ⟨Nat.le_trans (Nat.le_of_ble_eq_true rfl) hR.1, Nat.le_trans (Nat.le_of_ble_eq_true rfl) hR.2.1⟩ ⟨Nat.le_trans (Nat.le_of_ble_eq_true rfl) hR.2.2.1, Nat.le_trans (Nat.le_of_ble_eq_true rfl) hR.2.2.2⟩ dX6_isWord_55) (fun H locs hw => ?_)
        refine lv_icmp_eq (tgt := 63) hx hb dX6_isWord_58 (by decide) (fun hc58 => ?_) (fun hc58 => ?_)
        · replace hF := st_t hc58 hF
          refine lv_iinc (v := (a2 + 1)) (lv' := [(2, .int (a2 + 1)), (0, .ref (ad 9)), (1, .ref (x.1 w1))]) hx hb dX6_isWord_63 hl (k := 2) rfl rfl (by decide) rfl (fun ls hl => ?_)
          refine lv_goto (tgt := 34) hx hb dX6_isWord_66 (by decide) ?_
          exact hr34 (a2 + 1) H locs ls (lv_sub hl [1, 2, 0] rfl) hw hF
        · replace hF := st_f hc58 hF
          refine lv_iconst (v := 0) hx hb dX6_isWord_61 (by decide) ?_
          exact E _ _ _ _ _ dX6_isWord_62 (Or.inl rfl) hw hF
  unfold f_X6_isWord at hF
  refine lv_aload_n hx hb dX6_isWord_0 rfl (lv_at hl 0 rfl) ?_
  refine gX6_get fx hw isO_9 15 (by decide) wd5_34 rfl dX6_isWord_1 ?_
  refine lv_if_ne (tgt := 30) hx hb dX6_isWord_4 (by decide) (fun hc4 => ?_) (fun hc4 => ?_)
  · replace hF := st_f hc4 hF
    refine lv_iconst (v := 0) hx hb dX6_isWord_30 (by decide) ?_
    exact E _ _ _ _ _ dX6_isWord_31 (Or.inl rfl) hw hF
  · replace hF := st_t hc4 hF
    refine lv_aload_n hx hb dX6_isWord_7 rfl (lv_at hl 0 rfl) ?_
    refine gX6_get fx hw isO_9 13 (by decide) wd5_32 rfl dX6_isWord_8 ?_
    refine lv_if_ne (tgt := 30) hx hb dX6_isWord_11 (by decide) (fun hc11 => ?_) (fun hc11 => ?_)
    · replace hF := st_f hc11 hF
      refine lv_iconst (v := 0) hx hb dX6_isWord_30 (by decide) ?_
      exact E _ _ _ _ _ dX6_isWord_31 (Or.inl rfl) hw hF
    · replace hF := st_t hc11 hF
      refine lv_aload_n hx hb dX6_isWord_14 rfl (lv_at hl 0 rfl) ?_
      refine gX6_get fx hw isO_9 12 (by decide) wd5_31 rfl dX6_isWord_15 ?_
      refine lv_aload_n hx hb dX6_isWord_18 rfl (lv_at hl 0 rfl) ?_
      refine gX6_get fx hw isO_9 11 (by decide) wd5_30 rfl dX6_isWord_19 ?_
      refine lv_isub hx hb dX6_isWord_22 ?_
      refine lv_aload_n hx hb dX6_isWord_23 rfl (lv_at hl 1 rfl) ?_
      obtain ⟨r12, hgr12, hF⟩ := st_bnd hF
      refine g_ci hw (g_runT (As := []) (rest := [.int ((M 9 12) - (M 9 11))]) fx hw hw1 (c_J0_length_8abf5 l x D cy ad w1 hw1 H.size M r12 hgr12) wd6_167 wd2_12 wd2_13 wd1_13 wd2_14 yd_J0_length_8abf5 rfl rfl (Nat.le_of_ble_eq_true rfl) hl.1 ⟨Nat.le_trans (Nat.le_of_ble_eq_true rfl) hR.1, Nat.le_trans (Nat.le_of_ble_eq_true rfl) hR.2.1⟩ ⟨Nat.le_trans (Nat.le_of_ble_eq_true rfl) hR.2.2.1, Nat.le_trans (Nat.le_of_ble_eq_true rfl) hR.2.2.2⟩ dX6_isWord_24) (fun H locs hw => ?_)
      refine lv_icmp_eq (tgt := 32) hx hb dX6_isWord_27 (by decide) (fun hc27 => ?_) (fun hc27 => ?_)
      · replace hF := st_t hc27 hF
        refine lv_iconst (v := 0) hx hb dX6_isWord_32 (by decide) ?_
        refine lv_istore_n (lv' := [(2, .int 0), (0, .ref (ad 9)), (1, .ref (x.1 w1))]) hx hb dX6_isWord_33 rfl hl (by decide) rfl (fun ls hl => ?_)
        exact n_34 FU 0 H locs ls (lv_sub hl [1, 2, 0] rfl) hw hF
      · replace hF := st_f hc27 hF
        refine lv_iconst (v := 0) hx hb dX6_isWord_30 (by decide) ?_
        exact E _ _ _ _ _ dX6_isWord_31 (Or.inl rfl) hw hF
theorem c_X6_isWord (l : Launch) (x : SX) (D : va_G) (cy : Nat → ClassId) (ad : Nat → Nat) (w1 : Nat) (hw1 : w1 < 32) (sz : Nat) (M : Mem) (z : Int32) (hF : f_X6_isWord w1 M = some z) : Met l yX6_isWord (.code yX6_isWord cX6_isWord 3 (some .boolean) :: GB) ({ frames := 4, cells := 0, slots := 0, locals := 85 } : Room) (PcW D cy ad x sz M [.ref (ad 9), .ref (x.1 w1)]) (QzW D cy ad sz z M) 0 0 (AA ad sz) := by
  refine mk_m (own := RX6) (by decide) rfl (Nat.le_of_ble_eq_true rfl) ?_
  intro p e s m args below meth c ls fx hw hl hsz
  subst hsz
  exact b_X6_isWord fx ⟨Nat.le_refl _, Nat.le_refl _, Nat.le_refl _, Nat.le_refl _⟩ w1 hw1 M z hF (fun pc ls H locs v hd hb hw h => by cases h; exact g_zret fx hw rfl hb hd) _ _ ls hl hw
noncomputable def f_X6_errs (p1 : Int32) (M : Mem) : Option Mem := (if (M 9 15) = 0 then (letM (mput M 9 15 p1) (fun M3 => (letM (mput M3 9 16 (M3 9 11)) (fun M4 => (some M4))))) else (some M))
set_option maxHeartbeats 4000000 in
set_option maxRecDepth 100000 in
theorem b_X6_errs {p : Program} {l : Launch} {e : Env} {R : Room} {s : State} {m : MethodId} {args : Array Value} {below : List Frame} {meth : Method} {c : Code} {Q : State → Prop} {D : va_G} {cy : Nat → ClassId} {ad : Nat → Nat} {x : SX} (fx : FX p s m args meth c cX6_errs 2 none RX6 D cy ad x) (hR : 0 ≤ R.frames ∧ 0 ≤ R.locals ∧ 0 ≤ R.cells ∧ 0 ≤ R.slots) (p1 : Int32) (M : Mem) (M' : Mem) (hF : f_X6_errs p1 M = some M') (E : ∀ (pc : Nat) (ls : Array Slot) (H : Heap) (locs : List Loc) (M1 : Mem), decode cX6_errs pc = .ok (.return_, 1) → WD D cy ad s M1 H locs → some M1 = some M' → W p l e R s m args below meth c H locs 0 0 Q (F0 m pc ls [])) (H : Heap) (locs : List Loc) (ls : Array Slot) (hl : lv_has ls 2 [(0, .ref (ad 9)), (1, .int p1)]) (hw : WD D cy ad s M H locs) : W p l e R s m args below meth c H locs 0 0 Q (F0 m 0 ls []) := by
  have hx := fx.1.1
  have hb := fx.1.2.1
  have hown := fx.1.2.2.2.1
  have hts := fx.1.2.2.2.2
  unfold f_X6_errs at hF
  refine lv_aload_n hx hb dX6_errs_0 rfl (lv_at hl 0 rfl) ?_
  refine gX6_get fx hw isO_9 15 (by decide) wd5_34 rfl dX6_errs_1 ?_
  refine lv_if_eq (tgt := 8) hx hb dX6_errs_4 (by decide) (fun hc4 => ?_) (fun hc4 => ?_)
  · replace hF := st_t hc4 hF
    refine lv_aload_n hx hb dX6_errs_8 rfl (lv_at hl 0 rfl) ?_
    refine lv_iload_n hx hb dX6_errs_9 rfl (lv_at hl 1 rfl) ?_
    obtain ⟨M3, eM3, hF⟩ := st_letM hF
    refine gX6_put fx hw isO_9 15 (by decide) wd5_34 rfl eM3 rfl (Nat.le_of_ble_eq_true rfl) dX6_errs_10 (fun H locs hw => ?_)
    refine lv_aload_n hx hb dX6_errs_13 rfl (lv_at hl 0 rfl) ?_
    refine lv_aload_n hx hb dX6_errs_14 rfl (lv_at hl 0 rfl) ?_
    refine gX6_get fx hw isO_9 11 (by decide) wd5_30 rfl dX6_errs_15 ?_
    obtain ⟨M4, eM4, hF⟩ := st_letM hF
    refine gX6_put fx hw isO_9 16 (by decide) wd5_35 rfl eM4 rfl (Nat.le_of_ble_eq_true rfl) dX6_errs_18 (fun H locs hw => ?_)
    exact E _ _ _ _ _ dX6_errs_21 hw hF
  · replace hF := st_f hc4 hF
    exact E _ _ _ _ _ dX6_errs_7 hw hF
theorem c_X6_errs (l : Launch) (x : SX) (D : va_G) (cy : Nat → ClassId) (ad : Nat → Nat) (p1 : Int32) (sz : Nat) (M : Mem) (M' : Mem) (hF : f_X6_errs p1 M = some M') : Met l yX6_errs (.code yX6_errs cX6_errs 2 none :: GB) ({ frames := 0, cells := 0, slots := 0, locals := 0 } : Room) (PcW D cy ad x sz M [.ref (ad 9), .int p1]) (QvW D cy ad sz M') 0 0 (AA ad sz) := by
  refine mk_m (own := RX6) (by decide) rfl (Nat.le_of_ble_eq_true rfl) ?_
  intro p e s m args below meth c ls fx hw hl hsz
  subst hsz
  exact b_X6_errs fx ⟨Nat.le_refl _, Nat.le_refl _, Nat.le_refl _, Nat.le_refl _⟩ p1 M M' hF (fun pc ls H locs M1 hd hw h => by cases h; exact g_vret fx hw hd) _ _ ls hl hw
noncomputable def f_X6_must_10 : Mem → Option Mem := fun M => (if (M 9 15) = 0 then (bnd (f_X6_next M) (fun M10 => (some M10))) else (some M))
noncomputable def f_X6_must (p1 : Int32) (M : Mem) : Option Mem := (if p1 = 0 then (bnd (f_X6_errs (-2) M) (fun M12 => ((f_X6_must_10) M12))) else ((f_X6_must_10) M))
set_option maxHeartbeats 4000000 in
set_option maxRecDepth 100000 in
theorem b_X6_must {p : Program} {l : Launch} {e : Env} {R : Room} {s : State} {m : MethodId} {args : Array Value} {below : List Frame} {meth : Method} {c : Code} {Q : State → Prop} {D : va_G} {cy : Nat → ClassId} {ad : Nat → Nat} {x : SX} (fx : FX p s m args meth c cX6_must 2 none RX6 D cy ad x) (hR : 3 ≤ R.frames ∧ 63 ≤ R.locals ∧ 0 ≤ R.cells ∧ 0 ≤ R.slots) (p1 : Int32) (M : Mem) (M' : Mem) (hF : f_X6_must p1 M = some M') (E : ∀ (pc : Nat) (ls : Array Slot) (H : Heap) (locs : List Loc) (M1 : Mem), decode cX6_must pc = .ok (.return_, 1) → WD D cy ad s M1 H locs → some M1 = some M' → W p l e R s m args below meth c H locs 0 0 Q (F0 m pc ls [])) (H : Heap) (locs : List Loc) (ls : Array Slot) (hl : lv_has ls 2 [(0, .ref (ad 9)), (1, .int p1)]) (hw : WD D cy ad s M H locs) : W p l e R s m args below meth c H locs 0 0 Q (F0 m 0 ls []) := by
  have hx := fx.1.1
  have hb := fx.1.2.1
  have hown := fx.1.2.2.2.1
  have hts := fx.1.2.2.2.2
  have n_10 : ∀ (M : Mem) (H : Heap) (locs : List Loc) (ls : Array Slot), lv_has ls 2 [(0, .ref (ad 9))] → WD D cy ad s M H locs → f_X6_must_10 M = some M' → W p l e R s m args below meth c H locs 0 0 Q (F0 m 10 ls []) := by
    intro M H locs ls hl hw hF
    unfold f_X6_must_10 at hF
    refine lv_aload_n hx hb dX6_must_10 rfl (lv_at hl 0 rfl) ?_
    refine gX6_get fx hw isO_9 15 (by decide) wd5_34 rfl dX6_must_11 ?_
    refine lv_if_ne (tgt := 21) hx hb dX6_must_14 (by decide) (fun hc14 => ?_) (fun hc14 => ?_)
    · replace hF := st_f hc14 hF
      exact E _ _ _ _ _ dX6_must_21 hw hF
    · replace hF := st_t hc14 hF
      refine lv_aload_n hx hb dX6_must_17 rfl (lv_at hl 0 rfl) ?_
      obtain ⟨M10, hgr9, hF⟩ := st_bnd hF
      refine g_cv hw (g_runV (C := RX6) (As := []) (rest := []) fx hw isO_9 rfl (c_X6_next l x D cy ad H.size M M10 hgr9) wd6_142 wd6_144 wd0_82 wd1_8 wd6_145 yd_X6_next rfl rfl (Nat.le_of_ble_eq_true rfl) hl.1 ⟨Nat.le_trans (Nat.le_of_ble_eq_true rfl) hR.1, Nat.le_trans (Nat.le_of_ble_eq_true rfl) hR.2.1⟩ ⟨Nat.le_trans (Nat.le_of_ble_eq_true rfl) hR.2.2.1, Nat.le_trans (Nat.le_of_ble_eq_true rfl) hR.2.2.2⟩ dX6_must_18) (fun H locs hw => ?_)
      exact E _ _ _ _ _ dX6_must_21 hw hF
  unfold f_X6_must at hF
  refine lv_iload_n hx hb dX6_must_0 rfl (lv_at hl 1 rfl) ?_
  refine lv_if_ne (tgt := 10) hx hb dX6_must_1 (by decide) (fun hc1 => ?_) (fun hc1 => ?_)
  · replace hF := st_f hc1 hF
    exact n_10 M H locs ls (lv_sub hl [0] rfl) hw hF
  · replace hF := st_t hc1 hF
    refine lv_aload_n hx hb dX6_must_4 rfl (lv_at hl 0 rfl) ?_
    refine lv_bipush (v := (-2)) hx hb dX6_must_5 (by decide) ?_
    obtain ⟨M12, hgr11, hF⟩ := st_bnd hF
    refine g_cv hw (g_runV (C := RX6) (As := [.int (-2)]) (rest := []) fx hw isO_9 rfl (c_X6_errs l x D cy ad (-2) H.size M M12 hgr11) wd6_173 wd6_175 wd0_89 wd1_8 wd6_176 yd_X6_errs rfl rfl (Nat.le_of_ble_eq_true rfl) hl.1 ⟨Nat.le_trans (Nat.le_of_ble_eq_true rfl) hR.1, Nat.le_trans (Nat.le_of_ble_eq_true rfl) hR.2.1⟩ ⟨Nat.le_trans (Nat.le_of_ble_eq_true rfl) hR.2.2.1, Nat.le_trans (Nat.le_of_ble_eq_true rfl) hR.2.2.2⟩ dX6_must_7) (fun H locs hw => ?_)
    exact n_10 M12 H locs ls (lv_sub hl [0] rfl) hw hF
theorem c_X6_must (l : Launch) (x : SX) (D : va_G) (cy : Nat → ClassId) (ad : Nat → Nat) (p1 : Int32) (sz : Nat) (M : Mem) (M' : Mem) (hF : f_X6_must p1 M = some M') : Met l yX6_must (.code yX6_must cX6_must 2 none :: GB) ({ frames := 3, cells := 0, slots := 0, locals := 63 } : Room) (PcW D cy ad x sz M [.ref (ad 9), .int p1]) (QvW D cy ad sz M') 0 0 (AA ad sz) := by
  refine mk_m (own := RX6) (by decide) rfl (Nat.le_of_ble_eq_true rfl) ?_
  intro p e s m args below meth c ls fx hw hl hsz
  subst hsz
  exact b_X6_must fx ⟨Nat.le_refl _, Nat.le_refl _, Nat.le_refl _, Nat.le_refl _⟩ p1 M M' hF (fun pc ls H locs M1 hd hw h => by cases h; exact g_vret fx hw hd) _ _ ls hl hw
noncomputable def f_X6_isEnd (M : Mem) : Option Int32 := (if (M 9 15) = 0 then (if (M 9 13) = 2 then (bnd (f_X6_look (M 9 11) M) (fun r2 => (if r2 = 59 then (some 1) else (some 0)))) else (some 0)) else (some 0))
set_option maxHeartbeats 4000000 in
set_option maxRecDepth 100000 in
theorem b_X6_isEnd {p : Program} {l : Launch} {e : Env} {R : Room} {s : State} {m : MethodId} {args : Array Value} {below : List Frame} {meth : Method} {c : Code} {Q : State → Prop} {D : va_G} {cy : Nat → ClassId} {ad : Nat → Nat} {x : SX} (fx : FX p s m args meth c cX6_isEnd 1 (some .boolean) RX6 D cy ad x) (hR : 1 ≤ R.frames ∧ 21 ≤ R.locals ∧ 0 ≤ R.cells ∧ 0 ≤ R.slots) (M : Mem) (z : Int32) (hF : f_X6_isEnd M = some z) (E : ∀ (pc : Nat) (ls : Array Slot) (H : Heap) (locs : List Loc) (v : Int32), decode cX6_isEnd pc = .ok (.ireturn, 1) → (v = 0 ∨ v = 1) → WD D cy ad s M H locs → some v = some z → W p l e R s m args below meth c H locs 0 0 Q (F0 m pc ls [.int v])) (H : Heap) (locs : List Loc) (ls : Array Slot) (hl : lv_has ls 1 [(0, .ref (ad 9))]) (hw : WD D cy ad s M H locs) : W p l e R s m args below meth c H locs 0 0 Q (F0 m 0 ls []) := by
  have hx := fx.1.1
  have hb := fx.1.2.1
  have hown := fx.1.2.2.2.1
  have hts := fx.1.2.2.2.2
  unfold f_X6_isEnd at hF
  refine lv_aload_n hx hb dX6_isEnd_0 rfl (lv_at hl 0 rfl) ?_
  refine gX6_get fx hw isO_9 15 (by decide) wd5_34 rfl dX6_isEnd_1 ?_
  refine lv_if_ne (tgt := 32) hx hb dX6_isEnd_4 (by decide) (fun hc4 => ?_) (fun hc4 => ?_)
  · replace hF := st_f hc4 hF
    refine lv_iconst (v := 0) hx hb dX6_isEnd_32 (by decide) ?_
    exact E _ _ _ _ _ dX6_isEnd_33 (Or.inl rfl) hw hF
  · replace hF := st_t hc4 hF
    refine lv_aload_n hx hb dX6_isEnd_7 rfl (lv_at hl 0 rfl) ?_
    refine gX6_get fx hw isO_9 13 (by decide) wd5_32 rfl dX6_isEnd_8 ?_
    refine lv_iconst (v := 2) hx hb dX6_isEnd_11 (by decide) ?_
    refine lv_icmp_ne (tgt := 32) hx hb dX6_isEnd_12 (by decide) (fun hc12 => ?_) (fun hc12 => ?_)
    · replace hF := st_f hc12 hF
      refine lv_iconst (v := 0) hx hb dX6_isEnd_32 (by decide) ?_
      exact E _ _ _ _ _ dX6_isEnd_33 (Or.inl rfl) hw hF
    · replace hF := st_t hc12 hF
      refine lv_aload_n hx hb dX6_isEnd_15 rfl (lv_at hl 0 rfl) ?_
      refine lv_aload_n hx hb dX6_isEnd_16 rfl (lv_at hl 0 rfl) ?_
      refine gX6_get fx hw isO_9 11 (by decide) wd5_30 rfl dX6_isEnd_17 ?_
      obtain ⟨r2, hgr2, hF⟩ := st_bnd hF
      refine g_ci hw (g_runV (C := RX6) (As := [.int (M 9 11)]) (rest := []) fx hw isO_9 rfl (c_X6_look l x D cy ad (M 9 11) H.size M r2 hgr2) wd6_146 wd6_148 wd0_83 wd1_8 wd6_149 yd_X6_look rfl rfl (Nat.le_of_ble_eq_true rfl) hl.1 ⟨Nat.le_trans (Nat.le_of_ble_eq_true rfl) hR.1, Nat.le_trans (Nat.le_of_ble_eq_true rfl) hR.2.1⟩ ⟨Nat.le_trans (Nat.le_of_ble_eq_true rfl) hR.2.2.1, Nat.le_trans (Nat.le_of_ble_eq_true rfl) hR.2.2.2⟩ dX6_isEnd_20) (fun H locs hw => ?_)
      refine lv_bipush (v := 59) hx hb dX6_isEnd_23 (by decide) ?_
      refine lv_icmp_ne (tgt := 32) hx hb dX6_isEnd_25 (by decide) (fun hc25 => ?_) (fun hc25 => ?_)
      · replace hF := st_f hc25 hF
        refine lv_iconst (v := 0) hx hb dX6_isEnd_32 (by decide) ?_
        exact E _ _ _ _ _ dX6_isEnd_33 (Or.inl rfl) hw hF
      · replace hF := st_t hc25 hF
        refine lv_iconst (v := 1) hx hb dX6_isEnd_28 (by decide) ?_
        refine lv_goto (tgt := 33) hx hb dX6_isEnd_29 (by decide) ?_
        exact E _ _ _ _ _ dX6_isEnd_33 (Or.inr rfl) hw hF
theorem c_X6_isEnd (l : Launch) (x : SX) (D : va_G) (cy : Nat → ClassId) (ad : Nat → Nat) (sz : Nat) (M : Mem) (z : Int32) (hF : f_X6_isEnd M = some z) : Met l yX6_isEnd (.code yX6_isEnd cX6_isEnd 1 (some .boolean) :: GB) ({ frames := 1, cells := 0, slots := 0, locals := 21 } : Room) (PcW D cy ad x sz M [.ref (ad 9)]) (QzW D cy ad sz z M) 0 0 (AA ad sz) := by
  refine mk_m (own := RX6) (by decide) rfl (Nat.le_of_ble_eq_true rfl) ?_
  intro p e s m args below meth c ls fx hw hl hsz
  subst hsz
  exact b_X6_isEnd fx ⟨Nat.le_refl _, Nat.le_refl _, Nat.le_refl _, Nat.le_refl _⟩ M z hF (fun pc ls H locs v hd hb hw h => by cases h; exact g_zret fx hw rfl hb hd) _ _ ls hl hw
noncomputable def f_X6_takes_46 : Mem → Option (Int32 × Mem) := fun M => (bnd (f_X6_must 1 M) (fun M14 => (some ((M 9 14), M14))))
noncomputable def f_X6_takes_21 : Int32 → Int32 → Mem → Option (Int32 × Mem) := fun a1 a2 M => (if (M 9 15) = 0 then (bnd (f_X6_isIn (M 9 14) a1 a2 M) (fun r15 => (if r15 = 0 then (bnd (f_X6_errs (-3) M) (fun M17 => ((f_X6_takes_46) M17))) else ((f_X6_takes_46) M)))) else ((f_X6_takes_46) M))
noncomputable def f_X6_takes (p1 p2 : Int32) (M : Mem) : Option (Int32 × Mem) := (if (M 9 15) = 0 then (if (M 9 13) = 1 then ((f_X6_takes_21) p1 p2 M) else (bnd (f_X6_errs (-2) M) (fun M19 => ((f_X6_takes_21) p1 p2 M19)))) else ((f_X6_takes_21) p1 p2 M))
set_option maxHeartbeats 4000000 in
set_option maxRecDepth 100000 in
theorem b_X6_takes {p : Program} {l : Launch} {e : Env} {R : Room} {s : State} {m : MethodId} {args : Array Value} {below : List Frame} {meth : Method} {c : Code} {Q : State → Prop} {D : va_G} {cy : Nat → ClassId} {ad : Nat → Nat} {x : SX} (fx : FX p s m args meth c cX6_takes 4 (some .int) RX6 D cy ad x) (hR : 4 ≤ R.frames ∧ 84 ≤ R.locals ∧ 0 ≤ R.cells ∧ 0 ≤ R.slots) (p1 p2 : Int32) (M : Mem) (z : Int32) (M' : Mem) (hF : f_X6_takes p1 p2 M = some (z, M')) (E : ∀ (pc : Nat) (ls : Array Slot) (H : Heap) (locs : List Loc) (v : Int32) (M1 : Mem), decode cX6_takes pc = .ok (.ireturn, 1) → WD D cy ad s M1 H locs → some (v, M1) = some (z, M') → W p l e R s m args below meth c H locs 0 0 Q (F0 m pc ls [.int v])) (H : Heap) (locs : List Loc) (ls : Array Slot) (hl : lv_has ls 4 [(0, .ref (ad 9)), (1, .int p1), (2, .int p2)]) (hw : WD D cy ad s M H locs) : W p l e R s m args below meth c H locs 0 0 Q (F0 m 0 ls []) := by
  have hx := fx.1.1
  have hb := fx.1.2.1
  have hown := fx.1.2.2.2.1
  have hts := fx.1.2.2.2.2
  have n_46 : ∀ (M : Mem) (H : Heap) (locs : List Loc) (ls : Array Slot), lv_has ls 4 [(0, .ref (ad 9))] → WD D cy ad s M H locs → f_X6_takes_46 M = some (z, M') → W p l e R s m args below meth c H locs 0 0 Q (F0 m 46 ls []) := by
    intro M H locs ls hl hw hF
    unfold f_X6_takes_46 at hF
    refine lv_aload_n hx hb dX6_takes_46 rfl (lv_at hl 0 rfl) ?_
    refine gX6_get fx hw isO_9 14 (by decide) wd5_33 rfl dX6_takes_47 ?_
    refine lv_istore_n (lv' := [(3, .int (M 9 14)), (0, .ref (ad 9))]) hx hb dX6_takes_50 rfl hl (by decide) rfl (fun ls hl => ?_)
    refine lv_aload_n hx hb dX6_takes_51 rfl (lv_at hl 1 rfl) ?_
    refine lv_iconst (v := 1) hx hb dX6_takes_52 (by decide) ?_
    obtain ⟨M14, hgr13, hF⟩ := st_bnd hF
    refine g_cv hw (g_runV (C := RX6) (As := [.int 1]) (rest := []) fx hw isO_9 rfl (c_X6_must l x D cy ad 1 H.size M M14 hgr13) wd6_169 wd6_171 wd0_88 wd1_8 wd6_172 yd_X6_must rfl rfl (Nat.le_of_ble_eq_true rfl) hl.1 ⟨Nat.le_trans (Nat.le_of_ble_eq_true rfl) hR.1, Nat.le_trans (Nat.le_of_ble_eq_true rfl) hR.2.1⟩ ⟨Nat.le_trans (Nat.le_of_ble_eq_true rfl) hR.2.2.1, Nat.le_trans (Nat.le_of_ble_eq_true rfl) hR.2.2.2⟩ dX6_takes_53) (fun H locs hw => ?_)
    refine lv_iload_n hx hb dX6_takes_56 rfl (lv_at hl 0 rfl) ?_
    exact E _ _ _ _ _ _ dX6_takes_57 hw hF
  have n_21 : ∀ (a1 : Int32) (a2 : Int32) (M : Mem) (H : Heap) (locs : List Loc) (ls : Array Slot), lv_has ls 4 [(0, .ref (ad 9)), (1, .int a1), (2, .int a2)] → WD D cy ad s M H locs → f_X6_takes_21 a1 a2 M = some (z, M') → W p l e R s m args below meth c H locs 0 0 Q (F0 m 21 ls []) := by
    intro a1 a2 M H locs ls hl hw hF
    unfold f_X6_takes_21 at hF
    refine lv_aload_n hx hb dX6_takes_21 rfl (lv_at hl 0 rfl) ?_
    refine gX6_get fx hw isO_9 15 (by decide) wd5_34 rfl dX6_takes_22 ?_
    refine lv_if_ne (tgt := 46) hx hb dX6_takes_25 (by decide) (fun hc25 => ?_) (fun hc25 => ?_)
    · replace hF := st_f hc25 hF
      exact n_46 M H locs ls (lv_sub hl [0] rfl) hw hF
    · replace hF := st_t hc25 hF
      refine lv_aload_n hx hb dX6_takes_28 rfl (lv_at hl 0 rfl) ?_
      refine gX6_get fx hw isO_9 14 (by decide) wd5_33 rfl dX6_takes_29 ?_
      refine lv_iload_n hx hb dX6_takes_32 rfl (lv_at hl 1 rfl) ?_
      refine lv_iload_n hx hb dX6_takes_33 rfl (lv_at hl 2 rfl) ?_
      obtain ⟨r15, hgr15, hF⟩ := st_bnd hF
      refine g_cz hw (g_runS (As := [.int (M 9 14), .int a1, .int a2]) (rest := []) fx hw (c_X6_isIn l x D cy ad (M 9 14) a1 a2 H.size M r15 hgr15) wd5_92 wd5_93 wd1_8 wd5_94 yd_X6_isIn rfl rfl (Nat.le_of_ble_eq_true rfl) hl.1 ⟨Nat.le_trans (Nat.le_of_ble_eq_true rfl) hR.1, Nat.le_trans (Nat.le_of_ble_eq_true rfl) hR.2.1⟩ ⟨Nat.le_trans (Nat.le_of_ble_eq_true rfl) hR.2.2.1, Nat.le_trans (Nat.le_of_ble_eq_true rfl) hR.2.2.2⟩ dX6_takes_34) (fun H locs hbr15 hw => ?_)
      refine lv_if_ne (tgt := 46) hx hb dX6_takes_37 (by decide) (fun hc37 => ?_) (fun hc37 => ?_)
      · replace hF := st_f hc37 hF
        exact n_46 M H locs ls (lv_sub hl [0] rfl) hw hF
      · replace hF := st_t hc37 hF
        refine lv_aload_n hx hb dX6_takes_40 rfl (lv_at hl 0 rfl) ?_
        refine lv_bipush (v := (-3)) hx hb dX6_takes_41 (by decide) ?_
        obtain ⟨M17, hgr16, hF⟩ := st_bnd hF
        refine g_cv hw (g_runV (C := RX6) (As := [.int (-3)]) (rest := []) fx hw isO_9 rfl (c_X6_errs l x D cy ad (-3) H.size M M17 hgr16) wd6_173 wd6_175 wd0_89 wd1_8 wd6_176 yd_X6_errs rfl rfl (Nat.le_of_ble_eq_true rfl) hl.1 ⟨Nat.le_trans (Nat.le_of_ble_eq_true rfl) hR.1, Nat.le_trans (Nat.le_of_ble_eq_true rfl) hR.2.1⟩ ⟨Nat.le_trans (Nat.le_of_ble_eq_true rfl) hR.2.2.1, Nat.le_trans (Nat.le_of_ble_eq_true rfl) hR.2.2.2⟩ dX6_takes_43) (fun H locs hw => ?_)
        exact n_46 M17 H locs ls (lv_sub hl [0] rfl) hw hF
  unfold f_X6_takes at hF
  refine lv_aload_n hx hb dX6_takes_0 rfl (lv_at hl 0 rfl) ?_
  refine gX6_get fx hw isO_9 15 (by decide) wd5_34 rfl dX6_takes_1 ?_
  refine lv_if_ne (tgt := 21) hx hb dX6_takes_4 (by decide) (fun hc4 => ?_) (fun hc4 => ?_)
  · replace hF := st_f hc4 hF
    exact n_21 p1 p2 M H locs ls (lv_sub hl [0, 1, 2] rfl) hw hF
  · replace hF := st_t hc4 hF
    refine lv_aload_n hx hb dX6_takes_7 rfl (lv_at hl 0 rfl) ?_
    refine gX6_get fx hw isO_9 13 (by decide) wd5_32 rfl dX6_takes_8 ?_
    refine lv_iconst (v := 1) hx hb dX6_takes_11 (by decide) ?_
    refine lv_icmp_eq (tgt := 21) hx hb dX6_takes_12 (by decide) (fun hc12 => ?_) (fun hc12 => ?_)
    · replace hF := st_t hc12 hF
      exact n_21 p1 p2 M H locs ls (lv_sub hl [0, 1, 2] rfl) hw hF
    · replace hF := st_f hc12 hF
      refine lv_aload_n hx hb dX6_takes_15 rfl (lv_at hl 0 rfl) ?_
      refine lv_bipush (v := (-2)) hx hb dX6_takes_16 (by decide) ?_
      obtain ⟨M19, hgr18, hF⟩ := st_bnd hF
      refine g_cv hw (g_runV (C := RX6) (As := [.int (-2)]) (rest := []) fx hw isO_9 rfl (c_X6_errs l x D cy ad (-2) H.size M M19 hgr18) wd6_173 wd6_175 wd0_89 wd1_8 wd6_176 yd_X6_errs rfl rfl (Nat.le_of_ble_eq_true rfl) hl.1 ⟨Nat.le_trans (Nat.le_of_ble_eq_true rfl) hR.1, Nat.le_trans (Nat.le_of_ble_eq_true rfl) hR.2.1⟩ ⟨Nat.le_trans (Nat.le_of_ble_eq_true rfl) hR.2.2.1, Nat.le_trans (Nat.le_of_ble_eq_true rfl) hR.2.2.2⟩ dX6_takes_18) (fun H locs hw => ?_)
      exact n_21 p1 p2 M19 H locs ls (lv_sub hl [0, 1, 2] rfl) hw hF
theorem c_X6_takes (l : Launch) (x : SX) (D : va_G) (cy : Nat → ClassId) (ad : Nat → Nat) (p1 p2 : Int32) (sz : Nat) (M : Mem) (z : Int32) (M' : Mem) (hF : f_X6_takes p1 p2 M = some (z, M')) : Met l yX6_takes (.code yX6_takes cX6_takes 4 (some .int) :: GB) ({ frames := 4, cells := 0, slots := 0, locals := 84 } : Room) (PcW D cy ad x sz M [.ref (ad 9), .int p1, .int p2]) (QiW D cy ad sz z M') 0 0 (AA ad sz) := by
  refine mk_m (own := RX6) (by decide) rfl (Nat.le_of_ble_eq_true rfl) ?_
  intro p e s m args below meth c ls fx hw hl hsz
  subst hsz
  exact b_X6_takes fx ⟨Nat.le_refl _, Nat.le_refl _, Nat.le_refl _, Nat.le_refl _⟩ p1 p2 M z M' hF (fun pc ls H locs v M1 hd hw h => by cases h; exact g_iret fx hw rfl hd) _ _ ls hl hw
noncomputable def f_X6_nameHere_41 (rec41 : Int32 → Int32 → Mem → Option (Int32 × Mem)) : Int32 → Int32 → Mem → Option (Int32 × Mem) := fun a1 a2 M => (if (M 9 12) ≤ a2 then (some (a1, M)) else (if (M 9 15) = 0 then (chk (inB a2 800) (rec41 ((27 * a1) + (((M 16 (ix a2)) - 97) + 1)) (a2 + 1) M)) else (some (a1, M))))
noncomputable def f_X6_nameHere_34 : Mem → Option (Int32 × Mem) := fun M => ((lp (fun _ _ _ => none) (f_X6_nameHere_41) FU) 0 (M 9 11) M)
noncomputable def f_X6_nameHere_28 : Mem → Option (Int32 × Mem) := fun M => (bnd (f_X6_errs (-2) M) (fun M8 => ((f_X6_nameHere_34) M8)))
noncomputable def f_X6_nameHere (M : Mem) : Option (Int32 × Mem) := (if (M 9 15) = 0 then (if (M 9 13) = 0 then (if ((M 9 12) - (M 9 11)) ≤ 6 then ((f_X6_nameHere_34) M) else ((f_X6_nameHere_28) M)) else ((f_X6_nameHere_28) M)) else ((f_X6_nameHere_34) M))
set_option maxHeartbeats 4000000 in
set_option maxRecDepth 100000 in
theorem b_X6_nameHere {p : Program} {l : Launch} {e : Env} {R : Room} {s : State} {m : MethodId} {args : Array Value} {below : List Frame} {meth : Method} {c : Code} {Q : State → Prop} {D : va_G} {cy : Nat → ClassId} {ad : Nat → Nat} {x : SX} (fx : FX p s m args meth c cX6_nameHere 3 (some .int) RX6 D cy ad x) (hR : 1 ≤ R.frames ∧ 21 ≤ R.locals ∧ 0 ≤ R.cells ∧ 0 ≤ R.slots) (M : Mem) (z : Int32) (M' : Mem) (hF : f_X6_nameHere M = some (z, M')) (E : ∀ (pc : Nat) (ls : Array Slot) (H : Heap) (locs : List Loc) (v : Int32) (M1 : Mem), decode cX6_nameHere pc = .ok (.ireturn, 1) → WD D cy ad s M1 H locs → some (v, M1) = some (z, M') → W p l e R s m args below meth c H locs 0 0 Q (F0 m pc ls [.int v])) (H : Heap) (locs : List Loc) (ls : Array Slot) (hl : lv_has ls 3 [(0, .ref (ad 9))]) (hw : WD D cy ad s M H locs) : W p l e R s m args below meth c H locs 0 0 Q (F0 m 0 ls []) := by
  have hx := fx.1.1
  have hb := fx.1.2.1
  have hown := fx.1.2.2.2.1
  have hts := fx.1.2.2.2.2
  have n_41 : ∀ (n9 : Nat), ∀ (a1 : Int32) (a2 : Int32) (M : Mem) (H : Heap) (locs : List Loc) (ls : Array Slot), lv_has ls 3 [(0, .ref (ad 9)), (1, .int a1), (2, .int a2)] → WD D cy ad s M H locs → (lp (fun _ _ _ => none) (f_X6_nameHere_41) n9) a1 a2 M = some (z, M') → W p l e R s m args below meth c H locs 0 0 Q (F0 m 41 ls []) := by
    intro n9
    refine lp_ind (fun (rec41 : Int32 → Int32 → Mem → Option (Int32 × Mem)) => ∀ (a1 : Int32) (a2 : Int32) (M : Mem) (H : Heap) (locs : List Loc) (ls : Array Slot), lv_has ls 3 [(0, .ref (ad 9)), (1, .int a1), (2, .int a2)] → WD D cy ad s M H locs → rec41 a1 a2 M = some (z, M') → W p l e R s m args below meth c H locs 0 0 Q (F0 m 41 ls [])) ?_ ?_ n9
    · intro a1 a2 M H locs ls hl hw hF
      exact nomatch hF
    · intro rec41 hr41 a1 a2 M H locs ls hl hw hF
      unfold f_X6_nameHere_41 at hF
      refine lv_iload_n hx hb dX6_nameHere_41 rfl (lv_at hl 2 rfl) ?_
      refine lv_aload_n hx hb dX6_nameHere_42 rfl (lv_at hl 0 rfl) ?_
      refine gX6_get fx hw isO_9 12 (by decide) wd5_31 rfl dX6_nameHere_43 ?_
      refine lv_icmp_ge (tgt := 79) hx hb dX6_nameHere_46 (by decide) (fun hc46 => ?_) (fun hc46 => ?_)
      · replace hF := st_t hc46 hF
        refine lv_iload_n hx hb dX6_nameHere_79 rfl (lv_at hl 1 rfl) ?_
        exact E _ _ _ _ _ _ dX6_nameHere_80 hw hF
      · replace hF := st_f hc46 hF
        refine lv_aload_n hx hb dX6_nameHere_49 rfl (lv_at hl 0 rfl) ?_
        refine gX6_get fx hw isO_9 15 (by decide) wd5_34 rfl dX6_nameHere_50 ?_
        refine lv_if_ne (tgt := 79) hx hb dX6_nameHere_53 (by decide) (fun hc53 => ?_) (fun hc53 => ?_)
        · replace hF := st_f hc53 hF
          refine lv_iload_n hx hb dX6_nameHere_79 rfl (lv_at hl 1 rfl) ?_
          exact E _ _ _ _ _ _ dX6_nameHere_80 hw hF
        · replace hF := st_t hc53 hF
          refine lv_bipush (v := 27) hx hb dX6_nameHere_56 (by decide) ?_
          refine lv_iload_n hx hb dX6_nameHere_58 rfl (lv_at hl 1 rfl) ?_
          refine lv_imul hx hb dX6_nameHere_59 ?_
          refine lv_aload_n hx hb dX6_nameHere_60 rfl (lv_at hl 0 rfl) ?_
          refine gX6_get fx hw isO_9 9 (by decide) wd5_28 rfl dX6_nameHere_61 ?_
          refine lv_iload_n hx hb dX6_nameHere_64 rfl (lv_at hl 2 rfl) ?_
          obtain ⟨hi6, hF⟩ := st_chk hF
          refine g_iald fx hw isA_16 hi6 dX6_nameHere_65 ?_
          refine lv_bipush (v := 97) hx hb dX6_nameHere_66 (by decide) ?_
          refine lv_isub hx hb dX6_nameHere_68 ?_
          refine lv_iconst (v := 1) hx hb dX6_nameHere_69 (by decide) ?_
          refine lv_iadd hx hb dX6_nameHere_70 ?_
          refine lv_iadd hx hb dX6_nameHere_71 ?_
          refine lv_istore_n (lv' := [(1, .int ((27 * a1) + (((M 16 (ix a2)) - 97) + 1))), (0, .ref (ad 9)), (2, .int a2)]) hx hb dX6_nameHere_72 rfl hl (by decide) rfl (fun ls hl => ?_)
          refine lv_iinc (v := (a2 + 1)) (lv' := [(2, .int (a2 + 1)), (1, .int ((27 * a1) + (((M 16 (ix a2)) - 97) + 1))), (0, .ref (ad 9))]) hx hb dX6_nameHere_73 hl (k := 2) rfl rfl (by decide) rfl (fun ls hl => ?_)
          refine lv_goto (tgt := 41) hx hb dX6_nameHere_76 (by decide) ?_
          exact hr41 ((27 * a1) + (((M 16 (ix a2)) - 97) + 1)) (a2 + 1) M H locs ls (lv_sub hl [2, 1, 0] rfl) hw hF
  have n_34 : ∀ (M : Mem) (H : Heap) (locs : List Loc) (ls : Array Slot), lv_has ls 3 [(0, .ref (ad 9))] → WD D cy ad s M H locs → f_X6_nameHere_34 M = some (z, M') → W p l e R s m args below meth c H locs 0 0 Q (F0 m 34 ls []) := by
    intro M H locs ls hl hw hF
    unfold f_X6_nameHere_34 at hF
    refine lv_iconst (v := 0) hx hb dX6_nameHere_34 (by decide) ?_
    refine lv_istore_n (lv' := [(1, .int 0), (0, .ref (ad 9))]) hx hb dX6_nameHere_35 rfl hl (by decide) rfl (fun ls hl => ?_)
    refine lv_aload_n hx hb dX6_nameHere_36 rfl (lv_at hl 1 rfl) ?_
    refine gX6_get fx hw isO_9 11 (by decide) wd5_30 rfl dX6_nameHere_37 ?_
    refine lv_istore_n (lv' := [(2, .int (M 9 11)), (1, .int 0), (0, .ref (ad 9))]) hx hb dX6_nameHere_40 rfl hl (by decide) rfl (fun ls hl => ?_)
    exact n_41 FU 0 (M 9 11) M H locs ls (lv_sub hl [2, 1, 0] rfl) hw hF
  have n_28 : ∀ (M : Mem) (H : Heap) (locs : List Loc) (ls : Array Slot), lv_has ls 3 [(0, .ref (ad 9))] → WD D cy ad s M H locs → f_X6_nameHere_28 M = some (z, M') → W p l e R s m args below meth c H locs 0 0 Q (F0 m 28 ls []) := by
    intro M H locs ls hl hw hF
    unfold f_X6_nameHere_28 at hF
    refine lv_aload_n hx hb dX6_nameHere_28 rfl (lv_at hl 0 rfl) ?_
    refine lv_bipush (v := (-2)) hx hb dX6_nameHere_29 (by decide) ?_
    obtain ⟨M8, hgr7, hF⟩ := st_bnd hF
    refine g_cv hw (g_runV (C := RX6) (As := [.int (-2)]) (rest := []) fx hw isO_9 rfl (c_X6_errs l x D cy ad (-2) H.size M M8 hgr7) wd6_173 wd6_175 wd0_89 wd1_8 wd6_176 yd_X6_errs rfl rfl (Nat.le_of_ble_eq_true rfl) hl.1 ⟨Nat.le_trans (Nat.le_of_ble_eq_true rfl) hR.1, Nat.le_trans (Nat.le_of_ble_eq_true rfl) hR.2.1⟩ ⟨Nat.le_trans (Nat.le_of_ble_eq_true rfl) hR.2.2.1, Nat.le_trans (Nat.le_of_ble_eq_true rfl) hR.2.2.2⟩ dX6_nameHere_31) (fun H locs hw => ?_)
    exact n_34 M8 H locs ls (lv_sub hl [0] rfl) hw hF
  unfold f_X6_nameHere at hF
  refine lv_aload_n hx hb dX6_nameHere_0 rfl (lv_at hl 0 rfl) ?_
  refine gX6_get fx hw isO_9 15 (by decide) wd5_34 rfl dX6_nameHere_1 ?_
  refine lv_if_ne (tgt := 34) hx hb dX6_nameHere_4 (by decide) (fun hc4 => ?_) (fun hc4 => ?_)
  · replace hF := st_f hc4 hF
    exact n_34 M H locs ls (lv_sub hl [0] rfl) hw hF
  · replace hF := st_t hc4 hF
    refine lv_aload_n hx hb dX6_nameHere_7 rfl (lv_at hl 0 rfl) ?_
    refine gX6_get fx hw isO_9 13 (by decide) wd5_32 rfl dX6_nameHere_8 ?_
    refine lv_if_ne (tgt := 28) hx hb dX6_nameHere_11 (by decide) (fun hc11 => ?_) (fun hc11 => ?_)
    · replace hF := st_f hc11 hF
      exact n_28 M H locs ls (lv_sub hl [0] rfl) hw hF
    · replace hF := st_t hc11 hF
      refine lv_aload_n hx hb dX6_nameHere_14 rfl (lv_at hl 0 rfl) ?_
      refine gX6_get fx hw isO_9 12 (by decide) wd5_31 rfl dX6_nameHere_15 ?_
      refine lv_aload_n hx hb dX6_nameHere_18 rfl (lv_at hl 0 rfl) ?_
      refine gX6_get fx hw isO_9 11 (by decide) wd5_30 rfl dX6_nameHere_19 ?_
      refine lv_isub hx hb dX6_nameHere_22 ?_
      refine lv_bipush (v := 6) hx hb dX6_nameHere_23 (by decide) ?_
      refine lv_icmp_le (tgt := 34) hx hb dX6_nameHere_25 (by decide) (fun hc25 => ?_) (fun hc25 => ?_)
      · replace hF := st_t hc25 hF
        exact n_34 M H locs ls (lv_sub hl [0] rfl) hw hF
      · replace hF := st_f hc25 hF
        exact n_28 M H locs ls (lv_sub hl [0] rfl) hw hF
theorem c_X6_nameHere (l : Launch) (x : SX) (D : va_G) (cy : Nat → ClassId) (ad : Nat → Nat) (sz : Nat) (M : Mem) (z : Int32) (M' : Mem) (hF : f_X6_nameHere M = some (z, M')) : Met l yX6_nameHere (.code yX6_nameHere cX6_nameHere 3 (some .int) :: GB) ({ frames := 1, cells := 0, slots := 0, locals := 21 } : Room) (PcW D cy ad x sz M [.ref (ad 9)]) (QiW D cy ad sz z M') 0 0 (AA ad sz) := by
  refine mk_m (own := RX6) (by decide) rfl (Nat.le_of_ble_eq_true rfl) ?_
  intro p e s m args below meth c ls fx hw hl hsz
  subst hsz
  exact b_X6_nameHere fx ⟨Nat.le_refl _, Nat.le_refl _, Nat.le_refl _, Nat.le_refl _⟩ M z M' hF (fun pc ls H locs v M1 hd hw h => by cases h; exact g_iret fx hw rfl hd) _ _ ls hl hw
noncomputable def f_X6_needNamed_2 (M : Mem) (rec2 : Int32 → Int32 → Option Int32) : Int32 → Int32 → Option Int32 := fun a1 a2 => (if (M 10 1) ≤ a2 then (some (-1)) else (chk (inB (44 + (2 * a2)) 156) (if (M 10 (ix (44 + (2 * a2)))) = a1 then (some a2) else (rec2 a1 (a2 + 1)))))
noncomputable def f_X6_needNamed (p1 : Int32) (M : Mem) : Option Int32 := ((lp (fun _ _ => none) (f_X6_needNamed_2 M) FU) p1 0)
set_option maxHeartbeats 4000000 in
set_option maxRecDepth 100000 in
theorem b_X6_needNamed {p : Program} {l : Launch} {e : Env} {R : Room} {s : State} {m : MethodId} {args : Array Value} {below : List Frame} {meth : Method} {c : Code} {Q : State → Prop} {D : va_G} {cy : Nat → ClassId} {ad : Nat → Nat} {x : SX} (fx : FX p s m args meth c cX6_needNamed 3 (some .int) RX6 D cy ad x) (hR : 0 ≤ R.frames ∧ 0 ≤ R.locals ∧ 0 ≤ R.cells ∧ 0 ≤ R.slots) (p1 : Int32) (M : Mem) (z : Int32) (hF : f_X6_needNamed p1 M = some z) (E : ∀ (pc : Nat) (ls : Array Slot) (H : Heap) (locs : List Loc) (v : Int32), decode cX6_needNamed pc = .ok (.ireturn, 1) → WD D cy ad s M H locs → some v = some z → W p l e R s m args below meth c H locs 0 0 Q (F0 m pc ls [.int v])) (H : Heap) (locs : List Loc) (ls : Array Slot) (hl : lv_has ls 3 [(0, .ref (ad 9)), (1, .int p1)]) (hw : WD D cy ad s M H locs) : W p l e R s m args below meth c H locs 0 0 Q (F0 m 0 ls []) := by
  have hx := fx.1.1
  have hb := fx.1.2.1
  have hown := fx.1.2.2.2.1
  have hts := fx.1.2.2.2.2
  have n_2 : ∀ (n9 : Nat), ∀ (a1 : Int32) (a2 : Int32) (H : Heap) (locs : List Loc) (ls : Array Slot), lv_has ls 3 [(0, .ref (ad 9)), (1, .int a1), (2, .int a2)] → WD D cy ad s M H locs → (lp (fun _ _ => none) (f_X6_needNamed_2 M) n9) a1 a2 = some z → W p l e R s m args below meth c H locs 0 0 Q (F0 m 2 ls []) := by
    intro n9
    refine lp_ind (fun (rec2 : Int32 → Int32 → Option Int32) => ∀ (a1 : Int32) (a2 : Int32) (H : Heap) (locs : List Loc) (ls : Array Slot), lv_has ls 3 [(0, .ref (ad 9)), (1, .int a1), (2, .int a2)] → WD D cy ad s M H locs → rec2 a1 a2 = some z → W p l e R s m args below meth c H locs 0 0 Q (F0 m 2 ls [])) ?_ ?_ n9
    · intro a1 a2 H locs ls hl hw hF
      exact nomatch hF
    · intro rec2 hr2 a1 a2 H locs ls hl hw hF
      unfold f_X6_needNamed_2 at hF
      refine lv_iload_n hx hb dX6_needNamed_2 rfl (lv_at hl 2 rfl) ?_
      refine lv_aload_n hx hb dX6_needNamed_3 rfl (lv_at hl 0 rfl) ?_
      refine gX6_get fx hw isO_9 0 (by decide) wd5_19 rfl dX6_needNamed_4 ?_
      refine lv_iconst (v := 1) hx hb dX6_needNamed_7 (by decide) ?_
      refine g_ialdc fx hw isA_10 (k := 1) rfl (by decide) dX6_needNamed_8 ?_
      refine lv_icmp_ge (tgt := 35) hx hb dX6_needNamed_9 (by decide) (fun hc9 => ?_) (fun hc9 => ?_)
      · replace hF := st_t hc9 hF
        refine lv_iconst (v := (-1)) hx hb dX6_needNamed_35 (by decide) ?_
        exact E _ _ _ _ _ dX6_needNamed_36 hw hF
      · replace hF := st_f hc9 hF
        refine lv_aload_n hx hb dX6_needNamed_12 rfl (lv_at hl 0 rfl) ?_
        refine gX6_get fx hw isO_9 0 (by decide) wd5_19 rfl dX6_needNamed_13 ?_
        refine lv_bipush (v := 44) hx hb dX6_needNamed_16 (by decide) ?_
        refine lv_iconst (v := 2) hx hb dX6_needNamed_18 (by decide) ?_
        refine lv_iload_n hx hb dX6_needNamed_19 rfl (lv_at hl 2 rfl) ?_
        refine lv_imul hx hb dX6_needNamed_20 ?_
        refine lv_iadd hx hb dX6_needNamed_21 ?_
        obtain ⟨hi3, hF⟩ := st_chk hF
        refine g_iald fx hw isA_10 hi3 dX6_needNamed_22 ?_
        refine lv_iload_n hx hb dX6_needNamed_23 rfl (lv_at hl 1 rfl) ?_
        refine lv_icmp_ne (tgt := 29) hx hb dX6_needNamed_24 (by decide) (fun hc24 => ?_) (fun hc24 => ?_)
        · replace hF := st_f hc24 hF
          refine lv_iinc (v := (a2 + 1)) (lv' := [(2, .int (a2 + 1)), (0, .ref (ad 9)), (1, .int a1)]) hx hb dX6_needNamed_29 hl (k := 2) rfl rfl (by decide) rfl (fun ls hl => ?_)
          refine lv_goto (tgt := 2) hx hb dX6_needNamed_32 (by decide) ?_
          exact hr2 a1 (a2 + 1) H locs ls (lv_sub hl [1, 2, 0] rfl) hw hF
        · replace hF := st_t hc24 hF
          refine lv_iload_n hx hb dX6_needNamed_27 rfl (lv_at hl 2 rfl) ?_
          exact E _ _ _ _ _ dX6_needNamed_28 hw hF
  unfold f_X6_needNamed at hF
  refine lv_iconst (v := 0) hx hb dX6_needNamed_0 (by decide) ?_
  refine lv_istore_n (lv' := [(2, .int 0), (0, .ref (ad 9)), (1, .int p1)]) hx hb dX6_needNamed_1 rfl hl (by decide) rfl (fun ls hl => ?_)
  exact n_2 FU p1 0 H locs ls (lv_sub hl [1, 2, 0] rfl) hw hF
theorem c_X6_needNamed (l : Launch) (x : SX) (D : va_G) (cy : Nat → ClassId) (ad : Nat → Nat) (p1 : Int32) (sz : Nat) (M : Mem) (z : Int32) (hF : f_X6_needNamed p1 M = some z) : Met l yX6_needNamed (.code yX6_needNamed cX6_needNamed 3 (some .int) :: GB) ({ frames := 0, cells := 0, slots := 0, locals := 0 } : Room) (PcW D cy ad x sz M [.ref (ad 9), .int p1]) (QiW D cy ad sz z M) 0 0 (AA ad sz) := by
  refine mk_m (own := RX6) (by decide) rfl (Nat.le_of_ble_eq_true rfl) ?_
  intro p e s m args below meth c ls fx hw hl hsz
  subst hsz
  exact b_X6_needNamed fx ⟨Nat.le_refl _, Nat.le_refl _, Nat.le_refl _, Nat.le_refl _⟩ p1 M z hF (fun pc ls H locs v hd hw h => by cases h; exact g_iret fx hw rfl hd) _ _ ls hl hw
noncomputable def f_X6_monkNamed_2 (M : Mem) (rec2 : Int32 → Int32 → Option Int32) : Int32 → Int32 → Option Int32 := fun a1 a2 => (if (M 10 0) ≤ a2 then (some (-1)) else (bnd (f_X6_mo a2 0 M) (fun r5 => (chk (inB r5 156) (if (M 10 (ix r5)) = a1 then (some a2) else (rec2 a1 (a2 + 1)))))))
noncomputable def f_X6_monkNamed (p1 : Int32) (M : Mem) : Option Int32 := ((lp (fun _ _ => none) (f_X6_monkNamed_2 M) FU) p1 0)
set_option maxHeartbeats 4000000 in
set_option maxRecDepth 100000 in
theorem b_X6_monkNamed {p : Program} {l : Launch} {e : Env} {R : Room} {s : State} {m : MethodId} {args : Array Value} {below : List Frame} {meth : Method} {c : Code} {Q : State → Prop} {D : va_G} {cy : Nat → ClassId} {ad : Nat → Nat} {x : SX} (fx : FX p s m args meth c cX6_monkNamed 3 (some .int) RX6 D cy ad x) (hR : 1 ≤ R.frames ∧ 21 ≤ R.locals ∧ 0 ≤ R.cells ∧ 0 ≤ R.slots) (p1 : Int32) (M : Mem) (z : Int32) (hF : f_X6_monkNamed p1 M = some z) (E : ∀ (pc : Nat) (ls : Array Slot) (H : Heap) (locs : List Loc) (v : Int32), decode cX6_monkNamed pc = .ok (.ireturn, 1) → WD D cy ad s M H locs → some v = some z → W p l e R s m args below meth c H locs 0 0 Q (F0 m pc ls [.int v])) (H : Heap) (locs : List Loc) (ls : Array Slot) (hl : lv_has ls 3 [(0, .ref (ad 9)), (1, .int p1)]) (hw : WD D cy ad s M H locs) : W p l e R s m args below meth c H locs 0 0 Q (F0 m 0 ls []) := by
  have hx := fx.1.1
  have hb := fx.1.2.1
  have hown := fx.1.2.2.2.1
  have hts := fx.1.2.2.2.2
  have n_2 : ∀ (n9 : Nat), ∀ (a1 : Int32) (a2 : Int32) (H : Heap) (locs : List Loc) (ls : Array Slot), lv_has ls 3 [(0, .ref (ad 9)), (1, .int a1), (2, .int a2)] → WD D cy ad s M H locs → (lp (fun _ _ => none) (f_X6_monkNamed_2 M) n9) a1 a2 = some z → W p l e R s m args below meth c H locs 0 0 Q (F0 m 2 ls []) := by
    intro n9
    refine lp_ind (fun (rec2 : Int32 → Int32 → Option Int32) => ∀ (a1 : Int32) (a2 : Int32) (H : Heap) (locs : List Loc) (ls : Array Slot), lv_has ls 3 [(0, .ref (ad 9)), (1, .int a1), (2, .int a2)] → WD D cy ad s M H locs → rec2 a1 a2 = some z → W p l e R s m args below meth c H locs 0 0 Q (F0 m 2 ls [])) ?_ ?_ n9
    · intro a1 a2 H locs ls hl hw hF
      exact nomatch hF
    · intro rec2 hr2 a1 a2 H locs ls hl hw hF
      unfold f_X6_monkNamed_2 at hF
      refine lv_iload_n hx hb dX6_monkNamed_2 rfl (lv_at hl 2 rfl) ?_
      refine lv_aload_n hx hb dX6_monkNamed_3 rfl (lv_at hl 0 rfl) ?_
      refine gX6_get fx hw isO_9 0 (by decide) wd5_19 rfl dX6_monkNamed_4 ?_
      refine lv_iconst (v := 0) hx hb dX6_monkNamed_7 (by decide) ?_
      refine g_ialdc fx hw isA_10 (k := 0) rfl (by decide) dX6_monkNamed_8 ?_
      refine lv_icmp_ge (tgt := 34) hx hb dX6_monkNamed_9 (by decide) (fun hc9 => ?_) (fun hc9 => ?_)
      · replace hF := st_t hc9 hF
        refine lv_iconst (v := (-1)) hx hb dX6_monkNamed_34 (by decide) ?_
        exact E _ _ _ _ _ dX6_monkNamed_35 hw hF
      · replace hF := st_f hc9 hF
        refine lv_aload_n hx hb dX6_monkNamed_12 rfl (lv_at hl 0 rfl) ?_
        refine gX6_get fx hw isO_9 0 (by decide) wd5_19 rfl dX6_monkNamed_13 ?_
        refine lv_iload_n hx hb dX6_monkNamed_16 rfl (lv_at hl 2 rfl) ?_
        refine lv_iconst (v := 0) hx hb dX6_monkNamed_17 (by decide) ?_
        obtain ⟨r5, hgr5, hF⟩ := st_bnd hF
        refine g_ci hw (g_runS (As := [.int a2, .int 0]) (rest := [.ref (ad 10)]) fx hw (c_X6_mo l x D cy ad a2 0 H.size M r5 hgr5) wd5_16 wd5_17 wd1_8 wd5_18 yd_X6_mo rfl rfl (Nat.le_of_ble_eq_true rfl) hl.1 ⟨Nat.le_trans (Nat.le_of_ble_eq_true rfl) hR.1, Nat.le_trans (Nat.le_of_ble_eq_true rfl) hR.2.1⟩ ⟨Nat.le_trans (Nat.le_of_ble_eq_true rfl) hR.2.2.1, Nat.le_trans (Nat.le_of_ble_eq_true rfl) hR.2.2.2⟩ dX6_monkNamed_18) (fun H locs hw => ?_)
        obtain ⟨hi6, hF⟩ := st_chk hF
        refine g_iald fx hw isA_10 hi6 dX6_monkNamed_21 ?_
        refine lv_iload_n hx hb dX6_monkNamed_22 rfl (lv_at hl 1 rfl) ?_
        refine lv_icmp_ne (tgt := 28) hx hb dX6_monkNamed_23 (by decide) (fun hc23 => ?_) (fun hc23 => ?_)
        · replace hF := st_f hc23 hF
          refine lv_iinc (v := (a2 + 1)) (lv' := [(2, .int (a2 + 1)), (0, .ref (ad 9)), (1, .int a1)]) hx hb dX6_monkNamed_28 hl (k := 2) rfl rfl (by decide) rfl (fun ls hl => ?_)
          refine lv_goto (tgt := 2) hx hb dX6_monkNamed_31 (by decide) ?_
          exact hr2 a1 (a2 + 1) H locs ls (lv_sub hl [1, 2, 0] rfl) hw hF
        · replace hF := st_t hc23 hF
          refine lv_iload_n hx hb dX6_monkNamed_26 rfl (lv_at hl 2 rfl) ?_
          exact E _ _ _ _ _ dX6_monkNamed_27 hw hF
  unfold f_X6_monkNamed at hF
  refine lv_iconst (v := 0) hx hb dX6_monkNamed_0 (by decide) ?_
  refine lv_istore_n (lv' := [(2, .int 0), (0, .ref (ad 9)), (1, .int p1)]) hx hb dX6_monkNamed_1 rfl hl (by decide) rfl (fun ls hl => ?_)
  exact n_2 FU p1 0 H locs ls (lv_sub hl [1, 2, 0] rfl) hw hF
theorem c_X6_monkNamed (l : Launch) (x : SX) (D : va_G) (cy : Nat → ClassId) (ad : Nat → Nat) (p1 : Int32) (sz : Nat) (M : Mem) (z : Int32) (hF : f_X6_monkNamed p1 M = some z) : Met l yX6_monkNamed (.code yX6_monkNamed cX6_monkNamed 3 (some .int) :: GB) ({ frames := 1, cells := 0, slots := 0, locals := 21 } : Room) (PcW D cy ad x sz M [.ref (ad 9), .int p1]) (QiW D cy ad sz z M) 0 0 (AA ad sz) := by
  refine mk_m (own := RX6) (by decide) rfl (Nat.le_of_ble_eq_true rfl) ?_
  intro p e s m args below meth c ls fx hw hl hsz
  subst hsz
  exact b_X6_monkNamed fx ⟨Nat.le_refl _, Nat.le_refl _, Nat.le_refl _, Nat.le_refl _⟩ p1 M z hF (fun pc ls H locs v hd hw h => by cases h; exact g_iret fx hw rfl hd) _ _ ls hl hw
noncomputable def f_X6_needHere (M : Mem) : Option (Int32 × Mem) := (bnd2 (f_X6_nameHere M) (fun r6 M7 => (bnd (f_X6_needNamed r6 M7) (fun r8 => (if r8 = (-1) then (bnd (f_X6_errs (-4) M7) (fun M10 => (some (r8, M10)))) else (some (r8, M7)))))))
set_option maxHeartbeats 4000000 in
set_option maxRecDepth 100000 in
theorem b_X6_needHere {p : Program} {l : Launch} {e : Env} {R : Room} {s : State} {m : MethodId} {args : Array Value} {below : List Frame} {meth : Method} {c : Code} {Q : State → Prop} {D : va_G} {cy : Nat → ClassId} {ad : Nat → Nat} {x : SX} (fx : FX p s m args meth c cX6_needHere 2 (some .int) RX6 D cy ad x) (hR : 2 ≤ R.frames ∧ 43 ≤ R.locals ∧ 0 ≤ R.cells ∧ 0 ≤ R.slots) (M : Mem) (z : Int32) (M' : Mem) (hF : f_X6_needHere M = some (z, M')) (E : ∀ (pc : Nat) (ls : Array Slot) (H : Heap) (locs : List Loc) (v : Int32) (M1 : Mem), decode cX6_needHere pc = .ok (.ireturn, 1) → WD D cy ad s M1 H locs → some (v, M1) = some (z, M') → W p l e R s m args below meth c H locs 0 0 Q (F0 m pc ls [.int v])) (H : Heap) (locs : List Loc) (ls : Array Slot) (hl : lv_has ls 2 [(0, .ref (ad 9))]) (hw : WD D cy ad s M H locs) : W p l e R s m args below meth c H locs 0 0 Q (F0 m 0 ls []) := by
  have hx := fx.1.1
  have hb := fx.1.2.1
  have hown := fx.1.2.2.2.1
  have hts := fx.1.2.2.2.2
  unfold f_X6_needHere at hF
  refine lv_aload_n hx hb dX6_needHere_0 rfl (lv_at hl 0 rfl) ?_
  refine lv_aload_n hx hb dX6_needHere_1 rfl (lv_at hl 0 rfl) ?_
  obtain ⟨r6, M7, hgr6, hF⟩ := st_bnd2 hF
  refine g_ci hw (g_runV (C := RX6) (As := []) (rest := [.ref (ad 9)]) fx hw isO_9 rfl (c_X6_nameHere l x D cy ad H.size M r6 M7 hgr6) wd6_191 wd6_193 wd0_93 wd1_8 wd6_194 yd_X6_nameHere rfl rfl (Nat.le_of_ble_eq_true rfl) hl.1 ⟨Nat.le_trans (Nat.le_of_ble_eq_true rfl) hR.1, Nat.le_trans (Nat.le_of_ble_eq_true rfl) hR.2.1⟩ ⟨Nat.le_trans (Nat.le_of_ble_eq_true rfl) hR.2.2.1, Nat.le_trans (Nat.le_of_ble_eq_true rfl) hR.2.2.2⟩ dX6_needHere_2) (fun H locs hw => ?_)
  obtain ⟨r8, hgr8, hF⟩ := st_bnd hF
  refine g_ci hw (g_runV (C := RX6) (As := [.int r6]) (rest := []) fx hw isO_9 rfl (c_X6_needNamed l x D cy ad r6 H.size M7 r8 hgr8) wd6_195 wd6_197 wd0_94 wd1_8 wd6_198 yd_X6_needNamed rfl rfl (Nat.le_of_ble_eq_true rfl) hl.1 ⟨Nat.le_trans (Nat.le_of_ble_eq_true rfl) hR.1, Nat.le_trans (Nat.le_of_ble_eq_true rfl) hR.2.1⟩ ⟨Nat.le_trans (Nat.le_of_ble_eq_true rfl) hR.2.2.1, Nat.le_trans (Nat.le_of_ble_eq_true rfl) hR.2.2.2⟩ dX6_needHere_5) (fun H locs hw => ?_)
  refine lv_istore_n (lv' := [(1, .int r8), (0, .ref (ad 9))]) hx hb dX6_needHere_8 rfl hl (by decide) rfl (fun ls hl => ?_)
  refine lv_iload_n hx hb dX6_needHere_9 rfl (lv_at hl 0 rfl) ?_
  refine lv_iconst (v := (-1)) hx hb dX6_needHere_10 (by decide) ?_
  refine lv_icmp_ne (tgt := 20) hx hb dX6_needHere_11 (by decide) (fun hc11 => ?_) (fun hc11 => ?_)
  · replace hF := st_f hc11 hF
    refine lv_iload_n hx hb dX6_needHere_20 rfl (lv_at hl 0 rfl) ?_
    exact E _ _ _ _ _ _ dX6_needHere_21 hw hF
  · replace hF := st_t hc11 hF
    refine lv_aload_n hx hb dX6_needHere_14 rfl (lv_at hl 1 rfl) ?_
    refine lv_bipush (v := (-4)) hx hb dX6_needHere_15 (by decide) ?_
    obtain ⟨M10, hgr9, hF⟩ := st_bnd hF
    refine g_cv hw (g_runV (C := RX6) (As := [.int (-4)]) (rest := []) fx hw isO_9 rfl (c_X6_errs l x D cy ad (-4) H.size M7 M10 hgr9) wd6_173 wd6_175 wd0_89 wd1_8 wd6_176 yd_X6_errs rfl rfl (Nat.le_of_ble_eq_true rfl) hl.1 ⟨Nat.le_trans (Nat.le_of_ble_eq_true rfl) hR.1, Nat.le_trans (Nat.le_of_ble_eq_true rfl) hR.2.1⟩ ⟨Nat.le_trans (Nat.le_of_ble_eq_true rfl) hR.2.2.1, Nat.le_trans (Nat.le_of_ble_eq_true rfl) hR.2.2.2⟩ dX6_needHere_17) (fun H locs hw => ?_)
    refine lv_iload_n hx hb dX6_needHere_20 rfl (lv_at hl 0 rfl) ?_
    exact E _ _ _ _ _ _ dX6_needHere_21 hw hF
theorem c_X6_needHere (l : Launch) (x : SX) (D : va_G) (cy : Nat → ClassId) (ad : Nat → Nat) (sz : Nat) (M : Mem) (z : Int32) (M' : Mem) (hF : f_X6_needHere M = some (z, M')) : Met l yX6_needHere (.code yX6_needHere cX6_needHere 2 (some .int) :: GB) ({ frames := 2, cells := 0, slots := 0, locals := 43 } : Room) (PcW D cy ad x sz M [.ref (ad 9)]) (QiW D cy ad sz z M') 0 0 (AA ad sz) := by
  refine mk_m (own := RX6) (by decide) rfl (Nat.le_of_ble_eq_true rfl) ?_
  intro p e s m args below meth c ls fx hw hl hsz
  subst hsz
  exact b_X6_needHere fx ⟨Nat.le_refl _, Nat.le_refl _, Nat.le_refl _, Nat.le_refl _⟩ M z M' hF (fun pc ls H locs v M1 hd hw h => by cases h; exact g_iret fx hw rfl hd) _ _ ls hl hw
noncomputable def f_X6_takesMonk_38 : Int32 → Mem → Option (Int32 × Mem) := fun a2 M => (bnd (f_X6_must 1 M) (fun M18 => (some (a2, M18))))
noncomputable def f_X6_takesMonk_20 : Int32 → Int32 → Mem → Option (Int32 × Mem) := fun a1 a2 M => (if (M 9 15) = 0 then (if a2 = a1 then (bnd (f_X6_errs (-5) M) (fun M20 => ((f_X6_takesMonk_38) a2 M20))) else ((f_X6_takesMonk_38) a2 M)) else ((f_X6_takesMonk_38) a2 M))
noncomputable def f_X6_takesMonk (p1 : Int32) (M : Mem) : Option (Int32 × Mem) := (bnd2 (f_X6_nameHere M) (fun r21 M22 => (bnd (f_X6_monkNamed r21 M22) (fun r23 => (if r23 = (-1) then (bnd (f_X6_errs (-4) M22) (fun M25 => ((f_X6_takesMonk_20) p1 r23 M25))) else ((f_X6_takesMonk_20) p1 r23 M22))))))
set_option maxHeartbeats 4000000 in
set_option maxRecDepth 100000 in
theorem b_X6_takesMonk {p : Program} {l : Launch} {e : Env} {R : Room} {s : State} {m : MethodId} {args : Array Value} {below : List Frame} {meth : Method} {c : Code} {Q : State → Prop} {D : va_G} {cy : Nat → ClassId} {ad : Nat → Nat} {x : SX} (fx : FX p s m args meth c cX6_takesMonk 3 (some .int) RX6 D cy ad x) (hR : 4 ≤ R.frames ∧ 84 ≤ R.locals ∧ 0 ≤ R.cells ∧ 0 ≤ R.slots) (p1 : Int32) (M : Mem) (z : Int32) (M' : Mem) (hF : f_X6_takesMonk p1 M = some (z, M')) (E : ∀ (pc : Nat) (ls : Array Slot) (H : Heap) (locs : List Loc) (v : Int32) (M1 : Mem), decode cX6_takesMonk pc = .ok (.ireturn, 1) → WD D cy ad s M1 H locs → some (v, M1) = some (z, M') → W p l e R s m args below meth c H locs 0 0 Q (F0 m pc ls [.int v])) (H : Heap) (locs : List Loc) (ls : Array Slot) (hl : lv_has ls 3 [(0, .ref (ad 9)), (1, .int p1)]) (hw : WD D cy ad s M H locs) : W p l e R s m args below meth c H locs 0 0 Q (F0 m 0 ls []) := by
  have hx := fx.1.1
  have hb := fx.1.2.1
  have hown := fx.1.2.2.2.1
  have hts := fx.1.2.2.2.2
  have n_38 : ∀ (a2 : Int32) (M : Mem) (H : Heap) (locs : List Loc) (ls : Array Slot), lv_has ls 3 [(0, .ref (ad 9)), (2, .int a2)] → WD D cy ad s M H locs → f_X6_takesMonk_38 a2 M = some (z, M') → W p l e R s m args below meth c H locs 0 0 Q (F0 m 38 ls []) := by
    intro a2 M H locs ls hl hw hF
    unfold f_X6_takesMonk_38 at hF
    refine lv_aload_n hx hb dX6_takesMonk_38 rfl (lv_at hl 0 rfl) ?_
    refine lv_iconst (v := 1) hx hb dX6_takesMonk_39 (by decide) ?_
    obtain ⟨M18, hgr17, hF⟩ := st_bnd hF
    refine g_cv hw (g_runV (C := RX6) (As := [.int 1]) (rest := []) fx hw isO_9 rfl (c_X6_must l x D cy ad 1 H.size M M18 hgr17) wd6_169 wd6_171 wd0_88 wd1_8 wd6_172 yd_X6_must rfl rfl (Nat.le_of_ble_eq_true rfl) hl.1 ⟨Nat.le_trans (Nat.le_of_ble_eq_true rfl) hR.1, Nat.le_trans (Nat.le_of_ble_eq_true rfl) hR.2.1⟩ ⟨Nat.le_trans (Nat.le_of_ble_eq_true rfl) hR.2.2.1, Nat.le_trans (Nat.le_of_ble_eq_true rfl) hR.2.2.2⟩ dX6_takesMonk_40) (fun H locs hw => ?_)
    refine lv_iload_n hx hb dX6_takesMonk_43 rfl (lv_at hl 1 rfl) ?_
    exact E _ _ _ _ _ _ dX6_takesMonk_44 hw hF
  have n_20 : ∀ (a1 : Int32) (a2 : Int32) (M : Mem) (H : Heap) (locs : List Loc) (ls : Array Slot), lv_has ls 3 [(0, .ref (ad 9)), (1, .int a1), (2, .int a2)] → WD D cy ad s M H locs → f_X6_takesMonk_20 a1 a2 M = some (z, M') → W p l e R s m args below meth c H locs 0 0 Q (F0 m 20 ls []) := by
    intro a1 a2 M H locs ls hl hw hF
    unfold f_X6_takesMonk_20 at hF
    refine lv_aload_n hx hb dX6_takesMonk_20 rfl (lv_at hl 0 rfl) ?_
    refine gX6_get fx hw isO_9 15 (by decide) wd5_34 rfl dX6_takesMonk_21 ?_
    refine lv_if_ne (tgt := 38) hx hb dX6_takesMonk_24 (by decide) (fun hc24 => ?_) (fun hc24 => ?_)
    · replace hF := st_f hc24 hF
      exact n_38 a2 M H locs ls (lv_sub hl [0, 2] rfl) hw hF
    · replace hF := st_t hc24 hF
      refine lv_iload_n hx hb dX6_takesMonk_27 rfl (lv_at hl 2 rfl) ?_
      refine lv_iload_n hx hb dX6_takesMonk_28 rfl (lv_at hl 1 rfl) ?_
      refine lv_icmp_ne (tgt := 38) hx hb dX6_takesMonk_29 (by decide) (fun hc29 => ?_) (fun hc29 => ?_)
      · replace hF := st_f hc29 hF
        exact n_38 a2 M H locs ls (lv_sub hl [0, 2] rfl) hw hF
      · replace hF := st_t hc29 hF
        refine lv_aload_n hx hb dX6_takesMonk_32 rfl (lv_at hl 0 rfl) ?_
        refine lv_bipush (v := (-5)) hx hb dX6_takesMonk_33 (by decide) ?_
        obtain ⟨M20, hgr19, hF⟩ := st_bnd hF
        refine g_cv hw (g_runV (C := RX6) (As := [.int (-5)]) (rest := []) fx hw isO_9 rfl (c_X6_errs l x D cy ad (-5) H.size M M20 hgr19) wd6_173 wd6_175 wd0_89 wd1_8 wd6_176 yd_X6_errs rfl rfl (Nat.le_of_ble_eq_true rfl) hl.1 ⟨Nat.le_trans (Nat.le_of_ble_eq_true rfl) hR.1, Nat.le_trans (Nat.le_of_ble_eq_true rfl) hR.2.1⟩ ⟨Nat.le_trans (Nat.le_of_ble_eq_true rfl) hR.2.2.1, Nat.le_trans (Nat.le_of_ble_eq_true rfl) hR.2.2.2⟩ dX6_takesMonk_35) (fun H locs hw => ?_)
        exact n_38 a2 M20 H locs ls (lv_sub hl [0, 2] rfl) hw hF
  unfold f_X6_takesMonk at hF
  refine lv_aload_n hx hb dX6_takesMonk_0 rfl (lv_at hl 0 rfl) ?_
  refine lv_aload_n hx hb dX6_takesMonk_1 rfl (lv_at hl 0 rfl) ?_
  obtain ⟨r21, M22, hgr21, hF⟩ := st_bnd2 hF
  refine g_ci hw (g_runV (C := RX6) (As := []) (rest := [.ref (ad 9)]) fx hw isO_9 rfl (c_X6_nameHere l x D cy ad H.size M r21 M22 hgr21) wd6_191 wd6_193 wd0_93 wd1_8 wd6_194 yd_X6_nameHere rfl rfl (Nat.le_of_ble_eq_true rfl) hl.1 ⟨Nat.le_trans (Nat.le_of_ble_eq_true rfl) hR.1, Nat.le_trans (Nat.le_of_ble_eq_true rfl) hR.2.1⟩ ⟨Nat.le_trans (Nat.le_of_ble_eq_true rfl) hR.2.2.1, Nat.le_trans (Nat.le_of_ble_eq_true rfl) hR.2.2.2⟩ dX6_takesMonk_2) (fun H locs hw => ?_)
  obtain ⟨r23, hgr23, hF⟩ := st_bnd hF
  refine g_ci hw (g_runV (C := RX6) (As := [.int r21]) (rest := []) fx hw isO_9 rfl (c_X6_monkNamed l x D cy ad r21 H.size M22 r23 hgr23) wd6_210 wd6_212 wd0_97 wd1_8 wd6_213 yd_X6_monkNamed rfl rfl (Nat.le_of_ble_eq_true rfl) hl.1 ⟨Nat.le_trans (Nat.le_of_ble_eq_true rfl) hR.1, Nat.le_trans (Nat.le_of_ble_eq_true rfl) hR.2.1⟩ ⟨Nat.le_trans (Nat.le_of_ble_eq_true rfl) hR.2.2.1, Nat.le_trans (Nat.le_of_ble_eq_true rfl) hR.2.2.2⟩ dX6_takesMonk_5) (fun H locs hw => ?_)
  refine lv_istore_n (lv' := [(2, .int r23), (0, .ref (ad 9)), (1, .int p1)]) hx hb dX6_takesMonk_8 rfl hl (by decide) rfl (fun ls hl => ?_)
  refine lv_iload_n hx hb dX6_takesMonk_9 rfl (lv_at hl 0 rfl) ?_
  refine lv_iconst (v := (-1)) hx hb dX6_takesMonk_10 (by decide) ?_
  refine lv_icmp_ne (tgt := 20) hx hb dX6_takesMonk_11 (by decide) (fun hc11 => ?_) (fun hc11 => ?_)
  · replace hF := st_f hc11 hF
    exact n_20 p1 r23 M22 H locs ls (lv_sub hl [1, 2, 0] rfl) hw hF
  · replace hF := st_t hc11 hF
    refine lv_aload_n hx hb dX6_takesMonk_14 rfl (lv_at hl 1 rfl) ?_
    refine lv_bipush (v := (-4)) hx hb dX6_takesMonk_15 (by decide) ?_
    obtain ⟨M25, hgr24, hF⟩ := st_bnd hF
    refine g_cv hw (g_runV (C := RX6) (As := [.int (-4)]) (rest := []) fx hw isO_9 rfl (c_X6_errs l x D cy ad (-4) H.size M22 M25 hgr24) wd6_173 wd6_175 wd0_89 wd1_8 wd6_176 yd_X6_errs rfl rfl (Nat.le_of_ble_eq_true rfl) hl.1 ⟨Nat.le_trans (Nat.le_of_ble_eq_true rfl) hR.1, Nat.le_trans (Nat.le_of_ble_eq_true rfl) hR.2.1⟩ ⟨Nat.le_trans (Nat.le_of_ble_eq_true rfl) hR.2.2.1, Nat.le_trans (Nat.le_of_ble_eq_true rfl) hR.2.2.2⟩ dX6_takesMonk_17) (fun H locs hw => ?_)
    exact n_20 p1 r23 M25 H locs ls (lv_sub hl [1, 2, 0] rfl) hw hF
theorem c_X6_takesMonk (l : Launch) (x : SX) (D : va_G) (cy : Nat → ClassId) (ad : Nat → Nat) (p1 : Int32) (sz : Nat) (M : Mem) (z : Int32) (M' : Mem) (hF : f_X6_takesMonk p1 M = some (z, M')) : Met l yX6_takesMonk (.code yX6_takesMonk cX6_takesMonk 3 (some .int) :: GB) ({ frames := 4, cells := 0, slots := 0, locals := 84 } : Room) (PcW D cy ad x sz M [.ref (ad 9), .int p1]) (QiW D cy ad sz z M') 0 0 (AA ad sz) := by
  refine mk_m (own := RX6) (by decide) rfl (Nat.le_of_ble_eq_true rfl) ?_
  intro p e s m args below meth c ls fx hw hl hsz
  subst hsz
  exact b_X6_takesMonk fx ⟨Nat.le_refl _, Nat.le_refl _, Nat.le_refl _, Nat.le_refl _⟩ p1 M z M' hF (fun pc ls H locs v M1 hd hw h => by cases h; exact g_iret fx hw rfl hd) _ _ ls hl hw
noncomputable def f_X6_mayDo_17 : Mem → Option (Int32 × Mem) := fun M => (bnd (f_X6_isEnd M) (fun r13 => (bnd (f_X6_must r13 M) (fun M15 => (if (M15 9 15) = 0 then (some (1, M15)) else (some (0, M15)))))))
noncomputable def f_X6_mayDo (p1 : Int32) (M : Mem) : Option (Int32 × Mem) := (bnd (f_X6_isEnd M) (fun r16 => (if r16 = 0 then ((f_X6_mayDo_17) M) else (if p1 = 0 then ((f_X6_mayDo_17) M) else (bnd (f_X6_errs (-7) M) (fun M18 => ((f_X6_mayDo_17) M18)))))))
set_option maxHeartbeats 4000000 in
set_option maxRecDepth 100000 in
theorem b_X6_mayDo {p : Program} {l : Launch} {e : Env} {R : Room} {s : State} {m : MethodId} {args : Array Value} {below : List Frame} {meth : Method} {c : Code} {Q : State → Prop} {D : va_G} {cy : Nat → ClassId} {ad : Nat → Nat} {x : SX} (fx : FX p s m args meth c cX6_mayDo 2 (some .boolean) RX6 D cy ad x) (hR : 4 ≤ R.frames ∧ 84 ≤ R.locals ∧ 0 ≤ R.cells ∧ 0 ≤ R.slots) (p1 : Int32) (M : Mem) (z : Int32) (M' : Mem) (hF : f_X6_mayDo p1 M = some (z, M')) (E : ∀ (pc : Nat) (ls : Array Slot) (H : Heap) (locs : List Loc) (v : Int32) (M1 : Mem), decode cX6_mayDo pc = .ok (.ireturn, 1) → (v = 0 ∨ v = 1) → WD D cy ad s M1 H locs → some (v, M1) = some (z, M') → W p l e R s m args below meth c H locs 0 0 Q (F0 m pc ls [.int v])) (H : Heap) (locs : List Loc) (ls : Array Slot) (hl : lv_has ls 2 [(0, .ref (ad 9)), (1, .int p1)]) (hw : WD D cy ad s M H locs) : W p l e R s m args below meth c H locs 0 0 Q (F0 m 0 ls []) := by
  have hx := fx.1.1
  have hb := fx.1.2.1
  have hown := fx.1.2.2.2.1
  have hts := fx.1.2.2.2.2
  have n_17 : ∀ (M : Mem) (H : Heap) (locs : List Loc) (ls : Array Slot), lv_has ls 2 [(0, .ref (ad 9))] → WD D cy ad s M H locs → f_X6_mayDo_17 M = some (z, M') → W p l e R s m args below meth c H locs 0 0 Q (F0 m 17 ls []) := by
    intro M H locs ls hl hw hF
    unfold f_X6_mayDo_17 at hF
    refine lv_aload_n hx hb dX6_mayDo_17 rfl (lv_at hl 0 rfl) ?_
    refine lv_aload_n hx hb dX6_mayDo_18 rfl (lv_at hl 0 rfl) ?_
    obtain ⟨r13, hgr13, hF⟩ := st_bnd hF
    refine g_cz hw (g_runV (C := RX6) (As := []) (rest := [.ref (ad 9)]) fx hw isO_9 rfl (c_X6_isEnd l x D cy ad H.size M r13 hgr13) wd6_181 wd6_183 wd0_91 wd1_8 wd6_184 yd_X6_isEnd rfl rfl (Nat.le_of_ble_eq_true rfl) hl.1 ⟨Nat.le_trans (Nat.le_of_ble_eq_true rfl) hR.1, Nat.le_trans (Nat.le_of_ble_eq_true rfl) hR.2.1⟩ ⟨Nat.le_trans (Nat.le_of_ble_eq_true rfl) hR.2.2.1, Nat.le_trans (Nat.le_of_ble_eq_true rfl) hR.2.2.2⟩ dX6_mayDo_19) (fun H locs hbr13 hw => ?_)
    obtain ⟨M15, hgr14, hF⟩ := st_bnd hF
    refine g_cv hw (g_runV (C := RX6) (As := [.int r13]) (rest := []) fx hw isO_9 rfl (c_X6_must l x D cy ad r13 H.size M M15 hgr14) wd6_169 wd6_171 wd0_88 wd1_8 wd6_172 yd_X6_must rfl rfl (Nat.le_of_ble_eq_true rfl) hl.1 ⟨Nat.le_trans (Nat.le_of_ble_eq_true rfl) hR.1, Nat.le_trans (Nat.le_of_ble_eq_true rfl) hR.2.1⟩ ⟨Nat.le_trans (Nat.le_of_ble_eq_true rfl) hR.2.2.1, Nat.le_trans (Nat.le_of_ble_eq_true rfl) hR.2.2.2⟩ dX6_mayDo_22) (fun H locs hw => ?_)
    refine lv_aload_n hx hb dX6_mayDo_25 rfl (lv_at hl 0 rfl) ?_
    refine gX6_get fx hw isO_9 15 (by decide) wd5_34 rfl dX6_mayDo_26 ?_
    refine lv_if_ne (tgt := 36) hx hb dX6_mayDo_29 (by decide) (fun hc29 => ?_) (fun hc29 => ?_)
    · replace hF := st_f hc29 hF
      refine lv_iconst (v := 0) hx hb dX6_mayDo_36 (by decide) ?_
      exact E _ _ _ _ _ _ dX6_mayDo_37 (Or.inl rfl) hw hF
    · replace hF := st_t hc29 hF
      refine lv_iconst (v := 1) hx hb dX6_mayDo_32 (by decide) ?_
      refine lv_goto (tgt := 37) hx hb dX6_mayDo_33 (by decide) ?_
      exact E _ _ _ _ _ _ dX6_mayDo_37 (Or.inr rfl) hw hF
  unfold f_X6_mayDo at hF
  refine lv_aload_n hx hb dX6_mayDo_0 rfl (lv_at hl 0 rfl) ?_
  obtain ⟨r16, hgr16, hF⟩ := st_bnd hF
  refine g_cz hw (g_runV (C := RX6) (As := []) (rest := []) fx hw isO_9 rfl (c_X6_isEnd l x D cy ad H.size M r16 hgr16) wd6_181 wd6_183 wd0_91 wd1_8 wd6_184 yd_X6_isEnd rfl rfl (Nat.le_of_ble_eq_true rfl) hl.1 ⟨Nat.le_trans (Nat.le_of_ble_eq_true rfl) hR.1, Nat.le_trans (Nat.le_of_ble_eq_true rfl) hR.2.1⟩ ⟨Nat.le_trans (Nat.le_of_ble_eq_true rfl) hR.2.2.1, Nat.le_trans (Nat.le_of_ble_eq_true rfl) hR.2.2.2⟩ dX6_mayDo_1) (fun H locs hbr16 hw => ?_)
  refine lv_if_eq (tgt := 17) hx hb dX6_mayDo_4 (by decide) (fun hc4 => ?_) (fun hc4 => ?_)
  · replace hF := st_t hc4 hF
    exact n_17 M H locs ls (lv_sub hl [0] rfl) hw hF
  · replace hF := st_f hc4 hF
    refine lv_iload_n hx hb dX6_mayDo_7 rfl (lv_at hl 1 rfl) ?_
    refine lv_if_eq (tgt := 17) hx hb dX6_mayDo_8 (by decide) (fun hc8 => ?_) (fun hc8 => ?_)
    · replace hF := st_t hc8 hF
      exact n_17 M H locs ls (lv_sub hl [0] rfl) hw hF
    · replace hF := st_f hc8 hF
      refine lv_aload_n hx hb dX6_mayDo_11 rfl (lv_at hl 0 rfl) ?_
      refine lv_bipush (v := (-7)) hx hb dX6_mayDo_12 (by decide) ?_
      obtain ⟨M18, hgr17, hF⟩ := st_bnd hF
      refine g_cv hw (g_runV (C := RX6) (As := [.int (-7)]) (rest := []) fx hw isO_9 rfl (c_X6_errs l x D cy ad (-7) H.size M M18 hgr17) wd6_173 wd6_175 wd0_89 wd1_8 wd6_176 yd_X6_errs rfl rfl (Nat.le_of_ble_eq_true rfl) hl.1 ⟨Nat.le_trans (Nat.le_of_ble_eq_true rfl) hR.1, Nat.le_trans (Nat.le_of_ble_eq_true rfl) hR.2.1⟩ ⟨Nat.le_trans (Nat.le_of_ble_eq_true rfl) hR.2.2.1, Nat.le_trans (Nat.le_of_ble_eq_true rfl) hR.2.2.2⟩ dX6_mayDo_14) (fun H locs hw => ?_)
      exact n_17 M18 H locs ls (lv_sub hl [0] rfl) hw hF
theorem c_X6_mayDo (l : Launch) (x : SX) (D : va_G) (cy : Nat → ClassId) (ad : Nat → Nat) (p1 : Int32) (sz : Nat) (M : Mem) (z : Int32) (M' : Mem) (hF : f_X6_mayDo p1 M = some (z, M')) : Met l yX6_mayDo (.code yX6_mayDo cX6_mayDo 2 (some .boolean) :: GB) ({ frames := 4, cells := 0, slots := 0, locals := 84 } : Room) (PcW D cy ad x sz M [.ref (ad 9), .int p1]) (QzW D cy ad sz z M') 0 0 (AA ad sz) := by
  refine mk_m (own := RX6) (by decide) rfl (Nat.le_of_ble_eq_true rfl) ?_
  intro p e s m args below meth c ls fx hw hl hsz
  subst hsz
  exact b_X6_mayDo fx ⟨Nat.le_refl _, Nat.le_refl _, Nat.le_refl _, Nat.le_refl _⟩ p1 M z M' hF (fun pc ls H locs v M1 hd hb hw h => by cases h; exact g_zret fx hw rfl hb hd) _ _ ls hl hw
noncomputable def f_X6_readsSetting (w1 : Nat) (p2 p3 : Int32) (M : Mem) : Option Mem := (bnd (f_X6_isWord w1 M) (fun r11 => (if r11 = 0 then (some M) else (bnd (f_X6_must 1 M) (fun M13 => (bnd2 (f_X6_takes 0 p3 M13) (fun r14 M15 => (bnd (f_X6_isEnd M15) (fun r16 => (bnd (f_X6_must r16 M15) (fun M18 => (if (M18 9 15) = 0 then (chk (inB p2 156) (letM (mput M18 10 (ix p2) r14) (fun M19 => (some M19)))) else (some M18)))))))))))))
set_option maxHeartbeats 4000000 in
set_option maxRecDepth 100000 in
theorem b_X6_readsSetting {p : Program} {l : Launch} {e : Env} {R : Room} {s : State} {m : MethodId} {args : Array Value} {below : List Frame} {meth : Method} {c : Code} {Q : State → Prop} {D : va_G} {cy : Nat → ClassId} {ad : Nat → Nat} {x : SX} (fx : FX p s m args meth c cX6_readsSetting 5 none RX6 D cy ad x) (hR : 5 ≤ R.frames ∧ 107 ≤ R.locals ∧ 0 ≤ R.cells ∧ 0 ≤ R.slots) (w1 : Nat) (hw1 : w1 < 32) (p2 p3 : Int32) (M : Mem) (M' : Mem) (hF : f_X6_readsSetting w1 p2 p3 M = some M') (E : ∀ (pc : Nat) (ls : Array Slot) (H : Heap) (locs : List Loc) (M1 : Mem), decode cX6_readsSetting pc = .ok (.return_, 1) → WD D cy ad s M1 H locs → some M1 = some M' → W p l e R s m args below meth c H locs 0 0 Q (F0 m pc ls [])) (H : Heap) (locs : List Loc) (ls : Array Slot) (hl : lv_has ls 5 [(0, .ref (ad 9)), (1, .ref (x.1 w1)), (2, .int p2), (3, .int p3)]) (hw : WD D cy ad s M H locs) : W p l e R s m args below meth c H locs 0 0 Q (F0 m 0 ls []) := by
  have hx := fx.1.1
  have hb := fx.1.2.1
  have hown := fx.1.2.2.2.1
  have hts := fx.1.2.2.2.2
  unfold f_X6_readsSetting at hF
  refine lv_aload_n hx hb dX6_readsSetting_0 rfl (lv_at hl 0 rfl) ?_
  refine lv_aload_n hx hb dX6_readsSetting_1 rfl (lv_at hl 1 rfl) ?_
  obtain ⟨r11, hgr11, hF⟩ := st_bnd hF
  refine g_cz hw (g_runV (C := RX6) (As := [.ref (x.1 w1)]) (rest := []) fx hw isO_9 rfl (c_X6_isWord l x D cy ad w1 hw1 H.size M r11 hgr11) wd6_163 wd6_165 wd0_87 wd1_8 wd6_166 yd_X6_isWord rfl rfl (Nat.le_of_ble_eq_true rfl) hl.1 ⟨Nat.le_trans (Nat.le_of_ble_eq_true rfl) hR.1, Nat.le_trans (Nat.le_of_ble_eq_true rfl) hR.2.1⟩ ⟨Nat.le_trans (Nat.le_of_ble_eq_true rfl) hR.2.2.1, Nat.le_trans (Nat.le_of_ble_eq_true rfl) hR.2.2.2⟩ dX6_readsSetting_2) (fun H locs hbr11 hw => ?_)
  refine lv_if_ne (tgt := 9) hx hb dX6_readsSetting_5 (by decide) (fun hc5 => ?_) (fun hc5 => ?_)
  · replace hF := st_f hc5 hF
    refine lv_aload_n hx hb dX6_readsSetting_9 rfl (lv_at hl 0 rfl) ?_
    refine lv_iconst (v := 1) hx hb dX6_readsSetting_10 (by decide) ?_
    obtain ⟨M13, hgr12, hF⟩ := st_bnd hF
    refine g_cv hw (g_runV (C := RX6) (As := [.int 1]) (rest := []) fx hw isO_9 rfl (c_X6_must l x D cy ad 1 H.size M M13 hgr12) wd6_169 wd6_171 wd0_88 wd1_8 wd6_172 yd_X6_must rfl rfl (Nat.le_of_ble_eq_true rfl) hl.1 ⟨Nat.le_trans (Nat.le_of_ble_eq_true rfl) hR.1, Nat.le_trans (Nat.le_of_ble_eq_true rfl) hR.2.1⟩ ⟨Nat.le_trans (Nat.le_of_ble_eq_true rfl) hR.2.2.1, Nat.le_trans (Nat.le_of_ble_eq_true rfl) hR.2.2.2⟩ dX6_readsSetting_11) (fun H locs hw => ?_)
    refine lv_aload_n hx hb dX6_readsSetting_14 rfl (lv_at hl 0 rfl) ?_
    refine lv_iconst (v := 0) hx hb dX6_readsSetting_15 (by decide) ?_
    refine lv_iload_n hx hb dX6_readsSetting_16 rfl (lv_at hl 3 rfl) ?_
    obtain ⟨r14, M15, hgr14, hF⟩ := st_bnd2 hF
    refine g_ci hw (g_runV (C := RX6) (As := [.int 0, .int p3]) (rest := []) fx hw isO_9 rfl (c_X6_takes l x D cy ad 0 p3 H.size M13 r14 M15 hgr14) wd6_177 wd6_179 wd0_90 wd1_8 wd6_180 yd_X6_takes rfl rfl (Nat.le_of_ble_eq_true rfl) hl.1 ⟨Nat.le_trans (Nat.le_of_ble_eq_true rfl) hR.1, Nat.le_trans (Nat.le_of_ble_eq_true rfl) hR.2.1⟩ ⟨Nat.le_trans (Nat.le_of_ble_eq_true rfl) hR.2.2.1, Nat.le_trans (Nat.le_of_ble_eq_true rfl) hR.2.2.2⟩ dX6_readsSetting_17) (fun H locs hw => ?_)
    refine lv_istore (lv' := [(4, .int r14), (0, .ref (ad 9)), (1, .ref (x.1 w1)), (2, .int p2), (3, .int p3)]) hx hb dX6_readsSetting_20 hl (by decide) rfl (fun ls hl => ?_)
    refine lv_aload_n hx hb dX6_readsSetting_22 rfl (lv_at hl 1 rfl) ?_
    refine lv_aload_n hx hb dX6_readsSetting_23 rfl (lv_at hl 1 rfl) ?_
    obtain ⟨r16, hgr16, hF⟩ := st_bnd hF
    refine g_cz hw (g_runV (C := RX6) (As := []) (rest := [.ref (ad 9)]) fx hw isO_9 rfl (c_X6_isEnd l x D cy ad H.size M15 r16 hgr16) wd6_181 wd6_183 wd0_91 wd1_8 wd6_184 yd_X6_isEnd rfl rfl (Nat.le_of_ble_eq_true rfl) hl.1 ⟨Nat.le_trans (Nat.le_of_ble_eq_true rfl) hR.1, Nat.le_trans (Nat.le_of_ble_eq_true rfl) hR.2.1⟩ ⟨Nat.le_trans (Nat.le_of_ble_eq_true rfl) hR.2.2.1, Nat.le_trans (Nat.le_of_ble_eq_true rfl) hR.2.2.2⟩ dX6_readsSetting_24) (fun H locs hbr16 hw => ?_)
    obtain ⟨M18, hgr17, hF⟩ := st_bnd hF
    refine g_cv hw (g_runV (C := RX6) (As := [.int r16]) (rest := []) fx hw isO_9 rfl (c_X6_must l x D cy ad r16 H.size M15 M18 hgr17) wd6_169 wd6_171 wd0_88 wd1_8 wd6_172 yd_X6_must rfl rfl (Nat.le_of_ble_eq_true rfl) hl.1 ⟨Nat.le_trans (Nat.le_of_ble_eq_true rfl) hR.1, Nat.le_trans (Nat.le_of_ble_eq_true rfl) hR.2.1⟩ ⟨Nat.le_trans (Nat.le_of_ble_eq_true rfl) hR.2.2.1, Nat.le_trans (Nat.le_of_ble_eq_true rfl) hR.2.2.2⟩ dX6_readsSetting_27) (fun H locs hw => ?_)
    refine lv_aload_n hx hb dX6_readsSetting_30 rfl (lv_at hl 1 rfl) ?_
    refine gX6_get fx hw isO_9 15 (by decide) wd5_34 rfl dX6_readsSetting_31 ?_
    refine lv_if_ne (tgt := 45) hx hb dX6_readsSetting_34 (by decide) (fun hc34 => ?_) (fun hc34 => ?_)
    · replace hF := st_f hc34 hF
      exact E _ _ _ _ _ dX6_readsSetting_45 hw hF
    · replace hF := st_t hc34 hF
      refine lv_aload_n hx hb dX6_readsSetting_37 rfl (lv_at hl 1 rfl) ?_
      refine gX6_get fx hw isO_9 0 (by decide) wd5_19 rfl dX6_readsSetting_38 ?_
      refine lv_iload_n hx hb dX6_readsSetting_41 rfl (lv_at hl 3 rfl) ?_
      refine lv_iload hx hb dX6_readsSetting_42 (lv_at hl 0 rfl) ?_
      obtain ⟨hi20, hF⟩ := st_chk hF
      obtain ⟨M19, eM19, hF⟩ := st_letM hF
      refine g_iast fx hw isA_10 hi20 eM19 dX6_readsSetting_44 (fun H locs hw => ?_)
      exact E _ _ _ _ _ dX6_readsSetting_45 hw hF
  · replace hF := st_t hc5 hF
    exact E _ _ _ _ _ dX6_readsSetting_8 hw hF
theorem c_X6_readsSetting (l : Launch) (x : SX) (D : va_G) (cy : Nat → ClassId) (ad : Nat → Nat) (w1 : Nat) (hw1 : w1 < 32) (p2 p3 : Int32) (sz : Nat) (M : Mem) (M' : Mem) (hF : f_X6_readsSetting w1 p2 p3 M = some M') : Met l yX6_readsSetting (.code yX6_readsSetting cX6_readsSetting 5 none :: GB) ({ frames := 5, cells := 0, slots := 0, locals := 107 } : Room) (PcW D cy ad x sz M [.ref (ad 9), .ref (x.1 w1), .int p2, .int p3]) (QvW D cy ad sz M') 0 0 (AA ad sz) := by
  refine mk_m (own := RX6) (by decide) rfl (Nat.le_of_ble_eq_true rfl) ?_
  intro p e s m args below meth c ls fx hw hl hsz
  subst hsz
  exact b_X6_readsSetting fx ⟨Nat.le_refl _, Nat.le_refl _, Nat.le_refl _, Nat.le_refl _⟩ w1 hw1 p2 p3 M M' hF (fun pc ls H locs M1 hd hw h => by cases h; exact g_vret fx hw hd) _ _ ls hl hw
noncomputable def f_X6_readsNeed_61 : Int32 → Mem → Option (Int32 × Mem) := fun a1 M => (bnd (f_X6_must 1 M) (fun M34 => (bnd2 (f_X6_takes 1 20 M34) (fun r35 M36 => (bnd (f_X6_isEnd M36) (fun r37 => (bnd (f_X6_must r37 M36) (fun M39 => (if (M39 9 15) = 0 then (chk (inB (44 + (2 * (M39 10 1))) 156) (letM (mput M39 10 (ix (44 + (2 * (M39 10 1)))) a1) (fun M40 => (chk (inB ((44 + (2 * (M40 10 1))) + 1) 156) (letM (mput M40 10 (ix ((44 + (2 * (M40 10 1))) + 1)) r35) (fun M42 => (letM (mput M42 10 1 ((M42 10 1) + 1)) (fun M44 => (some (1, M44)))))))))) else (some (0, M39)))))))))))
noncomputable def f_X6_readsNeed_29 : Mem → Option (Int32 × Mem) := fun M => (bnd (f_X6_must 1 M) (fun M46 => (bnd2 (f_X6_nameHere M46) (fun r47 M48 => (if (M48 9 15) = 0 then (bnd (f_X6_needNamed r47 M48) (fun r49 => (if r49 = (-1) then ((f_X6_readsNeed_61) r47 M48) else (bnd (f_X6_errs (-5) M48) (fun M51 => ((f_X6_readsNeed_61) r47 M51)))))) else ((f_X6_readsNeed_61) r47 M48))))))
noncomputable def f_X6_readsNeed (M : Mem) : Option (Int32 × Mem) := (bnd (f_X6_isWord 18 M) (fun r52 => (if r52 = 0 then (some (0, M)) else (if (M 10 1) = 8 then (bnd (f_X6_errs (-6) M) (fun M54 => ((f_X6_readsNeed_29) M54))) else ((f_X6_readsNeed_29) M)))))
set_option maxHeartbeats 4000000 in
set_option maxRecDepth 100000 in
theorem b_X6_readsNeed {p : Program} {l : Launch} {e : Env} {R : Room} {s : State} {m : MethodId} {args : Array Value} {below : List Frame} {meth : Method} {c : Code} {Q : State → Prop} {D : va_G} {cy : Nat → ClassId} {ad : Nat → Nat} {x : SX} (fx : FX p s m args meth c cX6_readsNeed 3 (some .boolean) RX6 D cy ad x) (hR : 5 ≤ R.frames ∧ 107 ≤ R.locals ∧ 0 ≤ R.cells ∧ 0 ≤ R.slots) (M : Mem) (z : Int32) (M' : Mem) (hF : f_X6_readsNeed M = some (z, M')) (E : ∀ (pc : Nat) (ls : Array Slot) (H : Heap) (locs : List Loc) (v : Int32) (M1 : Mem), decode cX6_readsNeed pc = .ok (.ireturn, 1) → (v = 0 ∨ v = 1) → WD D cy ad s M1 H locs → some (v, M1) = some (z, M') → W p l e R s m args below meth c H locs 0 0 Q (F0 m pc ls [.int v])) (H : Heap) (locs : List Loc) (ls : Array Slot) (hl : lv_has ls 3 [(0, .ref (ad 9))]) (hw : WD D cy ad s M H locs) : W p l e R s m args below meth c H locs 0 0 Q (F0 m 0 ls []) := by
  have hx := fx.1.1
  have hb := fx.1.2.1
  have hown := fx.1.2.2.2.1
  have hts := fx.1.2.2.2.2
  have n_61 : ∀ (a1 : Int32) (M : Mem) (H : Heap) (locs : List Loc) (ls : Array Slot), lv_has ls 3 [(0, .ref (ad 9)), (1, .int a1)] → WD D cy ad s M H locs → f_X6_readsNeed_61 a1 M = some (z, M') → W p l e R s m args below meth c H locs 0 0 Q (F0 m 61 ls []) := by
    intro a1 M H locs ls hl hw hF
    unfold f_X6_readsNeed_61 at hF
    refine lv_aload_n hx hb dX6_readsNeed_61 rfl (lv_at hl 0 rfl) ?_
    refine lv_iconst (v := 1) hx hb dX6_readsNeed_62 (by decide) ?_
    obtain ⟨M34, hgr33, hF⟩ := st_bnd hF
    refine g_cv hw (g_runV (C := RX6) (As := [.int 1]) (rest := []) fx hw isO_9 rfl (c_X6_must l x D cy ad 1 H.size M M34 hgr33) wd6_169 wd6_171 wd0_88 wd1_8 wd6_172 yd_X6_must rfl rfl (Nat.le_of_ble_eq_true rfl) hl.1 ⟨Nat.le_trans (Nat.le_of_ble_eq_true rfl) hR.1, Nat.le_trans (Nat.le_of_ble_eq_true rfl) hR.2.1⟩ ⟨Nat.le_trans (Nat.le_of_ble_eq_true rfl) hR.2.2.1, Nat.le_trans (Nat.le_of_ble_eq_true rfl) hR.2.2.2⟩ dX6_readsNeed_63) (fun H locs hw => ?_)
    refine lv_aload_n hx hb dX6_readsNeed_66 rfl (lv_at hl 0 rfl) ?_
    refine lv_iconst (v := 1) hx hb dX6_readsNeed_67 (by decide) ?_
    refine lv_bipush (v := 20) hx hb dX6_readsNeed_68 (by decide) ?_
    obtain ⟨r35, M36, hgr35, hF⟩ := st_bnd2 hF
    refine g_ci hw (g_runV (C := RX6) (As := [.int 1, .int 20]) (rest := []) fx hw isO_9 rfl (c_X6_takes l x D cy ad 1 20 H.size M34 r35 M36 hgr35) wd6_177 wd6_179 wd0_90 wd1_8 wd6_180 yd_X6_takes rfl rfl (Nat.le_of_ble_eq_true rfl) hl.1 ⟨Nat.le_trans (Nat.le_of_ble_eq_true rfl) hR.1, Nat.le_trans (Nat.le_of_ble_eq_true rfl) hR.2.1⟩ ⟨Nat.le_trans (Nat.le_of_ble_eq_true rfl) hR.2.2.1, Nat.le_trans (Nat.le_of_ble_eq_true rfl) hR.2.2.2⟩ dX6_readsNeed_70) (fun H locs hw => ?_)
    refine lv_istore_n (lv' := [(2, .int r35), (0, .ref (ad 9)), (1, .int a1)]) hx hb dX6_readsNeed_73 rfl hl (by decide) rfl (fun ls hl => ?_)
    refine lv_aload_n hx hb dX6_readsNeed_74 rfl (lv_at hl 1 rfl) ?_
    refine lv_aload_n hx hb dX6_readsNeed_75 rfl (lv_at hl 1 rfl) ?_
    obtain ⟨r37, hgr37, hF⟩ := st_bnd hF
    refine g_cz hw (g_runV (C := RX6) (As := []) (rest := [.ref (ad 9)]) fx hw isO_9 rfl (c_X6_isEnd l x D cy ad H.size M36 r37 hgr37) wd6_181 wd6_183 wd0_91 wd1_8 wd6_184 yd_X6_isEnd rfl rfl (Nat.le_of_ble_eq_true rfl) hl.1 ⟨Nat.le_trans (Nat.le_of_ble_eq_true rfl) hR.1, Nat.le_trans (Nat.le_of_ble_eq_true rfl) hR.2.1⟩ ⟨Nat.le_trans (Nat.le_of_ble_eq_true rfl) hR.2.2.1, Nat.le_trans (Nat.le_of_ble_eq_true rfl) hR.2.2.2⟩ dX6_readsNeed_76) (fun H locs hbr37 hw => ?_)
    obtain ⟨M39, hgr38, hF⟩ := st_bnd hF
    refine g_cv hw (g_runV (C := RX6) (As := [.int r37]) (rest := []) fx hw isO_9 rfl (c_X6_must l x D cy ad r37 H.size M36 M39 hgr38) wd6_169 wd6_171 wd0_88 wd1_8 wd6_172 yd_X6_must rfl rfl (Nat.le_of_ble_eq_true rfl) hl.1 ⟨Nat.le_trans (Nat.le_of_ble_eq_true rfl) hR.1, Nat.le_trans (Nat.le_of_ble_eq_true rfl) hR.2.1⟩ ⟨Nat.le_trans (Nat.le_of_ble_eq_true rfl) hR.2.2.1, Nat.le_trans (Nat.le_of_ble_eq_true rfl) hR.2.2.2⟩ dX6_readsNeed_79) (fun H locs hw => ?_)
    refine lv_aload_n hx hb dX6_readsNeed_82 rfl (lv_at hl 1 rfl) ?_
    refine gX6_get fx hw isO_9 15 (by decide) wd5_34 rfl dX6_readsNeed_83 ?_
    refine lv_if_eq (tgt := 91) hx hb dX6_readsNeed_86 (by decide) (fun hc86 => ?_) (fun hc86 => ?_)
    · replace hF := st_t hc86 hF
      refine lv_aload_n hx hb dX6_readsNeed_91 rfl (lv_at hl 1 rfl) ?_
      refine gX6_get fx hw isO_9 0 (by decide) wd5_19 rfl dX6_readsNeed_92 ?_
      refine lv_bipush (v := 44) hx hb dX6_readsNeed_95 (by decide) ?_
      refine lv_iconst (v := 2) hx hb dX6_readsNeed_97 (by decide) ?_
      refine lv_aload_n hx hb dX6_readsNeed_98 rfl (lv_at hl 1 rfl) ?_
      refine gX6_get fx hw isO_9 0 (by decide) wd5_19 rfl dX6_readsNeed_99 ?_
      refine lv_iconst (v := 1) hx hb dX6_readsNeed_102 (by decide) ?_
      refine g_ialdc fx hw isA_10 (k := 1) rfl (by decide) dX6_readsNeed_103 ?_
      refine lv_imul hx hb dX6_readsNeed_104 ?_
      refine lv_iadd hx hb dX6_readsNeed_105 ?_
      refine lv_iload_n hx hb dX6_readsNeed_106 rfl (lv_at hl 2 rfl) ?_
      obtain ⟨hi41, hF⟩ := st_chk hF
      obtain ⟨M40, eM40, hF⟩ := st_letM hF
      refine g_iast fx hw isA_10 hi41 eM40 dX6_readsNeed_107 (fun H locs hw => ?_)
      refine lv_aload_n hx hb dX6_readsNeed_108 rfl (lv_at hl 1 rfl) ?_
      refine gX6_get fx hw isO_9 0 (by decide) wd5_19 rfl dX6_readsNeed_109 ?_
      refine lv_bipush (v := 44) hx hb dX6_readsNeed_112 (by decide) ?_
      refine lv_iconst (v := 2) hx hb dX6_readsNeed_114 (by decide) ?_
      refine lv_aload_n hx hb dX6_readsNeed_115 rfl (lv_at hl 1 rfl) ?_
      refine gX6_get fx hw isO_9 0 (by decide) wd5_19 rfl dX6_readsNeed_116 ?_
      refine lv_iconst (v := 1) hx hb dX6_readsNeed_119 (by decide) ?_
      refine g_ialdc fx hw isA_10 (k := 1) rfl (by decide) dX6_readsNeed_120 ?_
      refine lv_imul hx hb dX6_readsNeed_121 ?_
      refine lv_iadd hx hb dX6_readsNeed_122 ?_
      refine lv_iconst (v := 1) hx hb dX6_readsNeed_123 (by decide) ?_
      refine lv_iadd hx hb dX6_readsNeed_124 ?_
      refine lv_iload_n hx hb dX6_readsNeed_125 rfl (lv_at hl 0 rfl) ?_
      obtain ⟨hi43, hF⟩ := st_chk hF
      obtain ⟨M42, eM42, hF⟩ := st_letM hF
      refine g_iast fx hw isA_10 hi43 eM42 dX6_readsNeed_126 (fun H locs hw => ?_)
      refine lv_aload_n hx hb dX6_readsNeed_127 rfl (lv_at hl 1 rfl) ?_
      refine gX6_get fx hw isO_9 0 (by decide) wd5_19 rfl dX6_readsNeed_128 ?_
      refine lv_iconst (v := 1) hx hb dX6_readsNeed_131 (by decide) ?_
      refine lv_dup2_11 hx hb dX6_readsNeed_132 rfl rfl ?_
      refine g_ialdc fx hw isA_10 (k := 1) rfl (by decide) dX6_readsNeed_133 ?_
      refine lv_iconst (v := 1) hx hb dX6_readsNeed_134 (by decide) ?_
      refine lv_iadd hx hb dX6_readsNeed_135 ?_
      obtain ⟨M44, eM44, hF⟩ := st_letM hF
      refine g_iastc fx hw isA_10 (k := 1) rfl (by decide) eM44 dX6_readsNeed_136 (fun H locs hw => ?_)
      refine lv_iconst (v := 1) hx hb dX6_readsNeed_137 (by decide) ?_
      exact E _ _ _ _ _ _ dX6_readsNeed_138 (Or.inr rfl) hw hF
    · replace hF := st_f hc86 hF
      refine lv_iconst (v := 0) hx hb dX6_readsNeed_89 (by decide) ?_
      exact E _ _ _ _ _ _ dX6_readsNeed_90 (Or.inl rfl) hw hF
  have n_29 : ∀ (M : Mem) (H : Heap) (locs : List Loc) (ls : Array Slot), lv_has ls 3 [(0, .ref (ad 9))] → WD D cy ad s M H locs → f_X6_readsNeed_29 M = some (z, M') → W p l e R s m args below meth c H locs 0 0 Q (F0 m 29 ls []) := by
    intro M H locs ls hl hw hF
    unfold f_X6_readsNeed_29 at hF
    refine lv_aload_n hx hb dX6_readsNeed_29 rfl (lv_at hl 0 rfl) ?_
    refine lv_iconst (v := 1) hx hb dX6_readsNeed_30 (by decide) ?_
    obtain ⟨M46, hgr45, hF⟩ := st_bnd hF
    refine g_cv hw (g_runV (C := RX6) (As := [.int 1]) (rest := []) fx hw isO_9 rfl (c_X6_must l x D cy ad 1 H.size M M46 hgr45) wd6_169 wd6_171 wd0_88 wd1_8 wd6_172 yd_X6_must rfl rfl (Nat.le_of_ble_eq_true rfl) hl.1 ⟨Nat.le_trans (Nat.le_of_ble_eq_true rfl) hR.1, Nat.le_trans (Nat.le_of_ble_eq_true rfl) hR.2.1⟩ ⟨Nat.le_trans (Nat.le_of_ble_eq_true rfl) hR.2.2.1, Nat.le_trans (Nat.le_of_ble_eq_true rfl) hR.2.2.2⟩ dX6_readsNeed_31) (fun H locs hw => ?_)
    refine lv_aload_n hx hb dX6_readsNeed_34 rfl (lv_at hl 0 rfl) ?_
    obtain ⟨r47, M48, hgr47, hF⟩ := st_bnd2 hF
    refine g_ci hw (g_runV (C := RX6) (As := []) (rest := []) fx hw isO_9 rfl (c_X6_nameHere l x D cy ad H.size M46 r47 M48 hgr47) wd6_191 wd6_193 wd0_93 wd1_8 wd6_194 yd_X6_nameHere rfl rfl (Nat.le_of_ble_eq_true rfl) hl.1 ⟨Nat.le_trans (Nat.le_of_ble_eq_true rfl) hR.1, Nat.le_trans (Nat.le_of_ble_eq_true rfl) hR.2.1⟩ ⟨Nat.le_trans (Nat.le_of_ble_eq_true rfl) hR.2.2.1, Nat.le_trans (Nat.le_of_ble_eq_true rfl) hR.2.2.2⟩ dX6_readsNeed_35) (fun H locs hw => ?_)
    refine lv_istore_n (lv' := [(1, .int r47), (0, .ref (ad 9))]) hx hb dX6_readsNeed_38 rfl hl (by decide) rfl (fun ls hl => ?_)
    refine lv_aload_n hx hb dX6_readsNeed_39 rfl (lv_at hl 1 rfl) ?_
    refine gX6_get fx hw isO_9 15 (by decide) wd5_34 rfl dX6_readsNeed_40 ?_
    refine lv_if_ne (tgt := 61) hx hb dX6_readsNeed_43 (by decide) (fun hc43 => ?_) (fun hc43 => ?_)
    · replace hF := st_f hc43 hF
      exact n_61 r47 M48 H locs ls (lv_sub hl [1, 0] rfl) hw hF
    · replace hF := st_t hc43 hF
      refine lv_aload_n hx hb dX6_readsNeed_46 rfl (lv_at hl 1 rfl) ?_
      refine lv_iload_n hx hb dX6_readsNeed_47 rfl (lv_at hl 0 rfl) ?_
      obtain ⟨r49, hgr49, hF⟩ := st_bnd hF
      refine g_ci hw (g_runV (C := RX6) (As := [.int r47]) (rest := []) fx hw isO_9 rfl (c_X6_needNamed l x D cy ad r47 H.size M48 r49 hgr49) wd6_195 wd6_197 wd0_94 wd1_8 wd6_198 yd_X6_needNamed rfl rfl (Nat.le_of_ble_eq_true rfl) hl.1 ⟨Nat.le_trans (Nat.le_of_ble_eq_true rfl) hR.1, Nat.le_trans (Nat.le_of_ble_eq_true rfl) hR.2.1⟩ ⟨Nat.le_trans (Nat.le_of_ble_eq_true rfl) hR.2.2.1, Nat.le_trans (Nat.le_of_ble_eq_true rfl) hR.2.2.2⟩ dX6_readsNeed_48) (fun H locs hw => ?_)
      refine lv_iconst (v := (-1)) hx hb dX6_readsNeed_51 (by decide) ?_
      refine lv_icmp_eq (tgt := 61) hx hb dX6_readsNeed_52 (by decide) (fun hc52 => ?_) (fun hc52 => ?_)
      · replace hF := st_t hc52 hF
        exact n_61 r47 M48 H locs ls (lv_sub hl [1, 0] rfl) hw hF
      · replace hF := st_f hc52 hF
        refine lv_aload_n hx hb dX6_readsNeed_55 rfl (lv_at hl 1 rfl) ?_
        refine lv_bipush (v := (-5)) hx hb dX6_readsNeed_56 (by decide) ?_
        obtain ⟨M51, hgr50, hF⟩ := st_bnd hF
        refine g_cv hw (g_runV (C := RX6) (As := [.int (-5)]) (rest := []) fx hw isO_9 rfl (c_X6_errs l x D cy ad (-5) H.size M48 M51 hgr50) wd6_173 wd6_175 wd0_89 wd1_8 wd6_176 yd_X6_errs rfl rfl (Nat.le_of_ble_eq_true rfl) hl.1 ⟨Nat.le_trans (Nat.le_of_ble_eq_true rfl) hR.1, Nat.le_trans (Nat.le_of_ble_eq_true rfl) hR.2.1⟩ ⟨Nat.le_trans (Nat.le_of_ble_eq_true rfl) hR.2.2.1, Nat.le_trans (Nat.le_of_ble_eq_true rfl) hR.2.2.2⟩ dX6_readsNeed_58) (fun H locs hw => ?_)
        exact n_61 r47 M51 H locs ls (lv_sub hl [1, 0] rfl) hw hF
  unfold f_X6_readsNeed at hF
  refine lv_aload_n hx hb dX6_readsNeed_0 rfl (lv_at hl 0 rfl) ?_
  refine g_ldcSW hx hb hown (fx.2.2.2.2.str (w := 18) (by decide)).1 dX6_readsNeed_1 ?_
  obtain ⟨r52, hgr52, hF⟩ := st_bnd hF
  refine g_cz hw (g_runV (C := RX6) (As := [.ref (x.1 18)]) (rest := []) fx hw isO_9 rfl (c_X6_isWord l x D cy ad 18 (by decide) H.size M r52 hgr52) wd6_163 wd6_165 wd0_87 wd1_8 wd6_166 yd_X6_isWord rfl rfl (Nat.le_of_ble_eq_true rfl) hl.1 ⟨Nat.le_trans (Nat.le_of_ble_eq_true rfl) hR.1, Nat.le_trans (Nat.le_of_ble_eq_true rfl) hR.2.1⟩ ⟨Nat.le_trans (Nat.le_of_ble_eq_true rfl) hR.2.2.1, Nat.le_trans (Nat.le_of_ble_eq_true rfl) hR.2.2.2⟩ dX6_readsNeed_4) (fun H locs hbr52 hw => ?_)
  refine lv_if_ne (tgt := 12) hx hb dX6_readsNeed_7 (by decide) (fun hc7 => ?_) (fun hc7 => ?_)
  · replace hF := st_f hc7 hF
    refine lv_aload_n hx hb dX6_readsNeed_12 rfl (lv_at hl 0 rfl) ?_
    refine gX6_get fx hw isO_9 0 (by decide) wd5_19 rfl dX6_readsNeed_13 ?_
    refine lv_iconst (v := 1) hx hb dX6_readsNeed_16 (by decide) ?_
    refine g_ialdc fx hw isA_10 (k := 1) rfl (by decide) dX6_readsNeed_17 ?_
    refine lv_bipush (v := 8) hx hb dX6_readsNeed_18 (by decide) ?_
    refine lv_icmp_ne (tgt := 29) hx hb dX6_readsNeed_20 (by decide) (fun hc20 => ?_) (fun hc20 => ?_)
    · replace hF := st_f hc20 hF
      exact n_29 M H locs ls (lv_sub hl [0] rfl) hw hF
    · replace hF := st_t hc20 hF
      refine lv_aload_n hx hb dX6_readsNeed_23 rfl (lv_at hl 0 rfl) ?_
      refine lv_bipush (v := (-6)) hx hb dX6_readsNeed_24 (by decide) ?_
      obtain ⟨M54, hgr53, hF⟩ := st_bnd hF
      refine g_cv hw (g_runV (C := RX6) (As := [.int (-6)]) (rest := []) fx hw isO_9 rfl (c_X6_errs l x D cy ad (-6) H.size M M54 hgr53) wd6_173 wd6_175 wd0_89 wd1_8 wd6_176 yd_X6_errs rfl rfl (Nat.le_of_ble_eq_true rfl) hl.1 ⟨Nat.le_trans (Nat.le_of_ble_eq_true rfl) hR.1, Nat.le_trans (Nat.le_of_ble_eq_true rfl) hR.2.1⟩ ⟨Nat.le_trans (Nat.le_of_ble_eq_true rfl) hR.2.2.1, Nat.le_trans (Nat.le_of_ble_eq_true rfl) hR.2.2.2⟩ dX6_readsNeed_26) (fun H locs hw => ?_)
      exact n_29 M54 H locs ls (lv_sub hl [0] rfl) hw hF
  · replace hF := st_t hc7 hF
    refine lv_iconst (v := 0) hx hb dX6_readsNeed_10 (by decide) ?_
    exact E _ _ _ _ _ _ dX6_readsNeed_11 (Or.inl rfl) hw hF
theorem c_X6_readsNeed (l : Launch) (x : SX) (D : va_G) (cy : Nat → ClassId) (ad : Nat → Nat) (sz : Nat) (M : Mem) (z : Int32) (M' : Mem) (hF : f_X6_readsNeed M = some (z, M')) : Met l yX6_readsNeed (.code yX6_readsNeed cX6_readsNeed 3 (some .boolean) :: GB) ({ frames := 5, cells := 0, slots := 0, locals := 107 } : Room) (PcW D cy ad x sz M [.ref (ad 9)]) (QzW D cy ad sz z M') 0 0 (AA ad sz) := by
  refine mk_m (own := RX6) (by decide) rfl (Nat.le_of_ble_eq_true rfl) ?_
  intro p e s m args below meth c ls fx hw hl hsz
  subst hsz
  exact b_X6_readsNeed fx ⟨Nat.le_refl _, Nat.le_refl _, Nat.le_refl _, Nat.le_refl _⟩ M z M' hF (fun pc ls H locs v M1 hd hb hw h => by cases h; exact g_zret fx hw rfl hb hd) _ _ ls hl hw
noncomputable def f_X6_rankHere (M : Mem) : Option Int32 := (bnd (f_X6_isWord 19 M) (fun r4 => (if r4 = 0 then (bnd (f_X6_isWord 20 M) (fun r5 => (if r5 = 0 then (bnd (f_X6_isWord 21 M) (fun r6 => (if r6 = 0 then (some (-1)) else (some 2)))) else (some 1)))) else (some 0))))
set_option maxHeartbeats 4000000 in
set_option maxRecDepth 100000 in
theorem b_X6_rankHere {p : Program} {l : Launch} {e : Env} {R : Room} {s : State} {m : MethodId} {args : Array Value} {below : List Frame} {meth : Method} {c : Code} {Q : State → Prop} {D : va_G} {cy : Nat → ClassId} {ad : Nat → Nat} {x : SX} (fx : FX p s m args meth c cX6_rankHere 1 (some .int) RX6 D cy ad x) (hR : 5 ≤ R.frames ∧ 107 ≤ R.locals ∧ 0 ≤ R.cells ∧ 0 ≤ R.slots) (M : Mem) (z : Int32) (hF : f_X6_rankHere M = some z) (E : ∀ (pc : Nat) (ls : Array Slot) (H : Heap) (locs : List Loc) (v : Int32), decode cX6_rankHere pc = .ok (.ireturn, 1) → WD D cy ad s M H locs → some v = some z → W p l e R s m args below meth c H locs 0 0 Q (F0 m pc ls [.int v])) (H : Heap) (locs : List Loc) (ls : Array Slot) (hl : lv_has ls 1 [(0, .ref (ad 9))]) (hw : WD D cy ad s M H locs) : W p l e R s m args below meth c H locs 0 0 Q (F0 m 0 ls []) := by
  have hx := fx.1.1
  have hb := fx.1.2.1
  have hown := fx.1.2.2.2.1
  have hts := fx.1.2.2.2.2
  unfold f_X6_rankHere at hF
  refine lv_aload_n hx hb dX6_rankHere_0 rfl (lv_at hl 0 rfl) ?_
  refine g_ldcSW hx hb hown (fx.2.2.2.2.str (w := 19) (by decide)).1 dX6_rankHere_1 ?_
  obtain ⟨r4, hgr4, hF⟩ := st_bnd hF
  refine g_cz hw (g_runV (C := RX6) (As := [.ref (x.1 19)]) (rest := []) fx hw isO_9 rfl (c_X6_isWord l x D cy ad 19 (by decide) H.size M r4 hgr4) wd6_163 wd6_165 wd0_87 wd1_8 wd6_166 yd_X6_isWord rfl rfl (Nat.le_of_ble_eq_true rfl) hl.1 ⟨Nat.le_trans (Nat.le_of_ble_eq_true rfl) hR.1, Nat.le_trans (Nat.le_of_ble_eq_true rfl) hR.2.1⟩ ⟨Nat.le_trans (Nat.le_of_ble_eq_true rfl) hR.2.2.1, Nat.le_trans (Nat.le_of_ble_eq_true rfl) hR.2.2.2⟩ dX6_rankHere_4) (fun H locs hbr4 hw => ?_)
  refine lv_if_eq (tgt := 14) hx hb dX6_rankHere_7 (by decide) (fun hc7 => ?_) (fun hc7 => ?_)
  · replace hF := st_t hc7 hF
    refine lv_aload_n hx hb dX6_rankHere_14 rfl (lv_at hl 0 rfl) ?_
    refine g_ldcSW hx hb hown (fx.2.2.2.2.str (w := 20) (by decide)).1 dX6_rankHere_15 ?_
    obtain ⟨r5, hgr5, hF⟩ := st_bnd hF
    refine g_cz hw (g_runV (C := RX6) (As := [.ref (x.1 20)]) (rest := []) fx hw isO_9 rfl (c_X6_isWord l x D cy ad 20 (by decide) H.size M r5 hgr5) wd6_163 wd6_165 wd0_87 wd1_8 wd6_166 yd_X6_isWord rfl rfl (Nat.le_of_ble_eq_true rfl) hl.1 ⟨Nat.le_trans (Nat.le_of_ble_eq_true rfl) hR.1, Nat.le_trans (Nat.le_of_ble_eq_true rfl) hR.2.1⟩ ⟨Nat.le_trans (Nat.le_of_ble_eq_true rfl) hR.2.2.1, Nat.le_trans (Nat.le_of_ble_eq_true rfl) hR.2.2.2⟩ dX6_rankHere_18) (fun H locs hbr5 hw => ?_)
    refine lv_if_eq (tgt := 28) hx hb dX6_rankHere_21 (by decide) (fun hc21 => ?_) (fun hc21 => ?_)
    · replace hF := st_t hc21 hF
      refine lv_aload_n hx hb dX6_rankHere_28 rfl (lv_at hl 0 rfl) ?_
      refine g_ldcSW hx hb hown (fx.2.2.2.2.str (w := 21) (by decide)).1 dX6_rankHere_29 ?_
      obtain ⟨r6, hgr6, hF⟩ := st_bnd hF
      refine g_cz hw (g_runV (C := RX6) (As := [.ref (x.1 21)]) (rest := []) fx hw isO_9 rfl (c_X6_isWord l x D cy ad 21 (by decide) H.size M r6 hgr6) wd6_163 wd6_165 wd0_87 wd1_8 wd6_166 yd_X6_isWord rfl rfl (Nat.le_of_ble_eq_true rfl) hl.1 ⟨Nat.le_trans (Nat.le_of_ble_eq_true rfl) hR.1, Nat.le_trans (Nat.le_of_ble_eq_true rfl) hR.2.1⟩ ⟨Nat.le_trans (Nat.le_of_ble_eq_true rfl) hR.2.2.1, Nat.le_trans (Nat.le_of_ble_eq_true rfl) hR.2.2.2⟩ dX6_rankHere_32) (fun H locs hbr6 hw => ?_)
      refine lv_if_eq (tgt := 42) hx hb dX6_rankHere_35 (by decide) (fun hc35 => ?_) (fun hc35 => ?_)
      · replace hF := st_t hc35 hF
        refine lv_iconst (v := (-1)) hx hb dX6_rankHere_42 (by decide) ?_
        exact E _ _ _ _ _ dX6_rankHere_43 hw hF
      · replace hF := st_f hc35 hF
        refine lv_iconst (v := 2) hx hb dX6_rankHere_38 (by decide) ?_
        refine lv_goto (tgt := 43) hx hb dX6_rankHere_39 (by decide) ?_
        exact E _ _ _ _ _ dX6_rankHere_43 hw hF
    · replace hF := st_f hc21 hF
      refine lv_iconst (v := 1) hx hb dX6_rankHere_24 (by decide) ?_
      refine lv_goto (tgt := 43) hx hb dX6_rankHere_25 (by decide) ?_
      exact E _ _ _ _ _ dX6_rankHere_43 hw hF
  · replace hF := st_f hc7 hF
    refine lv_iconst (v := 0) hx hb dX6_rankHere_10 (by decide) ?_
    refine lv_goto (tgt := 43) hx hb dX6_rankHere_11 (by decide) ?_
    exact E _ _ _ _ _ dX6_rankHere_43 hw hF
theorem c_X6_rankHere (l : Launch) (x : SX) (D : va_G) (cy : Nat → ClassId) (ad : Nat → Nat) (sz : Nat) (M : Mem) (z : Int32) (hF : f_X6_rankHere M = some z) : Met l yX6_rankHere (.code yX6_rankHere cX6_rankHere 1 (some .int) :: GB) ({ frames := 5, cells := 0, slots := 0, locals := 107 } : Room) (PcW D cy ad x sz M [.ref (ad 9)]) (QiW D cy ad sz z M) 0 0 (AA ad sz) := by
  refine mk_m (own := RX6) (by decide) rfl (Nat.le_of_ble_eq_true rfl) ?_
  intro p e s m args below meth c ls fx hw hl hsz
  subst hsz
  exact b_X6_rankHere fx ⟨Nat.le_refl _, Nat.le_refl _, Nat.le_refl _, Nat.le_refl _⟩ M z hF (fun pc ls H locs v hd hw h => by cases h; exact g_iret fx hw rfl hd) _ _ ls hl hw
noncomputable def f_X6_readsMonk_133 : Int32 → Int32 → Int32 → Mem → Option (Int32 × Mem) := fun a1 a2 a3 M => (bnd (f_X6_isEnd M) (fun r89 => (bnd (f_X6_must r89 M) (fun M91 => (if (M91 9 15) = 0 then (bnd2 (f_X6_addsMonk a2 a1 M91) (fun r92 M93 => (bnd (f_X6_mo r92 2 M93) (fun r94 => (chk (inB r94 156) (letM (mput M93 10 (ix r94) a3) (fun M95 => (some (1, M95))))))))) else (some (0, M91)))))))
noncomputable def f_X6_readsMonk_125 (rec68 : Int32 → Int32 → Int32 → Mem → Option (Int32 × Mem)) : Int32 → Int32 → Int32 → Mem → Option (Int32 × Mem) := fun a1 a2 a3 M => (bnd (f_X6_must 1 M) (fun M98 => (rec68 a1 a2 a3 M98)))
noncomputable def f_X6_readsMonk_111 (rec68 : Int32 → Int32 → Int32 → Mem → Option (Int32 × Mem)) : Int32 → Int32 → Int32 → Int32 → Mem → Option (Int32 × Mem) := fun a1 a2 a3 a4 M => (if (M 9 15) = 0 then ((f_X6_readsMonk_125 rec68) a1 a2 (a3 ||| (ishl 1 a4)) M) else ((f_X6_readsMonk_125 rec68) a1 a2 a3 M))
noncomputable def f_X6_readsMonk_68 (rec68 : Int32 → Int32 → Int32 → Mem → Option (Int32 × Mem)) : Int32 → Int32 → Int32 → Mem → Option (Int32 × Mem) := fun a1 a2 a3 M => (if (M 9 15) = 0 then (if (M 9 13) = 0 then (bnd2 (f_X6_needHere M) (fun r99 M100 => (if (M100 9 15) = 0 then (if ((ishr a3 r99) &&& 1) = 1 then (bnd (f_X6_errs (-5) M100) (fun M102 => ((f_X6_readsMonk_111 rec68) a1 a2 a3 r99 M102))) else ((f_X6_readsMonk_111 rec68) a1 a2 a3 r99 M100)) else ((f_X6_readsMonk_111 rec68) a1 a2 a3 r99 M100)))) else ((f_X6_readsMonk_133) a1 a2 a3 M)) else ((f_X6_readsMonk_133) a1 a2 a3 M))
noncomputable def f_X6_readsMonk_61 : Int32 → Int32 → Mem → Option (Int32 × Mem) := fun a1 a2 M => (bnd (f_X6_must 1 M) (fun M104 => ((lp (fun _ _ _ _ => none) (f_X6_readsMonk_68) FU) a1 a2 0 M104)))
noncomputable def f_X6_readsMonk_29 : Int32 → Mem → Option (Int32 × Mem) := fun a1 M => (bnd (f_X6_must 1 M) (fun M106 => (bnd2 (f_X6_nameHere M106) (fun r107 M108 => (if (M108 9 15) = 0 then (bnd (f_X6_monkNamed r107 M108) (fun r109 => (if r109 = (-1) then ((f_X6_readsMonk_61) a1 r107 M108) else (bnd (f_X6_errs (-5) M108) (fun M111 => ((f_X6_readsMonk_61) a1 r107 M111)))))) else ((f_X6_readsMonk_61) a1 r107 M108))))))
noncomputable def f_X6_readsMonk (M : Mem) : Option (Int32 × Mem) := (bnd (f_X6_rankHere M) (fun r112 => (if r112 = (-1) then (some (0, M)) else (if (M 10 0) = 12 then (bnd (f_X6_errs (-6) M) (fun M114 => ((f_X6_readsMonk_29) r112 M114))) else ((f_X6_readsMonk_29) r112 M)))))
set_option maxHeartbeats 4000000 in
set_option maxRecDepth 100000 in
theorem b_X6_readsMonk {p : Program} {l : Launch} {e : Env} {R : Room} {s : State} {m : MethodId} {args : Array Value} {below : List Frame} {meth : Method} {c : Code} {Q : State → Prop} {D : va_G} {cy : Nat → ClassId} {ad : Nat → Nat} {x : SX} (fx : FX p s m args meth c cX6_readsMonk 5 (some .boolean) RX6 D cy ad x) (hR : 6 ≤ R.frames ∧ 127 ≤ R.locals ∧ 0 ≤ R.cells ∧ 0 ≤ R.slots) (M : Mem) (z : Int32) (M' : Mem) (hF : f_X6_readsMonk M = some (z, M')) (E : ∀ (pc : Nat) (ls : Array Slot) (H : Heap) (locs : List Loc) (v : Int32) (M1 : Mem), decode cX6_readsMonk pc = .ok (.ireturn, 1) → (v = 0 ∨ v = 1) → WD D cy ad s M1 H locs → some (v, M1) = some (z, M') → W p l e R s m args below meth c H locs 0 0 Q (F0 m pc ls [.int v])) (H : Heap) (locs : List Loc) (ls : Array Slot) (hl : lv_has ls 5 [(0, .ref (ad 9))]) (hw : WD D cy ad s M H locs) : W p l e R s m args below meth c H locs 0 0 Q (F0 m 0 ls []) := by
  have hx := fx.1.1
  have hb := fx.1.2.1
  have hown := fx.1.2.2.2.1
  have hts := fx.1.2.2.2.2
  have n_133 : ∀ (a1 : Int32) (a2 : Int32) (a3 : Int32) (M : Mem) (H : Heap) (locs : List Loc) (ls : Array Slot), lv_has ls 5 [(0, .ref (ad 9)), (1, .int a1), (2, .int a2), (3, .int a3)] → WD D cy ad s M H locs → f_X6_readsMonk_133 a1 a2 a3 M = some (z, M') → W p l e R s m args below meth c H locs 0 0 Q (F0 m 133 ls []) := by
    intro a1 a2 a3 M H locs ls hl hw hF
    unfold f_X6_readsMonk_133 at hF
    refine lv_aload_n hx hb dX6_readsMonk_133 rfl (lv_at hl 0 rfl) ?_
    refine lv_aload_n hx hb dX6_readsMonk_134 rfl (lv_at hl 0 rfl) ?_
    obtain ⟨r89, hgr89, hF⟩ := st_bnd hF
    refine g_cz hw (g_runV (C := RX6) (As := []) (rest := [.ref (ad 9)]) fx hw isO_9 rfl (c_X6_isEnd l x D cy ad H.size M r89 hgr89) wd6_181 wd6_183 wd0_91 wd1_8 wd6_184 yd_X6_isEnd rfl rfl (Nat.le_of_ble_eq_true rfl) hl.1 ⟨Nat.le_trans (Nat.le_of_ble_eq_true rfl) hR.1, Nat.le_trans (Nat.le_of_ble_eq_true rfl) hR.2.1⟩ ⟨Nat.le_trans (Nat.le_of_ble_eq_true rfl) hR.2.2.1, Nat.le_trans (Nat.le_of_ble_eq_true rfl) hR.2.2.2⟩ dX6_readsMonk_135) (fun H locs hbr89 hw => ?_)
    obtain ⟨M91, hgr90, hF⟩ := st_bnd hF
    refine g_cv hw (g_runV (C := RX6) (As := [.int r89]) (rest := []) fx hw isO_9 rfl (c_X6_must l x D cy ad r89 H.size M M91 hgr90) wd6_169 wd6_171 wd0_88 wd1_8 wd6_172 yd_X6_must rfl rfl (Nat.le_of_ble_eq_true rfl) hl.1 ⟨Nat.le_trans (Nat.le_of_ble_eq_true rfl) hR.1, Nat.le_trans (Nat.le_of_ble_eq_true rfl) hR.2.1⟩ ⟨Nat.le_trans (Nat.le_of_ble_eq_true rfl) hR.2.2.1, Nat.le_trans (Nat.le_of_ble_eq_true rfl) hR.2.2.2⟩ dX6_readsMonk_138) (fun H locs hw => ?_)
    refine lv_aload_n hx hb dX6_readsMonk_141 rfl (lv_at hl 0 rfl) ?_
    refine gX6_get fx hw isO_9 15 (by decide) wd5_34 rfl dX6_readsMonk_142 ?_
    refine lv_if_eq (tgt := 150) hx hb dX6_readsMonk_145 (by decide) (fun hc145 => ?_) (fun hc145 => ?_)
    · replace hF := st_t hc145 hF
      refine lv_aload_n hx hb dX6_readsMonk_150 rfl (lv_at hl 0 rfl) ?_
      refine gX6_get fx hw isO_9 0 (by decide) wd5_19 rfl dX6_readsMonk_151 ?_
      refine lv_aload_n hx hb dX6_readsMonk_154 rfl (lv_at hl 0 rfl) ?_
      refine lv_iload_n hx hb dX6_readsMonk_155 rfl (lv_at hl 2 rfl) ?_
      refine lv_iload_n hx hb dX6_readsMonk_156 rfl (lv_at hl 1 rfl) ?_
      obtain ⟨r92, M93, hgr92, hF⟩ := st_bnd2 hF
      refine g_ci hw (g_runV (C := RX6) (As := [.int a2, .int a1]) (rest := [.ref (ad 10)]) fx hw isO_9 rfl (c_X6_addsMonk l x D cy ad a2 a1 H.size M91 r92 M93 hgr92) wd5_12 wd5_14 wd0_41 wd1_8 wd5_15 yd_X6_addsMonk rfl rfl (Nat.le_of_ble_eq_true rfl) hl.1 ⟨Nat.le_trans (Nat.le_of_ble_eq_true rfl) hR.1, Nat.le_trans (Nat.le_of_ble_eq_true rfl) hR.2.1⟩ ⟨Nat.le_trans (Nat.le_of_ble_eq_true rfl) hR.2.2.1, Nat.le_trans (Nat.le_of_ble_eq_true rfl) hR.2.2.2⟩ dX6_readsMonk_157) (fun H locs hw => ?_)
      refine lv_iconst (v := 2) hx hb dX6_readsMonk_160 (by decide) ?_
      obtain ⟨r94, hgr94, hF⟩ := st_bnd hF
      refine g_ci hw (g_runS (As := [.int r92, .int 2]) (rest := [.ref (ad 10)]) fx hw (c_X6_mo l x D cy ad r92 2 H.size M93 r94 hgr94) wd5_16 wd5_17 wd1_8 wd5_18 yd_X6_mo rfl rfl (Nat.le_of_ble_eq_true rfl) hl.1 ⟨Nat.le_trans (Nat.le_of_ble_eq_true rfl) hR.1, Nat.le_trans (Nat.le_of_ble_eq_true rfl) hR.2.1⟩ ⟨Nat.le_trans (Nat.le_of_ble_eq_true rfl) hR.2.2.1, Nat.le_trans (Nat.le_of_ble_eq_true rfl) hR.2.2.2⟩ dX6_readsMonk_161) (fun H locs hw => ?_)
      refine lv_iload_n hx hb dX6_readsMonk_164 rfl (lv_at hl 3 rfl) ?_
      obtain ⟨hi96, hF⟩ := st_chk hF
      obtain ⟨M95, eM95, hF⟩ := st_letM hF
      refine g_iast fx hw isA_10 hi96 eM95 dX6_readsMonk_165 (fun H locs hw => ?_)
      refine lv_iconst (v := 1) hx hb dX6_readsMonk_166 (by decide) ?_
      exact E _ _ _ _ _ _ dX6_readsMonk_167 (Or.inr rfl) hw hF
    · replace hF := st_f hc145 hF
      refine lv_iconst (v := 0) hx hb dX6_readsMonk_148 (by decide) ?_
      exact E _ _ _ _ _ _ dX6_readsMonk_149 (Or.inl rfl) hw hF
  have n_125 : ∀ (rec68 : Int32 → Int32 → Int32 → Mem → Option (Int32 × Mem)) (_ : ∀ (a1 : Int32) (a2 : Int32) (a3 : Int32) (M : Mem) (H : Heap) (locs : List Loc) (ls : Array Slot), lv_has ls 5 [(0, .ref (ad 9)), (1, .int a1), (2, .int a2), (3, .int a3)] → WD D cy ad s M H locs → rec68 a1 a2 a3 M = some (z, M') → W p l e R s m args below meth c H locs 0 0 Q (F0 m 68 ls [])) , ∀ (a1 : Int32) (a2 : Int32) (a3 : Int32) (M : Mem) (H : Heap) (locs : List Loc) (ls : Array Slot), lv_has ls 5 [(0, .ref (ad 9)), (1, .int a1), (2, .int a2), (3, .int a3)] → WD D cy ad s M H locs → f_X6_readsMonk_125 rec68 a1 a2 a3 M = some (z, M') → W p l e R s m args below meth c H locs 0 0 Q (F0 m 125 ls []) := by
    intro rec68 hr68 a1 a2 a3 M H locs ls hl hw hF
    unfold f_X6_readsMonk_125 at hF
    refine lv_aload_n hx hb dX6_readsMonk_125 rfl (lv_at hl 0 rfl) ?_
    refine lv_iconst (v := 1) hx hb dX6_readsMonk_126 (by decide) ?_
    obtain ⟨M98, hgr97, hF⟩ := st_bnd hF
    refine g_cv hw (g_runV (C := RX6) (As := [.int 1]) (rest := []) fx hw isO_9 rfl (c_X6_must l x D cy ad 1 H.size M M98 hgr97) wd6_169 wd6_171 wd0_88 wd1_8 wd6_172 yd_X6_must rfl rfl (Nat.le_of_ble_eq_true rfl) hl.1 ⟨Nat.le_trans (Nat.le_of_ble_eq_true rfl) hR.1, Nat.le_trans (Nat.le_of_ble_eq_true rfl) hR.2.1⟩ ⟨Nat.le_trans (Nat.le_of_ble_eq_true rfl) hR.2.2.1, Nat.le_trans (Nat.le_of_ble_eq_true rfl) hR.2.2.2⟩ dX6_readsMonk_127) (fun H locs hw => ?_)
    refine lv_goto (tgt := 68) hx hb dX6_readsMonk_130 (by decide) ?_
    exact hr68 a1 a2 a3 M98 H locs ls (lv_sub hl [0, 1, 2, 3] rfl) hw hF
  have n_111 : ∀ (rec68 : Int32 → Int32 → Int32 → Mem → Option (Int32 × Mem)) (_ : ∀ (a1 : Int32) (a2 : Int32) (a3 : Int32) (M : Mem) (H : Heap) (locs : List Loc) (ls : Array Slot), lv_has ls 5 [(0, .ref (ad 9)), (1, .int a1), (2, .int a2), (3, .int a3)] → WD D cy ad s M H locs → rec68 a1 a2 a3 M = some (z, M') → W p l e R s m args below meth c H locs 0 0 Q (F0 m 68 ls [])) , ∀ (a1 : Int32) (a2 : Int32) (a3 : Int32) (a4 : Int32) (M : Mem) (H : Heap) (locs : List Loc) (ls : Array Slot), lv_has ls 5 [(0, .ref (ad 9)), (1, .int a1), (2, .int a2), (3, .int a3), (4, .int a4)] → WD D cy ad s M H locs → f_X6_readsMonk_111 rec68 a1 a2 a3 a4 M = some (z, M') → W p l e R s m args below meth c H locs 0 0 Q (F0 m 111 ls []) := by
    intro rec68 hr68 a1 a2 a3 a4 M H locs ls hl hw hF
    unfold f_X6_readsMonk_111 at hF
    refine lv_aload_n hx hb dX6_readsMonk_111 rfl (lv_at hl 0 rfl) ?_
    refine gX6_get fx hw isO_9 15 (by decide) wd5_34 rfl dX6_readsMonk_112 ?_
    refine lv_if_ne (tgt := 125) hx hb dX6_readsMonk_115 (by decide) (fun hc115 => ?_) (fun hc115 => ?_)
    · replace hF := st_f hc115 hF
      exact n_125 rec68 hr68 a1 a2 a3 M H locs ls (lv_sub hl [0, 1, 2, 3] rfl) hw hF
    · replace hF := st_t hc115 hF
      refine lv_iload_n hx hb dX6_readsMonk_118 rfl (lv_at hl 3 rfl) ?_
      refine lv_iconst (v := 1) hx hb dX6_readsMonk_119 (by decide) ?_
      refine lv_iload hx hb dX6_readsMonk_120 (lv_at hl 4 rfl) ?_
      refine g_ishl hx hb dX6_readsMonk_122 ?_
      refine lv_ior hx hb dX6_readsMonk_123 ?_
      refine lv_istore_n (lv' := [(3, .int (a3 ||| (ishl 1 a4))), (0, .ref (ad 9)), (1, .int a1), (2, .int a2), (4, .int a4)]) hx hb dX6_readsMonk_124 rfl hl (by decide) rfl (fun ls hl => ?_)
      exact n_125 rec68 hr68 a1 a2 (a3 ||| (ishl 1 a4)) M H locs ls (lv_sub hl [1, 2, 3, 0] rfl) hw hF
  have n_68 : ∀ (n9 : Nat), ∀ (a1 : Int32) (a2 : Int32) (a3 : Int32) (M : Mem) (H : Heap) (locs : List Loc) (ls : Array Slot), lv_has ls 5 [(0, .ref (ad 9)), (1, .int a1), (2, .int a2), (3, .int a3)] → WD D cy ad s M H locs → (lp (fun _ _ _ _ => none) (f_X6_readsMonk_68) n9) a1 a2 a3 M = some (z, M') → W p l e R s m args below meth c H locs 0 0 Q (F0 m 68 ls []) := by
    intro n9
    refine lp_ind (fun (rec68 : Int32 → Int32 → Int32 → Mem → Option (Int32 × Mem)) => ∀ (a1 : Int32) (a2 : Int32) (a3 : Int32) (M : Mem) (H : Heap) (locs : List Loc) (ls : Array Slot), lv_has ls 5 [(0, .ref (ad 9)), (1, .int a1), (2, .int a2), (3, .int a3)] → WD D cy ad s M H locs → rec68 a1 a2 a3 M = some (z, M') → W p l e R s m args below meth c H locs 0 0 Q (F0 m 68 ls [])) ?_ ?_ n9
    · intro a1 a2 a3 M H locs ls hl hw hF
      exact nomatch hF
    · intro rec68 hr68 a1 a2 a3 M H locs ls hl hw hF
      unfold f_X6_readsMonk_68 at hF
      refine lv_aload_n hx hb dX6_readsMonk_68 rfl (lv_at hl 0 rfl) ?_
      refine gX6_get fx hw isO_9 15 (by decide) wd5_34 rfl dX6_readsMonk_69 ?_
      refine lv_if_ne (tgt := 133) hx hb dX6_readsMonk_72 (by decide) (fun hc72 => ?_) (fun hc72 => ?_)
      · replace hF := st_f hc72 hF
        exact n_133 a1 a2 a3 M H locs ls (lv_sub hl [0, 1, 2, 3] rfl) hw hF
      · replace hF := st_t hc72 hF
        refine lv_aload_n hx hb dX6_readsMonk_75 rfl (lv_at hl 0 rfl) ?_
        refine gX6_get fx hw isO_9 13 (by decide) wd5_32 rfl dX6_readsMonk_76 ?_
        refine lv_if_ne (tgt := 133) hx hb dX6_readsMonk_79 (by decide) (fun hc79 => ?_) (fun hc79 => ?_)
        · replace hF := st_f hc79 hF
          exact n_133 a1 a2 a3 M H locs ls (lv_sub hl [0, 1, 2, 3] rfl) hw hF
        · replace hF := st_t hc79 hF
          refine lv_aload_n hx hb dX6_readsMonk_82 rfl (lv_at hl 0 rfl) ?_
          obtain ⟨r99, M100, hgr99, hF⟩ := st_bnd2 hF
          refine g_ci hw (g_runV (C := RX6) (As := []) (rest := []) fx hw isO_9 rfl (c_X6_needHere l x D cy ad H.size M r99 M100 hgr99) wd6_214 wd6_216 wd0_98 wd1_8 wd6_217 yd_X6_needHere rfl rfl (Nat.le_of_ble_eq_true rfl) hl.1 ⟨Nat.le_trans (Nat.le_of_ble_eq_true rfl) hR.1, Nat.le_trans (Nat.le_of_ble_eq_true rfl) hR.2.1⟩ ⟨Nat.le_trans (Nat.le_of_ble_eq_true rfl) hR.2.2.1, Nat.le_trans (Nat.le_of_ble_eq_true rfl) hR.2.2.2⟩ dX6_readsMonk_83) (fun H locs hw => ?_)
          refine lv_istore (lv' := [(4, .int r99), (0, .ref (ad 9)), (1, .int a1), (2, .int a2), (3, .int a3)]) hx hb dX6_readsMonk_86 hl (by decide) rfl (fun ls hl => ?_)
          refine lv_aload_n hx hb dX6_readsMonk_88 rfl (lv_at hl 1 rfl) ?_
          refine gX6_get fx hw isO_9 15 (by decide) wd5_34 rfl dX6_readsMonk_89 ?_
          refine lv_if_ne (tgt := 111) hx hb dX6_readsMonk_92 (by decide) (fun hc92 => ?_) (fun hc92 => ?_)
          · replace hF := st_f hc92 hF
            exact n_111 rec68 hr68 a1 a2 a3 r99 M100 H locs ls (lv_sub hl [1, 2, 3, 4, 0] rfl) hw hF
          · replace hF := st_t hc92 hF
            refine lv_iload_n hx hb dX6_readsMonk_95 rfl (lv_at hl 4 rfl) ?_
            refine lv_iload hx hb dX6_readsMonk_96 (lv_at hl 0 rfl) ?_
            refine g_ishr hx hb dX6_readsMonk_98 ?_
            refine lv_iconst (v := 1) hx hb dX6_readsMonk_99 (by decide) ?_
            refine lv_iand hx hb dX6_readsMonk_100 ?_
            refine lv_iconst (v := 1) hx hb dX6_readsMonk_101 (by decide) ?_
            refine lv_icmp_ne (tgt := 111) hx hb dX6_readsMonk_102 (by decide) (fun hc102 => ?_) (fun hc102 => ?_)
            · replace hF := st_f hc102 hF
              exact n_111 rec68 hr68 a1 a2 a3 r99 M100 H locs ls (lv_sub hl [1, 2, 3, 4, 0] rfl) hw hF
            · replace hF := st_t hc102 hF
              refine lv_aload_n hx hb dX6_readsMonk_105 rfl (lv_at hl 1 rfl) ?_
              refine lv_bipush (v := (-5)) hx hb dX6_readsMonk_106 (by decide) ?_
              obtain ⟨M102, hgr101, hF⟩ := st_bnd hF
              refine g_cv hw (g_runV (C := RX6) (As := [.int (-5)]) (rest := []) fx hw isO_9 rfl (c_X6_errs l x D cy ad (-5) H.size M100 M102 hgr101) wd6_173 wd6_175 wd0_89 wd1_8 wd6_176 yd_X6_errs rfl rfl (Nat.le_of_ble_eq_true rfl) hl.1 ⟨Nat.le_trans (Nat.le_of_ble_eq_true rfl) hR.1, Nat.le_trans (Nat.le_of_ble_eq_true rfl) hR.2.1⟩ ⟨Nat.le_trans (Nat.le_of_ble_eq_true rfl) hR.2.2.1, Nat.le_trans (Nat.le_of_ble_eq_true rfl) hR.2.2.2⟩ dX6_readsMonk_108) (fun H locs hw => ?_)
              exact n_111 rec68 hr68 a1 a2 a3 r99 M102 H locs ls (lv_sub hl [1, 2, 3, 4, 0] rfl) hw hF
  have n_61 : ∀ (a1 : Int32) (a2 : Int32) (M : Mem) (H : Heap) (locs : List Loc) (ls : Array Slot), lv_has ls 5 [(0, .ref (ad 9)), (1, .int a1), (2, .int a2)] → WD D cy ad s M H locs → f_X6_readsMonk_61 a1 a2 M = some (z, M') → W p l e R s m args below meth c H locs 0 0 Q (F0 m 61 ls []) := by
    intro a1 a2 M H locs ls hl hw hF
    unfold f_X6_readsMonk_61 at hF
    refine lv_aload_n hx hb dX6_readsMonk_61 rfl (lv_at hl 0 rfl) ?_
    refine lv_iconst (v := 1) hx hb dX6_readsMonk_62 (by decide) ?_
    obtain ⟨M104, hgr103, hF⟩ := st_bnd hF
    refine g_cv hw (g_runV (C := RX6) (As := [.int 1]) (rest := []) fx hw isO_9 rfl (c_X6_must l x D cy ad 1 H.size M M104 hgr103) wd6_169 wd6_171 wd0_88 wd1_8 wd6_172 yd_X6_must rfl rfl (Nat.le_of_ble_eq_true rfl) hl.1 ⟨Nat.le_trans (Nat.le_of_ble_eq_true rfl) hR.1, Nat.le_trans (Nat.le_of_ble_eq_true rfl) hR.2.1⟩ ⟨Nat.le_trans (Nat.le_of_ble_eq_true rfl) hR.2.2.1, Nat.le_trans (Nat.le_of_ble_eq_true rfl) hR.2.2.2⟩ dX6_readsMonk_63) (fun H locs hw => ?_)
    refine lv_iconst (v := 0) hx hb dX6_readsMonk_66 (by decide) ?_
    refine lv_istore_n (lv' := [(3, .int 0), (0, .ref (ad 9)), (1, .int a1), (2, .int a2)]) hx hb dX6_readsMonk_67 rfl hl (by decide) rfl (fun ls hl => ?_)
    exact n_68 FU a1 a2 0 M104 H locs ls (lv_sub hl [1, 2, 3, 0] rfl) hw hF
  have n_29 : ∀ (a1 : Int32) (M : Mem) (H : Heap) (locs : List Loc) (ls : Array Slot), lv_has ls 5 [(0, .ref (ad 9)), (1, .int a1)] → WD D cy ad s M H locs → f_X6_readsMonk_29 a1 M = some (z, M') → W p l e R s m args below meth c H locs 0 0 Q (F0 m 29 ls []) := by
    intro a1 M H locs ls hl hw hF
    unfold f_X6_readsMonk_29 at hF
    refine lv_aload_n hx hb dX6_readsMonk_29 rfl (lv_at hl 0 rfl) ?_
    refine lv_iconst (v := 1) hx hb dX6_readsMonk_30 (by decide) ?_
    obtain ⟨M106, hgr105, hF⟩ := st_bnd hF
    refine g_cv hw (g_runV (C := RX6) (As := [.int 1]) (rest := []) fx hw isO_9 rfl (c_X6_must l x D cy ad 1 H.size M M106 hgr105) wd6_169 wd6_171 wd0_88 wd1_8 wd6_172 yd_X6_must rfl rfl (Nat.le_of_ble_eq_true rfl) hl.1 ⟨Nat.le_trans (Nat.le_of_ble_eq_true rfl) hR.1, Nat.le_trans (Nat.le_of_ble_eq_true rfl) hR.2.1⟩ ⟨Nat.le_trans (Nat.le_of_ble_eq_true rfl) hR.2.2.1, Nat.le_trans (Nat.le_of_ble_eq_true rfl) hR.2.2.2⟩ dX6_readsMonk_31) (fun H locs hw => ?_)
    refine lv_aload_n hx hb dX6_readsMonk_34 rfl (lv_at hl 0 rfl) ?_
    obtain ⟨r107, M108, hgr107, hF⟩ := st_bnd2 hF
    refine g_ci hw (g_runV (C := RX6) (As := []) (rest := []) fx hw isO_9 rfl (c_X6_nameHere l x D cy ad H.size M106 r107 M108 hgr107) wd6_191 wd6_193 wd0_93 wd1_8 wd6_194 yd_X6_nameHere rfl rfl (Nat.le_of_ble_eq_true rfl) hl.1 ⟨Nat.le_trans (Nat.le_of_ble_eq_true rfl) hR.1, Nat.le_trans (Nat.le_of_ble_eq_true rfl) hR.2.1⟩ ⟨Nat.le_trans (Nat.le_of_ble_eq_true rfl) hR.2.2.1, Nat.le_trans (Nat.le_of_ble_eq_true rfl) hR.2.2.2⟩ dX6_readsMonk_35) (fun H locs hw => ?_)
    refine lv_istore_n (lv' := [(2, .int r107), (0, .ref (ad 9)), (1, .int a1)]) hx hb dX6_readsMonk_38 rfl hl (by decide) rfl (fun ls hl => ?_)
    refine lv_aload_n hx hb dX6_readsMonk_39 rfl (lv_at hl 1 rfl) ?_
    refine gX6_get fx hw isO_9 15 (by decide) wd5_34 rfl dX6_readsMonk_40 ?_
    refine lv_if_ne (tgt := 61) hx hb dX6_readsMonk_43 (by decide) (fun hc43 => ?_) (fun hc43 => ?_)
    · replace hF := st_f hc43 hF
      exact n_61 a1 r107 M108 H locs ls (lv_sub hl [1, 2, 0] rfl) hw hF
    · replace hF := st_t hc43 hF
      refine lv_aload_n hx hb dX6_readsMonk_46 rfl (lv_at hl 1 rfl) ?_
      refine lv_iload_n hx hb dX6_readsMonk_47 rfl (lv_at hl 0 rfl) ?_
      obtain ⟨r109, hgr109, hF⟩ := st_bnd hF
      refine g_ci hw (g_runV (C := RX6) (As := [.int r107]) (rest := []) fx hw isO_9 rfl (c_X6_monkNamed l x D cy ad r107 H.size M108 r109 hgr109) wd6_210 wd6_212 wd0_97 wd1_8 wd6_213 yd_X6_monkNamed rfl rfl (Nat.le_of_ble_eq_true rfl) hl.1 ⟨Nat.le_trans (Nat.le_of_ble_eq_true rfl) hR.1, Nat.le_trans (Nat.le_of_ble_eq_true rfl) hR.2.1⟩ ⟨Nat.le_trans (Nat.le_of_ble_eq_true rfl) hR.2.2.1, Nat.le_trans (Nat.le_of_ble_eq_true rfl) hR.2.2.2⟩ dX6_readsMonk_48) (fun H locs hw => ?_)
      refine lv_iconst (v := (-1)) hx hb dX6_readsMonk_51 (by decide) ?_
      refine lv_icmp_eq (tgt := 61) hx hb dX6_readsMonk_52 (by decide) (fun hc52 => ?_) (fun hc52 => ?_)
      · replace hF := st_t hc52 hF
        exact n_61 a1 r107 M108 H locs ls (lv_sub hl [1, 2, 0] rfl) hw hF
      · replace hF := st_f hc52 hF
        refine lv_aload_n hx hb dX6_readsMonk_55 rfl (lv_at hl 1 rfl) ?_
        refine lv_bipush (v := (-5)) hx hb dX6_readsMonk_56 (by decide) ?_
        obtain ⟨M111, hgr110, hF⟩ := st_bnd hF
        refine g_cv hw (g_runV (C := RX6) (As := [.int (-5)]) (rest := []) fx hw isO_9 rfl (c_X6_errs l x D cy ad (-5) H.size M108 M111 hgr110) wd6_173 wd6_175 wd0_89 wd1_8 wd6_176 yd_X6_errs rfl rfl (Nat.le_of_ble_eq_true rfl) hl.1 ⟨Nat.le_trans (Nat.le_of_ble_eq_true rfl) hR.1, Nat.le_trans (Nat.le_of_ble_eq_true rfl) hR.2.1⟩ ⟨Nat.le_trans (Nat.le_of_ble_eq_true rfl) hR.2.2.1, Nat.le_trans (Nat.le_of_ble_eq_true rfl) hR.2.2.2⟩ dX6_readsMonk_58) (fun H locs hw => ?_)
        exact n_61 a1 r107 M111 H locs ls (lv_sub hl [1, 2, 0] rfl) hw hF
  unfold f_X6_readsMonk at hF
  refine lv_aload_n hx hb dX6_readsMonk_0 rfl (lv_at hl 0 rfl) ?_
  obtain ⟨r112, hgr112, hF⟩ := st_bnd hF
  refine g_ci hw (g_runV (C := RX6) (As := []) (rest := []) fx hw isO_9 rfl (c_X6_rankHere l x D cy ad H.size M r112 hgr112) wd6_199 wd6_201 wd0_95 wd1_8 wd6_202 yd_X6_rankHere rfl rfl (Nat.le_of_ble_eq_true rfl) hl.1 ⟨Nat.le_trans (Nat.le_of_ble_eq_true rfl) hR.1, Nat.le_trans (Nat.le_of_ble_eq_true rfl) hR.2.1⟩ ⟨Nat.le_trans (Nat.le_of_ble_eq_true rfl) hR.2.2.1, Nat.le_trans (Nat.le_of_ble_eq_true rfl) hR.2.2.2⟩ dX6_readsMonk_1) (fun H locs hw => ?_)
  refine lv_istore_n (lv' := [(1, .int r112), (0, .ref (ad 9))]) hx hb dX6_readsMonk_4 rfl hl (by decide) rfl (fun ls hl => ?_)
  refine lv_iload_n hx hb dX6_readsMonk_5 rfl (lv_at hl 0 rfl) ?_
  refine lv_iconst (v := (-1)) hx hb dX6_readsMonk_6 (by decide) ?_
  refine lv_icmp_ne (tgt := 12) hx hb dX6_readsMonk_7 (by decide) (fun hc7 => ?_) (fun hc7 => ?_)
  · replace hF := st_f hc7 hF
    refine lv_aload_n hx hb dX6_readsMonk_12 rfl (lv_at hl 1 rfl) ?_
    refine gX6_get fx hw isO_9 0 (by decide) wd5_19 rfl dX6_readsMonk_13 ?_
    refine lv_iconst (v := 0) hx hb dX6_readsMonk_16 (by decide) ?_
    refine g_ialdc fx hw isA_10 (k := 0) rfl (by decide) dX6_readsMonk_17 ?_
    refine lv_bipush (v := 12) hx hb dX6_readsMonk_18 (by decide) ?_
    refine lv_icmp_ne (tgt := 29) hx hb dX6_readsMonk_20 (by decide) (fun hc20 => ?_) (fun hc20 => ?_)
    · replace hF := st_f hc20 hF
      exact n_29 r112 M H locs ls (lv_sub hl [1, 0] rfl) hw hF
    · replace hF := st_t hc20 hF
      refine lv_aload_n hx hb dX6_readsMonk_23 rfl (lv_at hl 1 rfl) ?_
      refine lv_bipush (v := (-6)) hx hb dX6_readsMonk_24 (by decide) ?_
      obtain ⟨M114, hgr113, hF⟩ := st_bnd hF
      refine g_cv hw (g_runV (C := RX6) (As := [.int (-6)]) (rest := []) fx hw isO_9 rfl (c_X6_errs l x D cy ad (-6) H.size M M114 hgr113) wd6_173 wd6_175 wd0_89 wd1_8 wd6_176 yd_X6_errs rfl rfl (Nat.le_of_ble_eq_true rfl) hl.1 ⟨Nat.le_trans (Nat.le_of_ble_eq_true rfl) hR.1, Nat.le_trans (Nat.le_of_ble_eq_true rfl) hR.2.1⟩ ⟨Nat.le_trans (Nat.le_of_ble_eq_true rfl) hR.2.2.1, Nat.le_trans (Nat.le_of_ble_eq_true rfl) hR.2.2.2⟩ dX6_readsMonk_26) (fun H locs hw => ?_)
      exact n_29 r112 M114 H locs ls (lv_sub hl [1, 0] rfl) hw hF
  · replace hF := st_t hc7 hF
    refine lv_iconst (v := 0) hx hb dX6_readsMonk_10 (by decide) ?_
    exact E _ _ _ _ _ _ dX6_readsMonk_11 (Or.inl rfl) hw hF
theorem c_X6_readsMonk (l : Launch) (x : SX) (D : va_G) (cy : Nat → ClassId) (ad : Nat → Nat) (sz : Nat) (M : Mem) (z : Int32) (M' : Mem) (hF : f_X6_readsMonk M = some (z, M')) : Met l yX6_readsMonk (.code yX6_readsMonk cX6_readsMonk 5 (some .boolean) :: GB) ({ frames := 6, cells := 0, slots := 0, locals := 127 } : Room) (PcW D cy ad x sz M [.ref (ad 9)]) (QzW D cy ad sz z M') 0 0 (AA ad sz) := by
  refine mk_m (own := RX6) (by decide) rfl (Nat.le_of_ble_eq_true rfl) ?_
  intro p e s m args below meth c ls fx hw hl hsz
  subst hsz
  exact b_X6_readsMonk fx ⟨Nat.le_refl _, Nat.le_refl _, Nat.le_refl _, Nat.le_refl _⟩ M z M' hF (fun pc ls H locs v M1 hd hb hw h => by cases h; exact g_zret fx hw rfl hb hd) _ _ ls hl hw
noncomputable def f_X6_readsBell_90 : Mem → Option (Int32 × Mem) := fun M => (if (M 9 15) = 0 then (some (1, M)) else (some (0, M)))
noncomputable def f_X6_readsBell_62 : Int32 → Int32 → Int32 → Mem → Option (Int32 × Mem) := fun a1 a2 t1 M => (bnd (f_X6_must t1 M) (fun M37 => (bnd (f_X6_isEnd M37) (fun r38 => (bnd (f_X6_must r38 M37) (fun M40 => (if (M40 9 15) = 0 then (chk (inB (20 + a1) 156) (letM (mput M40 10 (ix (20 + a1)) a2) (fun M41 => ((f_X6_readsBell_90) M41)))) else ((f_X6_readsBell_90) M40))))))))
noncomputable def f_X6_readsBell_57 : Int32 → Int32 → Mem → Option (Int32 × Mem) := fun a1 a2 M => ((f_X6_readsBell_62) a1 a2 1 M)
noncomputable def f_X6_readsBell_40 : Int32 → Int32 → Mem → Option (Int32 × Mem) := fun a1 t0 M => (if t0 = 2 then ((f_X6_readsBell_57) a1 t0 M) else (bnd (f_X6_isWord 24 M) (fun r43 => (if r43 = 0 then ((f_X6_readsBell_62) a1 t0 0 M) else ((f_X6_readsBell_57) a1 t0 M)))))
noncomputable def f_X6_readsBell (M : Mem) : Option (Int32 × Mem) := (bnd (f_X6_isWord 22 M) (fun r44 => (if r44 = 0 then (some (0, M)) else (bnd (f_X6_must 1 M) (fun M46 => (bnd2 (f_X6_takes 0 23 M46) (fun r47 M48 => (bnd (f_X6_isWord 23 M48) (fun r49 => (if r49 = 0 then ((f_X6_readsBell_40) r47 1 M48) else ((f_X6_readsBell_40) r47 2 M48)))))))))))
set_option maxHeartbeats 4000000 in
set_option maxRecDepth 100000 in
theorem b_X6_readsBell {p : Program} {l : Launch} {e : Env} {R : Room} {s : State} {m : MethodId} {args : Array Value} {below : List Frame} {meth : Method} {c : Code} {Q : State → Prop} {D : va_G} {cy : Nat → ClassId} {ad : Nat → Nat} {x : SX} (fx : FX p s m args meth c cX6_readsBell 3 (some .boolean) RX6 D cy ad x) (hR : 5 ≤ R.frames ∧ 107 ≤ R.locals ∧ 0 ≤ R.cells ∧ 0 ≤ R.slots) (M : Mem) (z : Int32) (M' : Mem) (hF : f_X6_readsBell M = some (z, M')) (E : ∀ (pc : Nat) (ls : Array Slot) (H : Heap) (locs : List Loc) (v : Int32) (M1 : Mem), decode cX6_readsBell pc = .ok (.ireturn, 1) → (v = 0 ∨ v = 1) → WD D cy ad s M1 H locs → some (v, M1) = some (z, M') → W p l e R s m args below meth c H locs 0 0 Q (F0 m pc ls [.int v])) (H : Heap) (locs : List Loc) (ls : Array Slot) (hl : lv_has ls 3 [(0, .ref (ad 9))]) (hw : WD D cy ad s M H locs) : W p l e R s m args below meth c H locs 0 0 Q (F0 m 0 ls []) := by
  have hx := fx.1.1
  have hb := fx.1.2.1
  have hown := fx.1.2.2.2.1
  have hts := fx.1.2.2.2.2
  have n_90 : ∀ (M : Mem) (H : Heap) (locs : List Loc) (ls : Array Slot), lv_has ls 3 [(0, .ref (ad 9))] → WD D cy ad s M H locs → f_X6_readsBell_90 M = some (z, M') → W p l e R s m args below meth c H locs 0 0 Q (F0 m 90 ls []) := by
    intro M H locs ls hl hw hF
    unfold f_X6_readsBell_90 at hF
    refine lv_aload_n hx hb dX6_readsBell_90 rfl (lv_at hl 0 rfl) ?_
    refine gX6_get fx hw isO_9 15 (by decide) wd5_34 rfl dX6_readsBell_91 ?_
    refine lv_if_ne (tgt := 101) hx hb dX6_readsBell_94 (by decide) (fun hc94 => ?_) (fun hc94 => ?_)
    · replace hF := st_f hc94 hF
      refine lv_iconst (v := 0) hx hb dX6_readsBell_101 (by decide) ?_
      exact E _ _ _ _ _ _ dX6_readsBell_102 (Or.inl rfl) hw hF
    · replace hF := st_t hc94 hF
      refine lv_iconst (v := 1) hx hb dX6_readsBell_97 (by decide) ?_
      refine lv_goto (tgt := 102) hx hb dX6_readsBell_98 (by decide) ?_
      exact E _ _ _ _ _ _ dX6_readsBell_102 (Or.inr rfl) hw hF
  have n_62 : ∀ (a1 : Int32) (a2 : Int32) (t1 : Int32) (M : Mem) (H : Heap) (locs : List Loc) (ls : Array Slot), lv_has ls 3 [(0, .ref (ad 9)), (1, .int a1), (2, .int a2)] → WD D cy ad s M H locs → f_X6_readsBell_62 a1 a2 t1 M = some (z, M') → W p l e R s m args below meth c H locs 0 0 Q (F0 m 62 ls [.int t1, .ref (ad 9)]) := by
    intro a1 a2 t1 M H locs ls hl hw hF
    unfold f_X6_readsBell_62 at hF
    obtain ⟨M37, hgr36, hF⟩ := st_bnd hF
    refine g_cv hw (g_runV (C := RX6) (As := [.int t1]) (rest := []) fx hw isO_9 rfl (c_X6_must l x D cy ad t1 H.size M M37 hgr36) wd6_169 wd6_171 wd0_88 wd1_8 wd6_172 yd_X6_must rfl rfl (Nat.le_of_ble_eq_true rfl) hl.1 ⟨Nat.le_trans (Nat.le_of_ble_eq_true rfl) hR.1, Nat.le_trans (Nat.le_of_ble_eq_true rfl) hR.2.1⟩ ⟨Nat.le_trans (Nat.le_of_ble_eq_true rfl) hR.2.2.1, Nat.le_trans (Nat.le_of_ble_eq_true rfl) hR.2.2.2⟩ dX6_readsBell_62) (fun H locs hw => ?_)
    refine lv_aload_n hx hb dX6_readsBell_65 rfl (lv_at hl 0 rfl) ?_
    refine lv_aload_n hx hb dX6_readsBell_66 rfl (lv_at hl 0 rfl) ?_
    obtain ⟨r38, hgr38, hF⟩ := st_bnd hF
    refine g_cz hw (g_runV (C := RX6) (As := []) (rest := [.ref (ad 9)]) fx hw isO_9 rfl (c_X6_isEnd l x D cy ad H.size M37 r38 hgr38) wd6_181 wd6_183 wd0_91 wd1_8 wd6_184 yd_X6_isEnd rfl rfl (Nat.le_of_ble_eq_true rfl) hl.1 ⟨Nat.le_trans (Nat.le_of_ble_eq_true rfl) hR.1, Nat.le_trans (Nat.le_of_ble_eq_true rfl) hR.2.1⟩ ⟨Nat.le_trans (Nat.le_of_ble_eq_true rfl) hR.2.2.1, Nat.le_trans (Nat.le_of_ble_eq_true rfl) hR.2.2.2⟩ dX6_readsBell_67) (fun H locs hbr38 hw => ?_)
    obtain ⟨M40, hgr39, hF⟩ := st_bnd hF
    refine g_cv hw (g_runV (C := RX6) (As := [.int r38]) (rest := []) fx hw isO_9 rfl (c_X6_must l x D cy ad r38 H.size M37 M40 hgr39) wd6_169 wd6_171 wd0_88 wd1_8 wd6_172 yd_X6_must rfl rfl (Nat.le_of_ble_eq_true rfl) hl.1 ⟨Nat.le_trans (Nat.le_of_ble_eq_true rfl) hR.1, Nat.le_trans (Nat.le_of_ble_eq_true rfl) hR.2.1⟩ ⟨Nat.le_trans (Nat.le_of_ble_eq_true rfl) hR.2.2.1, Nat.le_trans (Nat.le_of_ble_eq_true rfl) hR.2.2.2⟩ dX6_readsBell_70) (fun H locs hw => ?_)
    refine lv_aload_n hx hb dX6_readsBell_73 rfl (lv_at hl 0 rfl) ?_
    refine gX6_get fx hw isO_9 15 (by decide) wd5_34 rfl dX6_readsBell_74 ?_
    refine lv_if_ne (tgt := 90) hx hb dX6_readsBell_77 (by decide) (fun hc77 => ?_) (fun hc77 => ?_)
    · replace hF := st_f hc77 hF
      exact n_90 M40 H locs ls (lv_sub hl [0] rfl) hw hF
    · replace hF := st_t hc77 hF
      refine lv_aload_n hx hb dX6_readsBell_80 rfl (lv_at hl 0 rfl) ?_
      refine gX6_get fx hw isO_9 0 (by decide) wd5_19 rfl dX6_readsBell_81 ?_
      refine lv_bipush (v := 20) hx hb dX6_readsBell_84 (by decide) ?_
      refine lv_iload_n hx hb dX6_readsBell_86 rfl (lv_at hl 1 rfl) ?_
      refine lv_iadd hx hb dX6_readsBell_87 ?_
      refine lv_iload_n hx hb dX6_readsBell_88 rfl (lv_at hl 2 rfl) ?_
      obtain ⟨hi42, hF⟩ := st_chk hF
      obtain ⟨M41, eM41, hF⟩ := st_letM hF
      refine g_iast fx hw isA_10 hi42 eM41 dX6_readsBell_89 (fun H locs hw => ?_)
      exact n_90 M41 H locs ls (lv_sub hl [0] rfl) hw hF
  have n_57 : ∀ (a1 : Int32) (a2 : Int32) (M : Mem) (H : Heap) (locs : List Loc) (ls : Array Slot), lv_has ls 3 [(0, .ref (ad 9)), (1, .int a1), (2, .int a2)] → WD D cy ad s M H locs → f_X6_readsBell_57 a1 a2 M = some (z, M') → W p l e R s m args below meth c H locs 0 0 Q (F0 m 57 ls [.ref (ad 9)]) := by
    intro a1 a2 M H locs ls hl hw hF
    unfold f_X6_readsBell_57 at hF
    refine lv_iconst (v := 1) hx hb dX6_readsBell_57 (by decide) ?_
    refine lv_goto (tgt := 62) hx hb dX6_readsBell_58 (by decide) ?_
    exact n_62 a1 a2 1 M H locs ls (lv_sub hl [0, 1, 2] rfl) hw hF
  have n_40 : ∀ (a1 : Int32) (t0 : Int32) (M : Mem) (H : Heap) (locs : List Loc) (ls : Array Slot), lv_has ls 3 [(0, .ref (ad 9)), (1, .int a1)] → WD D cy ad s M H locs → f_X6_readsBell_40 a1 t0 M = some (z, M') → W p l e R s m args below meth c H locs 0 0 Q (F0 m 40 ls [.int t0]) := by
    intro a1 t0 M H locs ls hl hw hF
    unfold f_X6_readsBell_40 at hF
    refine lv_istore_n (lv' := [(2, .int t0), (0, .ref (ad 9)), (1, .int a1)]) hx hb dX6_readsBell_40 rfl hl (by decide) rfl (fun ls hl => ?_)
    refine lv_aload_n hx hb dX6_readsBell_41 rfl (lv_at hl 1 rfl) ?_
    refine lv_iload_n hx hb dX6_readsBell_42 rfl (lv_at hl 0 rfl) ?_
    refine lv_iconst (v := 2) hx hb dX6_readsBell_43 (by decide) ?_
    refine lv_icmp_eq (tgt := 57) hx hb dX6_readsBell_44 (by decide) (fun hc44 => ?_) (fun hc44 => ?_)
    · replace hF := st_t hc44 hF
      exact n_57 a1 t0 M H locs ls (lv_sub hl [1, 2, 0] rfl) hw hF
    · replace hF := st_f hc44 hF
      refine lv_aload_n hx hb dX6_readsBell_47 rfl (lv_at hl 1 rfl) ?_
      refine g_ldcSW hx hb hown (fx.2.2.2.2.str (w := 24) (by decide)).1 dX6_readsBell_48 ?_
      obtain ⟨r43, hgr43, hF⟩ := st_bnd hF
      refine g_cz hw (g_runV (C := RX6) (As := [.ref (x.1 24)]) (rest := [.ref (ad 9)]) fx hw isO_9 rfl (c_X6_isWord l x D cy ad 24 (by decide) H.size M r43 hgr43) wd6_163 wd6_165 wd0_87 wd1_8 wd6_166 yd_X6_isWord rfl rfl (Nat.le_of_ble_eq_true rfl) hl.1 ⟨Nat.le_trans (Nat.le_of_ble_eq_true rfl) hR.1, Nat.le_trans (Nat.le_of_ble_eq_true rfl) hR.2.1⟩ ⟨Nat.le_trans (Nat.le_of_ble_eq_true rfl) hR.2.2.1, Nat.le_trans (Nat.le_of_ble_eq_true rfl) hR.2.2.2⟩ dX6_readsBell_51) (fun H locs hbr43 hw => ?_)
      refine lv_if_eq (tgt := 61) hx hb dX6_readsBell_54 (by decide) (fun hc54 => ?_) (fun hc54 => ?_)
      · replace hF := st_t hc54 hF
        refine lv_iconst (v := 0) hx hb dX6_readsBell_61 (by decide) ?_
        exact n_62 a1 t0 0 M H locs ls (lv_sub hl [1, 2, 0] rfl) hw hF
      · replace hF := st_f hc54 hF
        exact n_57 a1 t0 M H locs ls (lv_sub hl [1, 2, 0] rfl) hw hF
  unfold f_X6_readsBell at hF
  refine lv_aload_n hx hb dX6_readsBell_0 rfl (lv_at hl 0 rfl) ?_
  refine g_ldcSW hx hb hown (fx.2.2.2.2.str (w := 22) (by decide)).1 dX6_readsBell_1 ?_
  obtain ⟨r44, hgr44, hF⟩ := st_bnd hF
  refine g_cz hw (g_runV (C := RX6) (As := [.ref (x.1 22)]) (rest := []) fx hw isO_9 rfl (c_X6_isWord l x D cy ad 22 (by decide) H.size M r44 hgr44) wd6_163 wd6_165 wd0_87 wd1_8 wd6_166 yd_X6_isWord rfl rfl (Nat.le_of_ble_eq_true rfl) hl.1 ⟨Nat.le_trans (Nat.le_of_ble_eq_true rfl) hR.1, Nat.le_trans (Nat.le_of_ble_eq_true rfl) hR.2.1⟩ ⟨Nat.le_trans (Nat.le_of_ble_eq_true rfl) hR.2.2.1, Nat.le_trans (Nat.le_of_ble_eq_true rfl) hR.2.2.2⟩ dX6_readsBell_4) (fun H locs hbr44 hw => ?_)
  refine lv_if_ne (tgt := 12) hx hb dX6_readsBell_7 (by decide) (fun hc7 => ?_) (fun hc7 => ?_)
  · replace hF := st_f hc7 hF
    refine lv_aload_n hx hb dX6_readsBell_12 rfl (lv_at hl 0 rfl) ?_
    refine lv_iconst (v := 1) hx hb dX6_readsBell_13 (by decide) ?_
    obtain ⟨M46, hgr45, hF⟩ := st_bnd hF
    refine g_cv hw (g_runV (C := RX6) (As := [.int 1]) (rest := []) fx hw isO_9 rfl (c_X6_must l x D cy ad 1 H.size M M46 hgr45) wd6_169 wd6_171 wd0_88 wd1_8 wd6_172 yd_X6_must rfl rfl (Nat.le_of_ble_eq_true rfl) hl.1 ⟨Nat.le_trans (Nat.le_of_ble_eq_true rfl) hR.1, Nat.le_trans (Nat.le_of_ble_eq_true rfl) hR.2.1⟩ ⟨Nat.le_trans (Nat.le_of_ble_eq_true rfl) hR.2.2.1, Nat.le_trans (Nat.le_of_ble_eq_true rfl) hR.2.2.2⟩ dX6_readsBell_14) (fun H locs hw => ?_)
    refine lv_aload_n hx hb dX6_readsBell_17 rfl (lv_at hl 0 rfl) ?_
    refine lv_iconst (v := 0) hx hb dX6_readsBell_18 (by decide) ?_
    refine lv_bipush (v := 23) hx hb dX6_readsBell_19 (by decide) ?_
    obtain ⟨r47, M48, hgr47, hF⟩ := st_bnd2 hF
    refine g_ci hw (g_runV (C := RX6) (As := [.int 0, .int 23]) (rest := []) fx hw isO_9 rfl (c_X6_takes l x D cy ad 0 23 H.size M46 r47 M48 hgr47) wd6_177 wd6_179 wd0_90 wd1_8 wd6_180 yd_X6_takes rfl rfl (Nat.le_of_ble_eq_true rfl) hl.1 ⟨Nat.le_trans (Nat.le_of_ble_eq_true rfl) hR.1, Nat.le_trans (Nat.le_of_ble_eq_true rfl) hR.2.1⟩ ⟨Nat.le_trans (Nat.le_of_ble_eq_true rfl) hR.2.2.1, Nat.le_trans (Nat.le_of_ble_eq_true rfl) hR.2.2.2⟩ dX6_readsBell_21) (fun H locs hw => ?_)
    refine lv_istore_n (lv' := [(1, .int r47), (0, .ref (ad 9))]) hx hb dX6_readsBell_24 rfl hl (by decide) rfl (fun ls hl => ?_)
    refine lv_aload_n hx hb dX6_readsBell_25 rfl (lv_at hl 1 rfl) ?_
    refine g_ldcSW hx hb hown (fx.2.2.2.2.str (w := 23) (by decide)).1 dX6_readsBell_26 ?_
    obtain ⟨r49, hgr49, hF⟩ := st_bnd hF
    refine g_cz hw (g_runV (C := RX6) (As := [.ref (x.1 23)]) (rest := []) fx hw isO_9 rfl (c_X6_isWord l x D cy ad 23 (by decide) H.size M48 r49 hgr49) wd6_163 wd6_165 wd0_87 wd1_8 wd6_166 yd_X6_isWord rfl rfl (Nat.le_of_ble_eq_true rfl) hl.1 ⟨Nat.le_trans (Nat.le_of_ble_eq_true rfl) hR.1, Nat.le_trans (Nat.le_of_ble_eq_true rfl) hR.2.1⟩ ⟨Nat.le_trans (Nat.le_of_ble_eq_true rfl) hR.2.2.1, Nat.le_trans (Nat.le_of_ble_eq_true rfl) hR.2.2.2⟩ dX6_readsBell_29) (fun H locs hbr49 hw => ?_)
    refine lv_if_eq (tgt := 39) hx hb dX6_readsBell_32 (by decide) (fun hc32 => ?_) (fun hc32 => ?_)
    · replace hF := st_t hc32 hF
      refine lv_iconst (v := 1) hx hb dX6_readsBell_39 (by decide) ?_
      exact n_40 r47 1 M48 H locs ls (lv_sub hl [1, 0] rfl) hw hF
    · replace hF := st_f hc32 hF
      refine lv_iconst (v := 2) hx hb dX6_readsBell_35 (by decide) ?_
      refine lv_goto (tgt := 40) hx hb dX6_readsBell_36 (by decide) ?_
      exact n_40 r47 2 M48 H locs ls (lv_sub hl [1, 0] rfl) hw hF
  · replace hF := st_t hc7 hF
    refine lv_iconst (v := 0) hx hb dX6_readsBell_10 (by decide) ?_
    exact E _ _ _ _ _ _ dX6_readsBell_11 (Or.inl rfl) hw hF
theorem c_X6_readsBell (l : Launch) (x : SX) (D : va_G) (cy : Nat → ClassId) (ad : Nat → Nat) (sz : Nat) (M : Mem) (z : Int32) (M' : Mem) (hF : f_X6_readsBell M = some (z, M')) : Met l yX6_readsBell (.code yX6_readsBell cX6_readsBell 3 (some .boolean) :: GB) ({ frames := 5, cells := 0, slots := 0, locals := 107 } : Room) (PcW D cy ad x sz M [.ref (ad 9)]) (QzW D cy ad sz z M') 0 0 (AA ad sz) := by
  refine mk_m (own := RX6) (by decide) rfl (Nat.le_of_ble_eq_true rfl) ?_
  intro p e s m args below meth c ls fx hw hl hsz
  subst hsz
  exact b_X6_readsBell fx ⟨Nat.le_refl _, Nat.le_refl _, Nat.le_refl _, Nat.le_refl _⟩ M z M' hF (fun pc ls H locs v M1 hd hb hw h => by cases h; exact g_zret fx hw rfl hb hd) _ _ ls hl hw
noncomputable def f_X6_readsWant_41 : Int32 → Int32 → Int32 → Mem → Option Mem := fun a1 a2 t1 M => (bnd2 (f_X6_mayDo t1 M) (fun r25 M26 => (if r25 = 0 then (some M26) else (bnd2 (f_X6_wants a1 a2 M26) (fun r27 M28 => (letM (mput M28 9 18 r27) (fun M29 => (some M29))))))))
noncomputable def f_X6_readsWant (M : Mem) : Option Mem := (bnd2 (f_X6_takesMonk (-1) M) (fun r30 M31 => (bnd2 (f_X6_needHere M31) (fun r32 M33 => (bnd (f_X6_must 1 M33) (fun M35 => (if (M35 9 15) = 0 then (bnd (f_X6_isSet r30 3 r32 M35) (fun r36 => (if r36 = 0 then ((f_X6_readsWant_41) r30 r32 0 M35) else ((f_X6_readsWant_41) r30 r32 (-11) M35)))) else (some M35))))))))
set_option maxHeartbeats 4000000 in
set_option maxRecDepth 100000 in
theorem b_X6_readsWant {p : Program} {l : Launch} {e : Env} {R : Room} {s : State} {m : MethodId} {args : Array Value} {below : List Frame} {meth : Method} {c : Code} {Q : State → Prop} {D : va_G} {cy : Nat → ClassId} {ad : Nat → Nat} {x : SX} (fx : FX p s m args meth c cX6_readsWant 3 none RX6 D cy ad x) (hR : 5 ≤ R.frames ∧ 106 ≤ R.locals ∧ 0 ≤ R.cells ∧ 0 ≤ R.slots) (M : Mem) (M' : Mem) (hF : f_X6_readsWant M = some M') (E : ∀ (pc : Nat) (ls : Array Slot) (H : Heap) (locs : List Loc) (M1 : Mem), decode cX6_readsWant pc = .ok (.return_, 1) → WD D cy ad s M1 H locs → some M1 = some M' → W p l e R s m args below meth c H locs 0 0 Q (F0 m pc ls [])) (H : Heap) (locs : List Loc) (ls : Array Slot) (hl : lv_has ls 3 [(0, .ref (ad 9))]) (hw : WD D cy ad s M H locs) : W p l e R s m args below meth c H locs 0 0 Q (F0 m 0 ls []) := by
  have hx := fx.1.1
  have hb := fx.1.2.1
  have hown := fx.1.2.2.2.1
  have hts := fx.1.2.2.2.2
  have n_41 : ∀ (a1 : Int32) (a2 : Int32) (t1 : Int32) (M : Mem) (H : Heap) (locs : List Loc) (ls : Array Slot), lv_has ls 3 [(0, .ref (ad 9)), (1, .int a1), (2, .int a2)] → WD D cy ad s M H locs → f_X6_readsWant_41 a1 a2 t1 M = some M' → W p l e R s m args below meth c H locs 0 0 Q (F0 m 41 ls [.int t1, .ref (ad 9)]) := by
    intro a1 a2 t1 M H locs ls hl hw hF
    unfold f_X6_readsWant_41 at hF
    obtain ⟨r25, M26, hgr25, hF⟩ := st_bnd2 hF
    refine g_cz hw (g_runV (C := RX6) (As := [.int t1]) (rest := []) fx hw isO_9 rfl (c_X6_mayDo l x D cy ad t1 H.size M r25 M26 hgr25) wd7_1 wd7_3 wd0_103 wd1_8 wd7_4 yd_X6_mayDo rfl rfl (Nat.le_of_ble_eq_true rfl) hl.1 ⟨Nat.le_trans (Nat.le_of_ble_eq_true rfl) hR.1, Nat.le_trans (Nat.le_of_ble_eq_true rfl) hR.2.1⟩ ⟨Nat.le_trans (Nat.le_of_ble_eq_true rfl) hR.2.2.1, Nat.le_trans (Nat.le_of_ble_eq_true rfl) hR.2.2.2⟩ dX6_readsWant_41) (fun H locs hbr25 hw => ?_)
    refine lv_if_eq (tgt := 57) hx hb dX6_readsWant_44 (by decide) (fun hc44 => ?_) (fun hc44 => ?_)
    · replace hF := st_t hc44 hF
      exact E _ _ _ _ _ dX6_readsWant_57 hw hF
    · replace hF := st_f hc44 hF
      refine lv_aload_n hx hb dX6_readsWant_47 rfl (lv_at hl 0 rfl) ?_
      refine lv_aload_n hx hb dX6_readsWant_48 rfl (lv_at hl 0 rfl) ?_
      refine lv_iload_n hx hb dX6_readsWant_49 rfl (lv_at hl 1 rfl) ?_
      refine lv_iload_n hx hb dX6_readsWant_50 rfl (lv_at hl 2 rfl) ?_
      obtain ⟨r27, M28, hgr27, hF⟩ := st_bnd2 hF
      refine g_ci hw (g_runV (C := RX6) (As := [.int a1, .int a2]) (rest := [.ref (ad 9)]) fx hw isO_9 rfl (c_X6_wants l x D cy ad a1 a2 H.size M26 r27 M28 hgr27) wd6_51 wd6_53 wd0_70 wd1_8 wd6_54 yd_X6_wants rfl rfl (Nat.le_of_ble_eq_true rfl) hl.1 ⟨Nat.le_trans (Nat.le_of_ble_eq_true rfl) hR.1, Nat.le_trans (Nat.le_of_ble_eq_true rfl) hR.2.1⟩ ⟨Nat.le_trans (Nat.le_of_ble_eq_true rfl) hR.2.2.1, Nat.le_trans (Nat.le_of_ble_eq_true rfl) hR.2.2.2⟩ dX6_readsWant_51) (fun H locs hw => ?_)
      obtain ⟨M29, eM29, hF⟩ := st_letM hF
      refine gX6_put fx hw isO_9 18 (by decide) wd5_37 rfl eM29 rfl (Nat.le_of_ble_eq_true rfl) dX6_readsWant_54 (fun H locs hw => ?_)
      exact E _ _ _ _ _ dX6_readsWant_57 hw hF
  unfold f_X6_readsWant at hF
  refine lv_aload_n hx hb dX6_readsWant_0 rfl (lv_at hl 0 rfl) ?_
  refine lv_iconst (v := (-1)) hx hb dX6_readsWant_1 (by decide) ?_
  obtain ⟨r30, M31, hgr30, hF⟩ := st_bnd2 hF
  refine g_ci hw (g_runV (C := RX6) (As := [.int (-1)]) (rest := []) fx hw isO_9 rfl (c_X6_takesMonk l x D cy ad (-1) H.size M r30 M31 hgr30) wd6_237 wd6_239 wd0_102 wd1_8 wd7_0 yd_X6_takesMonk rfl rfl (Nat.le_of_ble_eq_true rfl) hl.1 ⟨Nat.le_trans (Nat.le_of_ble_eq_true rfl) hR.1, Nat.le_trans (Nat.le_of_ble_eq_true rfl) hR.2.1⟩ ⟨Nat.le_trans (Nat.le_of_ble_eq_true rfl) hR.2.2.1, Nat.le_trans (Nat.le_of_ble_eq_true rfl) hR.2.2.2⟩ dX6_readsWant_2) (fun H locs hw => ?_)
  refine lv_istore_n (lv' := [(1, .int r30), (0, .ref (ad 9))]) hx hb dX6_readsWant_5 rfl hl (by decide) rfl (fun ls hl => ?_)
  refine lv_aload_n hx hb dX6_readsWant_6 rfl (lv_at hl 1 rfl) ?_
  obtain ⟨r32, M33, hgr32, hF⟩ := st_bnd2 hF
  refine g_ci hw (g_runV (C := RX6) (As := []) (rest := []) fx hw isO_9 rfl (c_X6_needHere l x D cy ad H.size M31 r32 M33 hgr32) wd6_214 wd6_216 wd0_98 wd1_8 wd6_217 yd_X6_needHere rfl rfl (Nat.le_of_ble_eq_true rfl) hl.1 ⟨Nat.le_trans (Nat.le_of_ble_eq_true rfl) hR.1, Nat.le_trans (Nat.le_of_ble_eq_true rfl) hR.2.1⟩ ⟨Nat.le_trans (Nat.le_of_ble_eq_true rfl) hR.2.2.1, Nat.le_trans (Nat.le_of_ble_eq_true rfl) hR.2.2.2⟩ dX6_readsWant_7) (fun H locs hw => ?_)
  refine lv_istore_n (lv' := [(2, .int r32), (1, .int r30), (0, .ref (ad 9))]) hx hb dX6_readsWant_10 rfl hl (by decide) rfl (fun ls hl => ?_)
  refine lv_aload_n hx hb dX6_readsWant_11 rfl (lv_at hl 2 rfl) ?_
  refine lv_iconst (v := 1) hx hb dX6_readsWant_12 (by decide) ?_
  obtain ⟨M35, hgr34, hF⟩ := st_bnd hF
  refine g_cv hw (g_runV (C := RX6) (As := [.int 1]) (rest := []) fx hw isO_9 rfl (c_X6_must l x D cy ad 1 H.size M33 M35 hgr34) wd6_169 wd6_171 wd0_88 wd1_8 wd6_172 yd_X6_must rfl rfl (Nat.le_of_ble_eq_true rfl) hl.1 ⟨Nat.le_trans (Nat.le_of_ble_eq_true rfl) hR.1, Nat.le_trans (Nat.le_of_ble_eq_true rfl) hR.2.1⟩ ⟨Nat.le_trans (Nat.le_of_ble_eq_true rfl) hR.2.2.1, Nat.le_trans (Nat.le_of_ble_eq_true rfl) hR.2.2.2⟩ dX6_readsWant_13) (fun H locs hw => ?_)
  refine lv_aload_n hx hb dX6_readsWant_16 rfl (lv_at hl 2 rfl) ?_
  refine gX6_get fx hw isO_9 15 (by decide) wd5_34 rfl dX6_readsWant_17 ?_
  refine lv_if_eq (tgt := 24) hx hb dX6_readsWant_20 (by decide) (fun hc20 => ?_) (fun hc20 => ?_)
  · replace hF := st_t hc20 hF
    refine lv_aload_n hx hb dX6_readsWant_24 rfl (lv_at hl 2 rfl) ?_
    refine lv_aload_n hx hb dX6_readsWant_25 rfl (lv_at hl 2 rfl) ?_
    refine lv_iload_n hx hb dX6_readsWant_26 rfl (lv_at hl 1 rfl) ?_
    refine lv_iconst (v := 3) hx hb dX6_readsWant_27 (by decide) ?_
    refine lv_iload_n hx hb dX6_readsWant_28 rfl (lv_at hl 0 rfl) ?_
    obtain ⟨r36, hgr36, hF⟩ := st_bnd hF
    refine g_cz hw (g_runV (C := RX6) (As := [.int r30, .int 3, .int r32]) (rest := [.ref (ad 9)]) fx hw isO_9 rfl (c_X6_isSet l x D cy ad r30 3 r32 H.size M35 r36 hgr36) wd5_173 wd5_175 wd0_55 wd1_8 wd5_176 yd_X6_isSet rfl rfl (Nat.le_of_ble_eq_true rfl) hl.1 ⟨Nat.le_trans (Nat.le_of_ble_eq_true rfl) hR.1, Nat.le_trans (Nat.le_of_ble_eq_true rfl) hR.2.1⟩ ⟨Nat.le_trans (Nat.le_of_ble_eq_true rfl) hR.2.2.1, Nat.le_trans (Nat.le_of_ble_eq_true rfl) hR.2.2.2⟩ dX6_readsWant_29) (fun H locs hbr36 hw => ?_)
    refine lv_if_eq (tgt := 40) hx hb dX6_readsWant_32 (by decide) (fun hc32 => ?_) (fun hc32 => ?_)
    · replace hF := st_t hc32 hF
      refine lv_iconst (v := 0) hx hb dX6_readsWant_40 (by decide) ?_
      exact n_41 r30 r32 0 M35 H locs ls (lv_sub hl [2, 1, 0] rfl) hw hF
    · replace hF := st_f hc32 hF
      refine lv_bipush (v := (-11)) hx hb dX6_readsWant_35 (by decide) ?_
      refine lv_goto (tgt := 41) hx hb dX6_readsWant_37 (by decide) ?_
      exact n_41 r30 r32 (-11) M35 H locs ls (lv_sub hl [2, 1, 0] rfl) hw hF
  · replace hF := st_f hc20 hF
    exact E _ _ _ _ _ dX6_readsWant_23 hw hF
theorem c_X6_readsWant (l : Launch) (x : SX) (D : va_G) (cy : Nat → ClassId) (ad : Nat → Nat) (sz : Nat) (M : Mem) (M' : Mem) (hF : f_X6_readsWant M = some M') : Met l yX6_readsWant (.code yX6_readsWant cX6_readsWant 3 none :: GB) ({ frames := 5, cells := 0, slots := 0, locals := 106 } : Room) (PcW D cy ad x sz M [.ref (ad 9)]) (QvW D cy ad sz M') 0 0 (AA ad sz) := by
  refine mk_m (own := RX6) (by decide) rfl (Nat.le_of_ble_eq_true rfl) ?_
  intro p e s m args below meth c ls fx hw hl hsz
  subst hsz
  exact b_X6_readsWant fx ⟨Nat.le_refl _, Nat.le_refl _, Nat.le_refl _, Nat.le_refl _⟩ M M' hF (fun pc ls H locs M1 hd hw h => by cases h; exact g_vret fx hw hd) _ _ ls hl hw
noncomputable def f_X6_readsTelling_75 : Int32 → Int32 → Int32 → Int32 → Int32 → Mem → Option Mem := fun a1 a2 a3 a4 t1 M => (bnd (f_X6_must t1 M) (fun M32 => (if (M32 9 15) = 0 then (bnd (f_X6_reason a1 a2 a3 a4 M32) (fun r33 => (bnd2 (f_X6_mayDo r33 M32) (fun r34 M35 => (if r34 = 0 then (some M35) else (bnd2 (f_X6_tells a1 a2 a3 a4 M35) (fun r36 M37 => (letM (mput M37 9 18 r36) (fun M38 => (some M38)))))))))) else (some M32))))
noncomputable def f_X6_readsTelling_70 : Int32 → Int32 → Int32 → Int32 → Mem → Option Mem := fun a1 a2 a3 a4 M => ((f_X6_readsTelling_75) a1 a2 a3 a4 1 M)
noncomputable def f_X6_readsTelling_51 : Int32 → Int32 → Int32 → Int32 → Mem → Option Mem := fun a1 a2 a3 t0 M => (if t0 = 2 then (bnd (f_X6_isWord 31 M) (fun r39 => (if r39 = 0 then ((f_X6_readsTelling_75) a1 a2 a3 t0 0 M) else ((f_X6_readsTelling_70) a1 a2 a3 t0 M)))) else ((f_X6_readsTelling_70) a1 a2 a3 t0 M))
noncomputable def f_X6_readsTelling (M : Mem) : Option Mem := (bnd2 (f_X6_takesMonk (-1) M) (fun r40 M41 => (bnd2 (f_X6_takesMonk r40 M41) (fun r42 M43 => (bnd2 (f_X6_needHere M43) (fun r44 M45 => (bnd (f_X6_must 1 M45) (fun M47 => (bnd (f_X6_isWord 29 M47) (fun r48 => (if r48 = 0 then (bnd (f_X6_isWord 30 M47) (fun r49 => (if r49 = 0 then ((f_X6_readsTelling_51) r40 r42 r44 2 M47) else ((f_X6_readsTelling_51) r40 r42 r44 1 M47)))) else ((f_X6_readsTelling_51) r40 r42 r44 0 M47))))))))))))
set_option maxHeartbeats 4000000 in
set_option maxRecDepth 100000 in
theorem b_X6_readsTelling {p : Program} {l : Launch} {e : Env} {R : Room} {s : State} {m : MethodId} {args : Array Value} {below : List Frame} {meth : Method} {c : Code} {Q : State → Prop} {D : va_G} {cy : Nat → ClassId} {ad : Nat → Nat} {x : SX} (fx : FX p s m args meth c cX6_readsTelling 5 none RX6 D cy ad x) (hR : 8 ≤ R.frames ∧ 181 ≤ R.locals ∧ 0 ≤ R.cells ∧ 0 ≤ R.slots) (M : Mem) (M' : Mem) (hF : f_X6_readsTelling M = some M') (E : ∀ (pc : Nat) (ls : Array Slot) (H : Heap) (locs : List Loc) (M1 : Mem), decode cX6_readsTelling pc = .ok (.return_, 1) → WD D cy ad s M1 H locs → some M1 = some M' → W p l e R s m args below meth c H locs 0 0 Q (F0 m pc ls [])) (H : Heap) (locs : List Loc) (ls : Array Slot) (hl : lv_has ls 5 [(0, .ref (ad 9))]) (hw : WD D cy ad s M H locs) : W p l e R s m args below meth c H locs 0 0 Q (F0 m 0 ls []) := by
  have hx := fx.1.1
  have hb := fx.1.2.1
  have hown := fx.1.2.2.2.1
  have hts := fx.1.2.2.2.2
  have n_75 : ∀ (a1 : Int32) (a2 : Int32) (a3 : Int32) (a4 : Int32) (t1 : Int32) (M : Mem) (H : Heap) (locs : List Loc) (ls : Array Slot), lv_has ls 5 [(0, .ref (ad 9)), (1, .int a1), (2, .int a2), (3, .int a3), (4, .int a4)] → WD D cy ad s M H locs → f_X6_readsTelling_75 a1 a2 a3 a4 t1 M = some M' → W p l e R s m args below meth c H locs 0 0 Q (F0 m 75 ls [.int t1, .ref (ad 9)]) := by
    intro a1 a2 a3 a4 t1 M H locs ls hl hw hF
    unfold f_X6_readsTelling_75 at hF
    obtain ⟨M32, hgr31, hF⟩ := st_bnd hF
    refine g_cv hw (g_runV (C := RX6) (As := [.int t1]) (rest := []) fx hw isO_9 rfl (c_X6_must l x D cy ad t1 H.size M M32 hgr31) wd6_169 wd6_171 wd0_88 wd1_8 wd6_172 yd_X6_must rfl rfl (Nat.le_of_ble_eq_true rfl) hl.1 ⟨Nat.le_trans (Nat.le_of_ble_eq_true rfl) hR.1, Nat.le_trans (Nat.le_of_ble_eq_true rfl) hR.2.1⟩ ⟨Nat.le_trans (Nat.le_of_ble_eq_true rfl) hR.2.2.1, Nat.le_trans (Nat.le_of_ble_eq_true rfl) hR.2.2.2⟩ dX6_readsTelling_75) (fun H locs hw => ?_)
    refine lv_aload_n hx hb dX6_readsTelling_78 rfl (lv_at hl 0 rfl) ?_
    refine gX6_get fx hw isO_9 15 (by decide) wd5_34 rfl dX6_readsTelling_79 ?_
    refine lv_if_eq (tgt := 86) hx hb dX6_readsTelling_82 (by decide) (fun hc82 => ?_) (fun hc82 => ?_)
    · replace hF := st_t hc82 hF
      refine lv_aload_n hx hb dX6_readsTelling_86 rfl (lv_at hl 0 rfl) ?_
      refine lv_aload_n hx hb dX6_readsTelling_87 rfl (lv_at hl 0 rfl) ?_
      refine lv_iload_n hx hb dX6_readsTelling_88 rfl (lv_at hl 1 rfl) ?_
      refine lv_iload_n hx hb dX6_readsTelling_89 rfl (lv_at hl 2 rfl) ?_
      refine lv_iload_n hx hb dX6_readsTelling_90 rfl (lv_at hl 3 rfl) ?_
      refine lv_iload hx hb dX6_readsTelling_91 (lv_at hl 4 rfl) ?_
      obtain ⟨r33, hgr33, hF⟩ := st_bnd hF
      refine g_ci hw (g_runV (C := RX6) (As := [.int a1, .int a2, .int a3, .int a4]) (rest := [.ref (ad 9)]) fx hw isO_9 rfl (c_X6_reason l x D cy ad a1 a2 a3 a4 H.size M32 r33 hgr33) wd5_193 wd5_195 wd0_57 wd1_8 wd5_196 yd_X6_reason rfl rfl (Nat.le_of_ble_eq_true rfl) hl.1 ⟨Nat.le_trans (Nat.le_of_ble_eq_true rfl) hR.1, Nat.le_trans (Nat.le_of_ble_eq_true rfl) hR.2.1⟩ ⟨Nat.le_trans (Nat.le_of_ble_eq_true rfl) hR.2.2.1, Nat.le_trans (Nat.le_of_ble_eq_true rfl) hR.2.2.2⟩ dX6_readsTelling_93) (fun H locs hw => ?_)
      obtain ⟨r34, M35, hgr34, hF⟩ := st_bnd2 hF
      refine g_cz hw (g_runV (C := RX6) (As := [.int r33]) (rest := []) fx hw isO_9 rfl (c_X6_mayDo l x D cy ad r33 H.size M32 r34 M35 hgr34) wd7_1 wd7_3 wd0_103 wd1_8 wd7_4 yd_X6_mayDo rfl rfl (Nat.le_of_ble_eq_true rfl) hl.1 ⟨Nat.le_trans (Nat.le_of_ble_eq_true rfl) hR.1, Nat.le_trans (Nat.le_of_ble_eq_true rfl) hR.2.1⟩ ⟨Nat.le_trans (Nat.le_of_ble_eq_true rfl) hR.2.2.1, Nat.le_trans (Nat.le_of_ble_eq_true rfl) hR.2.2.2⟩ dX6_readsTelling_96) (fun H locs hbr34 hw => ?_)
      refine lv_if_eq (tgt := 115) hx hb dX6_readsTelling_99 (by decide) (fun hc99 => ?_) (fun hc99 => ?_)
      · replace hF := st_t hc99 hF
        exact E _ _ _ _ _ dX6_readsTelling_115 hw hF
      · replace hF := st_f hc99 hF
        refine lv_aload_n hx hb dX6_readsTelling_102 rfl (lv_at hl 0 rfl) ?_
        refine lv_aload_n hx hb dX6_readsTelling_103 rfl (lv_at hl 0 rfl) ?_
        refine lv_iload_n hx hb dX6_readsTelling_104 rfl (lv_at hl 1 rfl) ?_
        refine lv_iload_n hx hb dX6_readsTelling_105 rfl (lv_at hl 2 rfl) ?_
        refine lv_iload_n hx hb dX6_readsTelling_106 rfl (lv_at hl 3 rfl) ?_
        refine lv_iload hx hb dX6_readsTelling_107 (lv_at hl 4 rfl) ?_
        obtain ⟨r36, M37, hgr36, hF⟩ := st_bnd2 hF
        refine g_ci hw (g_runV (C := RX6) (As := [.int a1, .int a2, .int a3, .int a4]) (rest := [.ref (ad 9)]) fx hw isO_9 rfl (c_X6_tells l x D cy ad a1 a2 a3 a4 H.size M35 r36 M37 hgr36) wd6_59 wd6_61 wd0_71 wd1_8 wd6_62 yd_X6_tells rfl rfl (Nat.le_of_ble_eq_true rfl) hl.1 ⟨Nat.le_trans (Nat.le_of_ble_eq_true rfl) hR.1, Nat.le_trans (Nat.le_of_ble_eq_true rfl) hR.2.1⟩ ⟨Nat.le_trans (Nat.le_of_ble_eq_true rfl) hR.2.2.1, Nat.le_trans (Nat.le_of_ble_eq_true rfl) hR.2.2.2⟩ dX6_readsTelling_109) (fun H locs hw => ?_)
        obtain ⟨M38, eM38, hF⟩ := st_letM hF
        refine gX6_put fx hw isO_9 18 (by decide) wd5_37 rfl eM38 rfl (Nat.le_of_ble_eq_true rfl) dX6_readsTelling_112 (fun H locs hw => ?_)
        exact E _ _ _ _ _ dX6_readsTelling_115 hw hF
    · replace hF := st_f hc82 hF
      exact E _ _ _ _ _ dX6_readsTelling_85 hw hF
  have n_70 : ∀ (a1 : Int32) (a2 : Int32) (a3 : Int32) (a4 : Int32) (M : Mem) (H : Heap) (locs : List Loc) (ls : Array Slot), lv_has ls 5 [(0, .ref (ad 9)), (1, .int a1), (2, .int a2), (3, .int a3), (4, .int a4)] → WD D cy ad s M H locs → f_X6_readsTelling_70 a1 a2 a3 a4 M = some M' → W p l e R s m args below meth c H locs 0 0 Q (F0 m 70 ls [.ref (ad 9)]) := by
    intro a1 a2 a3 a4 M H locs ls hl hw hF
    unfold f_X6_readsTelling_70 at hF
    refine lv_iconst (v := 1) hx hb dX6_readsTelling_70 (by decide) ?_
    refine lv_goto (tgt := 75) hx hb dX6_readsTelling_71 (by decide) ?_
    exact n_75 a1 a2 a3 a4 1 M H locs ls (lv_sub hl [0, 1, 2, 3, 4] rfl) hw hF
  have n_51 : ∀ (a1 : Int32) (a2 : Int32) (a3 : Int32) (t0 : Int32) (M : Mem) (H : Heap) (locs : List Loc) (ls : Array Slot), lv_has ls 5 [(0, .ref (ad 9)), (1, .int a1), (2, .int a2), (3, .int a3)] → WD D cy ad s M H locs → f_X6_readsTelling_51 a1 a2 a3 t0 M = some M' → W p l e R s m args below meth c H locs 0 0 Q (F0 m 51 ls [.int t0]) := by
    intro a1 a2 a3 t0 M H locs ls hl hw hF
    unfold f_X6_readsTelling_51 at hF
    refine lv_istore (lv' := [(4, .int t0), (0, .ref (ad 9)), (1, .int a1), (2, .int a2), (3, .int a3)]) hx hb dX6_readsTelling_51 hl (by decide) rfl (fun ls hl => ?_)
    refine lv_aload_n hx hb dX6_readsTelling_53 rfl (lv_at hl 1 rfl) ?_
    refine lv_iload hx hb dX6_readsTelling_54 (lv_at hl 0 rfl) ?_
    refine lv_iconst (v := 2) hx hb dX6_readsTelling_56 (by decide) ?_
    refine lv_icmp_ne (tgt := 70) hx hb dX6_readsTelling_57 (by decide) (fun hc57 => ?_) (fun hc57 => ?_)
    · replace hF := st_f hc57 hF
      exact n_70 a1 a2 a3 t0 M H locs ls (lv_sub hl [1, 2, 3, 4, 0] rfl) hw hF
    · replace hF := st_t hc57 hF
      refine lv_aload_n hx hb dX6_readsTelling_60 rfl (lv_at hl 1 rfl) ?_
      refine g_ldcSW hx hb hown (fx.2.2.2.2.str (w := 31) (by decide)).1 dX6_readsTelling_61 ?_
      obtain ⟨r39, hgr39, hF⟩ := st_bnd hF
      refine g_cz hw (g_runV (C := RX6) (As := [.ref (x.1 31)]) (rest := [.ref (ad 9)]) fx hw isO_9 rfl (c_X6_isWord l x D cy ad 31 (by decide) H.size M r39 hgr39) wd6_163 wd6_165 wd0_87 wd1_8 wd6_166 yd_X6_isWord rfl rfl (Nat.le_of_ble_eq_true rfl) hl.1 ⟨Nat.le_trans (Nat.le_of_ble_eq_true rfl) hR.1, Nat.le_trans (Nat.le_of_ble_eq_true rfl) hR.2.1⟩ ⟨Nat.le_trans (Nat.le_of_ble_eq_true rfl) hR.2.2.1, Nat.le_trans (Nat.le_of_ble_eq_true rfl) hR.2.2.2⟩ dX6_readsTelling_64) (fun H locs hbr39 hw => ?_)
      refine lv_if_eq (tgt := 74) hx hb dX6_readsTelling_67 (by decide) (fun hc67 => ?_) (fun hc67 => ?_)
      · replace hF := st_t hc67 hF
        refine lv_iconst (v := 0) hx hb dX6_readsTelling_74 (by decide) ?_
        exact n_75 a1 a2 a3 t0 0 M H locs ls (lv_sub hl [1, 2, 3, 4, 0] rfl) hw hF
      · replace hF := st_f hc67 hF
        exact n_70 a1 a2 a3 t0 M H locs ls (lv_sub hl [1, 2, 3, 4, 0] rfl) hw hF
  unfold f_X6_readsTelling at hF
  refine lv_aload_n hx hb dX6_readsTelling_0 rfl (lv_at hl 0 rfl) ?_
  refine lv_iconst (v := (-1)) hx hb dX6_readsTelling_1 (by decide) ?_
  obtain ⟨r40, M41, hgr40, hF⟩ := st_bnd2 hF
  refine g_ci hw (g_runV (C := RX6) (As := [.int (-1)]) (rest := []) fx hw isO_9 rfl (c_X6_takesMonk l x D cy ad (-1) H.size M r40 M41 hgr40) wd6_237 wd6_239 wd0_102 wd1_8 wd7_0 yd_X6_takesMonk rfl rfl (Nat.le_of_ble_eq_true rfl) hl.1 ⟨Nat.le_trans (Nat.le_of_ble_eq_true rfl) hR.1, Nat.le_trans (Nat.le_of_ble_eq_true rfl) hR.2.1⟩ ⟨Nat.le_trans (Nat.le_of_ble_eq_true rfl) hR.2.2.1, Nat.le_trans (Nat.le_of_ble_eq_true rfl) hR.2.2.2⟩ dX6_readsTelling_2) (fun H locs hw => ?_)
  refine lv_istore_n (lv' := [(1, .int r40), (0, .ref (ad 9))]) hx hb dX6_readsTelling_5 rfl hl (by decide) rfl (fun ls hl => ?_)
  refine lv_aload_n hx hb dX6_readsTelling_6 rfl (lv_at hl 1 rfl) ?_
  refine lv_iload_n hx hb dX6_readsTelling_7 rfl (lv_at hl 0 rfl) ?_
  obtain ⟨r42, M43, hgr42, hF⟩ := st_bnd2 hF
  refine g_ci hw (g_runV (C := RX6) (As := [.int r40]) (rest := []) fx hw isO_9 rfl (c_X6_takesMonk l x D cy ad r40 H.size M41 r42 M43 hgr42) wd6_237 wd6_239 wd0_102 wd1_8 wd7_0 yd_X6_takesMonk rfl rfl (Nat.le_of_ble_eq_true rfl) hl.1 ⟨Nat.le_trans (Nat.le_of_ble_eq_true rfl) hR.1, Nat.le_trans (Nat.le_of_ble_eq_true rfl) hR.2.1⟩ ⟨Nat.le_trans (Nat.le_of_ble_eq_true rfl) hR.2.2.1, Nat.le_trans (Nat.le_of_ble_eq_true rfl) hR.2.2.2⟩ dX6_readsTelling_8) (fun H locs hw => ?_)
  refine lv_istore_n (lv' := [(2, .int r42), (1, .int r40), (0, .ref (ad 9))]) hx hb dX6_readsTelling_11 rfl hl (by decide) rfl (fun ls hl => ?_)
  refine lv_aload_n hx hb dX6_readsTelling_12 rfl (lv_at hl 2 rfl) ?_
  obtain ⟨r44, M45, hgr44, hF⟩ := st_bnd2 hF
  refine g_ci hw (g_runV (C := RX6) (As := []) (rest := []) fx hw isO_9 rfl (c_X6_needHere l x D cy ad H.size M43 r44 M45 hgr44) wd6_214 wd6_216 wd0_98 wd1_8 wd6_217 yd_X6_needHere rfl rfl (Nat.le_of_ble_eq_true rfl) hl.1 ⟨Nat.le_trans (Nat.le_of_ble_eq_true rfl) hR.1, Nat.le_trans (Nat.le_of_ble_eq_true rfl) hR.2.1⟩ ⟨Nat.le_trans (Nat.le_of_ble_eq_true rfl) hR.2.2.1, Nat.le_trans (Nat.le_of_ble_eq_true rfl) hR.2.2.2⟩ dX6_readsTelling_13) (fun H locs hw => ?_)
  refine lv_istore_n (lv' := [(3, .int r44), (2, .int r42), (1, .int r40), (0, .ref (ad 9))]) hx hb dX6_readsTelling_16 rfl hl (by decide) rfl (fun ls hl => ?_)
  refine lv_aload_n hx hb dX6_readsTelling_17 rfl (lv_at hl 3 rfl) ?_
  refine lv_iconst (v := 1) hx hb dX6_readsTelling_18 (by decide) ?_
  obtain ⟨M47, hgr46, hF⟩ := st_bnd hF
  refine g_cv hw (g_runV (C := RX6) (As := [.int 1]) (rest := []) fx hw isO_9 rfl (c_X6_must l x D cy ad 1 H.size M45 M47 hgr46) wd6_169 wd6_171 wd0_88 wd1_8 wd6_172 yd_X6_must rfl rfl (Nat.le_of_ble_eq_true rfl) hl.1 ⟨Nat.le_trans (Nat.le_of_ble_eq_true rfl) hR.1, Nat.le_trans (Nat.le_of_ble_eq_true rfl) hR.2.1⟩ ⟨Nat.le_trans (Nat.le_of_ble_eq_true rfl) hR.2.2.1, Nat.le_trans (Nat.le_of_ble_eq_true rfl) hR.2.2.2⟩ dX6_readsTelling_19) (fun H locs hw => ?_)
  refine lv_aload_n hx hb dX6_readsTelling_22 rfl (lv_at hl 3 rfl) ?_
  refine g_ldcSW hx hb hown (fx.2.2.2.2.str (w := 29) (by decide)).1 dX6_readsTelling_23 ?_
  obtain ⟨r48, hgr48, hF⟩ := st_bnd hF
  refine g_cz hw (g_runV (C := RX6) (As := [.ref (x.1 29)]) (rest := []) fx hw isO_9 rfl (c_X6_isWord l x D cy ad 29 (by decide) H.size M47 r48 hgr48) wd6_163 wd6_165 wd0_87 wd1_8 wd6_166 yd_X6_isWord rfl rfl (Nat.le_of_ble_eq_true rfl) hl.1 ⟨Nat.le_trans (Nat.le_of_ble_eq_true rfl) hR.1, Nat.le_trans (Nat.le_of_ble_eq_true rfl) hR.2.1⟩ ⟨Nat.le_trans (Nat.le_of_ble_eq_true rfl) hR.2.2.1, Nat.le_trans (Nat.le_of_ble_eq_true rfl) hR.2.2.2⟩ dX6_readsTelling_26) (fun H locs hbr48 hw => ?_)
  refine lv_if_eq (tgt := 36) hx hb dX6_readsTelling_29 (by decide) (fun hc29 => ?_) (fun hc29 => ?_)
  · replace hF := st_t hc29 hF
    refine lv_aload_n hx hb dX6_readsTelling_36 rfl (lv_at hl 3 rfl) ?_
    refine g_ldcSW hx hb hown (fx.2.2.2.2.str (w := 30) (by decide)).1 dX6_readsTelling_37 ?_
    obtain ⟨r49, hgr49, hF⟩ := st_bnd hF
    refine g_cz hw (g_runV (C := RX6) (As := [.ref (x.1 30)]) (rest := []) fx hw isO_9 rfl (c_X6_isWord l x D cy ad 30 (by decide) H.size M47 r49 hgr49) wd6_163 wd6_165 wd0_87 wd1_8 wd6_166 yd_X6_isWord rfl rfl (Nat.le_of_ble_eq_true rfl) hl.1 ⟨Nat.le_trans (Nat.le_of_ble_eq_true rfl) hR.1, Nat.le_trans (Nat.le_of_ble_eq_true rfl) hR.2.1⟩ ⟨Nat.le_trans (Nat.le_of_ble_eq_true rfl) hR.2.2.1, Nat.le_trans (Nat.le_of_ble_eq_true rfl) hR.2.2.2⟩ dX6_readsTelling_40) (fun H locs hbr49 hw => ?_)
    refine lv_if_eq (tgt := 50) hx hb dX6_readsTelling_43 (by decide) (fun hc43 => ?_) (fun hc43 => ?_)
    · replace hF := st_t hc43 hF
      refine lv_iconst (v := 2) hx hb dX6_readsTelling_50 (by decide) ?_
      exact n_51 r40 r42 r44 2 M47 H locs ls (lv_sub hl [3, 2, 1, 0] rfl) hw hF
    · replace hF := st_f hc43 hF
      refine lv_iconst (v := 1) hx hb dX6_readsTelling_46 (by decide) ?_
      refine lv_goto (tgt := 51) hx hb dX6_readsTelling_47 (by decide) ?_
      exact n_51 r40 r42 r44 1 M47 H locs ls (lv_sub hl [3, 2, 1, 0] rfl) hw hF
  · replace hF := st_f hc29 hF
    refine lv_iconst (v := 0) hx hb dX6_readsTelling_32 (by decide) ?_
    refine lv_goto (tgt := 51) hx hb dX6_readsTelling_33 (by decide) ?_
    exact n_51 r40 r42 r44 0 M47 H locs ls (lv_sub hl [3, 2, 1, 0] rfl) hw hF
theorem c_X6_readsTelling (l : Launch) (x : SX) (D : va_G) (cy : Nat → ClassId) (ad : Nat → Nat) (sz : Nat) (M : Mem) (M' : Mem) (hF : f_X6_readsTelling M = some M') : Met l yX6_readsTelling (.code yX6_readsTelling cX6_readsTelling 5 none :: GB) ({ frames := 8, cells := 0, slots := 0, locals := 181 } : Room) (PcW D cy ad x sz M [.ref (ad 9)]) (QvW D cy ad sz M') 0 0 (AA ad sz) := by
  refine mk_m (own := RX6) (by decide) rfl (Nat.le_of_ble_eq_true rfl) ?_
  intro p e s m args below meth c ls fx hw hl hsz
  subst hsz
  exact b_X6_readsTelling fx ⟨Nat.le_refl _, Nat.le_refl _, Nat.le_refl _, Nat.le_refl _⟩ M M' hF (fun pc ls H locs M1 hd hw h => by cases h; exact g_vret fx hw hd) _ _ ls hl hw
noncomputable def f_X6_readsGift (M : Mem) : Option Mem := (bnd2 (f_X6_takesMonk (-1) M) (fun r13 M14 => (bnd2 (f_X6_takesMonk r13 M14) (fun r15 M16 => (bnd2 (f_X6_takes 1 50 M16) (fun r17 M18 => (if (M18 9 15) = 0 then (bnd (f_X6_refusalOfGift r13 r15 r17 M18) (fun r19 => (bnd2 (f_X6_mayDo r19 M18) (fun r20 M21 => (if r20 = 0 then (some M21) else (bnd2 (f_X6_gives r13 r15 r17 M21) (fun r22 M23 => (letM (mput M23 9 18 r22) (fun M24 => (some M24)))))))))) else (some M18))))))))
set_option maxHeartbeats 4000000 in
set_option maxRecDepth 100000 in
theorem b_X6_readsGift {p : Program} {l : Launch} {e : Env} {R : Room} {s : State} {m : MethodId} {args : Array Value} {below : List Frame} {meth : Method} {c : Code} {Q : State → Prop} {D : va_G} {cy : Nat → ClassId} {ad : Nat → Nat} {x : SX} (fx : FX p s m args meth c cX6_readsGift 4 none RX6 D cy ad x) (hR : 5 ≤ R.frames ∧ 107 ≤ R.locals ∧ 0 ≤ R.cells ∧ 0 ≤ R.slots) (M : Mem) (M' : Mem) (hF : f_X6_readsGift M = some M') (E : ∀ (pc : Nat) (ls : Array Slot) (H : Heap) (locs : List Loc) (M1 : Mem), decode cX6_readsGift pc = .ok (.return_, 1) → WD D cy ad s M1 H locs → some M1 = some M' → W p l e R s m args below meth c H locs 0 0 Q (F0 m pc ls [])) (H : Heap) (locs : List Loc) (ls : Array Slot) (hl : lv_has ls 4 [(0, .ref (ad 9))]) (hw : WD D cy ad s M H locs) : W p l e R s m args below meth c H locs 0 0 Q (F0 m 0 ls []) := by
  have hx := fx.1.1
  have hb := fx.1.2.1
  have hown := fx.1.2.2.2.1
  have hts := fx.1.2.2.2.2
  unfold f_X6_readsGift at hF
  refine lv_aload_n hx hb dX6_readsGift_0 rfl (lv_at hl 0 rfl) ?_
  refine lv_iconst (v := (-1)) hx hb dX6_readsGift_1 (by decide) ?_
  obtain ⟨r13, M14, hgr13, hF⟩ := st_bnd2 hF
  refine g_ci hw (g_runV (C := RX6) (As := [.int (-1)]) (rest := []) fx hw isO_9 rfl (c_X6_takesMonk l x D cy ad (-1) H.size M r13 M14 hgr13) wd6_237 wd6_239 wd0_102 wd1_8 wd7_0 yd_X6_takesMonk rfl rfl (Nat.le_of_ble_eq_true rfl) hl.1 ⟨Nat.le_trans (Nat.le_of_ble_eq_true rfl) hR.1, Nat.le_trans (Nat.le_of_ble_eq_true rfl) hR.2.1⟩ ⟨Nat.le_trans (Nat.le_of_ble_eq_true rfl) hR.2.2.1, Nat.le_trans (Nat.le_of_ble_eq_true rfl) hR.2.2.2⟩ dX6_readsGift_2) (fun H locs hw => ?_)
  refine lv_istore_n (lv' := [(1, .int r13), (0, .ref (ad 9))]) hx hb dX6_readsGift_5 rfl hl (by decide) rfl (fun ls hl => ?_)
  refine lv_aload_n hx hb dX6_readsGift_6 rfl (lv_at hl 1 rfl) ?_
  refine lv_iload_n hx hb dX6_readsGift_7 rfl (lv_at hl 0 rfl) ?_
  obtain ⟨r15, M16, hgr15, hF⟩ := st_bnd2 hF
  refine g_ci hw (g_runV (C := RX6) (As := [.int r13]) (rest := []) fx hw isO_9 rfl (c_X6_takesMonk l x D cy ad r13 H.size M14 r15 M16 hgr15) wd6_237 wd6_239 wd0_102 wd1_8 wd7_0 yd_X6_takesMonk rfl rfl (Nat.le_of_ble_eq_true rfl) hl.1 ⟨Nat.le_trans (Nat.le_of_ble_eq_true rfl) hR.1, Nat.le_trans (Nat.le_of_ble_eq_true rfl) hR.2.1⟩ ⟨Nat.le_trans (Nat.le_of_ble_eq_true rfl) hR.2.2.1, Nat.le_trans (Nat.le_of_ble_eq_true rfl) hR.2.2.2⟩ dX6_readsGift_8) (fun H locs hw => ?_)
  refine lv_istore_n (lv' := [(2, .int r15), (1, .int r13), (0, .ref (ad 9))]) hx hb dX6_readsGift_11 rfl hl (by decide) rfl (fun ls hl => ?_)
  refine lv_aload_n hx hb dX6_readsGift_12 rfl (lv_at hl 2 rfl) ?_
  refine lv_iconst (v := 1) hx hb dX6_readsGift_13 (by decide) ?_
  refine lv_bipush (v := 50) hx hb dX6_readsGift_14 (by decide) ?_
  obtain ⟨r17, M18, hgr17, hF⟩ := st_bnd2 hF
  refine g_ci hw (g_runV (C := RX6) (As := [.int 1, .int 50]) (rest := []) fx hw isO_9 rfl (c_X6_takes l x D cy ad 1 50 H.size M16 r17 M18 hgr17) wd6_177 wd6_179 wd0_90 wd1_8 wd6_180 yd_X6_takes rfl rfl (Nat.le_of_ble_eq_true rfl) hl.1 ⟨Nat.le_trans (Nat.le_of_ble_eq_true rfl) hR.1, Nat.le_trans (Nat.le_of_ble_eq_true rfl) hR.2.1⟩ ⟨Nat.le_trans (Nat.le_of_ble_eq_true rfl) hR.2.2.1, Nat.le_trans (Nat.le_of_ble_eq_true rfl) hR.2.2.2⟩ dX6_readsGift_16) (fun H locs hw => ?_)
  refine lv_istore_n (lv' := [(3, .int r17), (2, .int r15), (1, .int r13), (0, .ref (ad 9))]) hx hb dX6_readsGift_19 rfl hl (by decide) rfl (fun ls hl => ?_)
  refine lv_aload_n hx hb dX6_readsGift_20 rfl (lv_at hl 3 rfl) ?_
  refine gX6_get fx hw isO_9 15 (by decide) wd5_34 rfl dX6_readsGift_21 ?_
  refine lv_if_eq (tgt := 28) hx hb dX6_readsGift_24 (by decide) (fun hc24 => ?_) (fun hc24 => ?_)
  · replace hF := st_t hc24 hF
    refine lv_aload_n hx hb dX6_readsGift_28 rfl (lv_at hl 3 rfl) ?_
    refine lv_aload_n hx hb dX6_readsGift_29 rfl (lv_at hl 3 rfl) ?_
    refine lv_iload_n hx hb dX6_readsGift_30 rfl (lv_at hl 2 rfl) ?_
    refine lv_iload_n hx hb dX6_readsGift_31 rfl (lv_at hl 1 rfl) ?_
    refine lv_iload_n hx hb dX6_readsGift_32 rfl (lv_at hl 0 rfl) ?_
    obtain ⟨r19, hgr19, hF⟩ := st_bnd hF
    refine g_ci hw (g_runV (C := RX6) (As := [.int r13, .int r15, .int r17]) (rest := [.ref (ad 9)]) fx hw isO_9 rfl (c_X6_refusalOfGift l x D cy ad r13 r15 r17 H.size M18 r19 hgr19) wd6_75 wd6_77 wd0_74 wd1_8 wd6_78 yd_X6_refusalOfGift rfl rfl (Nat.le_of_ble_eq_true rfl) hl.1 ⟨Nat.le_trans (Nat.le_of_ble_eq_true rfl) hR.1, Nat.le_trans (Nat.le_of_ble_eq_true rfl) hR.2.1⟩ ⟨Nat.le_trans (Nat.le_of_ble_eq_true rfl) hR.2.2.1, Nat.le_trans (Nat.le_of_ble_eq_true rfl) hR.2.2.2⟩ dX6_readsGift_33) (fun H locs hw => ?_)
    obtain ⟨r20, M21, hgr20, hF⟩ := st_bnd2 hF
    refine g_cz hw (g_runV (C := RX6) (As := [.int r19]) (rest := []) fx hw isO_9 rfl (c_X6_mayDo l x D cy ad r19 H.size M18 r20 M21 hgr20) wd7_1 wd7_3 wd0_103 wd1_8 wd7_4 yd_X6_mayDo rfl rfl (Nat.le_of_ble_eq_true rfl) hl.1 ⟨Nat.le_trans (Nat.le_of_ble_eq_true rfl) hR.1, Nat.le_trans (Nat.le_of_ble_eq_true rfl) hR.2.1⟩ ⟨Nat.le_trans (Nat.le_of_ble_eq_true rfl) hR.2.2.1, Nat.le_trans (Nat.le_of_ble_eq_true rfl) hR.2.2.2⟩ dX6_readsGift_36) (fun H locs hbr20 hw => ?_)
    refine lv_if_eq (tgt := 53) hx hb dX6_readsGift_39 (by decide) (fun hc39 => ?_) (fun hc39 => ?_)
    · replace hF := st_t hc39 hF
      exact E _ _ _ _ _ dX6_readsGift_53 hw hF
    · replace hF := st_f hc39 hF
      refine lv_aload_n hx hb dX6_readsGift_42 rfl (lv_at hl 3 rfl) ?_
      refine lv_aload_n hx hb dX6_readsGift_43 rfl (lv_at hl 3 rfl) ?_
      refine lv_iload_n hx hb dX6_readsGift_44 rfl (lv_at hl 2 rfl) ?_
      refine lv_iload_n hx hb dX6_readsGift_45 rfl (lv_at hl 1 rfl) ?_
      refine lv_iload_n hx hb dX6_readsGift_46 rfl (lv_at hl 0 rfl) ?_
      obtain ⟨r22, M23, hgr22, hF⟩ := st_bnd2 hF
      refine g_ci hw (g_runV (C := RX6) (As := [.int r13, .int r15, .int r17]) (rest := [.ref (ad 9)]) fx hw isO_9 rfl (c_X6_gives l x D cy ad r13 r15 r17 H.size M21 r22 M23 hgr22) wd6_79 wd6_81 wd0_75 wd1_8 wd6_82 yd_X6_gives rfl rfl (Nat.le_of_ble_eq_true rfl) hl.1 ⟨Nat.le_trans (Nat.le_of_ble_eq_true rfl) hR.1, Nat.le_trans (Nat.le_of_ble_eq_true rfl) hR.2.1⟩ ⟨Nat.le_trans (Nat.le_of_ble_eq_true rfl) hR.2.2.1, Nat.le_trans (Nat.le_of_ble_eq_true rfl) hR.2.2.2⟩ dX6_readsGift_47) (fun H locs hw => ?_)
      obtain ⟨M24, eM24, hF⟩ := st_letM hF
      refine gX6_put fx hw isO_9 18 (by decide) wd5_37 rfl eM24 rfl (Nat.le_of_ble_eq_true rfl) dX6_readsGift_50 (fun H locs hw => ?_)
      exact E _ _ _ _ _ dX6_readsGift_53 hw hF
  · replace hF := st_f hc24 hF
    exact E _ _ _ _ _ dX6_readsGift_27 hw hF
theorem c_X6_readsGift (l : Launch) (x : SX) (D : va_G) (cy : Nat → ClassId) (ad : Nat → Nat) (sz : Nat) (M : Mem) (M' : Mem) (hF : f_X6_readsGift M = some M') : Met l yX6_readsGift (.code yX6_readsGift cX6_readsGift 4 none :: GB) ({ frames := 5, cells := 0, slots := 0, locals := 107 } : Room) (PcW D cy ad x sz M [.ref (ad 9)]) (QvW D cy ad sz M') 0 0 (AA ad sz) := by
  refine mk_m (own := RX6) (by decide) rfl (Nat.le_of_ble_eq_true rfl) ?_
  intro p e s m args below meth c ls fx hw hl hsz
  subst hsz
  exact b_X6_readsGift fx ⟨Nat.le_refl _, Nat.le_refl _, Nat.le_refl _, Nat.le_refl _⟩ M M' hF (fun pc ls H locs M1 hd hw h => by cases h; exact g_vret fx hw hd) _ _ ls hl hw
noncomputable def f_X6_readsDeed_118 : Mem → Option (Int32 × Mem) := fun M => (if (M 9 15) = 0 then (some (1, M)) else (some (0, M)))
noncomputable def f_X6_readsDeed_48 : Int32 → Int32 → Int32 → Mem → Option (Int32 × Mem) := fun a1 a2 a3 M => (bnd (f_X6_must 1 M) (fun M42 => (if a1 = 0 then (if a2 = 0 then (if a3 = 0 then (bnd2 (f_X6_takes 1 99 M42) (fun r43 M44 => (bnd (f_X6_refusalOfHours r43 M44) (fun r45 => (bnd2 (f_X6_mayDo r45 M44) (fun r46 M47 => (if r46 = 0 then ((f_X6_readsDeed_118) M47) else (bnd2 (f_X6_passes r43 M47) (fun r48 M49 => (letM (mput M49 9 18 r48) (fun M50 => ((f_X6_readsDeed_118) M50)))))))))))) else (bnd (f_X6_readsGift M42) (fun M52 => ((f_X6_readsDeed_118) M52)))) else (bnd (f_X6_readsTelling M42) (fun M54 => ((f_X6_readsDeed_118) M54)))) else (bnd (f_X6_readsWant M42) (fun M56 => ((f_X6_readsDeed_118) M56))))))
noncomputable def f_X6_readsDeed (M : Mem) : Option (Int32 × Mem) := (bnd (f_X6_isWord 25 M) (fun r57 => (bnd (f_X6_isWord 26 M) (fun r58 => (bnd (f_X6_isWord 27 M) (fun r59 => (if r57 = 0 then (if r58 = 0 then (if r59 = 0 then (bnd (f_X6_isWord 28 M) (fun r60 => (if r60 = 0 then (some (0, M)) else ((f_X6_readsDeed_48) r57 r58 r59 M)))) else ((f_X6_readsDeed_48) r57 r58 r59 M)) else ((f_X6_readsDeed_48) r57 r58 r59 M)) else ((f_X6_readsDeed_48) r57 r58 r59 M))))))))
set_option maxHeartbeats 4000000 in
set_option maxRecDepth 100000 in
theorem b_X6_readsDeed {p : Program} {l : Launch} {e : Env} {R : Room} {s : State} {m : MethodId} {args : Array Value} {below : List Frame} {meth : Method} {c : Code} {Q : State → Prop} {D : va_G} {cy : Nat → ClassId} {ad : Nat → Nat} {x : SX} (fx : FX p s m args meth c cX6_readsDeed 5 (some .boolean) RX6 D cy ad x) (hR : 9 ≤ R.frames ∧ 205 ≤ R.locals ∧ 0 ≤ R.cells ∧ 0 ≤ R.slots) (M : Mem) (z : Int32) (M' : Mem) (hF : f_X6_readsDeed M = some (z, M')) (E : ∀ (pc : Nat) (ls : Array Slot) (H : Heap) (locs : List Loc) (v : Int32) (M1 : Mem), decode cX6_readsDeed pc = .ok (.ireturn, 1) → (v = 0 ∨ v = 1) → WD D cy ad s M1 H locs → some (v, M1) = some (z, M') → W p l e R s m args below meth c H locs 0 0 Q (F0 m pc ls [.int v])) (H : Heap) (locs : List Loc) (ls : Array Slot) (hl : lv_has ls 5 [(0, .ref (ad 9))]) (hw : WD D cy ad s M H locs) : W p l e R s m args below meth c H locs 0 0 Q (F0 m 0 ls []) := by
  have hx := fx.1.1
  have hb := fx.1.2.1
  have hown := fx.1.2.2.2.1
  have hts := fx.1.2.2.2.2
  have n_118 : ∀ (M : Mem) (H : Heap) (locs : List Loc) (ls : Array Slot), lv_has ls 5 [(0, .ref (ad 9))] → WD D cy ad s M H locs → f_X6_readsDeed_118 M = some (z, M') → W p l e R s m args below meth c H locs 0 0 Q (F0 m 118 ls []) := by
    intro M H locs ls hl hw hF
    unfold f_X6_readsDeed_118 at hF
    refine lv_aload_n hx hb dX6_readsDeed_118 rfl (lv_at hl 0 rfl) ?_
    refine gX6_get fx hw isO_9 15 (by decide) wd5_34 rfl dX6_readsDeed_119 ?_
    refine lv_if_ne (tgt := 129) hx hb dX6_readsDeed_122 (by decide) (fun hc122 => ?_) (fun hc122 => ?_)
    · replace hF := st_f hc122 hF
      refine lv_iconst (v := 0) hx hb dX6_readsDeed_129 (by decide) ?_
      exact E _ _ _ _ _ _ dX6_readsDeed_130 (Or.inl rfl) hw hF
    · replace hF := st_t hc122 hF
      refine lv_iconst (v := 1) hx hb dX6_readsDeed_125 (by decide) ?_
      refine lv_goto (tgt := 130) hx hb dX6_readsDeed_126 (by decide) ?_
      exact E _ _ _ _ _ _ dX6_readsDeed_130 (Or.inr rfl) hw hF
  have n_48 : ∀ (a1 : Int32) (a2 : Int32) (a3 : Int32) (M : Mem) (H : Heap) (locs : List Loc) (ls : Array Slot), lv_has ls 5 [(0, .ref (ad 9)), (1, .int a1), (2, .int a2), (3, .int a3)] → WD D cy ad s M H locs → f_X6_readsDeed_48 a1 a2 a3 M = some (z, M') → W p l e R s m args below meth c H locs 0 0 Q (F0 m 48 ls []) := by
    intro a1 a2 a3 M H locs ls hl hw hF
    unfold f_X6_readsDeed_48 at hF
    refine lv_aload_n hx hb dX6_readsDeed_48 rfl (lv_at hl 0 rfl) ?_
    refine lv_iconst (v := 1) hx hb dX6_readsDeed_49 (by decide) ?_
    obtain ⟨M42, hgr41, hF⟩ := st_bnd hF
    refine g_cv hw (g_runV (C := RX6) (As := [.int 1]) (rest := []) fx hw isO_9 rfl (c_X6_must l x D cy ad 1 H.size M M42 hgr41) wd6_169 wd6_171 wd0_88 wd1_8 wd6_172 yd_X6_must rfl rfl (Nat.le_of_ble_eq_true rfl) hl.1 ⟨Nat.le_trans (Nat.le_of_ble_eq_true rfl) hR.1, Nat.le_trans (Nat.le_of_ble_eq_true rfl) hR.2.1⟩ ⟨Nat.le_trans (Nat.le_of_ble_eq_true rfl) hR.2.2.1, Nat.le_trans (Nat.le_of_ble_eq_true rfl) hR.2.2.2⟩ dX6_readsDeed_50) (fun H locs hw => ?_)
    refine lv_iload_n hx hb dX6_readsDeed_53 rfl (lv_at hl 1 rfl) ?_
    refine lv_if_eq (tgt := 64) hx hb dX6_readsDeed_54 (by decide) (fun hc54 => ?_) (fun hc54 => ?_)
    · replace hF := st_t hc54 hF
      refine lv_iload_n hx hb dX6_readsDeed_64 rfl (lv_at hl 2 rfl) ?_
      refine lv_if_eq (tgt := 75) hx hb dX6_readsDeed_65 (by decide) (fun hc65 => ?_) (fun hc65 => ?_)
      · replace hF := st_t hc65 hF
        refine lv_iload_n hx hb dX6_readsDeed_75 rfl (lv_at hl 3 rfl) ?_
        refine lv_if_eq (tgt := 86) hx hb dX6_readsDeed_76 (by decide) (fun hc76 => ?_) (fun hc76 => ?_)
        · replace hF := st_t hc76 hF
          refine lv_aload_n hx hb dX6_readsDeed_86 rfl (lv_at hl 0 rfl) ?_
          refine lv_iconst (v := 1) hx hb dX6_readsDeed_87 (by decide) ?_
          refine lv_bipush (v := 99) hx hb dX6_readsDeed_88 (by decide) ?_
          obtain ⟨r43, M44, hgr43, hF⟩ := st_bnd2 hF
          refine g_ci hw (g_runV (C := RX6) (As := [.int 1, .int 99]) (rest := []) fx hw isO_9 rfl (c_X6_takes l x D cy ad 1 99 H.size M42 r43 M44 hgr43) wd6_177 wd6_179 wd0_90 wd1_8 wd6_180 yd_X6_takes rfl rfl (Nat.le_of_ble_eq_true rfl) hl.1 ⟨Nat.le_trans (Nat.le_of_ble_eq_true rfl) hR.1, Nat.le_trans (Nat.le_of_ble_eq_true rfl) hR.2.1⟩ ⟨Nat.le_trans (Nat.le_of_ble_eq_true rfl) hR.2.2.1, Nat.le_trans (Nat.le_of_ble_eq_true rfl) hR.2.2.2⟩ dX6_readsDeed_90) (fun H locs hw => ?_)
          refine lv_istore (lv' := [(4, .int r43), (0, .ref (ad 9)), (1, .int a1), (2, .int a2), (3, .int a3)]) hx hb dX6_readsDeed_93 hl (by decide) rfl (fun ls hl => ?_)
          refine lv_aload_n hx hb dX6_readsDeed_95 rfl (lv_at hl 1 rfl) ?_
          refine lv_aload_n hx hb dX6_readsDeed_96 rfl (lv_at hl 1 rfl) ?_
          refine lv_iload hx hb dX6_readsDeed_97 (lv_at hl 0 rfl) ?_
          obtain ⟨r45, hgr45, hF⟩ := st_bnd hF
          refine g_ci hw (g_runV (C := RX6) (As := [.int r43]) (rest := [.ref (ad 9)]) fx hw isO_9 rfl (c_X6_refusalOfHours l x D cy ad r43 H.size M44 r45 hgr45) wd6_87 wd6_89 wd0_76 wd1_8 wd6_90 yd_X6_refusalOfHours rfl rfl (Nat.le_of_ble_eq_true rfl) hl.1 ⟨Nat.le_trans (Nat.le_of_ble_eq_true rfl) hR.1, Nat.le_trans (Nat.le_of_ble_eq_true rfl) hR.2.1⟩ ⟨Nat.le_trans (Nat.le_of_ble_eq_true rfl) hR.2.2.1, Nat.le_trans (Nat.le_of_ble_eq_true rfl) hR.2.2.2⟩ dX6_readsDeed_99) (fun H locs hw => ?_)
          obtain ⟨r46, M47, hgr46, hF⟩ := st_bnd2 hF
          refine g_cz hw (g_runV (C := RX6) (As := [.int r45]) (rest := []) fx hw isO_9 rfl (c_X6_mayDo l x D cy ad r45 H.size M44 r46 M47 hgr46) wd7_1 wd7_3 wd0_103 wd1_8 wd7_4 yd_X6_mayDo rfl rfl (Nat.le_of_ble_eq_true rfl) hl.1 ⟨Nat.le_trans (Nat.le_of_ble_eq_true rfl) hR.1, Nat.le_trans (Nat.le_of_ble_eq_true rfl) hR.2.1⟩ ⟨Nat.le_trans (Nat.le_of_ble_eq_true rfl) hR.2.2.1, Nat.le_trans (Nat.le_of_ble_eq_true rfl) hR.2.2.2⟩ dX6_readsDeed_102) (fun H locs hbr46 hw => ?_)
          refine lv_if_eq (tgt := 118) hx hb dX6_readsDeed_105 (by decide) (fun hc105 => ?_) (fun hc105 => ?_)
          · replace hF := st_t hc105 hF
            exact n_118 M47 H locs ls (lv_sub hl [1] rfl) hw hF
          · replace hF := st_f hc105 hF
            refine lv_aload_n hx hb dX6_readsDeed_108 rfl (lv_at hl 1 rfl) ?_
            refine lv_aload_n hx hb dX6_readsDeed_109 rfl (lv_at hl 1 rfl) ?_
            refine lv_iload hx hb dX6_readsDeed_110 (lv_at hl 0 rfl) ?_
            obtain ⟨r48, M49, hgr48, hF⟩ := st_bnd2 hF
            refine g_ci hw (g_runV (C := RX6) (As := [.int r43]) (rest := [.ref (ad 9)]) fx hw isO_9 rfl (c_X6_passes l x D cy ad r43 H.size M47 r48 M49 hgr48) wd6_91 wd6_93 wd0_77 wd1_8 wd6_94 yd_X6_passes rfl rfl (Nat.le_of_ble_eq_true rfl) hl.1 ⟨Nat.le_trans (Nat.le_of_ble_eq_true rfl) hR.1, Nat.le_trans (Nat.le_of_ble_eq_true rfl) hR.2.1⟩ ⟨Nat.le_trans (Nat.le_of_ble_eq_true rfl) hR.2.2.1, Nat.le_trans (Nat.le_of_ble_eq_true rfl) hR.2.2.2⟩ dX6_readsDeed_112) (fun H locs hw => ?_)
            obtain ⟨M50, eM50, hF⟩ := st_letM hF
            refine gX6_put fx hw isO_9 18 (by decide) wd5_37 rfl eM50 rfl (Nat.le_of_ble_eq_true rfl) dX6_readsDeed_115 (fun H locs hw => ?_)
            exact n_118 M50 H locs ls (lv_sub hl [1] rfl) hw hF
        · replace hF := st_f hc76 hF
          refine lv_aload_n hx hb dX6_readsDeed_79 rfl (lv_at hl 0 rfl) ?_
          obtain ⟨M52, hgr51, hF⟩ := st_bnd hF
          refine g_cv hw (g_runV (C := RX6) (As := []) (rest := []) fx hw isO_9 rfl (c_X6_readsGift l x D cy ad H.size M42 M52 hgr51) wd7_12 wd7_14 wd0_105 wd1_8 wd7_15 yd_X6_readsGift rfl rfl (Nat.le_of_ble_eq_true rfl) hl.1 ⟨Nat.le_trans (Nat.le_of_ble_eq_true rfl) hR.1, Nat.le_trans (Nat.le_of_ble_eq_true rfl) hR.2.1⟩ ⟨Nat.le_trans (Nat.le_of_ble_eq_true rfl) hR.2.2.1, Nat.le_trans (Nat.le_of_ble_eq_true rfl) hR.2.2.2⟩ dX6_readsDeed_80) (fun H locs hw => ?_)
          refine lv_goto (tgt := 118) hx hb dX6_readsDeed_83 (by decide) ?_
          exact n_118 M52 H locs ls (lv_sub hl [0] rfl) hw hF
      · replace hF := st_f hc65 hF
        refine lv_aload_n hx hb dX6_readsDeed_68 rfl (lv_at hl 0 rfl) ?_
        obtain ⟨M54, hgr53, hF⟩ := st_bnd hF
        refine g_cv hw (g_runV (C := RX6) (As := []) (rest := []) fx hw isO_9 rfl (c_X6_readsTelling l x D cy ad H.size M42 M54 hgr53) wd7_5 wd7_7 wd0_104 wd1_8 wd7_8 yd_X6_readsTelling rfl rfl (Nat.le_of_ble_eq_true rfl) hl.1 ⟨Nat.le_trans (Nat.le_of_ble_eq_true rfl) hR.1, Nat.le_trans (Nat.le_of_ble_eq_true rfl) hR.2.1⟩ ⟨Nat.le_trans (Nat.le_of_ble_eq_true rfl) hR.2.2.1, Nat.le_trans (Nat.le_of_ble_eq_true rfl) hR.2.2.2⟩ dX6_readsDeed_69) (fun H locs hw => ?_)
        refine lv_goto (tgt := 118) hx hb dX6_readsDeed_72 (by decide) ?_
        exact n_118 M54 H locs ls (lv_sub hl [0] rfl) hw hF
    · replace hF := st_f hc54 hF
      refine lv_aload_n hx hb dX6_readsDeed_57 rfl (lv_at hl 0 rfl) ?_
      obtain ⟨M56, hgr55, hF⟩ := st_bnd hF
      refine g_cv hw (g_runV (C := RX6) (As := []) (rest := []) fx hw isO_9 rfl (c_X6_readsWant l x D cy ad H.size M42 M56 hgr55) wd6_233 wd6_235 wd0_101 wd1_8 wd6_236 yd_X6_readsWant rfl rfl (Nat.le_of_ble_eq_true rfl) hl.1 ⟨Nat.le_trans (Nat.le_of_ble_eq_true rfl) hR.1, Nat.le_trans (Nat.le_of_ble_eq_true rfl) hR.2.1⟩ ⟨Nat.le_trans (Nat.le_of_ble_eq_true rfl) hR.2.2.1, Nat.le_trans (Nat.le_of_ble_eq_true rfl) hR.2.2.2⟩ dX6_readsDeed_58) (fun H locs hw => ?_)
      refine lv_goto (tgt := 118) hx hb dX6_readsDeed_61 (by decide) ?_
      exact n_118 M56 H locs ls (lv_sub hl [0] rfl) hw hF
  unfold f_X6_readsDeed at hF
  refine lv_aload_n hx hb dX6_readsDeed_0 rfl (lv_at hl 0 rfl) ?_
  refine g_ldcSW hx hb hown (fx.2.2.2.2.str (w := 25) (by decide)).1 dX6_readsDeed_1 ?_
  obtain ⟨r57, hgr57, hF⟩ := st_bnd hF
  refine g_cz hw (g_runV (C := RX6) (As := [.ref (x.1 25)]) (rest := []) fx hw isO_9 rfl (c_X6_isWord l x D cy ad 25 (by decide) H.size M r57 hgr57) wd6_163 wd6_165 wd0_87 wd1_8 wd6_166 yd_X6_isWord rfl rfl (Nat.le_of_ble_eq_true rfl) hl.1 ⟨Nat.le_trans (Nat.le_of_ble_eq_true rfl) hR.1, Nat.le_trans (Nat.le_of_ble_eq_true rfl) hR.2.1⟩ ⟨Nat.le_trans (Nat.le_of_ble_eq_true rfl) hR.2.2.1, Nat.le_trans (Nat.le_of_ble_eq_true rfl) hR.2.2.2⟩ dX6_readsDeed_4) (fun H locs hbr57 hw => ?_)
  refine lv_istore_n (lv' := [(1, .int r57), (0, .ref (ad 9))]) hx hb dX6_readsDeed_7 rfl hl (by decide) rfl (fun ls hl => ?_)
  refine lv_aload_n hx hb dX6_readsDeed_8 rfl (lv_at hl 1 rfl) ?_
  refine g_ldcSW hx hb hown (fx.2.2.2.2.str (w := 26) (by decide)).1 dX6_readsDeed_9 ?_
  obtain ⟨r58, hgr58, hF⟩ := st_bnd hF
  refine g_cz hw (g_runV (C := RX6) (As := [.ref (x.1 26)]) (rest := []) fx hw isO_9 rfl (c_X6_isWord l x D cy ad 26 (by decide) H.size M r58 hgr58) wd6_163 wd6_165 wd0_87 wd1_8 wd6_166 yd_X6_isWord rfl rfl (Nat.le_of_ble_eq_true rfl) hl.1 ⟨Nat.le_trans (Nat.le_of_ble_eq_true rfl) hR.1, Nat.le_trans (Nat.le_of_ble_eq_true rfl) hR.2.1⟩ ⟨Nat.le_trans (Nat.le_of_ble_eq_true rfl) hR.2.2.1, Nat.le_trans (Nat.le_of_ble_eq_true rfl) hR.2.2.2⟩ dX6_readsDeed_12) (fun H locs hbr58 hw => ?_)
  refine lv_istore_n (lv' := [(2, .int r58), (1, .int r57), (0, .ref (ad 9))]) hx hb dX6_readsDeed_15 rfl hl (by decide) rfl (fun ls hl => ?_)
  refine lv_aload_n hx hb dX6_readsDeed_16 rfl (lv_at hl 2 rfl) ?_
  refine g_ldcSW hx hb hown (fx.2.2.2.2.str (w := 27) (by decide)).1 dX6_readsDeed_17 ?_
  obtain ⟨r59, hgr59, hF⟩ := st_bnd hF
  refine g_cz hw (g_runV (C := RX6) (As := [.ref (x.1 27)]) (rest := []) fx hw isO_9 rfl (c_X6_isWord l x D cy ad 27 (by decide) H.size M r59 hgr59) wd6_163 wd6_165 wd0_87 wd1_8 wd6_166 yd_X6_isWord rfl rfl (Nat.le_of_ble_eq_true rfl) hl.1 ⟨Nat.le_trans (Nat.le_of_ble_eq_true rfl) hR.1, Nat.le_trans (Nat.le_of_ble_eq_true rfl) hR.2.1⟩ ⟨Nat.le_trans (Nat.le_of_ble_eq_true rfl) hR.2.2.1, Nat.le_trans (Nat.le_of_ble_eq_true rfl) hR.2.2.2⟩ dX6_readsDeed_20) (fun H locs hbr59 hw => ?_)
  refine lv_istore_n (lv' := [(3, .int r59), (2, .int r58), (1, .int r57), (0, .ref (ad 9))]) hx hb dX6_readsDeed_23 rfl hl (by decide) rfl (fun ls hl => ?_)
  refine lv_iload_n hx hb dX6_readsDeed_24 rfl (lv_at hl 2 rfl) ?_
  refine lv_if_ne (tgt := 48) hx hb dX6_readsDeed_25 (by decide) (fun hc25 => ?_) (fun hc25 => ?_)
  · replace hF := st_f hc25 hF
    exact n_48 r57 r58 r59 M H locs ls (lv_sub hl [3, 2, 1, 0] rfl) hw hF
  · replace hF := st_t hc25 hF
    refine lv_iload_n hx hb dX6_readsDeed_28 rfl (lv_at hl 1 rfl) ?_
    refine lv_if_ne (tgt := 48) hx hb dX6_readsDeed_29 (by decide) (fun hc29 => ?_) (fun hc29 => ?_)
    · replace hF := st_f hc29 hF
      exact n_48 r57 r58 r59 M H locs ls (lv_sub hl [3, 2, 1, 0] rfl) hw hF
    · replace hF := st_t hc29 hF
      refine lv_iload_n hx hb dX6_readsDeed_32 rfl (lv_at hl 0 rfl) ?_
      refine lv_if_ne (tgt := 48) hx hb dX6_readsDeed_33 (by decide) (fun hc33 => ?_) (fun hc33 => ?_)
      · replace hF := st_f hc33 hF
        exact n_48 r57 r58 r59 M H locs ls (lv_sub hl [3, 2, 1, 0] rfl) hw hF
      · replace hF := st_t hc33 hF
        refine lv_aload_n hx hb dX6_readsDeed_36 rfl (lv_at hl 3 rfl) ?_
        refine g_ldcSW hx hb hown (fx.2.2.2.2.str (w := 28) (by decide)).1 dX6_readsDeed_37 ?_
        obtain ⟨r60, hgr60, hF⟩ := st_bnd hF
        refine g_cz hw (g_runV (C := RX6) (As := [.ref (x.1 28)]) (rest := []) fx hw isO_9 rfl (c_X6_isWord l x D cy ad 28 (by decide) H.size M r60 hgr60) wd6_163 wd6_165 wd0_87 wd1_8 wd6_166 yd_X6_isWord rfl rfl (Nat.le_of_ble_eq_true rfl) hl.1 ⟨Nat.le_trans (Nat.le_of_ble_eq_true rfl) hR.1, Nat.le_trans (Nat.le_of_ble_eq_true rfl) hR.2.1⟩ ⟨Nat.le_trans (Nat.le_of_ble_eq_true rfl) hR.2.2.1, Nat.le_trans (Nat.le_of_ble_eq_true rfl) hR.2.2.2⟩ dX6_readsDeed_40) (fun H locs hbr60 hw => ?_)
        refine lv_if_ne (tgt := 48) hx hb dX6_readsDeed_43 (by decide) (fun hc43 => ?_) (fun hc43 => ?_)
        · replace hF := st_f hc43 hF
          exact n_48 r57 r58 r59 M H locs ls (lv_sub hl [3, 2, 1, 0] rfl) hw hF
        · replace hF := st_t hc43 hF
          refine lv_iconst (v := 0) hx hb dX6_readsDeed_46 (by decide) ?_
          exact E _ _ _ _ _ _ dX6_readsDeed_47 (Or.inl rfl) hw hF
theorem c_X6_readsDeed (l : Launch) (x : SX) (D : va_G) (cy : Nat → ClassId) (ad : Nat → Nat) (sz : Nat) (M : Mem) (z : Int32) (M' : Mem) (hF : f_X6_readsDeed M = some (z, M')) : Met l yX6_readsDeed (.code yX6_readsDeed cX6_readsDeed 5 (some .boolean) :: GB) ({ frames := 9, cells := 0, slots := 0, locals := 205 } : Room) (PcW D cy ad x sz M [.ref (ad 9)]) (QzW D cy ad sz z M') 0 0 (AA ad sz) := by
  refine mk_m (own := RX6) (by decide) rfl (Nat.le_of_ble_eq_true rfl) ?_
  intro p e s m args below meth c ls fx hw hl hsz
  subst hsz
  exact b_X6_readsDeed fx ⟨Nat.le_refl _, Nat.le_refl _, Nat.le_refl _, Nat.le_refl _⟩ M z M' hF (fun pc ls H locs v M1 hd hb hw h => by cases h; exact g_zret fx hw rfl hb hd) _ _ ls hl hw
noncomputable def f_X6_load_244 : Mem → Option (Int32 × Mem) := fun M => (if (M 9 15) = 0 then (bnd (f_X6_keeps 11 M) (fun M319 => (some ((M319 10 0), M319)))) else (some ((M 9 15), M)))
noncomputable def f_X6_load_216 : Int32 → Mem → Option (Int32 × Mem) := fun t1 M => (letM (mput M 9 17 t1) (fun M320 => (letM (mput M320 9 10 0) (fun M321 => (if (M321 9 15) = 0 then ((f_X6_load_244) M321) else (bnd (f_X6_copies 156 10 156 11 0 0 M321) (fun M323 => ((f_X6_load_244) M323))))))))
noncomputable def f_X6_load_200 : Mem → Option (Int32 × Mem) := fun M => (if (M 9 15) = 0 then ((f_X6_load_216) (-1) M) else ((f_X6_load_216) (M 9 16) M))
noncomputable def f_X6_load_174 (rec174 : Int32 → Mem → Option (Int32 × Mem)) : Int32 → Mem → Option (Int32 × Mem) := fun a1 M => (if a1 = 0 then (if (M 9 13) = 3 then ((f_X6_load_200) M) else (bnd (f_X6_errs (-2) M) (fun M325 => ((f_X6_load_200) M325)))) else (bnd2 (f_X6_readsDeed M) (fun r326 M327 => (rec174 r326 M327))))
noncomputable def f_X6_load_173 : Int32 → Mem → Option (Int32 × Mem) := fun t0 M => ((lp (fun _ _ => none) (f_X6_load_174) FU) t0 M)
noncomputable def f_X6_load_149 (rec149 : Int32 → Mem → Option (Int32 × Mem)) : Int32 → Mem → Option (Int32 × Mem) := fun a1 M => (if a1 = 0 then (if (M 9 15) = 0 then ((f_X6_load_173) 1 M) else ((f_X6_load_173) 0 M)) else (bnd2 (f_X6_readsBell M) (fun r328 M329 => (rec149 r328 M329))))
noncomputable def f_X6_load_148 : Int32 → Mem → Option (Int32 × Mem) := fun t0 M => ((lp (fun _ _ => none) (f_X6_load_149) FU) t0 M)
noncomputable def f_X6_load_124 (rec124 : Int32 → Mem → Option (Int32 × Mem)) : Int32 → Mem → Option (Int32 × Mem) := fun a1 M => (if a1 = 0 then (if (M 9 15) = 0 then ((f_X6_load_148) 1 M) else ((f_X6_load_148) 0 M)) else (bnd2 (f_X6_readsMonk M) (fun r330 M331 => (rec124 r330 M331))))
noncomputable def f_X6_load_123 : Int32 → Mem → Option (Int32 × Mem) := fun t0 M => ((lp (fun _ _ => none) (f_X6_load_124) FU) t0 M)
noncomputable def f_X6_load_111 : Mem → Option (Int32 × Mem) := fun M => (if (M 9 15) = 0 then ((f_X6_load_123) 1 M) else ((f_X6_load_123) 0 M))
noncomputable def f_X6_load_85 (rec85 : Int32 → Mem → Option (Int32 × Mem)) : Int32 → Mem → Option (Int32 × Mem) := fun a1 M => (if a1 = 0 then (bnd (f_X6_rankHere M) (fun r332 => (if r332 = (-1) then (bnd (f_X6_errs (-2) M) (fun M334 => ((f_X6_load_111) M334))) else ((f_X6_load_111) M)))) else (bnd2 (f_X6_readsNeed M) (fun r335 M336 => (rec85 r335 M336))))
noncomputable def f_X6_load_84 : Int32 → Mem → Option (Int32 × Mem) := fun t0 M => ((lp (fun _ _ => none) (f_X6_load_85) FU) t0 M)
noncomputable def f_X6_load_72 : Mem → Option (Int32 × Mem) := fun M => (if (M 9 15) = 0 then ((f_X6_load_84) 1 M) else ((f_X6_load_84) 0 M))
noncomputable def f_X6_load (M : Mem) : Option (Int32 × Mem) := (letM (mput M 9 6 0) (fun M337 => (letM (mput M337 9 12 0) (fun M338 => (letM (mput M338 9 15 0) (fun M339 => (bnd (f_X6_copies 156 11 156 10 0 0 M339) (fun M341 => (bnd (f_X6_begins M341) (fun M343 => (bnd (f_X6_next M343) (fun M345 => (bnd (f_X6_readsSetting 16 2 99 M345) (fun M347 => (bnd (f_X6_readsSetting 17 3 50 M347) (fun M349 => (bnd (f_X6_isWord 18 M349) (fun r350 => (if r350 = 0 then (bnd (f_X6_errs (-2) M349) (fun M352 => ((f_X6_load_72) M352))) else ((f_X6_load_72) M349))))))))))))))))))))
set_option maxHeartbeats 4000000 in
set_option maxRecDepth 100000 in
theorem b_X6_load {p : Program} {l : Launch} {e : Env} {R : Room} {s : State} {m : MethodId} {args : Array Value} {below : List Frame} {meth : Method} {c : Code} {Q : State → Prop} {D : va_G} {cy : Nat → ClassId} {ad : Nat → Nat} {x : SX} (fx : FX p s m args meth c cX6_load 2 (some .int) RX6 D cy ad x) (hR : 10 ≤ R.frames ∧ 229 ≤ R.locals ∧ 0 ≤ R.cells ∧ 0 ≤ R.slots) (M : Mem) (z : Int32) (M' : Mem) (hF : f_X6_load M = some (z, M')) (E : ∀ (pc : Nat) (ls : Array Slot) (H : Heap) (locs : List Loc) (v : Int32) (M1 : Mem), decode cX6_load pc = .ok (.ireturn, 1) → WD D cy ad s M1 H locs → some (v, M1) = some (z, M') → W p l e R s m args below meth c H locs 0 0 Q (F0 m pc ls [.int v])) (H : Heap) (locs : List Loc) (ls : Array Slot) (hl : lv_has ls 2 [(0, .ref (ad 9))]) (hw : WD D cy ad s M H locs) : W p l e R s m args below meth c H locs 0 0 Q (F0 m 0 ls []) := by
  have hx := fx.1.1
  have hb := fx.1.2.1
  have hown := fx.1.2.2.2.1
  have hts := fx.1.2.2.2.2
  have n_244 : ∀ (M : Mem) (H : Heap) (locs : List Loc) (ls : Array Slot), lv_has ls 2 [(0, .ref (ad 9))] → WD D cy ad s M H locs → f_X6_load_244 M = some (z, M') → W p l e R s m args below meth c H locs 0 0 Q (F0 m 244 ls []) := by
    intro M H locs ls hl hw hF
    unfold f_X6_load_244 at hF
    refine lv_aload_n hx hb dX6_load_244 rfl (lv_at hl 0 rfl) ?_
    refine gX6_get fx hw isO_9 15 (by decide) wd5_34 rfl dX6_load_245 ?_
    refine lv_if_eq (tgt := 256) hx hb dX6_load_248 (by decide) (fun hc248 => ?_) (fun hc248 => ?_)
    · replace hF := st_t hc248 hF
      refine lv_aload_n hx hb dX6_load_256 rfl (lv_at hl 0 rfl) ?_
      refine lv_aload_n hx hb dX6_load_257 rfl (lv_at hl 0 rfl) ?_
      refine gX6_get fx hw isO_9 1 (by decide) wd5_20 rfl dX6_load_258 ?_
      obtain ⟨M319, hgr318, hF⟩ := st_bnd hF
      refine g_cv hw (g_runV (C := RX6) (As := [.ref (ad 11)]) (rest := []) fx hw isO_9 rfl (c_X6_keeps l x D cy ad 11 isA_11 H.size M M319 hgr318) wd5_99 wd5_101 wd0_42 wd1_8 wd5_102 yd_X6_keeps rfl rfl (Nat.le_of_ble_eq_true rfl) hl.1 ⟨Nat.le_trans (Nat.le_of_ble_eq_true rfl) hR.1, Nat.le_trans (Nat.le_of_ble_eq_true rfl) hR.2.1⟩ ⟨Nat.le_trans (Nat.le_of_ble_eq_true rfl) hR.2.2.1, Nat.le_trans (Nat.le_of_ble_eq_true rfl) hR.2.2.2⟩ dX6_load_261) (fun H locs hw => ?_)
      refine lv_aload_n hx hb dX6_load_264 rfl (lv_at hl 0 rfl) ?_
      refine gX6_get fx hw isO_9 0 (by decide) wd5_19 rfl dX6_load_265 ?_
      refine lv_iconst (v := 0) hx hb dX6_load_268 (by decide) ?_
      refine g_ialdc fx hw isA_10 (k := 0) rfl (by decide) dX6_load_269 ?_
      exact E _ _ _ _ _ _ dX6_load_270 hw hF
    · replace hF := st_f hc248 hF
      refine lv_aload_n hx hb dX6_load_251 rfl (lv_at hl 0 rfl) ?_
      refine gX6_get fx hw isO_9 15 (by decide) wd5_34 rfl dX6_load_252 ?_
      exact E _ _ _ _ _ _ dX6_load_255 hw hF
  have n_216 : ∀ (t1 : Int32) (M : Mem) (H : Heap) (locs : List Loc) (ls : Array Slot), lv_has ls 2 [(0, .ref (ad 9))] → WD D cy ad s M H locs → f_X6_load_216 t1 M = some (z, M') → W p l e R s m args below meth c H locs 0 0 Q (F0 m 216 ls [.int t1, .ref (ad 9)]) := by
    intro t1 M H locs ls hl hw hF
    unfold f_X6_load_216 at hF
    obtain ⟨M320, eM320, hF⟩ := st_letM hF
    refine gX6_put fx hw isO_9 17 (by decide) wd5_36 rfl eM320 rfl (Nat.le_of_ble_eq_true rfl) dX6_load_216 (fun H locs hw => ?_)
    refine lv_aload_n hx hb dX6_load_219 rfl (lv_at hl 0 rfl) ?_
    refine lv_iconst (v := 0) hx hb dX6_load_220 (by decide) ?_
    obtain ⟨M321, eM321, hF⟩ := st_letM hF
    refine gX6_put fx hw isO_9 10 (by decide) wd5_29 rfl eM321 rfl (Nat.le_of_ble_eq_true rfl) dX6_load_221 (fun H locs hw => ?_)
    refine lv_aload_n hx hb dX6_load_224 rfl (lv_at hl 0 rfl) ?_
    refine gX6_get fx hw isO_9 15 (by decide) wd5_34 rfl dX6_load_225 ?_
    refine lv_if_eq (tgt := 244) hx hb dX6_load_228 (by decide) (fun hc228 => ?_) (fun hc228 => ?_)
    · replace hF := st_t hc228 hF
      exact n_244 M321 H locs ls (lv_sub hl [0] rfl) hw hF
    · replace hF := st_f hc228 hF
      refine lv_aload_n hx hb dX6_load_231 rfl (lv_at hl 0 rfl) ?_
      refine gX6_get fx hw isO_9 0 (by decide) wd5_19 rfl dX6_load_232 ?_
      refine lv_iconst (v := 0) hx hb dX6_load_235 (by decide) ?_
      refine lv_aload_n hx hb dX6_load_236 rfl (lv_at hl 0 rfl) ?_
      refine gX6_get fx hw isO_9 1 (by decide) wd5_20 rfl dX6_load_237 ?_
      refine lv_iconst (v := 0) hx hb dX6_load_240 (by decide) ?_
      obtain ⟨M323, hgr322, hF⟩ := st_bnd hF
      refine g_cv hw (g_runS (As := [.ref (ad 10), .int 0, .ref (ad 11), .int 0]) (rest := []) fx hw (c_X6_copies l x D cy ad 156 10 156 11 isA_10 isA_11 0 0 H.size M321 M323 hgr322) wd5_85 wd5_86 wd1_8 wd5_87 yd_X6_copies rfl rfl (Nat.le_of_ble_eq_true rfl) hl.1 ⟨Nat.le_trans (Nat.le_of_ble_eq_true rfl) hR.1, Nat.le_trans (Nat.le_of_ble_eq_true rfl) hR.2.1⟩ ⟨Nat.le_trans (Nat.le_of_ble_eq_true rfl) hR.2.2.1, Nat.le_trans (Nat.le_of_ble_eq_true rfl) hR.2.2.2⟩ dX6_load_241) (fun H locs hw => ?_)
      exact n_244 M323 H locs ls (lv_sub hl [0] rfl) hw hF
  have n_200 : ∀ (M : Mem) (H : Heap) (locs : List Loc) (ls : Array Slot), lv_has ls 2 [(0, .ref (ad 9))] → WD D cy ad s M H locs → f_X6_load_200 M = some (z, M') → W p l e R s m args below meth c H locs 0 0 Q (F0 m 200 ls []) := by
    intro M H locs ls hl hw hF
    unfold f_X6_load_200 at hF
    refine lv_aload_n hx hb dX6_load_200 rfl (lv_at hl 0 rfl) ?_
    refine lv_aload_n hx hb dX6_load_201 rfl (lv_at hl 0 rfl) ?_
    refine gX6_get fx hw isO_9 15 (by decide) wd5_34 rfl dX6_load_202 ?_
    refine lv_if_ne (tgt := 212) hx hb dX6_load_205 (by decide) (fun hc205 => ?_) (fun hc205 => ?_)
    · replace hF := st_f hc205 hF
      refine lv_aload_n hx hb dX6_load_212 rfl (lv_at hl 0 rfl) ?_
      refine gX6_get fx hw isO_9 16 (by decide) wd5_35 rfl dX6_load_213 ?_
      exact n_216 (M 9 16) M H locs ls (lv_sub hl [0] rfl) hw hF
    · replace hF := st_t hc205 hF
      refine lv_iconst (v := (-1)) hx hb dX6_load_208 (by decide) ?_
      refine lv_goto (tgt := 216) hx hb dX6_load_209 (by decide) ?_
      exact n_216 (-1) M H locs ls (lv_sub hl [0] rfl) hw hF
  have n_174 : ∀ (n9 : Nat), ∀ (a1 : Int32) (M : Mem) (H : Heap) (locs : List Loc) (ls : Array Slot), lv_has ls 2 [(0, .ref (ad 9)), (1, .int a1)] → WD D cy ad s M H locs → (lp (fun _ _ => none) (f_X6_load_174) n9) a1 M = some (z, M') → W p l e R s m args below meth c H locs 0 0 Q (F0 m 174 ls []) := by
    intro n9
    refine lp_ind (fun (rec174 : Int32 → Mem → Option (Int32 × Mem)) => ∀ (a1 : Int32) (M : Mem) (H : Heap) (locs : List Loc) (ls : Array Slot), lv_has ls 2 [(0, .ref (ad 9)), (1, .int a1)] → WD D cy ad s M H locs → rec174 a1 M = some (z, M') → W p l e R s m args below meth c H locs 0 0 Q (F0 m 174 ls [])) ?_ ?_ n9
    · intro a1 M H locs ls hl hw hF
      exact nomatch hF
    · intro rec174 hr174 a1 M H locs ls hl hw hF
      unfold f_X6_load_174 at hF
      refine lv_iload_n hx hb dX6_load_174 rfl (lv_at hl 1 rfl) ?_
      refine lv_if_eq (tgt := 186) hx hb dX6_load_175 (by decide) (fun hc175 => ?_) (fun hc175 => ?_)
      · replace hF := st_t hc175 hF
        refine lv_aload_n hx hb dX6_load_186 rfl (lv_at hl 0 rfl) ?_
        refine gX6_get fx hw isO_9 13 (by decide) wd5_32 rfl dX6_load_187 ?_
        refine lv_iconst (v := 3) hx hb dX6_load_190 (by decide) ?_
        refine lv_icmp_eq (tgt := 200) hx hb dX6_load_191 (by decide) (fun hc191 => ?_) (fun hc191 => ?_)
        · replace hF := st_t hc191 hF
          exact n_200 M H locs ls (lv_sub hl [0] rfl) hw hF
        · replace hF := st_f hc191 hF
          refine lv_aload_n hx hb dX6_load_194 rfl (lv_at hl 0 rfl) ?_
          refine lv_bipush (v := (-2)) hx hb dX6_load_195 (by decide) ?_
          obtain ⟨M325, hgr324, hF⟩ := st_bnd hF
          refine g_cv hw (g_runV (C := RX6) (As := [.int (-2)]) (rest := []) fx hw isO_9 rfl (c_X6_errs l x D cy ad (-2) H.size M M325 hgr324) wd6_173 wd6_175 wd0_89 wd1_8 wd6_176 yd_X6_errs rfl rfl (Nat.le_of_ble_eq_true rfl) hl.1 ⟨Nat.le_trans (Nat.le_of_ble_eq_true rfl) hR.1, Nat.le_trans (Nat.le_of_ble_eq_true rfl) hR.2.1⟩ ⟨Nat.le_trans (Nat.le_of_ble_eq_true rfl) hR.2.2.1, Nat.le_trans (Nat.le_of_ble_eq_true rfl) hR.2.2.2⟩ dX6_load_197) (fun H locs hw => ?_)
          exact n_200 M325 H locs ls (lv_sub hl [0] rfl) hw hF
      · replace hF := st_f hc175 hF
        refine lv_aload_n hx hb dX6_load_178 rfl (lv_at hl 0 rfl) ?_
        obtain ⟨r326, M327, hgr326, hF⟩ := st_bnd2 hF
        refine g_cz hw (g_runV (C := RX6) (As := []) (rest := []) fx hw isO_9 rfl (c_X6_readsDeed l x D cy ad H.size M r326 M327 hgr326) wd6_225 wd6_227 wd0_100 wd1_8 wd6_228 yd_X6_readsDeed rfl rfl (Nat.le_of_ble_eq_true rfl) hl.1 ⟨Nat.le_trans (Nat.le_of_ble_eq_true rfl) hR.1, Nat.le_trans (Nat.le_of_ble_eq_true rfl) hR.2.1⟩ ⟨Nat.le_trans (Nat.le_of_ble_eq_true rfl) hR.2.2.1, Nat.le_trans (Nat.le_of_ble_eq_true rfl) hR.2.2.2⟩ dX6_load_179) (fun H locs hbr326 hw => ?_)
        refine lv_istore_n (lv' := [(1, .int r326), (0, .ref (ad 9))]) hx hb dX6_load_182 rfl hl (by decide) rfl (fun ls hl => ?_)
        refine lv_goto (tgt := 174) hx hb dX6_load_183 (by decide) ?_
        exact hr174 r326 M327 H locs ls (lv_sub hl [1, 0] rfl) hw hF
  have n_173 : ∀ (t0 : Int32) (M : Mem) (H : Heap) (locs : List Loc) (ls : Array Slot), lv_has ls 2 [(0, .ref (ad 9))] → WD D cy ad s M H locs → f_X6_load_173 t0 M = some (z, M') → W p l e R s m args below meth c H locs 0 0 Q (F0 m 173 ls [.int t0]) := by
    intro t0 M H locs ls hl hw hF
    unfold f_X6_load_173 at hF
    refine lv_istore_n (lv' := [(1, .int t0), (0, .ref (ad 9))]) hx hb dX6_load_173 rfl hl (by decide) rfl (fun ls hl => ?_)
    exact n_174 FU t0 M H locs ls (lv_sub hl [1, 0] rfl) hw hF
  have n_149 : ∀ (n9 : Nat), ∀ (a1 : Int32) (M : Mem) (H : Heap) (locs : List Loc) (ls : Array Slot), lv_has ls 2 [(0, .ref (ad 9)), (1, .int a1)] → WD D cy ad s M H locs → (lp (fun _ _ => none) (f_X6_load_149) n9) a1 M = some (z, M') → W p l e R s m args below meth c H locs 0 0 Q (F0 m 149 ls []) := by
    intro n9
    refine lp_ind (fun (rec149 : Int32 → Mem → Option (Int32 × Mem)) => ∀ (a1 : Int32) (M : Mem) (H : Heap) (locs : List Loc) (ls : Array Slot), lv_has ls 2 [(0, .ref (ad 9)), (1, .int a1)] → WD D cy ad s M H locs → rec149 a1 M = some (z, M') → W p l e R s m args below meth c H locs 0 0 Q (F0 m 149 ls [])) ?_ ?_ n9
    · intro a1 M H locs ls hl hw hF
      exact nomatch hF
    · intro rec149 hr149 a1 M H locs ls hl hw hF
      unfold f_X6_load_149 at hF
      refine lv_iload_n hx hb dX6_load_149 rfl (lv_at hl 1 rfl) ?_
      refine lv_if_eq (tgt := 161) hx hb dX6_load_150 (by decide) (fun hc150 => ?_) (fun hc150 => ?_)
      · replace hF := st_t hc150 hF
        refine lv_aload_n hx hb dX6_load_161 rfl (lv_at hl 0 rfl) ?_
        refine gX6_get fx hw isO_9 15 (by decide) wd5_34 rfl dX6_load_162 ?_
        refine lv_if_ne (tgt := 172) hx hb dX6_load_165 (by decide) (fun hc165 => ?_) (fun hc165 => ?_)
        · replace hF := st_f hc165 hF
          refine lv_iconst (v := 0) hx hb dX6_load_172 (by decide) ?_
          exact n_173 0 M H locs ls (lv_sub hl [0] rfl) hw hF
        · replace hF := st_t hc165 hF
          refine lv_iconst (v := 1) hx hb dX6_load_168 (by decide) ?_
          refine lv_goto (tgt := 173) hx hb dX6_load_169 (by decide) ?_
          exact n_173 1 M H locs ls (lv_sub hl [0] rfl) hw hF
      · replace hF := st_f hc150 hF
        refine lv_aload_n hx hb dX6_load_153 rfl (lv_at hl 0 rfl) ?_
        obtain ⟨r328, M329, hgr328, hF⟩ := st_bnd2 hF
        refine g_cz hw (g_runV (C := RX6) (As := []) (rest := []) fx hw isO_9 rfl (c_X6_readsBell l x D cy ad H.size M r328 M329 hgr328) wd6_218 wd6_220 wd0_99 wd1_8 wd6_221 yd_X6_readsBell rfl rfl (Nat.le_of_ble_eq_true rfl) hl.1 ⟨Nat.le_trans (Nat.le_of_ble_eq_true rfl) hR.1, Nat.le_trans (Nat.le_of_ble_eq_true rfl) hR.2.1⟩ ⟨Nat.le_trans (Nat.le_of_ble_eq_true rfl) hR.2.2.1, Nat.le_trans (Nat.le_of_ble_eq_true rfl) hR.2.2.2⟩ dX6_load_154) (fun H locs hbr328 hw => ?_)
        refine lv_istore_n (lv' := [(1, .int r328), (0, .ref (ad 9))]) hx hb dX6_load_157 rfl hl (by decide) rfl (fun ls hl => ?_)
        refine lv_goto (tgt := 149) hx hb dX6_load_158 (by decide) ?_
        exact hr149 r328 M329 H locs ls (lv_sub hl [1, 0] rfl) hw hF
  have n_148 : ∀ (t0 : Int32) (M : Mem) (H : Heap) (locs : List Loc) (ls : Array Slot), lv_has ls 2 [(0, .ref (ad 9))] → WD D cy ad s M H locs → f_X6_load_148 t0 M = some (z, M') → W p l e R s m args below meth c H locs 0 0 Q (F0 m 148 ls [.int t0]) := by
    intro t0 M H locs ls hl hw hF
    unfold f_X6_load_148 at hF
    refine lv_istore_n (lv' := [(1, .int t0), (0, .ref (ad 9))]) hx hb dX6_load_148 rfl hl (by decide) rfl (fun ls hl => ?_)
    exact n_149 FU t0 M H locs ls (lv_sub hl [1, 0] rfl) hw hF
  have n_124 : ∀ (n9 : Nat), ∀ (a1 : Int32) (M : Mem) (H : Heap) (locs : List Loc) (ls : Array Slot), lv_has ls 2 [(0, .ref (ad 9)), (1, .int a1)] → WD D cy ad s M H locs → (lp (fun _ _ => none) (f_X6_load_124) n9) a1 M = some (z, M') → W p l e R s m args below meth c H locs 0 0 Q (F0 m 124 ls []) := by
    intro n9
    refine lp_ind (fun (rec124 : Int32 → Mem → Option (Int32 × Mem)) => ∀ (a1 : Int32) (M : Mem) (H : Heap) (locs : List Loc) (ls : Array Slot), lv_has ls 2 [(0, .ref (ad 9)), (1, .int a1)] → WD D cy ad s M H locs → rec124 a1 M = some (z, M') → W p l e R s m args below meth c H locs 0 0 Q (F0 m 124 ls [])) ?_ ?_ n9
    · intro a1 M H locs ls hl hw hF
      exact nomatch hF
    · intro rec124 hr124 a1 M H locs ls hl hw hF
      unfold f_X6_load_124 at hF
      refine lv_iload_n hx hb dX6_load_124 rfl (lv_at hl 1 rfl) ?_
      refine lv_if_eq (tgt := 136) hx hb dX6_load_125 (by decide) (fun hc125 => ?_) (fun hc125 => ?_)
      · replace hF := st_t hc125 hF
        refine lv_aload_n hx hb dX6_load_136 rfl (lv_at hl 0 rfl) ?_
        refine gX6_get fx hw isO_9 15 (by decide) wd5_34 rfl dX6_load_137 ?_
        refine lv_if_ne (tgt := 147) hx hb dX6_load_140 (by decide) (fun hc140 => ?_) (fun hc140 => ?_)
        · replace hF := st_f hc140 hF
          refine lv_iconst (v := 0) hx hb dX6_load_147 (by decide) ?_
          exact n_148 0 M H locs ls (lv_sub hl [0] rfl) hw hF
        · replace hF := st_t hc140 hF
          refine lv_iconst (v := 1) hx hb dX6_load_143 (by decide) ?_
          refine lv_goto (tgt := 148) hx hb dX6_load_144 (by decide) ?_
          exact n_148 1 M H locs ls (lv_sub hl [0] rfl) hw hF
      · replace hF := st_f hc125 hF
        refine lv_aload_n hx hb dX6_load_128 rfl (lv_at hl 0 rfl) ?_
        obtain ⟨r330, M331, hgr330, hF⟩ := st_bnd2 hF
        refine g_cz hw (g_runV (C := RX6) (As := []) (rest := []) fx hw isO_9 rfl (c_X6_readsMonk l x D cy ad H.size M r330 M331 hgr330) wd6_206 wd6_208 wd0_96 wd1_8 wd6_209 yd_X6_readsMonk rfl rfl (Nat.le_of_ble_eq_true rfl) hl.1 ⟨Nat.le_trans (Nat.le_of_ble_eq_true rfl) hR.1, Nat.le_trans (Nat.le_of_ble_eq_true rfl) hR.2.1⟩ ⟨Nat.le_trans (Nat.le_of_ble_eq_true rfl) hR.2.2.1, Nat.le_trans (Nat.le_of_ble_eq_true rfl) hR.2.2.2⟩ dX6_load_129) (fun H locs hbr330 hw => ?_)
        refine lv_istore_n (lv' := [(1, .int r330), (0, .ref (ad 9))]) hx hb dX6_load_132 rfl hl (by decide) rfl (fun ls hl => ?_)
        refine lv_goto (tgt := 124) hx hb dX6_load_133 (by decide) ?_
        exact hr124 r330 M331 H locs ls (lv_sub hl [1, 0] rfl) hw hF
  have n_123 : ∀ (t0 : Int32) (M : Mem) (H : Heap) (locs : List Loc) (ls : Array Slot), lv_has ls 2 [(0, .ref (ad 9))] → WD D cy ad s M H locs → f_X6_load_123 t0 M = some (z, M') → W p l e R s m args below meth c H locs 0 0 Q (F0 m 123 ls [.int t0]) := by
    intro t0 M H locs ls hl hw hF
    unfold f_X6_load_123 at hF
    refine lv_istore_n (lv' := [(1, .int t0), (0, .ref (ad 9))]) hx hb dX6_load_123 rfl hl (by decide) rfl (fun ls hl => ?_)
    exact n_124 FU t0 M H locs ls (lv_sub hl [1, 0] rfl) hw hF
  have n_111 : ∀ (M : Mem) (H : Heap) (locs : List Loc) (ls : Array Slot), lv_has ls 2 [(0, .ref (ad 9))] → WD D cy ad s M H locs → f_X6_load_111 M = some (z, M') → W p l e R s m args below meth c H locs 0 0 Q (F0 m 111 ls []) := by
    intro M H locs ls hl hw hF
    unfold f_X6_load_111 at hF
    refine lv_aload_n hx hb dX6_load_111 rfl (lv_at hl 0 rfl) ?_
    refine gX6_get fx hw isO_9 15 (by decide) wd5_34 rfl dX6_load_112 ?_
    refine lv_if_ne (tgt := 122) hx hb dX6_load_115 (by decide) (fun hc115 => ?_) (fun hc115 => ?_)
    · replace hF := st_f hc115 hF
      refine lv_iconst (v := 0) hx hb dX6_load_122 (by decide) ?_
      exact n_123 0 M H locs ls (lv_sub hl [0] rfl) hw hF
    · replace hF := st_t hc115 hF
      refine lv_iconst (v := 1) hx hb dX6_load_118 (by decide) ?_
      refine lv_goto (tgt := 123) hx hb dX6_load_119 (by decide) ?_
      exact n_123 1 M H locs ls (lv_sub hl [0] rfl) hw hF
  have n_85 : ∀ (n9 : Nat), ∀ (a1 : Int32) (M : Mem) (H : Heap) (locs : List Loc) (ls : Array Slot), lv_has ls 2 [(0, .ref (ad 9)), (1, .int a1)] → WD D cy ad s M H locs → (lp (fun _ _ => none) (f_X6_load_85) n9) a1 M = some (z, M') → W p l e R s m args below meth c H locs 0 0 Q (F0 m 85 ls []) := by
    intro n9
    refine lp_ind (fun (rec85 : Int32 → Mem → Option (Int32 × Mem)) => ∀ (a1 : Int32) (M : Mem) (H : Heap) (locs : List Loc) (ls : Array Slot), lv_has ls 2 [(0, .ref (ad 9)), (1, .int a1)] → WD D cy ad s M H locs → rec85 a1 M = some (z, M') → W p l e R s m args below meth c H locs 0 0 Q (F0 m 85 ls [])) ?_ ?_ n9
    · intro a1 M H locs ls hl hw hF
      exact nomatch hF
    · intro rec85 hr85 a1 M H locs ls hl hw hF
      unfold f_X6_load_85 at hF
      refine lv_iload_n hx hb dX6_load_85 rfl (lv_at hl 1 rfl) ?_
      refine lv_if_eq (tgt := 97) hx hb dX6_load_86 (by decide) (fun hc86 => ?_) (fun hc86 => ?_)
      · replace hF := st_t hc86 hF
        refine lv_aload_n hx hb dX6_load_97 rfl (lv_at hl 0 rfl) ?_
        obtain ⟨r332, hgr332, hF⟩ := st_bnd hF
        refine g_ci hw (g_runV (C := RX6) (As := []) (rest := []) fx hw isO_9 rfl (c_X6_rankHere l x D cy ad H.size M r332 hgr332) wd6_199 wd6_201 wd0_95 wd1_8 wd6_202 yd_X6_rankHere rfl rfl (Nat.le_of_ble_eq_true rfl) hl.1 ⟨Nat.le_trans (Nat.le_of_ble_eq_true rfl) hR.1, Nat.le_trans (Nat.le_of_ble_eq_true rfl) hR.2.1⟩ ⟨Nat.le_trans (Nat.le_of_ble_eq_true rfl) hR.2.2.1, Nat.le_trans (Nat.le_of_ble_eq_true rfl) hR.2.2.2⟩ dX6_load_98) (fun H locs hw => ?_)
        refine lv_iconst (v := (-1)) hx hb dX6_load_101 (by decide) ?_
        refine lv_icmp_ne (tgt := 111) hx hb dX6_load_102 (by decide) (fun hc102 => ?_) (fun hc102 => ?_)
        · replace hF := st_f hc102 hF
          exact n_111 M H locs ls (lv_sub hl [0] rfl) hw hF
        · replace hF := st_t hc102 hF
          refine lv_aload_n hx hb dX6_load_105 rfl (lv_at hl 0 rfl) ?_
          refine lv_bipush (v := (-2)) hx hb dX6_load_106 (by decide) ?_
          obtain ⟨M334, hgr333, hF⟩ := st_bnd hF
          refine g_cv hw (g_runV (C := RX6) (As := [.int (-2)]) (rest := []) fx hw isO_9 rfl (c_X6_errs l x D cy ad (-2) H.size M M334 hgr333) wd6_173 wd6_175 wd0_89 wd1_8 wd6_176 yd_X6_errs rfl rfl (Nat.le_of_ble_eq_true rfl) hl.1 ⟨Nat.le_trans (Nat.le_of_ble_eq_true rfl) hR.1, Nat.le_trans (Nat.le_of_ble_eq_true rfl) hR.2.1⟩ ⟨Nat.le_trans (Nat.le_of_ble_eq_true rfl) hR.2.2.1, Nat.le_trans (Nat.le_of_ble_eq_true rfl) hR.2.2.2⟩ dX6_load_108) (fun H locs hw => ?_)
          exact n_111 M334 H locs ls (lv_sub hl [0] rfl) hw hF
      · replace hF := st_f hc86 hF
        refine lv_aload_n hx hb dX6_load_89 rfl (lv_at hl 0 rfl) ?_
        obtain ⟨r335, M336, hgr335, hF⟩ := st_bnd2 hF
        refine g_cz hw (g_runV (C := RX6) (As := []) (rest := []) fx hw isO_9 rfl (c_X6_readsNeed l x D cy ad H.size M r335 M336 hgr335) wd6_187 wd6_189 wd0_92 wd1_8 wd6_190 yd_X6_readsNeed rfl rfl (Nat.le_of_ble_eq_true rfl) hl.1 ⟨Nat.le_trans (Nat.le_of_ble_eq_true rfl) hR.1, Nat.le_trans (Nat.le_of_ble_eq_true rfl) hR.2.1⟩ ⟨Nat.le_trans (Nat.le_of_ble_eq_true rfl) hR.2.2.1, Nat.le_trans (Nat.le_of_ble_eq_true rfl) hR.2.2.2⟩ dX6_load_90) (fun H locs hbr335 hw => ?_)
        refine lv_istore_n (lv' := [(1, .int r335), (0, .ref (ad 9))]) hx hb dX6_load_93 rfl hl (by decide) rfl (fun ls hl => ?_)
        refine lv_goto (tgt := 85) hx hb dX6_load_94 (by decide) ?_
        exact hr85 r335 M336 H locs ls (lv_sub hl [1, 0] rfl) hw hF
  have n_84 : ∀ (t0 : Int32) (M : Mem) (H : Heap) (locs : List Loc) (ls : Array Slot), lv_has ls 2 [(0, .ref (ad 9))] → WD D cy ad s M H locs → f_X6_load_84 t0 M = some (z, M') → W p l e R s m args below meth c H locs 0 0 Q (F0 m 84 ls [.int t0]) := by
    intro t0 M H locs ls hl hw hF
    unfold f_X6_load_84 at hF
    refine lv_istore_n (lv' := [(1, .int t0), (0, .ref (ad 9))]) hx hb dX6_load_84 rfl hl (by decide) rfl (fun ls hl => ?_)
    exact n_85 FU t0 M H locs ls (lv_sub hl [1, 0] rfl) hw hF
  have n_72 : ∀ (M : Mem) (H : Heap) (locs : List Loc) (ls : Array Slot), lv_has ls 2 [(0, .ref (ad 9))] → WD D cy ad s M H locs → f_X6_load_72 M = some (z, M') → W p l e R s m args below meth c H locs 0 0 Q (F0 m 72 ls []) := by
    intro M H locs ls hl hw hF
    unfold f_X6_load_72 at hF
    refine lv_aload_n hx hb dX6_load_72 rfl (lv_at hl 0 rfl) ?_
    refine gX6_get fx hw isO_9 15 (by decide) wd5_34 rfl dX6_load_73 ?_
    refine lv_if_ne (tgt := 83) hx hb dX6_load_76 (by decide) (fun hc76 => ?_) (fun hc76 => ?_)
    · replace hF := st_f hc76 hF
      refine lv_iconst (v := 0) hx hb dX6_load_83 (by decide) ?_
      exact n_84 0 M H locs ls (lv_sub hl [0] rfl) hw hF
    · replace hF := st_t hc76 hF
      refine lv_iconst (v := 1) hx hb dX6_load_79 (by decide) ?_
      refine lv_goto (tgt := 84) hx hb dX6_load_80 (by decide) ?_
      exact n_84 1 M H locs ls (lv_sub hl [0] rfl) hw hF
  unfold f_X6_load at hF
  refine lv_aload_n hx hb dX6_load_0 rfl (lv_at hl 0 rfl) ?_
  refine lv_iconst (v := 0) hx hb dX6_load_1 (by decide) ?_
  obtain ⟨M337, eM337, hF⟩ := st_letM hF
  refine gX6_put fx hw isO_9 6 (by decide) wd5_25 rfl eM337 rfl (Nat.le_of_ble_eq_true rfl) dX6_load_2 (fun H locs hw => ?_)
  refine lv_aload_n hx hb dX6_load_5 rfl (lv_at hl 0 rfl) ?_
  refine lv_iconst (v := 0) hx hb dX6_load_6 (by decide) ?_
  obtain ⟨M338, eM338, hF⟩ := st_letM hF
  refine gX6_put fx hw isO_9 12 (by decide) wd5_31 rfl eM338 rfl (Nat.le_of_ble_eq_true rfl) dX6_load_7 (fun H locs hw => ?_)
  refine lv_aload_n hx hb dX6_load_10 rfl (lv_at hl 0 rfl) ?_
  refine lv_iconst (v := 0) hx hb dX6_load_11 (by decide) ?_
  obtain ⟨M339, eM339, hF⟩ := st_letM hF
  refine gX6_put fx hw isO_9 15 (by decide) wd5_34 rfl eM339 rfl (Nat.le_of_ble_eq_true rfl) dX6_load_12 (fun H locs hw => ?_)
  refine lv_aload_n hx hb dX6_load_15 rfl (lv_at hl 0 rfl) ?_
  refine gX6_get fx hw isO_9 1 (by decide) wd5_20 rfl dX6_load_16 ?_
  refine lv_iconst (v := 0) hx hb dX6_load_19 (by decide) ?_
  refine lv_aload_n hx hb dX6_load_20 rfl (lv_at hl 0 rfl) ?_
  refine gX6_get fx hw isO_9 0 (by decide) wd5_19 rfl dX6_load_21 ?_
  refine lv_iconst (v := 0) hx hb dX6_load_24 (by decide) ?_
  obtain ⟨M341, hgr340, hF⟩ := st_bnd hF
  refine g_cv hw (g_runS (As := [.ref (ad 11), .int 0, .ref (ad 10), .int 0]) (rest := []) fx hw (c_X6_copies l x D cy ad 156 11 156 10 isA_11 isA_10 0 0 H.size M339 M341 hgr340) wd5_85 wd5_86 wd1_8 wd5_87 yd_X6_copies rfl rfl (Nat.le_of_ble_eq_true rfl) hl.1 ⟨Nat.le_trans (Nat.le_of_ble_eq_true rfl) hR.1, Nat.le_trans (Nat.le_of_ble_eq_true rfl) hR.2.1⟩ ⟨Nat.le_trans (Nat.le_of_ble_eq_true rfl) hR.2.2.1, Nat.le_trans (Nat.le_of_ble_eq_true rfl) hR.2.2.2⟩ dX6_load_25) (fun H locs hw => ?_)
  refine lv_aload_n hx hb dX6_load_28 rfl (lv_at hl 0 rfl) ?_
  obtain ⟨M343, hgr342, hF⟩ := st_bnd hF
  refine g_cv hw (g_runV (C := RX6) (As := []) (rest := []) fx hw isO_9 rfl (c_X6_begins l x D cy ad H.size M341 M343 hgr342) wd5_8 wd5_10 wd0_40 wd1_8 wd5_11 yd_X6_begins rfl rfl (Nat.le_of_ble_eq_true rfl) hl.1 ⟨Nat.le_trans (Nat.le_of_ble_eq_true rfl) hR.1, Nat.le_trans (Nat.le_of_ble_eq_true rfl) hR.2.1⟩ ⟨Nat.le_trans (Nat.le_of_ble_eq_true rfl) hR.2.2.1, Nat.le_trans (Nat.le_of_ble_eq_true rfl) hR.2.2.2⟩ dX6_load_29) (fun H locs hw => ?_)
  refine lv_aload_n hx hb dX6_load_32 rfl (lv_at hl 0 rfl) ?_
  obtain ⟨M345, hgr344, hF⟩ := st_bnd hF
  refine g_cv hw (g_runV (C := RX6) (As := []) (rest := []) fx hw isO_9 rfl (c_X6_next l x D cy ad H.size M343 M345 hgr344) wd6_142 wd6_144 wd0_82 wd1_8 wd6_145 yd_X6_next rfl rfl (Nat.le_of_ble_eq_true rfl) hl.1 ⟨Nat.le_trans (Nat.le_of_ble_eq_true rfl) hR.1, Nat.le_trans (Nat.le_of_ble_eq_true rfl) hR.2.1⟩ ⟨Nat.le_trans (Nat.le_of_ble_eq_true rfl) hR.2.2.1, Nat.le_trans (Nat.le_of_ble_eq_true rfl) hR.2.2.2⟩ dX6_load_33) (fun H locs hw => ?_)
  refine lv_aload_n hx hb dX6_load_36 rfl (lv_at hl 0 rfl) ?_
  refine g_ldcSW hx hb hown (fx.2.2.2.2.str (w := 16) (by decide)).1 dX6_load_37 ?_
  refine lv_iconst (v := 2) hx hb dX6_load_40 (by decide) ?_
  refine lv_bipush (v := 99) hx hb dX6_load_41 (by decide) ?_
  obtain ⟨M347, hgr346, hF⟩ := st_bnd hF
  refine g_cv hw (g_runV (C := RX6) (As := [.ref (x.1 16), .int 2, .int 99]) (rest := []) fx hw isO_9 rfl (c_X6_readsSetting l x D cy ad 16 (by decide) 2 99 H.size M345 M347 hgr346) wd6_159 wd6_161 wd0_86 wd1_8 wd6_162 yd_X6_readsSetting rfl rfl (Nat.le_of_ble_eq_true rfl) hl.1 ⟨Nat.le_trans (Nat.le_of_ble_eq_true rfl) hR.1, Nat.le_trans (Nat.le_of_ble_eq_true rfl) hR.2.1⟩ ⟨Nat.le_trans (Nat.le_of_ble_eq_true rfl) hR.2.2.1, Nat.le_trans (Nat.le_of_ble_eq_true rfl) hR.2.2.2⟩ dX6_load_43) (fun H locs hw => ?_)
  refine lv_aload_n hx hb dX6_load_46 rfl (lv_at hl 0 rfl) ?_
  refine g_ldcSW hx hb hown (fx.2.2.2.2.str (w := 17) (by decide)).1 dX6_load_47 ?_
  refine lv_iconst (v := 3) hx hb dX6_load_50 (by decide) ?_
  refine lv_bipush (v := 50) hx hb dX6_load_51 (by decide) ?_
  obtain ⟨M349, hgr348, hF⟩ := st_bnd hF
  refine g_cv hw (g_runV (C := RX6) (As := [.ref (x.1 17), .int 3, .int 50]) (rest := []) fx hw isO_9 rfl (c_X6_readsSetting l x D cy ad 17 (by decide) 3 50 H.size M347 M349 hgr348) wd6_159 wd6_161 wd0_86 wd1_8 wd6_162 yd_X6_readsSetting rfl rfl (Nat.le_of_ble_eq_true rfl) hl.1 ⟨Nat.le_trans (Nat.le_of_ble_eq_true rfl) hR.1, Nat.le_trans (Nat.le_of_ble_eq_true rfl) hR.2.1⟩ ⟨Nat.le_trans (Nat.le_of_ble_eq_true rfl) hR.2.2.1, Nat.le_trans (Nat.le_of_ble_eq_true rfl) hR.2.2.2⟩ dX6_load_53) (fun H locs hw => ?_)
  refine lv_aload_n hx hb dX6_load_56 rfl (lv_at hl 0 rfl) ?_
  refine g_ldcSW hx hb hown (fx.2.2.2.2.str (w := 18) (by decide)).1 dX6_load_57 ?_
  obtain ⟨r350, hgr350, hF⟩ := st_bnd hF
  refine g_cz hw (g_runV (C := RX6) (As := [.ref (x.1 18)]) (rest := []) fx hw isO_9 rfl (c_X6_isWord l x D cy ad 18 (by decide) H.size M349 r350 hgr350) wd6_163 wd6_165 wd0_87 wd1_8 wd6_166 yd_X6_isWord rfl rfl (Nat.le_of_ble_eq_true rfl) hl.1 ⟨Nat.le_trans (Nat.le_of_ble_eq_true rfl) hR.1, Nat.le_trans (Nat.le_of_ble_eq_true rfl) hR.2.1⟩ ⟨Nat.le_trans (Nat.le_of_ble_eq_true rfl) hR.2.2.1, Nat.le_trans (Nat.le_of_ble_eq_true rfl) hR.2.2.2⟩ dX6_load_60) (fun H locs hbr350 hw => ?_)
  refine lv_if_ne (tgt := 72) hx hb dX6_load_63 (by decide) (fun hc63 => ?_) (fun hc63 => ?_)
  · replace hF := st_f hc63 hF
    exact n_72 M349 H locs ls (lv_sub hl [0] rfl) hw hF
  · replace hF := st_t hc63 hF
    refine lv_aload_n hx hb dX6_load_66 rfl (lv_at hl 0 rfl) ?_
    refine lv_bipush (v := (-2)) hx hb dX6_load_67 (by decide) ?_
    obtain ⟨M352, hgr351, hF⟩ := st_bnd hF
    refine g_cv hw (g_runV (C := RX6) (As := [.int (-2)]) (rest := []) fx hw isO_9 rfl (c_X6_errs l x D cy ad (-2) H.size M349 M352 hgr351) wd6_173 wd6_175 wd0_89 wd1_8 wd6_176 yd_X6_errs rfl rfl (Nat.le_of_ble_eq_true rfl) hl.1 ⟨Nat.le_trans (Nat.le_of_ble_eq_true rfl) hR.1, Nat.le_trans (Nat.le_of_ble_eq_true rfl) hR.2.1⟩ ⟨Nat.le_trans (Nat.le_of_ble_eq_true rfl) hR.2.2.1, Nat.le_trans (Nat.le_of_ble_eq_true rfl) hR.2.2.2⟩ dX6_load_69) (fun H locs hw => ?_)
    exact n_72 M352 H locs ls (lv_sub hl [0] rfl) hw hF
theorem c_X6_load (l : Launch) (x : SX) (D : va_G) (cy : Nat → ClassId) (ad : Nat → Nat) (sz : Nat) (M : Mem) (z : Int32) (M' : Mem) (hF : f_X6_load M = some (z, M')) : Met l yX6_load (.code yX6_load cX6_load 2 (some .int) :: GB) ({ frames := 10, cells := 0, slots := 0, locals := 229 } : Room) (PcW D cy ad x sz M [.ref (ad 9)]) (QiW D cy ad sz z M') 0 0 (AA ad sz) := by
  refine mk_m (own := RX6) (by decide) rfl (Nat.le_of_ble_eq_true rfl) ?_
  intro p e s m args below meth c ls fx hw hl hsz
  subst hsz
  exact b_X6_load fx ⟨Nat.le_refl _, Nat.le_refl _, Nat.le_refl _, Nat.le_refl _⟩ M z M' hF (fun pc ls H locs v M1 hd hw h => by cases h; exact g_iret fx hw rfl hd) _ _ ls hl hw
noncomputable def f_X6_errorPosition (M : Mem) : Option (Int32 × Mem) := (letM (mput M 9 6 0) (fun M2 => (some ((M2 9 17), M2))))
set_option maxHeartbeats 4000000 in
set_option maxRecDepth 100000 in
theorem b_X6_errorPosition {p : Program} {l : Launch} {e : Env} {R : Room} {s : State} {m : MethodId} {args : Array Value} {below : List Frame} {meth : Method} {c : Code} {Q : State → Prop} {D : va_G} {cy : Nat → ClassId} {ad : Nat → Nat} {x : SX} (fx : FX p s m args meth c cX6_errorPosition 1 (some .int) RX6 D cy ad x) (hR : 0 ≤ R.frames ∧ 0 ≤ R.locals ∧ 0 ≤ R.cells ∧ 0 ≤ R.slots) (M : Mem) (z : Int32) (M' : Mem) (hF : f_X6_errorPosition M = some (z, M')) (E : ∀ (pc : Nat) (ls : Array Slot) (H : Heap) (locs : List Loc) (v : Int32) (M1 : Mem), decode cX6_errorPosition pc = .ok (.ireturn, 1) → WD D cy ad s M1 H locs → some (v, M1) = some (z, M') → W p l e R s m args below meth c H locs 0 0 Q (F0 m pc ls [.int v])) (H : Heap) (locs : List Loc) (ls : Array Slot) (hl : lv_has ls 1 [(0, .ref (ad 9))]) (hw : WD D cy ad s M H locs) : W p l e R s m args below meth c H locs 0 0 Q (F0 m 0 ls []) := by
  have hx := fx.1.1
  have hb := fx.1.2.1
  have hown := fx.1.2.2.2.1
  have hts := fx.1.2.2.2.2
  unfold f_X6_errorPosition at hF
  refine lv_aload_n hx hb dX6_errorPosition_0 rfl (lv_at hl 0 rfl) ?_
  refine lv_iconst (v := 0) hx hb dX6_errorPosition_1 (by decide) ?_
  obtain ⟨M2, eM2, hF⟩ := st_letM hF
  refine gX6_put fx hw isO_9 6 (by decide) wd5_25 rfl eM2 rfl (Nat.le_of_ble_eq_true rfl) dX6_errorPosition_2 (fun H locs hw => ?_)
  refine lv_aload_n hx hb dX6_errorPosition_5 rfl (lv_at hl 0 rfl) ?_
  refine gX6_get fx hw isO_9 17 (by decide) wd5_36 rfl dX6_errorPosition_6 ?_
  exact E _ _ _ _ _ _ dX6_errorPosition_9 hw hF
theorem c_X6_errorPosition (l : Launch) (x : SX) (D : va_G) (cy : Nat → ClassId) (ad : Nat → Nat) (sz : Nat) (M : Mem) (z : Int32) (M' : Mem) (hF : f_X6_errorPosition M = some (z, M')) : Met l yX6_errorPosition (.code yX6_errorPosition cX6_errorPosition 1 (some .int) :: GB) ({ frames := 0, cells := 0, slots := 0, locals := 0 } : Room) (PcW D cy ad x sz M [.ref (ad 9)]) (QiW D cy ad sz z M') 0 0 (AA ad sz) := by
  refine mk_m (own := RX6) (by decide) rfl (Nat.le_of_ble_eq_true rfl) ?_
  intro p e s m args below meth c ls fx hw hl hsz
  subst hsz
  exact b_X6_errorPosition fx ⟨Nat.le_refl _, Nat.le_refl _, Nat.le_refl _, Nat.le_refl _⟩ M z M' hF (fun pc ls H locs v M1 hd hw h => by cases h; exact g_iret fx hw rfl hd) _ _ ls hl hw
