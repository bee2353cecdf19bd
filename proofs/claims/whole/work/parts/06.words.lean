set_option maxRecDepth 100000 in
theorem q_0 : Cond.selects RX1 yX1_advance yX1_advance ∈ tb := tb_mem 0 rfl rfl
set_option maxRecDepth 100000 in
theorem q_1 : Cond.selects RX1 yX1_word yX1_word ∈ tb := tb_mem 1 rfl rfl
set_option maxRecDepth 100000 in
theorem q_2 : Cond.selects RX1 yX1_spells yX1_spells ∈ tb := tb_mem 2 rfl rfl
set_option maxRecDepth 100000 in
theorem q_3 : Cond.selects RX1 yX1_number yX1_number ∈ tb := tb_mem 3 rfl rfl
set_option maxRecDepth 100000 in
theorem q_4 : Cond.selects RX1 yX1_expect yX1_expect ∈ tb := tb_mem 4 rfl rfl
set_option maxRecDepth 100000 in
theorem q_5 : Cond.selects RX1 yX1_fail yX1_fail ∈ tb := tb_mem 5 rfl rfl
set_option maxRecDepth 100000 in
theorem q_6 : Cond.selects RX1 yX1_joined yX1_joined ∈ tb := tb_mem 6 rfl rfl
set_option maxRecDepth 100000 in
theorem q_7 : Cond.selects RX1 yX1_one yX1_one ∈ tb := tb_mem 7 rfl rfl
set_option maxRecDepth 100000 in
theorem q_8 : Cond.selects RX1 yX1_mayOpen yX1_mayOpen ∈ tb := tb_mem 8 rfl rfl
set_option maxRecDepth 100000 in
theorem q_9 : Cond.selects RX4 yX4_isShip yX4_isShip ∈ tb := tb_mem 9 rfl rfl
set_option maxRecDepth 100000 in
theorem q_10 : Cond.selects RX2 yX2_lose yX2_lose ∈ tb := tb_mem 10 rfl rfl
set_option maxRecDepth 100000 in
theorem q_11 : Cond.selects RX4 yX4_think yX4_think ∈ tb := tb_mem 11 rfl rfl
set_option maxRecDepth 100000 in
theorem q_12 : Cond.selects RX4 yX4_refusalToJudge yX4_refusalToJudge ∈ tb := tb_mem 12 rfl rfl
set_option maxRecDepth 100000 in
theorem q_13 : Cond.selects RX4 yX4_refusalOfTold yX4_refusalOfTold ∈ tb := tb_mem 13 rfl rfl
set_option maxRecDepth 100000 in
theorem q_14 : Cond.selects RX4 yX4_firstOtherwise yX4_firstOtherwise ∈ tb := tb_mem 14 rfl rfl
set_option maxRecDepth 100000 in
theorem q_15 : Cond.selects RX4 yX4_lossesByTale yX4_lossesByTale ∈ tb := tb_mem 15 rfl rfl
set_option maxRecDepth 100000 in
theorem q_16 : Cond.selects RX5 yX5_next yX5_next ∈ tb := tb_mem 16 rfl rfl
set_option maxRecDepth 100000 in
theorem q_17 : Cond.selects RX5 yX5_wordFrom yX5_wordFrom ∈ tb := tb_mem 17 rfl rfl
set_option maxRecDepth 100000 in
theorem q_18 : Cond.selects RX5 yX5_eRead yX5_eRead ∈ tb := tb_mem 18 rfl rfl
set_option maxRecDepth 100000 in
theorem q_19 : Cond.selects RX5 yX5_puts yX5_puts ∈ tb := tb_mem 19 rfl rfl
set_option maxRecDepth 100000 in
theorem q_20 : Cond.selects RX5 yX5_unwinds yX5_unwinds ∈ tb := tb_mem 20 rfl rfl
set_option maxRecDepth 100000 in
theorem q_21 : Cond.selects RX5 yX5_opensOne yX5_opensOne ∈ tb := tb_mem 21 rfl rfl
set_option maxRecDepth 100000 in
theorem q_22 : Cond.selects RX5 yX5_holds yX5_holds ∈ tb := tb_mem 22 rfl rfl
set_option maxRecDepth 100000 in
theorem q_23 : Cond.selects RX5 yX5_signOf yX5_signOf ∈ tb := tb_mem 23 rfl rfl
set_option maxRecDepth 100000 in
theorem q_24 : Cond.selects RX5 yX5_between yX5_between ∈ tb := tb_mem 24 rfl rfl
set_option maxRecDepth 100000 in
theorem q_25 : Cond.selects RX5 yX5_afloat yX5_afloat ∈ tb := tb_mem 25 rfl rfl
set_option maxRecDepth 100000 in
theorem q_26 : Cond.selects RX5 yX5_rockMany yX5_rockMany ∈ tb := tb_mem 26 rfl rfl
set_option maxRecDepth 100000 in
theorem q_27 : Cond.selects RX5 yX5_hasRock yX5_hasRock ∈ tb := tb_mem 27 rfl rfl
set_option maxRecDepth 100000 in
theorem q_28 : Cond.selects RX5 yX5_isToldOf yX5_isToldOf ∈ tb := tb_mem 28 rfl rfl
set_option maxRecDepth 100000 in
theorem q_29 : Cond.selects RX5 yX5_isShip yX5_isShip ∈ tb := tb_mem 29 rfl rfl
set_option maxRecDepth 100000 in
theorem q_30 : Cond.selects RX5 yX5_asksOf yX5_asksOf ∈ tb := tb_mem 30 rfl rfl
set_option maxRecDepth 100000 in
theorem q_31 : Cond.selects RX5 yX5_says yX5_says ∈ tb := tb_mem 31 rfl rfl
set_option maxRecDepth 100000 in
theorem q_32 : Cond.selects RX5 yX5_goesTo yX5_goesTo ∈ tb := tb_mem 32 rfl rfl
set_option maxRecDepth 100000 in
theorem q_33 : Cond.selects RX5 yX5_likesOf yX5_likesOf ∈ tb := tb_mem 33 rfl rfl
set_option maxRecDepth 100000 in
theorem q_34 : Cond.selects RX5 yX5_doesSink yX5_doesSink ∈ tb := tb_mem 34 rfl rfl
set_option maxRecDepth 100000 in
theorem q_35 : Cond.selects RX5 yX5_nightOf yX5_nightOf ∈ tb := tb_mem 35 rfl rfl
set_option maxRecDepth 100000 in
theorem q_36 : Cond.selects RX5 yX5_sails yX5_sails ∈ tb := tb_mem 36 rfl rfl
set_option maxRecDepth 100000 in
theorem q_37 : Cond.selects RX5 yX5_teachesOf yX5_teachesOf ∈ tb := tb_mem 37 rfl rfl
set_option maxRecDepth 100000 in
theorem q_38 : Cond.selects RX5 yX5_keeps yX5_keeps ∈ tb := tb_mem 38 rfl rfl
set_option maxRecDepth 100000 in
theorem q_39 : Cond.selects RX5 yX5_goes yX5_goes ∈ tb := tb_mem 39 rfl rfl
set_option maxRecDepth 100000 in
theorem q_40 : Cond.selects RX5 yX5_toldBehind yX5_toldBehind ∈ tb := tb_mem 40 rfl rfl
set_option maxRecDepth 100000 in
theorem q_41 : Cond.selects RX5 yX5_beliefAll yX5_beliefAll ∈ tb := tb_mem 41 rfl rfl
set_option maxRecDepth 100000 in
theorem q_42 : Cond.selects RX5 yX5_lays yX5_lays ∈ tb := tb_mem 42 rfl rfl
set_option maxRecDepth 100000 in
theorem q_43 : Cond.selects RX5 yX5_brightest yX5_brightest ∈ tb := tb_mem 43 rfl rfl
set_option maxRecDepth 100000 in
theorem q_44 : Cond.selects RX5 yX5_lostNow yX5_lostNow ∈ tb := tb_mem 44 rfl rfl
set_option maxRecDepth 100000 in
theorem q_45 : Cond.selects RX5 yX5_toldWrong yX5_toldWrong ∈ tb := tb_mem 45 rfl rfl
set_option maxRecDepth 100000 in
theorem q_46 : Cond.selects RX5 yX5_sheetWrong yX5_sheetWrong ∈ tb := tb_mem 46 rfl rfl
set_option maxRecDepth 100000 in
theorem q_47 : Cond.selects RX5 yX5_unlike yX5_unlike ∈ tb := tb_mem 47 rfl rfl
set_option maxRecDepth 100000 in
theorem q_48 : Cond.selects RX5 yX5_tales yX5_tales ∈ tb := tb_mem 48 rfl rfl
set_option maxRecDepth 100000 in
theorem q_50 : Cond.initialized RX4 ∈ tb := tb_mem 50 rfl rfl
set_option maxRecDepth 100000 in
theorem q_51 : Cond.initialized RX1 ∈ tb := tb_mem 51 rfl rfl
set_option maxRecDepth 100000 in
theorem q_52 : Cond.initialized RX0 ∈ tb := tb_mem 52 rfl rfl
set_option maxRecDepth 100000 in
theorem q_53 : Cond.initialized RX3 ∈ tb := tb_mem 53 rfl rfl
set_option maxRecDepth 100000 in
theorem q_54 : Cond.initialized RX2 ∈ tb := tb_mem 54 rfl rfl
set_option maxRecDepth 100000 in
theorem q_55 : Cond.initialized RJ0 ∈ tb := tb_mem 55 rfl rfl
set_option maxRecDepth 100000 in
theorem q_56 : Cond.initialized RJ1 ∈ tb := tb_mem 56 rfl rfl
set_option maxRecDepth 100000 in
theorem q_57 : Cond.initialized RJ3 ∈ tb := tb_mem 57 rfl rfl
set_option maxRecDepth 100000 in
theorem q_59 : Cond.initialized RX5 ∈ tb := tb_mem 59 rfl rfl
set_option maxRecDepth 100000 in
theorem q_60 : Cond.initialized RJ6 ∈ tb := tb_mem 60 rfl rfl
set_option maxRecDepth 100000 in
theorem q_61 : Cond.initialized RJ13 ∈ tb := tb_mem 61 rfl rfl
set_option maxRecDepth 100000 in
theorem q_62 : Cond.initialized "java/lang/Math" ∈ tb := tb_mem 62 rfl rfl
set_option maxRecDepth 100000 in
theorem q_82 : Cond.fieldLink RX1 9 RX1 "tape" "[I" ∈ tb := tb_mem 82 rfl rfl
set_option maxRecDepth 100000 in
theorem q_83 : Cond.fieldLink RX1 15 RX1 "size" "I" ∈ tb := tb_mem 83 rfl rfl
set_option maxRecDepth 100000 in
theorem q_84 : Cond.fieldLink RX1 23 RX1 "at" "I" ∈ tb := tb_mem 84 rfl rfl
set_option maxRecDepth 100000 in
theorem q_85 : Cond.fieldLink RX1 51 RX1 "token" "I" ∈ tb := tb_mem 85 rfl rfl
set_option maxRecDepth 100000 in
theorem q_86 : Cond.fieldLink RX1 48 RX1 "place" "I" ∈ tb := tb_mem 86 rfl rfl
set_option maxRecDepth 100000 in
theorem q_87 : Cond.fieldLink RX1 26 RX1 "fault" "I" ∈ tb := tb_mem 87 rfl rfl
set_option maxRecDepth 100000 in
theorem q_88 : Cond.fieldLink RX1 19 RX1 "law" "LLighthouseLiedTo$Law;" ∈ tb := tb_mem 88 rfl rfl
set_option maxRecDepth 100000 in
theorem q_110 : Cond.fieldLink RX0 9 RX0 "steps" "[I" ∈ tb := tb_mem 110 rfl rfl
set_option maxRecDepth 100000 in
theorem q_111 : Cond.fieldLink RX0 15 RX0 "stack" "[I" ∈ tb := tb_mem 111 rfl rfl
set_option maxRecDepth 100000 in
theorem q_112 : Cond.fieldLink RX0 18 RX0 "ends" "[I" ∈ tb := tb_mem 112 rfl rfl
set_option maxRecDepth 100000 in
theorem q_113 : Cond.fieldLink RX0 21 RX0 "size" "I" ∈ tb := tb_mem 113 rfl rfl
set_option maxRecDepth 100000 in
theorem q_128 : Cond.fieldLink RX3 9 RX3 "numbers" "[I" ∈ tb := tb_mem 128 rfl rfl
set_option maxRecDepth 100000 in
theorem q_129 : Cond.fieldLink RX4 231 RX3 "numbers" "[I" ∈ tb := tb_mem 129 rfl rfl
set_option maxRecDepth 100000 in
theorem q_130 : Cond.fieldLink RX3 15 RX3 "sort" "I" ∈ tb := tb_mem 130 rfl rfl
set_option maxRecDepth 100000 in
theorem q_131 : Cond.fieldLink RX4 221 RX3 "sort" "I" ∈ tb := tb_mem 131 rfl rfl
set_option maxRecDepth 100000 in
theorem q_132 : Cond.fieldLink RX3 19 RX3 "size" "I" ∈ tb := tb_mem 132 rfl rfl
set_option maxRecDepth 100000 in
theorem q_133 : Cond.fieldLink RX4 246 RX3 "size" "I" ∈ tb := tb_mem 133 rfl rfl
set_option maxRecDepth 100000 in
theorem q_147 : Cond.fieldLink RX2 27 RX2 "texts" "[LLighthouseLiedTo$Law;" ∈ tb := tb_mem 147 rfl rfl
set_option maxRecDepth 100000 in
theorem q_148 : Cond.fieldLink RX2 9 RX2 "belief" "[I" ∈ tb := tb_mem 148 rfl rfl
set_option maxRecDepth 100000 in
theorem q_149 : Cond.fieldLink RX4 119 RX2 "belief" "[I" ∈ tb := tb_mem 149 rfl rfl
set_option maxRecDepth 100000 in
theorem q_150 : Cond.fieldLink RX0 33 RX2 "belief" "[I" ∈ tb := tb_mem 150 rfl rfl
set_option maxRecDepth 100000 in
theorem q_151 : Cond.fieldLink RX2 15 RX2 "kind" "[I" ∈ tb := tb_mem 151 rfl rfl
set_option maxRecDepth 100000 in
theorem q_152 : Cond.fieldLink RX4 142 RX2 "kind" "[I" ∈ tb := tb_mem 152 rfl rfl
set_option maxRecDepth 100000 in
theorem q_153 : Cond.fieldLink RX2 18 RX2 "more" "[I" ∈ tb := tb_mem 153 rfl rfl
set_option maxRecDepth 100000 in
theorem q_154 : Cond.fieldLink RX4 145 RX2 "more" "[I" ∈ tb := tb_mem 154 rfl rfl
set_option maxRecDepth 100000 in
theorem q_155 : Cond.fieldLink RX2 21 RX2 "cell" "[I" ∈ tb := tb_mem 155 rfl rfl
set_option maxRecDepth 100000 in
theorem q_156 : Cond.fieldLink RX4 139 RX2 "cell" "[I" ∈ tb := tb_mem 156 rfl rfl
set_option maxRecDepth 100000 in
theorem q_157 : Cond.fieldLink RX2 24 RX2 "draught" "[I" ∈ tb := tb_mem 157 rfl rfl
set_option maxRecDepth 100000 in
theorem q_158 : Cond.fieldLink RX4 128 RX2 "draught" "[I" ∈ tb := tb_mem 158 rfl rfl
set_option maxRecDepth 100000 in
theorem q_159 : Cond.fieldLink RX2 37 RX2 "rocks" "J" ∈ tb := tb_mem 159 rfl rfl
set_option maxRecDepth 100000 in
theorem q_160 : Cond.fieldLink RX4 87 RX2 "rocks" "J" ∈ tb := tb_mem 160 rfl rfl
set_option maxRecDepth 100000 in
theorem q_161 : Cond.fieldLink RX2 41 RX2 "lost" "I" ∈ tb := tb_mem 161 rfl rfl
set_option maxRecDepth 100000 in
theorem q_162 : Cond.fieldLink RX4 161 RX2 "lost" "I" ∈ tb := tb_mem 162 rfl rfl
set_option maxRecDepth 100000 in
theorem q_163 : Cond.fieldLink RX4 69 RX2 "ships" "I" ∈ tb := tb_mem 163 rfl rfl
set_option maxRecDepth 100000 in
theorem q_164 : Cond.fieldLink RX2 45 RX2 "ships" "I" ∈ tb := tb_mem 164 rfl rfl
set_option maxRecDepth 100000 in
theorem q_165 : Cond.fieldLink RX4 84 RX2 "doubt" "I" ∈ tb := tb_mem 165 rfl rfl
set_option maxRecDepth 100000 in
theorem q_166 : Cond.fieldLink RX2 48 RX2 "doubt" "I" ∈ tb := tb_mem 166 rfl rfl
set_option maxRecDepth 100000 in
theorem q_167 : Cond.fieldLink RX0 41 RX2 "doubt" "I" ∈ tb := tb_mem 167 rfl rfl
set_option maxRecDepth 100000 in
theorem q_168 : Cond.fieldLink RX4 81 RX2 "night" "I" ∈ tb := tb_mem 168 rfl rfl
set_option maxRecDepth 100000 in
theorem q_169 : Cond.fieldLink RX2 51 RX2 "night" "I" ∈ tb := tb_mem 169 rfl rfl
set_option maxRecDepth 100000 in
theorem q_170 : Cond.fieldLink RX0 38 RX2 "night" "I" ∈ tb := tb_mem 170 rfl rfl
set_option maxRecDepth 100000 in
theorem q_171 : Cond.fieldLink RX4 96 RX2 "law" "I" ∈ tb := tb_mem 171 rfl rfl
set_option maxRecDepth 100000 in
theorem q_172 : Cond.fieldLink RX2 54 RX2 "law" "I" ∈ tb := tb_mem 172 rfl rfl
set_option maxRecDepth 100000 in
theorem q_200 : Cond.instanceMethod yJ0_length_8abf5 ∈ tb := tb_mem 200 rfl rfl
set_option maxRecDepth 100000 in
theorem q_201 : Cond.selects RJ0 yJ0_length_8abf5 yJ0_length_8abf5 ∈ tb := tb_mem 201 rfl rfl
set_option maxRecDepth 100000 in
theorem q_202 : Cond.code yJ0_length_8abf5 cJ0_length_8abf5 1 (some .int) ∈ tb := tb_mem 202 rfl rfl
set_option maxRecDepth 100000 in
theorem q_203 : Cond.methodLink RJ0 335 yJ0_coder_7d493 ∈ tb := tb_mem 203 rfl rfl
set_option maxRecDepth 100000 in
theorem q_204 : Cond.instanceMethod yJ0_coder_7d493 ∈ tb := tb_mem 204 rfl rfl
set_option maxRecDepth 100000 in
theorem q_205 : Cond.selects RJ0 yJ0_coder_7d493 yJ0_coder_7d493 ∈ tb := tb_mem 205 rfl rfl
set_option maxRecDepth 100000 in
theorem q_206 : Cond.code yJ0_coder_7d493 cJ0_coder_7d493 1 (some .byte) ∈ tb := tb_mem 206 rfl rfl
set_option maxRecDepth 100000 in
theorem q_207 : Cond.fieldLink RJ0 38 RJ0 "COMPACT_STRINGS" "Z" ∈ tb := tb_mem 207 rfl rfl
set_option maxRecDepth 100000 in
theorem q_210 : Cond.instanceMethod yJ0_charAt_5068e ∈ tb := tb_mem 210 rfl rfl
set_option maxRecDepth 100000 in
theorem q_211 : Cond.selects RJ0 yJ0_charAt_5068e yJ0_charAt_5068e ∈ tb := tb_mem 211 rfl rfl
set_option maxRecDepth 100000 in
theorem q_212 : Cond.code yJ0_charAt_5068e cJ0_charAt_5068e 2 (some .char) ∈ tb := tb_mem 212 rfl rfl
set_option maxRecDepth 100000 in
theorem q_213 : Cond.methodLink RJ0 492 yJ0_isLatin1_aae02 ∈ tb := tb_mem 213 rfl rfl
set_option maxRecDepth 100000 in
theorem q_214 : Cond.instanceMethod yJ0_isLatin1_aae02 ∈ tb := tb_mem 214 rfl rfl
set_option maxRecDepth 100000 in
theorem q_215 : Cond.selects RJ0 yJ0_isLatin1_aae02 yJ0_isLatin1_aae02 ∈ tb := tb_mem 215 rfl rfl
set_option maxRecDepth 100000 in
theorem q_216 : Cond.code yJ0_isLatin1_aae02 cJ0_isLatin1_aae02 1 (some .boolean) ∈ tb := tb_mem 216 rfl rfl
set_option maxRecDepth 100000 in
theorem q_217 : Cond.methodLink RJ0 495 yJ1_charAt_3b067 ∈ tb := tb_mem 217 rfl rfl
set_option maxRecDepth 100000 in
theorem q_218 : Cond.static yJ1_charAt_3b067 ∈ tb := tb_mem 218 rfl rfl
set_option maxRecDepth 100000 in
theorem q_219 : Cond.code yJ1_charAt_3b067 cJ1_charAt_3b067 2 (some .char) ∈ tb := tb_mem 219 rfl rfl
set_option maxRecDepth 100000 in
theorem q_220 : Cond.methodLink RJ1 9 yJ0_checkIndex_df160 ∈ tb := tb_mem 220 rfl rfl
set_option maxRecDepth 100000 in
theorem q_221 : Cond.static yJ0_checkIndex_df160 ∈ tb := tb_mem 221 rfl rfl
set_option maxRecDepth 100000 in
theorem q_222 : Cond.code yJ0_checkIndex_df160 cJ0_checkIndex_df160 2 none ∈ tb := tb_mem 222 rfl rfl
set_option maxRecDepth 100000 in
theorem q_223 : Cond.fieldLink RJ0 1053 RJ3 "SIOOBE_FORMATTER" "Ljava/util/function/BiFunction;" ∈ tb := tb_mem 223 rfl rfl
set_option maxRecDepth 100000 in
theorem q_225 : Cond.methodLink RJ0 1059 yJ3_checkIndex_8e157 ∈ tb := tb_mem 225 rfl rfl
set_option maxRecDepth 100000 in
theorem q_226 : Cond.static yJ3_checkIndex_8e157 ∈ tb := tb_mem 226 rfl rfl
set_option maxRecDepth 100000 in
theorem q_227 : Cond.code yJ3_checkIndex_8e157 cJ3_checkIndex_8e157 3 (some .int) ∈ tb := tb_mem 227 rfl rfl
set_option maxRecDepth 100000 in
theorem q_247 : Cond.methodLink RX4 61 yX1_read ∈ tb := tb_mem 247 rfl rfl
set_option maxRecDepth 100000 in
theorem q_248 : Cond.instanceMethod yX1_read ∈ tb := tb_mem 248 rfl rfl
set_option maxRecDepth 100000 in
theorem q_249 : Cond.selects RX1 yX1_read yX1_read ∈ tb := tb_mem 249 rfl rfl
set_option maxRecDepth 100000 in
theorem q_250 : Cond.code yX1_read cX1_read 5 (some .int) ∈ tb := tb_mem 250 rfl rfl
set_option maxRecDepth 100000 in
theorem q_251 : Cond.methodLink RX1 29 yX0_clear ∈ tb := tb_mem 251 rfl rfl
set_option maxRecDepth 100000 in
theorem q_252 : Cond.instanceMethod yX0_clear ∈ tb := tb_mem 252 rfl rfl
set_option maxRecDepth 100000 in
theorem q_253 : Cond.selects RX0 yX0_clear yX0_clear ∈ tb := tb_mem 253 rfl rfl
set_option maxRecDepth 100000 in
theorem q_254 : Cond.code yX0_clear cX0_clear 1 none ∈ tb := tb_mem 254 rfl rfl
set_option maxRecDepth 100000 in
theorem q_255 : Cond.methodLink RX1 34 yX1_advance ∈ tb := tb_mem 255 rfl rfl
set_option maxRecDepth 100000 in
theorem q_257 : Cond.instanceMethod yX1_advance ∈ tb := tb_mem 257 rfl rfl
set_option maxRecDepth 100000 in
theorem q_258 : Cond.code yX1_advance cX1_advance 1 none ∈ tb := tb_mem 258 rfl rfl
set_option maxRecDepth 100000 in
theorem q_259 : Cond.methodLink RX1 71 yX1_isLetter ∈ tb := tb_mem 259 rfl rfl
set_option maxRecDepth 100000 in
theorem q_260 : Cond.static yX1_isLetter ∈ tb := tb_mem 260 rfl rfl
set_option maxRecDepth 100000 in
theorem q_261 : Cond.code yX1_isLetter cX1_isLetter 1 (some .boolean) ∈ tb := tb_mem 261 rfl rfl
set_option maxRecDepth 100000 in
theorem q_262 : Cond.methodLink RX1 74 yX1_word ∈ tb := tb_mem 262 rfl rfl
set_option maxRecDepth 100000 in
theorem q_264 : Cond.instanceMethod yX1_word ∈ tb := tb_mem 264 rfl rfl
set_option maxRecDepth 100000 in
theorem q_265 : Cond.code yX1_word cX1_word 1 (some .int) ∈ tb := tb_mem 265 rfl rfl
set_option maxRecDepth 100000 in
theorem q_267 : Cond.methodLink RX1 89 yX1_spells ∈ tb := tb_mem 267 rfl rfl
set_option maxRecDepth 100000 in
theorem q_269 : Cond.instanceMethod yX1_spells ∈ tb := tb_mem 269 rfl rfl
set_option maxRecDepth 100000 in
theorem q_270 : Cond.code yX1_spells cX1_spells 3 (some .boolean) ∈ tb := tb_mem 270 rfl rfl
set_option maxRecDepth 100000 in
theorem q_271 : Cond.methodLink RX1 115 yJ0_length_8abf5 ∈ tb := tb_mem 271 rfl rfl
set_option maxRecDepth 100000 in
theorem q_272 : Cond.methodLink RX1 120 yJ0_charAt_5068e ∈ tb := tb_mem 272 rfl rfl
set_option maxRecDepth 100000 in
theorem q_284 : Cond.methodLink RX1 78 yX1_isDigit ∈ tb := tb_mem 284 rfl rfl
set_option maxRecDepth 100000 in
theorem q_285 : Cond.static yX1_isDigit ∈ tb := tb_mem 285 rfl rfl
set_option maxRecDepth 100000 in
theorem q_286 : Cond.code yX1_isDigit cX1_isDigit 1 (some .boolean) ∈ tb := tb_mem 286 rfl rfl
set_option maxRecDepth 100000 in
theorem q_287 : Cond.methodLink RX1 81 yX1_number ∈ tb := tb_mem 287 rfl rfl
set_option maxRecDepth 100000 in
theorem q_289 : Cond.instanceMethod yX1_number ∈ tb := tb_mem 289 rfl rfl
set_option maxRecDepth 100000 in
theorem q_290 : Cond.code yX1_number cX1_number 2 (some .int) ∈ tb := tb_mem 290 rfl rfl
set_option maxRecDepth 100000 in
theorem q_291 : Cond.methodLink RX1 84 yX1_signOf ∈ tb := tb_mem 291 rfl rfl
set_option maxRecDepth 100000 in
theorem q_292 : Cond.static yX1_signOf ∈ tb := tb_mem 292 rfl rfl
set_option maxRecDepth 100000 in
theorem q_293 : Cond.code yX1_signOf cX1_signOf 1 (some .int) ∈ tb := tb_mem 293 rfl rfl
set_option maxRecDepth 100000 in
theorem q_294 : Cond.methodLink RX1 37 yX1_expect ∈ tb := tb_mem 294 rfl rfl
set_option maxRecDepth 100000 in
theorem q_296 : Cond.instanceMethod yX1_expect ∈ tb := tb_mem 296 rfl rfl
set_option maxRecDepth 100000 in
theorem q_297 : Cond.code yX1_expect cX1_expect 2 none ∈ tb := tb_mem 297 rfl rfl
set_option maxRecDepth 100000 in
theorem q_298 : Cond.methodLink RX1 54 yX1_fail ∈ tb := tb_mem 298 rfl rfl
set_option maxRecDepth 100000 in
theorem q_300 : Cond.instanceMethod yX1_fail ∈ tb := tb_mem 300 rfl rfl
set_option maxRecDepth 100000 in
theorem q_301 : Cond.code yX1_fail cX1_fail 1 none ∈ tb := tb_mem 301 rfl rfl
set_option maxRecDepth 100000 in
theorem q_302 : Cond.methodLink RX1 41 yX1_joined ∈ tb := tb_mem 302 rfl rfl
set_option maxRecDepth 100000 in
theorem q_304 : Cond.instanceMethod yX1_joined ∈ tb := tb_mem 304 rfl rfl
set_option maxRecDepth 100000 in
theorem q_305 : Cond.code yX1_joined cX1_joined 6 none ∈ tb := tb_mem 305 rfl rfl
set_option maxRecDepth 100000 in
theorem q_306 : Cond.methodLink RX1 57 yX1_one ∈ tb := tb_mem 306 rfl rfl
set_option maxRecDepth 100000 in
theorem q_308 : Cond.instanceMethod yX1_one ∈ tb := tb_mem 308 rfl rfl
set_option maxRecDepth 100000 in
theorem q_309 : Cond.code yX1_one cX1_one 2 none ∈ tb := tb_mem 309 rfl rfl
set_option maxRecDepth 100000 in
theorem q_310 : Cond.methodLink RX1 64 yX0_add ∈ tb := tb_mem 310 rfl rfl
set_option maxRecDepth 100000 in
theorem q_311 : Cond.instanceMethod yX0_add ∈ tb := tb_mem 311 rfl rfl
set_option maxRecDepth 100000 in
theorem q_312 : Cond.selects RX0 yX0_add yX0_add ∈ tb := tb_mem 312 rfl rfl
set_option maxRecDepth 100000 in
theorem q_313 : Cond.code yX0_add cX0_add 2 none ∈ tb := tb_mem 313 rfl rfl
set_option maxRecDepth 100000 in
theorem q_314 : Cond.methodLink RX1 60 yX1_mayOpen ∈ tb := tb_mem 314 rfl rfl
set_option maxRecDepth 100000 in
theorem q_316 : Cond.instanceMethod yX1_mayOpen ∈ tb := tb_mem 316 rfl rfl
set_option maxRecDepth 100000 in
theorem q_317 : Cond.code yX1_mayOpen cX1_mayOpen 2 (some .boolean) ∈ tb := tb_mem 317 rfl rfl
set_option maxRecDepth 100000 in
theorem q_318 : Cond.methodLink RX1 67 yX1_rankOf ∈ tb := tb_mem 318 rfl rfl
set_option maxRecDepth 100000 in
theorem q_319 : Cond.static yX1_rankOf ∈ tb := tb_mem 319 rfl rfl
set_option maxRecDepth 100000 in
theorem q_320 : Cond.code yX1_rankOf cX1_rankOf 1 (some .int) ∈ tb := tb_mem 320 rfl rfl
set_option maxRecDepth 100000 in
theorem q_321 : Cond.methodLink RX1 45 yX0_endPart ∈ tb := tb_mem 321 rfl rfl
set_option maxRecDepth 100000 in
theorem q_322 : Cond.instanceMethod yX0_endPart ∈ tb := tb_mem 322 rfl rfl
set_option maxRecDepth 100000 in
theorem q_323 : Cond.selects RX0 yX0_endPart yX0_endPart ∈ tb := tb_mem 323 rfl rfl
set_option maxRecDepth 100000 in
theorem q_324 : Cond.code yX0_endPart cX0_endPart 2 none ∈ tb := tb_mem 324 rfl rfl
set_option maxRecDepth 100000 in
theorem q_325 : Cond.fieldLink RX4 11 RX4 "texts" "[LLighthouseLiedTo$Law;" ∈ tb := tb_mem 325 rfl rfl
set_option maxRecDepth 100000 in
theorem q_326 : Cond.fieldLink RX4 39 RX4 "now" "LLighthouseLiedTo$Sea;" ∈ tb := tb_mem 326 rfl rfl
set_option maxRecDepth 100000 in
theorem q_327 : Cond.fieldLink RX4 43 RX4 "thought" "LLighthouseLiedTo$Sea;" ∈ tb := tb_mem 327 rfl rfl
set_option maxRecDepth 100000 in
theorem q_328 : Cond.fieldLink RX4 46 RX4 "kept" "LLighthouseLiedTo$Sea;" ∈ tb := tb_mem 328 rfl rfl
set_option maxRecDepth 100000 in
theorem q_329 : Cond.fieldLink RX4 17 RX4 "sheets" "[LLighthouseLiedTo$Sheet;" ∈ tb := tb_mem 329 rfl rfl
set_option maxRecDepth 100000 in
theorem q_330 : Cond.fieldLink RX4 21 RX4 "tape" "[I" ∈ tb := tb_mem 330 rfl rfl
set_option maxRecDepth 100000 in
theorem q_331 : Cond.fieldLink RX4 28 RX4 "reader" "LLighthouseLiedTo$Reader;" ∈ tb := tb_mem 331 rfl rfl
set_option maxRecDepth 100000 in
theorem q_332 : Cond.fieldLink RX4 65 RX4 "textCount" "I" ∈ tb := tb_mem 332 rfl rfl
set_option maxRecDepth 100000 in
theorem q_333 : Cond.fieldLink RX4 99 RX4 "tapeSize" "I" ∈ tb := tb_mem 333 rfl rfl
set_option maxRecDepth 100000 in
theorem q_334 : Cond.fieldLink RX4 217 RX4 "hasImage" "Z" ∈ tb := tb_mem 334 rfl rfl
set_option maxRecDepth 100000 in
theorem q_361 : Cond.methodLink RX4 72 yX2_afloat ∈ tb := tb_mem 361 rfl rfl
set_option maxRecDepth 100000 in
theorem q_362 : Cond.instanceMethod yX2_afloat ∈ tb := tb_mem 362 rfl rfl
set_option maxRecDepth 100000 in
theorem q_363 : Cond.selects RX2 yX2_afloat yX2_afloat ∈ tb := tb_mem 363 rfl rfl
set_option maxRecDepth 100000 in
theorem q_364 : Cond.code yX2_afloat cX2_afloat 1 (some .int) ∈ tb := tb_mem 364 rfl rfl
set_option maxRecDepth 100000 in
theorem q_365 : Cond.methodLink RX4 75 yJ6_bitCount_0f7a4 ∈ tb := tb_mem 365 rfl rfl
set_option maxRecDepth 100000 in
theorem q_366 : Cond.static yJ6_bitCount_0f7a4 ∈ tb := tb_mem 366 rfl rfl
set_option maxRecDepth 100000 in
theorem q_367 : Cond.code yJ6_bitCount_0f7a4 cJ6_bitCount_0f7a4 1 (some .int) ∈ tb := tb_mem 367 rfl rfl
set_option maxRecDepth 100000 in
theorem q_368 : Cond.constant RJ6 265 (1431655765 : Int32) ∈ tb := tb_mem 368 rfl rfl
set_option maxRecDepth 100000 in
theorem q_369 : Cond.constant RJ6 266 (858993459 : Int32) ∈ tb := tb_mem 369 rfl rfl
set_option maxRecDepth 100000 in
theorem q_370 : Cond.constant RJ6 267 (252645135 : Int32) ∈ tb := tb_mem 370 rfl rfl
set_option maxRecDepth 100000 in
theorem q_371 : Cond.methodLink RX4 91 yJ13_bitCount_95d88 ∈ tb := tb_mem 371 rfl rfl
set_option maxRecDepth 100000 in
theorem q_372 : Cond.static yJ13_bitCount_95d88 ∈ tb := tb_mem 372 rfl rfl
set_option maxRecDepth 100000 in
theorem q_373 : Cond.code yJ13_bitCount_95d88 cJ13_bitCount_95d88 2 (some .int) ∈ tb := tb_mem 373 rfl rfl
set_option maxRecDepth 100000 in
theorem q_374 : Cond.constantLong RJ13 314 (6148914691236517205 : Int64) ∈ tb := tb_mem 374 rfl rfl
set_option maxRecDepth 100000 in
theorem q_375 : Cond.constantLong RJ13 316 (3689348814741910323 : Int64) ∈ tb := tb_mem 375 rfl rfl
set_option maxRecDepth 100000 in
theorem q_376 : Cond.constantLong RJ13 318 (1085102592571150095 : Int64) ∈ tb := tb_mem 376 rfl rfl
set_option maxRecDepth 100000 in
theorem q_381 : Cond.methodLink RX4 102 yX4_isCell ∈ tb := tb_mem 381 rfl rfl
set_option maxRecDepth 100000 in
theorem q_382 : Cond.static yX4_isCell ∈ tb := tb_mem 382 rfl rfl
set_option maxRecDepth 100000 in
theorem q_383 : Cond.code yX4_isCell cX4_isCell 1 (some .boolean) ∈ tb := tb_mem 383 rfl rfl
set_option maxRecDepth 100000 in
theorem q_384 : Cond.methodLink RX4 106 yX4_within ∈ tb := tb_mem 384 rfl rfl
set_option maxRecDepth 100000 in
theorem q_385 : Cond.static yX4_within ∈ tb := tb_mem 385 rfl rfl
set_option maxRecDepth 100000 in
theorem q_386 : Cond.code yX4_within cX4_within 3 (some .boolean) ∈ tb := tb_mem 386 rfl rfl
set_option maxRecDepth 100000 in
theorem q_387 : Cond.methodLink RX4 110 yX2_hasRock ∈ tb := tb_mem 387 rfl rfl
set_option maxRecDepth 100000 in
theorem q_388 : Cond.instanceMethod yX2_hasRock ∈ tb := tb_mem 388 rfl rfl
set_option maxRecDepth 100000 in
theorem q_389 : Cond.selects RX2 yX2_hasRock yX2_hasRock ∈ tb := tb_mem 389 rfl rfl
set_option maxRecDepth 100000 in
theorem q_390 : Cond.code yX2_hasRock cX2_hasRock 2 (some .boolean) ∈ tb := tb_mem 390 rfl rfl
set_option maxRecDepth 100000 in
theorem q_391 : Cond.constantLong RX4 113 (-1 : Int64) ∈ tb := tb_mem 391 rfl rfl
set_option maxRecDepth 100000 in
theorem q_396 : Cond.methodLink RX4 115 yX2_hear ∈ tb := tb_mem 396 rfl rfl
set_option maxRecDepth 100000 in
theorem q_397 : Cond.instanceMethod yX2_hear ∈ tb := tb_mem 397 rfl rfl
set_option maxRecDepth 100000 in
theorem q_398 : Cond.selects RX2 yX2_hear yX2_hear ∈ tb := tb_mem 398 rfl rfl
set_option maxRecDepth 100000 in
theorem q_399 : Cond.code yX2_hear cX2_hear 5 none ∈ tb := tb_mem 399 rfl rfl
set_option maxRecDepth 100000 in
theorem q_400 : Cond.methodLink RX2 68 yJ9_min_7cf53 ∈ tb := tb_mem 400 rfl rfl
set_option maxRecDepth 100000 in
theorem q_401 : Cond.static yJ9_min_7cf53 ∈ tb := tb_mem 401 rfl rfl
set_option maxRecDepth 100000 in
theorem q_402 : Cond.code yJ9_min_7cf53 cJ9_min_7cf53 2 (some .int) ∈ tb := tb_mem 402 rfl rfl
set_option maxRecDepth 100000 in
theorem q_403 : Cond.methodLink RX2 74 yJ9_max_7cf53 ∈ tb := tb_mem 403 rfl rfl
set_option maxRecDepth 100000 in
theorem q_404 : Cond.static yJ9_max_7cf53 ∈ tb := tb_mem 404 rfl rfl
set_option maxRecDepth 100000 in
theorem q_405 : Cond.code yJ9_max_7cf53 cJ9_max_7cf53 2 (some .int) ∈ tb := tb_mem 405 rfl rfl
set_option maxRecDepth 100000 in
theorem q_418 : Cond.methodLink RX4 122 yX4_isByte ∈ tb := tb_mem 418 rfl rfl
set_option maxRecDepth 100000 in
theorem q_419 : Cond.static yX4_isByte ∈ tb := tb_mem 419 rfl rfl
set_option maxRecDepth 100000 in
theorem q_420 : Cond.code yX4_isByte cX4_isByte 1 (some .boolean) ∈ tb := tb_mem 420 rfl rfl
set_option maxRecDepth 100000 in
theorem q_433 : Cond.methodLink RX4 125 yX4_isShip ∈ tb := tb_mem 433 rfl rfl
set_option maxRecDepth 100000 in
theorem q_435 : Cond.instanceMethod yX4_isShip ∈ tb := tb_mem 435 rfl rfl
set_option maxRecDepth 100000 in
theorem q_436 : Cond.code yX4_isShip cX4_isShip 2 (some .boolean) ∈ tb := tb_mem 436 rfl rfl
set_option maxRecDepth 100000 in
theorem q_437 : Cond.methodLink RX4 131 yX2_says ∈ tb := tb_mem 437 rfl rfl
set_option maxRecDepth 100000 in
theorem q_438 : Cond.instanceMethod yX2_says ∈ tb := tb_mem 438 rfl rfl
set_option maxRecDepth 100000 in
theorem q_439 : Cond.selects RX2 yX2_says yX2_says ∈ tb := tb_mem 439 rfl rfl
set_option maxRecDepth 100000 in
theorem q_440 : Cond.code yX2_says cX2_says 6 (some .int) ∈ tb := tb_mem 440 rfl rfl
set_option maxRecDepth 100000 in
theorem q_441 : Cond.methodLink RX2 77 yX0_worth ∈ tb := tb_mem 441 rfl rfl
set_option maxRecDepth 100000 in
theorem q_442 : Cond.instanceMethod yX0_worth ∈ tb := tb_mem 442 rfl rfl
set_option maxRecDepth 100000 in
theorem q_443 : Cond.selects RX0 yX0_worth yX0_worth ∈ tb := tb_mem 443 rfl rfl
set_option maxRecDepth 100000 in
theorem q_444 : Cond.code yX0_worth cX0_worth 9 (some .int) ∈ tb := tb_mem 444 rfl rfl
set_option maxRecDepth 100000 in
theorem q_445 : Cond.methodLink RX0 25 yX0_named ∈ tb := tb_mem 445 rfl rfl
set_option maxRecDepth 100000 in
theorem q_446 : Cond.static yX0_named ∈ tb := tb_mem 446 rfl rfl
set_option maxRecDepth 100000 in
theorem q_447 : Cond.code yX0_named cX0_named 4 (some .int) ∈ tb := tb_mem 447 rfl rfl
set_option maxRecDepth 100000 in
theorem q_448 : Cond.methodLink RX0 29 yX0_joined ∈ tb := tb_mem 448 rfl rfl
set_option maxRecDepth 100000 in
theorem q_449 : Cond.static yX0_joined ∈ tb := tb_mem 449 rfl rfl
set_option maxRecDepth 100000 in
theorem q_450 : Cond.code yX0_joined cX0_joined 3 (some .int) ∈ tb := tb_mem 450 rfl rfl
set_option maxRecDepth 100000 in
theorem q_452 : Cond.instanceMethod yX4_ship ∈ tb := tb_mem 452 rfl rfl
set_option maxRecDepth 100000 in
theorem q_453 : Cond.selects RX4 yX4_ship yX4_ship ∈ tb := tb_mem 453 rfl rfl
set_option maxRecDepth 100000 in
theorem q_454 : Cond.code yX4_ship cX4_ship 3 (some .int) ∈ tb := tb_mem 454 rfl rfl
set_option maxRecDepth 100000 in
theorem q_455 : Cond.methodLink RX4 135 yX2_launch ∈ tb := tb_mem 455 rfl rfl
set_option maxRecDepth 100000 in
theorem q_456 : Cond.instanceMethod yX2_launch ∈ tb := tb_mem 456 rfl rfl
set_option maxRecDepth 100000 in
theorem q_457 : Cond.selects RX2 yX2_launch yX2_launch ∈ tb := tb_mem 457 rfl rfl
set_option maxRecDepth 100000 in
theorem q_458 : Cond.code yX2_launch cX2_launch 4 (some .int) ∈ tb := tb_mem 458 rfl rfl
set_option maxRecDepth 100000 in
theorem q_467 : Cond.methodLink RX4 148 yX2_isLost ∈ tb := tb_mem 467 rfl rfl
set_option maxRecDepth 100000 in
theorem q_468 : Cond.instanceMethod yX2_isLost ∈ tb := tb_mem 468 rfl rfl
set_option maxRecDepth 100000 in
theorem q_469 : Cond.selects RX2 yX2_isLost yX2_isLost ∈ tb := tb_mem 469 rfl rfl
set_option maxRecDepth 100000 in
theorem q_470 : Cond.code yX2_isLost cX2_isLost 2 (some .boolean) ∈ tb := tb_mem 470 rfl rfl
set_option maxRecDepth 100000 in
theorem q_471 : Cond.methodLink RX4 151 yX2_goal ∈ tb := tb_mem 471 rfl rfl
set_option maxRecDepth 100000 in
theorem q_472 : Cond.instanceMethod yX2_goal ∈ tb := tb_mem 472 rfl rfl
set_option maxRecDepth 100000 in
theorem q_473 : Cond.selects RX2 yX2_goal yX2_goal ∈ tb := tb_mem 473 rfl rfl
set_option maxRecDepth 100000 in
theorem q_474 : Cond.code yX2_goal cX2_goal 7 (some .int) ∈ tb := tb_mem 474 rfl rfl
set_option maxRecDepth 100000 in
theorem q_475 : Cond.methodLink RX2 83 yX2_liking ∈ tb := tb_mem 475 rfl rfl
set_option maxRecDepth 100000 in
theorem q_476 : Cond.instanceMethod yX2_liking ∈ tb := tb_mem 476 rfl rfl
set_option maxRecDepth 100000 in
theorem q_477 : Cond.selects RX2 yX2_liking yX2_liking ∈ tb := tb_mem 477 rfl rfl
set_option maxRecDepth 100000 in
theorem q_478 : Cond.code yX2_liking cX2_liking 4 (some .int) ∈ tb := tb_mem 478 rfl rfl
set_option maxRecDepth 100000 in
theorem q_479 : Cond.methodLink RX2 61 yX2_says ∈ tb := tb_mem 479 rfl rfl
set_option maxRecDepth 100000 in
theorem q_480 : Cond.methodLink RX2 86 yX2_beside ∈ tb := tb_mem 480 rfl rfl
set_option maxRecDepth 100000 in
theorem q_481 : Cond.static yX2_beside ∈ tb := tb_mem 481 rfl rfl
set_option maxRecDepth 100000 in
theorem q_482 : Cond.code yX2_beside cX2_beside 2 (some .int) ∈ tb := tb_mem 482 rfl rfl
set_option maxRecDepth 100000 in
theorem q_483 : Cond.methodLink RX4 154 yX2_sinking ∈ tb := tb_mem 483 rfl rfl
set_option maxRecDepth 100000 in
theorem q_484 : Cond.instanceMethod yX2_sinking ∈ tb := tb_mem 484 rfl rfl
set_option maxRecDepth 100000 in
theorem q_485 : Cond.selects RX2 yX2_sinking yX2_sinking ∈ tb := tb_mem 485 rfl rfl
set_option maxRecDepth 100000 in
theorem q_486 : Cond.code yX2_sinking cX2_sinking 2 (some .boolean) ∈ tb := tb_mem 486 rfl rfl
set_option maxRecDepth 100000 in
theorem q_491 : Cond.methodLink RX4 157 yX2_liking ∈ tb := tb_mem 491 rfl rfl
set_option maxRecDepth 100000 in
theorem q_492 : Cond.constant RX4 160 (-100000 : Int32) ∈ tb := tb_mem 492 rfl rfl
set_option maxRecDepth 100000 in
theorem q_497 : Cond.methodLink RX4 164 yX2_passNight ∈ tb := tb_mem 497 rfl rfl
set_option maxRecDepth 100000 in
theorem q_498 : Cond.instanceMethod yX2_passNight ∈ tb := tb_mem 498 rfl rfl
set_option maxRecDepth 100000 in
theorem q_499 : Cond.selects RX2 yX2_passNight yX2_passNight ∈ tb := tb_mem 499 rfl rfl
set_option maxRecDepth 100000 in
theorem q_500 : Cond.code yX2_passNight cX2_passNight 2 none ∈ tb := tb_mem 500 rfl rfl
set_option maxRecDepth 100000 in
theorem q_501 : Cond.methodLink RX2 89 yX2_isLost ∈ tb := tb_mem 501 rfl rfl
set_option maxRecDepth 100000 in
theorem q_502 : Cond.methodLink RX2 92 yX2_goal ∈ tb := tb_mem 502 rfl rfl
set_option maxRecDepth 100000 in
theorem q_503 : Cond.methodLink RX2 57 yX2_hasRock ∈ tb := tb_mem 503 rfl rfl
set_option maxRecDepth 100000 in
theorem q_504 : Cond.methodLink RX2 96 yX2_sinking ∈ tb := tb_mem 504 rfl rfl
set_option maxRecDepth 100000 in
theorem q_505 : Cond.methodLink RX2 99 yX2_lose ∈ tb := tb_mem 505 rfl rfl
set_option maxRecDepth 100000 in
theorem q_507 : Cond.instanceMethod yX2_lose ∈ tb := tb_mem 507 rfl rfl
set_option maxRecDepth 100000 in
theorem q_508 : Cond.code yX2_lose cX2_lose 3 none ∈ tb := tb_mem 508 rfl rfl
set_option maxRecDepth 100000 in
theorem q_509 : Cond.methodLink RX2 103 yX2_teaching ∈ tb := tb_mem 509 rfl rfl
set_option maxRecDepth 100000 in
theorem q_510 : Cond.instanceMethod yX2_teaching ∈ tb := tb_mem 510 rfl rfl
set_option maxRecDepth 100000 in
theorem q_511 : Cond.selects RX2 yX2_teaching yX2_teaching ∈ tb := tb_mem 511 rfl rfl
set_option maxRecDepth 100000 in
theorem q_512 : Cond.code yX2_teaching cX2_teaching 2 (some .int) ∈ tb := tb_mem 512 rfl rfl
set_option maxRecDepth 100000 in
theorem q_517 : Cond.methodLink RX4 167 yX4_think ∈ tb := tb_mem 517 rfl rfl
set_option maxRecDepth 100000 in
theorem q_519 : Cond.instanceMethod yX4_think ∈ tb := tb_mem 519 rfl rfl
set_option maxRecDepth 100000 in
theorem q_520 : Cond.code yX4_think cX4_think 1 none ∈ tb := tb_mem 520 rfl rfl
set_option maxRecDepth 100000 in
theorem q_521 : Cond.methodLink RX4 214 yX2_become ∈ tb := tb_mem 521 rfl rfl
set_option maxRecDepth 100000 in
theorem q_522 : Cond.instanceMethod yX2_become ∈ tb := tb_mem 522 rfl rfl
set_option maxRecDepth 100000 in
theorem q_523 : Cond.selects RX2 yX2_become yX2_become ∈ tb := tb_mem 523 rfl rfl
set_option maxRecDepth 100000 in
theorem q_524 : Cond.code yX2_become cX2_become 2 none ∈ tb := tb_mem 524 rfl rfl
set_option maxRecDepth 100000 in
theorem q_525 : Cond.methodLink RX2 31 arraycopyName ∈ tb := tb_mem 525 rfl rfl
set_option maxRecDepth 100000 in
theorem q_528 : Cond.methodLink RX4 170 yX2_lossesIn ∈ tb := tb_mem 528 rfl rfl
set_option maxRecDepth 100000 in
theorem q_529 : Cond.instanceMethod yX2_lossesIn ∈ tb := tb_mem 529 rfl rfl
set_option maxRecDepth 100000 in
theorem q_530 : Cond.selects RX2 yX2_lossesIn yX2_lossesIn ∈ tb := tb_mem 530 rfl rfl
set_option maxRecDepth 100000 in
theorem q_531 : Cond.code yX2_lossesIn cX2_lossesIn 4 (some .int) ∈ tb := tb_mem 531 rfl rfl
set_option maxRecDepth 100000 in
theorem q_532 : Cond.methodLink RX2 106 yX2_passNight ∈ tb := tb_mem 532 rfl rfl
set_option maxRecDepth 100000 in
theorem q_533 : Cond.methodLink RX2 109 yJ6_bitCount_0f7a4 ∈ tb := tb_mem 533 rfl rfl
set_option maxRecDepth 100000 in
theorem q_534 : Cond.methodLink RX4 173 yX2_allBelief ∈ tb := tb_mem 534 rfl rfl
set_option maxRecDepth 100000 in
theorem q_535 : Cond.instanceMethod yX2_allBelief ∈ tb := tb_mem 535 rfl rfl
set_option maxRecDepth 100000 in
theorem q_536 : Cond.selects RX2 yX2_allBelief yX2_allBelief ∈ tb := tb_mem 536 rfl rfl
set_option maxRecDepth 100000 in
theorem q_537 : Cond.code yX2_allBelief cX2_allBelief 3 (some .int) ∈ tb := tb_mem 537 rfl rfl
set_option maxRecDepth 100000 in
theorem q_546 : Cond.constantLong RX4 176 (-4611686018427387904 : Int64) ∈ tb := tb_mem 546 rfl rfl
set_option maxRecDepth 100000 in
theorem q_551 : Cond.methodLink RX4 178 yX2_brightest ∈ tb := tb_mem 551 rfl rfl
set_option maxRecDepth 100000 in
theorem q_552 : Cond.instanceMethod yX2_brightest ∈ tb := tb_mem 552 rfl rfl
set_option maxRecDepth 100000 in
theorem q_553 : Cond.selects RX2 yX2_brightest yX2_brightest ∈ tb := tb_mem 553 rfl rfl
set_option maxRecDepth 100000 in
theorem q_554 : Cond.code yX2_brightest cX2_brightest 6 (some .long) ∈ tb := tb_mem 554 rfl rfl
set_option maxRecDepth 100000 in
theorem q_555 : Cond.methodLink RX4 182 yX2_surelyRocks ∈ tb := tb_mem 555 rfl rfl
set_option maxRecDepth 100000 in
theorem q_556 : Cond.instanceMethod yX2_surelyRocks ∈ tb := tb_mem 556 rfl rfl
set_option maxRecDepth 100000 in
theorem q_557 : Cond.selects RX2 yX2_surelyRocks yX2_surelyRocks ∈ tb := tb_mem 557 rfl rfl
set_option maxRecDepth 100000 in
theorem q_558 : Cond.code yX2_surelyRocks cX2_surelyRocks 4 (some .long) ∈ tb := tb_mem 558 rfl rfl
set_option maxRecDepth 100000 in
theorem q_579 : Cond.methodLink RX4 185 yX2_trueBelief ∈ tb := tb_mem 579 rfl rfl
set_option maxRecDepth 100000 in
theorem q_580 : Cond.instanceMethod yX2_trueBelief ∈ tb := tb_mem 580 rfl rfl
set_option maxRecDepth 100000 in
theorem q_581 : Cond.selects RX2 yX2_trueBelief yX2_trueBelief ∈ tb := tb_mem 581 rfl rfl
set_option maxRecDepth 100000 in
theorem q_582 : Cond.code yX2_trueBelief cX2_trueBelief 3 (some .int) ∈ tb := tb_mem 582 rfl rfl
set_option maxRecDepth 100000 in
theorem q_583 : Cond.methodLink RX4 188 yX4_inLowestTerms ∈ tb := tb_mem 583 rfl rfl
set_option maxRecDepth 100000 in
theorem q_584 : Cond.static yX4_inLowestTerms ∈ tb := tb_mem 584 rfl rfl
set_option maxRecDepth 100000 in
theorem q_585 : Cond.code yX4_inLowestTerms cX4_inLowestTerms 4 (some .long) ∈ tb := tb_mem 585 rfl rfl
set_option maxRecDepth 100000 in
theorem q_586 : Cond.methodLink RX4 255 yX4_commonDivisor ∈ tb := tb_mem 586 rfl rfl
set_option maxRecDepth 100000 in
theorem q_587 : Cond.static yX4_commonDivisor ∈ tb := tb_mem 587 rfl rfl
set_option maxRecDepth 100000 in
theorem q_588 : Cond.code yX4_commonDivisor cX4_commonDivisor 6 (some .int) ∈ tb := tb_mem 588 rfl rfl
set_option maxRecDepth 100000 in
theorem q_593 : Cond.methodLink RX4 192 yX4_refusalToJudge ∈ tb := tb_mem 593 rfl rfl
set_option maxRecDepth 100000 in
theorem q_595 : Cond.instanceMethod yX4_refusalToJudge ∈ tb := tb_mem 595 rfl rfl
set_option maxRecDepth 100000 in
theorem q_596 : Cond.code yX4_refusalToJudge cX4_refusalToJudge 4 (some .int) ∈ tb := tb_mem 596 rfl rfl
set_option maxRecDepth 100000 in
theorem q_597 : Cond.methodLink RX4 198 yX4_refusalOfTold ∈ tb := tb_mem 597 rfl rfl
set_option maxRecDepth 100000 in
theorem q_599 : Cond.instanceMethod yX4_refusalOfTold ∈ tb := tb_mem 599 rfl rfl
set_option maxRecDepth 100000 in
theorem q_600 : Cond.code yX4_refusalOfTold cX4_refusalOfTold 2 (some .int) ∈ tb := tb_mem 600 rfl rfl
set_option maxRecDepth 100000 in
theorem q_601 : Cond.methodLink RX4 201 yX4_isSheet ∈ tb := tb_mem 601 rfl rfl
set_option maxRecDepth 100000 in
theorem q_602 : Cond.static yX4_isSheet ∈ tb := tb_mem 602 rfl rfl
set_option maxRecDepth 100000 in
theorem q_603 : Cond.code yX4_isSheet cX4_isSheet 1 (some .boolean) ∈ tb := tb_mem 603 rfl rfl
set_option maxRecDepth 100000 in
theorem q_604 : Cond.methodLink RX4 195 yX4_firstOtherwise ∈ tb := tb_mem 604 rfl rfl
set_option maxRecDepth 100000 in
theorem q_606 : Cond.instanceMethod yX4_firstOtherwise ∈ tb := tb_mem 606 rfl rfl
set_option maxRecDepth 100000 in
theorem q_607 : Cond.code yX4_firstOtherwise cX4_firstOtherwise 5 (some .int) ∈ tb := tb_mem 607 rfl rfl
set_option maxRecDepth 100000 in
theorem q_632 : Cond.methodLink RX4 204 yX3_become ∈ tb := tb_mem 632 rfl rfl
set_option maxRecDepth 100000 in
theorem q_633 : Cond.instanceMethod yX3_become ∈ tb := tb_mem 633 rfl rfl
set_option maxRecDepth 100000 in
theorem q_634 : Cond.selects RX3 yX3_become yX3_become ∈ tb := tb_mem 634 rfl rfl
set_option maxRecDepth 100000 in
theorem q_635 : Cond.code yX3_become cX3_become 4 none ∈ tb := tb_mem 635 rfl rfl
set_option maxRecDepth 100000 in
theorem q_636 : Cond.methodLink RX4 207 yX3_set ∈ tb := tb_mem 636 rfl rfl
set_option maxRecDepth 100000 in
theorem q_637 : Cond.instanceMethod yX3_set ∈ tb := tb_mem 637 rfl rfl
set_option maxRecDepth 100000 in
theorem q_638 : Cond.selects RX3 yX3_set yX3_set ∈ tb := tb_mem 638 rfl rfl
set_option maxRecDepth 100000 in
theorem q_639 : Cond.code yX3_set cX3_set 3 none ∈ tb := tb_mem 639 rfl rfl
set_option maxRecDepth 100000 in
theorem q_640 : Cond.methodLink RX3 22 yX3_has ∈ tb := tb_mem 640 rfl rfl
set_option maxRecDepth 100000 in
theorem q_641 : Cond.instanceMethod yX3_has ∈ tb := tb_mem 641 rfl rfl
set_option maxRecDepth 100000 in
theorem q_642 : Cond.selects RX3 yX3_has yX3_has ∈ tb := tb_mem 642 rfl rfl
set_option maxRecDepth 100000 in
theorem q_643 : Cond.code yX3_has cX3_has 2 (some .boolean) ∈ tb := tb_mem 643 rfl rfl
set_option maxRecDepth 100000 in
theorem q_648 : Cond.constant RX4 210 (99999 : Int32) ∈ tb := tb_mem 648 rfl rfl
set_option maxRecDepth 100000 in
theorem q_649 : Cond.methodLink RX4 211 yX4_lossesByTale ∈ tb := tb_mem 649 rfl rfl
set_option maxRecDepth 100000 in
theorem q_651 : Cond.instanceMethod yX4_lossesByTale ∈ tb := tb_mem 651 rfl rfl
set_option maxRecDepth 100000 in
theorem q_652 : Cond.code yX4_lossesByTale cX4_lossesByTale 6 (some .int) ∈ tb := tb_mem 652 rfl rfl
set_option maxRecDepth 100000 in
theorem q_653 : Cond.constantLong RX4 249 (48271 : Int64) ∈ tb := tb_mem 653 rfl rfl
set_option maxRecDepth 100000 in
theorem q_654 : Cond.constantLong RX4 251 (2147483647 : Int64) ∈ tb := tb_mem 654 rfl rfl
set_option maxRecDepth 100000 in
theorem q_655 : Cond.constantLong RX4 253 (36 : Int64) ∈ tb := tb_mem 655 rfl rfl
set_option maxRecDepth 100000 in
theorem q_676 : Cond.methodLink RX4 224 yX3_has ∈ tb := tb_mem 676 rfl rfl
set_option maxRecDepth 100000 in
theorem q_681 : Cond.methodLink RX4 227 yX3_holds ∈ tb := tb_mem 681 rfl rfl
set_option maxRecDepth 100000 in
theorem q_682 : Cond.instanceMethod yX3_holds ∈ tb := tb_mem 682 rfl rfl
set_option maxRecDepth 100000 in
theorem q_683 : Cond.selects RX3 yX3_holds yX3_holds ∈ tb := tb_mem 683 rfl rfl
set_option maxRecDepth 100000 in
theorem q_684 : Cond.code yX3_holds cX3_holds 3 (some .boolean) ∈ tb := tb_mem 684 rfl rfl
set_option maxRecDepth 100000 in
theorem q_685 : Cond.methodLink RX4 234 arraycopyName ∈ tb := tb_mem 685 rfl rfl
set_option maxRecDepth 100000 in
theorem q_690 : Cond.methodLink RX4 240 yX4_ship ∈ tb := tb_mem 690 rfl rfl
set_option maxRecDepth 100000 in
theorem q_695 : Cond.methodLink RX4 243 yX2_isOne ∈ tb := tb_mem 695 rfl rfl
set_option maxRecDepth 100000 in
theorem q_696 : Cond.instanceMethod yX2_isOne ∈ tb := tb_mem 696 rfl rfl
set_option maxRecDepth 100000 in
theorem q_697 : Cond.selects RX2 yX2_isOne yX2_isOne ∈ tb := tb_mem 697 rfl rfl
set_option maxRecDepth 100000 in
theorem q_698 : Cond.code yX2_isOne cX2_isOne 5 (some .boolean) ∈ tb := tb_mem 698 rfl rfl
set_option maxRecDepth 100000 in
theorem q_699 : Cond.fieldLink RX2 65 RX2 "KIND_ABOVE" "[I" ∈ tb := tb_mem 699 rfl rfl
set_option maxRecDepth 100000 in
theorem q_711 : Cond.methodLink RX5 169 yX5_next ∈ tb := tb_mem 711 rfl rfl
set_option maxRecDepth 100000 in
theorem q_713 : Cond.instanceMethod yX5_next ∈ tb := tb_mem 713 rfl rfl
set_option maxRecDepth 100000 in
theorem q_714 : Cond.code yX5_next cX5_next 3 none ∈ tb := tb_mem 714 rfl rfl
set_option maxRecDepth 100000 in
theorem q_715 : Cond.methodLink RX5 78 yX5_in ∈ tb := tb_mem 715 rfl rfl
set_option maxRecDepth 100000 in
theorem q_716 : Cond.static yX5_in ∈ tb := tb_mem 716 rfl rfl
set_option maxRecDepth 100000 in
theorem q_717 : Cond.code yX5_in cX5_in 3 (some .boolean) ∈ tb := tb_mem 717 rfl rfl
set_option maxRecDepth 100000 in
theorem q_718 : Cond.methodLink RX5 143 yX5_wordFrom ∈ tb := tb_mem 718 rfl rfl
set_option maxRecDepth 100000 in
theorem q_720 : Cond.instanceMethod yX5_wordFrom ∈ tb := tb_mem 720 rfl rfl
set_option maxRecDepth 100000 in
theorem q_721 : Cond.code yX5_wordFrom cX5_wordFrom 6 (some .int) ∈ tb := tb_mem 721 rfl rfl
set_option maxRecDepth 100000 in
theorem q_722 : Cond.methodLink RX5 182 yX5_eRead ∈ tb := tb_mem 722 rfl rfl
set_option maxRecDepth 100000 in
theorem q_724 : Cond.instanceMethod yX5_eRead ∈ tb := tb_mem 724 rfl rfl
set_option maxRecDepth 100000 in
theorem q_725 : Cond.code yX5_eRead cX5_eRead 4 (some .boolean) ∈ tb := tb_mem 725 rfl rfl
set_option maxRecDepth 100000 in
theorem q_726 : Cond.constant RX5 172 (100000 : Int32) ∈ tb := tb_mem 726 rfl rfl
set_option maxRecDepth 100000 in
theorem q_727 : Cond.methodLink RX5 159 yX5_puts ∈ tb := tb_mem 727 rfl rfl
set_option maxRecDepth 100000 in
theorem q_729 : Cond.instanceMethod yX5_puts ∈ tb := tb_mem 729 rfl rfl
set_option maxRecDepth 100000 in
theorem q_730 : Cond.code yX5_puts cX5_puts 2 none ∈ tb := tb_mem 730 rfl rfl
set_option maxRecDepth 100000 in
theorem q_731 : Cond.methodLink RX5 166 yX5_unwinds ∈ tb := tb_mem 731 rfl rfl
set_option maxRecDepth 100000 in
theorem q_733 : Cond.instanceMethod yX5_unwinds ∈ tb := tb_mem 733 rfl rfl
set_option maxRecDepth 100000 in
theorem q_734 : Cond.code yX5_unwinds cX5_unwinds 3 none ∈ tb := tb_mem 734 rfl rfl
set_option maxRecDepth 100000 in
theorem q_735 : Cond.methodLink RX5 153 yX5_rank ∈ tb := tb_mem 735 rfl rfl
set_option maxRecDepth 100000 in
theorem q_736 : Cond.static yX5_rank ∈ tb := tb_mem 736 rfl rfl
set_option maxRecDepth 100000 in
theorem q_737 : Cond.code yX5_rank cX5_rank 1 (some .int) ∈ tb := tb_mem 737 rfl rfl
set_option maxRecDepth 100000 in
theorem q_738 : Cond.methodLink RX5 173 yX5_opensOne ∈ tb := tb_mem 738 rfl rfl
set_option maxRecDepth 100000 in
theorem q_740 : Cond.instanceMethod yX5_opensOne ∈ tb := tb_mem 740 rfl rfl
set_option maxRecDepth 100000 in
theorem q_741 : Cond.code yX5_opensOne cX5_opensOne 2 (some .boolean) ∈ tb := tb_mem 741 rfl rfl
set_option maxRecDepth 100000 in
theorem q_742 : Cond.methodLink RX5 163 yX5_holds ∈ tb := tb_mem 742 rfl rfl
set_option maxRecDepth 100000 in
theorem q_744 : Cond.instanceMethod yX5_holds ∈ tb := tb_mem 744 rfl rfl
set_option maxRecDepth 100000 in
theorem q_745 : Cond.code yX5_holds cX5_holds 2 none ∈ tb := tb_mem 745 rfl rfl
set_option maxRecDepth 100000 in
theorem q_746 : Cond.methodLink RX5 176 yX5_signOf ∈ tb := tb_mem 746 rfl rfl
set_option maxRecDepth 100000 in
theorem q_748 : Cond.instanceMethod yX5_signOf ∈ tb := tb_mem 748 rfl rfl
set_option maxRecDepth 100000 in
theorem q_749 : Cond.code yX5_signOf cX5_signOf 1 (some .int) ∈ tb := tb_mem 749 rfl rfl
set_option maxRecDepth 100000 in
theorem q_750 : Cond.methodLink RX5 179 yX5_between ∈ tb := tb_mem 750 rfl rfl
set_option maxRecDepth 100000 in
theorem q_752 : Cond.instanceMethod yX5_between ∈ tb := tb_mem 752 rfl rfl
set_option maxRecDepth 100000 in
theorem q_753 : Cond.code yX5_between cX5_between 2 (some .boolean) ∈ tb := tb_mem 753 rfl rfl
set_option maxRecDepth 100000 in
theorem q_754 : Cond.fieldLink RX5 82 RX5 "ships" "I" ∈ tb := tb_mem 754 rfl rfl
set_option maxRecDepth 100000 in
theorem q_755 : Cond.fieldLink RX5 7 RX5 "kind" "[I" ∈ tb := tb_mem 755 rfl rfl
set_option maxRecDepth 100000 in
theorem q_756 : Cond.fieldLink RX5 13 RX5 "moreOf" "[I" ∈ tb := tb_mem 756 rfl rfl
set_option maxRecDepth 100000 in
theorem q_757 : Cond.fieldLink RX5 16 RX5 "onOf" "[I" ∈ tb := tb_mem 757 rfl rfl
set_option maxRecDepth 100000 in
theorem q_758 : Cond.fieldLink RX5 19 RX5 "draughtOf" "[I" ∈ tb := tb_mem 758 rfl rfl
set_option maxRecDepth 100000 in
theorem q_759 : Cond.fieldLink RX5 22 RX5 "lost" "[I" ∈ tb := tb_mem 759 rfl rfl
set_option maxRecDepth 100000 in
theorem q_760 : Cond.fieldLink RX5 25 RX5 "beliefs" "[I" ∈ tb := tb_mem 760 rfl rfl
set_option maxRecDepth 100000 in
theorem q_761 : Cond.fieldLink RX5 85 RX5 "rocks" "J" ∈ tb := tb_mem 761 rfl rfl
set_option maxRecDepth 100000 in
theorem q_762 : Cond.fieldLink RX5 100 RX5 "nights" "I" ∈ tb := tb_mem 762 rfl rfl
set_option maxRecDepth 100000 in
theorem q_763 : Cond.fieldLink RX5 103 RX5 "doubt" "I" ∈ tb := tb_mem 763 rfl rfl
set_option maxRecDepth 100000 in
theorem q_764 : Cond.fieldLink RX5 28 RX5 "tape" "[I" ∈ tb := tb_mem 764 rfl rfl
set_option maxRecDepth 100000 in
theorem q_765 : Cond.fieldLink RX5 70 RX5 "taped" "I" ∈ tb := tb_mem 765 rfl rfl
set_option maxRecDepth 100000 in
theorem q_766 : Cond.fieldLink RX5 31 RX5 "codes" "[I" ∈ tb := tb_mem 766 rfl rfl
set_option maxRecDepth 100000 in
theorem q_767 : Cond.fieldLink RX5 34 RX5 "starts" "[I" ∈ tb := tb_mem 767 rfl rfl
set_option maxRecDepth 100000 in
theorem q_768 : Cond.fieldLink RX5 109 RX5 "texts" "I" ∈ tb := tb_mem 768 rfl rfl
set_option maxRecDepth 100000 in
theorem q_769 : Cond.fieldLink RX5 112 RX5 "rule" "I" ∈ tb := tb_mem 769 rfl rfl
set_option maxRecDepth 100000 in
theorem q_770 : Cond.fieldLink RX5 270 RX5 "hasImage" "Z" ∈ tb := tb_mem 770 rfl rfl
set_option maxRecDepth 100000 in
theorem q_771 : Cond.fieldLink RX5 37 RX5 "imageRows" "[I" ∈ tb := tb_mem 771 rfl rfl
set_option maxRecDepth 100000 in
theorem q_772 : Cond.fieldLink RX5 40 RX5 "imageHeld" "[I" ∈ tb := tb_mem 772 rfl rfl
set_option maxRecDepth 100000 in
theorem q_773 : Cond.fieldLink RX5 274 RX5 "imageRocks" "J" ∈ tb := tb_mem 773 rfl rfl
set_option maxRecDepth 100000 in
theorem q_774 : Cond.fieldLink RX5 43 RX5 "sheetSort" "[I" ∈ tb := tb_mem 774 rfl rfl
set_option maxRecDepth 100000 in
theorem q_775 : Cond.fieldLink RX5 46 RX5 "sheetSize" "[I" ∈ tb := tb_mem 775 rfl rfl
set_option maxRecDepth 100000 in
theorem q_776 : Cond.fieldLink RX5 49 RX5 "cells" "[I" ∈ tb := tb_mem 776 rfl rfl
set_option maxRecDepth 100000 in
theorem q_778 : Cond.fieldLink RX5 131 RX5 "at" "I" ∈ tb := tb_mem 778 rfl rfl
set_option maxRecDepth 100000 in
theorem q_779 : Cond.fieldLink RX5 134 RX5 "begun" "I" ∈ tb := tb_mem 779 rfl rfl
set_option maxRecDepth 100000 in
theorem q_780 : Cond.fieldLink RX5 137 RX5 "token" "I" ∈ tb := tb_mem 780 rfl rfl
set_option maxRecDepth 100000 in
theorem q_781 : Cond.fieldLink RX5 140 RX5 "value" "I" ∈ tb := tb_mem 781 rfl rfl
set_option maxRecDepth 100000 in
theorem q_782 : Cond.fieldLink RX5 55 RX5 "words" "[I" ∈ tb := tb_mem 782 rfl rfl
set_option maxRecDepth 100000 in
theorem q_783 : Cond.fieldLink RX5 58 RX5 "held" "[I" ∈ tb := tb_mem 783 rfl rfl
set_option maxRecDepth 100000 in
theorem q_784 : Cond.fieldLink RX5 150 RX5 "heldMany" "I" ∈ tb := tb_mem 784 rfl rfl
set_option maxRecDepth 100000 in
theorem q_785 : Cond.fieldLink RX5 156 RX5 "opens" "I" ∈ tb := tb_mem 785 rfl rfl
set_option maxRecDepth 100000 in
theorem q_786 : Cond.fieldLink RX5 147 RX5 "out" "I" ∈ tb := tb_mem 786 rfl rfl
set_option maxRecDepth 100000 in
theorem q_787 : Cond.fieldLink RX5 61 RX5 "stack" "[I" ∈ tb := tb_mem 787 rfl rfl
set_option maxRecDepth 100000 in
theorem q_788 : Cond.fieldLink RX5 64 RX5 "named" "[I" ∈ tb := tb_mem 788 rfl rfl
set_option maxRecDepth 100000 in
theorem q_789 : Cond.fieldLink RX5 67 RX5 "kept" "[I" ∈ tb := tb_mem 789 rfl rfl
set_option maxRecDepth 100000 in
theorem q_790 : Cond.fieldLink RX5 263 RX5 "afloatThen" "I" ∈ tb := tb_mem 790 rfl rfl
set_option maxRecDepth 100000 in
theorem q_870 : Cond.methodLink RX5 93 yX5_afloat ∈ tb := tb_mem 870 rfl rfl
set_option maxRecDepth 100000 in
theorem q_872 : Cond.instanceMethod yX5_afloat ∈ tb := tb_mem 872 rfl rfl
set_option maxRecDepth 100000 in
theorem q_873 : Cond.code yX5_afloat cX5_afloat 3 (some .int) ∈ tb := tb_mem 873 rfl rfl
set_option maxRecDepth 100000 in
theorem q_874 : Cond.methodLink RX5 96 yX5_ones ∈ tb := tb_mem 874 rfl rfl
set_option maxRecDepth 100000 in
theorem q_875 : Cond.static yX5_ones ∈ tb := tb_mem 875 rfl rfl
set_option maxRecDepth 100000 in
theorem q_876 : Cond.code yX5_ones cX5_ones 3 (some .int) ∈ tb := tb_mem 876 rfl rfl
set_option maxRecDepth 100000 in
theorem q_877 : Cond.methodLink RX5 106 yX5_rockMany ∈ tb := tb_mem 877 rfl rfl
set_option maxRecDepth 100000 in
theorem q_879 : Cond.instanceMethod yX5_rockMany ∈ tb := tb_mem 879 rfl rfl
set_option maxRecDepth 100000 in
theorem q_880 : Cond.code yX5_rockMany cX5_rockMany 3 (some .int) ∈ tb := tb_mem 880 rfl rfl
set_option maxRecDepth 100000 in
theorem q_881 : Cond.methodLink RX5 89 yX5_hasRock ∈ tb := tb_mem 881 rfl rfl
set_option maxRecDepth 100000 in
theorem q_883 : Cond.instanceMethod yX5_hasRock ∈ tb := tb_mem 883 rfl rfl
set_option maxRecDepth 100000 in
theorem q_884 : Cond.code yX5_hasRock cX5_hasRock 2 (some .boolean) ∈ tb := tb_mem 884 rfl rfl
set_option maxRecDepth 100000 in
theorem q_889 : Cond.methodLink RX5 115 yX5_isCell ∈ tb := tb_mem 889 rfl rfl
set_option maxRecDepth 100000 in
theorem q_890 : Cond.static yX5_isCell ∈ tb := tb_mem 890 rfl rfl
set_option maxRecDepth 100000 in
theorem q_891 : Cond.code yX5_isCell cX5_isCell 1 (some .boolean) ∈ tb := tb_mem 891 rfl rfl
set_option maxRecDepth 100000 in
theorem q_892 : Cond.constantLong RX5 118 (-1 : Int64) ∈ tb := tb_mem 892 rfl rfl
set_option maxRecDepth 100000 in
theorem q_897 : Cond.methodLink RX5 124 yX5_isToldOf ∈ tb := tb_mem 897 rfl rfl
set_option maxRecDepth 100000 in
theorem q_899 : Cond.instanceMethod yX5_isToldOf ∈ tb := tb_mem 899 rfl rfl
set_option maxRecDepth 100000 in
theorem q_900 : Cond.code yX5_isToldOf cX5_isToldOf 3 none ∈ tb := tb_mem 900 rfl rfl
set_option maxRecDepth 100000 in
theorem q_901 : Cond.methodLink RX5 120 yX5_within ∈ tb := tb_mem 901 rfl rfl
set_option maxRecDepth 100000 in
theorem q_902 : Cond.static yX5_within ∈ tb := tb_mem 902 rfl rfl
set_option maxRecDepth 100000 in
theorem q_903 : Cond.code yX5_within cX5_within 3 (some .int) ∈ tb := tb_mem 903 rfl rfl
set_option maxRecDepth 100000 in
theorem q_916 : Cond.methodLink RX5 128 yX5_isByte ∈ tb := tb_mem 916 rfl rfl
set_option maxRecDepth 100000 in
theorem q_917 : Cond.static yX5_isByte ∈ tb := tb_mem 917 rfl rfl
set_option maxRecDepth 100000 in
theorem q_918 : Cond.code yX5_isByte cX5_isByte 1 (some .boolean) ∈ tb := tb_mem 918 rfl rfl
set_option maxRecDepth 100000 in
theorem q_928 : Cond.methodLink RX5 192 yX5_isShip ∈ tb := tb_mem 928 rfl rfl
set_option maxRecDepth 100000 in
theorem q_930 : Cond.instanceMethod yX5_isShip ∈ tb := tb_mem 930 rfl rfl
set_option maxRecDepth 100000 in
theorem q_931 : Cond.code yX5_isShip cX5_isShip 2 (some .boolean) ∈ tb := tb_mem 931 rfl rfl
set_option maxRecDepth 100000 in
theorem q_932 : Cond.methodLink RX5 195 yX5_asksOf ∈ tb := tb_mem 932 rfl rfl
set_option maxRecDepth 100000 in
theorem q_934 : Cond.instanceMethod yX5_asksOf ∈ tb := tb_mem 934 rfl rfl
set_option maxRecDepth 100000 in
theorem q_935 : Cond.code yX5_asksOf cX5_asksOf 4 (some .int) ∈ tb := tb_mem 935 rfl rfl
set_option maxRecDepth 100000 in
theorem q_936 : Cond.methodLink RX5 189 yX5_says ∈ tb := tb_mem 936 rfl rfl
set_option maxRecDepth 100000 in
theorem q_938 : Cond.instanceMethod yX5_says ∈ tb := tb_mem 938 rfl rfl
set_option maxRecDepth 100000 in
theorem q_939 : Cond.code yX5_says cX5_says 5 (some .int) ∈ tb := tb_mem 939 rfl rfl
set_option maxRecDepth 100000 in
theorem q_940 : Cond.methodLink RX5 186 yX5_two ∈ tb := tb_mem 940 rfl rfl
set_option maxRecDepth 100000 in
theorem q_941 : Cond.static yX5_two ∈ tb := tb_mem 941 rfl rfl
set_option maxRecDepth 100000 in
theorem q_942 : Cond.code yX5_two cX5_two 3 (some .int) ∈ tb := tb_mem 942 rfl rfl
set_option maxRecDepth 100000 in
theorem q_944 : Cond.instanceMethod yX5_ship ∈ tb := tb_mem 944 rfl rfl
set_option maxRecDepth 100000 in
theorem q_945 : Cond.selects RX5 yX5_ship yX5_ship ∈ tb := tb_mem 945 rfl rfl
set_option maxRecDepth 100000 in
theorem q_946 : Cond.code yX5_ship cX5_ship 3 (some .int) ∈ tb := tb_mem 946 rfl rfl
set_option maxRecDepth 100000 in
theorem q_955 : Cond.methodLink RX5 204 yX5_goesTo ∈ tb := tb_mem 955 rfl rfl
set_option maxRecDepth 100000 in
theorem q_957 : Cond.instanceMethod yX5_goesTo ∈ tb := tb_mem 957 rfl rfl
set_option maxRecDepth 100000 in
theorem q_958 : Cond.code yX5_goesTo cX5_goesTo 7 (some .int) ∈ tb := tb_mem 958 rfl rfl
set_option maxRecDepth 100000 in
theorem q_959 : Cond.methodLink RX5 198 yX5_likesOf ∈ tb := tb_mem 959 rfl rfl
set_option maxRecDepth 100000 in
theorem q_961 : Cond.instanceMethod yX5_likesOf ∈ tb := tb_mem 961 rfl rfl
set_option maxRecDepth 100000 in
theorem q_962 : Cond.code yX5_likesOf cX5_likesOf 5 (some .int) ∈ tb := tb_mem 962 rfl rfl
set_option maxRecDepth 100000 in
theorem q_963 : Cond.methodLink RX5 201 yX5_besideOf ∈ tb := tb_mem 963 rfl rfl
set_option maxRecDepth 100000 in
theorem q_964 : Cond.static yX5_besideOf ∈ tb := tb_mem 964 rfl rfl
set_option maxRecDepth 100000 in
theorem q_965 : Cond.code yX5_besideOf cX5_besideOf 2 (some .int) ∈ tb := tb_mem 965 rfl rfl
set_option maxRecDepth 100000 in
theorem q_966 : Cond.methodLink RX5 207 yX5_doesSink ∈ tb := tb_mem 966 rfl rfl
set_option maxRecDepth 100000 in
theorem q_968 : Cond.instanceMethod yX5_doesSink ∈ tb := tb_mem 968 rfl rfl
set_option maxRecDepth 100000 in
theorem q_969 : Cond.code yX5_doesSink cX5_doesSink 3 (some .boolean) ∈ tb := tb_mem 969 rfl rfl
set_option maxRecDepth 100000 in
theorem q_974 : Cond.constant RX5 210 (-100000 : Int32) ∈ tb := tb_mem 974 rfl rfl
set_option maxRecDepth 100000 in
theorem q_979 : Cond.methodLink RX5 217 yX5_nightOf ∈ tb := tb_mem 979 rfl rfl
set_option maxRecDepth 100000 in
theorem q_981 : Cond.instanceMethod yX5_nightOf ∈ tb := tb_mem 981 rfl rfl
set_option maxRecDepth 100000 in
theorem q_982 : Cond.code yX5_nightOf cX5_nightOf 4 (some .int) ∈ tb := tb_mem 982 rfl rfl
set_option maxRecDepth 100000 in
theorem q_983 : Cond.methodLink RX5 214 yX5_sails ∈ tb := tb_mem 983 rfl rfl
set_option maxRecDepth 100000 in
theorem q_985 : Cond.instanceMethod yX5_sails ∈ tb := tb_mem 985 rfl rfl
set_option maxRecDepth 100000 in
theorem q_986 : Cond.code yX5_sails cX5_sails 4 none ∈ tb := tb_mem 986 rfl rfl
set_option maxRecDepth 100000 in
theorem q_987 : Cond.methodLink RX5 211 yX5_teachesOf ∈ tb := tb_mem 987 rfl rfl
set_option maxRecDepth 100000 in
theorem q_989 : Cond.instanceMethod yX5_teachesOf ∈ tb := tb_mem 989 rfl rfl
set_option maxRecDepth 100000 in
theorem q_990 : Cond.code yX5_teachesOf cX5_teachesOf 2 (some .int) ∈ tb := tb_mem 990 rfl rfl
set_option maxRecDepth 100000 in
theorem q_995 : Cond.methodLink RX5 223 yX5_keeps ∈ tb := tb_mem 995 rfl rfl
set_option maxRecDepth 100000 in
theorem q_997 : Cond.instanceMethod yX5_keeps ∈ tb := tb_mem 997 rfl rfl
set_option maxRecDepth 100000 in
theorem q_998 : Cond.code yX5_keeps cX5_keeps 2 none ∈ tb := tb_mem 998 rfl rfl
set_option maxRecDepth 100000 in
theorem q_999 : Cond.methodLink RX5 226 yX5_goes ∈ tb := tb_mem 999 rfl rfl
set_option maxRecDepth 100000 in
theorem q_1001 : Cond.instanceMethod yX5_goes ∈ tb := tb_mem 1001 rfl rfl
set_option maxRecDepth 100000 in
theorem q_1002 : Cond.code yX5_goes cX5_goes 4 (some .int) ∈ tb := tb_mem 1002 rfl rfl
set_option maxRecDepth 100000 in
theorem q_1003 : Cond.methodLink RX5 229 yX5_toldBehind ∈ tb := tb_mem 1003 rfl rfl
set_option maxRecDepth 100000 in
theorem q_1005 : Cond.instanceMethod yX5_toldBehind ∈ tb := tb_mem 1005 rfl rfl
set_option maxRecDepth 100000 in
theorem q_1006 : Cond.code yX5_toldBehind cX5_toldBehind 2 (some .int) ∈ tb := tb_mem 1006 rfl rfl
set_option maxRecDepth 100000 in
theorem q_1007 : Cond.methodLink RX5 220 yX5_beliefAll ∈ tb := tb_mem 1007 rfl rfl
set_option maxRecDepth 100000 in
theorem q_1009 : Cond.instanceMethod yX5_beliefAll ∈ tb := tb_mem 1009 rfl rfl
set_option maxRecDepth 100000 in
theorem q_1010 : Cond.code yX5_beliefAll cX5_beliefAll 3 (some .int) ∈ tb := tb_mem 1010 rfl rfl
set_option maxRecDepth 100000 in
theorem q_1011 : Cond.methodLink RX5 232 yX5_lays ∈ tb := tb_mem 1011 rfl rfl
set_option maxRecDepth 100000 in
theorem q_1013 : Cond.instanceMethod yX5_lays ∈ tb := tb_mem 1013 rfl rfl
set_option maxRecDepth 100000 in
theorem q_1014 : Cond.code yX5_lays cX5_lays 2 none ∈ tb := tb_mem 1014 rfl rfl
set_option maxRecDepth 100000 in
theorem q_1023 : Cond.constantLong RX5 235 (-4611686018427387904 : Int64) ∈ tb := tb_mem 1023 rfl rfl
set_option maxRecDepth 100000 in
theorem q_1028 : Cond.methodLink RX5 237 yX5_brightest ∈ tb := tb_mem 1028 rfl rfl
set_option maxRecDepth 100000 in
theorem q_1030 : Cond.instanceMethod yX5_brightest ∈ tb := tb_mem 1030 rfl rfl
set_option maxRecDepth 100000 in
theorem q_1031 : Cond.code yX5_brightest cX5_brightest 6 (some .long) ∈ tb := tb_mem 1031 rfl rfl
set_option maxRecDepth 100000 in
theorem q_1036 : Cond.methodLink RX5 241 yX5_lostNow ∈ tb := tb_mem 1036 rfl rfl
set_option maxRecDepth 100000 in
theorem q_1038 : Cond.instanceMethod yX5_lostNow ∈ tb := tb_mem 1038 rfl rfl
set_option maxRecDepth 100000 in
theorem q_1039 : Cond.code yX5_lostNow cX5_lostNow 3 (some .int) ∈ tb := tb_mem 1039 rfl rfl
set_option maxRecDepth 100000 in
theorem q_1056 : Cond.methodLink RX5 244 yX5_lowest ∈ tb := tb_mem 1056 rfl rfl
set_option maxRecDepth 100000 in
theorem q_1057 : Cond.static yX5_lowest ∈ tb := tb_mem 1057 rfl rfl
set_option maxRecDepth 100000 in
theorem q_1058 : Cond.code yX5_lowest cX5_lowest 11 (some .long) ∈ tb := tb_mem 1058 rfl rfl
set_option maxRecDepth 100000 in
theorem q_1063 : Cond.methodLink RX5 251 yX5_toldWrong ∈ tb := tb_mem 1063 rfl rfl
set_option maxRecDepth 100000 in
theorem q_1065 : Cond.instanceMethod yX5_toldWrong ∈ tb := tb_mem 1065 rfl rfl
set_option maxRecDepth 100000 in
theorem q_1066 : Cond.code yX5_toldWrong cX5_toldWrong 4 (some .int) ∈ tb := tb_mem 1066 rfl rfl
set_option maxRecDepth 100000 in
theorem q_1067 : Cond.methodLink RX5 248 yX5_sheetWrong ∈ tb := tb_mem 1067 rfl rfl
set_option maxRecDepth 100000 in
theorem q_1069 : Cond.instanceMethod yX5_sheetWrong ∈ tb := tb_mem 1069 rfl rfl
set_option maxRecDepth 100000 in
theorem q_1070 : Cond.code yX5_sheetWrong cX5_sheetWrong 2 (some .int) ∈ tb := tb_mem 1070 rfl rfl
set_option maxRecDepth 100000 in
theorem q_1071 : Cond.methodLink RX5 254 yX5_unlike ∈ tb := tb_mem 1071 rfl rfl
set_option maxRecDepth 100000 in
theorem q_1073 : Cond.instanceMethod yX5_unlike ∈ tb := tb_mem 1073 rfl rfl
set_option maxRecDepth 100000 in
theorem q_1074 : Cond.code yX5_unlike cX5_unlike 5 (some .int) ∈ tb := tb_mem 1074 rfl rfl
set_option maxRecDepth 100000 in
theorem q_1103 : Cond.constant RX5 266 (99999 : Int32) ∈ tb := tb_mem 1103 rfl rfl
set_option maxRecDepth 100000 in
theorem q_1104 : Cond.methodLink RX5 267 yX5_tales ∈ tb := tb_mem 1104 rfl rfl
set_option maxRecDepth 100000 in
theorem q_1106 : Cond.instanceMethod yX5_tales ∈ tb := tb_mem 1106 rfl rfl
set_option maxRecDepth 100000 in
theorem q_1107 : Cond.code yX5_tales cX5_tales 7 (some .int) ∈ tb := tb_mem 1107 rfl rfl
set_option maxRecDepth 100000 in
theorem q_1108 : Cond.constantLong RX5 257 (48271 : Int64) ∈ tb := tb_mem 1108 rfl rfl
set_option maxRecDepth 100000 in
theorem q_1109 : Cond.constantLong RX5 259 (2147483647 : Int64) ∈ tb := tb_mem 1109 rfl rfl
set_option maxRecDepth 100000 in
theorem q_1110 : Cond.constantLong RX5 261 (36 : Int64) ∈ tb := tb_mem 1110 rfl rfl
set_option maxRecDepth 100000 in
theorem q_1139 : Cond.methodLink RX5 277 yX5_ship ∈ tb := tb_mem 1139 rfl rfl
set_option maxRecDepth 100000 in
theorem q_1144 : Cond.methodLink RX5 280 yX5_isUnder ∈ tb := tb_mem 1144 rfl rfl
set_option maxRecDepth 100000 in
theorem q_1145 : Cond.static yX5_isUnder ∈ tb := tb_mem 1145 rfl rfl
set_option maxRecDepth 100000 in
theorem q_1146 : Cond.code yX5_isUnder cX5_isUnder 2 (some .boolean) ∈ tb := tb_mem 1146 rfl rfl
set_option maxRecDepth 100000 in
theorem q_1147 : Cond.fieldLink RJ0 9 RJ0 "value" "[B" ∈ tb := tb_mem 1147 rfl rfl
set_option maxRecDepth 100000 in
theorem q_1148 : Cond.fieldLink RJ0 15 RJ0 "coder" "B" ∈ tb := tb_mem 1148 rfl rfl
theorem bp_m100 : (Int8.ofInt (-100)).toInt32 = (-100 : Int32) := by decide +kernel
theorem bp_m99 : (Int8.ofInt (-99)).toInt32 = (-99 : Int32) := by decide +kernel
theorem bp_m23 : (Int8.ofInt (-23)).toInt32 = (-23 : Int32) := by decide +kernel
theorem bp_m22 : (Int8.ofInt (-22)).toInt32 = (-22 : Int32) := by decide +kernel
theorem bp_m21 : (Int8.ofInt (-21)).toInt32 = (-21 : Int32) := by decide +kernel
theorem bp_m20 : (Int8.ofInt (-20)).toInt32 = (-20 : Int32) := by decide +kernel
theorem bp_m19 : (Int8.ofInt (-19)).toInt32 = (-19 : Int32) := by decide +kernel
theorem bp_m18 : (Int8.ofInt (-18)).toInt32 = (-18 : Int32) := by decide +kernel
theorem bp_m17 : (Int8.ofInt (-17)).toInt32 = (-17 : Int32) := by decide +kernel
theorem bp_m16 : (Int8.ofInt (-16)).toInt32 = (-16 : Int32) := by decide +kernel
theorem bp_m15 : (Int8.ofInt (-15)).toInt32 = (-15 : Int32) := by decide +kernel
theorem bp_m14 : (Int8.ofInt (-14)).toInt32 = (-14 : Int32) := by decide +kernel
theorem bp_m13 : (Int8.ofInt (-13)).toInt32 = (-13 : Int32) := by decide +kernel
theorem bp_m12 : (Int8.ofInt (-12)).toInt32 = (-12 : Int32) := by decide +kernel
theorem bp_m11 : (Int8.ofInt (-11)).toInt32 = (-11 : Int32) := by decide +kernel
theorem bp_m10 : (Int8.ofInt (-10)).toInt32 = (-10 : Int32) := by decide +kernel
theorem bp_m9 : (Int8.ofInt (-9)).toInt32 = (-9 : Int32) := by decide +kernel
theorem bp_m8 : (Int8.ofInt (-8)).toInt32 = (-8 : Int32) := by decide +kernel
theorem bp_m7 : (Int8.ofInt (-7)).toInt32 = (-7 : Int32) := by decide +kernel
theorem bp_m6 : (Int8.ofInt (-6)).toInt32 = (-6 : Int32) := by decide +kernel
theorem bp_m5 : (Int8.ofInt (-5)).toInt32 = (-5 : Int32) := by decide +kernel
theorem bp_m4 : (Int8.ofInt (-4)).toInt32 = (-4 : Int32) := by decide +kernel
theorem bp_m3 : (Int8.ofInt (-3)).toInt32 = (-3 : Int32) := by decide +kernel
theorem bp_m2 : (Int8.ofInt (-2)).toInt32 = (-2 : Int32) := by decide +kernel
theorem bp_6 : (Int8.ofInt (6)).toInt32 = (6 : Int32) := by decide +kernel
theorem bp_7 : (Int8.ofInt (7)).toInt32 = (7 : Int32) := by decide +kernel
theorem bp_8 : (Int8.ofInt (8)).toInt32 = (8 : Int32) := by decide +kernel
theorem bp_9 : (Int8.ofInt (9)).toInt32 = (9 : Int32) := by decide +kernel
theorem bp_10 : (Int8.ofInt (10)).toInt32 = (10 : Int32) := by decide +kernel
theorem bp_11 : (Int8.ofInt (11)).toInt32 = (11 : Int32) := by decide +kernel
theorem bp_12 : (Int8.ofInt (12)).toInt32 = (12 : Int32) := by decide +kernel
theorem bp_13 : (Int8.ofInt (13)).toInt32 = (13 : Int32) := by decide +kernel
theorem bp_14 : (Int8.ofInt (14)).toInt32 = (14 : Int32) := by decide +kernel
theorem bp_15 : (Int8.ofInt (15)).toInt32 = (15 : Int32) := by decide +kernel
theorem bp_16 : (Int8.ofInt (16)).toInt32 = (16 : Int32) := by decide +kernel
theorem bp_17 : (Int8.ofInt (17)).toInt32 = (17 : Int32) := by decide +kernel
theorem bp_18 : (Int8.ofInt (18)).toInt32 = (18 : Int32) := by decide +kernel
theorem bp_19 : (Int8.ofInt (19)).toInt32 = (19 : Int32) := by decide +kernel
theorem bp_20 : (Int8.ofInt (20)).toInt32 = (20 : Int32) := by decide +kernel
theorem bp_30 : (Int8.ofInt (30)).toInt32 = (30 : Int32) := by decide +kernel
theorem bp_32 : (Int8.ofInt (32)).toInt32 = (32 : Int32) := by decide +kernel
theorem bp_35 : (Int8.ofInt (35)).toInt32 = (35 : Int32) := by decide +kernel
theorem bp_36 : (Int8.ofInt (36)).toInt32 = (36 : Int32) := by decide +kernel
theorem bp_40 : (Int8.ofInt (40)).toInt32 = (40 : Int32) := by decide +kernel
theorem bp_41 : (Int8.ofInt (41)).toInt32 = (41 : Int32) := by decide +kernel
theorem bp_42 : (Int8.ofInt (42)).toInt32 = (42 : Int32) := by decide +kernel
theorem bp_43 : (Int8.ofInt (43)).toInt32 = (43 : Int32) := by decide +kernel
theorem bp_45 : (Int8.ofInt (45)).toInt32 = (45 : Int32) := by decide +kernel
theorem bp_48 : (Int8.ofInt (48)).toInt32 = (48 : Int32) := by decide +kernel
theorem bp_49 : (Int8.ofInt (49)).toInt32 = (49 : Int32) := by decide +kernel
theorem bp_50 : (Int8.ofInt (50)).toInt32 = (50 : Int32) := by decide +kernel
theorem bp_55 : (Int8.ofInt (55)).toInt32 = (55 : Int32) := by decide +kernel
theorem bp_57 : (Int8.ofInt (57)).toInt32 = (57 : Int32) := by decide +kernel
theorem bp_59 : (Int8.ofInt (59)).toInt32 = (59 : Int32) := by decide +kernel
theorem bp_60 : (Int8.ofInt (60)).toInt32 = (60 : Int32) := by decide +kernel
theorem bp_61 : (Int8.ofInt (61)).toInt32 = (61 : Int32) := by decide +kernel
theorem bp_63 : (Int8.ofInt (63)).toInt32 = (63 : Int32) := by decide +kernel
theorem bp_90 : (Int8.ofInt (90)).toInt32 = (90 : Int32) := by decide +kernel
theorem bp_97 : (Int8.ofInt (97)).toInt32 = (97 : Int32) := by decide +kernel
theorem bp_99 : (Int8.ofInt (99)).toInt32 = (99 : Int32) := by decide +kernel
theorem bp_100 : (Int8.ofInt (100)).toInt32 = (100 : Int32) := by decide +kernel
theorem bp_122 : (Int8.ofInt (122)).toInt32 = (122 : Int32) := by decide +kernel
theorem bp_127 : (Int8.ofInt (127)).toInt32 = (127 : Int32) := by decide +kernel
theorem ic_m1 : Int32.ofInt (-1) = (-1 : Int32) := by decide +kernel
theorem ic_0 : Int32.ofInt (0) = (0 : Int32) := by decide +kernel
theorem ic_1 : Int32.ofInt (1) = (1 : Int32) := by decide +kernel
theorem ic_2 : Int32.ofInt (2) = (2 : Int32) := by decide +kernel
theorem ic_3 : Int32.ofInt (3) = (3 : Int32) := by decide +kernel
theorem ic_4 : Int32.ofInt (4) = (4 : Int32) := by decide +kernel
theorem ic_5 : Int32.ofInt (5) = (5 : Int32) := by decide +kernel
theorem ic_10 : Int32.ofInt (10) = (10 : Int32) := by decide +kernel
theorem lc_0 : Int64.ofNat (((0 : Fin 2) : Nat)) = (0 : Int64) := by decide +kernel
theorem lc_1 : Int64.ofNat (((1 : Fin 2) : Nat)) = (1 : Int64) := by decide +kernel
theorem sp_m1000 : (Int16.ofInt (-1000)).toInt32 = (-1000 : Int32) := by decide +kernel
theorem sp_160 : (Int16.ofInt (160)).toInt32 = (160 : Int32) := by decide +kernel
theorem sp_200 : (Int16.ofInt (200)).toInt32 = (200 : Int32) := by decide +kernel
theorem sp_255 : (Int16.ofInt (255)).toInt32 = (255 : Int32) := by decide +kernel
theorem sp_999 : (Int16.ofInt (999)).toInt32 = (999 : Int32) := by decide +kernel
theorem sp_3599 : (Int16.ofInt (3599)).toInt32 = (3599 : Int32) := by decide +kernel
theorem mi_X2_afloat : MV yX2_afloat cX2_afloat 1 (some .int) 0 := ⟨q_364, q_54, ⟨q_362, q_363⟩, by decide +kernel, by decide⟩
theorem mi_J6_bitCount_0f7a4 : MS yJ6_bitCount_0f7a4 cJ6_bitCount_0f7a4 1 (some .int) 1 := ⟨q_367, q_60, q_366, by decide +kernel, by decide⟩
theorem mi_J13_bitCount_95d88 : MS yJ13_bitCount_95d88 cJ13_bitCount_95d88 2 (some .int) 1 := ⟨q_373, q_61, q_372, by decide +kernel, by decide⟩
theorem mi_X4_within : MS yX4_within cX4_within 3 (some .boolean) 3 := ⟨q_386, q_50, q_385, by decide +kernel, by decide⟩
theorem mi_X4_isCell : MS yX4_isCell cX4_isCell 1 (some .boolean) 1 := ⟨q_383, q_50, q_382, by decide +kernel, by decide⟩
theorem mi_X2_hasRock : MV yX2_hasRock cX2_hasRock 2 (some .boolean) 1 := ⟨q_390, q_54, ⟨q_388, q_389⟩, by decide +kernel, by decide⟩
theorem mi_X2_hear : MV yX2_hear cX2_hear 5 none 2 := ⟨q_399, q_54, ⟨q_397, q_398⟩, by decide +kernel, by decide⟩
theorem mi_X4_isByte : MS yX4_isByte cX4_isByte 1 (some .boolean) 1 := ⟨q_420, q_50, q_419, by decide +kernel, by decide⟩
theorem mi_J0_coder_7d493 : MV yJ0_coder_7d493 cJ0_coder_7d493 1 (some .byte) 0 := ⟨q_206, q_55, ⟨q_204, q_205⟩, by decide +kernel, by decide⟩
theorem mi_J3_checkIndex_8e157 : MS yJ3_checkIndex_8e157 cJ3_checkIndex_8e157 3 (some .int) 3 := ⟨q_227, q_57, q_226, by decide +kernel, by decide⟩
theorem mi_J0_checkIndex_df160 : MS yJ0_checkIndex_df160 cJ0_checkIndex_df160 2 none 2 := ⟨q_222, q_55, q_221, by decide +kernel, by decide⟩
theorem mi_J0_isLatin1_aae02 : MV yJ0_isLatin1_aae02 cJ0_isLatin1_aae02 1 (some .boolean) 0 := ⟨q_216, q_55, ⟨q_214, q_215⟩, by decide +kernel, by decide⟩
theorem mi_J1_charAt_3b067 : MS yJ1_charAt_3b067 cJ1_charAt_3b067 2 (some .char) 2 := ⟨q_219, q_56, q_218, by decide +kernel, by decide⟩
theorem mi_J0_length_8abf5 : MV yJ0_length_8abf5 cJ0_length_8abf5 1 (some .int) 0 := ⟨q_202, q_55, ⟨q_200, q_201⟩, by decide +kernel, by decide⟩
theorem mi_J0_charAt_5068e : MV yJ0_charAt_5068e cJ0_charAt_5068e 2 (some .char) 1 := ⟨q_212, q_55, ⟨q_210, q_211⟩, by decide +kernel, by decide⟩
theorem mi_X1_spells : MV yX1_spells cX1_spells 3 (some .boolean) 1 := ⟨q_270, q_51, ⟨q_269, q_2⟩, by decide +kernel, by decide⟩
theorem mi_X1_isLetter : MS yX1_isLetter cX1_isLetter 1 (some .boolean) 1 := ⟨q_261, q_51, q_260, by decide +kernel, by decide⟩
theorem mi_X1_isDigit : MS yX1_isDigit cX1_isDigit 1 (some .boolean) 1 := ⟨q_286, q_51, q_285, by decide +kernel, by decide⟩
theorem mi_X1_signOf : MS yX1_signOf cX1_signOf 1 (some .int) 1 := ⟨q_293, q_51, q_292, by decide +kernel, by decide⟩
theorem mi_X1_number : MV yX1_number cX1_number 2 (some .int) 0 := ⟨q_290, q_51, ⟨q_289, q_3⟩, by decide +kernel, by decide⟩
theorem mi_X1_word : MV yX1_word cX1_word 1 (some .int) 0 := ⟨q_265, q_51, ⟨q_264, q_1⟩, by decide +kernel, by decide⟩
theorem mi_X1_advance : MV yX1_advance cX1_advance 1 none 0 := ⟨q_258, q_51, ⟨q_257, q_0⟩, by decide +kernel, by decide⟩
theorem mi_X1_fail : MV yX1_fail cX1_fail 1 none 0 := ⟨q_301, q_51, ⟨q_300, q_5⟩, by decide +kernel, by decide⟩
theorem mi_X1_mayOpen : MV yX1_mayOpen cX1_mayOpen 2 (some .boolean) 1 := ⟨q_317, q_51, ⟨q_316, q_8⟩, by decide +kernel, by decide⟩
theorem mi_X1_joined : MV yX1_joined cX1_joined 6 none 2 := ⟨q_305, q_51, ⟨q_304, q_6⟩, by decide +kernel, by decide⟩
theorem mi_X1_one : MV yX1_one cX1_one 2 none 1 := ⟨q_309, q_51, ⟨q_308, q_7⟩, by decide +kernel, by decide⟩
theorem mi_X0_add : MV yX0_add cX0_add 2 none 1 := ⟨q_313, q_52, ⟨q_311, q_312⟩, by decide +kernel, by decide⟩
theorem mi_X1_rankOf : MS yX1_rankOf cX1_rankOf 1 (some .int) 1 := ⟨q_320, q_51, q_319, by decide +kernel, by decide⟩
theorem mi_X0_clear : MV yX0_clear cX0_clear 1 none 0 := ⟨q_254, q_52, ⟨q_252, q_253⟩, by decide +kernel, by decide⟩
theorem mi_X1_expect : MV yX1_expect cX1_expect 2 none 1 := ⟨q_297, q_51, ⟨q_296, q_4⟩, by decide +kernel, by decide⟩
theorem mi_X0_endPart : MV yX0_endPart cX0_endPart 2 none 1 := ⟨q_324, q_52, ⟨q_322, q_323⟩, by decide +kernel, by decide⟩
theorem mi_X1_read : MV yX1_read cX1_read 5 (some .int) 3 := ⟨q_250, q_51, ⟨q_248, q_249⟩, by decide +kernel, by decide⟩
theorem mi_X0_joined : MS yX0_joined cX0_joined 3 (some .int) 3 := ⟨q_450, q_52, q_449, by decide +kernel, by decide⟩
theorem mi_X0_named : MS yX0_named cX0_named 4 (some .int) 4 := ⟨q_447, q_52, q_446, by decide +kernel, by decide⟩
theorem mi_X0_worth : MV yX0_worth cX0_worth 9 (some .int) 4 := ⟨q_444, q_52, ⟨q_442, q_443⟩, by decide +kernel, by decide⟩
theorem mi_X2_says : MV yX2_says cX2_says 6 (some .int) 3 := ⟨q_440, q_54, ⟨q_438, q_439⟩, by decide +kernel, by decide⟩
theorem mi_X4_isShip : MV yX4_isShip cX4_isShip 2 (some .boolean) 1 := ⟨q_436, q_50, ⟨q_435, q_9⟩, by decide +kernel, by decide⟩
theorem mi_X2_launch : MV yX2_launch cX2_launch 4 (some .int) 2 := ⟨q_458, q_54, ⟨q_456, q_457⟩, by decide +kernel, by decide⟩
theorem mi_X2_liking : MV yX2_liking cX2_liking 4 (some .int) 2 := ⟨q_478, q_54, ⟨q_476, q_477⟩, by decide +kernel, by decide⟩
theorem mi_X2_beside : MS yX2_beside cX2_beside 2 (some .int) 2 := ⟨q_482, q_54, q_481, by decide +kernel, by decide⟩
theorem mi_X2_isLost : MV yX2_isLost cX2_isLost 2 (some .boolean) 1 := ⟨q_470, q_54, ⟨q_468, q_469⟩, by decide +kernel, by decide⟩
theorem mi_X2_goal : MV yX2_goal cX2_goal 7 (some .int) 1 := ⟨q_474, q_54, ⟨q_472, q_473⟩, by decide +kernel, by decide⟩
theorem mi_X2_sinking : MV yX2_sinking cX2_sinking 2 (some .boolean) 1 := ⟨q_486, q_54, ⟨q_484, q_485⟩, by decide +kernel, by decide⟩
theorem mi_X2_teaching : MV yX2_teaching cX2_teaching 2 (some .int) 1 := ⟨q_512, q_54, ⟨q_510, q_511⟩, by decide +kernel, by decide⟩
theorem mi_X2_lose : MV yX2_lose cX2_lose 3 none 1 := ⟨q_508, q_54, ⟨q_507, q_10⟩, by decide +kernel, by decide⟩
theorem mi_X2_passNight : MV yX2_passNight cX2_passNight 2 none 0 := ⟨q_500, q_54, ⟨q_498, q_499⟩, by decide +kernel, by decide⟩
theorem mi_X2_become : MV yX2_become cX2_become 2 none 1 := ⟨q_524, q_54, ⟨q_522, q_523⟩, by decide +kernel, by decide⟩
theorem mi_X4_think : MV yX4_think cX4_think 1 none 0 := ⟨q_520, q_50, ⟨q_519, q_11⟩, by decide +kernel, by decide⟩
theorem mi_X2_lossesIn : MV yX2_lossesIn cX2_lossesIn 4 (some .int) 1 := ⟨q_531, q_54, ⟨q_529, q_530⟩, by decide +kernel, by decide⟩
theorem mi_X2_allBelief : MV yX2_allBelief cX2_allBelief 3 (some .int) 0 := ⟨q_537, q_54, ⟨q_535, q_536⟩, by decide +kernel, by decide⟩
theorem mi_X2_brightest : MV yX2_brightest cX2_brightest 6 (some .long) 0 := ⟨q_554, q_54, ⟨q_552, q_553⟩, by decide +kernel, by decide⟩
theorem mi_X2_surelyRocks : MV yX2_surelyRocks cX2_surelyRocks 4 (some .long) 0 := ⟨q_558, q_54, ⟨q_556, q_557⟩, by decide +kernel, by decide⟩
theorem mi_X4_commonDivisor : MS yX4_commonDivisor cX4_commonDivisor 6 (some .int) 2 := ⟨q_588, q_50, q_587, by decide +kernel, by decide⟩
theorem mi_X2_trueBelief : MV yX2_trueBelief cX2_trueBelief 3 (some .int) 0 := ⟨q_582, q_54, ⟨q_580, q_581⟩, by decide +kernel, by decide⟩
theorem mi_X4_inLowestTerms : MS yX4_inLowestTerms cX4_inLowestTerms 4 (some .long) 3 := ⟨q_585, q_50, q_584, by decide +kernel, by decide⟩
theorem mi_X4_isSheet : MS yX4_isSheet cX4_isSheet 1 (some .boolean) 1 := ⟨q_603, q_50, q_602, by decide +kernel, by decide⟩
theorem mi_X4_refusalOfTold : MV yX4_refusalOfTold cX4_refusalOfTold 2 (some .int) 1 := ⟨q_600, q_50, ⟨q_599, q_13⟩, by decide +kernel, by decide⟩
theorem mi_X4_refusalToJudge : MV yX4_refusalToJudge cX4_refusalToJudge 4 (some .int) 2 := ⟨q_596, q_50, ⟨q_595, q_12⟩, by decide +kernel, by decide⟩
theorem mi_X4_firstOtherwise : MV yX4_firstOtherwise cX4_firstOtherwise 5 (some .int) 2 := ⟨q_607, q_50, ⟨q_606, q_14⟩, by decide +kernel, by decide⟩
theorem mi_X3_has : MV yX3_has cX3_has 2 (some .boolean) 1 := ⟨q_643, q_53, ⟨q_641, q_642⟩, by decide +kernel, by decide⟩
theorem mi_X3_become : MV yX3_become cX3_become 4 none 2 := ⟨q_635, q_53, ⟨q_633, q_634⟩, by decide +kernel, by decide⟩
theorem mi_X3_set : MV yX3_set cX3_set 3 none 2 := ⟨q_639, q_53, ⟨q_637, q_638⟩, by decide +kernel, by decide⟩
theorem mi_X4_lossesByTale : MV yX4_lossesByTale cX4_lossesByTale 6 (some .int) 2 := ⟨q_652, q_50, ⟨q_651, q_15⟩, by decide +kernel, by decide⟩
theorem mi_X3_holds : MV yX3_holds cX3_holds 3 (some .boolean) 2 := ⟨q_684, q_53, ⟨q_682, q_683⟩, by decide +kernel, by decide⟩
theorem mi_X4_ship : MV yX4_ship cX4_ship 3 (some .int) 2 := ⟨q_454, q_50, ⟨q_452, q_453⟩, by decide +kernel, by decide⟩
theorem mi_X2_isOne : MV yX2_isOne cX2_isOne 5 (some .boolean) 2 := ⟨q_698, q_54, ⟨q_696, q_697⟩, by decide +kernel, by decide⟩
theorem mi_X5_hasRock : MV yX5_hasRock cX5_hasRock 2 (some .boolean) 1 := ⟨q_884, q_59, ⟨q_883, q_27⟩, by decide +kernel, by decide⟩
theorem mi_X5_afloat : MV yX5_afloat cX5_afloat 3 (some .int) 0 := ⟨q_873, q_59, ⟨q_872, q_25⟩, by decide +kernel, by decide⟩
theorem mi_X5_ones : MS yX5_ones cX5_ones 3 (some .int) 1 := ⟨q_876, q_59, q_875, by decide +kernel, by decide⟩
theorem mi_X5_rockMany : MV yX5_rockMany cX5_rockMany 3 (some .int) 0 := ⟨q_880, q_59, ⟨q_879, q_26⟩, by decide +kernel, by decide⟩
theorem mi_X5_in : MS yX5_in cX5_in 3 (some .boolean) 3 := ⟨q_717, q_59, q_716, by decide +kernel, by decide⟩
theorem mi_X5_isCell : MS yX5_isCell cX5_isCell 1 (some .boolean) 1 := ⟨q_891, q_59, q_890, by decide +kernel, by decide⟩
theorem mi_X5_within : MS yX5_within cX5_within 3 (some .int) 3 := ⟨q_903, q_59, q_902, by decide +kernel, by decide⟩
theorem mi_X5_isToldOf : MV yX5_isToldOf cX5_isToldOf 3 none 2 := ⟨q_900, q_59, ⟨q_899, q_28⟩, by decide +kernel, by decide⟩
theorem mi_X5_isByte : MS yX5_isByte cX5_isByte 1 (some .boolean) 1 := ⟨q_918, q_59, q_917, by decide +kernel, by decide⟩
theorem mi_X5_wordFrom : MV yX5_wordFrom cX5_wordFrom 6 (some .int) 2 := ⟨q_721, q_59, ⟨q_720, q_17⟩, by decide +kernel, by decide⟩
theorem mi_X5_rank : MS yX5_rank cX5_rank 1 (some .int) 1 := ⟨q_737, q_59, q_736, by decide +kernel, by decide⟩
theorem mi_X5_puts : MV yX5_puts cX5_puts 2 none 1 := ⟨q_730, q_59, ⟨q_729, q_19⟩, by decide +kernel, by decide⟩
theorem mi_X5_holds : MV yX5_holds cX5_holds 2 none 1 := ⟨q_745, q_59, ⟨q_744, q_22⟩, by decide +kernel, by decide⟩
theorem mi_X5_unwinds : MV yX5_unwinds cX5_unwinds 3 none 1 := ⟨q_734, q_59, ⟨q_733, q_20⟩, by decide +kernel, by decide⟩
theorem mi_X5_next : MV yX5_next cX5_next 3 none 0 := ⟨q_714, q_59, ⟨q_713, q_16⟩, by decide +kernel, by decide⟩
theorem mi_X5_signOf : MV yX5_signOf cX5_signOf 1 (some .int) 0 := ⟨q_749, q_59, ⟨q_748, q_23⟩, by decide +kernel, by decide⟩
theorem mi_X5_between : MV yX5_between cX5_between 2 (some .boolean) 1 := ⟨q_753, q_59, ⟨q_752, q_24⟩, by decide +kernel, by decide⟩
theorem mi_X5_opensOne : MV yX5_opensOne cX5_opensOne 2 (some .boolean) 1 := ⟨q_741, q_59, ⟨q_740, q_21⟩, by decide +kernel, by decide⟩
theorem mi_X5_eRead : MV yX5_eRead cX5_eRead 4 (some .boolean) 0 := ⟨q_725, q_59, ⟨q_724, q_18⟩, by decide +kernel, by decide⟩
theorem mi_X5_two : MS yX5_two cX5_two 3 (some .int) 3 := ⟨q_942, q_59, q_941, by decide +kernel, by decide⟩
theorem mi_X5_says : MV yX5_says cX5_says 5 (some .int) 1 := ⟨q_939, q_59, ⟨q_938, q_31⟩, by decide +kernel, by decide⟩
theorem mi_X5_asksOf : MV yX5_asksOf cX5_asksOf 4 (some .int) 3 := ⟨q_935, q_59, ⟨q_934, q_30⟩, by decide +kernel, by decide⟩
theorem mi_X5_isShip : MV yX5_isShip cX5_isShip 2 (some .boolean) 1 := ⟨q_931, q_59, ⟨q_930, q_29⟩, by decide +kernel, by decide⟩
theorem mi_X5_likesOf : MV yX5_likesOf cX5_likesOf 5 (some .int) 2 := ⟨q_962, q_59, ⟨q_961, q_33⟩, by decide +kernel, by decide⟩
theorem mi_X5_besideOf : MS yX5_besideOf cX5_besideOf 2 (some .int) 2 := ⟨q_965, q_59, q_964, by decide +kernel, by decide⟩
theorem mi_X5_goesTo : MV yX5_goesTo cX5_goesTo 7 (some .int) 1 := ⟨q_958, q_59, ⟨q_957, q_32⟩, by decide +kernel, by decide⟩
theorem mi_X5_doesSink : MV yX5_doesSink cX5_doesSink 3 (some .boolean) 1 := ⟨q_969, q_59, ⟨q_968, q_34⟩, by decide +kernel, by decide⟩
theorem mi_X5_teachesOf : MV yX5_teachesOf cX5_teachesOf 2 (some .int) 1 := ⟨q_990, q_59, ⟨q_989, q_37⟩, by decide +kernel, by decide⟩
theorem mi_X5_sails : MV yX5_sails cX5_sails 4 none 1 := ⟨q_986, q_59, ⟨q_985, q_36⟩, by decide +kernel, by decide⟩
theorem mi_X5_nightOf : MV yX5_nightOf cX5_nightOf 4 (some .int) 0 := ⟨q_982, q_59, ⟨q_981, q_35⟩, by decide +kernel, by decide⟩
theorem mi_X5_beliefAll : MV yX5_beliefAll cX5_beliefAll 3 (some .int) 0 := ⟨q_1010, q_59, ⟨q_1009, q_41⟩, by decide +kernel, by decide⟩
theorem mi_X5_keeps : MV yX5_keeps cX5_keeps 2 none 0 := ⟨q_998, q_59, ⟨q_997, q_38⟩, by decide +kernel, by decide⟩
theorem mi_X5_goes : MV yX5_goes cX5_goes 4 (some .int) 1 := ⟨q_1002, q_59, ⟨q_1001, q_39⟩, by decide +kernel, by decide⟩
theorem mi_X5_toldBehind : MV yX5_toldBehind cX5_toldBehind 2 (some .int) 1 := ⟨q_1006, q_59, ⟨q_1005, q_40⟩, by decide +kernel, by decide⟩
theorem mi_X5_lays : MV yX5_lays cX5_lays 2 none 0 := ⟨q_1014, q_59, ⟨q_1013, q_42⟩, by decide +kernel, by decide⟩
theorem mi_X5_brightest : MV yX5_brightest cX5_brightest 6 (some .long) 0 := ⟨q_1031, q_59, ⟨q_1030, q_43⟩, by decide +kernel, by decide⟩
theorem mi_X5_lostNow : MV yX5_lostNow cX5_lostNow 3 (some .int) 1 := ⟨q_1039, q_59, ⟨q_1038, q_44⟩, by decide +kernel, by decide⟩
theorem mi_X5_lowest : MS yX5_lowest cX5_lowest 11 (some .long) 3 := ⟨q_1058, q_59, q_1057, by decide +kernel, by decide⟩
theorem mi_X5_sheetWrong : MV yX5_sheetWrong cX5_sheetWrong 2 (some .int) 1 := ⟨q_1070, q_59, ⟨q_1069, q_46⟩, by decide +kernel, by decide⟩
theorem mi_X5_toldWrong : MV yX5_toldWrong cX5_toldWrong 4 (some .int) 2 := ⟨q_1066, q_59, ⟨q_1065, q_45⟩, by decide +kernel, by decide⟩
theorem mi_X5_unlike : MV yX5_unlike cX5_unlike 5 (some .int) 2 := ⟨q_1074, q_59, ⟨q_1073, q_47⟩, by decide +kernel, by decide⟩
theorem mi_X5_tales : MV yX5_tales cX5_tales 7 (some .int) 2 := ⟨q_1107, q_59, ⟨q_1106, q_48⟩, by decide +kernel, by decide⟩
theorem mi_X5_ship : MV yX5_ship cX5_ship 3 (some .int) 2 := ⟨q_946, q_59, ⟨q_944, q_945⟩, by decide +kernel, by decide⟩
theorem mi_X5_isUnder : MS yX5_isUnder cX5_isUnder 2 (some .boolean) 2 := ⟨q_1146, q_59, q_1145, by decide +kernel, by decide⟩
