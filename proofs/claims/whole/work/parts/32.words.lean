theorem tw_1_1 : Cond.initialized cn_V ∈ TB_ := TB_1 1 (by decide +kernel) rfl
theorem tw_1_100 : Cond.instanceMethod yy_V_addWithBegunName ∈ TB_ := TB_1 100 (by decide +kernel) rfl
theorem tw_1_101 : Cond.code yy_V_addWithBegunName prog_1_method_20_code 3 (Option.some FieldType.int) ∈ TB_ := TB_1 101 rfl rfl
theorem tw_1_102 : Cond.methodLink cn_V 120 yy_R_addNode ∈ TB_ := TB_1 102 (by decide +kernel) rfl
theorem tw_1_103 : Cond.instanceMethod yy_R_addNode ∈ TB_ := TB_1 103 (by decide +kernel) rfl
theorem tw_1_104 : Cond.selects cn_R yy_R_addNode yy_R_addNode ∈ TB_ := TB_1 104 (by decide +kernel) rfl
theorem tw_1_105 : Cond.code yy_R_addNode prog_7_method_15_code 5 (Option.some FieldType.int) ∈ TB_ := TB_1 105 rfl rfl
theorem tw_1_106 : Cond.methodLink cn_L 23 yy_V_close ∈ TB_ := TB_1 106 (by decide +kernel) rfl
theorem tw_1_107 : Cond.instanceMethod yy_V_close ∈ TB_ := TB_1 107 (by decide +kernel) rfl
theorem tw_1_108 : Cond.selects cn_V yy_V_close yy_V_close ∈ TB_ := TB_1 108 (by decide +kernel) rfl
theorem tw_1_109 : Cond.code yy_V_close prog_1_method_4_code 1 (Option.some FieldType.boolean) ∈ TB_ := TB_1 109 rfl rfl
theorem tw_1_11 : Cond.initialized cn_E ∈ TB_ := TB_1 11 (by decide +kernel) rfl
theorem tw_1_110 : Cond.methodLink cn_V 48 yy_R_closeLastOpen ∈ TB_ := TB_1 110 (by decide +kernel) rfl
theorem tw_1_111 : Cond.instanceMethod yy_R_closeLastOpen ∈ TB_ := TB_1 111 (by decide +kernel) rfl
theorem tw_1_112 : Cond.selects cn_R yy_R_closeLastOpen yy_R_closeLastOpen ∈ TB_ := TB_1 112 (by decide +kernel) rfl
theorem tw_1_113 : Cond.code yy_R_closeLastOpen prog_7_method_16_code 1 (Option.some FieldType.boolean) ∈ TB_ := TB_1 113 rfl rfl
theorem tw_1_114 : Cond.methodLink cn_R 35 yy_R_has ∈ TB_ := TB_1 114 (by decide +kernel) rfl
theorem tw_1_115 : Cond.instanceMethod yy_R_has ∈ TB_ := TB_1 115 (by decide +kernel) rfl
theorem tw_1_116 : Cond.selects cn_R yy_R_has yy_R_has ∈ TB_ := TB_1 116 (by decide +kernel) rfl
theorem tw_1_117 : Cond.code yy_R_has prog_7_method_4_code 2 (Option.some FieldType.boolean) ∈ TB_ := TB_1 117 rfl rfl
theorem tw_1_118 : Cond.methodLink cn_R 45 yy_R_hasFailedBehind ∈ TB_ := TB_1 118 (by decide +kernel) rfl
theorem tw_1_12 : Cond.initialized cn_C ∈ TB_ := TB_1 12 (by decide +kernel) rfl
theorem tw_1_120 : Cond.instanceMethod yy_R_hasFailedBehind ∈ TB_ := TB_1 120 (by decide +kernel) rfl
theorem tw_1_121 : Cond.code yy_R_hasFailedBehind prog_7_method_18_code 3 (Option.some FieldType.boolean) ∈ TB_ := TB_1 121 rfl rfl
theorem tw_1_122 : Cond.methodLink cn_L 28 yy_V_test ∈ TB_ := TB_1 122 (by decide +kernel) rfl
theorem tw_1_123 : Cond.instanceMethod yy_V_test ∈ TB_ := TB_1 123 (by decide +kernel) rfl
theorem tw_1_124 : Cond.selects cn_V yy_V_test yy_V_test ∈ TB_ := TB_1 124 (by decide +kernel) rfl
theorem tw_1_125 : Cond.code yy_V_test prog_1_method_5_code 2 (Option.some FieldType.int) ∈ TB_ := TB_1 125 rfl rfl
theorem tw_1_126 : Cond.methodLink cn_L 33 yy_V_reset ∈ TB_ := TB_1 126 (by decide +kernel) rfl
theorem tw_1_127 : Cond.instanceMethod yy_V_reset ∈ TB_ := TB_1 127 (by decide +kernel) rfl
theorem tw_1_128 : Cond.selects cn_V yy_V_reset yy_V_reset ∈ TB_ := TB_1 128 (by decide +kernel) rfl
theorem tw_1_129 : Cond.code yy_V_reset prog_1_method_6_code 1 (Option.none : Option FieldType) ∈ TB_ := TB_1 129 rfl rfl
theorem tw_1_13 : Cond.classLink cn_L 7 cn_V ∈ TB_ := TB_1 13 (by decide +kernel) rfl
theorem tw_1_130 : Cond.methodLink cn_V 52 yy_R_removeAll ∈ TB_ := TB_1 130 (by decide +kernel) rfl
theorem tw_1_131 : Cond.instanceMethod yy_R_removeAll ∈ TB_ := TB_1 131 (by decide +kernel) rfl
theorem tw_1_132 : Cond.selects cn_R yy_R_removeAll yy_R_removeAll ∈ TB_ := TB_1 132 (by decide +kernel) rfl
theorem tw_1_133 : Cond.code yy_R_removeAll prog_7_method_2_code 1 (Option.none : Option FieldType) ∈ TB_ := TB_1 133 rfl rfl
theorem tw_1_134 : Cond.methodLink cn_L 37 yy_V_nodes ∈ TB_ := TB_1 134 (by decide +kernel) rfl
theorem tw_1_135 : Cond.instanceMethod yy_V_nodes ∈ TB_ := TB_1 135 (by decide +kernel) rfl
theorem tw_1_136 : Cond.selects cn_V yy_V_nodes yy_V_nodes ∈ TB_ := TB_1 136 (by decide +kernel) rfl
theorem tw_1_137 : Cond.code yy_V_nodes prog_1_method_7_code 1 (Option.some FieldType.int) ∈ TB_ := TB_1 137 rfl rfl
theorem tw_1_138 : Cond.methodLink cn_V 55 yy_R_size ∈ TB_ := TB_1 138 (by decide +kernel) rfl
theorem tw_1_139 : Cond.instanceMethod yy_R_size ∈ TB_ := TB_1 139 (by decide +kernel) rfl
theorem tw_1_14 : Cond.instantiable cn_V 4 ∈ TB_ := TB_1 14 (by decide +kernel) rfl
theorem tw_1_140 : Cond.selects cn_R yy_R_size yy_R_size ∈ TB_ := TB_1 140 (by decide +kernel) rfl
theorem tw_1_141 : Cond.code yy_R_size prog_7_method_3_code 1 (Option.some FieldType.int) ∈ TB_ := TB_1 141 rfl rfl
theorem tw_1_142 : Cond.methodLink cn_L 41 yy_V_kind ∈ TB_ := TB_1 142 (by decide +kernel) rfl
theorem tw_1_143 : Cond.instanceMethod yy_V_kind ∈ TB_ := TB_1 143 (by decide +kernel) rfl
theorem tw_1_144 : Cond.selects cn_V yy_V_kind yy_V_kind ∈ TB_ := TB_1 144 (by decide +kernel) rfl
theorem tw_1_145 : Cond.code yy_V_kind prog_1_method_8_code 2 (Option.some FieldType.int) ∈ TB_ := TB_1 145 rfl rfl
theorem tw_1_146 : Cond.methodLink cn_V 59 yy_R_has ∈ TB_ := TB_1 146 (by decide +kernel) rfl
theorem tw_1_147 : Cond.methodLink cn_V 63 yy_R_kindOf ∈ TB_ := TB_1 147 (by decide +kernel) rfl
theorem tw_1_148 : Cond.instanceMethod yy_R_kindOf ∈ TB_ := TB_1 148 (by decide +kernel) rfl
theorem tw_1_149 : Cond.selects cn_R yy_R_kindOf yy_R_kindOf ∈ TB_ := TB_1 149 (by decide +kernel) rfl
theorem tw_1_15 : Cond.methodLink cn_L 9 yy_V_init ∈ TB_ := TB_1 15 (by decide +kernel) rfl
theorem tw_1_150 : Cond.code yy_R_kindOf prog_7_method_6_code 2 (Option.some FieldType.int) ∈ TB_ := TB_1 150 rfl rfl
theorem tw_1_151 : Cond.methodLink cn_L 45 yy_V_depth ∈ TB_ := TB_1 151 (by decide +kernel) rfl
theorem tw_1_152 : Cond.instanceMethod yy_V_depth ∈ TB_ := TB_1 152 (by decide +kernel) rfl
theorem tw_1_153 : Cond.selects cn_V yy_V_depth yy_V_depth ∈ TB_ := TB_1 153 (by decide +kernel) rfl
theorem tw_1_154 : Cond.code yy_V_depth prog_1_method_9_code 2 (Option.some FieldType.int) ∈ TB_ := TB_1 154 rfl rfl
theorem tw_1_155 : Cond.methodLink cn_V 66 yy_R_depthOf ∈ TB_ := TB_1 155 (by decide +kernel) rfl
theorem tw_1_156 : Cond.instanceMethod yy_R_depthOf ∈ TB_ := TB_1 156 (by decide +kernel) rfl
theorem tw_1_157 : Cond.selects cn_R yy_R_depthOf yy_R_depthOf ∈ TB_ := TB_1 157 (by decide +kernel) rfl
theorem tw_1_158 : Cond.code yy_R_depthOf prog_7_method_7_code 2 (Option.some FieldType.int) ∈ TB_ := TB_1 158 rfl rfl
theorem tw_1_159 : Cond.methodLink cn_L 49 yy_V_name ∈ TB_ := TB_1 159 (by decide +kernel) rfl
theorem tw_1_16 : Cond.instanceMethod yy_V_init ∈ TB_ := TB_1 16 (by decide +kernel) rfl
theorem tw_1_160 : Cond.instanceMethod yy_V_name ∈ TB_ := TB_1 160 (by decide +kernel) rfl
theorem tw_1_161 : Cond.selects cn_V yy_V_name yy_V_name ∈ TB_ := TB_1 161 (by decide +kernel) rfl
theorem tw_1_162 : Cond.code yy_V_name prog_1_method_10_code 5 (Option.some FieldType.int) ∈ TB_ := TB_1 162 rfl rfl
theorem tw_1_163 : Cond.methodLink cn_V 69 yy_R_nameOf ∈ TB_ := TB_1 163 (by decide +kernel) rfl
theorem tw_1_164 : Cond.instanceMethod yy_R_nameOf ∈ TB_ := TB_1 164 (by decide +kernel) rfl
theorem tw_1_165 : Cond.selects cn_R yy_R_nameOf yy_R_nameOf ∈ TB_ := TB_1 165 (by decide +kernel) rfl
theorem tw_1_166 : Cond.code yy_R_nameOf prog_7_method_9_code 2 (Option.some FieldType.long) ∈ TB_ := TB_1 166 rfl rfl
theorem tw_1_167 : Cond.methodLink cn_V 73 yy_N_codeAt ∈ TB_ := TB_1 167 (by decide +kernel) rfl
theorem tw_1_168 : Cond.methodLink cn_L 54 yy_V_write ∈ TB_ := TB_1 168 (by decide +kernel) rfl
theorem tw_1_169 : Cond.instanceMethod yy_V_write ∈ TB_ := TB_1 169 (by decide +kernel) rfl
theorem tw_1_17 : Cond.code yy_V_init prog_1_method_1_code 1 (Option.none : Option FieldType) ∈ TB_ := TB_1 17 rfl rfl
theorem tw_1_170 : Cond.selects cn_V yy_V_write yy_V_write ∈ TB_ := TB_1 170 (by decide +kernel) rfl
theorem tw_1_171 : Cond.code yy_V_write prog_1_method_11_code 1 (Option.some FieldType.int) ∈ TB_ := TB_1 171 rfl rfl
theorem tw_1_172 : Cond.classLink cn_V 77 cn_W ∈ TB_ := TB_1 172 (by decide +kernel) rfl
theorem tw_1_173 : Cond.instantiable cn_W 2 ∈ TB_ := TB_1 173 (by decide +kernel) rfl
theorem tw_1_174 : Cond.methodLink cn_V 79 yy_W_init ∈ TB_ := TB_1 174 (by decide +kernel) rfl
theorem tw_1_175 : Cond.instanceMethod yy_W_init ∈ TB_ := TB_1 175 (by decide +kernel) rfl
theorem tw_1_176 : Cond.code yy_W_init prog_6_method_1_code 3 (Option.none : Option FieldType) ∈ TB_ := TB_1 176 rfl rfl
theorem tw_1_177 : Cond.methodLink cn_W 3 objectInit ∈ TB_ := TB_1 177 (by decide +kernel) rfl
theorem tw_1_178 : Cond.fieldLink cn_W 9 cn_W "page" "LVerdictPages$Page;" ∈ TB_ := TB_1 178 (by decide +kernel) rfl
theorem tw_1_179 : Cond.fieldLink cn_W 15 cn_W "report" "LVerdictPages$Report;" ∈ TB_ := TB_1 179 (by decide +kernel) rfl
theorem tw_1_18 : Cond.methodLink cn_V 1 objectInit ∈ TB_ := TB_1 18 (by decide +kernel) rfl
theorem tw_1_180 : Cond.laysFinal cn_W cn_W "page" "LVerdictPages$Page;" ∈ TB_ := TB_1 180 (by decide +kernel) rfl
theorem tw_1_182 : Cond.laysFinal cn_W cn_W "report" "LVerdictPages$Report;" ∈ TB_ := TB_1 182 (by decide +kernel) rfl
theorem tw_1_185 : Cond.methodLink cn_V 82 yy_W_writeAll ∈ TB_ := TB_1 185 (by decide +kernel) rfl
theorem tw_1_186 : Cond.instanceMethod yy_W_writeAll ∈ TB_ := TB_1 186 (by decide +kernel) rfl
theorem tw_1_187 : Cond.selects cn_W yy_W_writeAll yy_W_writeAll ∈ TB_ := TB_1 187 (by decide +kernel) rfl
theorem tw_1_188 : Cond.code yy_W_writeAll prog_6_method_2_code 3 (Option.none : Option FieldType) ∈ TB_ := TB_1 188 rfl rfl
theorem tw_1_189 : Cond.methodLink cn_W 19 yy_P_shorten ∈ TB_ := TB_1 189 (by decide +kernel) rfl
theorem tw_1_19 : Cond.instanceMethod objectInit ∈ TB_ := TB_1 19 (by decide +kernel) rfl
theorem tw_1_190 : Cond.instanceMethod yy_P_shorten ∈ TB_ := TB_1 190 (by decide +kernel) rfl
theorem tw_1_191 : Cond.selects cn_P yy_P_shorten yy_P_shorten ∈ TB_ := TB_1 191 (by decide +kernel) rfl
theorem tw_1_192 : Cond.code yy_P_shorten prog_4_method_6_code 2 (Option.some FieldType.boolean) ∈ TB_ := TB_1 192 rfl rfl
theorem tw_1_194 : Cond.methodLink cn_W 27 yy_P_addText ∈ TB_ := TB_1 194 (by decide +kernel) rfl
theorem tw_1_195 : Cond.instanceMethod yy_P_addText ∈ TB_ := TB_1 195 (by decide +kernel) rfl
theorem tw_1_196 : Cond.selects cn_P yy_P_addText yy_P_addText ∈ TB_ := TB_1 196 (by decide +kernel) rfl
theorem tw_1_197 : Cond.code yy_P_addText prog_4_method_7_code 3 (Option.none : Option FieldType) ∈ TB_ := TB_1 197 rfl rfl
theorem tw_1_198 : Cond.methodLink cn_P 19 (⟨"java/lang/String", "length", "()I"⟩ : MethodName) ∈ TB_ := TB_1 198 (by decide +kernel) rfl
theorem tw_1_199 : Cond.instanceMethod (⟨"java/lang/String", "length", "()I"⟩ : MethodName) ∈ TB_ := TB_1 199 (by decide +kernel) rfl
theorem tw_1_2 : Cond.initialized cn_P ∈ TB_ := TB_1 2 (by decide +kernel) rfl
theorem tw_1_20 : Cond.code objectInit object_method_1_code 1 (Option.none : Option FieldType) ∈ TB_ := TB_1 20 rfl rfl
theorem tw_1_200 : Cond.selects "java/lang/String" (⟨"java/lang/String", "length", "()I"⟩ : MethodName) (⟨"java/lang/String", "length", "()I"⟩ : MethodName) ∈ TB_ := TB_1 200 (by decide +kernel) rfl
theorem tw_1_201 : Cond.code (⟨"java/lang/String", "length", "()I"⟩ : MethodName) prog_10_method_54_code 1 (Option.some FieldType.int) ∈ TB_ := TB_1 201 rfl rfl
theorem tw_1_202 : Cond.methodLink "java/lang/String" 335 (⟨"java/lang/String", "coder", "()B"⟩ : MethodName) ∈ TB_ := TB_1 202 (by decide +kernel) rfl
theorem tw_1_203 : Cond.instanceMethod (⟨"java/lang/String", "coder", "()B"⟩ : MethodName) ∈ TB_ := TB_1 203 (by decide +kernel) rfl
theorem tw_1_204 : Cond.selects "java/lang/String" (⟨"java/lang/String", "coder", "()B"⟩ : MethodName) (⟨"java/lang/String", "coder", "()B"⟩ : MethodName) ∈ TB_ := TB_1 204 (by decide +kernel) rfl
theorem tw_1_205 : Cond.code (⟨"java/lang/String", "coder", "()B"⟩ : MethodName) prog_10_method_152_code 1 (Option.some FieldType.byte) ∈ TB_ := TB_1 205 rfl rfl
theorem tw_1_206 : Cond.fieldLink "java/lang/String" 38 "java/lang/String" "COMPACT_STRINGS" "Z" ∈ TB_ := TB_1 206 (by decide +kernel) rfl
theorem tw_1_208 : Cond.methodLink cn_P 25 (⟨"java/lang/String", "charAt", "(I)C"⟩ : MethodName) ∈ TB_ := TB_1 208 (by decide +kernel) rfl
theorem tw_1_209 : Cond.instanceMethod (⟨"java/lang/String", "charAt", "(I)C"⟩ : MethodName) ∈ TB_ := TB_1 209 (by decide +kernel) rfl
theorem tw_1_21 : Cond.classLink cn_V 7 cn_P ∈ TB_ := TB_1 21 (by decide +kernel) rfl
theorem tw_1_210 : Cond.selects "java/lang/String" (⟨"java/lang/String", "charAt", "(I)C"⟩ : MethodName) (⟨"java/lang/String", "charAt", "(I)C"⟩ : MethodName) ∈ TB_ := TB_1 210 (by decide +kernel) rfl
theorem tw_1_211 : Cond.code (⟨"java/lang/String", "charAt", "(I)C"⟩ : MethodName) prog_10_method_56_code 2 (Option.some FieldType.char) ∈ TB_ := TB_1 211 rfl rfl
theorem tw_1_212 : Cond.methodLink "java/lang/String" 492 (⟨"java/lang/String", "isLatin1", "()Z"⟩ : MethodName) ∈ TB_ := TB_1 212 (by decide +kernel) rfl
theorem tw_1_213 : Cond.instanceMethod (⟨"java/lang/String", "isLatin1", "()Z"⟩ : MethodName) ∈ TB_ := TB_1 213 (by decide +kernel) rfl
theorem tw_1_214 : Cond.selects "java/lang/String" (⟨"java/lang/String", "isLatin1", "()Z"⟩ : MethodName) (⟨"java/lang/String", "isLatin1", "()Z"⟩ : MethodName) ∈ TB_ := TB_1 214 (by decide +kernel) rfl
theorem tw_1_215 : Cond.code (⟨"java/lang/String", "isLatin1", "()Z"⟩ : MethodName) prog_10_method_154_code 1 (Option.some FieldType.boolean) ∈ TB_ := TB_1 215 rfl rfl
theorem tw_1_216 : Cond.methodLink "java/lang/String" 495 (⟨"java/lang/StringLatin1", "charAt", "([BI)C"⟩ : MethodName) ∈ TB_ := TB_1 216 (by decide +kernel) rfl
theorem tw_1_217 : Cond.static (⟨"java/lang/StringLatin1", "charAt", "([BI)C"⟩ : MethodName) ∈ TB_ := TB_1 217 (by decide +kernel) rfl
theorem tw_1_218 : Cond.code (⟨"java/lang/StringLatin1", "charAt", "([BI)C"⟩ : MethodName) prog_11_method_2_code 2 (Option.some FieldType.char) ∈ TB_ := TB_1 218 rfl rfl
theorem tw_1_219 : Cond.methodLink "java/lang/StringLatin1" 9 (⟨"java/lang/String", "checkIndex", "(II)V"⟩ : MethodName) ∈ TB_ := TB_1 219 (by decide +kernel) rfl
theorem tw_1_22 : Cond.instantiable cn_P 2 ∈ TB_ := TB_1 22 (by decide +kernel) rfl
theorem tw_1_220 : Cond.static (⟨"java/lang/String", "checkIndex", "(II)V"⟩ : MethodName) ∈ TB_ := TB_1 220 (by decide +kernel) rfl
theorem tw_1_221 : Cond.code (⟨"java/lang/String", "checkIndex", "(II)V"⟩ : MethodName) prog_10_method_155_code 2 (Option.none : Option FieldType) ∈ TB_ := TB_1 221 rfl rfl
theorem tw_1_222 : Cond.fieldLink "java/lang/String" 1053 "jdk/internal/util/Preconditions" "SIOOBE_FORMATTER" "Ljava/util/function/BiFunction;" ∈ TB_ := TB_1 222 (by decide +kernel) rfl
theorem tw_1_224 : Cond.methodLink "java/lang/String" 1059 (⟨"jdk/internal/util/Preconditions", "checkIndex", "(IILjava/util/function/BiFunction;)I"⟩ : MethodName) ∈ TB_ := TB_1 224 (by decide +kernel) rfl
theorem tw_1_225 : Cond.static (⟨"jdk/internal/util/Preconditions", "checkIndex", "(IILjava/util/function/BiFunction;)I"⟩ : MethodName) ∈ TB_ := TB_1 225 (by decide +kernel) rfl
theorem tw_1_226 : Cond.code (⟨"jdk/internal/util/Preconditions", "checkIndex", "(IILjava/util/function/BiFunction;)I"⟩ : MethodName) prog_13_method_11_code 3 (Option.some FieldType.int) ∈ TB_ := TB_1 226 rfl rfl
theorem tw_1_24 : Cond.instanceMethod yy_P_init ∈ TB_ := TB_1 24 (by decide +kernel) rfl
theorem tw_1_25 : Cond.code yy_P_init prog_4_method_1_code 1 (Option.none : Option FieldType) ∈ TB_ := TB_1 25 rfl rfl
theorem tw_1_26 : Cond.methodLink cn_P 3 objectInit ∈ TB_ := TB_1 26 (by decide +kernel) rfl
theorem tw_1_27 : Cond.fieldLink cn_P 9 cn_P "characters" "[C" ∈ TB_ := TB_1 27 (by decide +kernel) rfl
theorem tw_1_28 : Cond.fieldLink cn_P 15 cn_P "size" "I" ∈ TB_ := TB_1 28 (by decide +kernel) rfl
theorem tw_1_29 : Cond.laysFinal cn_P cn_P "characters" "[C" ∈ TB_ := TB_1 29 (by decide +kernel) rfl
theorem tw_1_3 : Cond.initialized cn_R ∈ TB_ := TB_1 3 (by decide +kernel) rfl
theorem tw_1_31 : Cond.lays cn_P cn_P "size" "I" ∈ TB_ := TB_1 31 (by decide +kernel) rfl
theorem tw_1_34 : Cond.arrayClass FieldType.char ∈ TB_ := TB_1 34 (by decide +kernel) rfl
theorem tw_1_35 : Cond.classLink cn_V 16 cn_R ∈ TB_ := TB_1 35 (by decide +kernel) rfl
theorem tw_1_36 : Cond.instantiable cn_R 7 ∈ TB_ := TB_1 36 (by decide +kernel) rfl
theorem tw_1_38 : Cond.instanceMethod yy_R_init ∈ TB_ := TB_1 38 (by decide +kernel) rfl
theorem tw_1_39 : Cond.code yy_R_init prog_7_method_1_code 1 (Option.none : Option FieldType) ∈ TB_ := TB_1 39 rfl rfl
theorem tw_1_4 : Cond.initialized cn_M ∈ TB_ := TB_1 4 (by decide +kernel) rfl
theorem tw_1_40 : Cond.methodLink cn_R 3 objectInit ∈ TB_ := TB_1 40 (by decide +kernel) rfl
theorem tw_1_41 : Cond.fieldLink cn_R 9 cn_R "kinds" "[I" ∈ TB_ := TB_1 41 (by decide +kernel) rfl
theorem tw_1_42 : Cond.fieldLink cn_R 15 cn_R "depths" "[I" ∈ TB_ := TB_1 42 (by decide +kernel) rfl
theorem tw_1_43 : Cond.fieldLink cn_R 18 cn_R "suites" "[I" ∈ TB_ := TB_1 43 (by decide +kernel) rfl
theorem tw_1_44 : Cond.fieldLink cn_R 21 cn_R "names" "[J" ∈ TB_ := TB_1 44 (by decide +kernel) rfl
theorem tw_1_45 : Cond.fieldLink cn_R 25 cn_R "count" "I" ∈ TB_ := TB_1 45 (by decide +kernel) rfl
theorem tw_1_46 : Cond.fieldLink cn_R 29 cn_R "lastOpen" "I" ∈ TB_ := TB_1 46 (by decide +kernel) rfl
theorem tw_1_47 : Cond.fieldLink cn_R 32 cn_R "openCount" "I" ∈ TB_ := TB_1 47 (by decide +kernel) rfl
theorem tw_1_48 : Cond.laysFinal cn_R cn_R "kinds" "[I" ∈ TB_ := TB_1 48 (by decide +kernel) rfl
theorem tw_1_5 : Cond.initialized cn_N ∈ TB_ := TB_1 5 (by decide +kernel) rfl
theorem tw_1_50 : Cond.laysFinal cn_R cn_R "depths" "[I" ∈ TB_ := TB_1 50 (by decide +kernel) rfl
theorem tw_1_52 : Cond.laysFinal cn_R cn_R "suites" "[I" ∈ TB_ := TB_1 52 (by decide +kernel) rfl
theorem tw_1_54 : Cond.laysFinal cn_R cn_R "names" "[J" ∈ TB_ := TB_1 54 (by decide +kernel) rfl
theorem tw_1_56 : Cond.lays cn_R cn_R "count" "I" ∈ TB_ := TB_1 56 (by decide +kernel) rfl
theorem tw_1_58 : Cond.lays cn_R cn_R "lastOpen" "I" ∈ TB_ := TB_1 58 (by decide +kernel) rfl
theorem tw_1_6 : Cond.initialized cn_W ∈ TB_ := TB_1 6 (by decide +kernel) rfl
theorem tw_1_60 : Cond.lays cn_R cn_R "openCount" "I" ∈ TB_ := TB_1 60 (by decide +kernel) rfl
theorem tw_1_63 : Cond.arrayClass FieldType.int ∈ TB_ := TB_1 63 (by decide +kernel) rfl
theorem tw_1_64 : Cond.arrayClass FieldType.long ∈ TB_ := TB_1 64 (by decide +kernel) rfl
theorem tw_1_65 : Cond.fieldLink cn_V 10 cn_V "page" "LVerdictPages$Page;" ∈ TB_ := TB_1 65 (by decide +kernel) rfl
theorem tw_1_66 : Cond.fieldLink cn_V 19 cn_V "report" "LVerdictPages$Report;" ∈ TB_ := TB_1 66 (by decide +kernel) rfl
theorem tw_1_67 : Cond.fieldLink cn_V 23 cn_V "spare" "LVerdictPages$Report;" ∈ TB_ := TB_1 67 (by decide +kernel) rfl
theorem tw_1_68 : Cond.fieldLink cn_V 28 cn_V "begunName" "J" ∈ TB_ := TB_1 68 (by decide +kernel) rfl
theorem tw_1_69 : Cond.laysFinal cn_V cn_V "page" "LVerdictPages$Page;" ∈ TB_ := TB_1 69 (by decide +kernel) rfl
theorem tw_1_7 : Cond.initialized "java/lang/String" ∈ TB_ := TB_1 7 (by decide +kernel) rfl
theorem tw_1_71 : Cond.lays cn_V cn_V "report" "LVerdictPages$Report;" ∈ TB_ := TB_1 71 (by decide +kernel) rfl
theorem tw_1_73 : Cond.lays cn_V cn_V "spare" "LVerdictPages$Report;" ∈ TB_ := TB_1 73 (by decide +kernel) rfl
theorem tw_1_75 : Cond.lays cn_V cn_V "begunName" "J" ∈ TB_ := TB_1 75 (by decide +kernel) rfl
theorem tw_1_78 : Cond.methodLink cn_L 13 yy_V_letter ∈ TB_ := TB_1 78 (by decide +kernel) rfl
theorem tw_1_79 : Cond.instanceMethod yy_V_letter ∈ TB_ := TB_1 79 (by decide +kernel) rfl
theorem tw_1_8 : Cond.initialized "java/lang/StringLatin1" ∈ TB_ := TB_1 8 (by decide +kernel) rfl
theorem tw_1_80 : Cond.selects cn_V yy_V_letter yy_V_letter ∈ TB_ := TB_1 80 (by decide +kernel) rfl
theorem tw_1_81 : Cond.code yy_V_letter prog_1_method_2_code 3 (Option.some FieldType.boolean) ∈ TB_ := TB_1 81 rfl rfl
theorem tw_1_82 : Cond.methodLink cn_V 32 yy_N_sizeOf ∈ TB_ := TB_1 82 (by decide +kernel) rfl
theorem tw_1_83 : Cond.static yy_N_sizeOf ∈ TB_ := TB_1 83 (by decide +kernel) rfl
theorem tw_1_84 : Cond.code yy_N_sizeOf prog_3_method_2_code 3 (Option.some FieldType.int) ∈ TB_ := TB_1 84 rfl rfl
theorem tw_1_85 : Cond.methodLink cn_N 9 yy_N_codeAt ∈ TB_ := TB_1 85 (by decide +kernel) rfl
theorem tw_1_86 : Cond.static yy_N_codeAt ∈ TB_ := TB_1 86 (by decide +kernel) rfl
theorem tw_1_87 : Cond.code yy_N_codeAt prog_3_method_3_code 3 (Option.some FieldType.int) ∈ TB_ := TB_1 87 rfl rfl
theorem tw_1_88 : Cond.methodLink cn_V 36 yy_V_isPlain ∈ TB_ := TB_1 88 (by decide +kernel) rfl
theorem tw_1_89 : Cond.static yy_V_isPlain ∈ TB_ := TB_1 89 (by decide +kernel) rfl
theorem tw_1_9 : Cond.initialized "jdk/internal/util/Preconditions" ∈ TB_ := TB_1 9 (by decide +kernel) rfl
theorem tw_1_90 : Cond.code yy_V_isPlain prog_1_method_21_code 1 (Option.some FieldType.boolean) ∈ TB_ := TB_1 90 rfl rfl
theorem tw_1_91 : Cond.methodLink cn_V 40 yy_N_withLetter ∈ TB_ := TB_1 91 (by decide +kernel) rfl
theorem tw_1_92 : Cond.static yy_N_withLetter ∈ TB_ := TB_1 92 (by decide +kernel) rfl
theorem tw_1_93 : Cond.code yy_N_withLetter prog_3_method_4_code 4 (Option.some FieldType.long) ∈ TB_ := TB_1 93 rfl rfl
theorem tw_1_94 : Cond.methodLink cn_L 18 yy_V_open ∈ TB_ := TB_1 94 (by decide +kernel) rfl
theorem tw_1_95 : Cond.instanceMethod yy_V_open ∈ TB_ := TB_1 95 (by decide +kernel) rfl
theorem tw_1_96 : Cond.selects cn_V yy_V_open yy_V_open ∈ TB_ := TB_1 96 (by decide +kernel) rfl
theorem tw_1_97 : Cond.code yy_V_open prog_1_method_3_code 1 (Option.some FieldType.int) ∈ TB_ := TB_1 97 rfl rfl
theorem tw_1_98 : Cond.methodLink cn_V 44 yy_V_addWithBegunName ∈ TB_ := TB_1 98 (by decide +kernel) rfl
theorem tw_2_10 : Cond.methodLink cn_W 31 yy_P_add ∈ TB_ := TB_2 10 (by decide +kernel) rfl
theorem tw_2_100 : Cond.selects cn_P yy_P_size yy_P_size ∈ TB_ := TB_2 100 (by decide +kernel) rfl
theorem tw_2_101 : Cond.code yy_P_size prog_4_method_2_code 1 (Option.some FieldType.int) ∈ TB_ := TB_2 101 rfl rfl
theorem tw_2_102 : Cond.arrayClass FieldType.byte ∈ TB_ := TB_2 102 (by decide +kernel) rfl
theorem tw_2_103 : Cond.methodLink cn_L 58 yy_V_read ∈ TB_ := TB_2 103 (by decide +kernel) rfl
theorem tw_2_104 : Cond.instanceMethod yy_V_read ∈ TB_ := TB_2 104 (by decide +kernel) rfl
theorem tw_2_105 : Cond.selects cn_V yy_V_read yy_V_read ∈ TB_ := TB_2 105 (by decide +kernel) rfl
theorem tw_2_106 : Cond.code yy_V_read prog_1_method_12_code 3 (Option.some FieldType.int) ∈ TB_ := TB_2 106 rfl rfl
theorem tw_2_107 : Cond.classLink cn_V 86 cn_E ∈ TB_ := TB_2 107 (by decide +kernel) rfl
theorem tw_2_108 : Cond.instantiable cn_E 3 ∈ TB_ := TB_2 108 (by decide +kernel) rfl
theorem tw_2_109 : Cond.methodLink cn_V 88 yy_P_cursor ∈ TB_ := TB_2 109 (by decide +kernel) rfl
theorem tw_2_11 : Cond.methodLink cn_W 35 yy_R_size ∈ TB_ := TB_2 11 (by decide +kernel) rfl
theorem tw_2_110 : Cond.instanceMethod yy_P_cursor ∈ TB_ := TB_2 110 (by decide +kernel) rfl
theorem tw_2_111 : Cond.selects cn_P yy_P_cursor yy_P_cursor ∈ TB_ := TB_2 111 (by decide +kernel) rfl
theorem tw_2_112 : Cond.code yy_P_cursor prog_4_method_11_code 1 (Option.some (FieldType.object "VerdictPages$LineCursor")) ∈ TB_ := TB_2 112 rfl rfl
theorem tw_2_113 : Cond.classLink cn_P 49 cn_C ∈ TB_ := TB_2 113 (by decide +kernel) rfl
theorem tw_2_114 : Cond.instantiable cn_C 4 ∈ TB_ := TB_2 114 (by decide +kernel) rfl
theorem tw_2_115 : Cond.methodLink cn_P 51 yy_C_init ∈ TB_ := TB_2 115 (by decide +kernel) rfl
theorem tw_2_116 : Cond.instanceMethod yy_C_init ∈ TB_ := TB_2 116 (by decide +kernel) rfl
theorem tw_2_117 : Cond.code yy_C_init prog_2_method_1_code 3 (Option.none : Option FieldType) ∈ TB_ := TB_2 117 rfl rfl
theorem tw_2_118 : Cond.methodLink cn_C 3 objectInit ∈ TB_ := TB_2 118 (by decide +kernel) rfl
theorem tw_2_119 : Cond.fieldLink cn_C 18 cn_C "characters" "[C" ∈ TB_ := TB_2 119 (by decide +kernel) rfl
theorem tw_2_12 : Cond.methodLink cn_W 41 yy_R_suiteOf ∈ TB_ := TB_2 12 (by decide +kernel) rfl
theorem tw_2_120 : Cond.fieldLink cn_C 22 cn_C "size" "I" ∈ TB_ := TB_2 120 (by decide +kernel) rfl
theorem tw_2_121 : Cond.fieldLink cn_C 9 cn_C "spot" "I" ∈ TB_ := TB_2 121 (by decide +kernel) rfl
theorem tw_2_122 : Cond.fieldLink cn_C 15 cn_C "lineEnd" "I" ∈ TB_ := TB_2 122 (by decide +kernel) rfl
theorem tw_2_123 : Cond.laysFinal cn_C cn_C "characters" "[C" ∈ TB_ := TB_2 123 (by decide +kernel) rfl
theorem tw_2_125 : Cond.laysFinal cn_C cn_C "size" "I" ∈ TB_ := TB_2 125 (by decide +kernel) rfl
theorem tw_2_127 : Cond.lays cn_C cn_C "spot" "I" ∈ TB_ := TB_2 127 (by decide +kernel) rfl
theorem tw_2_129 : Cond.lays cn_C cn_C "lineEnd" "I" ∈ TB_ := TB_2 129 (by decide +kernel) rfl
theorem tw_2_13 : Cond.instanceMethod yy_R_suiteOf ∈ TB_ := TB_2 13 (by decide +kernel) rfl
theorem tw_2_132 : Cond.methodLink cn_V 92 yy_E_init ∈ TB_ := TB_2 132 (by decide +kernel) rfl
theorem tw_2_133 : Cond.instanceMethod yy_E_init ∈ TB_ := TB_2 133 (by decide +kernel) rfl
theorem tw_2_134 : Cond.code yy_E_init prog_5_method_1_code 3 (Option.none : Option FieldType) ∈ TB_ := TB_2 134 rfl rfl
theorem tw_2_135 : Cond.methodLink cn_E 3 objectInit ∈ TB_ := TB_2 135 (by decide +kernel) rfl
theorem tw_2_136 : Cond.fieldLink cn_E 15 cn_E "cursor" "LVerdictPages$LineCursor;" ∈ TB_ := TB_2 136 (by decide +kernel) rfl
theorem tw_2_137 : Cond.fieldLink cn_E 19 cn_E "report" "LVerdictPages$Report;" ∈ TB_ := TB_2 137 (by decide +kernel) rfl
theorem tw_2_138 : Cond.fieldLink cn_E 11 cn_E "stage" "I" ∈ TB_ := TB_2 138 (by decide +kernel) rfl
theorem tw_2_139 : Cond.laysFinal cn_E cn_E "cursor" "LVerdictPages$LineCursor;" ∈ TB_ := TB_2 139 (by decide +kernel) rfl
theorem tw_2_14 : Cond.selects cn_R yy_R_suiteOf yy_R_suiteOf ∈ TB_ := TB_2 14 (by decide +kernel) rfl
theorem tw_2_141 : Cond.laysFinal cn_E cn_E "report" "LVerdictPages$Report;" ∈ TB_ := TB_2 141 (by decide +kernel) rfl
theorem tw_2_143 : Cond.lays cn_E cn_E "stage" "I" ∈ TB_ := TB_2 143 (by decide +kernel) rfl
theorem tw_2_146 : Cond.methodLink cn_V 95 yy_E_readAll ∈ TB_ := TB_2 146 (by decide +kernel) rfl
theorem tw_2_147 : Cond.instanceMethod yy_E_readAll ∈ TB_ := TB_2 147 (by decide +kernel) rfl
theorem tw_2_148 : Cond.selects cn_E yy_E_readAll yy_E_readAll ∈ TB_ := TB_2 148 (by decide +kernel) rfl
theorem tw_2_149 : Cond.code yy_E_readAll prog_5_method_2_code 2 (Option.some FieldType.int) ∈ TB_ := TB_2 149 rfl rfl
theorem tw_2_15 : Cond.code yy_R_suiteOf prog_7_method_8_code 2 (Option.some FieldType.int) ∈ TB_ := TB_2 15 rfl rfl
theorem tw_2_150 : Cond.methodLink cn_E 23 yy_R_removeAll ∈ TB_ := TB_2 150 (by decide +kernel) rfl
theorem tw_2_151 : Cond.methodLink cn_E 28 yy_C_isBehindLastLine ∈ TB_ := TB_2 151 (by decide +kernel) rfl
theorem tw_2_152 : Cond.instanceMethod yy_C_isBehindLastLine ∈ TB_ := TB_2 152 (by decide +kernel) rfl
theorem tw_2_153 : Cond.selects cn_C yy_C_isBehindLastLine yy_C_isBehindLastLine ∈ TB_ := TB_2 153 (by decide +kernel) rfl
theorem tw_2_154 : Cond.code yy_C_isBehindLastLine prog_2_method_2_code 1 (Option.some FieldType.boolean) ∈ TB_ := TB_2 154 rfl rfl
theorem tw_2_155 : Cond.methodLink cn_E 34 yy_C_goToNextLine ∈ TB_ := TB_2 155 (by decide +kernel) rfl
theorem tw_2_156 : Cond.instanceMethod yy_C_goToNextLine ∈ TB_ := TB_2 156 (by decide +kernel) rfl
theorem tw_2_157 : Cond.selects cn_C yy_C_goToNextLine yy_C_goToNextLine ∈ TB_ := TB_2 157 (by decide +kernel) rfl
theorem tw_2_158 : Cond.code yy_C_goToNextLine prog_2_method_3_code 2 (Option.some FieldType.boolean) ∈ TB_ := TB_2 158 rfl rfl
theorem tw_2_159 : Cond.methodLink cn_E 37 yy_E_takeLine ∈ TB_ := TB_2 159 (by decide +kernel) rfl
theorem tw_2_16 : Cond.methodLink cn_W 45 yy_W_endSuites ∈ TB_ := TB_2 16 (by decide +kernel) rfl
theorem tw_2_161 : Cond.instanceMethod yy_E_takeLine ∈ TB_ := TB_2 161 (by decide +kernel) rfl
theorem tw_2_162 : Cond.code yy_E_takeLine prog_5_method_3_code 1 (Option.some FieldType.boolean) ∈ TB_ := TB_2 162 rfl rfl
theorem tw_2_164 : Cond.methodLink cn_E 45 yy_C_skipText ∈ TB_ := TB_2 164 (by decide +kernel) rfl
theorem tw_2_165 : Cond.instanceMethod yy_C_skipText ∈ TB_ := TB_2 165 (by decide +kernel) rfl
theorem tw_2_166 : Cond.selects cn_C yy_C_skipText yy_C_skipText ∈ TB_ := TB_2 166 (by decide +kernel) rfl
theorem tw_2_167 : Cond.code yy_C_skipText prog_2_method_5_code 3 (Option.some FieldType.boolean) ∈ TB_ := TB_2 167 rfl rfl
theorem tw_2_168 : Cond.methodLink cn_C 25 (⟨"java/lang/String", "length", "()I"⟩ : MethodName) ∈ TB_ := TB_2 168 (by decide +kernel) rfl
theorem tw_2_169 : Cond.methodLink cn_C 31 (⟨"java/lang/String", "charAt", "(I)C"⟩ : MethodName) ∈ TB_ := TB_2 169 (by decide +kernel) rfl
theorem tw_2_170 : Cond.methodLink cn_E 49 yy_E_takeRowLine ∈ TB_ := TB_2 170 (by decide +kernel) rfl
theorem tw_2_172 : Cond.instanceMethod yy_E_takeRowLine ∈ TB_ := TB_2 172 (by decide +kernel) rfl
theorem tw_2_173 : Cond.code yy_E_takeRowLine prog_5_method_4_code 2 (Option.some FieldType.boolean) ∈ TB_ := TB_2 173 rfl rfl
theorem tw_2_174 : Cond.methodLink cn_E 55 yy_R_openSuites ∈ TB_ := TB_2 174 (by decide +kernel) rfl
theorem tw_2_176 : Cond.methodLink cn_E 61 yy_C_skipIndent ∈ TB_ := TB_2 176 (by decide +kernel) rfl
theorem tw_2_177 : Cond.instanceMethod yy_C_skipIndent ∈ TB_ := TB_2 177 (by decide +kernel) rfl
theorem tw_2_178 : Cond.selects cn_C yy_C_skipIndent yy_C_skipIndent ∈ TB_ := TB_2 178 (by decide +kernel) rfl
theorem tw_2_179 : Cond.code yy_C_skipIndent prog_2_method_6_code 3 (Option.some FieldType.boolean) ∈ TB_ := TB_2 179 rfl rfl
theorem tw_2_18 : Cond.instanceMethod yy_W_endSuites ∈ TB_ := TB_2 18 (by decide +kernel) rfl
theorem tw_2_181 : Cond.methodLink cn_C 37 yy_C_skipText ∈ TB_ := TB_2 181 (by decide +kernel) rfl
theorem tw_2_183 : Cond.methodLink cn_E 67 yy_R_innermost ∈ TB_ := TB_2 183 (by decide +kernel) rfl
theorem tw_2_184 : Cond.methodLink cn_E 70 yy_R_rowSize ∈ TB_ := TB_2 184 (by decide +kernel) rfl
theorem tw_2_185 : Cond.methodLink cn_E 74 yy_C_skipNumber ∈ TB_ := TB_2 185 (by decide +kernel) rfl
theorem tw_2_186 : Cond.instanceMethod yy_C_skipNumber ∈ TB_ := TB_2 186 (by decide +kernel) rfl
theorem tw_2_187 : Cond.selects cn_C yy_C_skipNumber yy_C_skipNumber ∈ TB_ := TB_2 187 (by decide +kernel) rfl
theorem tw_2_188 : Cond.code yy_C_skipNumber prog_2_method_7_code 2 (Option.some FieldType.boolean) ∈ TB_ := TB_2 188 rfl rfl
theorem tw_2_189 : Cond.methodLink cn_C 41 yy_C_skipDigit ∈ TB_ := TB_2 189 (by decide +kernel) rfl
theorem tw_2_19 : Cond.code yy_W_endSuites prog_6_method_3_code 5 (Option.none : Option FieldType) ∈ TB_ := TB_2 19 rfl rfl
theorem tw_2_191 : Cond.instanceMethod yy_C_skipDigit ∈ TB_ := TB_2 191 (by decide +kernel) rfl
theorem tw_2_192 : Cond.code yy_C_skipDigit prog_2_method_10_code 2 (Option.some FieldType.boolean) ∈ TB_ := TB_2 192 rfl rfl
theorem tw_2_194 : Cond.methodLink cn_E 79 yy_C_takeName ∈ TB_ := TB_2 194 (by decide +kernel) rfl
theorem tw_2_195 : Cond.instanceMethod yy_C_takeName ∈ TB_ := TB_2 195 (by decide +kernel) rfl
theorem tw_2_196 : Cond.selects cn_C yy_C_takeName yy_C_takeName ∈ TB_ := TB_2 196 (by decide +kernel) rfl
theorem tw_2_197 : Cond.code yy_C_takeName prog_2_method_8_code 5 (Option.some FieldType.long) ∈ TB_ := TB_2 197 rfl rfl
theorem tw_2_198 : Cond.methodLink cn_C 47 yy_C_takeLetter ∈ TB_ := TB_2 198 (by decide +kernel) rfl
theorem tw_2_20 : Cond.methodLink cn_W 65 yy_W_writePlan ∈ TB_ := TB_2 20 (by decide +kernel) rfl
theorem tw_2_200 : Cond.instanceMethod yy_C_takeLetter ∈ TB_ := TB_2 200 (by decide +kernel) rfl
theorem tw_2_201 : Cond.code yy_C_takeLetter prog_2_method_9_code 3 (Option.some FieldType.int) ∈ TB_ := TB_2 201 rfl rfl
theorem tw_2_202 : Cond.methodLink cn_C 50 yy_N_withLetter ∈ TB_ := TB_2 202 (by decide +kernel) rfl
theorem tw_2_203 : Cond.methodLink cn_E 83 yy_R_addNode ∈ TB_ := TB_2 203 (by decide +kernel) rfl
theorem tw_2_206 : Cond.methodLink cn_E 91 yy_E_takeTest ∈ TB_ := TB_2 206 (by decide +kernel) rfl
theorem tw_2_208 : Cond.instanceMethod yy_E_takeTest ∈ TB_ := TB_2 208 (by decide +kernel) rfl
theorem tw_2_209 : Cond.code yy_E_takeTest prog_5_method_5_code 8 (Option.some FieldType.boolean) ∈ TB_ := TB_2 209 rfl rfl
theorem tw_2_213 : Cond.methodLink cn_E 52 yy_E_takeSuiteEnd ∈ TB_ := TB_2 213 (by decide +kernel) rfl
theorem tw_2_215 : Cond.instanceMethod yy_E_takeSuiteEnd ∈ TB_ := TB_2 215 (by decide +kernel) rfl
theorem tw_2_216 : Cond.code yy_E_takeSuiteEnd prog_5_method_6_code 2 (Option.some FieldType.boolean) ∈ TB_ := TB_2 216 rfl rfl
theorem tw_2_217 : Cond.methodLink cn_E 101 yy_R_closeLastOpen ∈ TB_ := TB_2 217 (by decide +kernel) rfl
theorem tw_2_218 : Cond.methodLink cn_E 104 yy_R_depthOf ∈ TB_ := TB_2 218 (by decide +kernel) rfl
theorem tw_2_219 : Cond.methodLink cn_E 107 yy_R_kindOf ∈ TB_ := TB_2 219 (by decide +kernel) rfl
theorem tw_2_22 : Cond.instanceMethod yy_W_writePlan ∈ TB_ := TB_2 22 (by decide +kernel) rfl
theorem tw_2_220 : Cond.methodLink cn_E 110 yy_R_placeOf ∈ TB_ := TB_2 220 (by decide +kernel) rfl
theorem tw_2_221 : Cond.methodLink cn_E 113 yy_R_nameOf ∈ TB_ := TB_2 221 (by decide +kernel) rfl
theorem tw_2_222 : Cond.methodLink cn_E 40 yy_C_isAtLineEnd ∈ TB_ := TB_2 222 (by decide +kernel) rfl
theorem tw_2_223 : Cond.instanceMethod yy_C_isAtLineEnd ∈ TB_ := TB_2 223 (by decide +kernel) rfl
theorem tw_2_224 : Cond.selects cn_C yy_C_isAtLineEnd yy_C_isAtLineEnd ∈ TB_ := TB_2 224 (by decide +kernel) rfl
theorem tw_2_225 : Cond.code yy_C_isAtLineEnd prog_2_method_4_code 1 (Option.some FieldType.boolean) ∈ TB_ := TB_2 225 rfl rfl
theorem tw_2_226 : Cond.methodLink cn_L 62 yy_V_length ∈ TB_ := TB_2 226 (by decide +kernel) rfl
theorem tw_2_227 : Cond.instanceMethod yy_V_length ∈ TB_ := TB_2 227 (by decide +kernel) rfl
theorem tw_2_228 : Cond.selects cn_V yy_V_length yy_V_length ∈ TB_ := TB_2 228 (by decide +kernel) rfl
theorem tw_2_229 : Cond.code yy_V_length prog_1_method_13_code 1 (Option.some FieldType.int) ∈ TB_ := TB_2 229 rfl rfl
theorem tw_2_23 : Cond.code yy_W_writePlan prog_6_method_5_code 2 (Option.none : Option FieldType) ∈ TB_ := TB_2 23 rfl rfl
theorem tw_2_230 : Cond.methodLink cn_L 66 yy_V_at ∈ TB_ := TB_2 230 (by decide +kernel) rfl
theorem tw_2_231 : Cond.instanceMethod yy_V_at ∈ TB_ := TB_2 231 (by decide +kernel) rfl
theorem tw_2_232 : Cond.selects cn_V yy_V_at yy_V_at ∈ TB_ := TB_2 232 (by decide +kernel) rfl
theorem tw_2_233 : Cond.code yy_V_at prog_1_method_14_code 2 (Option.some FieldType.int) ∈ TB_ := TB_2 233 rfl rfl
theorem tw_2_234 : Cond.methodLink cn_V 98 yy_P_codeAt ∈ TB_ := TB_2 234 (by decide +kernel) rfl
theorem tw_2_235 : Cond.instanceMethod yy_P_codeAt ∈ TB_ := TB_2 235 (by decide +kernel) rfl
theorem tw_2_236 : Cond.selects cn_P yy_P_codeAt yy_P_codeAt ∈ TB_ := TB_2 236 (by decide +kernel) rfl
theorem tw_2_237 : Cond.code yy_P_codeAt prog_4_method_3_code 2 (Option.some FieldType.int) ∈ TB_ := TB_2 237 rfl rfl
theorem tw_2_238 : Cond.methodLink cn_L 70 yy_V_put ∈ TB_ := TB_2 238 (by decide +kernel) rfl
theorem tw_2_239 : Cond.instanceMethod yy_V_put ∈ TB_ := TB_2 239 (by decide +kernel) rfl
theorem tw_2_24 : Cond.methodLink cn_W 73 yy_R_rowDepth ∈ TB_ := TB_2 24 (by decide +kernel) rfl
theorem tw_2_25 : Cond.instanceMethod yy_R_rowDepth ∈ TB_ := TB_2 25 (by decide +kernel) rfl
theorem tw_2_26 : Cond.selects cn_R yy_R_rowDepth yy_R_rowDepth ∈ TB_ := TB_2 26 (by decide +kernel) rfl
theorem tw_2_27 : Cond.code yy_R_rowDepth prog_7_method_12_code 2 (Option.some FieldType.int) ∈ TB_ := TB_2 27 rfl rfl
theorem tw_2_28 : Cond.methodLink cn_W 76 yy_P_addIndent ∈ TB_ := TB_2 28 (by decide +kernel) rfl
theorem tw_2_29 : Cond.instanceMethod yy_P_addIndent ∈ TB_ := TB_2 29 (by decide +kernel) rfl
theorem tw_2_30 : Cond.selects cn_P yy_P_addIndent yy_P_addIndent ∈ TB_ := TB_2 30 (by decide +kernel) rfl
theorem tw_2_31 : Cond.code yy_P_addIndent prog_4_method_8_code 3 (Option.none : Option FieldType) ∈ TB_ := TB_2 31 rfl rfl
theorem tw_2_33 : Cond.methodLink cn_P 35 yy_P_addText ∈ TB_ := TB_2 33 (by decide +kernel) rfl
theorem tw_2_35 : Cond.methodLink cn_W 81 yy_R_rowSize ∈ TB_ := TB_2 35 (by decide +kernel) rfl
theorem tw_2_36 : Cond.instanceMethod yy_R_rowSize ∈ TB_ := TB_2 36 (by decide +kernel) rfl
theorem tw_2_37 : Cond.selects cn_R yy_R_rowSize yy_R_rowSize ∈ TB_ := TB_2 37 (by decide +kernel) rfl
theorem tw_2_38 : Cond.code yy_R_rowSize prog_7_method_13_code 2 (Option.some FieldType.int) ∈ TB_ := TB_2 38 rfl rfl
theorem tw_2_39 : Cond.methodLink cn_R 41 yy_R_countInRow ∈ TB_ := TB_2 39 (by decide +kernel) rfl
theorem tw_2_41 : Cond.instanceMethod yy_R_countInRow ∈ TB_ := TB_2 41 (by decide +kernel) rfl
theorem tw_2_42 : Cond.code yy_R_countInRow prog_7_method_19_code 5 (Option.some FieldType.int) ∈ TB_ := TB_2 42 rfl rfl
theorem tw_2_43 : Cond.methodLink cn_W 84 yy_P_addNumber ∈ TB_ := TB_2 43 (by decide +kernel) rfl
theorem tw_2_44 : Cond.instanceMethod yy_P_addNumber ∈ TB_ := TB_2 44 (by decide +kernel) rfl
theorem tw_2_45 : Cond.selects cn_P yy_P_addNumber yy_P_addNumber ∈ TB_ := TB_2 45 (by decide +kernel) rfl
theorem tw_2_46 : Cond.code yy_P_addNumber prog_4_method_9_code 2 (Option.none : Option FieldType) ∈ TB_ := TB_2 46 rfl rfl
theorem tw_2_47 : Cond.methodLink cn_W 52 yy_W_writeVerdict ∈ TB_ := TB_2 47 (by decide +kernel) rfl
theorem tw_2_49 : Cond.instanceMethod yy_W_writeVerdict ∈ TB_ := TB_2 49 (by decide +kernel) rfl
theorem tw_2_50 : Cond.code yy_W_writeVerdict prog_6_method_7_code 3 (Option.none : Option FieldType) ∈ TB_ := TB_2 50 rfl rfl
theorem tw_2_51 : Cond.methodLink cn_W 100 yy_R_kindOf ∈ TB_ := TB_2 51 (by decide +kernel) rfl
theorem tw_2_52 : Cond.methodLink cn_W 87 yy_R_depthOf ∈ TB_ := TB_2 52 (by decide +kernel) rfl
theorem tw_2_53 : Cond.methodLink cn_W 103 yy_W_verdictOf ∈ TB_ := TB_2 53 (by decide +kernel) rfl
theorem tw_2_54 : Cond.static yy_W_verdictOf ∈ TB_ := TB_2 54 (by decide +kernel) rfl
theorem tw_2_55 : Cond.code yy_W_verdictOf prog_6_method_8_code 1 (Option.some (FieldType.object "java/lang/String")) ∈ TB_ := TB_2 55 rfl rfl
theorem tw_2_58 : Cond.methodLink cn_W 107 yy_R_placeOf ∈ TB_ := TB_2 58 (by decide +kernel) rfl
theorem tw_2_59 : Cond.instanceMethod yy_R_placeOf ∈ TB_ := TB_2 59 (by decide +kernel) rfl
theorem tw_2_6 : Cond.methodLink cn_P 29 yy_P_add ∈ TB_ := TB_2 6 (by decide +kernel) rfl
theorem tw_2_60 : Cond.selects cn_R yy_R_placeOf yy_R_placeOf ∈ TB_ := TB_2 60 (by decide +kernel) rfl
theorem tw_2_61 : Cond.code yy_R_placeOf prog_7_method_14_code 2 (Option.some FieldType.int) ∈ TB_ := TB_2 61 rfl rfl
theorem tw_2_63 : Cond.methodLink cn_W 92 yy_R_nameOf ∈ TB_ := TB_2 63 (by decide +kernel) rfl
theorem tw_2_64 : Cond.methodLink cn_W 96 yy_P_addWritten ∈ TB_ := TB_2 64 (by decide +kernel) rfl
theorem tw_2_65 : Cond.instanceMethod yy_P_addWritten ∈ TB_ := TB_2 65 (by decide +kernel) rfl
theorem tw_2_66 : Cond.selects cn_P yy_P_addWritten yy_P_addWritten ∈ TB_ := TB_2 66 (by decide +kernel) rfl
theorem tw_2_67 : Cond.code yy_P_addWritten prog_4_method_10_code 6 (Option.none : Option FieldType) ∈ TB_ := TB_2 67 rfl rfl
theorem tw_2_68 : Cond.methodLink cn_P 39 yy_N_sizeOf ∈ TB_ := TB_2 68 (by decide +kernel) rfl
theorem tw_2_69 : Cond.methodLink cn_P 45 yy_N_codeAt ∈ TB_ := TB_2 69 (by decide +kernel) rfl
theorem tw_2_7 : Cond.instanceMethod yy_P_add ∈ TB_ := TB_2 7 (by decide +kernel) rfl
theorem tw_2_70 : Cond.methodLink cn_W 112 yy_W_directiveOf ∈ TB_ := TB_2 70 (by decide +kernel) rfl
theorem tw_2_71 : Cond.static yy_W_directiveOf ∈ TB_ := TB_2 71 (by decide +kernel) rfl
theorem tw_2_72 : Cond.code yy_W_directiveOf prog_6_method_9_code 1 (Option.some (FieldType.object "java/lang/String")) ∈ TB_ := TB_2 72 rfl rfl
theorem tw_2_76 : Cond.methodLink cn_W 49 yy_R_isTest ∈ TB_ := TB_2 76 (by decide +kernel) rfl
theorem tw_2_77 : Cond.instanceMethod yy_R_isTest ∈ TB_ := TB_2 77 (by decide +kernel) rfl
theorem tw_2_78 : Cond.selects cn_R yy_R_isTest yy_R_isTest ∈ TB_ := TB_2 78 (by decide +kernel) rfl
theorem tw_2_79 : Cond.code yy_R_isTest prog_7_method_5_code 2 (Option.some FieldType.boolean) ∈ TB_ := TB_2 79 rfl rfl
theorem tw_2_8 : Cond.selects cn_P yy_P_add yy_P_add ∈ TB_ := TB_2 8 (by decide +kernel) rfl
theorem tw_2_80 : Cond.methodLink cn_W 56 yy_W_writeSubtest ∈ TB_ := TB_2 80 (by decide +kernel) rfl
theorem tw_2_82 : Cond.instanceMethod yy_W_writeSubtest ∈ TB_ := TB_2 82 (by decide +kernel) rfl
theorem tw_2_83 : Cond.code yy_W_writeSubtest prog_6_method_6_code 2 (Option.none : Option FieldType) ∈ TB_ := TB_2 83 rfl rfl
theorem tw_2_85 : Cond.methodLink cn_W 59 yy_R_innermost ∈ TB_ := TB_2 85 (by decide +kernel) rfl
theorem tw_2_86 : Cond.instanceMethod yy_R_innermost ∈ TB_ := TB_2 86 (by decide +kernel) rfl
theorem tw_2_87 : Cond.selects cn_R yy_R_innermost yy_R_innermost ∈ TB_ := TB_2 87 (by decide +kernel) rfl
theorem tw_2_88 : Cond.code yy_R_innermost prog_7_method_10_code 1 (Option.some FieldType.int) ∈ TB_ := TB_2 88 rfl rfl
theorem tw_2_89 : Cond.methodLink cn_W 62 yy_W_writeEnd ∈ TB_ := TB_2 89 (by decide +kernel) rfl
theorem tw_2_9 : Cond.code yy_P_add prog_4_method_4_code 2 (Option.some FieldType.boolean) ∈ TB_ := TB_2 9 rfl rfl
theorem tw_2_91 : Cond.instanceMethod yy_W_writeEnd ∈ TB_ := TB_2 91 (by decide +kernel) rfl
theorem tw_2_92 : Cond.code yy_W_writeEnd prog_6_method_4_code 1 (Option.none : Option FieldType) ∈ TB_ := TB_2 92 rfl rfl
theorem tw_2_93 : Cond.methodLink cn_W 68 yy_R_openSuites ∈ TB_ := TB_2 93 (by decide +kernel) rfl
theorem tw_2_94 : Cond.instanceMethod yy_R_openSuites ∈ TB_ := TB_2 94 (by decide +kernel) rfl
theorem tw_2_95 : Cond.selects cn_R yy_R_openSuites yy_R_openSuites ∈ TB_ := TB_2 95 (by decide +kernel) rfl
theorem tw_2_96 : Cond.code yy_R_openSuites prog_7_method_11_code 1 (Option.some FieldType.int) ∈ TB_ := TB_2 96 rfl rfl
theorem tw_2_98 : Cond.methodLink cn_V 85 yy_P_size ∈ TB_ := TB_2 98 (by decide +kernel) rfl
theorem tw_2_99 : Cond.instanceMethod yy_P_size ∈ TB_ := TB_2 99 (by decide +kernel) rfl
theorem tw_3_0 : Cond.selects cn_V yy_V_put yy_V_put ∈ TB_ := TB_3 0 (by decide +kernel) rfl
theorem tw_3_1 : Cond.code yy_V_put prog_1_method_15_code 2 (Option.some FieldType.boolean) ∈ TB_ := TB_3 1 rfl rfl
theorem tw_3_10 : Cond.methodLink cn_V 106 yy_P_replace ∈ TB_ := TB_3 10 (by decide +kernel) rfl
theorem tw_3_100 : Cond.selects cn_M yy_M_open yy_M_open ∈ TB_ := TB_3 100 (by decide +kernel) rfl
theorem tw_3_101 : Cond.code yy_M_open prog_9_method_9_code 2 (Option.some FieldType.int) ∈ TB_ := TB_3 101 rfl rfl
theorem tw_3_102 : Cond.methodLink cn_M 73 yy_M_innermost ∈ TB_ := TB_3 102 (by decide +kernel) rfl
theorem tw_3_104 : Cond.instanceMethod yy_M_innermost ∈ TB_ := TB_3 104 (by decide +kernel) rfl
theorem tw_3_105 : Cond.code yy_M_innermost prog_9_method_5_code 4 (Option.some FieldType.int) ∈ TB_ := TB_3 105 rfl rfl
theorem tw_3_106 : Cond.methodLink cn_M 81 yy_M_depthOf ∈ TB_ := TB_3 106 (by decide +kernel) rfl
theorem tw_3_108 : Cond.instanceMethod yy_M_depthOf ∈ TB_ := TB_3 108 (by decide +kernel) rfl
theorem tw_3_109 : Cond.code yy_M_depthOf prog_9_method_6_code 5 (Option.some FieldType.int) ∈ TB_ := TB_3 109 rfl rfl
theorem tw_3_11 : Cond.instanceMethod yy_P_replace ∈ TB_ := TB_3 11 (by decide +kernel) rfl
theorem tw_3_110 : Cond.methodLink cn_M 84 yy_M_addNamed ∈ TB_ := TB_3 110 (by decide +kernel) rfl
theorem tw_3_112 : Cond.instanceMethod yy_M_addNamed ∈ TB_ := TB_3 112 (by decide +kernel) rfl
theorem tw_3_113 : Cond.code yy_M_addNamed prog_9_method_8_code 4 (Option.some FieldType.int) ∈ TB_ := TB_3 113 rfl rfl
theorem tw_3_114 : Cond.methodLink cn_M 77 yy_M_grow ∈ TB_ := TB_3 114 (by decide +kernel) rfl
theorem tw_3_116 : Cond.instanceMethod yy_M_grow ∈ TB_ := TB_3 116 (by decide +kernel) rfl
theorem tw_3_117 : Cond.code yy_M_grow prog_9_method_7_code 5 (Option.some FieldType.int) ∈ TB_ := TB_3 117 rfl rfl
theorem tw_3_118 : Cond.methodLink cn_L 27 yy_M_close ∈ TB_ := TB_3 118 (by decide +kernel) rfl
theorem tw_3_119 : Cond.instanceMethod yy_M_close ∈ TB_ := TB_3 119 (by decide +kernel) rfl
theorem tw_3_12 : Cond.selects cn_P yy_P_replace yy_P_replace ∈ TB_ := TB_3 12 (by decide +kernel) rfl
theorem tw_3_120 : Cond.selects cn_M yy_M_close yy_M_close ∈ TB_ := TB_3 120 (by decide +kernel) rfl
theorem tw_3_121 : Cond.code yy_M_close prog_9_method_10_code 2 (Option.some FieldType.boolean) ∈ TB_ := TB_3 121 rfl rfl
theorem tw_3_122 : Cond.methodLink cn_L 32 yy_M_test ∈ TB_ := TB_3 122 (by decide +kernel) rfl
theorem tw_3_123 : Cond.instanceMethod yy_M_test ∈ TB_ := TB_3 123 (by decide +kernel) rfl
theorem tw_3_124 : Cond.selects cn_M yy_M_test yy_M_test ∈ TB_ := TB_3 124 (by decide +kernel) rfl
theorem tw_3_125 : Cond.code yy_M_test prog_9_method_11_code 2 (Option.some FieldType.int) ∈ TB_ := TB_3 125 rfl rfl
theorem tw_3_126 : Cond.methodLink cn_L 36 yy_M_reset ∈ TB_ := TB_3 126 (by decide +kernel) rfl
theorem tw_3_127 : Cond.instanceMethod yy_M_reset ∈ TB_ := TB_3 127 (by decide +kernel) rfl
theorem tw_3_128 : Cond.selects cn_M yy_M_reset yy_M_reset ∈ TB_ := TB_3 128 (by decide +kernel) rfl
theorem tw_3_129 : Cond.code yy_M_reset prog_9_method_12_code 1 (Option.none : Option FieldType) ∈ TB_ := TB_3 129 rfl rfl
theorem tw_3_13 : Cond.code yy_P_replace prog_4_method_5_code 3 (Option.some FieldType.boolean) ∈ TB_ := TB_3 13 rfl rfl
theorem tw_3_130 : Cond.methodLink cn_L 40 yy_M_nodes ∈ TB_ := TB_3 130 (by decide +kernel) rfl
theorem tw_3_131 : Cond.instanceMethod yy_M_nodes ∈ TB_ := TB_3 131 (by decide +kernel) rfl
theorem tw_3_132 : Cond.selects cn_M yy_M_nodes yy_M_nodes ∈ TB_ := TB_3 132 (by decide +kernel) rfl
theorem tw_3_133 : Cond.code yy_M_nodes prog_9_method_13_code 1 (Option.some FieldType.int) ∈ TB_ := TB_3 133 rfl rfl
theorem tw_3_134 : Cond.methodLink cn_L 44 yy_M_kind ∈ TB_ := TB_3 134 (by decide +kernel) rfl
theorem tw_3_135 : Cond.instanceMethod yy_M_kind ∈ TB_ := TB_3 135 (by decide +kernel) rfl
theorem tw_3_136 : Cond.selects cn_M yy_M_kind yy_M_kind ∈ TB_ := TB_3 136 (by decide +kernel) rfl
theorem tw_3_137 : Cond.code yy_M_kind prog_9_method_16_code 2 (Option.some FieldType.int) ∈ TB_ := TB_3 137 rfl rfl
theorem tw_3_138 : Cond.methodLink cn_M 87 yy_M_node ∈ TB_ := TB_3 138 (by decide +kernel) rfl
theorem tw_3_14 : Cond.methodLink cn_L 79 yy_V_cut ∈ TB_ := TB_3 14 (by decide +kernel) rfl
theorem tw_3_140 : Cond.instanceMethod yy_M_node ∈ TB_ := TB_3 140 (by decide +kernel) rfl
theorem tw_3_141 : Cond.code yy_M_node prog_9_method_14_code 2 (Option.some FieldType.boolean) ∈ TB_ := TB_3 141 rfl rfl
theorem tw_3_142 : Cond.methodLink cn_M 91 yy_M_good ∈ TB_ := TB_3 142 (by decide +kernel) rfl
theorem tw_3_144 : Cond.instanceMethod yy_M_good ∈ TB_ := TB_3 144 (by decide +kernel) rfl
theorem tw_3_145 : Cond.code yy_M_good prog_9_method_15_code 7 (Option.some FieldType.boolean) ∈ TB_ := TB_3 145 rfl rfl
theorem tw_3_146 : Cond.methodLink cn_L 48 yy_M_depth ∈ TB_ := TB_3 146 (by decide +kernel) rfl
theorem tw_3_147 : Cond.instanceMethod yy_M_depth ∈ TB_ := TB_3 147 (by decide +kernel) rfl
theorem tw_3_148 : Cond.selects cn_M yy_M_depth yy_M_depth ∈ TB_ := TB_3 148 (by decide +kernel) rfl
theorem tw_3_149 : Cond.code yy_M_depth prog_9_method_17_code 2 (Option.some FieldType.int) ∈ TB_ := TB_3 149 rfl rfl
theorem tw_3_15 : Cond.instanceMethod yy_V_cut ∈ TB_ := TB_3 15 (by decide +kernel) rfl
theorem tw_3_150 : Cond.methodLink cn_L 53 yy_M_name ∈ TB_ := TB_3 150 (by decide +kernel) rfl
theorem tw_3_151 : Cond.instanceMethod yy_M_name ∈ TB_ := TB_3 151 (by decide +kernel) rfl
theorem tw_3_152 : Cond.selects cn_M yy_M_name yy_M_name ∈ TB_ := TB_3 152 (by decide +kernel) rfl
theorem tw_3_153 : Cond.code yy_M_name prog_9_method_18_code 3 (Option.some FieldType.int) ∈ TB_ := TB_3 153 rfl rfl
theorem tw_3_154 : Cond.methodLink cn_L 57 yy_M_write ∈ TB_ := TB_3 154 (by decide +kernel) rfl
theorem tw_3_155 : Cond.instanceMethod yy_M_write ∈ TB_ := TB_3 155 (by decide +kernel) rfl
theorem tw_3_156 : Cond.selects cn_M yy_M_write yy_M_write ∈ TB_ := TB_3 156 (by decide +kernel) rfl
theorem tw_3_157 : Cond.code yy_M_write prog_9_method_28_code 3 (Option.some FieldType.int) ∈ TB_ := TB_3 157 rfl rfl
theorem tw_3_158 : Cond.methodLink cn_M 110 yy_M_addText ∈ TB_ := TB_3 158 (by decide +kernel) rfl
theorem tw_3_16 : Cond.selects cn_V yy_V_cut yy_V_cut ∈ TB_ := TB_3 16 (by decide +kernel) rfl
theorem tw_3_160 : Cond.instanceMethod yy_M_addText ∈ TB_ := TB_3 160 (by decide +kernel) rfl
theorem tw_3_161 : Cond.code yy_M_addText prog_9_method_22_code 3 (Option.none : Option FieldType) ∈ TB_ := TB_3 161 rfl rfl
theorem tw_3_162 : Cond.methodLink cn_M 98 yy_M_letterOf ∈ TB_ := TB_3 162 (by decide +kernel) rfl
theorem tw_3_163 : Cond.static yy_M_letterOf ∈ TB_ := TB_3 163 (by decide +kernel) rfl
theorem tw_3_164 : Cond.code yy_M_letterOf prog_9_method_3_code 4 (Option.some FieldType.char) ∈ TB_ := TB_3 164 rfl rfl
theorem tw_3_165 : Cond.methodLink cn_M 63 yy_M_part ∈ TB_ := TB_3 165 (by decide +kernel) rfl
theorem tw_3_166 : Cond.static yy_M_part ∈ TB_ := TB_3 166 (by decide +kernel) rfl
theorem tw_3_167 : Cond.code yy_M_part prog_9_method_2_code 2 (Option.some FieldType.long) ∈ TB_ := TB_3 167 rfl rfl
theorem tw_3_168 : Cond.constantLong cn_M 39 8318823019729404244 ∈ TB_ := TB_3 168 (by decide +kernel) rfl
theorem tw_3_169 : Cond.constantLong cn_M 41 57385602150249 ∈ TB_ := TB_3 169 (by decide +kernel) rfl
theorem tw_3_17 : Cond.code yy_V_cut prog_1_method_17_code 2 (Option.some FieldType.boolean) ∈ TB_ := TB_3 17 rfl rfl
theorem tw_3_170 : Cond.constantLong cn_M 43 2124655 ∈ TB_ := TB_3 170 (by decide +kernel) rfl
theorem tw_3_171 : Cond.constantLong cn_M 45 9125324284784494 ∈ TB_ := TB_3 171 (by decide +kernel) rfl
theorem tw_3_172 : Cond.constantLong cn_M 47 2108704 ∈ TB_ := TB_3 172 (by decide +kernel) rfl
theorem tw_3_173 : Cond.constantLong cn_M 49 22598586002842400 ∈ TB_ := TB_3 173 (by decide +kernel) rfl
theorem tw_3_174 : Cond.constantLong cn_M 51 22311630664639264 ∈ TB_ := TB_3 174 (by decide +kernel) rfl
theorem tw_3_175 : Cond.constantLong cn_M 53 8315180253233487907 ∈ TB_ := TB_3 175 (by decide +kernel) rfl
theorem tw_3_176 : Cond.constantLong cn_M 55 2112116 ∈ TB_ := TB_3 176 (by decide +kernel) rfl
theorem tw_3_177 : Cond.constantLong cn_M 57 3026481 ∈ TB_ := TB_3 177 (by decide +kernel) rfl
theorem tw_3_178 : Cond.constantLong cn_M 59 8391735665723269442 ∈ TB_ := TB_3 178 (by decide +kernel) rfl
theorem tw_3_179 : Cond.constantLong cn_M 61 33 ∈ TB_ := TB_3 179 (by decide +kernel) rfl
theorem tw_3_18 : Cond.methodLink cn_V 110 yy_P_shorten ∈ TB_ := TB_3 18 (by decide +kernel) rfl
theorem tw_3_180 : Cond.constantLong cn_M 67 255 ∈ TB_ := TB_3 180 (by decide +kernel) rfl
theorem tw_3_181 : Cond.methodLink cn_M 102 yy_M_add ∈ TB_ := TB_3 181 (by decide +kernel) rfl
theorem tw_3_183 : Cond.instanceMethod yy_M_add ∈ TB_ := TB_3 183 (by decide +kernel) rfl
theorem tw_3_184 : Cond.code yy_M_add prog_9_method_21_code 2 (Option.none : Option FieldType) ∈ TB_ := TB_3 184 rfl rfl
theorem tw_3_185 : Cond.methodLink cn_M 129 yy_M_finish ∈ TB_ := TB_3 185 (by decide +kernel) rfl
theorem tw_3_187 : Cond.instanceMethod yy_M_finish ∈ TB_ := TB_3 187 (by decide +kernel) rfl
theorem tw_3_188 : Cond.code yy_M_finish prog_9_method_27_code 2 (Option.none : Option FieldType) ∈ TB_ := TB_3 188 rfl rfl
theorem tw_3_189 : Cond.methodLink cn_M 106 yy_M_addSpaces ∈ TB_ := TB_3 189 (by decide +kernel) rfl
theorem tw_3_19 : Cond.methodLink cn_L 84 yy_V_attempts ∈ TB_ := TB_3 19 (by decide +kernel) rfl
theorem tw_3_191 : Cond.instanceMethod yy_M_addSpaces ∈ TB_ := TB_3 191 (by decide +kernel) rfl
theorem tw_3_192 : Cond.code yy_M_addSpaces prog_9_method_23_code 3 (Option.none : Option FieldType) ∈ TB_ := TB_3 192 rfl rfl
theorem tw_3_193 : Cond.methodLink cn_M 122 yy_M_rowSize ∈ TB_ := TB_3 193 (by decide +kernel) rfl
theorem tw_3_195 : Cond.instanceMethod yy_M_rowSize ∈ TB_ := TB_3 195 (by decide +kernel) rfl
theorem tw_3_196 : Cond.code yy_M_rowSize prog_9_method_20_code 5 (Option.some FieldType.int) ∈ TB_ := TB_3 196 rfl rfl
theorem tw_3_197 : Cond.methodLink cn_M 116 yy_M_addNumber ∈ TB_ := TB_3 197 (by decide +kernel) rfl
theorem tw_3_199 : Cond.instanceMethod yy_M_addNumber ∈ TB_ := TB_3 199 (by decide +kernel) rfl
theorem tw_3_2 : Cond.methodLink cn_V 100 yy_V_isOfPages ∈ TB_ := TB_3 2 (by decide +kernel) rfl
theorem tw_3_20 : Cond.instanceMethod yy_V_attempts ∈ TB_ := TB_3 20 (by decide +kernel) rfl
theorem tw_3_200 : Cond.code yy_M_addNumber prog_9_method_24_code 2 (Option.none : Option FieldType) ∈ TB_ := TB_3 200 rfl rfl
theorem tw_3_201 : Cond.methodLink cn_M 125 yy_M_addVerdict ∈ TB_ := TB_3 201 (by decide +kernel) rfl
theorem tw_3_203 : Cond.instanceMethod yy_M_addVerdict ∈ TB_ := TB_3 203 (by decide +kernel) rfl
theorem tw_3_204 : Cond.code yy_M_addVerdict prog_9_method_26_code 3 (Option.none : Option FieldType) ∈ TB_ := TB_3 204 rfl rfl
theorem tw_3_205 : Cond.methodLink cn_M 113 yy_M_placeOf ∈ TB_ := TB_3 205 (by decide +kernel) rfl
theorem tw_3_207 : Cond.instanceMethod yy_M_placeOf ∈ TB_ := TB_3 207 (by decide +kernel) rfl
theorem tw_3_208 : Cond.code yy_M_placeOf prog_9_method_19_code 5 (Option.some FieldType.int) ∈ TB_ := TB_3 208 rfl rfl
theorem tw_3_209 : Cond.methodLink cn_M 119 yy_M_addName ∈ TB_ := TB_3 209 (by decide +kernel) rfl
theorem tw_3_21 : Cond.selects cn_V yy_V_attempts yy_V_attempts ∈ TB_ := TB_3 21 (by decide +kernel) rfl
theorem tw_3_211 : Cond.instanceMethod yy_M_addName ∈ TB_ := TB_3 211 (by decide +kernel) rfl
theorem tw_3_212 : Cond.code yy_M_addName prog_9_method_25_code 4 (Option.none : Option FieldType) ∈ TB_ := TB_3 212 rfl rfl
theorem tw_3_213 : Cond.methodLink cn_L 61 yy_M_read ∈ TB_ := TB_3 213 (by decide +kernel) rfl
theorem tw_3_214 : Cond.instanceMethod yy_M_read ∈ TB_ := TB_3 214 (by decide +kernel) rfl
theorem tw_3_215 : Cond.selects cn_M yy_M_read yy_M_read ∈ TB_ := TB_3 215 (by decide +kernel) rfl
theorem tw_3_216 : Cond.code yy_M_read prog_9_method_44_code 4 (Option.some FieldType.int) ∈ TB_ := TB_3 216 rfl rfl
theorem tw_3_217 : Cond.methodLink cn_M 150 yy_M_eat ∈ TB_ := TB_3 217 (by decide +kernel) rfl
theorem tw_3_219 : Cond.instanceMethod yy_M_eat ∈ TB_ := TB_3 219 (by decide +kernel) rfl
theorem tw_3_22 : Cond.code yy_V_attempts prog_1_method_18_code 4 (Option.some FieldType.int) ∈ TB_ := TB_3 22 rfl rfl
theorem tw_3_220 : Cond.code yy_M_eat prog_9_method_29_code 4 (Option.some FieldType.boolean) ∈ TB_ := TB_3 220 rfl rfl
theorem tw_3_221 : Cond.methodLink cn_M 192 yy_M_line ∈ TB_ := TB_3 221 (by decide +kernel) rfl
theorem tw_3_223 : Cond.instanceMethod yy_M_line ∈ TB_ := TB_3 223 (by decide +kernel) rfl
theorem tw_3_224 : Cond.code yy_M_line prog_9_method_42_code 3 (Option.some FieldType.boolean) ∈ TB_ := TB_3 224 rfl rfl
theorem tw_3_225 : Cond.methodLink cn_M 176 yy_M_closing ∈ TB_ := TB_3 225 (by decide +kernel) rfl
theorem tw_3_227 : Cond.instanceMethod yy_M_closing ∈ TB_ := TB_3 227 (by decide +kernel) rfl
theorem tw_3_228 : Cond.code yy_M_closing prog_9_method_36_code 3 (Option.some FieldType.boolean) ∈ TB_ := TB_3 228 rfl rfl
theorem tw_3_229 : Cond.methodLink cn_M 147 yy_M_eatSpaces ∈ TB_ := TB_3 229 (by decide +kernel) rfl
theorem tw_3_23 : Cond.methodLink cn_V 113 yy_R_isTest ∈ TB_ := TB_3 23 (by decide +kernel) rfl
theorem tw_3_231 : Cond.instanceMethod yy_M_eatSpaces ∈ TB_ := TB_3 231 (by decide +kernel) rfl
theorem tw_3_232 : Cond.code yy_M_eatSpaces prog_9_method_30_code 3 (Option.some FieldType.boolean) ∈ TB_ := TB_3 232 rfl rfl
theorem tw_3_233 : Cond.methodLink cn_M 153 yy_M_eatNumber ∈ TB_ := TB_3 233 (by decide +kernel) rfl
theorem tw_3_235 : Cond.instanceMethod yy_M_eatNumber ∈ TB_ := TB_3 235 (by decide +kernel) rfl
theorem tw_3_236 : Cond.code yy_M_eatNumber prog_9_method_32_code 2 (Option.some FieldType.boolean) ∈ TB_ := TB_3 236 rfl rfl
theorem tw_3_237 : Cond.methodLink cn_M 138 yy_M_eatDigit ∈ TB_ := TB_3 237 (by decide +kernel) rfl
theorem tw_3_239 : Cond.instanceMethod yy_M_eatDigit ∈ TB_ := TB_3 239 (by decide +kernel) rfl
theorem tw_3_24 : Cond.methodLink cn_V 116 yy_R_areAttempts ∈ TB_ := TB_3 24 (by decide +kernel) rfl
theorem tw_3_25 : Cond.instanceMethod yy_R_areAttempts ∈ TB_ := TB_3 25 (by decide +kernel) rfl
theorem tw_3_26 : Cond.selects cn_R yy_R_areAttempts yy_R_areAttempts ∈ TB_ := TB_3 26 (by decide +kernel) rfl
theorem tw_3_27 : Cond.code yy_R_areAttempts prog_7_method_17_code 6 (Option.some FieldType.boolean) ∈ TB_ := TB_3 27 rfl rfl
theorem tw_3_28 : Cond.methodLink cn_R 48 yy_R_isTest ∈ TB_ := TB_3 28 (by decide +kernel) rfl
theorem tw_3_29 : Cond.methodLink cn_R 51 yy_R_nameOf ∈ TB_ := TB_3 29 (by decide +kernel) rfl
theorem tw_3_3 : Cond.static yy_V_isOfPages ∈ TB_ := TB_3 3 (by decide +kernel) rfl
theorem tw_3_30 : Cond.methodLink cn_R 55 yy_R_suiteOf ∈ TB_ := TB_3 30 (by decide +kernel) rfl
theorem tw_3_31 : Cond.methodLink cn_L 88 yy_V_flaky ∈ TB_ := TB_3 31 (by decide +kernel) rfl
theorem tw_3_32 : Cond.instanceMethod yy_V_flaky ∈ TB_ := TB_3 32 (by decide +kernel) rfl
theorem tw_3_33 : Cond.selects cn_V yy_V_flaky yy_V_flaky ∈ TB_ := TB_3 33 (by decide +kernel) rfl
theorem tw_3_34 : Cond.code yy_V_flaky prog_1_method_19_code 5 (Option.some FieldType.boolean) ∈ TB_ := TB_3 34 rfl rfl
theorem tw_3_35 : Cond.classLink cn_L 10 cn_M ∈ TB_ := TB_3 35 (by decide +kernel) rfl
theorem tw_3_36 : Cond.instantiable cn_M 17 ∈ TB_ := TB_3 36 (by decide +kernel) rfl
theorem tw_3_37 : Cond.methodLink cn_L 12 yy_M_init ∈ TB_ := TB_3 37 (by decide +kernel) rfl
theorem tw_3_38 : Cond.instanceMethod yy_M_init ∈ TB_ := TB_3 38 (by decide +kernel) rfl
theorem tw_3_39 : Cond.code yy_M_init prog_9_method_1_code 1 (Option.none : Option FieldType) ∈ TB_ := TB_3 39 rfl rfl
theorem tw_3_4 : Cond.code yy_V_isOfPages prog_1_method_22_code 1 (Option.some FieldType.boolean) ∈ TB_ := TB_3 4 rfl rfl
theorem tw_3_40 : Cond.methodLink cn_M 1 objectInit ∈ TB_ := TB_3 40 (by decide +kernel) rfl
theorem tw_3_41 : Cond.fieldLink cn_M 69 cn_M "begun" "I" ∈ TB_ := TB_3 41 (by decide +kernel) rfl
theorem tw_3_42 : Cond.fieldLink cn_M 7 cn_M "name" "[C" ∈ TB_ := TB_3 42 (by decide +kernel) rfl
theorem tw_3_43 : Cond.fieldLink cn_M 13 cn_M "count" "[I" ∈ TB_ := TB_3 43 (by decide +kernel) rfl
theorem tw_3_44 : Cond.fieldLink cn_M 17 cn_M "parent" "[I" ∈ TB_ := TB_3 44 (by decide +kernel) rfl
theorem tw_3_45 : Cond.fieldLink cn_M 20 cn_M "result" "[I" ∈ TB_ := TB_3 45 (by decide +kernel) rfl
theorem tw_3_46 : Cond.fieldLink cn_M 23 cn_M "closed" "[Z" ∈ TB_ := TB_3 46 (by decide +kernel) rfl
theorem tw_3_47 : Cond.fieldLink cn_M 27 cn_M "size" "[I" ∈ TB_ := TB_3 47 (by decide +kernel) rfl
theorem tw_3_48 : Cond.fieldLink cn_M 30 cn_M "letters" "[C" ∈ TB_ := TB_3 48 (by decide +kernel) rfl
theorem tw_3_49 : Cond.fieldLink cn_M 95 cn_M "length" "I" ∈ TB_ := TB_3 49 (by decide +kernel) rfl
theorem tw_3_5 : Cond.methodLink cn_V 103 yy_P_add ∈ TB_ := TB_3 5 (by decide +kernel) rfl
theorem tw_3_50 : Cond.fieldLink cn_M 33 cn_M "page" "[C" ∈ TB_ := TB_3 50 (by decide +kernel) rfl
theorem tw_3_51 : Cond.fieldLink cn_M 132 cn_M "at" "I" ∈ TB_ := TB_3 51 (by decide +kernel) rfl
theorem tw_3_52 : Cond.fieldLink cn_M 135 cn_M "end" "I" ∈ TB_ := TB_3 52 (by decide +kernel) rfl
theorem tw_3_53 : Cond.fieldLink cn_M 144 cn_M "suite" "I" ∈ TB_ := TB_3 53 (by decide +kernel) rfl
theorem tw_3_54 : Cond.fieldLink cn_M 162 cn_M "planned" "Z" ∈ TB_ := TB_3 54 (by decide +kernel) rfl
theorem tw_3_55 : Cond.fieldLink cn_M 166 cn_M "over" "Z" ∈ TB_ := TB_3 55 (by decide +kernel) rfl
theorem tw_3_56 : Cond.fieldLink cn_M 141 cn_M "taken" "I" ∈ TB_ := TB_3 56 (by decide +kernel) rfl
theorem tw_3_57 : Cond.fieldLink cn_M 36 cn_M "read" "[C" ∈ TB_ := TB_3 57 (by decide +kernel) rfl
theorem tw_3_58 : Cond.lays cn_M cn_M "begun" "I" ∈ TB_ := TB_3 58 (by decide +kernel) rfl
theorem tw_3_6 : Cond.methodLink cn_L 74 yy_V_poke ∈ TB_ := TB_3 6 (by decide +kernel) rfl
theorem tw_3_60 : Cond.laysFinal cn_M cn_M "name" "[C" ∈ TB_ := TB_3 60 (by decide +kernel) rfl
theorem tw_3_62 : Cond.laysFinal cn_M cn_M "count" "[I" ∈ TB_ := TB_3 62 (by decide +kernel) rfl
theorem tw_3_64 : Cond.laysFinal cn_M cn_M "parent" "[I" ∈ TB_ := TB_3 64 (by decide +kernel) rfl
theorem tw_3_66 : Cond.laysFinal cn_M cn_M "result" "[I" ∈ TB_ := TB_3 66 (by decide +kernel) rfl
theorem tw_3_68 : Cond.laysFinal cn_M cn_M "closed" "[Z" ∈ TB_ := TB_3 68 (by decide +kernel) rfl
theorem tw_3_7 : Cond.instanceMethod yy_V_poke ∈ TB_ := TB_3 7 (by decide +kernel) rfl
theorem tw_3_70 : Cond.laysFinal cn_M cn_M "size" "[I" ∈ TB_ := TB_3 70 (by decide +kernel) rfl
theorem tw_3_72 : Cond.laysFinal cn_M cn_M "letters" "[C" ∈ TB_ := TB_3 72 (by decide +kernel) rfl
theorem tw_3_74 : Cond.lays cn_M cn_M "length" "I" ∈ TB_ := TB_3 74 (by decide +kernel) rfl
theorem tw_3_76 : Cond.laysFinal cn_M cn_M "page" "[C" ∈ TB_ := TB_3 76 (by decide +kernel) rfl
theorem tw_3_78 : Cond.lays cn_M cn_M "at" "I" ∈ TB_ := TB_3 78 (by decide +kernel) rfl
theorem tw_3_8 : Cond.selects cn_V yy_V_poke yy_V_poke ∈ TB_ := TB_3 8 (by decide +kernel) rfl
theorem tw_3_80 : Cond.lays cn_M cn_M "end" "I" ∈ TB_ := TB_3 80 (by decide +kernel) rfl
theorem tw_3_82 : Cond.lays cn_M cn_M "suite" "I" ∈ TB_ := TB_3 82 (by decide +kernel) rfl
theorem tw_3_84 : Cond.lays cn_M cn_M "planned" "Z" ∈ TB_ := TB_3 84 (by decide +kernel) rfl
theorem tw_3_86 : Cond.lays cn_M cn_M "over" "Z" ∈ TB_ := TB_3 86 (by decide +kernel) rfl
theorem tw_3_88 : Cond.lays cn_M cn_M "taken" "I" ∈ TB_ := TB_3 88 (by decide +kernel) rfl
theorem tw_3_9 : Cond.code yy_V_poke prog_1_method_16_code 3 (Option.some FieldType.boolean) ∈ TB_ := TB_3 9 rfl rfl
theorem tw_3_90 : Cond.laysFinal cn_M cn_M "read" "[C" ∈ TB_ := TB_3 90 (by decide +kernel) rfl
theorem tw_3_93 : Cond.arrayClass FieldType.boolean ∈ TB_ := TB_3 93 (by decide +kernel) rfl
theorem tw_3_94 : Cond.methodLink cn_L 17 yy_M_letter ∈ TB_ := TB_3 94 (by decide +kernel) rfl
theorem tw_3_95 : Cond.instanceMethod yy_M_letter ∈ TB_ := TB_3 95 (by decide +kernel) rfl
theorem tw_3_96 : Cond.selects cn_M yy_M_letter yy_M_letter ∈ TB_ := TB_3 96 (by decide +kernel) rfl
theorem tw_3_97 : Cond.code yy_M_letter prog_9_method_4_code 2 (Option.some FieldType.boolean) ∈ TB_ := TB_3 97 rfl rfl
theorem tw_3_98 : Cond.methodLink cn_L 22 yy_M_open ∈ TB_ := TB_3 98 (by decide +kernel) rfl
theorem tw_3_99 : Cond.instanceMethod yy_M_open ∈ TB_ := TB_3 99 (by decide +kernel) rfl
theorem tw_4_0 : Cond.code yy_M_eatDigit prog_9_method_31_code 2 (Option.some FieldType.boolean) ∈ TB_ := TB_4 0 rfl rfl
theorem tw_4_1 : Cond.methodLink cn_M 156 yy_M_eatName ∈ TB_ := TB_4 1 (by decide +kernel) rfl
theorem tw_4_11 : Cond.instanceMethod yy_M_plan ∈ TB_ := TB_4 11 (by decide +kernel) rfl
theorem tw_4_12 : Cond.code yy_M_plan prog_9_method_37_code 3 (Option.some FieldType.boolean) ∈ TB_ := TB_4 12 rfl rfl
theorem tw_4_13 : Cond.methodLink cn_M 183 yy_M_bail ∈ TB_ := TB_4 13 (by decide +kernel) rfl
theorem tw_4_15 : Cond.instanceMethod yy_M_bail ∈ TB_ := TB_4 15 (by decide +kernel) rfl
theorem tw_4_16 : Cond.code yy_M_bail prog_9_method_38_code 2 (Option.some FieldType.boolean) ∈ TB_ := TB_4 16 rfl rfl
theorem tw_4_17 : Cond.methodLink cn_M 186 yy_M_subtest ∈ TB_ := TB_4 17 (by decide +kernel) rfl
theorem tw_4_19 : Cond.instanceMethod yy_M_subtest ∈ TB_ := TB_4 19 (by decide +kernel) rfl
theorem tw_4_20 : Cond.code yy_M_subtest prog_9_method_39_code 3 (Option.some FieldType.boolean) ∈ TB_ := TB_4 20 rfl rfl
theorem tw_4_21 : Cond.methodLink cn_M 169 yy_M_accept ∈ TB_ := TB_4 21 (by decide +kernel) rfl
theorem tw_4_23 : Cond.instanceMethod yy_M_accept ∈ TB_ := TB_4 23 (by decide +kernel) rfl
theorem tw_4_24 : Cond.code yy_M_accept prog_9_method_34_code 4 (Option.some FieldType.boolean) ∈ TB_ := TB_4 24 rfl rfl
theorem tw_4_25 : Cond.methodLink cn_M 189 yy_M_testLine ∈ TB_ := TB_4 25 (by decide +kernel) rfl
theorem tw_4_27 : Cond.instanceMethod yy_M_testLine ∈ TB_ := TB_4 27 (by decide +kernel) rfl
theorem tw_4_28 : Cond.code yy_M_testLine prog_9_method_41_code 6 (Option.some FieldType.boolean) ∈ TB_ := TB_4 28 rfl rfl
theorem tw_4_29 : Cond.methodLink cn_M 172 yy_M_endsWith ∈ TB_ := TB_4 29 (by decide +kernel) rfl
theorem tw_4_3 : Cond.instanceMethod yy_M_eatName ∈ TB_ := TB_4 3 (by decide +kernel) rfl
theorem tw_4_31 : Cond.instanceMethod yy_M_endsWith ∈ TB_ := TB_4 31 (by decide +kernel) rfl
theorem tw_4_32 : Cond.code yy_M_endsWith prog_9_method_40_code 6 (Option.some FieldType.boolean) ∈ TB_ := TB_4 32 rfl rfl
theorem tw_4_33 : Cond.methodLink cn_M 195 yy_M_adopt ∈ TB_ := TB_4 33 (by decide +kernel) rfl
theorem tw_4_35 : Cond.instanceMethod yy_M_adopt ∈ TB_ := TB_4 35 (by decide +kernel) rfl
theorem tw_4_36 : Cond.code yy_M_adopt prog_9_method_43_code 2 (Option.none : Option FieldType) ∈ TB_ := TB_4 36 rfl rfl
theorem tw_4_37 : Cond.methodLink cn_L 65 yy_M_length ∈ TB_ := TB_4 37 (by decide +kernel) rfl
theorem tw_4_38 : Cond.instanceMethod yy_M_length ∈ TB_ := TB_4 38 (by decide +kernel) rfl
theorem tw_4_39 : Cond.selects cn_M yy_M_length yy_M_length ∈ TB_ := TB_4 39 (by decide +kernel) rfl
theorem tw_4_4 : Cond.code yy_M_eatName prog_9_method_33_code 3 (Option.some FieldType.boolean) ∈ TB_ := TB_4 4 rfl rfl
theorem tw_4_40 : Cond.code yy_M_length prog_9_method_45_code 1 (Option.some FieldType.int) ∈ TB_ := TB_4 40 rfl rfl
theorem tw_4_41 : Cond.methodLink cn_L 69 yy_M_at ∈ TB_ := TB_4 41 (by decide +kernel) rfl
theorem tw_4_42 : Cond.instanceMethod yy_M_at ∈ TB_ := TB_4 42 (by decide +kernel) rfl
theorem tw_4_43 : Cond.selects cn_M yy_M_at yy_M_at ∈ TB_ := TB_4 43 (by decide +kernel) rfl
theorem tw_4_44 : Cond.code yy_M_at prog_9_method_46_code 2 (Option.some FieldType.int) ∈ TB_ := TB_4 44 rfl rfl
theorem tw_4_45 : Cond.methodLink cn_L 73 yy_M_put ∈ TB_ := TB_4 45 (by decide +kernel) rfl
theorem tw_4_46 : Cond.instanceMethod yy_M_put ∈ TB_ := TB_4 46 (by decide +kernel) rfl
theorem tw_4_47 : Cond.selects cn_M yy_M_put yy_M_put ∈ TB_ := TB_4 47 (by decide +kernel) rfl
theorem tw_4_48 : Cond.code yy_M_put prog_9_method_48_code 2 (Option.some FieldType.boolean) ∈ TB_ := TB_4 48 rfl rfl
theorem tw_4_49 : Cond.methodLink cn_M 198 yy_M_fits ∈ TB_ := TB_4 49 (by decide +kernel) rfl
theorem tw_4_5 : Cond.methodLink cn_M 159 yy_M_isName ∈ TB_ := TB_4 5 (by decide +kernel) rfl
theorem tw_4_50 : Cond.static yy_M_fits ∈ TB_ := TB_4 50 (by decide +kernel) rfl
theorem tw_4_51 : Cond.code yy_M_fits prog_9_method_47_code 1 (Option.some FieldType.boolean) ∈ TB_ := TB_4 51 rfl rfl
theorem tw_4_52 : Cond.methodLink cn_L 78 yy_M_poke ∈ TB_ := TB_4 52 (by decide +kernel) rfl
theorem tw_4_53 : Cond.instanceMethod yy_M_poke ∈ TB_ := TB_4 53 (by decide +kernel) rfl
theorem tw_4_54 : Cond.selects cn_M yy_M_poke yy_M_poke ∈ TB_ := TB_4 54 (by decide +kernel) rfl
theorem tw_4_55 : Cond.code yy_M_poke prog_9_method_49_code 3 (Option.some FieldType.boolean) ∈ TB_ := TB_4 55 rfl rfl
theorem tw_4_56 : Cond.methodLink cn_L 83 yy_M_cut ∈ TB_ := TB_4 56 (by decide +kernel) rfl
theorem tw_4_57 : Cond.instanceMethod yy_M_cut ∈ TB_ := TB_4 57 (by decide +kernel) rfl
theorem tw_4_58 : Cond.selects cn_M yy_M_cut yy_M_cut ∈ TB_ := TB_4 58 (by decide +kernel) rfl
theorem tw_4_59 : Cond.code yy_M_cut prog_9_method_50_code 2 (Option.some FieldType.boolean) ∈ TB_ := TB_4 59 rfl rfl
theorem tw_4_60 : Cond.methodLink cn_L 87 yy_M_attempts ∈ TB_ := TB_4 60 (by decide +kernel) rfl
theorem tw_4_61 : Cond.instanceMethod yy_M_attempts ∈ TB_ := TB_4 61 (by decide +kernel) rfl
theorem tw_4_62 : Cond.selects cn_M yy_M_attempts yy_M_attempts ∈ TB_ := TB_4 62 (by decide +kernel) rfl
theorem tw_4_63 : Cond.code yy_M_attempts prog_9_method_53_code 4 (Option.some FieldType.int) ∈ TB_ := TB_4 63 rfl rfl
theorem tw_4_64 : Cond.methodLink cn_M 205 yy_M_alike ∈ TB_ := TB_4 64 (by decide +kernel) rfl
theorem tw_4_66 : Cond.instanceMethod yy_M_alike ∈ TB_ := TB_4 66 (by decide +kernel) rfl
theorem tw_4_67 : Cond.code yy_M_alike prog_9_method_52_code 6 (Option.some FieldType.boolean) ∈ TB_ := TB_4 67 rfl rfl
theorem tw_4_68 : Cond.methodLink cn_M 202 yy_M_sameName ∈ TB_ := TB_4 68 (by decide +kernel) rfl
theorem tw_4_7 : Cond.instanceMethod yy_M_isName ∈ TB_ := TB_4 7 (by decide +kernel) rfl
theorem tw_4_70 : Cond.instanceMethod yy_M_sameName ∈ TB_ := TB_4 70 (by decide +kernel) rfl
theorem tw_4_71 : Cond.code yy_M_sameName prog_9_method_51_code 5 (Option.some FieldType.boolean) ∈ TB_ := TB_4 71 rfl rfl
theorem tw_4_72 : Cond.methodLink cn_L 91 yy_M_flaky ∈ TB_ := TB_4 72 (by decide +kernel) rfl
theorem tw_4_73 : Cond.instanceMethod yy_M_flaky ∈ TB_ := TB_4 73 (by decide +kernel) rfl
theorem tw_4_74 : Cond.selects cn_M yy_M_flaky yy_M_flaky ∈ TB_ := TB_4 74 (by decide +kernel) rfl
theorem tw_4_75 : Cond.code yy_M_flaky prog_9_method_54_code 6 (Option.some FieldType.boolean) ∈ TB_ := TB_4 75 rfl rfl
theorem tw_4_76 : Cond.fieldLink "java/lang/String" 9 "java/lang/String" "value" "[B" ∈ TB_ := TB_4 76 (by decide +kernel) rfl
theorem tw_4_77 : Cond.fieldLink "java/lang/String" 15 "java/lang/String" "coder" "B" ∈ TB_ := TB_4 77 (by decide +kernel) rfl
theorem tw_4_8 : Cond.code yy_M_isName prog_9_method_35_code 4 (Option.some FieldType.boolean) ∈ TB_ := TB_4 8 rfl rfl
theorem tw_4_9 : Cond.methodLink cn_M 180 yy_M_plan ∈ TB_ := TB_4 9 (by decide +kernel) rfl
theorem tw_p_0 : Cond.selects cn_V yy_V_addWithBegunName yy_V_addWithBegunName ∈ TB_ := TB_p (List.mem_of_getElem? (i := 0) (by decide +kernel)) rfl
theorem tw_p_1 : Cond.selects cn_R yy_R_hasFailedBehind yy_R_hasFailedBehind ∈ TB_ := TB_p (List.mem_of_getElem? (i := 1) (by decide +kernel)) rfl
theorem tw_p_10 : Cond.selects cn_C yy_C_skipDigit yy_C_skipDigit ∈ TB_ := TB_p (List.mem_of_getElem? (i := 10) (by decide +kernel)) rfl
theorem tw_p_11 : Cond.selects cn_C yy_C_takeLetter yy_C_takeLetter ∈ TB_ := TB_p (List.mem_of_getElem? (i := 11) (by decide +kernel)) rfl
theorem tw_p_12 : Cond.selects cn_E yy_E_takeTest yy_E_takeTest ∈ TB_ := TB_p (List.mem_of_getElem? (i := 12) (by decide +kernel)) rfl
theorem tw_p_13 : Cond.selects cn_E yy_E_takeSuiteEnd yy_E_takeSuiteEnd ∈ TB_ := TB_p (List.mem_of_getElem? (i := 13) (by decide +kernel)) rfl
theorem tw_p_14 : Cond.selects cn_M yy_M_innermost yy_M_innermost ∈ TB_ := TB_p (List.mem_of_getElem? (i := 14) (by decide +kernel)) rfl
theorem tw_p_15 : Cond.selects cn_M yy_M_depthOf yy_M_depthOf ∈ TB_ := TB_p (List.mem_of_getElem? (i := 15) (by decide +kernel)) rfl
theorem tw_p_16 : Cond.selects cn_M yy_M_addNamed yy_M_addNamed ∈ TB_ := TB_p (List.mem_of_getElem? (i := 16) (by decide +kernel)) rfl
theorem tw_p_17 : Cond.selects cn_M yy_M_grow yy_M_grow ∈ TB_ := TB_p (List.mem_of_getElem? (i := 17) (by decide +kernel)) rfl
theorem tw_p_18 : Cond.selects cn_M yy_M_node yy_M_node ∈ TB_ := TB_p (List.mem_of_getElem? (i := 18) (by decide +kernel)) rfl
theorem tw_p_19 : Cond.selects cn_M yy_M_good yy_M_good ∈ TB_ := TB_p (List.mem_of_getElem? (i := 19) (by decide +kernel)) rfl
theorem tw_p_2 : Cond.selects cn_W yy_W_endSuites yy_W_endSuites ∈ TB_ := TB_p (List.mem_of_getElem? (i := 2) (by decide +kernel)) rfl
theorem tw_p_20 : Cond.selects cn_M yy_M_addText yy_M_addText ∈ TB_ := TB_p (List.mem_of_getElem? (i := 20) (by decide +kernel)) rfl
theorem tw_p_21 : Cond.selects cn_M yy_M_add yy_M_add ∈ TB_ := TB_p (List.mem_of_getElem? (i := 21) (by decide +kernel)) rfl
theorem tw_p_22 : Cond.selects cn_M yy_M_finish yy_M_finish ∈ TB_ := TB_p (List.mem_of_getElem? (i := 22) (by decide +kernel)) rfl
theorem tw_p_23 : Cond.selects cn_M yy_M_addSpaces yy_M_addSpaces ∈ TB_ := TB_p (List.mem_of_getElem? (i := 23) (by decide +kernel)) rfl
theorem tw_p_24 : Cond.selects cn_M yy_M_rowSize yy_M_rowSize ∈ TB_ := TB_p (List.mem_of_getElem? (i := 24) (by decide +kernel)) rfl
theorem tw_p_25 : Cond.selects cn_M yy_M_addNumber yy_M_addNumber ∈ TB_ := TB_p (List.mem_of_getElem? (i := 25) (by decide +kernel)) rfl
theorem tw_p_26 : Cond.selects cn_M yy_M_addVerdict yy_M_addVerdict ∈ TB_ := TB_p (List.mem_of_getElem? (i := 26) (by decide +kernel)) rfl
theorem tw_p_27 : Cond.selects cn_M yy_M_placeOf yy_M_placeOf ∈ TB_ := TB_p (List.mem_of_getElem? (i := 27) (by decide +kernel)) rfl
theorem tw_p_28 : Cond.selects cn_M yy_M_addName yy_M_addName ∈ TB_ := TB_p (List.mem_of_getElem? (i := 28) (by decide +kernel)) rfl
theorem tw_p_29 : Cond.selects cn_M yy_M_eat yy_M_eat ∈ TB_ := TB_p (List.mem_of_getElem? (i := 29) (by decide +kernel)) rfl
theorem tw_p_3 : Cond.selects cn_W yy_W_writePlan yy_W_writePlan ∈ TB_ := TB_p (List.mem_of_getElem? (i := 3) (by decide +kernel)) rfl
theorem tw_p_30 : Cond.selects cn_M yy_M_line yy_M_line ∈ TB_ := TB_p (List.mem_of_getElem? (i := 30) (by decide +kernel)) rfl
theorem tw_p_31 : Cond.selects cn_M yy_M_closing yy_M_closing ∈ TB_ := TB_p (List.mem_of_getElem? (i := 31) (by decide +kernel)) rfl
theorem tw_p_32 : Cond.selects cn_M yy_M_eatSpaces yy_M_eatSpaces ∈ TB_ := TB_p (List.mem_of_getElem? (i := 32) (by decide +kernel)) rfl
theorem tw_p_33 : Cond.selects cn_M yy_M_eatNumber yy_M_eatNumber ∈ TB_ := TB_p (List.mem_of_getElem? (i := 33) (by decide +kernel)) rfl
theorem tw_p_34 : Cond.selects cn_M yy_M_eatDigit yy_M_eatDigit ∈ TB_ := TB_p (List.mem_of_getElem? (i := 34) (by decide +kernel)) rfl
theorem tw_p_35 : Cond.selects cn_M yy_M_eatName yy_M_eatName ∈ TB_ := TB_p (List.mem_of_getElem? (i := 35) (by decide +kernel)) rfl
theorem tw_p_36 : Cond.selects cn_M yy_M_isName yy_M_isName ∈ TB_ := TB_p (List.mem_of_getElem? (i := 36) (by decide +kernel)) rfl
theorem tw_p_37 : Cond.selects cn_M yy_M_plan yy_M_plan ∈ TB_ := TB_p (List.mem_of_getElem? (i := 37) (by decide +kernel)) rfl
theorem tw_p_38 : Cond.selects cn_M yy_M_bail yy_M_bail ∈ TB_ := TB_p (List.mem_of_getElem? (i := 38) (by decide +kernel)) rfl
theorem tw_p_39 : Cond.selects cn_M yy_M_subtest yy_M_subtest ∈ TB_ := TB_p (List.mem_of_getElem? (i := 39) (by decide +kernel)) rfl
theorem tw_p_4 : Cond.selects cn_R yy_R_countInRow yy_R_countInRow ∈ TB_ := TB_p (List.mem_of_getElem? (i := 4) (by decide +kernel)) rfl
theorem tw_p_40 : Cond.selects cn_M yy_M_accept yy_M_accept ∈ TB_ := TB_p (List.mem_of_getElem? (i := 40) (by decide +kernel)) rfl
theorem tw_p_41 : Cond.selects cn_M yy_M_testLine yy_M_testLine ∈ TB_ := TB_p (List.mem_of_getElem? (i := 41) (by decide +kernel)) rfl
theorem tw_p_42 : Cond.selects cn_M yy_M_endsWith yy_M_endsWith ∈ TB_ := TB_p (List.mem_of_getElem? (i := 42) (by decide +kernel)) rfl
theorem tw_p_43 : Cond.selects cn_M yy_M_adopt yy_M_adopt ∈ TB_ := TB_p (List.mem_of_getElem? (i := 43) (by decide +kernel)) rfl
theorem tw_p_44 : Cond.selects cn_M yy_M_alike yy_M_alike ∈ TB_ := TB_p (List.mem_of_getElem? (i := 44) (by decide +kernel)) rfl
theorem tw_p_45 : Cond.selects cn_M yy_M_sameName yy_M_sameName ∈ TB_ := TB_p (List.mem_of_getElem? (i := 45) (by decide +kernel)) rfl
theorem tw_p_5 : Cond.selects cn_W yy_W_writeVerdict yy_W_writeVerdict ∈ TB_ := TB_p (List.mem_of_getElem? (i := 5) (by decide +kernel)) rfl
theorem tw_p_6 : Cond.selects cn_W yy_W_writeSubtest yy_W_writeSubtest ∈ TB_ := TB_p (List.mem_of_getElem? (i := 6) (by decide +kernel)) rfl
theorem tw_p_7 : Cond.selects cn_W yy_W_writeEnd yy_W_writeEnd ∈ TB_ := TB_p (List.mem_of_getElem? (i := 7) (by decide +kernel)) rfl
theorem tw_p_8 : Cond.selects cn_E yy_E_takeLine yy_E_takeLine ∈ TB_ := TB_p (List.mem_of_getElem? (i := 8) (by decide +kernel)) rfl
theorem tw_p_9 : Cond.selects cn_E yy_E_takeRowLine yy_E_takeRowLine ∈ TB_ := TB_p (List.mem_of_getElem? (i := 9) (by decide +kernel)) rfl
theorem in_R : ∀ w ∈ u_ws cn_R tt_R 7, w ∈ TB_ := by
  intro w h
  obtain ⟨k, hk, rfl⟩ := List.mem_map.mp h
  have hk := List.mem_range.mp hk
  rcases (show k = 0 ∨ k = 1 ∨ k = 2 ∨ k = 3 ∨ k = 4 ∨ k = 5 ∨ k = 6 by omega) with rfl | rfl | rfl | rfl | rfl | rfl | rfl
  · exact tw_1_48
  · exact tw_1_50
  · exact tw_1_52
  · exact tw_1_54
  · exact tw_1_56
  · exact tw_1_58
  · exact tw_1_60
theorem in_P : ∀ w ∈ u_ws cn_P tt_P 2, w ∈ TB_ := by
  intro w h
  obtain ⟨k, hk, rfl⟩ := List.mem_map.mp h
  have hk := List.mem_range.mp hk
  rcases (show k = 0 ∨ k = 1 by omega) with rfl | rfl
  · exact tw_1_29
  · exact tw_1_31
theorem in_W : ∀ w ∈ u_ws cn_W tt_W 2, w ∈ TB_ := by
  intro w h
  obtain ⟨k, hk, rfl⟩ := List.mem_map.mp h
  have hk := List.mem_range.mp hk
  rcases (show k = 0 ∨ k = 1 by omega) with rfl | rfl
  · exact tw_1_180
  · exact tw_1_182
theorem in_C : ∀ w ∈ u_ws cn_C tt_C 4, w ∈ TB_ := by
  intro w h
  obtain ⟨k, hk, rfl⟩ := List.mem_map.mp h
  have hk := List.mem_range.mp hk
  rcases (show k = 0 ∨ k = 1 ∨ k = 2 ∨ k = 3 by omega) with rfl | rfl | rfl | rfl
  · exact tw_2_123
  · exact tw_2_125
  · exact tw_2_127
  · exact tw_2_129
theorem in_E : ∀ w ∈ u_ws cn_E tt_E 3, w ∈ TB_ := by
  intro w h
  obtain ⟨k, hk, rfl⟩ := List.mem_map.mp h
  have hk := List.mem_range.mp hk
  rcases (show k = 0 ∨ k = 1 ∨ k = 2 by omega) with rfl | rfl | rfl
  · exact tw_2_139
  · exact tw_2_141
  · exact tw_2_143
theorem in_V : ∀ w ∈ u_ws cn_V tt_V 4, w ∈ TB_ := by
  intro w h
  obtain ⟨k, hk, rfl⟩ := List.mem_map.mp h
  have hk := List.mem_range.mp hk
  rcases (show k = 0 ∨ k = 1 ∨ k = 2 ∨ k = 3 by omega) with rfl | rfl | rfl | rfl
  · exact tw_1_69
  · exact tw_1_71
  · exact tw_1_73
  · exact tw_1_75
theorem in_M : ∀ w ∈ u_ws cn_M tt_M 17, w ∈ TB_ := by
  intro w h
  obtain ⟨k, hk, rfl⟩ := List.mem_map.mp h
  have hk := List.mem_range.mp hk
  rcases (show k = 0 ∨ k = 1 ∨ k = 2 ∨ k = 3 ∨ k = 4 ∨ k = 5 ∨ k = 6 ∨ k = 7 ∨ k = 8 ∨ k = 9 ∨ k = 10 ∨ k = 11 ∨ k = 12 ∨ k = 13 ∨ k = 14 ∨ k = 15 ∨ k = 16 by omega) with rfl | rfl | rfl | rfl | rfl | rfl | rfl | rfl | rfl | rfl | rfl | rfl | rfl | rfl | rfl | rfl | rfl
  · exact tw_3_58
  · exact tw_3_60
  · exact tw_3_62
  · exact tw_3_64
  · exact tw_3_66
  · exact tw_3_68
  · exact tw_3_70
  · exact tw_3_72
  · exact tw_3_74
  · exact tw_3_76
  · exact tw_3_78
  · exact tw_3_80
  · exact tw_3_82
  · exact tw_3_84
  · exact tw_3_86
  · exact tw_3_88
  · exact tw_3_90
