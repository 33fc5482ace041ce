theorem tw_0 : Cond.methodLink cn_C 3 objectInit ∈ TB_ := TB_2 118 (by decide +kernel) rfl
theorem tw_1 : Cond.instanceMethod objectInit ∈ TB_ := TB_1 19 (by decide +kernel) rfl
theorem tw_2 : Cond.code objectInit object_method_1_code 1 (Option.none : Option FieldType) ∈ TB_ := TB_1 20 rfl rfl
theorem tw_3 : Cond.fieldLink cn_C 9 cn_C "spot" "I" ∈ TB_ := TB_2 121 (by decide +kernel) rfl
theorem tw_4 : Cond.fieldLink cn_C 15 cn_C "lineEnd" "I" ∈ TB_ := TB_2 122 (by decide +kernel) rfl
theorem tw_5 : Cond.fieldLink cn_C 18 cn_C "characters" "[C" ∈ TB_ := TB_2 119 (by decide +kernel) rfl
theorem tw_6 : Cond.fieldLink cn_C 22 cn_C "size" "I" ∈ TB_ := TB_2 120 (by decide +kernel) rfl
theorem tw_7 : Cond.methodLink cn_C 25 (⟨"java/lang/String", "length", "()I"⟩ : MethodName) ∈ TB_ := TB_2 168 (by decide +kernel) rfl
theorem tw_8 : Cond.instanceMethod (⟨"java/lang/String", "length", "()I"⟩ : MethodName) ∈ TB_ := TB_1 199 (by decide +kernel) rfl
theorem tw_9 : Cond.selects "java/lang/String" (⟨"java/lang/String", "length", "()I"⟩ : MethodName) (⟨"java/lang/String", "length", "()I"⟩ : MethodName) ∈ TB_ := TB_1 200 (by decide +kernel) rfl
theorem tw_10 : Cond.initialized "java/lang/String" ∈ TB_ := TB_1 7 (by decide +kernel) rfl
theorem tw_11 : Cond.code (⟨"java/lang/String", "length", "()I"⟩ : MethodName) prog_10_method_54_code 1 (Option.some FieldType.int) ∈ TB_ := TB_1 201 rfl rfl
theorem tw_12 : Cond.methodLink cn_C 31 (⟨"java/lang/String", "charAt", "(I)C"⟩ : MethodName) ∈ TB_ := TB_2 169 (by decide +kernel) rfl
theorem tw_13 : Cond.instanceMethod (⟨"java/lang/String", "charAt", "(I)C"⟩ : MethodName) ∈ TB_ := TB_1 209 (by decide +kernel) rfl
theorem tw_14 : Cond.selects "java/lang/String" (⟨"java/lang/String", "charAt", "(I)C"⟩ : MethodName) (⟨"java/lang/String", "charAt", "(I)C"⟩ : MethodName) ∈ TB_ := TB_1 210 (by decide +kernel) rfl
theorem tw_15 : Cond.code (⟨"java/lang/String", "charAt", "(I)C"⟩ : MethodName) prog_10_method_56_code 2 (Option.some FieldType.char) ∈ TB_ := TB_1 211 rfl rfl
theorem tw_16 : Cond.methodLink cn_C 37 yy_C_skipText ∈ TB_ := TB_2 181 (by decide +kernel) rfl
theorem tw_17 : Cond.instanceMethod yy_C_skipText ∈ TB_ := TB_2 165 (by decide +kernel) rfl
theorem tw_18 : Cond.selects cn_C yy_C_skipText yy_C_skipText ∈ TB_ := TB_2 166 (by decide +kernel) rfl
theorem tw_19 : Cond.initialized cn_C ∈ TB_ := TB_1 12 (by decide +kernel) rfl
theorem tw_20 : Cond.code yy_C_skipText prog_2_method_5_code 3 (Option.some FieldType.boolean) ∈ TB_ := TB_2 167 rfl rfl
theorem tw_21 : Cond.methodLink cn_P 3 objectInit ∈ TB_ := TB_1 26 (by decide +kernel) rfl
theorem tw_22 : Cond.arrayClass FieldType.char ∈ TB_ := TB_1 34 (by decide +kernel) rfl
theorem tw_23 : Cond.fieldLink cn_P 9 cn_P "characters" "[C" ∈ TB_ := TB_1 27 (by decide +kernel) rfl
theorem tw_24 : Cond.fieldLink cn_P 15 cn_P "size" "I" ∈ TB_ := TB_1 28 (by decide +kernel) rfl
theorem tw_25 : Cond.methodLink cn_P 19 (⟨"java/lang/String", "length", "()I"⟩ : MethodName) ∈ TB_ := TB_1 198 (by decide +kernel) rfl
theorem tw_26 : Cond.methodLink cn_P 25 (⟨"java/lang/String", "charAt", "(I)C"⟩ : MethodName) ∈ TB_ := TB_1 208 (by decide +kernel) rfl
theorem tw_27 : Cond.methodLink cn_P 29 yy_P_add ∈ TB_ := TB_2 6 (by decide +kernel) rfl
theorem tw_28 : Cond.instanceMethod yy_P_add ∈ TB_ := TB_2 7 (by decide +kernel) rfl
theorem tw_29 : Cond.selects cn_P yy_P_add yy_P_add ∈ TB_ := TB_2 8 (by decide +kernel) rfl
theorem tw_30 : Cond.initialized cn_P ∈ TB_ := TB_1 2 (by decide +kernel) rfl
theorem tw_31 : Cond.code yy_P_add prog_4_method_4_code 2 (Option.some FieldType.boolean) ∈ TB_ := TB_2 9 rfl rfl
theorem tw_32 : Cond.methodLink cn_P 35 yy_P_addText ∈ TB_ := TB_2 33 (by decide +kernel) rfl
theorem tw_33 : Cond.instanceMethod yy_P_addText ∈ TB_ := TB_1 195 (by decide +kernel) rfl
theorem tw_34 : Cond.selects cn_P yy_P_addText yy_P_addText ∈ TB_ := TB_1 196 (by decide +kernel) rfl
theorem tw_35 : Cond.code yy_P_addText prog_4_method_7_code 3 (Option.none : Option FieldType) ∈ TB_ := TB_1 197 rfl rfl
theorem tw_36 : Cond.classLink cn_P 49 cn_C ∈ TB_ := TB_2 113 (by decide +kernel) rfl
theorem tw_37 : Cond.instantiable cn_C 4 ∈ TB_ := TB_2 114 (by decide +kernel) rfl
theorem tw_38 : Cond.code yy_C_init prog_2_method_1_code 3 (Option.none : Option FieldType) ∈ TB_ := TB_2 117 rfl rfl
theorem tw_39 : Cond.methodLink cn_P 51 yy_C_init ∈ TB_ := TB_2 115 (by decide +kernel) rfl
theorem tw_40 : Cond.instanceMethod yy_C_init ∈ TB_ := TB_2 116 (by decide +kernel) rfl
theorem tw_41 : Cond.methodLink cn_E 3 objectInit ∈ TB_ := TB_2 135 (by decide +kernel) rfl
theorem tw_42 : Cond.fieldLink cn_E 11 cn_E "stage" "I" ∈ TB_ := TB_2 138 (by decide +kernel) rfl
theorem tw_43 : Cond.fieldLink cn_E 15 cn_E "cursor" "LVerdictPages$LineCursor;" ∈ TB_ := TB_2 136 (by decide +kernel) rfl
theorem tw_44 : Cond.fieldLink cn_E 19 cn_E "report" "LVerdictPages$Report;" ∈ TB_ := TB_2 137 (by decide +kernel) rfl
theorem tw_45 : Cond.methodLink cn_W 3 objectInit ∈ TB_ := TB_1 177 (by decide +kernel) rfl
theorem tw_46 : Cond.fieldLink cn_W 9 cn_W "page" "LVerdictPages$Page;" ∈ TB_ := TB_1 178 (by decide +kernel) rfl
theorem tw_47 : Cond.fieldLink cn_W 15 cn_W "report" "LVerdictPages$Report;" ∈ TB_ := TB_1 179 (by decide +kernel) rfl
theorem tw_48 : Cond.methodLink cn_R 3 objectInit ∈ TB_ := TB_1 40 (by decide +kernel) rfl
theorem tw_49 : Cond.arrayClass FieldType.int ∈ TB_ := TB_1 63 (by decide +kernel) rfl
theorem tw_50 : Cond.fieldLink cn_R 9 cn_R "kinds" "[I" ∈ TB_ := TB_1 41 (by decide +kernel) rfl
theorem tw_51 : Cond.fieldLink cn_R 15 cn_R "depths" "[I" ∈ TB_ := TB_1 42 (by decide +kernel) rfl
theorem tw_52 : Cond.fieldLink cn_R 18 cn_R "suites" "[I" ∈ TB_ := TB_1 43 (by decide +kernel) rfl
theorem tw_53 : Cond.arrayClass FieldType.long ∈ TB_ := TB_1 64 (by decide +kernel) rfl
theorem tw_54 : Cond.fieldLink cn_R 21 cn_R "names" "[J" ∈ TB_ := TB_1 44 (by decide +kernel) rfl
theorem tw_55 : Cond.fieldLink cn_R 25 cn_R "count" "I" ∈ TB_ := TB_1 45 (by decide +kernel) rfl
theorem tw_56 : Cond.fieldLink cn_R 29 cn_R "lastOpen" "I" ∈ TB_ := TB_1 46 (by decide +kernel) rfl
theorem tw_57 : Cond.fieldLink cn_R 32 cn_R "openCount" "I" ∈ TB_ := TB_1 47 (by decide +kernel) rfl
theorem tw_58 : Cond.methodLink cn_R 35 yy_R_has ∈ TB_ := TB_1 114 (by decide +kernel) rfl
theorem tw_59 : Cond.instanceMethod yy_R_has ∈ TB_ := TB_1 115 (by decide +kernel) rfl
theorem tw_60 : Cond.selects cn_R yy_R_has yy_R_has ∈ TB_ := TB_1 116 (by decide +kernel) rfl
theorem tw_61 : Cond.initialized cn_R ∈ TB_ := TB_1 3 (by decide +kernel) rfl
theorem tw_62 : Cond.code yy_R_has prog_7_method_4_code 2 (Option.some FieldType.boolean) ∈ TB_ := TB_1 117 rfl rfl
theorem tw_63 : Cond.methodLink cn_R 48 yy_R_isTest ∈ TB_ := TB_3 28 (by decide +kernel) rfl
theorem tw_64 : Cond.instanceMethod yy_R_isTest ∈ TB_ := TB_2 77 (by decide +kernel) rfl
theorem tw_65 : Cond.selects cn_R yy_R_isTest yy_R_isTest ∈ TB_ := TB_2 78 (by decide +kernel) rfl
theorem tw_66 : Cond.code yy_R_isTest prog_7_method_5_code 2 (Option.some FieldType.boolean) ∈ TB_ := TB_2 79 rfl rfl
theorem tw_67 : Cond.methodLink cn_R 51 yy_R_nameOf ∈ TB_ := TB_3 29 (by decide +kernel) rfl
theorem tw_68 : Cond.instanceMethod yy_R_nameOf ∈ TB_ := TB_1 164 (by decide +kernel) rfl
theorem tw_69 : Cond.selects cn_R yy_R_nameOf yy_R_nameOf ∈ TB_ := TB_1 165 (by decide +kernel) rfl
theorem tw_70 : Cond.code yy_R_nameOf prog_7_method_9_code 2 (Option.some FieldType.long) ∈ TB_ := TB_1 166 rfl rfl
theorem tw_71 : Cond.methodLink cn_R 55 yy_R_suiteOf ∈ TB_ := TB_3 30 (by decide +kernel) rfl
theorem tw_72 : Cond.instanceMethod yy_R_suiteOf ∈ TB_ := TB_2 13 (by decide +kernel) rfl
theorem tw_73 : Cond.selects cn_R yy_R_suiteOf yy_R_suiteOf ∈ TB_ := TB_2 14 (by decide +kernel) rfl
theorem tw_74 : Cond.code yy_R_suiteOf prog_7_method_8_code 2 (Option.some FieldType.int) ∈ TB_ := TB_2 15 rfl rfl
theorem tw_75 : Cond.methodLink cn_V 1 objectInit ∈ TB_ := TB_1 18 (by decide +kernel) rfl
theorem tw_76 : Cond.classLink cn_V 7 cn_P ∈ TB_ := TB_1 21 (by decide +kernel) rfl
theorem tw_77 : Cond.instantiable cn_P 2 ∈ TB_ := TB_1 22 (by decide +kernel) rfl
theorem tw_78 : Cond.code yy_P_init prog_4_method_1_code 1 (Option.none : Option FieldType) ∈ TB_ := TB_1 25 rfl rfl
theorem tw_79 : Cond.instanceMethod yy_P_init ∈ TB_ := TB_1 24 (by decide +kernel) rfl
theorem tw_80 : Cond.fieldLink cn_V 10 cn_V "page" "LVerdictPages$Page;" ∈ TB_ := TB_1 65 (by decide +kernel) rfl
theorem tw_81 : Cond.classLink cn_V 16 cn_R ∈ TB_ := TB_1 35 (by decide +kernel) rfl
theorem tw_82 : Cond.instantiable cn_R 7 ∈ TB_ := TB_1 36 (by decide +kernel) rfl
theorem tw_83 : Cond.code yy_R_init prog_7_method_1_code 1 (Option.none : Option FieldType) ∈ TB_ := TB_1 39 rfl rfl
theorem tw_84 : Cond.instanceMethod yy_R_init ∈ TB_ := TB_1 38 (by decide +kernel) rfl
theorem tw_85 : Cond.fieldLink cn_V 19 cn_V "report" "LVerdictPages$Report;" ∈ TB_ := TB_1 66 (by decide +kernel) rfl
theorem tw_86 : Cond.fieldLink cn_V 23 cn_V "spare" "LVerdictPages$Report;" ∈ TB_ := TB_1 67 (by decide +kernel) rfl
theorem tw_87 : Cond.fieldLink cn_V 28 cn_V "begunName" "J" ∈ TB_ := TB_1 68 (by decide +kernel) rfl
theorem tw_88 : Cond.methodLink cn_V 52 yy_R_removeAll ∈ TB_ := TB_1 130 (by decide +kernel) rfl
theorem tw_89 : Cond.instanceMethod yy_R_removeAll ∈ TB_ := TB_1 131 (by decide +kernel) rfl
theorem tw_90 : Cond.selects cn_R yy_R_removeAll yy_R_removeAll ∈ TB_ := TB_1 132 (by decide +kernel) rfl
theorem tw_91 : Cond.code yy_R_removeAll prog_7_method_2_code 1 (Option.none : Option FieldType) ∈ TB_ := TB_1 133 rfl rfl
theorem tw_92 : Cond.methodLink cn_V 55 yy_R_size ∈ TB_ := TB_1 138 (by decide +kernel) rfl
theorem tw_93 : Cond.instanceMethod yy_R_size ∈ TB_ := TB_1 139 (by decide +kernel) rfl
theorem tw_94 : Cond.selects cn_R yy_R_size yy_R_size ∈ TB_ := TB_1 140 (by decide +kernel) rfl
theorem tw_95 : Cond.code yy_R_size prog_7_method_3_code 1 (Option.some FieldType.int) ∈ TB_ := TB_1 141 rfl rfl
theorem tw_96 : Cond.methodLink cn_V 59 yy_R_has ∈ TB_ := TB_1 146 (by decide +kernel) rfl
theorem tw_97 : Cond.methodLink cn_V 63 yy_R_kindOf ∈ TB_ := TB_1 147 (by decide +kernel) rfl
theorem tw_98 : Cond.instanceMethod yy_R_kindOf ∈ TB_ := TB_1 148 (by decide +kernel) rfl
theorem tw_99 : Cond.selects cn_R yy_R_kindOf yy_R_kindOf ∈ TB_ := TB_1 149 (by decide +kernel) rfl
theorem tw_100 : Cond.code yy_R_kindOf prog_7_method_6_code 2 (Option.some FieldType.int) ∈ TB_ := TB_1 150 rfl rfl
theorem tw_101 : Cond.methodLink cn_V 66 yy_R_depthOf ∈ TB_ := TB_1 155 (by decide +kernel) rfl
theorem tw_102 : Cond.instanceMethod yy_R_depthOf ∈ TB_ := TB_1 156 (by decide +kernel) rfl
theorem tw_103 : Cond.selects cn_R yy_R_depthOf yy_R_depthOf ∈ TB_ := TB_1 157 (by decide +kernel) rfl
theorem tw_104 : Cond.code yy_R_depthOf prog_7_method_7_code 2 (Option.some FieldType.int) ∈ TB_ := TB_1 158 rfl rfl
theorem tw_105 : Cond.methodLink cn_V 85 yy_P_size ∈ TB_ := TB_2 98 (by decide +kernel) rfl
theorem tw_106 : Cond.instanceMethod yy_P_size ∈ TB_ := TB_2 99 (by decide +kernel) rfl
theorem tw_107 : Cond.selects cn_P yy_P_size yy_P_size ∈ TB_ := TB_2 100 (by decide +kernel) rfl
theorem tw_108 : Cond.code yy_P_size prog_4_method_2_code 1 (Option.some FieldType.int) ∈ TB_ := TB_2 101 rfl rfl
theorem tw_109 : Cond.methodLink cn_V 98 yy_P_codeAt ∈ TB_ := TB_2 234 (by decide +kernel) rfl
theorem tw_110 : Cond.instanceMethod yy_P_codeAt ∈ TB_ := TB_2 235 (by decide +kernel) rfl
theorem tw_111 : Cond.selects cn_P yy_P_codeAt yy_P_codeAt ∈ TB_ := TB_2 236 (by decide +kernel) rfl
theorem tw_112 : Cond.code yy_P_codeAt prog_4_method_3_code 2 (Option.some FieldType.int) ∈ TB_ := TB_2 237 rfl rfl
theorem tw_113 : Cond.methodLink cn_V 110 yy_P_shorten ∈ TB_ := TB_3 18 (by decide +kernel) rfl
theorem tw_114 : Cond.instanceMethod yy_P_shorten ∈ TB_ := TB_1 190 (by decide +kernel) rfl
theorem tw_115 : Cond.selects cn_P yy_P_shorten yy_P_shorten ∈ TB_ := TB_1 191 (by decide +kernel) rfl
theorem tw_116 : Cond.code yy_P_shorten prog_4_method_6_code 2 (Option.some FieldType.boolean) ∈ TB_ := TB_1 192 rfl rfl
theorem tw_117 : Cond.methodLink cn_V 113 yy_R_isTest ∈ TB_ := TB_3 23 (by decide +kernel) rfl
theorem tw_118 : Cond.methodLink cn_V 116 yy_R_areAttempts ∈ TB_ := TB_3 24 (by decide +kernel) rfl
theorem tw_119 : Cond.instanceMethod yy_R_areAttempts ∈ TB_ := TB_3 25 (by decide +kernel) rfl
theorem tw_120 : Cond.selects cn_R yy_R_areAttempts yy_R_areAttempts ∈ TB_ := TB_3 26 (by decide +kernel) rfl
theorem tw_121 : Cond.code yy_R_areAttempts prog_7_method_17_code 6 (Option.some FieldType.boolean) ∈ TB_ := TB_3 27 rfl rfl
theorem tw_122 : Cond.methodLink cn_V 120 yy_R_addNode ∈ TB_ := TB_1 102 (by decide +kernel) rfl
theorem tw_123 : Cond.instanceMethod yy_R_addNode ∈ TB_ := TB_1 103 (by decide +kernel) rfl
theorem tw_124 : Cond.selects cn_R yy_R_addNode yy_R_addNode ∈ TB_ := TB_1 104 (by decide +kernel) rfl
theorem tw_125 : Cond.code yy_R_addNode prog_7_method_15_code 5 (Option.some FieldType.int) ∈ TB_ := TB_1 105 rfl rfl
theorem tw_126 : Cond.methodLink cn_V 36 yy_V_isPlain ∈ TB_ := TB_1 88 (by decide +kernel) rfl
theorem tw_127 : Cond.static yy_V_isPlain ∈ TB_ := TB_1 89 (by decide +kernel) rfl
theorem tw_128 : Cond.initialized cn_V ∈ TB_ := TB_1 1 (by decide +kernel) rfl
theorem tw_129 : Cond.code yy_V_isPlain prog_1_method_21_code 1 (Option.some FieldType.boolean) ∈ TB_ := TB_1 90 rfl rfl
theorem tw_130 : Cond.methodLink cn_M 1 objectInit ∈ TB_ := TB_3 40 (by decide +kernel) rfl
theorem tw_131 : Cond.fieldLink cn_M 7 cn_M "name" "[C" ∈ TB_ := TB_3 42 (by decide +kernel) rfl
theorem tw_132 : Cond.fieldLink cn_M 13 cn_M "count" "[I" ∈ TB_ := TB_3 43 (by decide +kernel) rfl
theorem tw_133 : Cond.fieldLink cn_M 17 cn_M "parent" "[I" ∈ TB_ := TB_3 44 (by decide +kernel) rfl
theorem tw_134 : Cond.fieldLink cn_M 20 cn_M "result" "[I" ∈ TB_ := TB_3 45 (by decide +kernel) rfl
theorem tw_135 : Cond.arrayClass FieldType.boolean ∈ TB_ := TB_3 93 (by decide +kernel) rfl
theorem tw_136 : Cond.fieldLink cn_M 23 cn_M "closed" "[Z" ∈ TB_ := TB_3 46 (by decide +kernel) rfl
theorem tw_137 : Cond.fieldLink cn_M 27 cn_M "size" "[I" ∈ TB_ := TB_3 47 (by decide +kernel) rfl
theorem tw_138 : Cond.fieldLink cn_M 30 cn_M "letters" "[C" ∈ TB_ := TB_3 48 (by decide +kernel) rfl
theorem tw_139 : Cond.fieldLink cn_M 33 cn_M "page" "[C" ∈ TB_ := TB_3 50 (by decide +kernel) rfl
theorem tw_140 : Cond.fieldLink cn_M 36 cn_M "read" "[C" ∈ TB_ := TB_3 57 (by decide +kernel) rfl
theorem tw_141 : Cond.constantLong cn_M 41 57385602150249 ∈ TB_ := TB_3 169 (by decide +kernel) rfl
theorem tw_142 : Cond.constantLong cn_M 39 8318823019729404244 ∈ TB_ := TB_3 168 (by decide +kernel) rfl
theorem tw_143 : Cond.constantLong cn_M 43 2124655 ∈ TB_ := TB_3 170 (by decide +kernel) rfl
theorem tw_144 : Cond.constantLong cn_M 45 9125324284784494 ∈ TB_ := TB_3 171 (by decide +kernel) rfl
theorem tw_145 : Cond.constantLong cn_M 47 2108704 ∈ TB_ := TB_3 172 (by decide +kernel) rfl
theorem tw_146 : Cond.constantLong cn_M 49 22598586002842400 ∈ TB_ := TB_3 173 (by decide +kernel) rfl
theorem tw_147 : Cond.constantLong cn_M 51 22311630664639264 ∈ TB_ := TB_3 174 (by decide +kernel) rfl
theorem tw_148 : Cond.constantLong cn_M 55 2112116 ∈ TB_ := TB_3 176 (by decide +kernel) rfl
theorem tw_149 : Cond.constantLong cn_M 53 8315180253233487907 ∈ TB_ := TB_3 175 (by decide +kernel) rfl
theorem tw_150 : Cond.constantLong cn_M 57 3026481 ∈ TB_ := TB_3 177 (by decide +kernel) rfl
theorem tw_151 : Cond.constantLong cn_M 61 33 ∈ TB_ := TB_3 179 (by decide +kernel) rfl
theorem tw_152 : Cond.constantLong cn_M 59 8391735665723269442 ∈ TB_ := TB_3 178 (by decide +kernel) rfl
theorem tw_153 : Cond.methodLink cn_M 63 yy_M_part ∈ TB_ := TB_3 165 (by decide +kernel) rfl
theorem tw_154 : Cond.static yy_M_part ∈ TB_ := TB_3 166 (by decide +kernel) rfl
theorem tw_155 : Cond.initialized cn_M ∈ TB_ := TB_1 4 (by decide +kernel) rfl
theorem tw_156 : Cond.code yy_M_part prog_9_method_2_code 2 (Option.some FieldType.long) ∈ TB_ := TB_3 167 rfl rfl
theorem tw_157 : Cond.constantLong cn_M 67 255 ∈ TB_ := TB_3 180 (by decide +kernel) rfl
theorem tw_158 : Cond.fieldLink cn_M 69 cn_M "begun" "I" ∈ TB_ := TB_3 41 (by decide +kernel) rfl
theorem tw_159 : Cond.methodLink cn_M 73 yy_M_innermost ∈ TB_ := TB_3 102 (by decide +kernel) rfl
theorem tw_160 : Cond.instanceMethod yy_M_innermost ∈ TB_ := TB_3 104 (by decide +kernel) rfl
theorem tw_161 : Cond.selects cn_M yy_M_innermost yy_M_innermost ∈ TB_ := TB_p (List.mem_of_getElem? (i := 14) (by decide +kernel)) rfl
theorem tw_162 : Cond.code yy_M_innermost prog_9_method_5_code 4 (Option.some FieldType.int) ∈ TB_ := TB_3 105 rfl rfl
theorem tw_163 : Cond.methodLink cn_M 77 yy_M_grow ∈ TB_ := TB_3 114 (by decide +kernel) rfl
theorem tw_164 : Cond.instanceMethod yy_M_grow ∈ TB_ := TB_3 116 (by decide +kernel) rfl
theorem tw_165 : Cond.selects cn_M yy_M_grow yy_M_grow ∈ TB_ := TB_p (List.mem_of_getElem? (i := 17) (by decide +kernel)) rfl
theorem tw_166 : Cond.code yy_M_grow prog_9_method_7_code 5 (Option.some FieldType.int) ∈ TB_ := TB_3 117 rfl rfl
theorem tw_167 : Cond.methodLink cn_M 84 yy_M_addNamed ∈ TB_ := TB_3 110 (by decide +kernel) rfl
theorem tw_168 : Cond.instanceMethod yy_M_addNamed ∈ TB_ := TB_3 112 (by decide +kernel) rfl
theorem tw_169 : Cond.selects cn_M yy_M_addNamed yy_M_addNamed ∈ TB_ := TB_p (List.mem_of_getElem? (i := 16) (by decide +kernel)) rfl
theorem tw_170 : Cond.code yy_M_addNamed prog_9_method_8_code 4 (Option.some FieldType.int) ∈ TB_ := TB_3 113 rfl rfl
theorem tw_171 : Cond.methodLink cn_M 81 yy_M_depthOf ∈ TB_ := TB_3 106 (by decide +kernel) rfl
theorem tw_172 : Cond.instanceMethod yy_M_depthOf ∈ TB_ := TB_3 108 (by decide +kernel) rfl
theorem tw_173 : Cond.selects cn_M yy_M_depthOf yy_M_depthOf ∈ TB_ := TB_p (List.mem_of_getElem? (i := 15) (by decide +kernel)) rfl
theorem tw_174 : Cond.code yy_M_depthOf prog_9_method_6_code 5 (Option.some FieldType.int) ∈ TB_ := TB_3 109 rfl rfl
theorem tw_175 : Cond.methodLink cn_M 87 yy_M_node ∈ TB_ := TB_3 138 (by decide +kernel) rfl
theorem tw_176 : Cond.instanceMethod yy_M_node ∈ TB_ := TB_3 140 (by decide +kernel) rfl
theorem tw_177 : Cond.selects cn_M yy_M_node yy_M_node ∈ TB_ := TB_p (List.mem_of_getElem? (i := 18) (by decide +kernel)) rfl
theorem tw_178 : Cond.code yy_M_node prog_9_method_14_code 2 (Option.some FieldType.boolean) ∈ TB_ := TB_3 141 rfl rfl
theorem tw_179 : Cond.methodLink cn_M 91 yy_M_good ∈ TB_ := TB_3 142 (by decide +kernel) rfl
theorem tw_180 : Cond.instanceMethod yy_M_good ∈ TB_ := TB_3 144 (by decide +kernel) rfl
theorem tw_181 : Cond.selects cn_M yy_M_good yy_M_good ∈ TB_ := TB_p (List.mem_of_getElem? (i := 19) (by decide +kernel)) rfl
theorem tw_182 : Cond.code yy_M_good prog_9_method_15_code 7 (Option.some FieldType.boolean) ∈ TB_ := TB_3 145 rfl rfl
theorem tw_183 : Cond.fieldLink cn_M 95 cn_M "length" "I" ∈ TB_ := TB_3 49 (by decide +kernel) rfl
theorem tw_184 : Cond.methodLink cn_M 98 yy_M_letterOf ∈ TB_ := TB_3 162 (by decide +kernel) rfl
theorem tw_185 : Cond.static yy_M_letterOf ∈ TB_ := TB_3 163 (by decide +kernel) rfl
theorem tw_186 : Cond.code yy_M_letterOf prog_9_method_3_code 4 (Option.some FieldType.char) ∈ TB_ := TB_3 164 rfl rfl
theorem tw_187 : Cond.methodLink cn_M 102 yy_M_add ∈ TB_ := TB_3 181 (by decide +kernel) rfl
theorem tw_188 : Cond.instanceMethod yy_M_add ∈ TB_ := TB_3 183 (by decide +kernel) rfl
theorem tw_189 : Cond.selects cn_M yy_M_add yy_M_add ∈ TB_ := TB_p (List.mem_of_getElem? (i := 21) (by decide +kernel)) rfl
theorem tw_190 : Cond.code yy_M_add prog_9_method_21_code 2 (Option.none : Option FieldType) ∈ TB_ := TB_3 184 rfl rfl
theorem tw_191 : Cond.methodLink cn_M 106 yy_M_addSpaces ∈ TB_ := TB_3 189 (by decide +kernel) rfl
theorem tw_192 : Cond.instanceMethod yy_M_addSpaces ∈ TB_ := TB_3 191 (by decide +kernel) rfl
theorem tw_193 : Cond.selects cn_M yy_M_addSpaces yy_M_addSpaces ∈ TB_ := TB_p (List.mem_of_getElem? (i := 23) (by decide +kernel)) rfl
theorem tw_194 : Cond.code yy_M_addSpaces prog_9_method_23_code 3 (Option.none : Option FieldType) ∈ TB_ := TB_3 192 rfl rfl
theorem tw_195 : Cond.methodLink cn_M 110 yy_M_addText ∈ TB_ := TB_3 158 (by decide +kernel) rfl
theorem tw_196 : Cond.instanceMethod yy_M_addText ∈ TB_ := TB_3 160 (by decide +kernel) rfl
theorem tw_197 : Cond.selects cn_M yy_M_addText yy_M_addText ∈ TB_ := TB_p (List.mem_of_getElem? (i := 20) (by decide +kernel)) rfl
theorem tw_198 : Cond.code yy_M_addText prog_9_method_22_code 3 (Option.none : Option FieldType) ∈ TB_ := TB_3 161 rfl rfl
theorem tw_199 : Cond.methodLink cn_M 113 yy_M_placeOf ∈ TB_ := TB_3 205 (by decide +kernel) rfl
theorem tw_200 : Cond.instanceMethod yy_M_placeOf ∈ TB_ := TB_3 207 (by decide +kernel) rfl
theorem tw_201 : Cond.selects cn_M yy_M_placeOf yy_M_placeOf ∈ TB_ := TB_p (List.mem_of_getElem? (i := 27) (by decide +kernel)) rfl
theorem tw_202 : Cond.code yy_M_placeOf prog_9_method_19_code 5 (Option.some FieldType.int) ∈ TB_ := TB_3 208 rfl rfl
theorem tw_203 : Cond.methodLink cn_M 116 yy_M_addNumber ∈ TB_ := TB_3 197 (by decide +kernel) rfl
theorem tw_204 : Cond.instanceMethod yy_M_addNumber ∈ TB_ := TB_3 199 (by decide +kernel) rfl
theorem tw_205 : Cond.selects cn_M yy_M_addNumber yy_M_addNumber ∈ TB_ := TB_p (List.mem_of_getElem? (i := 25) (by decide +kernel)) rfl
theorem tw_206 : Cond.code yy_M_addNumber prog_9_method_24_code 2 (Option.none : Option FieldType) ∈ TB_ := TB_3 200 rfl rfl
theorem tw_207 : Cond.methodLink cn_M 119 yy_M_addName ∈ TB_ := TB_3 209 (by decide +kernel) rfl
theorem tw_208 : Cond.instanceMethod yy_M_addName ∈ TB_ := TB_3 211 (by decide +kernel) rfl
theorem tw_209 : Cond.selects cn_M yy_M_addName yy_M_addName ∈ TB_ := TB_p (List.mem_of_getElem? (i := 28) (by decide +kernel)) rfl
theorem tw_210 : Cond.code yy_M_addName prog_9_method_25_code 4 (Option.none : Option FieldType) ∈ TB_ := TB_3 212 rfl rfl
theorem tw_211 : Cond.methodLink cn_M 122 yy_M_rowSize ∈ TB_ := TB_3 193 (by decide +kernel) rfl
theorem tw_212 : Cond.instanceMethod yy_M_rowSize ∈ TB_ := TB_3 195 (by decide +kernel) rfl
theorem tw_213 : Cond.selects cn_M yy_M_rowSize yy_M_rowSize ∈ TB_ := TB_p (List.mem_of_getElem? (i := 24) (by decide +kernel)) rfl
theorem tw_214 : Cond.code yy_M_rowSize prog_9_method_20_code 5 (Option.some FieldType.int) ∈ TB_ := TB_3 196 rfl rfl
theorem tw_215 : Cond.methodLink cn_M 125 yy_M_addVerdict ∈ TB_ := TB_3 201 (by decide +kernel) rfl
theorem tw_216 : Cond.instanceMethod yy_M_addVerdict ∈ TB_ := TB_3 203 (by decide +kernel) rfl
theorem tw_217 : Cond.selects cn_M yy_M_addVerdict yy_M_addVerdict ∈ TB_ := TB_p (List.mem_of_getElem? (i := 26) (by decide +kernel)) rfl
theorem tw_218 : Cond.code yy_M_addVerdict prog_9_method_26_code 3 (Option.none : Option FieldType) ∈ TB_ := TB_3 204 rfl rfl
theorem tw_219 : Cond.methodLink cn_M 129 yy_M_finish ∈ TB_ := TB_3 185 (by decide +kernel) rfl
theorem tw_220 : Cond.instanceMethod yy_M_finish ∈ TB_ := TB_3 187 (by decide +kernel) rfl
theorem tw_221 : Cond.selects cn_M yy_M_finish yy_M_finish ∈ TB_ := TB_p (List.mem_of_getElem? (i := 22) (by decide +kernel)) rfl
theorem tw_222 : Cond.code yy_M_finish prog_9_method_27_code 2 (Option.none : Option FieldType) ∈ TB_ := TB_3 188 rfl rfl
theorem tw_223 : Cond.fieldLink cn_M 132 cn_M "at" "I" ∈ TB_ := TB_3 51 (by decide +kernel) rfl
theorem tw_224 : Cond.fieldLink cn_M 135 cn_M "end" "I" ∈ TB_ := TB_3 52 (by decide +kernel) rfl
theorem tw_225 : Cond.methodLink cn_M 138 yy_M_eatDigit ∈ TB_ := TB_3 237 (by decide +kernel) rfl
theorem tw_226 : Cond.instanceMethod yy_M_eatDigit ∈ TB_ := TB_3 239 (by decide +kernel) rfl
theorem tw_227 : Cond.selects cn_M yy_M_eatDigit yy_M_eatDigit ∈ TB_ := TB_p (List.mem_of_getElem? (i := 34) (by decide +kernel)) rfl
theorem tw_228 : Cond.code yy_M_eatDigit prog_9_method_31_code 2 (Option.some FieldType.boolean) ∈ TB_ := TB_4 0 rfl rfl
theorem tw_229 : Cond.fieldLink cn_M 141 cn_M "taken" "I" ∈ TB_ := TB_3 56 (by decide +kernel) rfl
theorem tw_230 : Cond.fieldLink cn_M 144 cn_M "suite" "I" ∈ TB_ := TB_3 53 (by decide +kernel) rfl
theorem tw_231 : Cond.methodLink cn_M 147 yy_M_eatSpaces ∈ TB_ := TB_3 229 (by decide +kernel) rfl
theorem tw_232 : Cond.instanceMethod yy_M_eatSpaces ∈ TB_ := TB_3 231 (by decide +kernel) rfl
theorem tw_233 : Cond.selects cn_M yy_M_eatSpaces yy_M_eatSpaces ∈ TB_ := TB_p (List.mem_of_getElem? (i := 32) (by decide +kernel)) rfl
theorem tw_234 : Cond.code yy_M_eatSpaces prog_9_method_30_code 3 (Option.some FieldType.boolean) ∈ TB_ := TB_3 232 rfl rfl
theorem tw_235 : Cond.methodLink cn_M 150 yy_M_eat ∈ TB_ := TB_3 217 (by decide +kernel) rfl
theorem tw_236 : Cond.instanceMethod yy_M_eat ∈ TB_ := TB_3 219 (by decide +kernel) rfl
theorem tw_237 : Cond.selects cn_M yy_M_eat yy_M_eat ∈ TB_ := TB_p (List.mem_of_getElem? (i := 29) (by decide +kernel)) rfl
theorem tw_238 : Cond.code yy_M_eat prog_9_method_29_code 4 (Option.some FieldType.boolean) ∈ TB_ := TB_3 220 rfl rfl
theorem tw_239 : Cond.methodLink cn_M 153 yy_M_eatNumber ∈ TB_ := TB_3 233 (by decide +kernel) rfl
theorem tw_240 : Cond.instanceMethod yy_M_eatNumber ∈ TB_ := TB_3 235 (by decide +kernel) rfl
theorem tw_241 : Cond.selects cn_M yy_M_eatNumber yy_M_eatNumber ∈ TB_ := TB_p (List.mem_of_getElem? (i := 33) (by decide +kernel)) rfl
theorem tw_242 : Cond.code yy_M_eatNumber prog_9_method_32_code 2 (Option.some FieldType.boolean) ∈ TB_ := TB_3 236 rfl rfl
theorem tw_243 : Cond.methodLink cn_M 156 yy_M_eatName ∈ TB_ := TB_4 1 (by decide +kernel) rfl
theorem tw_244 : Cond.instanceMethod yy_M_eatName ∈ TB_ := TB_4 3 (by decide +kernel) rfl
theorem tw_245 : Cond.selects cn_M yy_M_eatName yy_M_eatName ∈ TB_ := TB_p (List.mem_of_getElem? (i := 35) (by decide +kernel)) rfl
theorem tw_246 : Cond.code yy_M_eatName prog_9_method_33_code 3 (Option.some FieldType.boolean) ∈ TB_ := TB_4 4 rfl rfl
theorem tw_247 : Cond.methodLink cn_M 159 yy_M_isName ∈ TB_ := TB_4 5 (by decide +kernel) rfl
theorem tw_248 : Cond.instanceMethod yy_M_isName ∈ TB_ := TB_4 7 (by decide +kernel) rfl
theorem tw_249 : Cond.selects cn_M yy_M_isName yy_M_isName ∈ TB_ := TB_p (List.mem_of_getElem? (i := 36) (by decide +kernel)) rfl
theorem tw_250 : Cond.code yy_M_isName prog_9_method_35_code 4 (Option.some FieldType.boolean) ∈ TB_ := TB_4 8 rfl rfl
theorem tw_251 : Cond.fieldLink cn_M 162 cn_M "planned" "Z" ∈ TB_ := TB_3 54 (by decide +kernel) rfl
theorem tw_252 : Cond.fieldLink cn_M 166 cn_M "over" "Z" ∈ TB_ := TB_3 55 (by decide +kernel) rfl
theorem tw_253 : Cond.methodLink cn_M 169 yy_M_accept ∈ TB_ := TB_4 21 (by decide +kernel) rfl
theorem tw_254 : Cond.instanceMethod yy_M_accept ∈ TB_ := TB_4 23 (by decide +kernel) rfl
theorem tw_255 : Cond.selects cn_M yy_M_accept yy_M_accept ∈ TB_ := TB_p (List.mem_of_getElem? (i := 40) (by decide +kernel)) rfl
theorem tw_256 : Cond.code yy_M_accept prog_9_method_34_code 4 (Option.some FieldType.boolean) ∈ TB_ := TB_4 24 rfl rfl
theorem tw_257 : Cond.methodLink cn_M 172 yy_M_endsWith ∈ TB_ := TB_4 29 (by decide +kernel) rfl
theorem tw_258 : Cond.instanceMethod yy_M_endsWith ∈ TB_ := TB_4 31 (by decide +kernel) rfl
theorem tw_259 : Cond.selects cn_M yy_M_endsWith yy_M_endsWith ∈ TB_ := TB_p (List.mem_of_getElem? (i := 42) (by decide +kernel)) rfl
theorem tw_260 : Cond.code yy_M_endsWith prog_9_method_40_code 6 (Option.some FieldType.boolean) ∈ TB_ := TB_4 32 rfl rfl
theorem tw_261 : Cond.methodLink cn_M 176 yy_M_closing ∈ TB_ := TB_3 225 (by decide +kernel) rfl
theorem tw_262 : Cond.instanceMethod yy_M_closing ∈ TB_ := TB_3 227 (by decide +kernel) rfl
theorem tw_263 : Cond.selects cn_M yy_M_closing yy_M_closing ∈ TB_ := TB_p (List.mem_of_getElem? (i := 31) (by decide +kernel)) rfl
theorem tw_264 : Cond.code yy_M_closing prog_9_method_36_code 3 (Option.some FieldType.boolean) ∈ TB_ := TB_3 228 rfl rfl
theorem tw_265 : Cond.methodLink cn_M 180 yy_M_plan ∈ TB_ := TB_4 9 (by decide +kernel) rfl
theorem tw_266 : Cond.instanceMethod yy_M_plan ∈ TB_ := TB_4 11 (by decide +kernel) rfl
theorem tw_267 : Cond.selects cn_M yy_M_plan yy_M_plan ∈ TB_ := TB_p (List.mem_of_getElem? (i := 37) (by decide +kernel)) rfl
theorem tw_268 : Cond.code yy_M_plan prog_9_method_37_code 3 (Option.some FieldType.boolean) ∈ TB_ := TB_4 12 rfl rfl
theorem tw_269 : Cond.methodLink cn_M 183 yy_M_bail ∈ TB_ := TB_4 13 (by decide +kernel) rfl
theorem tw_270 : Cond.instanceMethod yy_M_bail ∈ TB_ := TB_4 15 (by decide +kernel) rfl
theorem tw_271 : Cond.selects cn_M yy_M_bail yy_M_bail ∈ TB_ := TB_p (List.mem_of_getElem? (i := 38) (by decide +kernel)) rfl
theorem tw_272 : Cond.code yy_M_bail prog_9_method_38_code 2 (Option.some FieldType.boolean) ∈ TB_ := TB_4 16 rfl rfl
theorem tw_273 : Cond.methodLink cn_M 186 yy_M_subtest ∈ TB_ := TB_4 17 (by decide +kernel) rfl
theorem tw_274 : Cond.instanceMethod yy_M_subtest ∈ TB_ := TB_4 19 (by decide +kernel) rfl
theorem tw_275 : Cond.selects cn_M yy_M_subtest yy_M_subtest ∈ TB_ := TB_p (List.mem_of_getElem? (i := 39) (by decide +kernel)) rfl
theorem tw_276 : Cond.code yy_M_subtest prog_9_method_39_code 3 (Option.some FieldType.boolean) ∈ TB_ := TB_4 20 rfl rfl
theorem tw_277 : Cond.methodLink cn_M 189 yy_M_testLine ∈ TB_ := TB_4 25 (by decide +kernel) rfl
theorem tw_278 : Cond.instanceMethod yy_M_testLine ∈ TB_ := TB_4 27 (by decide +kernel) rfl
theorem tw_279 : Cond.selects cn_M yy_M_testLine yy_M_testLine ∈ TB_ := TB_p (List.mem_of_getElem? (i := 41) (by decide +kernel)) rfl
theorem tw_280 : Cond.code yy_M_testLine prog_9_method_41_code 6 (Option.some FieldType.boolean) ∈ TB_ := TB_4 28 rfl rfl
theorem tw_281 : Cond.methodLink cn_M 192 yy_M_line ∈ TB_ := TB_3 221 (by decide +kernel) rfl
theorem tw_282 : Cond.instanceMethod yy_M_line ∈ TB_ := TB_3 223 (by decide +kernel) rfl
theorem tw_283 : Cond.selects cn_M yy_M_line yy_M_line ∈ TB_ := TB_p (List.mem_of_getElem? (i := 30) (by decide +kernel)) rfl
theorem tw_284 : Cond.code yy_M_line prog_9_method_42_code 3 (Option.some FieldType.boolean) ∈ TB_ := TB_3 224 rfl rfl
theorem tw_285 : Cond.methodLink cn_M 195 yy_M_adopt ∈ TB_ := TB_4 33 (by decide +kernel) rfl
theorem tw_286 : Cond.instanceMethod yy_M_adopt ∈ TB_ := TB_4 35 (by decide +kernel) rfl
theorem tw_287 : Cond.selects cn_M yy_M_adopt yy_M_adopt ∈ TB_ := TB_p (List.mem_of_getElem? (i := 43) (by decide +kernel)) rfl
theorem tw_288 : Cond.code yy_M_adopt prog_9_method_43_code 2 (Option.none : Option FieldType) ∈ TB_ := TB_4 36 rfl rfl
theorem tw_289 : Cond.methodLink cn_M 198 yy_M_fits ∈ TB_ := TB_4 49 (by decide +kernel) rfl
theorem tw_290 : Cond.static yy_M_fits ∈ TB_ := TB_4 50 (by decide +kernel) rfl
theorem tw_291 : Cond.code yy_M_fits prog_9_method_47_code 1 (Option.some FieldType.boolean) ∈ TB_ := TB_4 51 rfl rfl
theorem tw_292 : Cond.methodLink cn_M 202 yy_M_sameName ∈ TB_ := TB_4 68 (by decide +kernel) rfl
theorem tw_293 : Cond.instanceMethod yy_M_sameName ∈ TB_ := TB_4 70 (by decide +kernel) rfl
theorem tw_294 : Cond.selects cn_M yy_M_sameName yy_M_sameName ∈ TB_ := TB_p (List.mem_of_getElem? (i := 45) (by decide +kernel)) rfl
theorem tw_295 : Cond.code yy_M_sameName prog_9_method_51_code 5 (Option.some FieldType.boolean) ∈ TB_ := TB_4 71 rfl rfl
theorem tw_296 : Cond.methodLink cn_M 205 yy_M_alike ∈ TB_ := TB_4 64 (by decide +kernel) rfl
theorem tw_297 : Cond.instanceMethod yy_M_alike ∈ TB_ := TB_4 66 (by decide +kernel) rfl
theorem tw_298 : Cond.selects cn_M yy_M_alike yy_M_alike ∈ TB_ := TB_p (List.mem_of_getElem? (i := 44) (by decide +kernel)) rfl
theorem tw_299 : Cond.code yy_M_alike prog_9_method_52_code 6 (Option.some FieldType.boolean) ∈ TB_ := TB_4 67 rfl rfl
theorem tw_300 : Cond.methodLink cn_C 41 yy_C_skipDigit ∈ TB_ := TB_2 189 (by decide +kernel) rfl
theorem tw_301 : Cond.instanceMethod yy_C_skipDigit ∈ TB_ := TB_2 191 (by decide +kernel) rfl
theorem tw_302 : Cond.selects cn_C yy_C_skipDigit yy_C_skipDigit ∈ TB_ := TB_p (List.mem_of_getElem? (i := 10) (by decide +kernel)) rfl
theorem tw_303 : Cond.code yy_C_skipDigit prog_2_method_10_code 2 (Option.some FieldType.boolean) ∈ TB_ := TB_2 192 rfl rfl
theorem tw_304 : Cond.methodLink cn_C 47 yy_C_takeLetter ∈ TB_ := TB_2 198 (by decide +kernel) rfl
theorem tw_305 : Cond.instanceMethod yy_C_takeLetter ∈ TB_ := TB_2 200 (by decide +kernel) rfl
theorem tw_306 : Cond.selects cn_C yy_C_takeLetter yy_C_takeLetter ∈ TB_ := TB_p (List.mem_of_getElem? (i := 11) (by decide +kernel)) rfl
theorem tw_307 : Cond.code yy_C_takeLetter prog_2_method_9_code 3 (Option.some FieldType.int) ∈ TB_ := TB_2 201 rfl rfl
theorem tw_308 : Cond.methodLink cn_C 50 yy_N_withLetter ∈ TB_ := TB_2 202 (by decide +kernel) rfl
theorem tw_309 : Cond.static yy_N_withLetter ∈ TB_ := TB_1 92 (by decide +kernel) rfl
theorem tw_310 : Cond.initialized cn_N ∈ TB_ := TB_1 5 (by decide +kernel) rfl
theorem tw_311 : Cond.code yy_N_withLetter prog_3_method_4_code 4 (Option.some FieldType.long) ∈ TB_ := TB_1 93 rfl rfl
theorem tw_312 : Cond.methodLink cn_N 9 yy_N_codeAt ∈ TB_ := TB_1 85 (by decide +kernel) rfl
theorem tw_313 : Cond.static yy_N_codeAt ∈ TB_ := TB_1 86 (by decide +kernel) rfl
theorem tw_314 : Cond.code yy_N_codeAt prog_3_method_3_code 3 (Option.some FieldType.int) ∈ TB_ := TB_1 87 rfl rfl
theorem tw_315 : Cond.methodLink cn_P 39 yy_N_sizeOf ∈ TB_ := TB_2 68 (by decide +kernel) rfl
theorem tw_316 : Cond.static yy_N_sizeOf ∈ TB_ := TB_1 83 (by decide +kernel) rfl
theorem tw_317 : Cond.code yy_N_sizeOf prog_3_method_2_code 3 (Option.some FieldType.int) ∈ TB_ := TB_1 84 rfl rfl
theorem tw_318 : Cond.methodLink cn_P 45 yy_N_codeAt ∈ TB_ := TB_2 69 (by decide +kernel) rfl
theorem tw_319 : Cond.methodLink cn_W 87 yy_R_depthOf ∈ TB_ := TB_2 52 (by decide +kernel) rfl
theorem tw_320 : Cond.methodLink cn_W 76 yy_P_addIndent ∈ TB_ := TB_2 28 (by decide +kernel) rfl
theorem tw_321 : Cond.instanceMethod yy_P_addIndent ∈ TB_ := TB_2 29 (by decide +kernel) rfl
theorem tw_322 : Cond.selects cn_P yy_P_addIndent yy_P_addIndent ∈ TB_ := TB_2 30 (by decide +kernel) rfl
theorem tw_323 : Cond.code yy_P_addIndent prog_4_method_8_code 3 (Option.none : Option FieldType) ∈ TB_ := TB_2 31 rfl rfl
theorem tw_324 : Cond.methodLink cn_W 27 yy_P_addText ∈ TB_ := TB_1 194 (by decide +kernel) rfl
theorem tw_325 : Cond.methodLink cn_W 92 yy_R_nameOf ∈ TB_ := TB_2 63 (by decide +kernel) rfl
theorem tw_326 : Cond.methodLink cn_W 96 yy_P_addWritten ∈ TB_ := TB_2 64 (by decide +kernel) rfl
theorem tw_327 : Cond.instanceMethod yy_P_addWritten ∈ TB_ := TB_2 65 (by decide +kernel) rfl
theorem tw_328 : Cond.selects cn_P yy_P_addWritten yy_P_addWritten ∈ TB_ := TB_2 66 (by decide +kernel) rfl
theorem tw_329 : Cond.code yy_P_addWritten prog_4_method_10_code 6 (Option.none : Option FieldType) ∈ TB_ := TB_2 67 rfl rfl
theorem tw_330 : Cond.methodLink cn_W 31 yy_P_add ∈ TB_ := TB_2 10 (by decide +kernel) rfl
theorem tw_331 : Cond.methodLink cn_R 41 yy_R_countInRow ∈ TB_ := TB_2 39 (by decide +kernel) rfl
theorem tw_332 : Cond.instanceMethod yy_R_countInRow ∈ TB_ := TB_2 41 (by decide +kernel) rfl
theorem tw_333 : Cond.selects cn_R yy_R_countInRow yy_R_countInRow ∈ TB_ := TB_p (List.mem_of_getElem? (i := 4) (by decide +kernel)) rfl
theorem tw_334 : Cond.code yy_R_countInRow prog_7_method_19_code 5 (Option.some FieldType.int) ∈ TB_ := TB_2 42 rfl rfl
theorem tw_335 : Cond.methodLink cn_R 45 yy_R_hasFailedBehind ∈ TB_ := TB_1 118 (by decide +kernel) rfl
theorem tw_336 : Cond.instanceMethod yy_R_hasFailedBehind ∈ TB_ := TB_1 120 (by decide +kernel) rfl
theorem tw_337 : Cond.selects cn_R yy_R_hasFailedBehind yy_R_hasFailedBehind ∈ TB_ := TB_p (List.mem_of_getElem? (i := 1) (by decide +kernel)) rfl
theorem tw_338 : Cond.code yy_R_hasFailedBehind prog_7_method_18_code 3 (Option.some FieldType.boolean) ∈ TB_ := TB_1 121 rfl rfl
theorem tw_339 : Cond.methodLink cn_V 32 yy_N_sizeOf ∈ TB_ := TB_1 82 (by decide +kernel) rfl
theorem tw_340 : Cond.methodLink cn_V 40 yy_N_withLetter ∈ TB_ := TB_1 91 (by decide +kernel) rfl
theorem tw_341 : Cond.methodLink cn_V 44 yy_V_addWithBegunName ∈ TB_ := TB_1 98 (by decide +kernel) rfl
theorem tw_342 : Cond.instanceMethod yy_V_addWithBegunName ∈ TB_ := TB_1 100 (by decide +kernel) rfl
theorem tw_343 : Cond.selects cn_V yy_V_addWithBegunName yy_V_addWithBegunName ∈ TB_ := TB_p (List.mem_of_getElem? (i := 0) (by decide +kernel)) rfl
theorem tw_344 : Cond.code yy_V_addWithBegunName prog_1_method_20_code 3 (Option.some FieldType.int) ∈ TB_ := TB_1 101 rfl rfl
theorem tw_345 : Cond.methodLink cn_V 48 yy_R_closeLastOpen ∈ TB_ := TB_1 110 (by decide +kernel) rfl
theorem tw_346 : Cond.instanceMethod yy_R_closeLastOpen ∈ TB_ := TB_1 111 (by decide +kernel) rfl
theorem tw_347 : Cond.selects cn_R yy_R_closeLastOpen yy_R_closeLastOpen ∈ TB_ := TB_1 112 (by decide +kernel) rfl
theorem tw_348 : Cond.code yy_R_closeLastOpen prog_7_method_16_code 1 (Option.some FieldType.boolean) ∈ TB_ := TB_1 113 rfl rfl
theorem tw_349 : Cond.methodLink cn_V 69 yy_R_nameOf ∈ TB_ := TB_1 163 (by decide +kernel) rfl
theorem tw_350 : Cond.methodLink cn_V 73 yy_N_codeAt ∈ TB_ := TB_1 167 (by decide +kernel) rfl
theorem tw_351 : Cond.methodLink cn_V 100 yy_V_isOfPages ∈ TB_ := TB_3 2 (by decide +kernel) rfl
theorem tw_352 : Cond.static yy_V_isOfPages ∈ TB_ := TB_3 3 (by decide +kernel) rfl
theorem tw_353 : Cond.code yy_V_isOfPages prog_1_method_22_code 1 (Option.some FieldType.boolean) ∈ TB_ := TB_3 4 rfl rfl
theorem tw_354 : Cond.methodLink cn_V 103 yy_P_add ∈ TB_ := TB_3 5 (by decide +kernel) rfl
theorem tw_355 : Cond.methodLink cn_V 106 yy_P_replace ∈ TB_ := TB_3 10 (by decide +kernel) rfl
theorem tw_356 : Cond.instanceMethod yy_P_replace ∈ TB_ := TB_3 11 (by decide +kernel) rfl
theorem tw_357 : Cond.selects cn_P yy_P_replace yy_P_replace ∈ TB_ := TB_3 12 (by decide +kernel) rfl
theorem tw_358 : Cond.code yy_P_replace prog_4_method_5_code 3 (Option.some FieldType.boolean) ∈ TB_ := TB_3 13 rfl rfl
theorem tw_359 : Cond.methodLink cn_E 67 yy_R_innermost ∈ TB_ := TB_2 183 (by decide +kernel) rfl
theorem tw_360 : Cond.instanceMethod yy_R_innermost ∈ TB_ := TB_2 86 (by decide +kernel) rfl
theorem tw_361 : Cond.selects cn_R yy_R_innermost yy_R_innermost ∈ TB_ := TB_2 87 (by decide +kernel) rfl
theorem tw_362 : Cond.code yy_R_innermost prog_7_method_10_code 1 (Option.some FieldType.int) ∈ TB_ := TB_2 88 rfl rfl
theorem tw_363 : Cond.methodLink cn_E 70 yy_R_rowSize ∈ TB_ := TB_2 184 (by decide +kernel) rfl
theorem tw_364 : Cond.instanceMethod yy_R_rowSize ∈ TB_ := TB_2 36 (by decide +kernel) rfl
theorem tw_365 : Cond.selects cn_R yy_R_rowSize yy_R_rowSize ∈ TB_ := TB_2 37 (by decide +kernel) rfl
theorem tw_366 : Cond.code yy_R_rowSize prog_7_method_13_code 2 (Option.some FieldType.int) ∈ TB_ := TB_2 38 rfl rfl
theorem tw_367 : Cond.methodLink cn_E 74 yy_C_skipNumber ∈ TB_ := TB_2 185 (by decide +kernel) rfl
theorem tw_368 : Cond.instanceMethod yy_C_skipNumber ∈ TB_ := TB_2 186 (by decide +kernel) rfl
theorem tw_369 : Cond.selects cn_C yy_C_skipNumber yy_C_skipNumber ∈ TB_ := TB_2 187 (by decide +kernel) rfl
theorem tw_370 : Cond.code yy_C_skipNumber prog_2_method_7_code 2 (Option.some FieldType.boolean) ∈ TB_ := TB_2 188 rfl rfl
theorem tw_371 : Cond.methodLink cn_E 45 yy_C_skipText ∈ TB_ := TB_2 164 (by decide +kernel) rfl
theorem tw_372 : Cond.methodLink cn_E 79 yy_C_takeName ∈ TB_ := TB_2 194 (by decide +kernel) rfl
theorem tw_373 : Cond.instanceMethod yy_C_takeName ∈ TB_ := TB_2 195 (by decide +kernel) rfl
theorem tw_374 : Cond.selects cn_C yy_C_takeName yy_C_takeName ∈ TB_ := TB_2 196 (by decide +kernel) rfl
theorem tw_375 : Cond.code yy_C_takeName prog_2_method_8_code 5 (Option.some FieldType.long) ∈ TB_ := TB_2 197 rfl rfl
theorem tw_376 : Cond.methodLink cn_E 83 yy_R_addNode ∈ TB_ := TB_2 203 (by decide +kernel) rfl
theorem tw_377 : Cond.methodLink cn_E 101 yy_R_closeLastOpen ∈ TB_ := TB_2 217 (by decide +kernel) rfl
theorem tw_378 : Cond.methodLink cn_E 104 yy_R_depthOf ∈ TB_ := TB_2 218 (by decide +kernel) rfl
theorem tw_379 : Cond.methodLink cn_E 61 yy_C_skipIndent ∈ TB_ := TB_2 176 (by decide +kernel) rfl
theorem tw_380 : Cond.instanceMethod yy_C_skipIndent ∈ TB_ := TB_2 177 (by decide +kernel) rfl
theorem tw_381 : Cond.selects cn_C yy_C_skipIndent yy_C_skipIndent ∈ TB_ := TB_2 178 (by decide +kernel) rfl
theorem tw_382 : Cond.code yy_C_skipIndent prog_2_method_6_code 3 (Option.some FieldType.boolean) ∈ TB_ := TB_2 179 rfl rfl
theorem tw_383 : Cond.methodLink cn_E 107 yy_R_kindOf ∈ TB_ := TB_2 219 (by decide +kernel) rfl
theorem tw_384 : Cond.methodLink cn_E 110 yy_R_placeOf ∈ TB_ := TB_2 220 (by decide +kernel) rfl
theorem tw_385 : Cond.instanceMethod yy_R_placeOf ∈ TB_ := TB_2 59 (by decide +kernel) rfl
theorem tw_386 : Cond.selects cn_R yy_R_placeOf yy_R_placeOf ∈ TB_ := TB_2 60 (by decide +kernel) rfl
theorem tw_387 : Cond.code yy_R_placeOf prog_7_method_14_code 2 (Option.some FieldType.int) ∈ TB_ := TB_2 61 rfl rfl
theorem tw_388 : Cond.methodLink cn_E 113 yy_R_nameOf ∈ TB_ := TB_2 221 (by decide +kernel) rfl
theorem tw_389 : Cond.methodLink cn_W 73 yy_R_rowDepth ∈ TB_ := TB_2 24 (by decide +kernel) rfl
theorem tw_390 : Cond.instanceMethod yy_R_rowDepth ∈ TB_ := TB_2 25 (by decide +kernel) rfl
theorem tw_391 : Cond.selects cn_R yy_R_rowDepth yy_R_rowDepth ∈ TB_ := TB_2 26 (by decide +kernel) rfl
theorem tw_392 : Cond.code yy_R_rowDepth prog_7_method_12_code 2 (Option.some FieldType.int) ∈ TB_ := TB_2 27 rfl rfl
theorem tw_393 : Cond.methodLink cn_W 81 yy_R_rowSize ∈ TB_ := TB_2 35 (by decide +kernel) rfl
theorem tw_394 : Cond.methodLink cn_W 84 yy_P_addNumber ∈ TB_ := TB_2 43 (by decide +kernel) rfl
theorem tw_395 : Cond.instanceMethod yy_P_addNumber ∈ TB_ := TB_2 44 (by decide +kernel) rfl
theorem tw_396 : Cond.selects cn_P yy_P_addNumber yy_P_addNumber ∈ TB_ := TB_2 45 (by decide +kernel) rfl
theorem tw_397 : Cond.code yy_P_addNumber prog_4_method_9_code 2 (Option.none : Option FieldType) ∈ TB_ := TB_2 46 rfl rfl
theorem tw_398 : Cond.methodLink cn_W 100 yy_R_kindOf ∈ TB_ := TB_2 51 (by decide +kernel) rfl
theorem tw_399 : Cond.methodLink cn_W 103 yy_W_verdictOf ∈ TB_ := TB_2 53 (by decide +kernel) rfl
theorem tw_400 : Cond.static yy_W_verdictOf ∈ TB_ := TB_2 54 (by decide +kernel) rfl
theorem tw_401 : Cond.initialized cn_W ∈ TB_ := TB_1 6 (by decide +kernel) rfl
theorem tw_402 : Cond.code yy_W_verdictOf prog_6_method_8_code 1 (Option.some (FieldType.object "java/lang/String")) ∈ TB_ := TB_2 55 rfl rfl
theorem tw_403 : Cond.methodLink cn_W 107 yy_R_placeOf ∈ TB_ := TB_2 58 (by decide +kernel) rfl
theorem tw_404 : Cond.methodLink cn_W 112 yy_W_directiveOf ∈ TB_ := TB_2 70 (by decide +kernel) rfl
theorem tw_405 : Cond.static yy_W_directiveOf ∈ TB_ := TB_2 71 (by decide +kernel) rfl
theorem tw_406 : Cond.code yy_W_directiveOf prog_6_method_9_code 1 (Option.some (FieldType.object "java/lang/String")) ∈ TB_ := TB_2 72 rfl rfl
theorem tw_407 : Cond.methodLink cn_E 55 yy_R_openSuites ∈ TB_ := TB_2 174 (by decide +kernel) rfl
theorem tw_408 : Cond.instanceMethod yy_R_openSuites ∈ TB_ := TB_2 94 (by decide +kernel) rfl
theorem tw_409 : Cond.selects cn_R yy_R_openSuites yy_R_openSuites ∈ TB_ := TB_2 95 (by decide +kernel) rfl
theorem tw_410 : Cond.code yy_R_openSuites prog_7_method_11_code 1 (Option.some FieldType.int) ∈ TB_ := TB_2 96 rfl rfl
theorem tw_411 : Cond.methodLink cn_E 91 yy_E_takeTest ∈ TB_ := TB_2 206 (by decide +kernel) rfl
theorem tw_412 : Cond.instanceMethod yy_E_takeTest ∈ TB_ := TB_2 208 (by decide +kernel) rfl
theorem tw_413 : Cond.selects cn_E yy_E_takeTest yy_E_takeTest ∈ TB_ := TB_p (List.mem_of_getElem? (i := 12) (by decide +kernel)) rfl
theorem tw_414 : Cond.initialized cn_E ∈ TB_ := TB_1 11 (by decide +kernel) rfl
theorem tw_415 : Cond.code yy_E_takeTest prog_5_method_5_code 8 (Option.some FieldType.boolean) ∈ TB_ := TB_2 209 rfl rfl
theorem tw_416 : Cond.methodLink cn_W 65 yy_W_writePlan ∈ TB_ := TB_2 20 (by decide +kernel) rfl
theorem tw_417 : Cond.instanceMethod yy_W_writePlan ∈ TB_ := TB_2 22 (by decide +kernel) rfl
theorem tw_418 : Cond.selects cn_W yy_W_writePlan yy_W_writePlan ∈ TB_ := TB_p (List.mem_of_getElem? (i := 3) (by decide +kernel)) rfl
theorem tw_419 : Cond.code yy_W_writePlan prog_6_method_5_code 2 (Option.none : Option FieldType) ∈ TB_ := TB_2 23 rfl rfl
theorem tw_420 : Cond.methodLink cn_W 52 yy_W_writeVerdict ∈ TB_ := TB_2 47 (by decide +kernel) rfl
theorem tw_421 : Cond.instanceMethod yy_W_writeVerdict ∈ TB_ := TB_2 49 (by decide +kernel) rfl
theorem tw_422 : Cond.selects cn_W yy_W_writeVerdict yy_W_writeVerdict ∈ TB_ := TB_p (List.mem_of_getElem? (i := 5) (by decide +kernel)) rfl
theorem tw_423 : Cond.code yy_W_writeVerdict prog_6_method_7_code 3 (Option.none : Option FieldType) ∈ TB_ := TB_2 50 rfl rfl
theorem tw_424 : Cond.methodLink cn_W 41 yy_R_suiteOf ∈ TB_ := TB_2 12 (by decide +kernel) rfl
theorem tw_425 : Cond.methodLink cn_W 68 yy_R_openSuites ∈ TB_ := TB_2 93 (by decide +kernel) rfl
theorem tw_426 : Cond.methodLink cn_E 49 yy_E_takeRowLine ∈ TB_ := TB_2 170 (by decide +kernel) rfl
theorem tw_427 : Cond.instanceMethod yy_E_takeRowLine ∈ TB_ := TB_2 172 (by decide +kernel) rfl
theorem tw_428 : Cond.selects cn_E yy_E_takeRowLine yy_E_takeRowLine ∈ TB_ := TB_p (List.mem_of_getElem? (i := 9) (by decide +kernel)) rfl
theorem tw_429 : Cond.code yy_E_takeRowLine prog_5_method_4_code 2 (Option.some FieldType.boolean) ∈ TB_ := TB_2 173 rfl rfl
theorem tw_430 : Cond.methodLink cn_E 52 yy_E_takeSuiteEnd ∈ TB_ := TB_2 213 (by decide +kernel) rfl
theorem tw_431 : Cond.instanceMethod yy_E_takeSuiteEnd ∈ TB_ := TB_2 215 (by decide +kernel) rfl
theorem tw_432 : Cond.selects cn_E yy_E_takeSuiteEnd yy_E_takeSuiteEnd ∈ TB_ := TB_p (List.mem_of_getElem? (i := 13) (by decide +kernel)) rfl
theorem tw_433 : Cond.code yy_E_takeSuiteEnd prog_5_method_6_code 2 (Option.some FieldType.boolean) ∈ TB_ := TB_2 216 rfl rfl
theorem tw_434 : Cond.methodLink cn_W 19 yy_P_shorten ∈ TB_ := TB_1 189 (by decide +kernel) rfl
theorem tw_435 : Cond.methodLink cn_W 35 yy_R_size ∈ TB_ := TB_2 11 (by decide +kernel) rfl
theorem tw_436 : Cond.methodLink cn_W 59 yy_R_innermost ∈ TB_ := TB_2 85 (by decide +kernel) rfl
theorem tw_437 : Cond.methodLink cn_W 45 yy_W_endSuites ∈ TB_ := TB_2 16 (by decide +kernel) rfl
theorem tw_438 : Cond.instanceMethod yy_W_endSuites ∈ TB_ := TB_2 18 (by decide +kernel) rfl
theorem tw_439 : Cond.selects cn_W yy_W_endSuites yy_W_endSuites ∈ TB_ := TB_p (List.mem_of_getElem? (i := 2) (by decide +kernel)) rfl
theorem tw_440 : Cond.code yy_W_endSuites prog_6_method_3_code 5 (Option.none : Option FieldType) ∈ TB_ := TB_2 19 rfl rfl
theorem tw_441 : Cond.methodLink cn_W 62 yy_W_writeEnd ∈ TB_ := TB_2 89 (by decide +kernel) rfl
theorem tw_442 : Cond.instanceMethod yy_W_writeEnd ∈ TB_ := TB_2 91 (by decide +kernel) rfl
theorem tw_443 : Cond.selects cn_W yy_W_writeEnd yy_W_writeEnd ∈ TB_ := TB_p (List.mem_of_getElem? (i := 7) (by decide +kernel)) rfl
theorem tw_444 : Cond.code yy_W_writeEnd prog_6_method_4_code 1 (Option.none : Option FieldType) ∈ TB_ := TB_2 92 rfl rfl
theorem tw_445 : Cond.methodLink cn_W 49 yy_R_isTest ∈ TB_ := TB_2 76 (by decide +kernel) rfl
theorem tw_446 : Cond.methodLink cn_W 56 yy_W_writeSubtest ∈ TB_ := TB_2 80 (by decide +kernel) rfl
theorem tw_447 : Cond.instanceMethod yy_W_writeSubtest ∈ TB_ := TB_2 82 (by decide +kernel) rfl
theorem tw_448 : Cond.selects cn_W yy_W_writeSubtest yy_W_writeSubtest ∈ TB_ := TB_p (List.mem_of_getElem? (i := 6) (by decide +kernel)) rfl
theorem tw_449 : Cond.code yy_W_writeSubtest prog_6_method_6_code 2 (Option.none : Option FieldType) ∈ TB_ := TB_2 83 rfl rfl
theorem tw_450 : Cond.classLink cn_V 77 cn_W ∈ TB_ := TB_1 172 (by decide +kernel) rfl
theorem tw_451 : Cond.instantiable cn_W 2 ∈ TB_ := TB_1 173 (by decide +kernel) rfl
theorem tw_452 : Cond.code yy_W_init prog_6_method_1_code 3 (Option.none : Option FieldType) ∈ TB_ := TB_1 176 rfl rfl
theorem tw_453 : Cond.methodLink cn_V 79 yy_W_init ∈ TB_ := TB_1 174 (by decide +kernel) rfl
theorem tw_454 : Cond.instanceMethod yy_W_init ∈ TB_ := TB_1 175 (by decide +kernel) rfl
theorem tw_455 : Cond.methodLink cn_V 82 yy_W_writeAll ∈ TB_ := TB_1 185 (by decide +kernel) rfl
theorem tw_456 : Cond.instanceMethod yy_W_writeAll ∈ TB_ := TB_1 186 (by decide +kernel) rfl
theorem tw_457 : Cond.selects cn_W yy_W_writeAll yy_W_writeAll ∈ TB_ := TB_1 187 (by decide +kernel) rfl
theorem tw_458 : Cond.code yy_W_writeAll prog_6_method_2_code 3 (Option.none : Option FieldType) ∈ TB_ := TB_1 188 rfl rfl
theorem tw_459 : Cond.methodLink cn_E 23 yy_R_removeAll ∈ TB_ := TB_2 150 (by decide +kernel) rfl
theorem tw_460 : Cond.methodLink cn_E 28 yy_C_isBehindLastLine ∈ TB_ := TB_2 151 (by decide +kernel) rfl
theorem tw_461 : Cond.instanceMethod yy_C_isBehindLastLine ∈ TB_ := TB_2 152 (by decide +kernel) rfl
theorem tw_462 : Cond.selects cn_C yy_C_isBehindLastLine yy_C_isBehindLastLine ∈ TB_ := TB_2 153 (by decide +kernel) rfl
theorem tw_463 : Cond.code yy_C_isBehindLastLine prog_2_method_2_code 1 (Option.some FieldType.boolean) ∈ TB_ := TB_2 154 rfl rfl
theorem tw_464 : Cond.methodLink cn_E 34 yy_C_goToNextLine ∈ TB_ := TB_2 155 (by decide +kernel) rfl
theorem tw_465 : Cond.instanceMethod yy_C_goToNextLine ∈ TB_ := TB_2 156 (by decide +kernel) rfl
theorem tw_466 : Cond.selects cn_C yy_C_goToNextLine yy_C_goToNextLine ∈ TB_ := TB_2 157 (by decide +kernel) rfl
theorem tw_467 : Cond.code yy_C_goToNextLine prog_2_method_3_code 2 (Option.some FieldType.boolean) ∈ TB_ := TB_2 158 rfl rfl
theorem tw_468 : Cond.methodLink cn_E 37 yy_E_takeLine ∈ TB_ := TB_2 159 (by decide +kernel) rfl
theorem tw_469 : Cond.instanceMethod yy_E_takeLine ∈ TB_ := TB_2 161 (by decide +kernel) rfl
theorem tw_470 : Cond.selects cn_E yy_E_takeLine yy_E_takeLine ∈ TB_ := TB_p (List.mem_of_getElem? (i := 8) (by decide +kernel)) rfl
theorem tw_471 : Cond.code yy_E_takeLine prog_5_method_3_code 1 (Option.some FieldType.boolean) ∈ TB_ := TB_2 162 rfl rfl
theorem tw_472 : Cond.methodLink cn_E 40 yy_C_isAtLineEnd ∈ TB_ := TB_2 222 (by decide +kernel) rfl
theorem tw_473 : Cond.instanceMethod yy_C_isAtLineEnd ∈ TB_ := TB_2 223 (by decide +kernel) rfl
theorem tw_474 : Cond.selects cn_C yy_C_isAtLineEnd yy_C_isAtLineEnd ∈ TB_ := TB_2 224 (by decide +kernel) rfl
theorem tw_475 : Cond.code yy_C_isAtLineEnd prog_2_method_4_code 1 (Option.some FieldType.boolean) ∈ TB_ := TB_2 225 rfl rfl
theorem tw_476 : Cond.classLink cn_V 86 cn_E ∈ TB_ := TB_2 107 (by decide +kernel) rfl
theorem tw_477 : Cond.instantiable cn_E 3 ∈ TB_ := TB_2 108 (by decide +kernel) rfl
theorem tw_478 : Cond.methodLink cn_V 88 yy_P_cursor ∈ TB_ := TB_2 109 (by decide +kernel) rfl
theorem tw_479 : Cond.instanceMethod yy_P_cursor ∈ TB_ := TB_2 110 (by decide +kernel) rfl
theorem tw_480 : Cond.selects cn_P yy_P_cursor yy_P_cursor ∈ TB_ := TB_2 111 (by decide +kernel) rfl
theorem tw_481 : Cond.code yy_P_cursor prog_4_method_11_code 1 (Option.some (FieldType.object "VerdictPages$LineCursor")) ∈ TB_ := TB_2 112 rfl rfl
theorem tw_482 : Cond.code yy_E_init prog_5_method_1_code 3 (Option.none : Option FieldType) ∈ TB_ := TB_2 134 rfl rfl
theorem tw_483 : Cond.methodLink cn_V 92 yy_E_init ∈ TB_ := TB_2 132 (by decide +kernel) rfl
theorem tw_484 : Cond.instanceMethod yy_E_init ∈ TB_ := TB_2 133 (by decide +kernel) rfl
theorem tw_485 : Cond.methodLink cn_V 95 yy_E_readAll ∈ TB_ := TB_2 146 (by decide +kernel) rfl
theorem tw_486 : Cond.instanceMethod yy_E_readAll ∈ TB_ := TB_2 147 (by decide +kernel) rfl
theorem tw_487 : Cond.selects cn_E yy_E_readAll yy_E_readAll ∈ TB_ := TB_2 148 (by decide +kernel) rfl
theorem tw_488 : Cond.code yy_E_readAll prog_5_method_2_code 2 (Option.some FieldType.int) ∈ TB_ := TB_2 149 rfl rfl
theorem tw_489 : Cond.laysFinal cn_R cn_R "kinds" "[I" ∈ TB_ := TB_1 48 (by decide +kernel) rfl
theorem tw_490 : Cond.laysFinal cn_R cn_R "depths" "[I" ∈ TB_ := TB_1 50 (by decide +kernel) rfl
theorem tw_491 : Cond.laysFinal cn_R cn_R "suites" "[I" ∈ TB_ := TB_1 52 (by decide +kernel) rfl
theorem tw_492 : Cond.laysFinal cn_R cn_R "names" "[J" ∈ TB_ := TB_1 54 (by decide +kernel) rfl
theorem tw_493 : Cond.lays cn_R cn_R "count" "I" ∈ TB_ := TB_1 56 (by decide +kernel) rfl
theorem tw_494 : Cond.lays cn_R cn_R "lastOpen" "I" ∈ TB_ := TB_1 58 (by decide +kernel) rfl
theorem tw_495 : Cond.lays cn_R cn_R "openCount" "I" ∈ TB_ := TB_1 60 (by decide +kernel) rfl
theorem tw_496 : Cond.laysFinal cn_P cn_P "characters" "[C" ∈ TB_ := TB_1 29 (by decide +kernel) rfl
theorem tw_497 : Cond.lays cn_P cn_P "size" "I" ∈ TB_ := TB_1 31 (by decide +kernel) rfl
theorem tw_498 : Cond.laysFinal cn_W cn_W "page" "LVerdictPages$Page;" ∈ TB_ := TB_1 180 (by decide +kernel) rfl
theorem tw_499 : Cond.laysFinal cn_W cn_W "report" "LVerdictPages$Report;" ∈ TB_ := TB_1 182 (by decide +kernel) rfl
theorem tw_500 : Cond.laysFinal cn_C cn_C "characters" "[C" ∈ TB_ := TB_2 123 (by decide +kernel) rfl
theorem tw_501 : Cond.laysFinal cn_C cn_C "size" "I" ∈ TB_ := TB_2 125 (by decide +kernel) rfl
theorem tw_502 : Cond.lays cn_C cn_C "spot" "I" ∈ TB_ := TB_2 127 (by decide +kernel) rfl
theorem tw_503 : Cond.lays cn_C cn_C "lineEnd" "I" ∈ TB_ := TB_2 129 (by decide +kernel) rfl
theorem tw_504 : Cond.laysFinal cn_E cn_E "cursor" "LVerdictPages$LineCursor;" ∈ TB_ := TB_2 139 (by decide +kernel) rfl
theorem tw_505 : Cond.laysFinal cn_E cn_E "report" "LVerdictPages$Report;" ∈ TB_ := TB_2 141 (by decide +kernel) rfl
theorem tw_506 : Cond.lays cn_E cn_E "stage" "I" ∈ TB_ := TB_2 143 (by decide +kernel) rfl
theorem tw_507 : Cond.laysFinal cn_V cn_V "page" "LVerdictPages$Page;" ∈ TB_ := TB_1 69 (by decide +kernel) rfl
theorem tw_508 : Cond.lays cn_V cn_V "report" "LVerdictPages$Report;" ∈ TB_ := TB_1 71 (by decide +kernel) rfl
theorem tw_509 : Cond.lays cn_V cn_V "spare" "LVerdictPages$Report;" ∈ TB_ := TB_1 73 (by decide +kernel) rfl
theorem tw_510 : Cond.lays cn_V cn_V "begunName" "J" ∈ TB_ := TB_1 75 (by decide +kernel) rfl
theorem tw_511 : Cond.lays cn_M cn_M "begun" "I" ∈ TB_ := TB_3 58 (by decide +kernel) rfl
theorem tw_512 : Cond.laysFinal cn_M cn_M "name" "[C" ∈ TB_ := TB_3 60 (by decide +kernel) rfl
theorem tw_513 : Cond.laysFinal cn_M cn_M "count" "[I" ∈ TB_ := TB_3 62 (by decide +kernel) rfl
theorem tw_514 : Cond.laysFinal cn_M cn_M "parent" "[I" ∈ TB_ := TB_3 64 (by decide +kernel) rfl
theorem tw_515 : Cond.laysFinal cn_M cn_M "result" "[I" ∈ TB_ := TB_3 66 (by decide +kernel) rfl
theorem tw_516 : Cond.laysFinal cn_M cn_M "closed" "[Z" ∈ TB_ := TB_3 68 (by decide +kernel) rfl
theorem tw_517 : Cond.laysFinal cn_M cn_M "size" "[I" ∈ TB_ := TB_3 70 (by decide +kernel) rfl
theorem tw_518 : Cond.laysFinal cn_M cn_M "letters" "[C" ∈ TB_ := TB_3 72 (by decide +kernel) rfl
theorem tw_519 : Cond.lays cn_M cn_M "length" "I" ∈ TB_ := TB_3 74 (by decide +kernel) rfl
theorem tw_520 : Cond.laysFinal cn_M cn_M "page" "[C" ∈ TB_ := TB_3 76 (by decide +kernel) rfl
theorem tw_521 : Cond.lays cn_M cn_M "at" "I" ∈ TB_ := TB_3 78 (by decide +kernel) rfl
theorem tw_522 : Cond.lays cn_M cn_M "end" "I" ∈ TB_ := TB_3 80 (by decide +kernel) rfl
theorem tw_523 : Cond.lays cn_M cn_M "suite" "I" ∈ TB_ := TB_3 82 (by decide +kernel) rfl
theorem tw_524 : Cond.lays cn_M cn_M "planned" "Z" ∈ TB_ := TB_3 84 (by decide +kernel) rfl
theorem tw_525 : Cond.lays cn_M cn_M "over" "Z" ∈ TB_ := TB_3 86 (by decide +kernel) rfl
theorem tw_526 : Cond.lays cn_M cn_M "taken" "I" ∈ TB_ := TB_3 88 (by decide +kernel) rfl
theorem tw_527 : Cond.laysFinal cn_M cn_M "read" "[C" ∈ TB_ := TB_3 90 (by decide +kernel) rfl
theorem in_R : ∀ w ∈ u_ws cn_R tt_R 7, w ∈ TB_ := by
  intro w h
  obtain ⟨k, hk, rfl⟩ := List.mem_map.mp h
  have hk := List.mem_range.mp hk
  rcases (show k = 0 ∨ k = 1 ∨ k = 2 ∨ k = 3 ∨ k = 4 ∨ k = 5 ∨ k = 6 by omega) with rfl | rfl | rfl | rfl | rfl | rfl | rfl
  · exact tw_489
  · exact tw_490
  · exact tw_491
  · exact tw_492
  · exact tw_493
  · exact tw_494
  · exact tw_495
theorem in_P : ∀ w ∈ u_ws cn_P tt_P 2, w ∈ TB_ := by
  intro w h
  obtain ⟨k, hk, rfl⟩ := List.mem_map.mp h
  have hk := List.mem_range.mp hk
  rcases (show k = 0 ∨ k = 1 by omega) with rfl | rfl
  · exact tw_496
  · exact tw_497
theorem in_W : ∀ w ∈ u_ws cn_W tt_W 2, w ∈ TB_ := by
  intro w h
  obtain ⟨k, hk, rfl⟩ := List.mem_map.mp h
  have hk := List.mem_range.mp hk
  rcases (show k = 0 ∨ k = 1 by omega) with rfl | rfl
  · exact tw_498
  · exact tw_499
theorem in_C : ∀ w ∈ u_ws cn_C tt_C 4, w ∈ TB_ := by
  intro w h
  obtain ⟨k, hk, rfl⟩ := List.mem_map.mp h
  have hk := List.mem_range.mp hk
  rcases (show k = 0 ∨ k = 1 ∨ k = 2 ∨ k = 3 by omega) with rfl | rfl | rfl | rfl
  · exact tw_500
  · exact tw_501
  · exact tw_502
  · exact tw_503
theorem in_E : ∀ w ∈ u_ws cn_E tt_E 3, w ∈ TB_ := by
  intro w h
  obtain ⟨k, hk, rfl⟩ := List.mem_map.mp h
  have hk := List.mem_range.mp hk
  rcases (show k = 0 ∨ k = 1 ∨ k = 2 by omega) with rfl | rfl | rfl
  · exact tw_504
  · exact tw_505
  · exact tw_506
theorem in_V : ∀ w ∈ u_ws cn_V tt_V 4, w ∈ TB_ := by
  intro w h
  obtain ⟨k, hk, rfl⟩ := List.mem_map.mp h
  have hk := List.mem_range.mp hk
  rcases (show k = 0 ∨ k = 1 ∨ k = 2 ∨ k = 3 by omega) with rfl | rfl | rfl | rfl
  · exact tw_507
  · exact tw_508
  · exact tw_509
  · exact tw_510
theorem in_M : ∀ w ∈ u_ws cn_M tt_M 17, w ∈ TB_ := by
  intro w h
  obtain ⟨k, hk, rfl⟩ := List.mem_map.mp h
  have hk := List.mem_range.mp hk
  rcases (show k = 0 ∨ k = 1 ∨ k = 2 ∨ k = 3 ∨ k = 4 ∨ k = 5 ∨ k = 6 ∨ k = 7 ∨ k = 8 ∨ k = 9 ∨ k = 10 ∨ k = 11 ∨ k = 12 ∨ k = 13 ∨ k = 14 ∨ k = 15 ∨ k = 16 by omega) with rfl | rfl | rfl | rfl | rfl | rfl | rfl | rfl | rfl | rfl | rfl | rfl | rfl | rfl | rfl | rfl | rfl
  · exact tw_511
  · exact tw_512
  · exact tw_513
  · exact tw_514
  · exact tw_515
  · exact tw_516
  · exact tw_517
  · exact tw_518
  · exact tw_519
  · exact tw_520
  · exact tw_521
  · exact tw_522
  · exact tw_523
  · exact tw_524
  · exact tw_525
  · exact tw_526
  · exact tw_527
