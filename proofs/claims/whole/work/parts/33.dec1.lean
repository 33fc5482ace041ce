theorem dd_C_init_0 : decode cc_C_init 0 = .ok (.aload_n 0, 1) := by decide +kernel
theorem dd_C_init_1 : decode cc_C_init 1 = .ok (.invokespecial 3, 3) := by decide +kernel
theorem dd_C_init_4 : decode cc_C_init 4 = .ok (.aload_n 0, 1) := by decide +kernel
theorem dd_C_init_5 : decode cc_C_init 5 = .ok (.iconst 0, 1) := by decide +kernel
theorem dd_C_init_6 : decode cc_C_init 6 = .ok (.putfield 9, 3) := by decide +kernel
theorem dd_C_init_9 : decode cc_C_init 9 = .ok (.aload_n 0, 1) := by decide +kernel
theorem dd_C_init_10 : decode cc_C_init 10 = .ok (.iconst (-1), 1) := by decide +kernel
theorem dd_C_init_11 : decode cc_C_init 11 = .ok (.putfield 15, 3) := by decide +kernel
theorem dd_C_init_14 : decode cc_C_init 14 = .ok (.aload_n 0, 1) := by decide +kernel
theorem dd_C_init_15 : decode cc_C_init 15 = .ok (.aload_n 1, 1) := by decide +kernel
theorem dd_C_init_16 : decode cc_C_init 16 = .ok (.putfield 18, 3) := by decide +kernel
theorem dd_C_init_19 : decode cc_C_init 19 = .ok (.aload_n 0, 1) := by decide +kernel
theorem dd_C_init_20 : decode cc_C_init 20 = .ok (.iload_n 2, 1) := by decide +kernel
theorem dd_C_init_21 : decode cc_C_init 21 = .ok (.putfield 22, 3) := by decide +kernel
theorem dd_C_init_24 : decode cc_C_init 24 = .ok (.return_, 1) := by decide +kernel
theorem dd_C_isBehindLastLine_0 : decode cc_C_isBehindLastLine 0 = .ok (.aload_n 0, 1) := by decide +kernel
theorem dd_C_isBehindLastLine_1 : decode cc_C_isBehindLastLine 1 = .ok (.getfield 15, 3) := by decide +kernel
theorem dd_C_isBehindLastLine_4 : decode cc_C_isBehindLastLine 4 = .ok (.iconst 1, 1) := by decide +kernel
theorem dd_C_isBehindLastLine_5 : decode cc_C_isBehindLastLine 5 = .ok (.iadd, 1) := by decide +kernel
theorem dd_C_isBehindLastLine_6 : decode cc_C_isBehindLastLine 6 = .ok (.aload_n 0, 1) := by decide +kernel
theorem dd_C_isBehindLastLine_7 : decode cc_C_isBehindLastLine 7 = .ok (.getfield 22, 3) := by decide +kernel
theorem dd_C_isBehindLastLine_10 : decode cc_C_isBehindLastLine 10 = .ok (.if_icmp .lt 7, 3) := by decide +kernel
theorem dd_C_isBehindLastLine_13 : decode cc_C_isBehindLastLine 13 = .ok (.iconst 1, 1) := by decide +kernel
theorem dd_C_isBehindLastLine_14 : decode cc_C_isBehindLastLine 14 = .ok (.goto 4, 3) := by decide +kernel
theorem dd_C_isBehindLastLine_17 : decode cc_C_isBehindLastLine 17 = .ok (.iconst 0, 1) := by decide +kernel
theorem dd_C_isBehindLastLine_18 : decode cc_C_isBehindLastLine 18 = .ok (.ireturn, 1) := by decide +kernel
theorem dd_C_goToNextLine_0 : decode cc_C_goToNextLine 0 = .ok (.aload_n 0, 1) := by decide +kernel
theorem dd_C_goToNextLine_1 : decode cc_C_goToNextLine 1 = .ok (.aload_n 0, 1) := by decide +kernel
theorem dd_C_goToNextLine_2 : decode cc_C_goToNextLine 2 = .ok (.getfield 15, 3) := by decide +kernel
theorem dd_C_goToNextLine_5 : decode cc_C_goToNextLine 5 = .ok (.iconst 1, 1) := by decide +kernel
theorem dd_C_goToNextLine_6 : decode cc_C_goToNextLine 6 = .ok (.iadd, 1) := by decide +kernel
theorem dd_C_goToNextLine_7 : decode cc_C_goToNextLine 7 = .ok (.putfield 9, 3) := by decide +kernel
theorem dd_C_goToNextLine_10 : decode cc_C_goToNextLine 10 = .ok (.aload_n 0, 1) := by decide +kernel
theorem dd_C_goToNextLine_11 : decode cc_C_goToNextLine 11 = .ok (.getfield 9, 3) := by decide +kernel
theorem dd_C_goToNextLine_14 : decode cc_C_goToNextLine 14 = .ok (.istore_n 1, 1) := by decide +kernel
theorem dd_C_goToNextLine_15 : decode cc_C_goToNextLine 15 = .ok (.iload_n 1, 1) := by decide +kernel
theorem dd_C_goToNextLine_16 : decode cc_C_goToNextLine 16 = .ok (.aload_n 0, 1) := by decide +kernel
theorem dd_C_goToNextLine_17 : decode cc_C_goToNextLine 17 = .ok (.getfield 22, 3) := by decide +kernel
theorem dd_C_goToNextLine_20 : decode cc_C_goToNextLine 20 = .ok (.if_icmp .ge 27, 3) := by decide +kernel
theorem dd_C_goToNextLine_23 : decode cc_C_goToNextLine 23 = .ok (.aload_n 0, 1) := by decide +kernel
theorem dd_C_goToNextLine_24 : decode cc_C_goToNextLine 24 = .ok (.getfield 18, 3) := by decide +kernel
theorem dd_C_goToNextLine_27 : decode cc_C_goToNextLine 27 = .ok (.iload_n 1, 1) := by decide +kernel
theorem dd_C_goToNextLine_28 : decode cc_C_goToNextLine 28 = .ok (.caload, 1) := by decide +kernel
theorem dd_C_goToNextLine_29 : decode cc_C_goToNextLine 29 = .ok (.bipush 10, 2) := by decide +kernel
theorem dd_C_goToNextLine_31 : decode cc_C_goToNextLine 31 = .ok (.if_icmp .ne 10, 3) := by decide +kernel
theorem dd_C_goToNextLine_34 : decode cc_C_goToNextLine 34 = .ok (.aload_n 0, 1) := by decide +kernel
theorem dd_C_goToNextLine_35 : decode cc_C_goToNextLine 35 = .ok (.iload_n 1, 1) := by decide +kernel
theorem dd_C_goToNextLine_36 : decode cc_C_goToNextLine 36 = .ok (.putfield 15, 3) := by decide +kernel
theorem dd_C_goToNextLine_39 : decode cc_C_goToNextLine 39 = .ok (.iconst 1, 1) := by decide +kernel
theorem dd_C_goToNextLine_40 : decode cc_C_goToNextLine 40 = .ok (.ireturn, 1) := by decide +kernel
theorem dd_C_goToNextLine_41 : decode cc_C_goToNextLine 41 = .ok (.iinc 1 1, 3) := by decide +kernel
theorem dd_C_goToNextLine_44 : decode cc_C_goToNextLine 44 = .ok (.goto (-29), 3) := by decide +kernel
theorem dd_C_goToNextLine_47 : decode cc_C_goToNextLine 47 = .ok (.aload_n 0, 1) := by decide +kernel
theorem dd_C_goToNextLine_48 : decode cc_C_goToNextLine 48 = .ok (.aload_n 0, 1) := by decide +kernel
theorem dd_C_goToNextLine_49 : decode cc_C_goToNextLine 49 = .ok (.getfield 22, 3) := by decide +kernel
theorem dd_C_goToNextLine_52 : decode cc_C_goToNextLine 52 = .ok (.putfield 15, 3) := by decide +kernel
theorem dd_C_goToNextLine_55 : decode cc_C_goToNextLine 55 = .ok (.iconst 0, 1) := by decide +kernel
theorem dd_C_goToNextLine_56 : decode cc_C_goToNextLine 56 = .ok (.ireturn, 1) := by decide +kernel
theorem dd_C_isAtLineEnd_0 : decode cc_C_isAtLineEnd 0 = .ok (.aload_n 0, 1) := by decide +kernel
theorem dd_C_isAtLineEnd_1 : decode cc_C_isAtLineEnd 1 = .ok (.getfield 9, 3) := by decide +kernel
theorem dd_C_isAtLineEnd_4 : decode cc_C_isAtLineEnd 4 = .ok (.aload_n 0, 1) := by decide +kernel
theorem dd_C_isAtLineEnd_5 : decode cc_C_isAtLineEnd 5 = .ok (.getfield 15, 3) := by decide +kernel
theorem dd_C_isAtLineEnd_8 : decode cc_C_isAtLineEnd 8 = .ok (.if_icmp .ne 7, 3) := by decide +kernel
theorem dd_C_isAtLineEnd_11 : decode cc_C_isAtLineEnd 11 = .ok (.iconst 1, 1) := by decide +kernel
theorem dd_C_isAtLineEnd_12 : decode cc_C_isAtLineEnd 12 = .ok (.goto 4, 3) := by decide +kernel
theorem dd_C_isAtLineEnd_15 : decode cc_C_isAtLineEnd 15 = .ok (.iconst 0, 1) := by decide +kernel
theorem dd_C_isAtLineEnd_16 : decode cc_C_isAtLineEnd 16 = .ok (.ireturn, 1) := by decide +kernel
theorem dd_C_skipText_0 : decode cc_C_skipText 0 = .ok (.aload_n 1, 1) := by decide +kernel
theorem dd_C_skipText_1 : decode cc_C_skipText 1 = .ok (.invokevirtual 25, 3) := by decide +kernel
theorem dd_C_skipText_4 : decode cc_C_skipText 4 = .ok (.aload_n 0, 1) := by decide +kernel
theorem dd_C_skipText_5 : decode cc_C_skipText 5 = .ok (.getfield 15, 3) := by decide +kernel
theorem dd_C_skipText_8 : decode cc_C_skipText 8 = .ok (.aload_n 0, 1) := by decide +kernel
theorem dd_C_skipText_9 : decode cc_C_skipText 9 = .ok (.getfield 9, 3) := by decide +kernel
theorem dd_C_skipText_12 : decode cc_C_skipText 12 = .ok (.isub, 1) := by decide +kernel
theorem dd_C_skipText_13 : decode cc_C_skipText 13 = .ok (.if_icmp .le 5, 3) := by decide +kernel
theorem dd_C_skipText_16 : decode cc_C_skipText 16 = .ok (.iconst 0, 1) := by decide +kernel
theorem dd_C_skipText_17 : decode cc_C_skipText 17 = .ok (.ireturn, 1) := by decide +kernel
theorem dd_C_skipText_18 : decode cc_C_skipText 18 = .ok (.iconst 0, 1) := by decide +kernel
theorem dd_C_skipText_19 : decode cc_C_skipText 19 = .ok (.istore_n 2, 1) := by decide +kernel
theorem dd_C_skipText_20 : decode cc_C_skipText 20 = .ok (.iload_n 2, 1) := by decide +kernel
theorem dd_C_skipText_21 : decode cc_C_skipText 21 = .ok (.aload_n 1, 1) := by decide +kernel
theorem dd_C_skipText_22 : decode cc_C_skipText 22 = .ok (.invokevirtual 25, 3) := by decide +kernel
theorem dd_C_skipText_25 : decode cc_C_skipText 25 = .ok (.if_icmp .ge 30, 3) := by decide +kernel
theorem dd_C_skipText_28 : decode cc_C_skipText 28 = .ok (.aload_n 0, 1) := by decide +kernel
theorem dd_C_skipText_29 : decode cc_C_skipText 29 = .ok (.getfield 18, 3) := by decide +kernel
theorem dd_C_skipText_32 : decode cc_C_skipText 32 = .ok (.aload_n 0, 1) := by decide +kernel
theorem dd_C_skipText_33 : decode cc_C_skipText 33 = .ok (.getfield 9, 3) := by decide +kernel
theorem dd_C_skipText_36 : decode cc_C_skipText 36 = .ok (.iload_n 2, 1) := by decide +kernel
theorem dd_C_skipText_37 : decode cc_C_skipText 37 = .ok (.iadd, 1) := by decide +kernel
theorem dd_C_skipText_38 : decode cc_C_skipText 38 = .ok (.caload, 1) := by decide +kernel
theorem dd_C_skipText_39 : decode cc_C_skipText 39 = .ok (.aload_n 1, 1) := by decide +kernel
theorem dd_C_skipText_40 : decode cc_C_skipText 40 = .ok (.iload_n 2, 1) := by decide +kernel
theorem dd_C_skipText_41 : decode cc_C_skipText 41 = .ok (.invokevirtual 31, 3) := by decide +kernel
theorem dd_C_skipText_44 : decode cc_C_skipText 44 = .ok (.if_icmp .eq 5, 3) := by decide +kernel
theorem dd_C_skipText_47 : decode cc_C_skipText 47 = .ok (.iconst 0, 1) := by decide +kernel
theorem dd_C_skipText_48 : decode cc_C_skipText 48 = .ok (.ireturn, 1) := by decide +kernel
theorem dd_C_skipText_49 : decode cc_C_skipText 49 = .ok (.iinc 2 1, 3) := by decide +kernel
theorem dd_C_skipText_52 : decode cc_C_skipText 52 = .ok (.goto (-32), 3) := by decide +kernel
theorem dd_C_skipText_55 : decode cc_C_skipText 55 = .ok (.aload_n 0, 1) := by decide +kernel
theorem dd_C_skipText_56 : decode cc_C_skipText 56 = .ok (.dup, 1) := by decide +kernel
theorem dd_C_skipText_57 : decode cc_C_skipText 57 = .ok (.getfield 9, 3) := by decide +kernel
theorem dd_C_skipText_60 : decode cc_C_skipText 60 = .ok (.aload_n 1, 1) := by decide +kernel
theorem dd_C_skipText_61 : decode cc_C_skipText 61 = .ok (.invokevirtual 25, 3) := by decide +kernel
theorem dd_C_skipText_64 : decode cc_C_skipText 64 = .ok (.iadd, 1) := by decide +kernel
theorem dd_C_skipText_65 : decode cc_C_skipText 65 = .ok (.putfield 9, 3) := by decide +kernel
theorem dd_C_skipText_68 : decode cc_C_skipText 68 = .ok (.iconst 1, 1) := by decide +kernel
theorem dd_C_skipText_69 : decode cc_C_skipText 69 = .ok (.ireturn, 1) := by decide +kernel
theorem dd_C_skipIndent_0 : decode cc_C_skipIndent 0 = .ok (.iconst 0, 1) := by decide +kernel
theorem dd_C_skipIndent_1 : decode cc_C_skipIndent 1 = .ok (.istore_n 2, 1) := by decide +kernel
theorem dd_C_skipIndent_2 : decode cc_C_skipIndent 2 = .ok (.iload_n 2, 1) := by decide +kernel
theorem dd_C_skipIndent_3 : decode cc_C_skipIndent 3 = .ok (.iload_n 1, 1) := by decide +kernel
theorem dd_C_skipIndent_4 : decode cc_C_skipIndent 4 = .ok (.if_icmp .ge 20, 3) := by decide +kernel
theorem dd_C_skipIndent_7 : decode cc_C_skipIndent 7 = .ok (.aload_n 0, 1) := by decide +kernel
theorem dd_C_skipIndent_8 : decode cc_C_skipIndent 8 = .ok (.ldc 35, 2) := by decide +kernel
theorem dd_C_skipIndent_10 : decode cc_C_skipIndent 10 = .ok (.invokevirtual 37, 3) := by decide +kernel
theorem dd_C_skipIndent_13 : decode cc_C_skipIndent 13 = .ok (.ifCond .ne 5, 3) := by decide +kernel
theorem dd_C_skipIndent_16 : decode cc_C_skipIndent 16 = .ok (.iconst 0, 1) := by decide +kernel
theorem dd_C_skipIndent_17 : decode cc_C_skipIndent 17 = .ok (.ireturn, 1) := by decide +kernel
theorem dd_C_skipIndent_18 : decode cc_C_skipIndent 18 = .ok (.iinc 2 1, 3) := by decide +kernel
theorem dd_C_skipIndent_21 : decode cc_C_skipIndent 21 = .ok (.goto (-19), 3) := by decide +kernel
theorem dd_C_skipIndent_24 : decode cc_C_skipIndent 24 = .ok (.iconst 1, 1) := by decide +kernel
theorem dd_C_skipIndent_25 : decode cc_C_skipIndent 25 = .ok (.ireturn, 1) := by decide +kernel
theorem dd_C_takeLetter_0 : decode cc_C_takeLetter 0 = .ok (.aload_n 0, 1) := by decide +kernel
theorem dd_C_takeLetter_1 : decode cc_C_takeLetter 1 = .ok (.getfield 9, 3) := by decide +kernel
theorem dd_C_takeLetter_4 : decode cc_C_takeLetter 4 = .ok (.aload_n 0, 1) := by decide +kernel
theorem dd_C_takeLetter_5 : decode cc_C_takeLetter 5 = .ok (.getfield 15, 3) := by decide +kernel
theorem dd_C_takeLetter_8 : decode cc_C_takeLetter 8 = .ok (.if_icmp .ge 15, 3) := by decide +kernel
theorem dd_C_takeLetter_11 : decode cc_C_takeLetter 11 = .ok (.aload_n 0, 1) := by decide +kernel
theorem dd_C_takeLetter_12 : decode cc_C_takeLetter 12 = .ok (.getfield 18, 3) := by decide +kernel
theorem dd_C_takeLetter_15 : decode cc_C_takeLetter 15 = .ok (.aload_n 0, 1) := by decide +kernel
theorem dd_C_takeLetter_16 : decode cc_C_takeLetter 16 = .ok (.getfield 9, 3) := by decide +kernel
theorem dd_C_takeLetter_19 : decode cc_C_takeLetter 19 = .ok (.caload, 1) := by decide +kernel
theorem dd_C_takeLetter_20 : decode cc_C_takeLetter 20 = .ok (.goto 4, 3) := by decide +kernel
theorem dd_C_takeLetter_23 : decode cc_C_takeLetter 23 = .ok (.iconst 0, 1) := by decide +kernel
theorem dd_C_takeLetter_24 : decode cc_C_takeLetter 24 = .ok (.istore_n 1, 1) := by decide +kernel
theorem dd_C_takeLetter_25 : decode cc_C_takeLetter 25 = .ok (.aload_n 0, 1) := by decide +kernel
theorem dd_C_takeLetter_26 : decode cc_C_takeLetter 26 = .ok (.getfield 9, 3) := by decide +kernel
theorem dd_C_takeLetter_29 : decode cc_C_takeLetter 29 = .ok (.iconst 1, 1) := by decide +kernel
theorem dd_C_takeLetter_30 : decode cc_C_takeLetter 30 = .ok (.iadd, 1) := by decide +kernel
theorem dd_C_takeLetter_31 : decode cc_C_takeLetter 31 = .ok (.aload_n 0, 1) := by decide +kernel
theorem dd_C_takeLetter_32 : decode cc_C_takeLetter 32 = .ok (.getfield 15, 3) := by decide +kernel
theorem dd_C_takeLetter_35 : decode cc_C_takeLetter 35 = .ok (.if_icmp .ge 17, 3) := by decide +kernel
theorem dd_C_takeLetter_38 : decode cc_C_takeLetter 38 = .ok (.aload_n 0, 1) := by decide +kernel
theorem dd_C_takeLetter_39 : decode cc_C_takeLetter 39 = .ok (.getfield 18, 3) := by decide +kernel
theorem dd_C_takeLetter_42 : decode cc_C_takeLetter 42 = .ok (.aload_n 0, 1) := by decide +kernel
theorem dd_C_takeLetter_43 : decode cc_C_takeLetter 43 = .ok (.getfield 9, 3) := by decide +kernel
theorem dd_C_takeLetter_46 : decode cc_C_takeLetter 46 = .ok (.iconst 1, 1) := by decide +kernel
theorem dd_C_takeLetter_47 : decode cc_C_takeLetter 47 = .ok (.iadd, 1) := by decide +kernel
theorem dd_C_takeLetter_48 : decode cc_C_takeLetter 48 = .ok (.caload, 1) := by decide +kernel
theorem dd_C_takeLetter_49 : decode cc_C_takeLetter 49 = .ok (.goto 4, 3) := by decide +kernel
theorem dd_C_takeLetter_52 : decode cc_C_takeLetter 52 = .ok (.iconst 0, 1) := by decide +kernel
theorem dd_C_takeLetter_53 : decode cc_C_takeLetter 53 = .ok (.istore_n 2, 1) := by decide +kernel
theorem dd_C_takeLetter_54 : decode cc_C_takeLetter 54 = .ok (.iload_n 1, 1) := by decide +kernel
theorem dd_C_takeLetter_55 : decode cc_C_takeLetter 55 = .ok (.bipush 92, 2) := by decide +kernel
theorem dd_C_takeLetter_57 : decode cc_C_takeLetter 57 = .ok (.if_icmp .ne 27, 3) := by decide +kernel
theorem dd_C_takeLetter_60 : decode cc_C_takeLetter 60 = .ok (.iload_n 2, 1) := by decide +kernel
theorem dd_C_takeLetter_61 : decode cc_C_takeLetter 61 = .ok (.bipush 92, 2) := by decide +kernel
theorem dd_C_takeLetter_63 : decode cc_C_takeLetter 63 = .ok (.if_icmp .eq 9, 3) := by decide +kernel
theorem dd_C_takeLetter_66 : decode cc_C_takeLetter 66 = .ok (.iload_n 2, 1) := by decide +kernel
theorem dd_C_takeLetter_67 : decode cc_C_takeLetter 67 = .ok (.bipush 35, 2) := by decide +kernel
theorem dd_C_takeLetter_69 : decode cc_C_takeLetter 69 = .ok (.if_icmp .ne 15, 3) := by decide +kernel
theorem dd_C_takeLetter_72 : decode cc_C_takeLetter 72 = .ok (.aload_n 0, 1) := by decide +kernel
theorem dd_C_takeLetter_73 : decode cc_C_takeLetter 73 = .ok (.dup, 1) := by decide +kernel
theorem dd_C_takeLetter_74 : decode cc_C_takeLetter 74 = .ok (.getfield 9, 3) := by decide +kernel
theorem dd_C_takeLetter_77 : decode cc_C_takeLetter 77 = .ok (.iconst 2, 1) := by decide +kernel
theorem dd_C_takeLetter_78 : decode cc_C_takeLetter 78 = .ok (.iadd, 1) := by decide +kernel
theorem dd_C_takeLetter_79 : decode cc_C_takeLetter 79 = .ok (.putfield 9, 3) := by decide +kernel
theorem dd_C_takeLetter_82 : decode cc_C_takeLetter 82 = .ok (.iload_n 2, 1) := by decide +kernel
theorem dd_C_takeLetter_83 : decode cc_C_takeLetter 83 = .ok (.ireturn, 1) := by decide +kernel
theorem dd_C_takeLetter_84 : decode cc_C_takeLetter 84 = .ok (.iload_n 1, 1) := by decide +kernel
theorem dd_C_takeLetter_85 : decode cc_C_takeLetter 85 = .ok (.ifCond .eq 27, 3) := by decide +kernel
theorem dd_C_takeLetter_88 : decode cc_C_takeLetter 88 = .ok (.iload_n 1, 1) := by decide +kernel
theorem dd_C_takeLetter_89 : decode cc_C_takeLetter 89 = .ok (.bipush 92, 2) := by decide +kernel
theorem dd_C_takeLetter_91 : decode cc_C_takeLetter 91 = .ok (.if_icmp .eq 21, 3) := by decide +kernel
theorem dd_C_takeLetter_94 : decode cc_C_takeLetter 94 = .ok (.iload_n 1, 1) := by decide +kernel
theorem dd_C_takeLetter_95 : decode cc_C_takeLetter 95 = .ok (.bipush 35, 2) := by decide +kernel
theorem dd_C_takeLetter_97 : decode cc_C_takeLetter 97 = .ok (.if_icmp .eq 15, 3) := by decide +kernel
theorem dd_C_takeLetter_100 : decode cc_C_takeLetter 100 = .ok (.iload_n 1, 1) := by decide +kernel
theorem dd_C_takeLetter_101 : decode cc_C_takeLetter 101 = .ok (.bipush 32, 2) := by decide +kernel
theorem dd_C_takeLetter_103 : decode cc_C_takeLetter 103 = .ok (.if_icmp .ne 11, 3) := by decide +kernel
theorem dd_C_takeLetter_106 : decode cc_C_takeLetter 106 = .ok (.iload_n 2, 1) := by decide +kernel
theorem dd_C_takeLetter_107 : decode cc_C_takeLetter 107 = .ok (.bipush 35, 2) := by decide +kernel
theorem dd_C_takeLetter_109 : decode cc_C_takeLetter 109 = .ok (.if_icmp .ne 5, 3) := by decide +kernel
theorem dd_C_takeLetter_112 : decode cc_C_takeLetter 112 = .ok (.iconst 0, 1) := by decide +kernel
theorem dd_C_takeLetter_113 : decode cc_C_takeLetter 113 = .ok (.ireturn, 1) := by decide +kernel
theorem dd_C_takeLetter_114 : decode cc_C_takeLetter 114 = .ok (.aload_n 0, 1) := by decide +kernel
theorem dd_C_takeLetter_115 : decode cc_C_takeLetter 115 = .ok (.dup, 1) := by decide +kernel
theorem dd_C_takeLetter_116 : decode cc_C_takeLetter 116 = .ok (.getfield 9, 3) := by decide +kernel
theorem dd_C_takeLetter_119 : decode cc_C_takeLetter 119 = .ok (.iconst 1, 1) := by decide +kernel
theorem dd_C_takeLetter_120 : decode cc_C_takeLetter 120 = .ok (.iadd, 1) := by decide +kernel
theorem dd_C_takeLetter_121 : decode cc_C_takeLetter 121 = .ok (.putfield 9, 3) := by decide +kernel
theorem dd_C_takeLetter_124 : decode cc_C_takeLetter 124 = .ok (.iload_n 1, 1) := by decide +kernel
theorem dd_C_takeLetter_125 : decode cc_C_takeLetter 125 = .ok (.ireturn, 1) := by decide +kernel
theorem dd_C_skipDigit_0 : decode cc_C_skipDigit 0 = .ok (.aload_n 0, 1) := by decide +kernel
theorem dd_C_skipDigit_1 : decode cc_C_skipDigit 1 = .ok (.getfield 9, 3) := by decide +kernel
theorem dd_C_skipDigit_4 : decode cc_C_skipDigit 4 = .ok (.aload_n 0, 1) := by decide +kernel
theorem dd_C_skipDigit_5 : decode cc_C_skipDigit 5 = .ok (.getfield 15, 3) := by decide +kernel
theorem dd_C_skipDigit_8 : decode cc_C_skipDigit 8 = .ok (.if_icmp .ge 19, 3) := by decide +kernel
theorem dd_C_skipDigit_11 : decode cc_C_skipDigit 11 = .ok (.aload_n 0, 1) := by decide +kernel
theorem dd_C_skipDigit_12 : decode cc_C_skipDigit 12 = .ok (.getfield 18, 3) := by decide +kernel
theorem dd_C_skipDigit_15 : decode cc_C_skipDigit 15 = .ok (.aload_n 0, 1) := by decide +kernel
theorem dd_C_skipDigit_16 : decode cc_C_skipDigit 16 = .ok (.getfield 9, 3) := by decide +kernel
theorem dd_C_skipDigit_19 : decode cc_C_skipDigit 19 = .ok (.caload, 1) := by decide +kernel
theorem dd_C_skipDigit_20 : decode cc_C_skipDigit 20 = .ok (.bipush 48, 2) := by decide +kernel
theorem dd_C_skipDigit_22 : decode cc_C_skipDigit 22 = .ok (.iload_n 1, 1) := by decide +kernel
theorem dd_C_skipDigit_23 : decode cc_C_skipDigit 23 = .ok (.iadd, 1) := by decide +kernel
theorem dd_C_skipDigit_24 : decode cc_C_skipDigit 24 = .ok (.if_icmp .eq 5, 3) := by decide +kernel
theorem dd_C_skipDigit_27 : decode cc_C_skipDigit 27 = .ok (.iconst 0, 1) := by decide +kernel
theorem dd_C_skipDigit_28 : decode cc_C_skipDigit 28 = .ok (.ireturn, 1) := by decide +kernel
theorem dd_C_skipDigit_29 : decode cc_C_skipDigit 29 = .ok (.aload_n 0, 1) := by decide +kernel
theorem dd_C_skipDigit_30 : decode cc_C_skipDigit 30 = .ok (.dup, 1) := by decide +kernel
theorem dd_C_skipDigit_31 : decode cc_C_skipDigit 31 = .ok (.getfield 9, 3) := by decide +kernel
theorem dd_C_skipDigit_34 : decode cc_C_skipDigit 34 = .ok (.iconst 1, 1) := by decide +kernel
theorem dd_C_skipDigit_35 : decode cc_C_skipDigit 35 = .ok (.iadd, 1) := by decide +kernel
theorem dd_C_skipDigit_36 : decode cc_C_skipDigit 36 = .ok (.putfield 9, 3) := by decide +kernel
theorem dd_C_skipDigit_39 : decode cc_C_skipDigit 39 = .ok (.iconst 1, 1) := by decide +kernel
theorem dd_C_skipDigit_40 : decode cc_C_skipDigit 40 = .ok (.ireturn, 1) := by decide +kernel
theorem dd_N_codeAt_0 : decode cc_N_codeAt 0 = .ok (.lload_n 0, 1) := by decide +kernel
theorem dd_N_codeAt_1 : decode cc_N_codeAt 1 = .ok (.bipush 7, 2) := by decide +kernel
theorem dd_N_codeAt_3 : decode cc_N_codeAt 3 = .ok (.iload_n 2, 1) := by decide +kernel
theorem dd_N_codeAt_4 : decode cc_N_codeAt 4 = .ok (.imul, 1) := by decide +kernel
theorem dd_N_codeAt_5 : decode cc_N_codeAt 5 = .ok (.lushr, 1) := by decide +kernel
theorem dd_N_codeAt_6 : decode cc_N_codeAt 6 = .ok (.l2i, 1) := by decide +kernel
theorem dd_N_codeAt_7 : decode cc_N_codeAt 7 = .ok (.bipush 127, 2) := by decide +kernel
theorem dd_N_codeAt_9 : decode cc_N_codeAt 9 = .ok (.iand, 1) := by decide +kernel
theorem dd_N_codeAt_10 : decode cc_N_codeAt 10 = .ok (.ireturn, 1) := by decide +kernel
theorem dd_N_withLetter_0 : decode cc_N_withLetter 0 = .ok (.lload_n 0, 1) := by decide +kernel
theorem dd_N_withLetter_1 : decode cc_N_withLetter 1 = .ok (.iload_n 3, 1) := by decide +kernel
theorem dd_N_withLetter_2 : decode cc_N_withLetter 2 = .ok (.i2l, 1) := by decide +kernel
theorem dd_N_withLetter_3 : decode cc_N_withLetter 3 = .ok (.bipush 7, 2) := by decide +kernel
theorem dd_N_withLetter_5 : decode cc_N_withLetter 5 = .ok (.iload_n 2, 1) := by decide +kernel
theorem dd_N_withLetter_6 : decode cc_N_withLetter 6 = .ok (.imul, 1) := by decide +kernel
theorem dd_N_withLetter_7 : decode cc_N_withLetter 7 = .ok (.lshl, 1) := by decide +kernel
theorem dd_N_withLetter_8 : decode cc_N_withLetter 8 = .ok (.lor, 1) := by decide +kernel
theorem dd_N_withLetter_9 : decode cc_N_withLetter 9 = .ok (.lreturn, 1) := by decide +kernel
theorem dd_P_init_0 : decode cc_P_init 0 = .ok (.aload_n 0, 1) := by decide +kernel
theorem dd_P_init_1 : decode cc_P_init 1 = .ok (.invokespecial 3, 3) := by decide +kernel
theorem dd_P_init_4 : decode cc_P_init 4 = .ok (.aload_n 0, 1) := by decide +kernel
theorem dd_P_init_5 : decode cc_P_init 5 = .ok (.sipush 3000, 3) := by decide +kernel
theorem dd_P_init_8 : decode cc_P_init 8 = .ok (.newarray .char, 2) := by decide +kernel
theorem dd_P_init_10 : decode cc_P_init 10 = .ok (.putfield 9, 3) := by decide +kernel
theorem dd_P_init_13 : decode cc_P_init 13 = .ok (.aload_n 0, 1) := by decide +kernel
theorem dd_P_init_14 : decode cc_P_init 14 = .ok (.iconst 0, 1) := by decide +kernel
theorem dd_P_init_15 : decode cc_P_init 15 = .ok (.putfield 15, 3) := by decide +kernel
theorem dd_P_init_18 : decode cc_P_init 18 = .ok (.return_, 1) := by decide +kernel
theorem dd_P_size_0 : decode cc_P_size 0 = .ok (.aload_n 0, 1) := by decide +kernel
theorem dd_P_size_1 : decode cc_P_size 1 = .ok (.getfield 15, 3) := by decide +kernel
theorem dd_P_size_4 : decode cc_P_size 4 = .ok (.ireturn, 1) := by decide +kernel
theorem dd_P_codeAt_0 : decode cc_P_codeAt 0 = .ok (.iload_n 1, 1) := by decide +kernel
theorem dd_P_codeAt_1 : decode cc_P_codeAt 1 = .ok (.ifCond .lt 20, 3) := by decide +kernel
theorem dd_P_codeAt_4 : decode cc_P_codeAt 4 = .ok (.iload_n 1, 1) := by decide +kernel
theorem dd_P_codeAt_5 : decode cc_P_codeAt 5 = .ok (.aload_n 0, 1) := by decide +kernel
theorem dd_P_codeAt_6 : decode cc_P_codeAt 6 = .ok (.getfield 15, 3) := by decide +kernel
theorem dd_P_codeAt_9 : decode cc_P_codeAt 9 = .ok (.if_icmp .ge 12, 3) := by decide +kernel
theorem dd_P_codeAt_12 : decode cc_P_codeAt 12 = .ok (.aload_n 0, 1) := by decide +kernel
theorem dd_P_codeAt_13 : decode cc_P_codeAt 13 = .ok (.getfield 9, 3) := by decide +kernel
theorem dd_P_codeAt_16 : decode cc_P_codeAt 16 = .ok (.iload_n 1, 1) := by decide +kernel
theorem dd_P_codeAt_17 : decode cc_P_codeAt 17 = .ok (.caload, 1) := by decide +kernel
theorem dd_P_codeAt_18 : decode cc_P_codeAt 18 = .ok (.goto 4, 3) := by decide +kernel
theorem dd_P_codeAt_21 : decode cc_P_codeAt 21 = .ok (.iconst (-1), 1) := by decide +kernel
theorem dd_P_codeAt_22 : decode cc_P_codeAt 22 = .ok (.ireturn, 1) := by decide +kernel
theorem dd_P_add_0 : decode cc_P_add 0 = .ok (.aload_n 0, 1) := by decide +kernel
theorem dd_P_add_1 : decode cc_P_add 1 = .ok (.getfield 15, 3) := by decide +kernel
theorem dd_P_add_4 : decode cc_P_add 4 = .ok (.sipush 3000, 3) := by decide +kernel
theorem dd_P_add_7 : decode cc_P_add 7 = .ok (.if_icmp .lt 5, 3) := by decide +kernel
theorem dd_P_add_10 : decode cc_P_add 10 = .ok (.iconst 0, 1) := by decide +kernel
theorem dd_P_add_11 : decode cc_P_add 11 = .ok (.ireturn, 1) := by decide +kernel
theorem dd_P_add_12 : decode cc_P_add 12 = .ok (.aload_n 0, 1) := by decide +kernel
theorem dd_P_add_13 : decode cc_P_add 13 = .ok (.getfield 9, 3) := by decide +kernel
theorem dd_P_add_16 : decode cc_P_add 16 = .ok (.aload_n 0, 1) := by decide +kernel
theorem dd_P_add_17 : decode cc_P_add 17 = .ok (.getfield 15, 3) := by decide +kernel
theorem dd_P_add_20 : decode cc_P_add 20 = .ok (.iload_n 1, 1) := by decide +kernel
theorem dd_P_add_21 : decode cc_P_add 21 = .ok (.castore, 1) := by decide +kernel
theorem dd_P_add_22 : decode cc_P_add 22 = .ok (.aload_n 0, 1) := by decide +kernel
theorem dd_P_add_23 : decode cc_P_add 23 = .ok (.dup, 1) := by decide +kernel
theorem dd_P_add_24 : decode cc_P_add 24 = .ok (.getfield 15, 3) := by decide +kernel
theorem dd_P_add_27 : decode cc_P_add 27 = .ok (.iconst 1, 1) := by decide +kernel
theorem dd_P_add_28 : decode cc_P_add 28 = .ok (.iadd, 1) := by decide +kernel
theorem dd_P_add_29 : decode cc_P_add 29 = .ok (.putfield 15, 3) := by decide +kernel
theorem dd_P_add_32 : decode cc_P_add 32 = .ok (.iconst 1, 1) := by decide +kernel
theorem dd_P_add_33 : decode cc_P_add 33 = .ok (.ireturn, 1) := by decide +kernel
theorem dd_P_replace_0 : decode cc_P_replace 0 = .ok (.iload_n 1, 1) := by decide +kernel
theorem dd_P_replace_1 : decode cc_P_replace 1 = .ok (.ifCond .lt 11, 3) := by decide +kernel
theorem dd_P_replace_4 : decode cc_P_replace 4 = .ok (.iload_n 1, 1) := by decide +kernel
theorem dd_P_replace_5 : decode cc_P_replace 5 = .ok (.aload_n 0, 1) := by decide +kernel
theorem dd_P_replace_6 : decode cc_P_replace 6 = .ok (.getfield 15, 3) := by decide +kernel
theorem dd_P_replace_9 : decode cc_P_replace 9 = .ok (.if_icmp .lt 5, 3) := by decide +kernel
theorem dd_P_replace_12 : decode cc_P_replace 12 = .ok (.iconst 0, 1) := by decide +kernel
theorem dd_P_replace_13 : decode cc_P_replace 13 = .ok (.ireturn, 1) := by decide +kernel
theorem dd_P_replace_14 : decode cc_P_replace 14 = .ok (.aload_n 0, 1) := by decide +kernel
theorem dd_P_replace_15 : decode cc_P_replace 15 = .ok (.getfield 9, 3) := by decide +kernel
theorem dd_P_replace_18 : decode cc_P_replace 18 = .ok (.iload_n 1, 1) := by decide +kernel
theorem dd_P_replace_19 : decode cc_P_replace 19 = .ok (.iload_n 2, 1) := by decide +kernel
theorem dd_P_replace_20 : decode cc_P_replace 20 = .ok (.castore, 1) := by decide +kernel
theorem dd_P_replace_21 : decode cc_P_replace 21 = .ok (.iconst 1, 1) := by decide +kernel
theorem dd_P_replace_22 : decode cc_P_replace 22 = .ok (.ireturn, 1) := by decide +kernel
theorem dd_P_shorten_0 : decode cc_P_shorten 0 = .ok (.iload_n 1, 1) := by decide +kernel
theorem dd_P_shorten_1 : decode cc_P_shorten 1 = .ok (.ifCond .lt 11, 3) := by decide +kernel
theorem dd_P_shorten_4 : decode cc_P_shorten 4 = .ok (.iload_n 1, 1) := by decide +kernel
theorem dd_P_shorten_5 : decode cc_P_shorten 5 = .ok (.aload_n 0, 1) := by decide +kernel
theorem dd_P_shorten_6 : decode cc_P_shorten 6 = .ok (.getfield 15, 3) := by decide +kernel
theorem dd_P_shorten_9 : decode cc_P_shorten 9 = .ok (.if_icmp .le 5, 3) := by decide +kernel
theorem dd_P_shorten_12 : decode cc_P_shorten 12 = .ok (.iconst 0, 1) := by decide +kernel
theorem dd_P_shorten_13 : decode cc_P_shorten 13 = .ok (.ireturn, 1) := by decide +kernel
theorem dd_P_shorten_14 : decode cc_P_shorten 14 = .ok (.aload_n 0, 1) := by decide +kernel
theorem dd_P_shorten_15 : decode cc_P_shorten 15 = .ok (.iload_n 1, 1) := by decide +kernel
theorem dd_P_shorten_16 : decode cc_P_shorten 16 = .ok (.putfield 15, 3) := by decide +kernel
theorem dd_P_shorten_19 : decode cc_P_shorten 19 = .ok (.iconst 1, 1) := by decide +kernel
theorem dd_P_shorten_20 : decode cc_P_shorten 20 = .ok (.ireturn, 1) := by decide +kernel
theorem dd_P_addText_0 : decode cc_P_addText 0 = .ok (.iconst 0, 1) := by decide +kernel
theorem dd_P_addText_1 : decode cc_P_addText 1 = .ok (.istore_n 2, 1) := by decide +kernel
theorem dd_P_addText_2 : decode cc_P_addText 2 = .ok (.iload_n 2, 1) := by decide +kernel
theorem dd_P_addText_3 : decode cc_P_addText 3 = .ok (.aload_n 1, 1) := by decide +kernel
theorem dd_P_addText_4 : decode cc_P_addText 4 = .ok (.invokevirtual 19, 3) := by decide +kernel
theorem dd_P_addText_7 : decode cc_P_addText 7 = .ok (.if_icmp .ge 19, 3) := by decide +kernel
theorem dd_P_addText_10 : decode cc_P_addText 10 = .ok (.aload_n 0, 1) := by decide +kernel
theorem dd_P_addText_11 : decode cc_P_addText 11 = .ok (.aload_n 1, 1) := by decide +kernel
theorem dd_P_addText_12 : decode cc_P_addText 12 = .ok (.iload_n 2, 1) := by decide +kernel
theorem dd_P_addText_13 : decode cc_P_addText 13 = .ok (.invokevirtual 25, 3) := by decide +kernel
theorem dd_P_addText_16 : decode cc_P_addText 16 = .ok (.invokevirtual 29, 3) := by decide +kernel
theorem dd_P_addText_19 : decode cc_P_addText 19 = .ok (.pop, 1) := by decide +kernel
theorem dd_P_addText_20 : decode cc_P_addText 20 = .ok (.iinc 2 1, 3) := by decide +kernel
theorem dd_P_addText_23 : decode cc_P_addText 23 = .ok (.goto (-21), 3) := by decide +kernel
theorem dd_P_addText_26 : decode cc_P_addText 26 = .ok (.return_, 1) := by decide +kernel
theorem dd_P_addIndent_0 : decode cc_P_addIndent 0 = .ok (.iconst 0, 1) := by decide +kernel
theorem dd_P_addIndent_1 : decode cc_P_addIndent 1 = .ok (.istore_n 2, 1) := by decide +kernel
theorem dd_P_addIndent_2 : decode cc_P_addIndent 2 = .ok (.iload_n 2, 1) := by decide +kernel
theorem dd_P_addIndent_3 : decode cc_P_addIndent 3 = .ok (.iload_n 1, 1) := by decide +kernel
theorem dd_P_addIndent_4 : decode cc_P_addIndent 4 = .ok (.if_icmp .ge 15, 3) := by decide +kernel
theorem dd_P_addIndent_7 : decode cc_P_addIndent 7 = .ok (.aload_n 0, 1) := by decide +kernel
theorem dd_P_addIndent_8 : decode cc_P_addIndent 8 = .ok (.ldc 33, 2) := by decide +kernel
theorem dd_P_addIndent_10 : decode cc_P_addIndent 10 = .ok (.invokevirtual 35, 3) := by decide +kernel
theorem dd_P_addIndent_13 : decode cc_P_addIndent 13 = .ok (.iinc 2 1, 3) := by decide +kernel
theorem dd_P_addIndent_16 : decode cc_P_addIndent 16 = .ok (.goto (-14), 3) := by decide +kernel
theorem dd_P_addIndent_19 : decode cc_P_addIndent 19 = .ok (.return_, 1) := by decide +kernel
theorem dd_P_addNumber_0 : decode cc_P_addNumber 0 = .ok (.iload_n 1, 1) := by decide +kernel
theorem dd_P_addNumber_1 : decode cc_P_addNumber 1 = .ok (.bipush 10, 2) := by decide +kernel
theorem dd_P_addNumber_3 : decode cc_P_addNumber 3 = .ok (.if_icmp .lt 16, 3) := by decide +kernel
theorem dd_P_addNumber_6 : decode cc_P_addNumber 6 = .ok (.aload_n 0, 1) := by decide +kernel
theorem dd_P_addNumber_7 : decode cc_P_addNumber 7 = .ok (.bipush 48, 2) := by decide +kernel
theorem dd_P_addNumber_9 : decode cc_P_addNumber 9 = .ok (.iload_n 1, 1) := by decide +kernel
theorem dd_P_addNumber_10 : decode cc_P_addNumber 10 = .ok (.bipush 10, 2) := by decide +kernel
theorem dd_P_addNumber_12 : decode cc_P_addNumber 12 = .ok (.idiv, 1) := by decide +kernel
theorem dd_P_addNumber_13 : decode cc_P_addNumber 13 = .ok (.iadd, 1) := by decide +kernel
theorem dd_P_addNumber_14 : decode cc_P_addNumber 14 = .ok (.i2c, 1) := by decide +kernel
theorem dd_P_addNumber_15 : decode cc_P_addNumber 15 = .ok (.invokevirtual 29, 3) := by decide +kernel
theorem dd_P_addNumber_18 : decode cc_P_addNumber 18 = .ok (.pop, 1) := by decide +kernel
theorem dd_P_addNumber_19 : decode cc_P_addNumber 19 = .ok (.aload_n 0, 1) := by decide +kernel
theorem dd_P_addNumber_20 : decode cc_P_addNumber 20 = .ok (.bipush 48, 2) := by decide +kernel
theorem dd_P_addNumber_22 : decode cc_P_addNumber 22 = .ok (.iload_n 1, 1) := by decide +kernel
theorem dd_P_addNumber_23 : decode cc_P_addNumber 23 = .ok (.bipush 10, 2) := by decide +kernel
theorem dd_P_addNumber_25 : decode cc_P_addNumber 25 = .ok (.irem, 1) := by decide +kernel
theorem dd_P_addNumber_26 : decode cc_P_addNumber 26 = .ok (.iadd, 1) := by decide +kernel
theorem dd_P_addNumber_27 : decode cc_P_addNumber 27 = .ok (.i2c, 1) := by decide +kernel
theorem dd_P_addNumber_28 : decode cc_P_addNumber 28 = .ok (.invokevirtual 29, 3) := by decide +kernel
theorem dd_P_addNumber_31 : decode cc_P_addNumber 31 = .ok (.pop, 1) := by decide +kernel
theorem dd_P_addNumber_32 : decode cc_P_addNumber 32 = .ok (.return_, 1) := by decide +kernel
theorem dd_P_cursor_0 : decode cc_P_cursor 0 = .ok (.new 49, 3) := by decide +kernel
theorem dd_P_cursor_3 : decode cc_P_cursor 3 = .ok (.dup, 1) := by decide +kernel
theorem dd_P_cursor_4 : decode cc_P_cursor 4 = .ok (.aload_n 0, 1) := by decide +kernel
theorem dd_P_cursor_5 : decode cc_P_cursor 5 = .ok (.getfield 9, 3) := by decide +kernel
theorem dd_P_cursor_8 : decode cc_P_cursor 8 = .ok (.aload_n 0, 1) := by decide +kernel
theorem dd_P_cursor_9 : decode cc_P_cursor 9 = .ok (.getfield 15, 3) := by decide +kernel
theorem dd_P_cursor_12 : decode cc_P_cursor 12 = .ok (.invokespecial 51, 3) := by decide +kernel
theorem dd_P_cursor_15 : decode cc_P_cursor 15 = .ok (.areturn, 1) := by decide +kernel
theorem dd_E_init_0 : decode cc_E_init 0 = .ok (.aload_n 0, 1) := by decide +kernel
theorem dd_E_init_1 : decode cc_E_init 1 = .ok (.invokespecial 3, 3) := by decide +kernel
theorem dd_E_init_4 : decode cc_E_init 4 = .ok (.aload_n 0, 1) := by decide +kernel
theorem dd_E_init_5 : decode cc_E_init 5 = .ok (.iconst 0, 1) := by decide +kernel
theorem dd_E_init_6 : decode cc_E_init 6 = .ok (.putfield 11, 3) := by decide +kernel
theorem dd_E_init_9 : decode cc_E_init 9 = .ok (.aload_n 0, 1) := by decide +kernel
theorem dd_E_init_10 : decode cc_E_init 10 = .ok (.aload_n 1, 1) := by decide +kernel
theorem dd_E_init_11 : decode cc_E_init 11 = .ok (.putfield 15, 3) := by decide +kernel
theorem dd_E_init_14 : decode cc_E_init 14 = .ok (.aload_n 0, 1) := by decide +kernel
theorem dd_E_init_15 : decode cc_E_init 15 = .ok (.aload_n 2, 1) := by decide +kernel
theorem dd_E_init_16 : decode cc_E_init 16 = .ok (.putfield 19, 3) := by decide +kernel
theorem dd_E_init_19 : decode cc_E_init 19 = .ok (.return_, 1) := by decide +kernel
theorem dd_W_init_0 : decode cc_W_init 0 = .ok (.aload_n 0, 1) := by decide +kernel
theorem dd_W_init_1 : decode cc_W_init 1 = .ok (.invokespecial 3, 3) := by decide +kernel
theorem dd_W_init_4 : decode cc_W_init 4 = .ok (.aload_n 0, 1) := by decide +kernel
theorem dd_W_init_5 : decode cc_W_init 5 = .ok (.aload_n 1, 1) := by decide +kernel
theorem dd_W_init_6 : decode cc_W_init 6 = .ok (.putfield 9, 3) := by decide +kernel
theorem dd_W_init_9 : decode cc_W_init 9 = .ok (.aload_n 0, 1) := by decide +kernel
theorem dd_W_init_10 : decode cc_W_init 10 = .ok (.aload_n 2, 1) := by decide +kernel
theorem dd_W_init_11 : decode cc_W_init 11 = .ok (.putfield 15, 3) := by decide +kernel
theorem dd_W_init_14 : decode cc_W_init 14 = .ok (.return_, 1) := by decide +kernel
theorem dd_W_verdictOf_0 : decode cc_W_verdictOf 0 = .ok (.iload_n 0, 1) := by decide +kernel
theorem dd_W_verdictOf_1 : decode cc_W_verdictOf 1 = .ok (.iconst 1, 1) := by decide +kernel
theorem dd_W_verdictOf_2 : decode cc_W_verdictOf 2 = .ok (.if_icmp .eq 13, 3) := by decide +kernel
theorem dd_W_verdictOf_5 : decode cc_W_verdictOf 5 = .ok (.iload_n 0, 1) := by decide +kernel
theorem dd_W_verdictOf_6 : decode cc_W_verdictOf 6 = .ok (.iconst 3, 1) := by decide +kernel
theorem dd_W_verdictOf_7 : decode cc_W_verdictOf 7 = .ok (.if_icmp .eq 8, 3) := by decide +kernel
theorem dd_W_verdictOf_10 : decode cc_W_verdictOf 10 = .ok (.iload_n 0, 1) := by decide +kernel
theorem dd_W_verdictOf_11 : decode cc_W_verdictOf 11 = .ok (.iconst 5, 1) := by decide +kernel
theorem dd_W_verdictOf_12 : decode cc_W_verdictOf 12 = .ok (.if_icmp .ne 8, 3) := by decide +kernel
theorem dd_W_verdictOf_15 : decode cc_W_verdictOf 15 = .ok (.ldc 115, 2) := by decide +kernel
theorem dd_W_verdictOf_17 : decode cc_W_verdictOf 17 = .ok (.goto 5, 3) := by decide +kernel
theorem dd_W_verdictOf_20 : decode cc_W_verdictOf 20 = .ok (.ldc 117, 2) := by decide +kernel
theorem dd_W_verdictOf_22 : decode cc_W_verdictOf 22 = .ok (.areturn, 1) := by decide +kernel
theorem dd_W_directiveOf_0 : decode cc_W_directiveOf 0 = .ok (.iload_n 0, 1) := by decide +kernel
theorem dd_W_directiveOf_1 : decode cc_W_directiveOf 1 = .ok (.iconst 2, 1) := by decide +kernel
theorem dd_W_directiveOf_2 : decode cc_W_directiveOf 2 = .ok (.if_icmp .ne 6, 3) := by decide +kernel
theorem dd_W_directiveOf_5 : decode cc_W_directiveOf 5 = .ok (.ldc 119, 2) := by decide +kernel
theorem dd_W_directiveOf_7 : decode cc_W_directiveOf 7 = .ok (.areturn, 1) := by decide +kernel
theorem dd_W_directiveOf_8 : decode cc_W_directiveOf 8 = .ok (.iload_n 0, 1) := by decide +kernel
theorem dd_W_directiveOf_9 : decode cc_W_directiveOf 9 = .ok (.iconst 3, 1) := by decide +kernel
theorem dd_W_directiveOf_10 : decode cc_W_directiveOf 10 = .ok (.if_icmp .ne 8, 3) := by decide +kernel
theorem dd_W_directiveOf_13 : decode cc_W_directiveOf 13 = .ok (.ldc 121, 2) := by decide +kernel
theorem dd_W_directiveOf_15 : decode cc_W_directiveOf 15 = .ok (.goto 5, 3) := by decide +kernel
theorem dd_W_directiveOf_18 : decode cc_W_directiveOf 18 = .ok (.ldc 123, 2) := by decide +kernel
theorem dd_W_directiveOf_20 : decode cc_W_directiveOf 20 = .ok (.areturn, 1) := by decide +kernel
theorem dd_R_init_0 : decode cc_R_init 0 = .ok (.aload_n 0, 1) := by decide +kernel
theorem dd_R_init_1 : decode cc_R_init 1 = .ok (.invokespecial 3, 3) := by decide +kernel
theorem dd_R_init_4 : decode cc_R_init 4 = .ok (.aload_n 0, 1) := by decide +kernel
theorem dd_R_init_5 : decode cc_R_init 5 = .ok (.bipush 24, 2) := by decide +kernel
theorem dd_R_init_7 : decode cc_R_init 7 = .ok (.newarray .int, 2) := by decide +kernel
theorem dd_R_init_9 : decode cc_R_init 9 = .ok (.putfield 9, 3) := by decide +kernel
theorem dd_R_init_12 : decode cc_R_init 12 = .ok (.aload_n 0, 1) := by decide +kernel
theorem dd_R_init_13 : decode cc_R_init 13 = .ok (.bipush 24, 2) := by decide +kernel
theorem dd_R_init_15 : decode cc_R_init 15 = .ok (.newarray .int, 2) := by decide +kernel
theorem dd_R_init_17 : decode cc_R_init 17 = .ok (.putfield 15, 3) := by decide +kernel
theorem dd_R_init_20 : decode cc_R_init 20 = .ok (.aload_n 0, 1) := by decide +kernel
theorem dd_R_init_21 : decode cc_R_init 21 = .ok (.bipush 24, 2) := by decide +kernel
theorem dd_R_init_23 : decode cc_R_init 23 = .ok (.newarray .int, 2) := by decide +kernel
theorem dd_R_init_25 : decode cc_R_init 25 = .ok (.putfield 18, 3) := by decide +kernel
theorem dd_R_init_28 : decode cc_R_init 28 = .ok (.aload_n 0, 1) := by decide +kernel
theorem dd_R_init_29 : decode cc_R_init 29 = .ok (.bipush 24, 2) := by decide +kernel
theorem dd_R_init_31 : decode cc_R_init 31 = .ok (.newarray .long, 2) := by decide +kernel
theorem dd_R_init_33 : decode cc_R_init 33 = .ok (.putfield 21, 3) := by decide +kernel
theorem dd_R_init_36 : decode cc_R_init 36 = .ok (.aload_n 0, 1) := by decide +kernel
theorem dd_R_init_37 : decode cc_R_init 37 = .ok (.iconst 0, 1) := by decide +kernel
theorem dd_R_init_38 : decode cc_R_init 38 = .ok (.putfield 25, 3) := by decide +kernel
theorem dd_R_init_41 : decode cc_R_init 41 = .ok (.aload_n 0, 1) := by decide +kernel
theorem dd_R_init_42 : decode cc_R_init 42 = .ok (.iconst (-1), 1) := by decide +kernel
theorem dd_R_init_43 : decode cc_R_init 43 = .ok (.putfield 29, 3) := by decide +kernel
theorem dd_R_init_46 : decode cc_R_init 46 = .ok (.aload_n 0, 1) := by decide +kernel
theorem dd_R_init_47 : decode cc_R_init 47 = .ok (.iconst 0, 1) := by decide +kernel
theorem dd_R_init_48 : decode cc_R_init 48 = .ok (.putfield 32, 3) := by decide +kernel
theorem dd_R_init_51 : decode cc_R_init 51 = .ok (.return_, 1) := by decide +kernel
theorem dd_R_removeAll_0 : decode cc_R_removeAll 0 = .ok (.aload_n 0, 1) := by decide +kernel
theorem dd_R_removeAll_1 : decode cc_R_removeAll 1 = .ok (.iconst 0, 1) := by decide +kernel
theorem dd_R_removeAll_2 : decode cc_R_removeAll 2 = .ok (.putfield 25, 3) := by decide +kernel
theorem dd_R_removeAll_5 : decode cc_R_removeAll 5 = .ok (.aload_n 0, 1) := by decide +kernel
theorem dd_R_removeAll_6 : decode cc_R_removeAll 6 = .ok (.iconst (-1), 1) := by decide +kernel
theorem dd_R_removeAll_7 : decode cc_R_removeAll 7 = .ok (.putfield 29, 3) := by decide +kernel
theorem dd_R_removeAll_10 : decode cc_R_removeAll 10 = .ok (.aload_n 0, 1) := by decide +kernel
theorem dd_R_removeAll_11 : decode cc_R_removeAll 11 = .ok (.iconst 0, 1) := by decide +kernel
theorem dd_R_removeAll_12 : decode cc_R_removeAll 12 = .ok (.putfield 32, 3) := by decide +kernel
theorem dd_R_removeAll_15 : decode cc_R_removeAll 15 = .ok (.return_, 1) := by decide +kernel
theorem dd_R_size_0 : decode cc_R_size 0 = .ok (.aload_n 0, 1) := by decide +kernel
theorem dd_R_size_1 : decode cc_R_size 1 = .ok (.getfield 25, 3) := by decide +kernel
theorem dd_R_size_4 : decode cc_R_size 4 = .ok (.ireturn, 1) := by decide +kernel
theorem dd_R_has_0 : decode cc_R_has 0 = .ok (.iload_n 1, 1) := by decide +kernel
theorem dd_R_has_1 : decode cc_R_has 1 = .ok (.ifCond .lt 15, 3) := by decide +kernel
theorem dd_R_has_4 : decode cc_R_has 4 = .ok (.iload_n 1, 1) := by decide +kernel
theorem dd_R_has_5 : decode cc_R_has 5 = .ok (.aload_n 0, 1) := by decide +kernel
theorem dd_R_has_6 : decode cc_R_has 6 = .ok (.getfield 25, 3) := by decide +kernel
theorem dd_R_has_9 : decode cc_R_has 9 = .ok (.if_icmp .ge 7, 3) := by decide +kernel
theorem dd_R_has_12 : decode cc_R_has 12 = .ok (.iconst 1, 1) := by decide +kernel
theorem dd_R_has_13 : decode cc_R_has 13 = .ok (.goto 4, 3) := by decide +kernel
theorem dd_R_has_16 : decode cc_R_has 16 = .ok (.iconst 0, 1) := by decide +kernel
theorem dd_R_has_17 : decode cc_R_has 17 = .ok (.ireturn, 1) := by decide +kernel
theorem dd_R_isTest_0 : decode cc_R_isTest 0 = .ok (.aload_n 0, 1) := by decide +kernel
theorem dd_R_isTest_1 : decode cc_R_isTest 1 = .ok (.iload_n 1, 1) := by decide +kernel
theorem dd_R_isTest_2 : decode cc_R_isTest 2 = .ok (.invokevirtual 35, 3) := by decide +kernel
theorem dd_R_isTest_5 : decode cc_R_isTest 5 = .ok (.ifCond .eq 17, 3) := by decide +kernel
theorem dd_R_isTest_8 : decode cc_R_isTest 8 = .ok (.aload_n 0, 1) := by decide +kernel
theorem dd_R_isTest_9 : decode cc_R_isTest 9 = .ok (.getfield 9, 3) := by decide +kernel
theorem dd_R_isTest_12 : decode cc_R_isTest 12 = .ok (.iload_n 1, 1) := by decide +kernel
theorem dd_R_isTest_13 : decode cc_R_isTest 13 = .ok (.iaload, 1) := by decide +kernel
theorem dd_R_isTest_14 : decode cc_R_isTest 14 = .ok (.iconst 3, 1) := by decide +kernel
theorem dd_R_isTest_15 : decode cc_R_isTest 15 = .ok (.if_icmp .gt 7, 3) := by decide +kernel
theorem dd_R_isTest_18 : decode cc_R_isTest 18 = .ok (.iconst 1, 1) := by decide +kernel
theorem dd_R_isTest_19 : decode cc_R_isTest 19 = .ok (.goto 4, 3) := by decide +kernel
theorem dd_R_isTest_22 : decode cc_R_isTest 22 = .ok (.iconst 0, 1) := by decide +kernel
theorem dd_R_isTest_23 : decode cc_R_isTest 23 = .ok (.ireturn, 1) := by decide +kernel
theorem dd_R_kindOf_0 : decode cc_R_kindOf 0 = .ok (.aload_n 0, 1) := by decide +kernel
theorem dd_R_kindOf_1 : decode cc_R_kindOf 1 = .ok (.iload_n 1, 1) := by decide +kernel
theorem dd_R_kindOf_2 : decode cc_R_kindOf 2 = .ok (.invokevirtual 35, 3) := by decide +kernel
theorem dd_R_kindOf_5 : decode cc_R_kindOf 5 = .ok (.ifCond .eq 12, 3) := by decide +kernel
theorem dd_R_kindOf_8 : decode cc_R_kindOf 8 = .ok (.aload_n 0, 1) := by decide +kernel
theorem dd_R_kindOf_9 : decode cc_R_kindOf 9 = .ok (.getfield 9, 3) := by decide +kernel
theorem dd_R_kindOf_12 : decode cc_R_kindOf 12 = .ok (.iload_n 1, 1) := by decide +kernel
theorem dd_R_kindOf_13 : decode cc_R_kindOf 13 = .ok (.iaload, 1) := by decide +kernel
theorem dd_R_kindOf_14 : decode cc_R_kindOf 14 = .ok (.goto 4, 3) := by decide +kernel
theorem dd_R_kindOf_17 : decode cc_R_kindOf 17 = .ok (.iconst (-1), 1) := by decide +kernel
theorem dd_R_kindOf_18 : decode cc_R_kindOf 18 = .ok (.ireturn, 1) := by decide +kernel
theorem dd_R_depthOf_0 : decode cc_R_depthOf 0 = .ok (.aload_n 0, 1) := by decide +kernel
theorem dd_R_depthOf_1 : decode cc_R_depthOf 1 = .ok (.iload_n 1, 1) := by decide +kernel
theorem dd_R_depthOf_2 : decode cc_R_depthOf 2 = .ok (.invokevirtual 35, 3) := by decide +kernel
theorem dd_R_depthOf_5 : decode cc_R_depthOf 5 = .ok (.ifCond .eq 12, 3) := by decide +kernel
theorem dd_R_depthOf_8 : decode cc_R_depthOf 8 = .ok (.aload_n 0, 1) := by decide +kernel
theorem dd_R_depthOf_9 : decode cc_R_depthOf 9 = .ok (.getfield 15, 3) := by decide +kernel
theorem dd_R_depthOf_12 : decode cc_R_depthOf 12 = .ok (.iload_n 1, 1) := by decide +kernel
theorem dd_R_depthOf_13 : decode cc_R_depthOf 13 = .ok (.iaload, 1) := by decide +kernel
theorem dd_R_depthOf_14 : decode cc_R_depthOf 14 = .ok (.goto 4, 3) := by decide +kernel
theorem dd_R_depthOf_17 : decode cc_R_depthOf 17 = .ok (.iconst (-1), 1) := by decide +kernel
theorem dd_R_depthOf_18 : decode cc_R_depthOf 18 = .ok (.ireturn, 1) := by decide +kernel
theorem dd_R_suiteOf_0 : decode cc_R_suiteOf 0 = .ok (.aload_n 0, 1) := by decide +kernel
theorem dd_R_suiteOf_1 : decode cc_R_suiteOf 1 = .ok (.iload_n 1, 1) := by decide +kernel
theorem dd_R_suiteOf_2 : decode cc_R_suiteOf 2 = .ok (.invokevirtual 35, 3) := by decide +kernel
theorem dd_R_suiteOf_5 : decode cc_R_suiteOf 5 = .ok (.ifCond .eq 12, 3) := by decide +kernel
theorem dd_R_suiteOf_8 : decode cc_R_suiteOf 8 = .ok (.aload_n 0, 1) := by decide +kernel
theorem dd_R_suiteOf_9 : decode cc_R_suiteOf 9 = .ok (.getfield 18, 3) := by decide +kernel
theorem dd_R_suiteOf_12 : decode cc_R_suiteOf 12 = .ok (.iload_n 1, 1) := by decide +kernel
theorem dd_R_suiteOf_13 : decode cc_R_suiteOf 13 = .ok (.iaload, 1) := by decide +kernel
theorem dd_R_suiteOf_14 : decode cc_R_suiteOf 14 = .ok (.goto 4, 3) := by decide +kernel
theorem dd_R_suiteOf_17 : decode cc_R_suiteOf 17 = .ok (.iconst (-1), 1) := by decide +kernel
theorem dd_R_suiteOf_18 : decode cc_R_suiteOf 18 = .ok (.ireturn, 1) := by decide +kernel
theorem dd_R_nameOf_0 : decode cc_R_nameOf 0 = .ok (.aload_n 0, 1) := by decide +kernel
theorem dd_R_nameOf_1 : decode cc_R_nameOf 1 = .ok (.iload_n 1, 1) := by decide +kernel
theorem dd_R_nameOf_2 : decode cc_R_nameOf 2 = .ok (.invokevirtual 35, 3) := by decide +kernel
theorem dd_R_nameOf_5 : decode cc_R_nameOf 5 = .ok (.ifCond .eq 12, 3) := by decide +kernel
theorem dd_R_nameOf_8 : decode cc_R_nameOf 8 = .ok (.aload_n 0, 1) := by decide +kernel
theorem dd_R_nameOf_9 : decode cc_R_nameOf 9 = .ok (.getfield 21, 3) := by decide +kernel
theorem dd_R_nameOf_12 : decode cc_R_nameOf 12 = .ok (.iload_n 1, 1) := by decide +kernel
theorem dd_R_nameOf_13 : decode cc_R_nameOf 13 = .ok (.laload, 1) := by decide +kernel
theorem dd_R_nameOf_14 : decode cc_R_nameOf 14 = .ok (.goto 4, 3) := by decide +kernel
theorem dd_R_nameOf_17 : decode cc_R_nameOf 17 = .ok (.lconst 0, 1) := by decide +kernel
theorem dd_R_nameOf_18 : decode cc_R_nameOf 18 = .ok (.lreturn, 1) := by decide +kernel
theorem dd_R_innermost_0 : decode cc_R_innermost 0 = .ok (.aload_n 0, 1) := by decide +kernel
theorem dd_R_innermost_1 : decode cc_R_innermost 1 = .ok (.getfield 29, 3) := by decide +kernel
theorem dd_R_innermost_4 : decode cc_R_innermost 4 = .ok (.ireturn, 1) := by decide +kernel
theorem dd_R_openSuites_0 : decode cc_R_openSuites 0 = .ok (.aload_n 0, 1) := by decide +kernel
theorem dd_R_openSuites_1 : decode cc_R_openSuites 1 = .ok (.getfield 32, 3) := by decide +kernel
theorem dd_R_openSuites_4 : decode cc_R_openSuites 4 = .ok (.ireturn, 1) := by decide +kernel
theorem dd_R_rowDepth_0 : decode cc_R_rowDepth 0 = .ok (.aload_n 0, 1) := by decide +kernel
theorem dd_R_rowDepth_1 : decode cc_R_rowDepth 1 = .ok (.iload_n 1, 1) := by decide +kernel
theorem dd_R_rowDepth_2 : decode cc_R_rowDepth 2 = .ok (.invokevirtual 35, 3) := by decide +kernel
theorem dd_R_rowDepth_5 : decode cc_R_rowDepth 5 = .ok (.ifCond .eq 14, 3) := by decide +kernel
theorem dd_R_rowDepth_8 : decode cc_R_rowDepth 8 = .ok (.aload_n 0, 1) := by decide +kernel
theorem dd_R_rowDepth_9 : decode cc_R_rowDepth 9 = .ok (.getfield 15, 3) := by decide +kernel
theorem dd_R_rowDepth_12 : decode cc_R_rowDepth 12 = .ok (.iload_n 1, 1) := by decide +kernel
theorem dd_R_rowDepth_13 : decode cc_R_rowDepth 13 = .ok (.iaload, 1) := by decide +kernel
theorem dd_R_rowDepth_14 : decode cc_R_rowDepth 14 = .ok (.iconst 1, 1) := by decide +kernel
theorem dd_R_rowDepth_15 : decode cc_R_rowDepth 15 = .ok (.iadd, 1) := by decide +kernel
theorem dd_R_rowDepth_16 : decode cc_R_rowDepth 16 = .ok (.goto 4, 3) := by decide +kernel
theorem dd_R_rowDepth_19 : decode cc_R_rowDepth 19 = .ok (.iconst 0, 1) := by decide +kernel
theorem dd_R_rowDepth_20 : decode cc_R_rowDepth 20 = .ok (.ireturn, 1) := by decide +kernel
theorem dd_R_addNode_0 : decode cc_R_addNode 0 = .ok (.aload_n 0, 1) := by decide +kernel
theorem dd_R_addNode_1 : decode cc_R_addNode 1 = .ok (.getfield 25, 3) := by decide +kernel
theorem dd_R_addNode_4 : decode cc_R_addNode 4 = .ok (.bipush 24, 2) := by decide +kernel
theorem dd_R_addNode_6 : decode cc_R_addNode 6 = .ok (.if_icmp .ge 17, 3) := by decide +kernel
theorem dd_R_addNode_9 : decode cc_R_addNode 9 = .ok (.iload_n 1, 1) := by decide +kernel
theorem dd_R_addNode_10 : decode cc_R_addNode 10 = .ok (.bipush 6, 2) := by decide +kernel
theorem dd_R_addNode_12 : decode cc_R_addNode 12 = .ok (.if_icmp .ne 14, 3) := by decide +kernel
theorem dd_R_addNode_15 : decode cc_R_addNode 15 = .ok (.aload_n 0, 1) := by decide +kernel
theorem dd_R_addNode_16 : decode cc_R_addNode 16 = .ok (.getfield 32, 3) := by decide +kernel
theorem dd_R_addNode_19 : decode cc_R_addNode 19 = .ok (.iconst 3, 1) := by decide +kernel
theorem dd_R_addNode_20 : decode cc_R_addNode 20 = .ok (.if_icmp .lt 6, 3) := by decide +kernel
theorem dd_R_addNode_23 : decode cc_R_addNode 23 = .ok (.bipush (-2), 2) := by decide +kernel
theorem dd_R_addNode_25 : decode cc_R_addNode 25 = .ok (.ireturn, 1) := by decide +kernel
theorem dd_R_addNode_26 : decode cc_R_addNode 26 = .ok (.aload_n 0, 1) := by decide +kernel
theorem dd_R_addNode_27 : decode cc_R_addNode 27 = .ok (.getfield 25, 3) := by decide +kernel
theorem dd_R_addNode_30 : decode cc_R_addNode 30 = .ok (.istore 4, 2) := by decide +kernel
theorem dd_R_addNode_32 : decode cc_R_addNode 32 = .ok (.aload_n 0, 1) := by decide +kernel
theorem dd_R_addNode_33 : decode cc_R_addNode 33 = .ok (.getfield 9, 3) := by decide +kernel
theorem dd_R_addNode_36 : decode cc_R_addNode 36 = .ok (.iload 4, 2) := by decide +kernel
theorem dd_R_addNode_38 : decode cc_R_addNode 38 = .ok (.iload_n 1, 1) := by decide +kernel
theorem dd_R_addNode_39 : decode cc_R_addNode 39 = .ok (.iastore, 1) := by decide +kernel
theorem dd_R_addNode_40 : decode cc_R_addNode 40 = .ok (.aload_n 0, 1) := by decide +kernel
theorem dd_R_addNode_41 : decode cc_R_addNode 41 = .ok (.getfield 15, 3) := by decide +kernel
theorem dd_R_addNode_44 : decode cc_R_addNode 44 = .ok (.iload 4, 2) := by decide +kernel
theorem dd_R_addNode_46 : decode cc_R_addNode 46 = .ok (.aload_n 0, 1) := by decide +kernel
theorem dd_R_addNode_47 : decode cc_R_addNode 47 = .ok (.getfield 32, 3) := by decide +kernel
theorem dd_R_addNode_50 : decode cc_R_addNode 50 = .ok (.iastore, 1) := by decide +kernel
theorem dd_R_addNode_51 : decode cc_R_addNode 51 = .ok (.aload_n 0, 1) := by decide +kernel
theorem dd_R_addNode_52 : decode cc_R_addNode 52 = .ok (.getfield 18, 3) := by decide +kernel
theorem dd_R_addNode_55 : decode cc_R_addNode 55 = .ok (.iload 4, 2) := by decide +kernel
theorem dd_R_addNode_57 : decode cc_R_addNode 57 = .ok (.aload_n 0, 1) := by decide +kernel
theorem dd_R_addNode_58 : decode cc_R_addNode 58 = .ok (.getfield 29, 3) := by decide +kernel
theorem dd_R_addNode_61 : decode cc_R_addNode 61 = .ok (.iastore, 1) := by decide +kernel
theorem dd_R_addNode_62 : decode cc_R_addNode 62 = .ok (.aload_n 0, 1) := by decide +kernel
theorem dd_R_addNode_63 : decode cc_R_addNode 63 = .ok (.getfield 21, 3) := by decide +kernel
theorem dd_R_addNode_66 : decode cc_R_addNode 66 = .ok (.iload 4, 2) := by decide +kernel
theorem dd_R_addNode_68 : decode cc_R_addNode 68 = .ok (.lload_n 2, 1) := by decide +kernel
theorem dd_R_addNode_69 : decode cc_R_addNode 69 = .ok (.lastore, 1) := by decide +kernel
theorem dd_R_addNode_70 : decode cc_R_addNode 70 = .ok (.aload_n 0, 1) := by decide +kernel
theorem dd_R_addNode_71 : decode cc_R_addNode 71 = .ok (.dup, 1) := by decide +kernel
theorem dd_R_addNode_72 : decode cc_R_addNode 72 = .ok (.getfield 25, 3) := by decide +kernel
theorem dd_R_addNode_75 : decode cc_R_addNode 75 = .ok (.iconst 1, 1) := by decide +kernel
theorem dd_R_addNode_76 : decode cc_R_addNode 76 = .ok (.iadd, 1) := by decide +kernel
theorem dd_R_addNode_77 : decode cc_R_addNode 77 = .ok (.putfield 25, 3) := by decide +kernel
theorem dd_R_addNode_80 : decode cc_R_addNode 80 = .ok (.iload_n 1, 1) := by decide +kernel
theorem dd_R_addNode_81 : decode cc_R_addNode 81 = .ok (.bipush 6, 2) := by decide +kernel
theorem dd_R_addNode_83 : decode cc_R_addNode 83 = .ok (.if_icmp .ne 19, 3) := by decide +kernel
theorem dd_R_addNode_86 : decode cc_R_addNode 86 = .ok (.aload_n 0, 1) := by decide +kernel
theorem dd_R_addNode_87 : decode cc_R_addNode 87 = .ok (.iload 4, 2) := by decide +kernel
theorem dd_R_addNode_89 : decode cc_R_addNode 89 = .ok (.putfield 29, 3) := by decide +kernel
theorem dd_R_addNode_92 : decode cc_R_addNode 92 = .ok (.aload_n 0, 1) := by decide +kernel
theorem dd_R_addNode_93 : decode cc_R_addNode 93 = .ok (.dup, 1) := by decide +kernel
theorem dd_R_addNode_94 : decode cc_R_addNode 94 = .ok (.getfield 32, 3) := by decide +kernel
theorem dd_R_addNode_97 : decode cc_R_addNode 97 = .ok (.iconst 1, 1) := by decide +kernel
theorem dd_R_addNode_98 : decode cc_R_addNode 98 = .ok (.iadd, 1) := by decide +kernel
theorem dd_R_addNode_99 : decode cc_R_addNode 99 = .ok (.putfield 32, 3) := by decide +kernel
theorem dd_R_addNode_102 : decode cc_R_addNode 102 = .ok (.iload 4, 2) := by decide +kernel
theorem dd_R_addNode_104 : decode cc_R_addNode 104 = .ok (.ireturn, 1) := by decide +kernel
theorem dd_R_areAttempts_0 : decode cc_R_areAttempts 0 = .ok (.aload_n 0, 1) := by decide +kernel
theorem dd_R_areAttempts_1 : decode cc_R_areAttempts 1 = .ok (.iload_n 1, 1) := by decide +kernel
theorem dd_R_areAttempts_2 : decode cc_R_areAttempts 2 = .ok (.invokevirtual 48, 3) := by decide +kernel
theorem dd_R_areAttempts_5 : decode cc_R_areAttempts 5 = .ok (.ifCond .eq 26, 3) := by decide +kernel
theorem dd_R_areAttempts_8 : decode cc_R_areAttempts 8 = .ok (.aload_n 0, 1) := by decide +kernel
theorem dd_R_areAttempts_9 : decode cc_R_areAttempts 9 = .ok (.iload_n 2, 1) := by decide +kernel
theorem dd_R_areAttempts_10 : decode cc_R_areAttempts 10 = .ok (.invokevirtual 48, 3) := by decide +kernel
theorem dd_R_areAttempts_13 : decode cc_R_areAttempts 13 = .ok (.ifCond .eq 18, 3) := by decide +kernel
theorem dd_R_areAttempts_16 : decode cc_R_areAttempts 16 = .ok (.aload_n 0, 1) := by decide +kernel
theorem dd_R_areAttempts_17 : decode cc_R_areAttempts 17 = .ok (.getfield 15, 3) := by decide +kernel
theorem dd_R_areAttempts_20 : decode cc_R_areAttempts 20 = .ok (.iload_n 1, 1) := by decide +kernel
theorem dd_R_areAttempts_21 : decode cc_R_areAttempts 21 = .ok (.iaload, 1) := by decide +kernel
theorem dd_R_areAttempts_22 : decode cc_R_areAttempts 22 = .ok (.aload_n 0, 1) := by decide +kernel
theorem dd_R_areAttempts_23 : decode cc_R_areAttempts 23 = .ok (.getfield 15, 3) := by decide +kernel
theorem dd_R_areAttempts_26 : decode cc_R_areAttempts 26 = .ok (.iload_n 2, 1) := by decide +kernel
theorem dd_R_areAttempts_27 : decode cc_R_areAttempts 27 = .ok (.iaload, 1) := by decide +kernel
theorem dd_R_areAttempts_28 : decode cc_R_areAttempts 28 = .ok (.if_icmp .eq 5, 3) := by decide +kernel
theorem dd_R_areAttempts_31 : decode cc_R_areAttempts 31 = .ok (.iconst 0, 1) := by decide +kernel
theorem dd_R_areAttempts_32 : decode cc_R_areAttempts 32 = .ok (.ireturn, 1) := by decide +kernel
theorem dd_R_areAttempts_33 : decode cc_R_areAttempts 33 = .ok (.iload_n 1, 1) := by decide +kernel
theorem dd_R_areAttempts_34 : decode cc_R_areAttempts 34 = .ok (.istore_n 3, 1) := by decide +kernel
theorem dd_R_areAttempts_35 : decode cc_R_areAttempts 35 = .ok (.iload_n 2, 1) := by decide +kernel
theorem dd_R_areAttempts_36 : decode cc_R_areAttempts 36 = .ok (.istore 4, 2) := by decide +kernel
theorem dd_R_areAttempts_38 : decode cc_R_areAttempts 38 = .ok (.aload_n 0, 1) := by decide +kernel
theorem dd_R_areAttempts_39 : decode cc_R_areAttempts 39 = .ok (.getfield 15, 3) := by decide +kernel
theorem dd_R_areAttempts_42 : decode cc_R_areAttempts 42 = .ok (.iload_n 1, 1) := by decide +kernel
theorem dd_R_areAttempts_43 : decode cc_R_areAttempts 43 = .ok (.iaload, 1) := by decide +kernel
theorem dd_R_areAttempts_44 : decode cc_R_areAttempts 44 = .ok (.istore 5, 2) := by decide +kernel
theorem dd_R_areAttempts_46 : decode cc_R_areAttempts 46 = .ok (.iload 5, 2) := by decide +kernel
theorem dd_R_areAttempts_48 : decode cc_R_areAttempts 48 = .ok (.ifCond .lt 40, 3) := by decide +kernel
theorem dd_R_areAttempts_51 : decode cc_R_areAttempts 51 = .ok (.aload_n 0, 1) := by decide +kernel
theorem dd_R_areAttempts_52 : decode cc_R_areAttempts 52 = .ok (.iload_n 3, 1) := by decide +kernel
theorem dd_R_areAttempts_53 : decode cc_R_areAttempts 53 = .ok (.invokevirtual 51, 3) := by decide +kernel
theorem dd_R_areAttempts_56 : decode cc_R_areAttempts 56 = .ok (.aload_n 0, 1) := by decide +kernel
theorem dd_R_areAttempts_57 : decode cc_R_areAttempts 57 = .ok (.iload 4, 2) := by decide +kernel
theorem dd_R_areAttempts_59 : decode cc_R_areAttempts 59 = .ok (.invokevirtual 51, 3) := by decide +kernel
theorem dd_R_areAttempts_62 : decode cc_R_areAttempts 62 = .ok (.lcmp, 1) := by decide +kernel
theorem dd_R_areAttempts_63 : decode cc_R_areAttempts 63 = .ok (.ifCond .eq 5, 3) := by decide +kernel
theorem dd_R_areAttempts_66 : decode cc_R_areAttempts 66 = .ok (.iconst 0, 1) := by decide +kernel
theorem dd_R_areAttempts_67 : decode cc_R_areAttempts 67 = .ok (.ireturn, 1) := by decide +kernel
theorem dd_R_areAttempts_68 : decode cc_R_areAttempts 68 = .ok (.aload_n 0, 1) := by decide +kernel
theorem dd_R_areAttempts_69 : decode cc_R_areAttempts 69 = .ok (.iload_n 3, 1) := by decide +kernel
theorem dd_R_areAttempts_70 : decode cc_R_areAttempts 70 = .ok (.invokevirtual 55, 3) := by decide +kernel
theorem dd_R_areAttempts_73 : decode cc_R_areAttempts 73 = .ok (.istore_n 3, 1) := by decide +kernel
theorem dd_R_areAttempts_74 : decode cc_R_areAttempts 74 = .ok (.aload_n 0, 1) := by decide +kernel
theorem dd_R_areAttempts_75 : decode cc_R_areAttempts 75 = .ok (.iload 4, 2) := by decide +kernel
theorem dd_R_areAttempts_77 : decode cc_R_areAttempts 77 = .ok (.invokevirtual 55, 3) := by decide +kernel
theorem dd_R_areAttempts_80 : decode cc_R_areAttempts 80 = .ok (.istore 4, 2) := by decide +kernel
theorem dd_R_areAttempts_82 : decode cc_R_areAttempts 82 = .ok (.iinc 5 (-1), 3) := by decide +kernel
theorem dd_R_areAttempts_85 : decode cc_R_areAttempts 85 = .ok (.goto (-39), 3) := by decide +kernel
theorem dd_R_areAttempts_88 : decode cc_R_areAttempts 88 = .ok (.iconst 1, 1) := by decide +kernel
theorem dd_R_areAttempts_89 : decode cc_R_areAttempts 89 = .ok (.ireturn, 1) := by decide +kernel
theorem dd_R_hasFailedBehind_0 : decode cc_R_hasFailedBehind 0 = .ok (.iload_n 1, 1) := by decide +kernel
theorem dd_R_hasFailedBehind_1 : decode cc_R_hasFailedBehind 1 = .ok (.iconst 1, 1) := by decide +kernel
theorem dd_R_hasFailedBehind_2 : decode cc_R_hasFailedBehind 2 = .ok (.iadd, 1) := by decide +kernel
theorem dd_R_hasFailedBehind_3 : decode cc_R_hasFailedBehind 3 = .ok (.istore_n 2, 1) := by decide +kernel
theorem dd_R_hasFailedBehind_4 : decode cc_R_hasFailedBehind 4 = .ok (.iload_n 2, 1) := by decide +kernel
theorem dd_R_hasFailedBehind_5 : decode cc_R_hasFailedBehind 5 = .ok (.aload_n 0, 1) := by decide +kernel
theorem dd_R_hasFailedBehind_6 : decode cc_R_hasFailedBehind 6 = .ok (.getfield 25, 3) := by decide +kernel
theorem dd_R_hasFailedBehind_9 : decode cc_R_hasFailedBehind 9 = .ok (.if_icmp .ge 21, 3) := by decide +kernel
theorem dd_R_hasFailedBehind_12 : decode cc_R_hasFailedBehind 12 = .ok (.aload_n 0, 1) := by decide +kernel
theorem dd_R_hasFailedBehind_13 : decode cc_R_hasFailedBehind 13 = .ok (.getfield 9, 3) := by decide +kernel
theorem dd_R_hasFailedBehind_16 : decode cc_R_hasFailedBehind 16 = .ok (.iload_n 2, 1) := by decide +kernel
theorem dd_R_hasFailedBehind_17 : decode cc_R_hasFailedBehind 17 = .ok (.iaload, 1) := by decide +kernel
theorem dd_R_hasFailedBehind_18 : decode cc_R_hasFailedBehind 18 = .ok (.iconst 1, 1) := by decide +kernel
theorem dd_R_hasFailedBehind_19 : decode cc_R_hasFailedBehind 19 = .ok (.if_icmp .ne 5, 3) := by decide +kernel
theorem dd_R_hasFailedBehind_22 : decode cc_R_hasFailedBehind 22 = .ok (.iconst 1, 1) := by decide +kernel
theorem dd_R_hasFailedBehind_23 : decode cc_R_hasFailedBehind 23 = .ok (.ireturn, 1) := by decide +kernel
theorem dd_R_hasFailedBehind_24 : decode cc_R_hasFailedBehind 24 = .ok (.iinc 2 1, 3) := by decide +kernel
theorem dd_R_hasFailedBehind_27 : decode cc_R_hasFailedBehind 27 = .ok (.goto (-23), 3) := by decide +kernel
theorem dd_R_hasFailedBehind_30 : decode cc_R_hasFailedBehind 30 = .ok (.iconst 0, 1) := by decide +kernel
theorem dd_R_hasFailedBehind_31 : decode cc_R_hasFailedBehind 31 = .ok (.ireturn, 1) := by decide +kernel
theorem dd_R_countInRow_0 : decode cc_R_countInRow 0 = .ok (.iconst 0, 1) := by decide +kernel
theorem dd_R_countInRow_1 : decode cc_R_countInRow 1 = .ok (.istore_n 3, 1) := by decide +kernel
theorem dd_R_countInRow_2 : decode cc_R_countInRow 2 = .ok (.iconst 0, 1) := by decide +kernel
theorem dd_R_countInRow_3 : decode cc_R_countInRow 3 = .ok (.istore 4, 2) := by decide +kernel
theorem dd_R_countInRow_5 : decode cc_R_countInRow 5 = .ok (.iload 4, 2) := by decide +kernel
theorem dd_R_countInRow_7 : decode cc_R_countInRow 7 = .ok (.iload_n 2, 1) := by decide +kernel
theorem dd_R_countInRow_8 : decode cc_R_countInRow 8 = .ok (.if_icmp .ge 32, 3) := by decide +kernel
theorem dd_R_countInRow_11 : decode cc_R_countInRow 11 = .ok (.iload 4, 2) := by decide +kernel
theorem dd_R_countInRow_13 : decode cc_R_countInRow 13 = .ok (.aload_n 0, 1) := by decide +kernel
theorem dd_R_countInRow_14 : decode cc_R_countInRow 14 = .ok (.getfield 25, 3) := by decide +kernel
theorem dd_R_countInRow_17 : decode cc_R_countInRow 17 = .ok (.if_icmp .ge 23, 3) := by decide +kernel
theorem dd_R_countInRow_20 : decode cc_R_countInRow 20 = .ok (.aload_n 0, 1) := by decide +kernel
theorem dd_R_countInRow_21 : decode cc_R_countInRow 21 = .ok (.getfield 18, 3) := by decide +kernel
theorem dd_R_countInRow_24 : decode cc_R_countInRow 24 = .ok (.iload 4, 2) := by decide +kernel
theorem dd_R_countInRow_26 : decode cc_R_countInRow 26 = .ok (.iaload, 1) := by decide +kernel
theorem dd_R_countInRow_27 : decode cc_R_countInRow 27 = .ok (.iload_n 1, 1) := by decide +kernel
theorem dd_R_countInRow_28 : decode cc_R_countInRow 28 = .ok (.if_icmp .ne 6, 3) := by decide +kernel
theorem dd_R_countInRow_31 : decode cc_R_countInRow 31 = .ok (.iinc 3 1, 3) := by decide +kernel
theorem dd_R_countInRow_34 : decode cc_R_countInRow 34 = .ok (.iinc 4 1, 3) := by decide +kernel
theorem dd_R_countInRow_37 : decode cc_R_countInRow 37 = .ok (.goto (-32), 3) := by decide +kernel
theorem dd_R_countInRow_40 : decode cc_R_countInRow 40 = .ok (.iload_n 3, 1) := by decide +kernel
theorem dd_R_countInRow_41 : decode cc_R_countInRow 41 = .ok (.ireturn, 1) := by decide +kernel
theorem dd_V_init_0 : decode cc_V_init 0 = .ok (.aload_n 0, 1) := by decide +kernel
theorem dd_V_init_1 : decode cc_V_init 1 = .ok (.invokespecial 1, 3) := by decide +kernel
theorem dd_V_init_4 : decode cc_V_init 4 = .ok (.aload_n 0, 1) := by decide +kernel
theorem dd_V_init_5 : decode cc_V_init 5 = .ok (.new 7, 3) := by decide +kernel
theorem dd_V_init_8 : decode cc_V_init 8 = .ok (.dup, 1) := by decide +kernel
theorem dd_V_init_9 : decode cc_V_init 9 = .ok (.invokespecial 9, 3) := by decide +kernel
theorem dd_V_init_12 : decode cc_V_init 12 = .ok (.putfield 10, 3) := by decide +kernel
theorem dd_V_init_15 : decode cc_V_init 15 = .ok (.aload_n 0, 1) := by decide +kernel
theorem dd_V_init_16 : decode cc_V_init 16 = .ok (.new 16, 3) := by decide +kernel
theorem dd_V_init_19 : decode cc_V_init 19 = .ok (.dup, 1) := by decide +kernel
theorem dd_V_init_20 : decode cc_V_init 20 = .ok (.invokespecial 18, 3) := by decide +kernel
theorem dd_V_init_23 : decode cc_V_init 23 = .ok (.putfield 19, 3) := by decide +kernel
theorem dd_V_init_26 : decode cc_V_init 26 = .ok (.aload_n 0, 1) := by decide +kernel
theorem dd_V_init_27 : decode cc_V_init 27 = .ok (.new 16, 3) := by decide +kernel
theorem dd_V_init_30 : decode cc_V_init 30 = .ok (.dup, 1) := by decide +kernel
theorem dd_V_init_31 : decode cc_V_init 31 = .ok (.invokespecial 18, 3) := by decide +kernel
theorem dd_V_init_34 : decode cc_V_init 34 = .ok (.putfield 23, 3) := by decide +kernel
theorem dd_V_init_37 : decode cc_V_init 37 = .ok (.aload_n 0, 1) := by decide +kernel
theorem dd_V_init_38 : decode cc_V_init 38 = .ok (.lconst 0, 1) := by decide +kernel
theorem dd_V_init_39 : decode cc_V_init 39 = .ok (.putfield 28, 3) := by decide +kernel
theorem dd_V_init_42 : decode cc_V_init 42 = .ok (.return_, 1) := by decide +kernel
theorem dd_V_reset_0 : decode cc_V_reset 0 = .ok (.aload_n 0, 1) := by decide +kernel
theorem dd_V_reset_1 : decode cc_V_reset 1 = .ok (.getfield 19, 3) := by decide +kernel
theorem dd_V_reset_4 : decode cc_V_reset 4 = .ok (.invokevirtual 52, 3) := by decide +kernel
theorem dd_V_reset_7 : decode cc_V_reset 7 = .ok (.return_, 1) := by decide +kernel
theorem dd_V_nodes_0 : decode cc_V_nodes 0 = .ok (.aload_n 0, 1) := by decide +kernel
theorem dd_V_nodes_1 : decode cc_V_nodes 1 = .ok (.getfield 19, 3) := by decide +kernel
theorem dd_V_nodes_4 : decode cc_V_nodes 4 = .ok (.invokevirtual 55, 3) := by decide +kernel
theorem dd_V_nodes_7 : decode cc_V_nodes 7 = .ok (.ireturn, 1) := by decide +kernel
theorem dd_V_kind_0 : decode cc_V_kind 0 = .ok (.aload_n 0, 1) := by decide +kernel
theorem dd_V_kind_1 : decode cc_V_kind 1 = .ok (.getfield 19, 3) := by decide +kernel
theorem dd_V_kind_4 : decode cc_V_kind 4 = .ok (.iload_n 1, 1) := by decide +kernel
theorem dd_V_kind_5 : decode cc_V_kind 5 = .ok (.invokevirtual 59, 3) := by decide +kernel
theorem dd_V_kind_8 : decode cc_V_kind 8 = .ok (.ifCond .eq 14, 3) := by decide +kernel
theorem dd_V_kind_11 : decode cc_V_kind 11 = .ok (.aload_n 0, 1) := by decide +kernel
theorem dd_V_kind_12 : decode cc_V_kind 12 = .ok (.getfield 19, 3) := by decide +kernel
theorem dd_V_kind_15 : decode cc_V_kind 15 = .ok (.iload_n 1, 1) := by decide +kernel
theorem dd_V_kind_16 : decode cc_V_kind 16 = .ok (.invokevirtual 63, 3) := by decide +kernel
theorem dd_V_kind_19 : decode cc_V_kind 19 = .ok (.goto 4, 3) := by decide +kernel
theorem dd_V_kind_22 : decode cc_V_kind 22 = .ok (.iconst (-1), 1) := by decide +kernel
theorem dd_V_kind_23 : decode cc_V_kind 23 = .ok (.ireturn, 1) := by decide +kernel
theorem dd_V_depth_0 : decode cc_V_depth 0 = .ok (.aload_n 0, 1) := by decide +kernel
theorem dd_V_depth_1 : decode cc_V_depth 1 = .ok (.getfield 19, 3) := by decide +kernel
theorem dd_V_depth_4 : decode cc_V_depth 4 = .ok (.iload_n 1, 1) := by decide +kernel
theorem dd_V_depth_5 : decode cc_V_depth 5 = .ok (.invokevirtual 59, 3) := by decide +kernel
theorem dd_V_depth_8 : decode cc_V_depth 8 = .ok (.ifCond .eq 14, 3) := by decide +kernel
theorem dd_V_depth_11 : decode cc_V_depth 11 = .ok (.aload_n 0, 1) := by decide +kernel
theorem dd_V_depth_12 : decode cc_V_depth 12 = .ok (.getfield 19, 3) := by decide +kernel
theorem dd_V_depth_15 : decode cc_V_depth 15 = .ok (.iload_n 1, 1) := by decide +kernel
theorem dd_V_depth_16 : decode cc_V_depth 16 = .ok (.invokevirtual 66, 3) := by decide +kernel
theorem dd_V_depth_19 : decode cc_V_depth 19 = .ok (.goto 4, 3) := by decide +kernel
theorem dd_V_depth_22 : decode cc_V_depth 22 = .ok (.iconst (-1), 1) := by decide +kernel
theorem dd_V_depth_23 : decode cc_V_depth 23 = .ok (.ireturn, 1) := by decide +kernel
theorem dd_V_length_0 : decode cc_V_length 0 = .ok (.aload_n 0, 1) := by decide +kernel
theorem dd_V_length_1 : decode cc_V_length 1 = .ok (.getfield 10, 3) := by decide +kernel
theorem dd_V_length_4 : decode cc_V_length 4 = .ok (.invokevirtual 85, 3) := by decide +kernel
theorem dd_V_length_7 : decode cc_V_length 7 = .ok (.ireturn, 1) := by decide +kernel
theorem dd_V_at_0 : decode cc_V_at 0 = .ok (.aload_n 0, 1) := by decide +kernel
theorem dd_V_at_1 : decode cc_V_at 1 = .ok (.getfield 10, 3) := by decide +kernel
theorem dd_V_at_4 : decode cc_V_at 4 = .ok (.iload_n 1, 1) := by decide +kernel
theorem dd_V_at_5 : decode cc_V_at 5 = .ok (.invokevirtual 98, 3) := by decide +kernel
theorem dd_V_at_8 : decode cc_V_at 8 = .ok (.ireturn, 1) := by decide +kernel
theorem dd_V_cut_0 : decode cc_V_cut 0 = .ok (.aload_n 0, 1) := by decide +kernel
theorem dd_V_cut_1 : decode cc_V_cut 1 = .ok (.getfield 10, 3) := by decide +kernel
theorem dd_V_cut_4 : decode cc_V_cut 4 = .ok (.iload_n 1, 1) := by decide +kernel
theorem dd_V_cut_5 : decode cc_V_cut 5 = .ok (.invokevirtual 110, 3) := by decide +kernel
theorem dd_V_cut_8 : decode cc_V_cut 8 = .ok (.ireturn, 1) := by decide +kernel
theorem dd_V_attempts_0 : decode cc_V_attempts 0 = .ok (.aload_n 0, 1) := by decide +kernel
theorem dd_V_attempts_1 : decode cc_V_attempts 1 = .ok (.getfield 19, 3) := by decide +kernel
theorem dd_V_attempts_4 : decode cc_V_attempts 4 = .ok (.iload_n 1, 1) := by decide +kernel
theorem dd_V_attempts_5 : decode cc_V_attempts 5 = .ok (.invokevirtual 113, 3) := by decide +kernel
theorem dd_V_attempts_8 : decode cc_V_attempts 8 = .ok (.ifCond .ne 5, 3) := by decide +kernel
theorem dd_V_attempts_11 : decode cc_V_attempts 11 = .ok (.iconst (-1), 1) := by decide +kernel
theorem dd_V_attempts_12 : decode cc_V_attempts 12 = .ok (.ireturn, 1) := by decide +kernel
theorem dd_V_attempts_13 : decode cc_V_attempts 13 = .ok (.iconst 0, 1) := by decide +kernel
theorem dd_V_attempts_14 : decode cc_V_attempts 14 = .ok (.istore_n 2, 1) := by decide +kernel
theorem dd_V_attempts_15 : decode cc_V_attempts 15 = .ok (.iconst 0, 1) := by decide +kernel
theorem dd_V_attempts_16 : decode cc_V_attempts 16 = .ok (.istore_n 3, 1) := by decide +kernel
theorem dd_V_attempts_17 : decode cc_V_attempts 17 = .ok (.iload_n 3, 1) := by decide +kernel
theorem dd_V_attempts_18 : decode cc_V_attempts 18 = .ok (.aload_n 0, 1) := by decide +kernel
theorem dd_V_attempts_19 : decode cc_V_attempts 19 = .ok (.getfield 19, 3) := by decide +kernel
theorem dd_V_attempts_22 : decode cc_V_attempts 22 = .ok (.invokevirtual 55, 3) := by decide +kernel
theorem dd_V_attempts_25 : decode cc_V_attempts 25 = .ok (.if_icmp .ge 24, 3) := by decide +kernel
theorem dd_V_attempts_28 : decode cc_V_attempts 28 = .ok (.aload_n 0, 1) := by decide +kernel
theorem dd_V_attempts_29 : decode cc_V_attempts 29 = .ok (.getfield 19, 3) := by decide +kernel
theorem dd_V_attempts_32 : decode cc_V_attempts 32 = .ok (.iload_n 1, 1) := by decide +kernel
theorem dd_V_attempts_33 : decode cc_V_attempts 33 = .ok (.iload_n 3, 1) := by decide +kernel
theorem dd_V_attempts_34 : decode cc_V_attempts 34 = .ok (.invokevirtual 116, 3) := by decide +kernel
theorem dd_V_attempts_37 : decode cc_V_attempts 37 = .ok (.ifCond .eq 6, 3) := by decide +kernel
theorem dd_V_attempts_40 : decode cc_V_attempts 40 = .ok (.iinc 2 1, 3) := by decide +kernel
theorem dd_V_attempts_43 : decode cc_V_attempts 43 = .ok (.iinc 3 1, 3) := by decide +kernel
theorem dd_V_attempts_46 : decode cc_V_attempts 46 = .ok (.goto (-29), 3) := by decide +kernel
theorem dd_V_attempts_49 : decode cc_V_attempts 49 = .ok (.iload_n 2, 1) := by decide +kernel
theorem dd_V_attempts_50 : decode cc_V_attempts 50 = .ok (.ireturn, 1) := by decide +kernel
theorem dd_V_flaky_0 : decode cc_V_flaky 0 = .ok (.iconst 0, 1) := by decide +kernel
theorem dd_V_flaky_1 : decode cc_V_flaky 1 = .ok (.istore_n 2, 1) := by decide +kernel
theorem dd_V_flaky_2 : decode cc_V_flaky 2 = .ok (.iconst 0, 1) := by decide +kernel
theorem dd_V_flaky_3 : decode cc_V_flaky 3 = .ok (.istore_n 3, 1) := by decide +kernel
theorem dd_V_flaky_4 : decode cc_V_flaky 4 = .ok (.iload_n 3, 1) := by decide +kernel
theorem dd_V_flaky_5 : decode cc_V_flaky 5 = .ok (.aload_n 0, 1) := by decide +kernel
theorem dd_V_flaky_6 : decode cc_V_flaky 6 = .ok (.getfield 19, 3) := by decide +kernel
theorem dd_V_flaky_9 : decode cc_V_flaky 9 = .ok (.invokevirtual 55, 3) := by decide +kernel
theorem dd_V_flaky_12 : decode cc_V_flaky 12 = .ok (.if_icmp .ge 58, 3) := by decide +kernel
theorem dd_V_flaky_15 : decode cc_V_flaky 15 = .ok (.aload_n 0, 1) := by decide +kernel
theorem dd_V_flaky_16 : decode cc_V_flaky 16 = .ok (.getfield 19, 3) := by decide +kernel
theorem dd_V_flaky_19 : decode cc_V_flaky 19 = .ok (.iload_n 1, 1) := by decide +kernel
theorem dd_V_flaky_20 : decode cc_V_flaky 20 = .ok (.iload_n 3, 1) := by decide +kernel
theorem dd_V_flaky_21 : decode cc_V_flaky 21 = .ok (.invokevirtual 116, 3) := by decide +kernel
theorem dd_V_flaky_24 : decode cc_V_flaky 24 = .ok (.ifCond .eq 40, 3) := by decide +kernel
theorem dd_V_flaky_27 : decode cc_V_flaky 27 = .ok (.aload_n 0, 1) := by decide +kernel
theorem dd_V_flaky_28 : decode cc_V_flaky 28 = .ok (.getfield 19, 3) := by decide +kernel
theorem dd_V_flaky_31 : decode cc_V_flaky 31 = .ok (.iload_n 3, 1) := by decide +kernel
theorem dd_V_flaky_32 : decode cc_V_flaky 32 = .ok (.invokevirtual 63, 3) := by decide +kernel
theorem dd_V_flaky_35 : decode cc_V_flaky 35 = .ok (.istore 4, 2) := by decide +kernel
theorem dd_V_flaky_37 : decode cc_V_flaky 37 = .ok (.iload_n 2, 1) := by decide +kernel
theorem dd_V_flaky_38 : decode cc_V_flaky 38 = .ok (.ifCond .eq 10, 3) := by decide +kernel
theorem dd_V_flaky_41 : decode cc_V_flaky 41 = .ok (.iload 4, 2) := by decide +kernel
theorem dd_V_flaky_43 : decode cc_V_flaky 43 = .ok (.ifCond .ne 5, 3) := by decide +kernel
theorem dd_V_flaky_46 : decode cc_V_flaky 46 = .ok (.iconst 1, 1) := by decide +kernel
theorem dd_V_flaky_47 : decode cc_V_flaky 47 = .ok (.ireturn, 1) := by decide +kernel
theorem dd_V_flaky_48 : decode cc_V_flaky 48 = .ok (.iload_n 2, 1) := by decide +kernel
theorem dd_V_flaky_49 : decode cc_V_flaky 49 = .ok (.ifCond .ne 9, 3) := by decide +kernel
theorem dd_V_flaky_52 : decode cc_V_flaky 52 = .ok (.iload 4, 2) := by decide +kernel
theorem dd_V_flaky_54 : decode cc_V_flaky 54 = .ok (.iconst 1, 1) := by decide +kernel
theorem dd_V_flaky_55 : decode cc_V_flaky 55 = .ok (.if_icmp .ne 7, 3) := by decide +kernel
theorem dd_V_flaky_58 : decode cc_V_flaky 58 = .ok (.iconst 1, 1) := by decide +kernel
theorem dd_V_flaky_59 : decode cc_V_flaky 59 = .ok (.goto 4, 3) := by decide +kernel
theorem dd_V_flaky_62 : decode cc_V_flaky 62 = .ok (.iconst 0, 1) := by decide +kernel
theorem dd_V_flaky_63 : decode cc_V_flaky 63 = .ok (.istore_n 2, 1) := by decide +kernel
theorem dd_V_flaky_64 : decode cc_V_flaky 64 = .ok (.iinc 3 1, 3) := by decide +kernel
theorem dd_V_flaky_67 : decode cc_V_flaky 67 = .ok (.goto (-63), 3) := by decide +kernel
theorem dd_V_flaky_70 : decode cc_V_flaky 70 = .ok (.iconst 0, 1) := by decide +kernel
theorem dd_V_flaky_71 : decode cc_V_flaky 71 = .ok (.ireturn, 1) := by decide +kernel
theorem dd_V_addWithBegunName_0 : decode cc_V_addWithBegunName 0 = .ok (.aload_n 0, 1) := by decide +kernel
theorem dd_V_addWithBegunName_1 : decode cc_V_addWithBegunName 1 = .ok (.getfield 19, 3) := by decide +kernel
theorem dd_V_addWithBegunName_4 : decode cc_V_addWithBegunName 4 = .ok (.iload_n 1, 1) := by decide +kernel
theorem dd_V_addWithBegunName_5 : decode cc_V_addWithBegunName 5 = .ok (.aload_n 0, 1) := by decide +kernel
theorem dd_V_addWithBegunName_6 : decode cc_V_addWithBegunName 6 = .ok (.getfield 28, 3) := by decide +kernel
theorem dd_V_addWithBegunName_9 : decode cc_V_addWithBegunName 9 = .ok (.invokevirtual 120, 3) := by decide +kernel
theorem dd_V_addWithBegunName_12 : decode cc_V_addWithBegunName 12 = .ok (.istore_n 2, 1) := by decide +kernel
theorem dd_V_addWithBegunName_13 : decode cc_V_addWithBegunName 13 = .ok (.iload_n 2, 1) := by decide +kernel
theorem dd_V_addWithBegunName_14 : decode cc_V_addWithBegunName 14 = .ok (.ifCond .lt 8, 3) := by decide +kernel
theorem dd_V_addWithBegunName_17 : decode cc_V_addWithBegunName 17 = .ok (.aload_n 0, 1) := by decide +kernel
theorem dd_V_addWithBegunName_18 : decode cc_V_addWithBegunName 18 = .ok (.lconst 0, 1) := by decide +kernel
theorem dd_V_addWithBegunName_19 : decode cc_V_addWithBegunName 19 = .ok (.putfield 28, 3) := by decide +kernel
theorem dd_V_addWithBegunName_22 : decode cc_V_addWithBegunName 22 = .ok (.iload_n 2, 1) := by decide +kernel
theorem dd_V_addWithBegunName_23 : decode cc_V_addWithBegunName 23 = .ok (.ireturn, 1) := by decide +kernel
theorem dd_V_isPlain_0 : decode cc_V_isPlain 0 = .ok (.iload_n 0, 1) := by decide +kernel
theorem dd_V_isPlain_1 : decode cc_V_isPlain 1 = .ok (.bipush 32, 2) := by decide +kernel
theorem dd_V_isPlain_3 : decode cc_V_isPlain 3 = .ok (.if_icmp .lt 13, 3) := by decide +kernel
theorem dd_V_isPlain_6 : decode cc_V_isPlain 6 = .ok (.iload_n 0, 1) := by decide +kernel
theorem dd_V_isPlain_7 : decode cc_V_isPlain 7 = .ok (.bipush 126, 2) := by decide +kernel
theorem dd_V_isPlain_9 : decode cc_V_isPlain 9 = .ok (.if_icmp .gt 7, 3) := by decide +kernel
theorem dd_V_isPlain_12 : decode cc_V_isPlain 12 = .ok (.iconst 1, 1) := by decide +kernel
theorem dd_V_isPlain_13 : decode cc_V_isPlain 13 = .ok (.goto 4, 3) := by decide +kernel
theorem dd_V_isPlain_16 : decode cc_V_isPlain 16 = .ok (.iconst 0, 1) := by decide +kernel
theorem dd_V_isPlain_17 : decode cc_V_isPlain 17 = .ok (.ireturn, 1) := by decide +kernel
theorem dd_V_isOfPages_0 : decode cc_V_isOfPages 0 = .ok (.iload_n 0, 1) := by decide +kernel
theorem dd_V_isOfPages_1 : decode cc_V_isOfPages 1 = .ok (.bipush 10, 2) := by decide +kernel
theorem dd_V_isOfPages_3 : decode cc_V_isOfPages 3 = .ok (.if_icmp .eq 10, 3) := by decide +kernel
theorem dd_V_isOfPages_6 : decode cc_V_isOfPages 6 = .ok (.iload_n 0, 1) := by decide +kernel
theorem dd_V_isOfPages_7 : decode cc_V_isOfPages 7 = .ok (.invokestatic 36, 3) := by decide +kernel
theorem dd_V_isOfPages_10 : decode cc_V_isOfPages 10 = .ok (.ifCond .eq 7, 3) := by decide +kernel
theorem dd_V_isOfPages_13 : decode cc_V_isOfPages 13 = .ok (.iconst 1, 1) := by decide +kernel
theorem dd_V_isOfPages_14 : decode cc_V_isOfPages 14 = .ok (.goto 4, 3) := by decide +kernel
theorem dd_V_isOfPages_17 : decode cc_V_isOfPages 17 = .ok (.iconst 0, 1) := by decide +kernel
theorem dd_V_isOfPages_18 : decode cc_V_isOfPages 18 = .ok (.ireturn, 1) := by decide +kernel
theorem dd_M_init_0 : decode cc_M_init 0 = .ok (.aload_n 0, 1) := by decide +kernel
theorem dd_M_init_1 : decode cc_M_init 1 = .ok (.invokespecial 1, 3) := by decide +kernel
theorem dd_M_init_4 : decode cc_M_init 4 = .ok (.aload_n 0, 1) := by decide +kernel
theorem dd_M_init_5 : decode cc_M_init 5 = .ok (.bipush 6, 2) := by decide +kernel
theorem dd_M_init_7 : decode cc_M_init 7 = .ok (.newarray .char, 2) := by decide +kernel
theorem dd_M_init_9 : decode cc_M_init 9 = .ok (.putfield 7, 3) := by decide +kernel
theorem dd_M_init_12 : decode cc_M_init 12 = .ok (.aload_n 0, 1) := by decide +kernel
theorem dd_M_init_13 : decode cc_M_init 13 = .ok (.iconst 2, 1) := by decide +kernel
theorem dd_M_init_14 : decode cc_M_init 14 = .ok (.newarray .int, 2) := by decide +kernel
theorem dd_M_init_16 : decode cc_M_init 16 = .ok (.putfield 13, 3) := by decide +kernel
theorem dd_M_init_19 : decode cc_M_init 19 = .ok (.aload_n 0, 1) := by decide +kernel
theorem dd_M_init_20 : decode cc_M_init 20 = .ok (.bipush 48, 2) := by decide +kernel
theorem dd_M_init_22 : decode cc_M_init 22 = .ok (.newarray .int, 2) := by decide +kernel
theorem dd_M_init_24 : decode cc_M_init 24 = .ok (.putfield 17, 3) := by decide +kernel
theorem dd_M_init_27 : decode cc_M_init 27 = .ok (.aload_n 0, 1) := by decide +kernel
theorem dd_M_init_28 : decode cc_M_init 28 = .ok (.bipush 48, 2) := by decide +kernel
theorem dd_M_init_30 : decode cc_M_init 30 = .ok (.newarray .int, 2) := by decide +kernel
theorem dd_M_init_32 : decode cc_M_init 32 = .ok (.putfield 20, 3) := by decide +kernel
theorem dd_M_init_35 : decode cc_M_init 35 = .ok (.aload_n 0, 1) := by decide +kernel
theorem dd_M_init_36 : decode cc_M_init 36 = .ok (.bipush 48, 2) := by decide +kernel
theorem dd_M_init_38 : decode cc_M_init 38 = .ok (.newarray .boolean, 2) := by decide +kernel
theorem dd_M_init_40 : decode cc_M_init 40 = .ok (.putfield 23, 3) := by decide +kernel
theorem dd_M_init_43 : decode cc_M_init 43 = .ok (.aload_n 0, 1) := by decide +kernel
theorem dd_M_init_44 : decode cc_M_init 44 = .ok (.bipush 48, 2) := by decide +kernel
theorem dd_M_init_46 : decode cc_M_init 46 = .ok (.newarray .int, 2) := by decide +kernel
theorem dd_M_init_48 : decode cc_M_init 48 = .ok (.putfield 27, 3) := by decide +kernel
theorem dd_M_init_51 : decode cc_M_init 51 = .ok (.aload_n 0, 1) := by decide +kernel
theorem dd_M_init_52 : decode cc_M_init 52 = .ok (.sipush 288, 3) := by decide +kernel
theorem dd_M_init_55 : decode cc_M_init 55 = .ok (.newarray .char, 2) := by decide +kernel
theorem dd_M_init_57 : decode cc_M_init 57 = .ok (.putfield 30, 3) := by decide +kernel
theorem dd_M_init_60 : decode cc_M_init 60 = .ok (.aload_n 0, 1) := by decide +kernel
theorem dd_M_init_61 : decode cc_M_init 61 = .ok (.sipush 3000, 3) := by decide +kernel
theorem dd_M_init_64 : decode cc_M_init 64 = .ok (.newarray .char, 2) := by decide +kernel
theorem dd_M_init_66 : decode cc_M_init 66 = .ok (.putfield 33, 3) := by decide +kernel
theorem dd_M_init_69 : decode cc_M_init 69 = .ok (.aload_n 0, 1) := by decide +kernel
theorem dd_M_init_70 : decode cc_M_init 70 = .ok (.bipush 6, 2) := by decide +kernel
theorem dd_M_init_72 : decode cc_M_init 72 = .ok (.newarray .char, 2) := by decide +kernel
theorem dd_M_init_74 : decode cc_M_init 74 = .ok (.putfield 36, 3) := by decide +kernel
theorem dd_M_init_77 : decode cc_M_init 77 = .ok (.return_, 1) := by decide +kernel
theorem dd_M_part_0 : decode cc_M_part 0 = .ok (.iload_n 0, 1) := by decide +kernel
theorem dd_M_part_1 : decode cc_M_part 1 = .ok (.tableswitch 165 0 8 #[51, 65, 77, 89, 101, 113, 125, 139, 151], 51) := by decide +kernel
theorem dd_M_part_52 : decode cc_M_part 52 = .ok (.iload_n 1, 1) := by decide +kernel
theorem dd_M_part_53 : decode cc_M_part 53 = .ok (.ifCond .ne 9, 3) := by decide +kernel
theorem dd_M_part_56 : decode cc_M_part 56 = .ok (.ldc2_w 39, 3) := by decide +kernel
theorem dd_M_part_59 : decode cc_M_part 59 = .ok (.goto 6, 3) := by decide +kernel
theorem dd_M_part_62 : decode cc_M_part 62 = .ok (.ldc2_w 41, 3) := by decide +kernel
theorem dd_M_part_65 : decode cc_M_part 65 = .ok (.lreturn, 1) := by decide +kernel
theorem dd_M_part_66 : decode cc_M_part 66 = .ok (.iload_n 1, 1) := by decide +kernel
theorem dd_M_part_67 : decode cc_M_part 67 = .ok (.ifCond .ne 9, 3) := by decide +kernel
theorem dd_M_part_70 : decode cc_M_part 70 = .ok (.ldc2_w 43, 3) := by decide +kernel
theorem dd_M_part_73 : decode cc_M_part 73 = .ok (.goto 4, 3) := by decide +kernel
theorem dd_M_part_76 : decode cc_M_part 76 = .ok (.lconst 0, 1) := by decide +kernel
theorem dd_M_part_77 : decode cc_M_part 77 = .ok (.lreturn, 1) := by decide +kernel
theorem dd_M_part_78 : decode cc_M_part 78 = .ok (.iload_n 1, 1) := by decide +kernel
theorem dd_M_part_79 : decode cc_M_part 79 = .ok (.ifCond .ne 9, 3) := by decide +kernel
theorem dd_M_part_82 : decode cc_M_part 82 = .ok (.ldc2_w 45, 3) := by decide +kernel
theorem dd_M_part_85 : decode cc_M_part 85 = .ok (.goto 4, 3) := by decide +kernel
theorem dd_M_part_88 : decode cc_M_part 88 = .ok (.lconst 0, 1) := by decide +kernel
theorem dd_M_part_89 : decode cc_M_part 89 = .ok (.lreturn, 1) := by decide +kernel
theorem dd_M_part_90 : decode cc_M_part 90 = .ok (.iload_n 1, 1) := by decide +kernel
theorem dd_M_part_91 : decode cc_M_part 91 = .ok (.ifCond .ne 9, 3) := by decide +kernel
theorem dd_M_part_94 : decode cc_M_part 94 = .ok (.ldc2_w 47, 3) := by decide +kernel
theorem dd_M_part_97 : decode cc_M_part 97 = .ok (.goto 4, 3) := by decide +kernel
theorem dd_M_part_100 : decode cc_M_part 100 = .ok (.lconst 0, 1) := by decide +kernel
theorem dd_M_part_101 : decode cc_M_part 101 = .ok (.lreturn, 1) := by decide +kernel
theorem dd_M_part_102 : decode cc_M_part 102 = .ok (.iload_n 1, 1) := by decide +kernel
theorem dd_M_part_103 : decode cc_M_part 103 = .ok (.ifCond .ne 9, 3) := by decide +kernel
theorem dd_M_part_106 : decode cc_M_part 106 = .ok (.ldc2_w 49, 3) := by decide +kernel
theorem dd_M_part_109 : decode cc_M_part 109 = .ok (.goto 4, 3) := by decide +kernel
theorem dd_M_part_112 : decode cc_M_part 112 = .ok (.lconst 0, 1) := by decide +kernel
theorem dd_M_part_113 : decode cc_M_part 113 = .ok (.lreturn, 1) := by decide +kernel
theorem dd_M_part_114 : decode cc_M_part 114 = .ok (.iload_n 1, 1) := by decide +kernel
theorem dd_M_part_115 : decode cc_M_part 115 = .ok (.ifCond .ne 9, 3) := by decide +kernel
theorem dd_M_part_118 : decode cc_M_part 118 = .ok (.ldc2_w 51, 3) := by decide +kernel
theorem dd_M_part_121 : decode cc_M_part 121 = .ok (.goto 4, 3) := by decide +kernel
theorem dd_M_part_124 : decode cc_M_part 124 = .ok (.lconst 0, 1) := by decide +kernel
theorem dd_M_part_125 : decode cc_M_part 125 = .ok (.lreturn, 1) := by decide +kernel
theorem dd_M_part_126 : decode cc_M_part 126 = .ok (.iload_n 1, 1) := by decide +kernel
theorem dd_M_part_127 : decode cc_M_part 127 = .ok (.ifCond .ne 9, 3) := by decide +kernel
theorem dd_M_part_130 : decode cc_M_part 130 = .ok (.ldc2_w 53, 3) := by decide +kernel
theorem dd_M_part_133 : decode cc_M_part 133 = .ok (.goto 6, 3) := by decide +kernel
theorem dd_M_part_136 : decode cc_M_part 136 = .ok (.ldc2_w 55, 3) := by decide +kernel
theorem dd_M_part_139 : decode cc_M_part 139 = .ok (.lreturn, 1) := by decide +kernel
theorem dd_M_part_140 : decode cc_M_part 140 = .ok (.iload_n 1, 1) := by decide +kernel
theorem dd_M_part_141 : decode cc_M_part 141 = .ok (.ifCond .ne 9, 3) := by decide +kernel
theorem dd_M_part_144 : decode cc_M_part 144 = .ok (.ldc2_w 57, 3) := by decide +kernel
theorem dd_M_part_147 : decode cc_M_part 147 = .ok (.goto 4, 3) := by decide +kernel
theorem dd_M_part_150 : decode cc_M_part 150 = .ok (.lconst 0, 1) := by decide +kernel
theorem dd_M_part_151 : decode cc_M_part 151 = .ok (.lreturn, 1) := by decide +kernel
theorem dd_M_part_152 : decode cc_M_part 152 = .ok (.iload_n 1, 1) := by decide +kernel
theorem dd_M_part_153 : decode cc_M_part 153 = .ok (.ifCond .ne 9, 3) := by decide +kernel
theorem dd_M_part_156 : decode cc_M_part 156 = .ok (.ldc2_w 59, 3) := by decide +kernel
theorem dd_M_part_159 : decode cc_M_part 159 = .ok (.goto 6, 3) := by decide +kernel
theorem dd_M_part_162 : decode cc_M_part 162 = .ok (.ldc2_w 61, 3) := by decide +kernel
theorem dd_M_part_165 : decode cc_M_part 165 = .ok (.lreturn, 1) := by decide +kernel
theorem dd_M_part_166 : decode cc_M_part 166 = .ok (.lconst 0, 1) := by decide +kernel
theorem dd_M_part_167 : decode cc_M_part 167 = .ok (.lreturn, 1) := by decide +kernel
theorem dd_M_letterOf_0 : decode cc_M_letterOf 0 = .ok (.iload_n 0, 1) := by decide +kernel
theorem dd_M_letterOf_1 : decode cc_M_letterOf 1 = .ok (.iload_n 1, 1) := by decide +kernel
theorem dd_M_letterOf_2 : decode cc_M_letterOf 2 = .ok (.bipush 8, 2) := by decide +kernel
theorem dd_M_letterOf_4 : decode cc_M_letterOf 4 = .ok (.idiv, 1) := by decide +kernel
theorem dd_M_letterOf_5 : decode cc_M_letterOf 5 = .ok (.invokestatic 63, 3) := by decide +kernel
theorem dd_M_letterOf_8 : decode cc_M_letterOf 8 = .ok (.lstore_n 2, 1) := by decide +kernel
theorem dd_M_letterOf_9 : decode cc_M_letterOf 9 = .ok (.iload_n 1, 1) := by decide +kernel
theorem dd_M_letterOf_10 : decode cc_M_letterOf 10 = .ok (.bipush 15, 2) := by decide +kernel
theorem dd_M_letterOf_12 : decode cc_M_letterOf 12 = .ok (.if_icmp .le 7, 3) := by decide +kernel
theorem dd_M_letterOf_15 : decode cc_M_letterOf 15 = .ok (.iconst 0, 1) := by decide +kernel
theorem dd_M_letterOf_16 : decode cc_M_letterOf 16 = .ok (.goto 18, 3) := by decide +kernel
theorem dd_M_letterOf_19 : decode cc_M_letterOf 19 = .ok (.lload_n 2, 1) := by decide +kernel
theorem dd_M_letterOf_20 : decode cc_M_letterOf 20 = .ok (.bipush 8, 2) := by decide +kernel
theorem dd_M_letterOf_22 : decode cc_M_letterOf 22 = .ok (.iload_n 1, 1) := by decide +kernel
theorem dd_M_letterOf_23 : decode cc_M_letterOf 23 = .ok (.bipush 8, 2) := by decide +kernel
theorem dd_M_letterOf_25 : decode cc_M_letterOf 25 = .ok (.irem, 1) := by decide +kernel
theorem dd_M_letterOf_26 : decode cc_M_letterOf 26 = .ok (.imul, 1) := by decide +kernel
theorem dd_M_letterOf_27 : decode cc_M_letterOf 27 = .ok (.lshr, 1) := by decide +kernel
theorem dd_M_letterOf_28 : decode cc_M_letterOf 28 = .ok (.ldc2_w 67, 3) := by decide +kernel
theorem dd_M_letterOf_31 : decode cc_M_letterOf 31 = .ok (.land, 1) := by decide +kernel
theorem dd_M_letterOf_32 : decode cc_M_letterOf 32 = .ok (.l2i, 1) := by decide +kernel
theorem dd_M_letterOf_33 : decode cc_M_letterOf 33 = .ok (.i2c, 1) := by decide +kernel
theorem dd_M_letterOf_34 : decode cc_M_letterOf 34 = .ok (.ireturn, 1) := by decide +kernel
theorem dd_M_letter_0 : decode cc_M_letter 0 = .ok (.iload_n 1, 1) := by decide +kernel
theorem dd_M_letter_1 : decode cc_M_letter 1 = .ok (.bipush 32, 2) := by decide +kernel
theorem dd_M_letter_3 : decode cc_M_letter 3 = .ok (.if_icmp .lt 18, 3) := by decide +kernel
theorem dd_M_letter_6 : decode cc_M_letter 6 = .ok (.iload_n 1, 1) := by decide +kernel
theorem dd_M_letter_7 : decode cc_M_letter 7 = .ok (.bipush 126, 2) := by decide +kernel
theorem dd_M_letter_9 : decode cc_M_letter 9 = .ok (.if_icmp .gt 12, 3) := by decide +kernel
theorem dd_M_letter_12 : decode cc_M_letter 12 = .ok (.aload_n 0, 1) := by decide +kernel
theorem dd_M_letter_13 : decode cc_M_letter 13 = .ok (.getfield 69, 3) := by decide +kernel
theorem dd_M_letter_16 : decode cc_M_letter 16 = .ok (.bipush 6, 2) := by decide +kernel
theorem dd_M_letter_18 : decode cc_M_letter 18 = .ok (.if_icmp .ne 5, 3) := by decide +kernel
theorem dd_M_letter_21 : decode cc_M_letter 21 = .ok (.iconst 0, 1) := by decide +kernel
theorem dd_M_letter_22 : decode cc_M_letter 22 = .ok (.ireturn, 1) := by decide +kernel
theorem dd_M_letter_23 : decode cc_M_letter 23 = .ok (.aload_n 0, 1) := by decide +kernel
theorem dd_M_letter_24 : decode cc_M_letter 24 = .ok (.getfield 7, 3) := by decide +kernel
theorem dd_M_letter_27 : decode cc_M_letter 27 = .ok (.aload_n 0, 1) := by decide +kernel
theorem dd_M_letter_28 : decode cc_M_letter 28 = .ok (.getfield 69, 3) := by decide +kernel
theorem dd_M_letter_31 : decode cc_M_letter 31 = .ok (.iload_n 1, 1) := by decide +kernel
theorem dd_M_letter_32 : decode cc_M_letter 32 = .ok (.castore, 1) := by decide +kernel
theorem dd_M_letter_33 : decode cc_M_letter 33 = .ok (.aload_n 0, 1) := by decide +kernel
theorem dd_M_letter_34 : decode cc_M_letter 34 = .ok (.dup, 1) := by decide +kernel
theorem dd_M_letter_35 : decode cc_M_letter 35 = .ok (.getfield 69, 3) := by decide +kernel
theorem dd_M_letter_38 : decode cc_M_letter 38 = .ok (.iconst 1, 1) := by decide +kernel
