theorem dd_M_closing_10 : decode cc_M_closing 10 = .ok (.aload_n 0, 1) := by decide +kernel
theorem dd_M_closing_11 : decode cc_M_closing 11 = .ok (.iload_n 1, 1) := by decide +kernel
theorem dd_M_closing_12 : decode cc_M_closing 12 = .ok (.invokevirtual 147, 3) := by decide +kernel
theorem dd_M_closing_15 : decode cc_M_closing 15 = .ok (.ifCond .eq 77, 3) := by decide +kernel
theorem dd_M_closing_18 : decode cc_M_closing 18 = .ok (.aload_n 0, 1) := by decide +kernel
theorem dd_M_closing_19 : decode cc_M_closing 19 = .ok (.aload_n 0, 1) := by decide +kernel
theorem dd_M_closing_20 : decode cc_M_closing 20 = .ok (.iconst 1, 1) := by decide +kernel
theorem dd_M_closing_21 : decode cc_M_closing 21 = .ok (.aload_n 0, 1) := by decide +kernel
theorem dd_M_closing_22 : decode cc_M_closing 22 = .ok (.getfield 144, 3) := by decide +kernel
theorem dd_M_closing_25 : decode cc_M_closing 25 = .ok (.invokevirtual 91, 3) := by decide +kernel
theorem dd_M_closing_28 : decode cc_M_closing 28 = .ok (.ifCond .eq 7, 3) := by decide +kernel
theorem dd_M_closing_31 : decode cc_M_closing 31 = .ok (.iconst 1, 1) := by decide +kernel
theorem dd_M_closing_32 : decode cc_M_closing 32 = .ok (.goto 4, 3) := by decide +kernel
theorem dd_M_closing_35 : decode cc_M_closing 35 = .ok (.iconst 2, 1) := by decide +kernel
theorem dd_M_closing_36 : decode cc_M_closing 36 = .ok (.invokevirtual 150, 3) := by decide +kernel
theorem dd_M_closing_39 : decode cc_M_closing 39 = .ok (.ifCond .eq 53, 3) := by decide +kernel
theorem dd_M_closing_42 : decode cc_M_closing 42 = .ok (.aload_n 0, 1) := by decide +kernel
theorem dd_M_closing_43 : decode cc_M_closing 43 = .ok (.aload_n 0, 1) := by decide +kernel
theorem dd_M_closing_44 : decode cc_M_closing 44 = .ok (.iconst 1, 1) := by decide +kernel
theorem dd_M_closing_45 : decode cc_M_closing 45 = .ok (.aload_n 0, 1) := by decide +kernel
theorem dd_M_closing_46 : decode cc_M_closing 46 = .ok (.getfield 144, 3) := by decide +kernel
theorem dd_M_closing_49 : decode cc_M_closing 49 = .ok (.invokevirtual 113, 3) := by decide +kernel
theorem dd_M_closing_52 : decode cc_M_closing 52 = .ok (.invokevirtual 153, 3) := by decide +kernel
theorem dd_M_closing_55 : decode cc_M_closing 55 = .ok (.ifCond .eq 37, 3) := by decide +kernel
theorem dd_M_closing_58 : decode cc_M_closing 58 = .ok (.aload_n 0, 1) := by decide +kernel
theorem dd_M_closing_59 : decode cc_M_closing 59 = .ok (.iconst 3, 1) := by decide +kernel
theorem dd_M_closing_60 : decode cc_M_closing 60 = .ok (.invokevirtual 150, 3) := by decide +kernel
theorem dd_M_closing_63 : decode cc_M_closing 63 = .ok (.ifCond .eq 29, 3) := by decide +kernel
theorem dd_M_closing_66 : decode cc_M_closing 66 = .ok (.aload_n 0, 1) := by decide +kernel
theorem dd_M_closing_67 : decode cc_M_closing 67 = .ok (.aload_n 0, 1) := by decide +kernel
theorem dd_M_closing_68 : decode cc_M_closing 68 = .ok (.getfield 135, 3) := by decide +kernel
theorem dd_M_closing_71 : decode cc_M_closing 71 = .ok (.invokevirtual 156, 3) := by decide +kernel
theorem dd_M_closing_74 : decode cc_M_closing 74 = .ok (.ifCond .eq 18, 3) := by decide +kernel
theorem dd_M_closing_77 : decode cc_M_closing 77 = .ok (.aload_n 0, 1) := by decide +kernel
theorem dd_M_closing_78 : decode cc_M_closing 78 = .ok (.aload_n 0, 1) := by decide +kernel
theorem dd_M_closing_79 : decode cc_M_closing 79 = .ok (.getfield 144, 3) := by decide +kernel
theorem dd_M_closing_82 : decode cc_M_closing 82 = .ok (.invokevirtual 159, 3) := by decide +kernel
theorem dd_M_closing_85 : decode cc_M_closing 85 = .ok (.ifCond .eq 7, 3) := by decide +kernel
theorem dd_M_closing_88 : decode cc_M_closing 88 = .ok (.iconst 1, 1) := by decide +kernel
theorem dd_M_closing_89 : decode cc_M_closing 89 = .ok (.goto 4, 3) := by decide +kernel
theorem dd_M_closing_92 : decode cc_M_closing 92 = .ok (.iconst 0, 1) := by decide +kernel
theorem dd_M_closing_93 : decode cc_M_closing 93 = .ok (.istore_n 2, 1) := by decide +kernel
theorem dd_M_closing_94 : decode cc_M_closing 94 = .ok (.iload_n 2, 1) := by decide +kernel
theorem dd_M_closing_95 : decode cc_M_closing 95 = .ok (.ifCond .eq 37, 3) := by decide +kernel
theorem dd_M_closing_98 : decode cc_M_closing 98 = .ok (.aload_n 0, 1) := by decide +kernel
theorem dd_M_closing_99 : decode cc_M_closing 99 = .ok (.getfield 23, 3) := by decide +kernel
theorem dd_M_closing_102 : decode cc_M_closing 102 = .ok (.bipush 24, 2) := by decide +kernel
theorem dd_M_closing_104 : decode cc_M_closing 104 = .ok (.aload_n 0, 1) := by decide +kernel
theorem dd_M_closing_105 : decode cc_M_closing 105 = .ok (.getfield 144, 3) := by decide +kernel
theorem dd_M_closing_108 : decode cc_M_closing 108 = .ok (.iadd, 1) := by decide +kernel
theorem dd_M_closing_109 : decode cc_M_closing 109 = .ok (.iconst 1, 1) := by decide +kernel
theorem dd_M_closing_110 : decode cc_M_closing 110 = .ok (.bastore, 1) := by decide +kernel
theorem dd_M_closing_111 : decode cc_M_closing 111 = .ok (.aload_n 0, 1) := by decide +kernel
theorem dd_M_closing_112 : decode cc_M_closing 112 = .ok (.aload_n 0, 1) := by decide +kernel
theorem dd_M_closing_113 : decode cc_M_closing 113 = .ok (.getfield 17, 3) := by decide +kernel
theorem dd_M_closing_116 : decode cc_M_closing 116 = .ok (.bipush 24, 2) := by decide +kernel
theorem dd_M_closing_118 : decode cc_M_closing 118 = .ok (.aload_n 0, 1) := by decide +kernel
theorem dd_M_closing_119 : decode cc_M_closing 119 = .ok (.getfield 144, 3) := by decide +kernel
theorem dd_M_closing_122 : decode cc_M_closing 122 = .ok (.iadd, 1) := by decide +kernel
theorem dd_M_closing_123 : decode cc_M_closing 123 = .ok (.iaload, 1) := by decide +kernel
theorem dd_M_closing_124 : decode cc_M_closing 124 = .ok (.putfield 144, 3) := by decide +kernel
theorem dd_M_closing_127 : decode cc_M_closing 127 = .ok (.aload_n 0, 1) := by decide +kernel
theorem dd_M_closing_128 : decode cc_M_closing 128 = .ok (.iconst 0, 1) := by decide +kernel
theorem dd_M_closing_129 : decode cc_M_closing 129 = .ok (.putfield 162, 3) := by decide +kernel
theorem dd_M_closing_132 : decode cc_M_closing 132 = .ok (.iload_n 2, 1) := by decide +kernel
theorem dd_M_closing_133 : decode cc_M_closing 133 = .ok (.ireturn, 1) := by decide +kernel
theorem dd_M_plan_0 : decode cc_M_plan 0 = .ok (.aload_n 0, 1) := by decide +kernel
theorem dd_M_plan_1 : decode cc_M_plan 1 = .ok (.iload_n 1, 1) := by decide +kernel
theorem dd_M_plan_2 : decode cc_M_plan 2 = .ok (.putfield 132, 3) := by decide +kernel
theorem dd_M_plan_5 : decode cc_M_plan 5 = .ok (.aload_n 0, 1) := by decide +kernel
theorem dd_M_plan_6 : decode cc_M_plan 6 = .ok (.iload_n 2, 1) := by decide +kernel
theorem dd_M_plan_7 : decode cc_M_plan 7 = .ok (.invokevirtual 147, 3) := by decide +kernel
theorem dd_M_plan_10 : decode cc_M_plan 10 = .ok (.ifCond .eq 39, 3) := by decide +kernel
theorem dd_M_plan_13 : decode cc_M_plan 13 = .ok (.aload_n 0, 1) := by decide +kernel
theorem dd_M_plan_14 : decode cc_M_plan 14 = .ok (.bipush 7, 2) := by decide +kernel
theorem dd_M_plan_16 : decode cc_M_plan 16 = .ok (.invokevirtual 150, 3) := by decide +kernel
theorem dd_M_plan_19 : decode cc_M_plan 19 = .ok (.ifCond .eq 30, 3) := by decide +kernel
theorem dd_M_plan_22 : decode cc_M_plan 22 = .ok (.aload_n 0, 1) := by decide +kernel
theorem dd_M_plan_23 : decode cc_M_plan 23 = .ok (.aload_n 0, 1) := by decide +kernel
theorem dd_M_plan_24 : decode cc_M_plan 24 = .ok (.iconst 1, 1) := by decide +kernel
theorem dd_M_plan_25 : decode cc_M_plan 25 = .ok (.aload_n 0, 1) := by decide +kernel
theorem dd_M_plan_26 : decode cc_M_plan 26 = .ok (.getfield 144, 3) := by decide +kernel
theorem dd_M_plan_29 : decode cc_M_plan 29 = .ok (.invokevirtual 122, 3) := by decide +kernel
theorem dd_M_plan_32 : decode cc_M_plan 32 = .ok (.invokevirtual 153, 3) := by decide +kernel
theorem dd_M_plan_35 : decode cc_M_plan 35 = .ok (.ifCond .eq 14, 3) := by decide +kernel
theorem dd_M_plan_38 : decode cc_M_plan 38 = .ok (.aload_n 0, 1) := by decide +kernel
theorem dd_M_plan_39 : decode cc_M_plan 39 = .ok (.getfield 132, 3) := by decide +kernel
theorem dd_M_plan_42 : decode cc_M_plan 42 = .ok (.aload_n 0, 1) := by decide +kernel
theorem dd_M_plan_43 : decode cc_M_plan 43 = .ok (.getfield 135, 3) := by decide +kernel
theorem dd_M_plan_46 : decode cc_M_plan 46 = .ok (.if_icmp .eq 5, 3) := by decide +kernel
theorem dd_M_plan_49 : decode cc_M_plan 49 = .ok (.iconst 0, 1) := by decide +kernel
theorem dd_M_plan_50 : decode cc_M_plan 50 = .ok (.ireturn, 1) := by decide +kernel
theorem dd_M_plan_51 : decode cc_M_plan 51 = .ok (.aload_n 0, 1) := by decide +kernel
theorem dd_M_plan_52 : decode cc_M_plan 52 = .ok (.aload_n 0, 1) := by decide +kernel
theorem dd_M_plan_53 : decode cc_M_plan 53 = .ok (.getfield 144, 3) := by decide +kernel
theorem dd_M_plan_56 : decode cc_M_plan 56 = .ok (.ifCond .lt 7, 3) := by decide +kernel
theorem dd_M_plan_59 : decode cc_M_plan 59 = .ok (.iconst 1, 1) := by decide +kernel
theorem dd_M_plan_60 : decode cc_M_plan 60 = .ok (.goto 4, 3) := by decide +kernel
theorem dd_M_plan_63 : decode cc_M_plan 63 = .ok (.iconst 0, 1) := by decide +kernel
theorem dd_M_plan_64 : decode cc_M_plan 64 = .ok (.putfield 162, 3) := by decide +kernel
theorem dd_M_plan_67 : decode cc_M_plan 67 = .ok (.aload_n 0, 1) := by decide +kernel
theorem dd_M_plan_68 : decode cc_M_plan 68 = .ok (.aload_n 0, 1) := by decide +kernel
theorem dd_M_plan_69 : decode cc_M_plan 69 = .ok (.getfield 144, 3) := by decide +kernel
theorem dd_M_plan_72 : decode cc_M_plan 72 = .ok (.ifCond .ge 7, 3) := by decide +kernel
theorem dd_M_plan_75 : decode cc_M_plan 75 = .ok (.iconst 1, 1) := by decide +kernel
theorem dd_M_plan_76 : decode cc_M_plan 76 = .ok (.goto 4, 3) := by decide +kernel
theorem dd_M_plan_79 : decode cc_M_plan 79 = .ok (.iconst 0, 1) := by decide +kernel
theorem dd_M_plan_80 : decode cc_M_plan 80 = .ok (.putfield 166, 3) := by decide +kernel
theorem dd_M_plan_83 : decode cc_M_plan 83 = .ok (.iconst 1, 1) := by decide +kernel
theorem dd_M_plan_84 : decode cc_M_plan 84 = .ok (.ireturn, 1) := by decide +kernel
theorem dd_M_bail_0 : decode cc_M_bail 0 = .ok (.aload_n 0, 1) := by decide +kernel
theorem dd_M_bail_1 : decode cc_M_bail 1 = .ok (.iload_n 1, 1) := by decide +kernel
theorem dd_M_bail_2 : decode cc_M_bail 2 = .ok (.putfield 132, 3) := by decide +kernel
theorem dd_M_bail_5 : decode cc_M_bail 5 = .ok (.aload_n 0, 1) := by decide +kernel
theorem dd_M_bail_6 : decode cc_M_bail 6 = .ok (.aload_n 0, 1) := by decide +kernel
theorem dd_M_bail_7 : decode cc_M_bail 7 = .ok (.getfield 144, 3) := by decide +kernel
theorem dd_M_bail_10 : decode cc_M_bail 10 = .ok (.ifCond .lt 27, 3) := by decide +kernel
theorem dd_M_bail_13 : decode cc_M_bail 13 = .ok (.aload_n 0, 1) := by decide +kernel
theorem dd_M_bail_14 : decode cc_M_bail 14 = .ok (.bipush 8, 2) := by decide +kernel
theorem dd_M_bail_16 : decode cc_M_bail 16 = .ok (.invokevirtual 150, 3) := by decide +kernel
theorem dd_M_bail_19 : decode cc_M_bail 19 = .ok (.ifCond .eq 18, 3) := by decide +kernel
theorem dd_M_bail_22 : decode cc_M_bail 22 = .ok (.aload_n 0, 1) := by decide +kernel
theorem dd_M_bail_23 : decode cc_M_bail 23 = .ok (.getfield 132, 3) := by decide +kernel
theorem dd_M_bail_26 : decode cc_M_bail 26 = .ok (.aload_n 0, 1) := by decide +kernel
theorem dd_M_bail_27 : decode cc_M_bail 27 = .ok (.getfield 135, 3) := by decide +kernel
theorem dd_M_bail_30 : decode cc_M_bail 30 = .ok (.if_icmp .ne 7, 3) := by decide +kernel
theorem dd_M_bail_33 : decode cc_M_bail 33 = .ok (.iconst 1, 1) := by decide +kernel
theorem dd_M_bail_34 : decode cc_M_bail 34 = .ok (.goto 4, 3) := by decide +kernel
theorem dd_M_bail_37 : decode cc_M_bail 37 = .ok (.iconst 0, 1) := by decide +kernel
theorem dd_M_bail_38 : decode cc_M_bail 38 = .ok (.putfield 166, 3) := by decide +kernel
theorem dd_M_bail_41 : decode cc_M_bail 41 = .ok (.aload_n 0, 1) := by decide +kernel
theorem dd_M_bail_42 : decode cc_M_bail 42 = .ok (.getfield 166, 3) := by decide +kernel
theorem dd_M_bail_45 : decode cc_M_bail 45 = .ok (.ireturn, 1) := by decide +kernel
theorem dd_M_subtest_0 : decode cc_M_subtest 0 = .ok (.aload_n 0, 1) := by decide +kernel
theorem dd_M_subtest_1 : decode cc_M_subtest 1 = .ok (.iload_n 1, 1) := by decide +kernel
theorem dd_M_subtest_2 : decode cc_M_subtest 2 = .ok (.putfield 132, 3) := by decide +kernel
theorem dd_M_subtest_5 : decode cc_M_subtest 5 = .ok (.iload_n 2, 1) := by decide +kernel
theorem dd_M_subtest_6 : decode cc_M_subtest 6 = .ok (.iconst 3, 1) := by decide +kernel
theorem dd_M_subtest_7 : decode cc_M_subtest 7 = .ok (.if_icmp .ge 43, 3) := by decide +kernel
theorem dd_M_subtest_10 : decode cc_M_subtest 10 = .ok (.aload_n 0, 1) := by decide +kernel
theorem dd_M_subtest_11 : decode cc_M_subtest 11 = .ok (.iload_n 2, 1) := by decide +kernel
theorem dd_M_subtest_12 : decode cc_M_subtest 12 = .ok (.invokevirtual 147, 3) := by decide +kernel
theorem dd_M_subtest_15 : decode cc_M_subtest 15 = .ok (.ifCond .eq 35, 3) := by decide +kernel
theorem dd_M_subtest_18 : decode cc_M_subtest 18 = .ok (.aload_n 0, 1) := by decide +kernel
theorem dd_M_subtest_19 : decode cc_M_subtest 19 = .ok (.bipush 6, 2) := by decide +kernel
theorem dd_M_subtest_21 : decode cc_M_subtest 21 = .ok (.invokevirtual 150, 3) := by decide +kernel
theorem dd_M_subtest_24 : decode cc_M_subtest 24 = .ok (.ifCond .eq 26, 3) := by decide +kernel
theorem dd_M_subtest_27 : decode cc_M_subtest 27 = .ok (.aload_n 0, 1) := by decide +kernel
theorem dd_M_subtest_28 : decode cc_M_subtest 28 = .ok (.aload_n 0, 1) := by decide +kernel
theorem dd_M_subtest_29 : decode cc_M_subtest 29 = .ok (.getfield 135, 3) := by decide +kernel
theorem dd_M_subtest_32 : decode cc_M_subtest 32 = .ok (.invokevirtual 156, 3) := by decide +kernel
theorem dd_M_subtest_35 : decode cc_M_subtest 35 = .ok (.ifCond .eq 15, 3) := by decide +kernel
theorem dd_M_subtest_38 : decode cc_M_subtest 38 = .ok (.aload_n 0, 1) := by decide +kernel
theorem dd_M_subtest_39 : decode cc_M_subtest 39 = .ok (.iconst 4, 1) := by decide +kernel
theorem dd_M_subtest_40 : decode cc_M_subtest 40 = .ok (.invokevirtual 169, 3) := by decide +kernel
theorem dd_M_subtest_43 : decode cc_M_subtest 43 = .ok (.ifCond .eq 7, 3) := by decide +kernel
theorem dd_M_subtest_46 : decode cc_M_subtest 46 = .ok (.iconst 1, 1) := by decide +kernel
theorem dd_M_subtest_47 : decode cc_M_subtest 47 = .ok (.goto 4, 3) := by decide +kernel
theorem dd_M_subtest_50 : decode cc_M_subtest 50 = .ok (.iconst 0, 1) := by decide +kernel
theorem dd_M_subtest_51 : decode cc_M_subtest 51 = .ok (.ireturn, 1) := by decide +kernel
theorem dd_M_endsWith_0 : decode cc_M_endsWith 0 = .ok (.aload_n 0, 1) := by decide +kernel
theorem dd_M_endsWith_1 : decode cc_M_endsWith 1 = .ok (.getfield 132, 3) := by decide +kernel
theorem dd_M_endsWith_4 : decode cc_M_endsWith 4 = .ok (.istore 4, 2) := by decide +kernel
theorem dd_M_endsWith_6 : decode cc_M_endsWith 6 = .ok (.aload_n 0, 1) := by decide +kernel
theorem dd_M_endsWith_7 : decode cc_M_endsWith 7 = .ok (.aload_n 0, 1) := by decide +kernel
theorem dd_M_endsWith_8 : decode cc_M_endsWith 8 = .ok (.getfield 135, 3) := by decide +kernel
theorem dd_M_endsWith_11 : decode cc_M_endsWith 11 = .ok (.iload_n 3, 1) := by decide +kernel
theorem dd_M_endsWith_12 : decode cc_M_endsWith 12 = .ok (.isub, 1) := by decide +kernel
theorem dd_M_endsWith_13 : decode cc_M_endsWith 13 = .ok (.putfield 132, 3) := by decide +kernel
theorem dd_M_endsWith_16 : decode cc_M_endsWith 16 = .ok (.aload_n 0, 1) := by decide +kernel
theorem dd_M_endsWith_17 : decode cc_M_endsWith 17 = .ok (.getfield 132, 3) := by decide +kernel
theorem dd_M_endsWith_20 : decode cc_M_endsWith 20 = .ok (.iload_n 1, 1) := by decide +kernel
theorem dd_M_endsWith_21 : decode cc_M_endsWith 21 = .ok (.if_icmp .lt 15, 3) := by decide +kernel
theorem dd_M_endsWith_24 : decode cc_M_endsWith 24 = .ok (.aload_n 0, 1) := by decide +kernel
theorem dd_M_endsWith_25 : decode cc_M_endsWith 25 = .ok (.iload_n 2, 1) := by decide +kernel
theorem dd_M_endsWith_26 : decode cc_M_endsWith 26 = .ok (.invokevirtual 150, 3) := by decide +kernel
theorem dd_M_endsWith_29 : decode cc_M_endsWith 29 = .ok (.ifCond .eq 7, 3) := by decide +kernel
theorem dd_M_endsWith_32 : decode cc_M_endsWith 32 = .ok (.iconst 1, 1) := by decide +kernel
theorem dd_M_endsWith_33 : decode cc_M_endsWith 33 = .ok (.goto 4, 3) := by decide +kernel
theorem dd_M_endsWith_36 : decode cc_M_endsWith 36 = .ok (.iconst 0, 1) := by decide +kernel
theorem dd_M_endsWith_37 : decode cc_M_endsWith 37 = .ok (.istore 5, 2) := by decide +kernel
theorem dd_M_endsWith_39 : decode cc_M_endsWith 39 = .ok (.aload_n 0, 1) := by decide +kernel
theorem dd_M_endsWith_40 : decode cc_M_endsWith 40 = .ok (.iload 4, 2) := by decide +kernel
theorem dd_M_endsWith_42 : decode cc_M_endsWith 42 = .ok (.putfield 132, 3) := by decide +kernel
theorem dd_M_endsWith_45 : decode cc_M_endsWith 45 = .ok (.iload 5, 2) := by decide +kernel
theorem dd_M_endsWith_47 : decode cc_M_endsWith 47 = .ok (.ireturn, 1) := by decide +kernel
theorem dd_M_testLine_0 : decode cc_M_testLine 0 = .ok (.aload_n 0, 1) := by decide +kernel
theorem dd_M_testLine_1 : decode cc_M_testLine 1 = .ok (.iload_n 1, 1) := by decide +kernel
theorem dd_M_testLine_2 : decode cc_M_testLine 2 = .ok (.putfield 132, 3) := by decide +kernel
theorem dd_M_testLine_5 : decode cc_M_testLine 5 = .ok (.aload_n 0, 1) := by decide +kernel
theorem dd_M_testLine_6 : decode cc_M_testLine 6 = .ok (.iload_n 2, 1) := by decide +kernel
theorem dd_M_testLine_7 : decode cc_M_testLine 7 = .ok (.invokevirtual 147, 3) := by decide +kernel
theorem dd_M_testLine_10 : decode cc_M_testLine 10 = .ok (.ifCond .ne 5, 3) := by decide +kernel
theorem dd_M_testLine_13 : decode cc_M_testLine 13 = .ok (.iconst 0, 1) := by decide +kernel
theorem dd_M_testLine_14 : decode cc_M_testLine 14 = .ok (.ireturn, 1) := by decide +kernel
theorem dd_M_testLine_15 : decode cc_M_testLine 15 = .ok (.aload_n 0, 1) := by decide +kernel
theorem dd_M_testLine_16 : decode cc_M_testLine 16 = .ok (.iconst 1, 1) := by decide +kernel
theorem dd_M_testLine_17 : decode cc_M_testLine 17 = .ok (.invokevirtual 150, 3) := by decide +kernel
theorem dd_M_testLine_20 : decode cc_M_testLine 20 = .ok (.istore_n 3, 1) := by decide +kernel
theorem dd_M_testLine_21 : decode cc_M_testLine 21 = .ok (.aload_n 0, 1) := by decide +kernel
theorem dd_M_testLine_22 : decode cc_M_testLine 22 = .ok (.iconst 1, 1) := by decide +kernel
theorem dd_M_testLine_23 : decode cc_M_testLine 23 = .ok (.aload_n 0, 1) := by decide +kernel
theorem dd_M_testLine_24 : decode cc_M_testLine 24 = .ok (.getfield 144, 3) := by decide +kernel
theorem dd_M_testLine_27 : decode cc_M_testLine 27 = .ok (.invokevirtual 122, 3) := by decide +kernel
theorem dd_M_testLine_30 : decode cc_M_testLine 30 = .ok (.istore 4, 2) := by decide +kernel
theorem dd_M_testLine_32 : decode cc_M_testLine 32 = .ok (.iload_n 3, 1) := by decide +kernel
theorem dd_M_testLine_33 : decode cc_M_testLine 33 = .ok (.ifCond .ne 11, 3) := by decide +kernel
theorem dd_M_testLine_36 : decode cc_M_testLine 36 = .ok (.aload_n 0, 1) := by decide +kernel
theorem dd_M_testLine_37 : decode cc_M_testLine 37 = .ok (.iconst 2, 1) := by decide +kernel
theorem dd_M_testLine_38 : decode cc_M_testLine 38 = .ok (.invokevirtual 150, 3) := by decide +kernel
theorem dd_M_testLine_41 : decode cc_M_testLine 41 = .ok (.ifCond .eq 22, 3) := by decide +kernel
theorem dd_M_testLine_44 : decode cc_M_testLine 44 = .ok (.aload_n 0, 1) := by decide +kernel
theorem dd_M_testLine_45 : decode cc_M_testLine 45 = .ok (.iload 4, 2) := by decide +kernel
theorem dd_M_testLine_47 : decode cc_M_testLine 47 = .ok (.iconst 1, 1) := by decide +kernel
theorem dd_M_testLine_48 : decode cc_M_testLine 48 = .ok (.iadd, 1) := by decide +kernel
theorem dd_M_testLine_49 : decode cc_M_testLine 49 = .ok (.invokevirtual 153, 3) := by decide +kernel
theorem dd_M_testLine_52 : decode cc_M_testLine 52 = .ok (.ifCond .eq 11, 3) := by decide +kernel
theorem dd_M_testLine_55 : decode cc_M_testLine 55 = .ok (.aload_n 0, 1) := by decide +kernel
theorem dd_M_testLine_56 : decode cc_M_testLine 56 = .ok (.iconst 3, 1) := by decide +kernel
theorem dd_M_testLine_57 : decode cc_M_testLine 57 = .ok (.invokevirtual 150, 3) := by decide +kernel
theorem dd_M_testLine_60 : decode cc_M_testLine 60 = .ok (.ifCond .ne 5, 3) := by decide +kernel
theorem dd_M_testLine_63 : decode cc_M_testLine 63 = .ok (.iconst 0, 1) := by decide +kernel
theorem dd_M_testLine_64 : decode cc_M_testLine 64 = .ok (.ireturn, 1) := by decide +kernel
theorem dd_M_testLine_65 : decode cc_M_testLine 65 = .ok (.aload_n 0, 1) := by decide +kernel
theorem dd_M_testLine_66 : decode cc_M_testLine 66 = .ok (.aload_n 0, 1) := by decide +kernel
theorem dd_M_testLine_67 : decode cc_M_testLine 67 = .ok (.getfield 132, 3) := by decide +kernel
theorem dd_M_testLine_70 : decode cc_M_testLine 70 = .ok (.iload_n 3, 1) := by decide +kernel
theorem dd_M_testLine_71 : decode cc_M_testLine 71 = .ok (.ifCond .eq 7, 3) := by decide +kernel
theorem dd_M_testLine_74 : decode cc_M_testLine 74 = .ok (.iconst 4, 1) := by decide +kernel
theorem dd_M_testLine_75 : decode cc_M_testLine 75 = .ok (.goto 4, 3) := by decide +kernel
theorem dd_M_testLine_78 : decode cc_M_testLine 78 = .ok (.iconst 5, 1) := by decide +kernel
theorem dd_M_testLine_79 : decode cc_M_testLine 79 = .ok (.bipush 7, 2) := by decide +kernel
theorem dd_M_testLine_81 : decode cc_M_testLine 81 = .ok (.invokevirtual 172, 3) := by decide +kernel
theorem dd_M_testLine_84 : decode cc_M_testLine 84 = .ok (.istore 5, 2) := by decide +kernel
theorem dd_M_testLine_86 : decode cc_M_testLine 86 = .ok (.aload_n 0, 1) := by decide +kernel
theorem dd_M_testLine_87 : decode cc_M_testLine 87 = .ok (.iload 5, 2) := by decide +kernel
theorem dd_M_testLine_89 : decode cc_M_testLine 89 = .ok (.ifCond .eq 13, 3) := by decide +kernel
theorem dd_M_testLine_92 : decode cc_M_testLine 92 = .ok (.aload_n 0, 1) := by decide +kernel
theorem dd_M_testLine_93 : decode cc_M_testLine 93 = .ok (.getfield 135, 3) := by decide +kernel
theorem dd_M_testLine_96 : decode cc_M_testLine 96 = .ok (.bipush 7, 2) := by decide +kernel
theorem dd_M_testLine_98 : decode cc_M_testLine 98 = .ok (.isub, 1) := by decide +kernel
theorem dd_M_testLine_99 : decode cc_M_testLine 99 = .ok (.goto 7, 3) := by decide +kernel
theorem dd_M_testLine_102 : decode cc_M_testLine 102 = .ok (.aload_n 0, 1) := by decide +kernel
theorem dd_M_testLine_103 : decode cc_M_testLine 103 = .ok (.getfield 135, 3) := by decide +kernel
theorem dd_M_testLine_106 : decode cc_M_testLine 106 = .ok (.invokevirtual 156, 3) := by decide +kernel
theorem dd_M_testLine_109 : decode cc_M_testLine 109 = .ok (.ifCond .eq 40, 3) := by decide +kernel
theorem dd_M_testLine_112 : decode cc_M_testLine 112 = .ok (.aload_n 0, 1) := by decide +kernel
theorem dd_M_testLine_113 : decode cc_M_testLine 113 = .ok (.iload 5, 2) := by decide +kernel
theorem dd_M_testLine_115 : decode cc_M_testLine 115 = .ok (.ifCond .eq 15, 3) := by decide +kernel
theorem dd_M_testLine_118 : decode cc_M_testLine 118 = .ok (.iload_n 3, 1) := by decide +kernel
theorem dd_M_testLine_119 : decode cc_M_testLine 119 = .ok (.ifCond .eq 7, 3) := by decide +kernel
theorem dd_M_testLine_122 : decode cc_M_testLine 122 = .ok (.iconst 2, 1) := by decide +kernel
theorem dd_M_testLine_123 : decode cc_M_testLine 123 = .ok (.goto 16, 3) := by decide +kernel
theorem dd_M_testLine_126 : decode cc_M_testLine 126 = .ok (.iconst 3, 1) := by decide +kernel
theorem dd_M_testLine_127 : decode cc_M_testLine 127 = .ok (.goto 12, 3) := by decide +kernel
theorem dd_M_testLine_130 : decode cc_M_testLine 130 = .ok (.iload_n 3, 1) := by decide +kernel
theorem dd_M_testLine_131 : decode cc_M_testLine 131 = .ok (.ifCond .eq 7, 3) := by decide +kernel
theorem dd_M_testLine_134 : decode cc_M_testLine 134 = .ok (.iconst 0, 1) := by decide +kernel
theorem dd_M_testLine_135 : decode cc_M_testLine 135 = .ok (.goto 4, 3) := by decide +kernel
theorem dd_M_testLine_138 : decode cc_M_testLine 138 = .ok (.iconst 1, 1) := by decide +kernel
theorem dd_M_testLine_139 : decode cc_M_testLine 139 = .ok (.invokevirtual 169, 3) := by decide +kernel
theorem dd_M_testLine_142 : decode cc_M_testLine 142 = .ok (.ifCond .eq 7, 3) := by decide +kernel
theorem dd_M_testLine_145 : decode cc_M_testLine 145 = .ok (.iconst 1, 1) := by decide +kernel
theorem dd_M_testLine_146 : decode cc_M_testLine 146 = .ok (.goto 4, 3) := by decide +kernel
theorem dd_M_testLine_149 : decode cc_M_testLine 149 = .ok (.iconst 0, 1) := by decide +kernel
theorem dd_M_testLine_150 : decode cc_M_testLine 150 = .ok (.ireturn, 1) := by decide +kernel
theorem dd_M_line_0 : decode cc_M_line 0 = .ok (.aload_n 0, 1) := by decide +kernel
theorem dd_M_line_1 : decode cc_M_line 1 = .ok (.getfield 166, 3) := by decide +kernel
theorem dd_M_line_4 : decode cc_M_line 4 = .ok (.ifCond .eq 5, 3) := by decide +kernel
theorem dd_M_line_7 : decode cc_M_line 7 = .ok (.iconst 0, 1) := by decide +kernel
theorem dd_M_line_8 : decode cc_M_line 8 = .ok (.ireturn, 1) := by decide +kernel
theorem dd_M_line_9 : decode cc_M_line 9 = .ok (.aload_n 0, 1) := by decide +kernel
theorem dd_M_line_10 : decode cc_M_line 10 = .ok (.iload_n 1, 1) := by decide +kernel
theorem dd_M_line_11 : decode cc_M_line 11 = .ok (.putfield 132, 3) := by decide +kernel
theorem dd_M_line_14 : decode cc_M_line 14 = .ok (.aload_n 0, 1) := by decide +kernel
theorem dd_M_line_15 : decode cc_M_line 15 = .ok (.getfield 162, 3) := by decide +kernel
theorem dd_M_line_18 : decode cc_M_line 18 = .ok (.ifCond .eq 8, 3) := by decide +kernel
theorem dd_M_line_21 : decode cc_M_line 21 = .ok (.aload_n 0, 1) := by decide +kernel
theorem dd_M_line_22 : decode cc_M_line 22 = .ok (.invokevirtual 176, 3) := by decide +kernel
theorem dd_M_line_25 : decode cc_M_line 25 = .ok (.ireturn, 1) := by decide +kernel
theorem dd_M_line_26 : decode cc_M_line 26 = .ok (.aload_n 0, 1) := by decide +kernel
theorem dd_M_line_27 : decode cc_M_line 27 = .ok (.getfield 144, 3) := by decide +kernel
theorem dd_M_line_30 : decode cc_M_line 30 = .ok (.ifCond .ge 7, 3) := by decide +kernel
theorem dd_M_line_33 : decode cc_M_line 33 = .ok (.iconst 0, 1) := by decide +kernel
theorem dd_M_line_34 : decode cc_M_line 34 = .ok (.goto 14, 3) := by decide +kernel
theorem dd_M_line_37 : decode cc_M_line 37 = .ok (.aload_n 0, 1) := by decide +kernel
theorem dd_M_line_38 : decode cc_M_line 38 = .ok (.iconst 1, 1) := by decide +kernel
theorem dd_M_line_39 : decode cc_M_line 39 = .ok (.aload_n 0, 1) := by decide +kernel
theorem dd_M_line_40 : decode cc_M_line 40 = .ok (.getfield 144, 3) := by decide +kernel
theorem dd_M_line_43 : decode cc_M_line 43 = .ok (.invokevirtual 81, 3) := by decide +kernel
theorem dd_M_line_46 : decode cc_M_line 46 = .ok (.iconst 1, 1) := by decide +kernel
theorem dd_M_line_47 : decode cc_M_line 47 = .ok (.iadd, 1) := by decide +kernel
theorem dd_M_line_48 : decode cc_M_line 48 = .ok (.istore_n 2, 1) := by decide +kernel
theorem dd_M_line_49 : decode cc_M_line 49 = .ok (.aload_n 0, 1) := by decide +kernel
theorem dd_M_line_50 : decode cc_M_line 50 = .ok (.iload_n 1, 1) := by decide +kernel
theorem dd_M_line_51 : decode cc_M_line 51 = .ok (.iload_n 2, 1) := by decide +kernel
theorem dd_M_line_52 : decode cc_M_line 52 = .ok (.invokevirtual 180, 3) := by decide +kernel
theorem dd_M_line_55 : decode cc_M_line 55 = .ok (.ifCond .ne 29, 3) := by decide +kernel
theorem dd_M_line_58 : decode cc_M_line 58 = .ok (.aload_n 0, 1) := by decide +kernel
theorem dd_M_line_59 : decode cc_M_line 59 = .ok (.iload_n 1, 1) := by decide +kernel
theorem dd_M_line_60 : decode cc_M_line 60 = .ok (.invokevirtual 183, 3) := by decide +kernel
theorem dd_M_line_63 : decode cc_M_line 63 = .ok (.ifCond .ne 21, 3) := by decide +kernel
theorem dd_M_line_66 : decode cc_M_line 66 = .ok (.aload_n 0, 1) := by decide +kernel
theorem dd_M_line_67 : decode cc_M_line 67 = .ok (.iload_n 1, 1) := by decide +kernel
theorem dd_M_line_68 : decode cc_M_line 68 = .ok (.iload_n 2, 1) := by decide +kernel
theorem dd_M_line_69 : decode cc_M_line 69 = .ok (.invokevirtual 186, 3) := by decide +kernel
theorem dd_M_line_72 : decode cc_M_line 72 = .ok (.ifCond .ne 12, 3) := by decide +kernel
theorem dd_M_line_75 : decode cc_M_line 75 = .ok (.aload_n 0, 1) := by decide +kernel
theorem dd_M_line_76 : decode cc_M_line 76 = .ok (.iload_n 1, 1) := by decide +kernel
theorem dd_M_line_77 : decode cc_M_line 77 = .ok (.iload_n 2, 1) := by decide +kernel
theorem dd_M_line_78 : decode cc_M_line 78 = .ok (.invokevirtual 189, 3) := by decide +kernel
theorem dd_M_line_81 : decode cc_M_line 81 = .ok (.ifCond .eq 7, 3) := by decide +kernel
theorem dd_M_line_84 : decode cc_M_line 84 = .ok (.iconst 1, 1) := by decide +kernel
theorem dd_M_line_85 : decode cc_M_line 85 = .ok (.goto 4, 3) := by decide +kernel
theorem dd_M_line_88 : decode cc_M_line 88 = .ok (.iconst 0, 1) := by decide +kernel
theorem dd_M_line_89 : decode cc_M_line 89 = .ok (.ireturn, 1) := by decide +kernel
theorem dd_M_adopt_0 : decode cc_M_adopt 0 = .ok (.aload_n 0, 1) := by decide +kernel
theorem dd_M_adopt_1 : decode cc_M_adopt 1 = .ok (.getfield 13, 3) := by decide +kernel
theorem dd_M_adopt_4 : decode cc_M_adopt 4 = .ok (.iconst 0, 1) := by decide +kernel
theorem dd_M_adopt_5 : decode cc_M_adopt 5 = .ok (.aload_n 0, 1) := by decide +kernel
theorem dd_M_adopt_6 : decode cc_M_adopt 6 = .ok (.getfield 13, 3) := by decide +kernel
theorem dd_M_adopt_9 : decode cc_M_adopt 9 = .ok (.iconst 1, 1) := by decide +kernel
theorem dd_M_adopt_10 : decode cc_M_adopt 10 = .ok (.iaload, 1) := by decide +kernel
theorem dd_M_adopt_11 : decode cc_M_adopt 11 = .ok (.iastore, 1) := by decide +kernel
theorem dd_M_adopt_12 : decode cc_M_adopt 12 = .ok (.iconst 0, 1) := by decide +kernel
theorem dd_M_adopt_13 : decode cc_M_adopt 13 = .ok (.istore_n 1, 1) := by decide +kernel
theorem dd_M_adopt_14 : decode cc_M_adopt 14 = .ok (.iload_n 1, 1) := by decide +kernel
theorem dd_M_adopt_15 : decode cc_M_adopt 15 = .ok (.bipush 24, 2) := by decide +kernel
theorem dd_M_adopt_17 : decode cc_M_adopt 17 = .ok (.if_icmp .ge 69, 3) := by decide +kernel
theorem dd_M_adopt_20 : decode cc_M_adopt 20 = .ok (.aload_n 0, 1) := by decide +kernel
theorem dd_M_adopt_21 : decode cc_M_adopt 21 = .ok (.getfield 17, 3) := by decide +kernel
theorem dd_M_adopt_24 : decode cc_M_adopt 24 = .ok (.iload_n 1, 1) := by decide +kernel
theorem dd_M_adopt_25 : decode cc_M_adopt 25 = .ok (.aload_n 0, 1) := by decide +kernel
theorem dd_M_adopt_26 : decode cc_M_adopt 26 = .ok (.getfield 17, 3) := by decide +kernel
theorem dd_M_adopt_29 : decode cc_M_adopt 29 = .ok (.bipush 24, 2) := by decide +kernel
theorem dd_M_adopt_31 : decode cc_M_adopt 31 = .ok (.iload_n 1, 1) := by decide +kernel
theorem dd_M_adopt_32 : decode cc_M_adopt 32 = .ok (.iadd, 1) := by decide +kernel
theorem dd_M_adopt_33 : decode cc_M_adopt 33 = .ok (.iaload, 1) := by decide +kernel
theorem dd_M_adopt_34 : decode cc_M_adopt 34 = .ok (.iastore, 1) := by decide +kernel
theorem dd_M_adopt_35 : decode cc_M_adopt 35 = .ok (.aload_n 0, 1) := by decide +kernel
theorem dd_M_adopt_36 : decode cc_M_adopt 36 = .ok (.getfield 20, 3) := by decide +kernel
theorem dd_M_adopt_39 : decode cc_M_adopt 39 = .ok (.iload_n 1, 1) := by decide +kernel
theorem dd_M_adopt_40 : decode cc_M_adopt 40 = .ok (.aload_n 0, 1) := by decide +kernel
theorem dd_M_adopt_41 : decode cc_M_adopt 41 = .ok (.getfield 20, 3) := by decide +kernel
theorem dd_M_adopt_44 : decode cc_M_adopt 44 = .ok (.bipush 24, 2) := by decide +kernel
theorem dd_M_adopt_46 : decode cc_M_adopt 46 = .ok (.iload_n 1, 1) := by decide +kernel
theorem dd_M_adopt_47 : decode cc_M_adopt 47 = .ok (.iadd, 1) := by decide +kernel
theorem dd_M_adopt_48 : decode cc_M_adopt 48 = .ok (.iaload, 1) := by decide +kernel
theorem dd_M_adopt_49 : decode cc_M_adopt 49 = .ok (.iastore, 1) := by decide +kernel
theorem dd_M_adopt_50 : decode cc_M_adopt 50 = .ok (.aload_n 0, 1) := by decide +kernel
theorem dd_M_adopt_51 : decode cc_M_adopt 51 = .ok (.getfield 23, 3) := by decide +kernel
theorem dd_M_adopt_54 : decode cc_M_adopt 54 = .ok (.iload_n 1, 1) := by decide +kernel
theorem dd_M_adopt_55 : decode cc_M_adopt 55 = .ok (.aload_n 0, 1) := by decide +kernel
theorem dd_M_adopt_56 : decode cc_M_adopt 56 = .ok (.getfield 23, 3) := by decide +kernel
theorem dd_M_adopt_59 : decode cc_M_adopt 59 = .ok (.bipush 24, 2) := by decide +kernel
theorem dd_M_adopt_61 : decode cc_M_adopt 61 = .ok (.iload_n 1, 1) := by decide +kernel
theorem dd_M_adopt_62 : decode cc_M_adopt 62 = .ok (.iadd, 1) := by decide +kernel
theorem dd_M_adopt_63 : decode cc_M_adopt 63 = .ok (.baload, 1) := by decide +kernel
theorem dd_M_adopt_64 : decode cc_M_adopt 64 = .ok (.bastore, 1) := by decide +kernel
theorem dd_M_adopt_65 : decode cc_M_adopt 65 = .ok (.aload_n 0, 1) := by decide +kernel
theorem dd_M_adopt_66 : decode cc_M_adopt 66 = .ok (.getfield 27, 3) := by decide +kernel
theorem dd_M_adopt_69 : decode cc_M_adopt 69 = .ok (.iload_n 1, 1) := by decide +kernel
theorem dd_M_adopt_70 : decode cc_M_adopt 70 = .ok (.aload_n 0, 1) := by decide +kernel
theorem dd_M_adopt_71 : decode cc_M_adopt 71 = .ok (.getfield 27, 3) := by decide +kernel
theorem dd_M_adopt_74 : decode cc_M_adopt 74 = .ok (.bipush 24, 2) := by decide +kernel
theorem dd_M_adopt_76 : decode cc_M_adopt 76 = .ok (.iload_n 1, 1) := by decide +kernel
theorem dd_M_adopt_77 : decode cc_M_adopt 77 = .ok (.iadd, 1) := by decide +kernel
theorem dd_M_adopt_78 : decode cc_M_adopt 78 = .ok (.iaload, 1) := by decide +kernel
theorem dd_M_adopt_79 : decode cc_M_adopt 79 = .ok (.iastore, 1) := by decide +kernel
theorem dd_M_adopt_80 : decode cc_M_adopt 80 = .ok (.iinc 1 1, 3) := by decide +kernel
theorem dd_M_adopt_83 : decode cc_M_adopt 83 = .ok (.goto (-69), 3) := by decide +kernel
theorem dd_M_adopt_86 : decode cc_M_adopt 86 = .ok (.iconst 0, 1) := by decide +kernel
theorem dd_M_adopt_87 : decode cc_M_adopt 87 = .ok (.istore_n 1, 1) := by decide +kernel
theorem dd_M_adopt_88 : decode cc_M_adopt 88 = .ok (.iload_n 1, 1) := by decide +kernel
theorem dd_M_adopt_89 : decode cc_M_adopt 89 = .ok (.sipush 144, 3) := by decide +kernel
theorem dd_M_adopt_92 : decode cc_M_adopt 92 = .ok (.if_icmp .ge 25, 3) := by decide +kernel
theorem dd_M_adopt_95 : decode cc_M_adopt 95 = .ok (.aload_n 0, 1) := by decide +kernel
theorem dd_M_adopt_96 : decode cc_M_adopt 96 = .ok (.getfield 30, 3) := by decide +kernel
theorem dd_M_adopt_99 : decode cc_M_adopt 99 = .ok (.iload_n 1, 1) := by decide +kernel
theorem dd_M_adopt_100 : decode cc_M_adopt 100 = .ok (.aload_n 0, 1) := by decide +kernel
theorem dd_M_adopt_101 : decode cc_M_adopt 101 = .ok (.getfield 30, 3) := by decide +kernel
theorem dd_M_adopt_104 : decode cc_M_adopt 104 = .ok (.sipush 144, 3) := by decide +kernel
theorem dd_M_adopt_107 : decode cc_M_adopt 107 = .ok (.iload_n 1, 1) := by decide +kernel
theorem dd_M_adopt_108 : decode cc_M_adopt 108 = .ok (.iadd, 1) := by decide +kernel
theorem dd_M_adopt_109 : decode cc_M_adopt 109 = .ok (.caload, 1) := by decide +kernel
theorem dd_M_adopt_110 : decode cc_M_adopt 110 = .ok (.castore, 1) := by decide +kernel
theorem dd_M_adopt_111 : decode cc_M_adopt 111 = .ok (.iinc 1 1, 3) := by decide +kernel
theorem dd_M_adopt_114 : decode cc_M_adopt 114 = .ok (.goto (-26), 3) := by decide +kernel
theorem dd_M_adopt_117 : decode cc_M_adopt 117 = .ok (.return_, 1) := by decide +kernel
theorem dd_M_read_0 : decode cc_M_read 0 = .ok (.aload_n 0, 1) := by decide +kernel
theorem dd_M_read_1 : decode cc_M_read 1 = .ok (.getfield 13, 3) := by decide +kernel
theorem dd_M_read_4 : decode cc_M_read 4 = .ok (.iconst 1, 1) := by decide +kernel
theorem dd_M_read_5 : decode cc_M_read 5 = .ok (.iconst 0, 1) := by decide +kernel
theorem dd_M_read_6 : decode cc_M_read 6 = .ok (.iastore, 1) := by decide +kernel
theorem dd_M_read_7 : decode cc_M_read 7 = .ok (.aload_n 0, 1) := by decide +kernel
theorem dd_M_read_8 : decode cc_M_read 8 = .ok (.iconst (-1), 1) := by decide +kernel
theorem dd_M_read_9 : decode cc_M_read 9 = .ok (.putfield 144, 3) := by decide +kernel
theorem dd_M_read_12 : decode cc_M_read 12 = .ok (.aload_n 0, 1) := by decide +kernel
theorem dd_M_read_13 : decode cc_M_read 13 = .ok (.iconst 0, 1) := by decide +kernel
theorem dd_M_read_14 : decode cc_M_read 14 = .ok (.putfield 162, 3) := by decide +kernel
theorem dd_M_read_17 : decode cc_M_read 17 = .ok (.aload_n 0, 1) := by decide +kernel
theorem dd_M_read_18 : decode cc_M_read 18 = .ok (.iconst 0, 1) := by decide +kernel
theorem dd_M_read_19 : decode cc_M_read 19 = .ok (.putfield 166, 3) := by decide +kernel
theorem dd_M_read_22 : decode cc_M_read 22 = .ok (.iconst 0, 1) := by decide +kernel
theorem dd_M_read_23 : decode cc_M_read 23 = .ok (.istore_n 1, 1) := by decide +kernel
theorem dd_M_read_24 : decode cc_M_read 24 = .ok (.iconst 1, 1) := by decide +kernel
theorem dd_M_read_25 : decode cc_M_read 25 = .ok (.istore_n 2, 1) := by decide +kernel
theorem dd_M_read_26 : decode cc_M_read 26 = .ok (.iconst 1, 1) := by decide +kernel
theorem dd_M_read_27 : decode cc_M_read 27 = .ok (.istore_n 3, 1) := by decide +kernel
theorem dd_M_read_28 : decode cc_M_read 28 = .ok (.iload_n 3, 1) := by decide +kernel
theorem dd_M_read_29 : decode cc_M_read 29 = .ok (.ifCond .eq 128, 3) := by decide +kernel
theorem dd_M_read_32 : decode cc_M_read 32 = .ok (.iload_n 1, 1) := by decide +kernel
theorem dd_M_read_33 : decode cc_M_read 33 = .ok (.aload_n 0, 1) := by decide +kernel
theorem dd_M_read_34 : decode cc_M_read 34 = .ok (.getfield 95, 3) := by decide +kernel
theorem dd_M_read_37 : decode cc_M_read 37 = .ok (.if_icmp .ge 120, 3) := by decide +kernel
theorem dd_M_read_40 : decode cc_M_read 40 = .ok (.aload_n 0, 1) := by decide +kernel
theorem dd_M_read_41 : decode cc_M_read 41 = .ok (.iload_n 1, 1) := by decide +kernel
theorem dd_M_read_42 : decode cc_M_read 42 = .ok (.putfield 135, 3) := by decide +kernel
theorem dd_M_read_45 : decode cc_M_read 45 = .ok (.aload_n 0, 1) := by decide +kernel
theorem dd_M_read_46 : decode cc_M_read 46 = .ok (.getfield 135, 3) := by decide +kernel
theorem dd_M_read_49 : decode cc_M_read 49 = .ok (.aload_n 0, 1) := by decide +kernel
theorem dd_M_read_50 : decode cc_M_read 50 = .ok (.getfield 95, 3) := by decide +kernel
theorem dd_M_read_53 : decode cc_M_read 53 = .ok (.if_icmp .ge 30, 3) := by decide +kernel
theorem dd_M_read_56 : decode cc_M_read 56 = .ok (.aload_n 0, 1) := by decide +kernel
theorem dd_M_read_57 : decode cc_M_read 57 = .ok (.getfield 33, 3) := by decide +kernel
theorem dd_M_read_60 : decode cc_M_read 60 = .ok (.aload_n 0, 1) := by decide +kernel
theorem dd_M_read_61 : decode cc_M_read 61 = .ok (.getfield 135, 3) := by decide +kernel
theorem dd_M_read_64 : decode cc_M_read 64 = .ok (.caload, 1) := by decide +kernel
theorem dd_M_read_65 : decode cc_M_read 65 = .ok (.bipush 10, 2) := by decide +kernel
theorem dd_M_read_67 : decode cc_M_read 67 = .ok (.if_icmp .eq 16, 3) := by decide +kernel
theorem dd_M_read_70 : decode cc_M_read 70 = .ok (.aload_n 0, 1) := by decide +kernel
theorem dd_M_read_71 : decode cc_M_read 71 = .ok (.dup, 1) := by decide +kernel
theorem dd_M_read_72 : decode cc_M_read 72 = .ok (.getfield 135, 3) := by decide +kernel
theorem dd_M_read_75 : decode cc_M_read 75 = .ok (.iconst 1, 1) := by decide +kernel
theorem dd_M_read_76 : decode cc_M_read 76 = .ok (.iadd, 1) := by decide +kernel
theorem dd_M_read_77 : decode cc_M_read 77 = .ok (.putfield 135, 3) := by decide +kernel
theorem dd_M_read_80 : decode cc_M_read 80 = .ok (.goto (-35), 3) := by decide +kernel
theorem dd_M_read_83 : decode cc_M_read 83 = .ok (.aload_n 0, 1) := by decide +kernel
theorem dd_M_read_84 : decode cc_M_read 84 = .ok (.iload_n 1, 1) := by decide +kernel
theorem dd_M_read_85 : decode cc_M_read 85 = .ok (.putfield 132, 3) := by decide +kernel
theorem dd_M_read_88 : decode cc_M_read 88 = .ok (.aload_n 0, 1) := by decide +kernel
theorem dd_M_read_89 : decode cc_M_read 89 = .ok (.getfield 135, 3) := by decide +kernel
theorem dd_M_read_92 : decode cc_M_read 92 = .ok (.aload_n 0, 1) := by decide +kernel
theorem dd_M_read_93 : decode cc_M_read 93 = .ok (.getfield 95, 3) := by decide +kernel
theorem dd_M_read_96 : decode cc_M_read 96 = .ok (.if_icmp .ge 42, 3) := by decide +kernel
theorem dd_M_read_99 : decode cc_M_read 99 = .ok (.iload_n 2, 1) := by decide +kernel
theorem dd_M_read_100 : decode cc_M_read 100 = .ok (.iconst 1, 1) := by decide +kernel
theorem dd_M_read_101 : decode cc_M_read 101 = .ok (.if_icmp .ne 25, 3) := by decide +kernel
theorem dd_M_read_104 : decode cc_M_read 104 = .ok (.aload_n 0, 1) := by decide +kernel
theorem dd_M_read_105 : decode cc_M_read 105 = .ok (.iconst 0, 1) := by decide +kernel
theorem dd_M_read_106 : decode cc_M_read 106 = .ok (.invokevirtual 150, 3) := by decide +kernel
theorem dd_M_read_109 : decode cc_M_read 109 = .ok (.ifCond .eq 29, 3) := by decide +kernel
theorem dd_M_read_112 : decode cc_M_read 112 = .ok (.aload_n 0, 1) := by decide +kernel
theorem dd_M_read_113 : decode cc_M_read 113 = .ok (.getfield 132, 3) := by decide +kernel
theorem dd_M_read_116 : decode cc_M_read 116 = .ok (.aload_n 0, 1) := by decide +kernel
theorem dd_M_read_117 : decode cc_M_read 117 = .ok (.getfield 135, 3) := by decide +kernel
theorem dd_M_read_120 : decode cc_M_read 120 = .ok (.if_icmp .ne 18, 3) := by decide +kernel
theorem dd_M_read_123 : decode cc_M_read 123 = .ok (.goto 11, 3) := by decide +kernel
theorem dd_M_read_126 : decode cc_M_read 126 = .ok (.aload_n 0, 1) := by decide +kernel
theorem dd_M_read_127 : decode cc_M_read 127 = .ok (.iload_n 1, 1) := by decide +kernel
theorem dd_M_read_128 : decode cc_M_read 128 = .ok (.invokevirtual 192, 3) := by decide +kernel
theorem dd_M_read_131 : decode cc_M_read 131 = .ok (.ifCond .eq 7, 3) := by decide +kernel
theorem dd_M_read_134 : decode cc_M_read 134 = .ok (.iconst 1, 1) := by decide +kernel
theorem dd_M_read_135 : decode cc_M_read 135 = .ok (.goto 4, 3) := by decide +kernel
theorem dd_M_read_138 : decode cc_M_read 138 = .ok (.iconst 0, 1) := by decide +kernel
theorem dd_M_read_139 : decode cc_M_read 139 = .ok (.istore_n 3, 1) := by decide +kernel
theorem dd_M_read_140 : decode cc_M_read 140 = .ok (.iload_n 3, 1) := by decide +kernel
theorem dd_M_read_141 : decode cc_M_read 141 = .ok (.ifCond .eq (-113), 3) := by decide +kernel
theorem dd_M_read_144 : decode cc_M_read 144 = .ok (.aload_n 0, 1) := by decide +kernel
theorem dd_M_read_145 : decode cc_M_read 145 = .ok (.getfield 135, 3) := by decide +kernel
theorem dd_M_read_148 : decode cc_M_read 148 = .ok (.iconst 1, 1) := by decide +kernel
theorem dd_M_read_149 : decode cc_M_read 149 = .ok (.iadd, 1) := by decide +kernel
theorem dd_M_read_150 : decode cc_M_read 150 = .ok (.istore_n 1, 1) := by decide +kernel
theorem dd_M_read_151 : decode cc_M_read 151 = .ok (.iinc 2 1, 3) := by decide +kernel
theorem dd_M_read_154 : decode cc_M_read 154 = .ok (.goto (-126), 3) := by decide +kernel
theorem dd_M_read_157 : decode cc_M_read 157 = .ok (.iload_n 3, 1) := by decide +kernel
theorem dd_M_read_158 : decode cc_M_read 158 = .ok (.ifCond .eq 10, 3) := by decide +kernel
theorem dd_M_read_161 : decode cc_M_read 161 = .ok (.aload_n 0, 1) := by decide +kernel
theorem dd_M_read_162 : decode cc_M_read 162 = .ok (.getfield 166, 3) := by decide +kernel
theorem dd_M_read_165 : decode cc_M_read 165 = .ok (.ifCond .ne 6, 3) := by decide +kernel
theorem dd_M_read_168 : decode cc_M_read 168 = .ok (.iload_n 2, 1) := by decide +kernel
theorem dd_M_read_169 : decode cc_M_read 169 = .ok (.ineg, 1) := by decide +kernel
theorem dd_M_read_170 : decode cc_M_read 170 = .ok (.ireturn, 1) := by decide +kernel
theorem dd_M_read_171 : decode cc_M_read 171 = .ok (.aload_n 0, 1) := by decide +kernel
theorem dd_M_read_172 : decode cc_M_read 172 = .ok (.invokevirtual 195, 3) := by decide +kernel
theorem dd_M_read_175 : decode cc_M_read 175 = .ok (.iconst 0, 1) := by decide +kernel
theorem dd_M_read_176 : decode cc_M_read 176 = .ok (.ireturn, 1) := by decide +kernel
theorem dd_M_length_0 : decode cc_M_length 0 = .ok (.aload_n 0, 1) := by decide +kernel
theorem dd_M_length_1 : decode cc_M_length 1 = .ok (.getfield 95, 3) := by decide +kernel
theorem dd_M_length_4 : decode cc_M_length 4 = .ok (.ireturn, 1) := by decide +kernel
theorem dd_M_at_0 : decode cc_M_at 0 = .ok (.iload_n 1, 1) := by decide +kernel
theorem dd_M_at_1 : decode cc_M_at 1 = .ok (.ifCond .lt 20, 3) := by decide +kernel
theorem dd_M_at_4 : decode cc_M_at 4 = .ok (.iload_n 1, 1) := by decide +kernel
theorem dd_M_at_5 : decode cc_M_at 5 = .ok (.aload_n 0, 1) := by decide +kernel
theorem dd_M_at_6 : decode cc_M_at 6 = .ok (.getfield 95, 3) := by decide +kernel
theorem dd_M_at_9 : decode cc_M_at 9 = .ok (.if_icmp .ge 12, 3) := by decide +kernel
theorem dd_M_at_12 : decode cc_M_at 12 = .ok (.aload_n 0, 1) := by decide +kernel
theorem dd_M_at_13 : decode cc_M_at 13 = .ok (.getfield 33, 3) := by decide +kernel
theorem dd_M_at_16 : decode cc_M_at 16 = .ok (.iload_n 1, 1) := by decide +kernel
theorem dd_M_at_17 : decode cc_M_at 17 = .ok (.caload, 1) := by decide +kernel
theorem dd_M_at_18 : decode cc_M_at 18 = .ok (.goto 4, 3) := by decide +kernel
theorem dd_M_at_21 : decode cc_M_at 21 = .ok (.iconst (-1), 1) := by decide +kernel
theorem dd_M_at_22 : decode cc_M_at 22 = .ok (.ireturn, 1) := by decide +kernel
theorem dd_M_fits_0 : decode cc_M_fits 0 = .ok (.iload_n 0, 1) := by decide +kernel
theorem dd_M_fits_1 : decode cc_M_fits 1 = .ok (.bipush 10, 2) := by decide +kernel
theorem dd_M_fits_3 : decode cc_M_fits 3 = .ok (.if_icmp .eq 15, 3) := by decide +kernel
theorem dd_M_fits_6 : decode cc_M_fits 6 = .ok (.iload_n 0, 1) := by decide +kernel
theorem dd_M_fits_7 : decode cc_M_fits 7 = .ok (.bipush 32, 2) := by decide +kernel
theorem dd_M_fits_9 : decode cc_M_fits 9 = .ok (.if_icmp .lt 13, 3) := by decide +kernel
theorem dd_M_fits_12 : decode cc_M_fits 12 = .ok (.iload_n 0, 1) := by decide +kernel
theorem dd_M_fits_13 : decode cc_M_fits 13 = .ok (.bipush 126, 2) := by decide +kernel
theorem dd_M_fits_15 : decode cc_M_fits 15 = .ok (.if_icmp .gt 7, 3) := by decide +kernel
theorem dd_M_fits_18 : decode cc_M_fits 18 = .ok (.iconst 1, 1) := by decide +kernel
theorem dd_M_fits_19 : decode cc_M_fits 19 = .ok (.goto 4, 3) := by decide +kernel
theorem dd_M_fits_22 : decode cc_M_fits 22 = .ok (.iconst 0, 1) := by decide +kernel
theorem dd_M_fits_23 : decode cc_M_fits 23 = .ok (.ireturn, 1) := by decide +kernel
theorem dd_M_put_0 : decode cc_M_put 0 = .ok (.iload_n 1, 1) := by decide +kernel
theorem dd_M_put_1 : decode cc_M_put 1 = .ok (.invokestatic 198, 3) := by decide +kernel
theorem dd_M_put_4 : decode cc_M_put 4 = .ok (.ifCond .eq 13, 3) := by decide +kernel
theorem dd_M_put_7 : decode cc_M_put 7 = .ok (.aload_n 0, 1) := by decide +kernel
theorem dd_M_put_8 : decode cc_M_put 8 = .ok (.getfield 95, 3) := by decide +kernel
theorem dd_M_put_11 : decode cc_M_put 11 = .ok (.sipush 3000, 3) := by decide +kernel
theorem dd_M_put_14 : decode cc_M_put 14 = .ok (.if_icmp .ne 5, 3) := by decide +kernel
theorem dd_M_put_17 : decode cc_M_put 17 = .ok (.iconst 0, 1) := by decide +kernel
theorem dd_M_put_18 : decode cc_M_put 18 = .ok (.ireturn, 1) := by decide +kernel
theorem dd_M_put_19 : decode cc_M_put 19 = .ok (.aload_n 0, 1) := by decide +kernel
theorem dd_M_put_20 : decode cc_M_put 20 = .ok (.getfield 33, 3) := by decide +kernel
theorem dd_M_put_23 : decode cc_M_put 23 = .ok (.aload_n 0, 1) := by decide +kernel
theorem dd_M_put_24 : decode cc_M_put 24 = .ok (.getfield 95, 3) := by decide +kernel
theorem dd_M_put_27 : decode cc_M_put 27 = .ok (.iload_n 1, 1) := by decide +kernel
theorem dd_M_put_28 : decode cc_M_put 28 = .ok (.castore, 1) := by decide +kernel
theorem dd_M_put_29 : decode cc_M_put 29 = .ok (.aload_n 0, 1) := by decide +kernel
theorem dd_M_put_30 : decode cc_M_put 30 = .ok (.dup, 1) := by decide +kernel
theorem dd_M_put_31 : decode cc_M_put 31 = .ok (.getfield 95, 3) := by decide +kernel
theorem dd_M_put_34 : decode cc_M_put 34 = .ok (.iconst 1, 1) := by decide +kernel
theorem dd_M_put_35 : decode cc_M_put 35 = .ok (.iadd, 1) := by decide +kernel
theorem dd_M_put_36 : decode cc_M_put 36 = .ok (.putfield 95, 3) := by decide +kernel
theorem dd_M_put_39 : decode cc_M_put 39 = .ok (.iconst 1, 1) := by decide +kernel
theorem dd_M_put_40 : decode cc_M_put 40 = .ok (.ireturn, 1) := by decide +kernel
theorem dd_M_poke_0 : decode cc_M_poke 0 = .ok (.iload_n 1, 1) := by decide +kernel
theorem dd_M_poke_1 : decode cc_M_poke 1 = .ok (.ifCond .lt 18, 3) := by decide +kernel
theorem dd_M_poke_4 : decode cc_M_poke 4 = .ok (.iload_n 1, 1) := by decide +kernel
theorem dd_M_poke_5 : decode cc_M_poke 5 = .ok (.aload_n 0, 1) := by decide +kernel
theorem dd_M_poke_6 : decode cc_M_poke 6 = .ok (.getfield 95, 3) := by decide +kernel
theorem dd_M_poke_9 : decode cc_M_poke 9 = .ok (.if_icmp .ge 10, 3) := by decide +kernel
theorem dd_M_poke_12 : decode cc_M_poke 12 = .ok (.iload_n 2, 1) := by decide +kernel
theorem dd_M_poke_13 : decode cc_M_poke 13 = .ok (.invokestatic 198, 3) := by decide +kernel
theorem dd_M_poke_16 : decode cc_M_poke 16 = .ok (.ifCond .ne 5, 3) := by decide +kernel
theorem dd_M_poke_19 : decode cc_M_poke 19 = .ok (.iconst 0, 1) := by decide +kernel
theorem dd_M_poke_20 : decode cc_M_poke 20 = .ok (.ireturn, 1) := by decide +kernel
theorem dd_M_poke_21 : decode cc_M_poke 21 = .ok (.aload_n 0, 1) := by decide +kernel
theorem dd_M_poke_22 : decode cc_M_poke 22 = .ok (.getfield 33, 3) := by decide +kernel
theorem dd_M_poke_25 : decode cc_M_poke 25 = .ok (.iload_n 1, 1) := by decide +kernel
theorem dd_M_poke_26 : decode cc_M_poke 26 = .ok (.iload_n 2, 1) := by decide +kernel
theorem dd_M_poke_27 : decode cc_M_poke 27 = .ok (.castore, 1) := by decide +kernel
theorem dd_M_poke_28 : decode cc_M_poke 28 = .ok (.iconst 1, 1) := by decide +kernel
theorem dd_M_poke_29 : decode cc_M_poke 29 = .ok (.ireturn, 1) := by decide +kernel
theorem dd_M_cut_0 : decode cc_M_cut 0 = .ok (.iload_n 1, 1) := by decide +kernel
theorem dd_M_cut_1 : decode cc_M_cut 1 = .ok (.ifCond .lt 11, 3) := by decide +kernel
theorem dd_M_cut_4 : decode cc_M_cut 4 = .ok (.iload_n 1, 1) := by decide +kernel
theorem dd_M_cut_5 : decode cc_M_cut 5 = .ok (.aload_n 0, 1) := by decide +kernel
theorem dd_M_cut_6 : decode cc_M_cut 6 = .ok (.getfield 95, 3) := by decide +kernel
theorem dd_M_cut_9 : decode cc_M_cut 9 = .ok (.if_icmp .le 5, 3) := by decide +kernel
theorem dd_M_cut_12 : decode cc_M_cut 12 = .ok (.iconst 0, 1) := by decide +kernel
theorem dd_M_cut_13 : decode cc_M_cut 13 = .ok (.ireturn, 1) := by decide +kernel
theorem dd_M_cut_14 : decode cc_M_cut 14 = .ok (.aload_n 0, 1) := by decide +kernel
theorem dd_M_cut_15 : decode cc_M_cut 15 = .ok (.iload_n 1, 1) := by decide +kernel
theorem dd_M_cut_16 : decode cc_M_cut 16 = .ok (.putfield 95, 3) := by decide +kernel
theorem dd_M_cut_19 : decode cc_M_cut 19 = .ok (.iconst 1, 1) := by decide +kernel
theorem dd_M_cut_20 : decode cc_M_cut 20 = .ok (.ireturn, 1) := by decide +kernel
theorem dd_M_sameName_0 : decode cc_M_sameName 0 = .ok (.aload_n 0, 1) := by decide +kernel
theorem dd_M_sameName_1 : decode cc_M_sameName 1 = .ok (.getfield 27, 3) := by decide +kernel
theorem dd_M_sameName_4 : decode cc_M_sameName 4 = .ok (.iload_n 1, 1) := by decide +kernel
theorem dd_M_sameName_5 : decode cc_M_sameName 5 = .ok (.iaload, 1) := by decide +kernel
theorem dd_M_sameName_6 : decode cc_M_sameName 6 = .ok (.aload_n 0, 1) := by decide +kernel
theorem dd_M_sameName_7 : decode cc_M_sameName 7 = .ok (.getfield 27, 3) := by decide +kernel
theorem dd_M_sameName_10 : decode cc_M_sameName 10 = .ok (.iload_n 2, 1) := by decide +kernel
theorem dd_M_sameName_11 : decode cc_M_sameName 11 = .ok (.iaload, 1) := by decide +kernel
theorem dd_M_sameName_12 : decode cc_M_sameName 12 = .ok (.if_icmp .ne 7, 3) := by decide +kernel
theorem dd_M_sameName_15 : decode cc_M_sameName 15 = .ok (.iconst 1, 1) := by decide +kernel
theorem dd_M_sameName_16 : decode cc_M_sameName 16 = .ok (.goto 4, 3) := by decide +kernel
theorem dd_M_sameName_19 : decode cc_M_sameName 19 = .ok (.iconst 0, 1) := by decide +kernel
theorem dd_M_sameName_20 : decode cc_M_sameName 20 = .ok (.istore_n 3, 1) := by decide +kernel
theorem dd_M_sameName_21 : decode cc_M_sameName 21 = .ok (.iconst 0, 1) := by decide +kernel
theorem dd_M_sameName_22 : decode cc_M_sameName 22 = .ok (.istore 4, 2) := by decide +kernel
theorem dd_M_sameName_24 : decode cc_M_sameName 24 = .ok (.iload 4, 2) := by decide +kernel
theorem dd_M_sameName_26 : decode cc_M_sameName 26 = .ok (.aload_n 0, 1) := by decide +kernel
theorem dd_M_sameName_27 : decode cc_M_sameName 27 = .ok (.getfield 27, 3) := by decide +kernel
theorem dd_M_sameName_30 : decode cc_M_sameName 30 = .ok (.iload_n 1, 1) := by decide +kernel
theorem dd_M_sameName_31 : decode cc_M_sameName 31 = .ok (.iaload, 1) := by decide +kernel
theorem dd_M_sameName_32 : decode cc_M_sameName 32 = .ok (.if_icmp .ge 46, 3) := by decide +kernel
theorem dd_M_sameName_35 : decode cc_M_sameName 35 = .ok (.iload_n 3, 1) := by decide +kernel
theorem dd_M_sameName_36 : decode cc_M_sameName 36 = .ok (.ifCond .eq 42, 3) := by decide +kernel
theorem dd_M_sameName_39 : decode cc_M_sameName 39 = .ok (.aload_n 0, 1) := by decide +kernel
theorem dd_M_sameName_40 : decode cc_M_sameName 40 = .ok (.getfield 30, 3) := by decide +kernel
theorem dd_M_sameName_43 : decode cc_M_sameName 43 = .ok (.bipush 6, 2) := by decide +kernel
theorem dd_M_sameName_45 : decode cc_M_sameName 45 = .ok (.iload_n 1, 1) := by decide +kernel
theorem dd_M_sameName_46 : decode cc_M_sameName 46 = .ok (.imul, 1) := by decide +kernel
theorem dd_M_sameName_47 : decode cc_M_sameName 47 = .ok (.iload 4, 2) := by decide +kernel
theorem dd_M_sameName_49 : decode cc_M_sameName 49 = .ok (.iadd, 1) := by decide +kernel
theorem dd_M_sameName_50 : decode cc_M_sameName 50 = .ok (.caload, 1) := by decide +kernel
theorem dd_M_sameName_51 : decode cc_M_sameName 51 = .ok (.aload_n 0, 1) := by decide +kernel
theorem dd_M_sameName_52 : decode cc_M_sameName 52 = .ok (.getfield 30, 3) := by decide +kernel
theorem dd_M_sameName_55 : decode cc_M_sameName 55 = .ok (.bipush 6, 2) := by decide +kernel
theorem dd_M_sameName_57 : decode cc_M_sameName 57 = .ok (.iload_n 2, 1) := by decide +kernel
theorem dd_M_sameName_58 : decode cc_M_sameName 58 = .ok (.imul, 1) := by decide +kernel
theorem dd_M_sameName_59 : decode cc_M_sameName 59 = .ok (.iload 4, 2) := by decide +kernel
theorem dd_M_sameName_61 : decode cc_M_sameName 61 = .ok (.iadd, 1) := by decide +kernel
theorem dd_M_sameName_62 : decode cc_M_sameName 62 = .ok (.caload, 1) := by decide +kernel
theorem dd_M_sameName_63 : decode cc_M_sameName 63 = .ok (.if_icmp .ne 7, 3) := by decide +kernel
theorem dd_M_sameName_66 : decode cc_M_sameName 66 = .ok (.iconst 1, 1) := by decide +kernel
theorem dd_M_sameName_67 : decode cc_M_sameName 67 = .ok (.goto 4, 3) := by decide +kernel
theorem dd_M_sameName_70 : decode cc_M_sameName 70 = .ok (.iconst 0, 1) := by decide +kernel
theorem dd_M_sameName_71 : decode cc_M_sameName 71 = .ok (.istore_n 3, 1) := by decide +kernel
theorem dd_M_sameName_72 : decode cc_M_sameName 72 = .ok (.iinc 4 1, 3) := by decide +kernel
theorem dd_M_sameName_75 : decode cc_M_sameName 75 = .ok (.goto (-51), 3) := by decide +kernel
theorem dd_M_sameName_78 : decode cc_M_sameName 78 = .ok (.iload_n 3, 1) := by decide +kernel
theorem dd_M_sameName_79 : decode cc_M_sameName 79 = .ok (.ireturn, 1) := by decide +kernel
theorem dd_M_alike_0 : decode cc_M_alike 0 = .ok (.aload_n 0, 1) := by decide +kernel
theorem dd_M_alike_1 : decode cc_M_alike 1 = .ok (.getfield 20, 3) := by decide +kernel
theorem dd_M_alike_4 : decode cc_M_alike 4 = .ok (.iload_n 1, 1) := by decide +kernel
theorem dd_M_alike_5 : decode cc_M_alike 5 = .ok (.iaload, 1) := by decide +kernel
theorem dd_M_alike_6 : decode cc_M_alike 6 = .ok (.iconst 4, 1) := by decide +kernel
theorem dd_M_alike_7 : decode cc_M_alike 7 = .ok (.if_icmp .ge 17, 3) := by decide +kernel
theorem dd_M_alike_10 : decode cc_M_alike 10 = .ok (.aload_n 0, 1) := by decide +kernel
theorem dd_M_alike_11 : decode cc_M_alike 11 = .ok (.getfield 20, 3) := by decide +kernel
theorem dd_M_alike_14 : decode cc_M_alike 14 = .ok (.iload_n 2, 1) := by decide +kernel
theorem dd_M_alike_15 : decode cc_M_alike 15 = .ok (.iaload, 1) := by decide +kernel
theorem dd_M_alike_16 : decode cc_M_alike 16 = .ok (.iconst 4, 1) := by decide +kernel
theorem dd_M_alike_17 : decode cc_M_alike 17 = .ok (.if_icmp .ge 7, 3) := by decide +kernel
theorem dd_M_alike_20 : decode cc_M_alike 20 = .ok (.iconst 1, 1) := by decide +kernel
theorem dd_M_alike_21 : decode cc_M_alike 21 = .ok (.goto 4, 3) := by decide +kernel
theorem dd_M_alike_24 : decode cc_M_alike 24 = .ok (.iconst 0, 1) := by decide +kernel
theorem dd_M_alike_25 : decode cc_M_alike 25 = .ok (.istore_n 3, 1) := by decide +kernel
theorem dd_M_alike_26 : decode cc_M_alike 26 = .ok (.iload_n 1, 1) := by decide +kernel
theorem dd_M_alike_27 : decode cc_M_alike 27 = .ok (.istore 4, 2) := by decide +kernel
theorem dd_M_alike_29 : decode cc_M_alike 29 = .ok (.iload_n 2, 1) := by decide +kernel
theorem dd_M_alike_30 : decode cc_M_alike 30 = .ok (.istore 5, 2) := by decide +kernel
theorem dd_M_alike_32 : decode cc_M_alike 32 = .ok (.iload 4, 2) := by decide +kernel
theorem dd_M_alike_34 : decode cc_M_alike 34 = .ok (.ifCond .lt 50, 3) := by decide +kernel
theorem dd_M_alike_37 : decode cc_M_alike 37 = .ok (.iload 5, 2) := by decide +kernel
theorem dd_M_alike_39 : decode cc_M_alike 39 = .ok (.ifCond .lt 45, 3) := by decide +kernel
theorem dd_M_alike_42 : decode cc_M_alike 42 = .ok (.iload_n 3, 1) := by decide +kernel
theorem dd_M_alike_43 : decode cc_M_alike 43 = .ok (.ifCond .eq 18, 3) := by decide +kernel
theorem dd_M_alike_46 : decode cc_M_alike 46 = .ok (.aload_n 0, 1) := by decide +kernel
theorem dd_M_alike_47 : decode cc_M_alike 47 = .ok (.iload 4, 2) := by decide +kernel
theorem dd_M_alike_49 : decode cc_M_alike 49 = .ok (.iload 5, 2) := by decide +kernel
theorem dd_M_alike_51 : decode cc_M_alike 51 = .ok (.invokevirtual 202, 3) := by decide +kernel
theorem dd_M_alike_54 : decode cc_M_alike 54 = .ok (.ifCond .eq 7, 3) := by decide +kernel
theorem dd_M_alike_57 : decode cc_M_alike 57 = .ok (.iconst 1, 1) := by decide +kernel
theorem dd_M_alike_58 : decode cc_M_alike 58 = .ok (.goto 4, 3) := by decide +kernel
theorem dd_M_alike_61 : decode cc_M_alike 61 = .ok (.iconst 0, 1) := by decide +kernel
theorem dd_M_alike_62 : decode cc_M_alike 62 = .ok (.istore_n 3, 1) := by decide +kernel
theorem dd_M_alike_63 : decode cc_M_alike 63 = .ok (.aload_n 0, 1) := by decide +kernel
theorem dd_M_alike_64 : decode cc_M_alike 64 = .ok (.getfield 17, 3) := by decide +kernel
theorem dd_M_alike_67 : decode cc_M_alike 67 = .ok (.iload 4, 2) := by decide +kernel
theorem dd_M_alike_69 : decode cc_M_alike 69 = .ok (.iaload, 1) := by decide +kernel
theorem dd_M_alike_70 : decode cc_M_alike 70 = .ok (.istore 4, 2) := by decide +kernel
theorem dd_M_alike_72 : decode cc_M_alike 72 = .ok (.aload_n 0, 1) := by decide +kernel
theorem dd_M_alike_73 : decode cc_M_alike 73 = .ok (.getfield 17, 3) := by decide +kernel
theorem dd_M_alike_76 : decode cc_M_alike 76 = .ok (.iload 5, 2) := by decide +kernel
theorem dd_M_alike_78 : decode cc_M_alike 78 = .ok (.iaload, 1) := by decide +kernel
theorem dd_M_alike_79 : decode cc_M_alike 79 = .ok (.istore 5, 2) := by decide +kernel
theorem dd_M_alike_81 : decode cc_M_alike 81 = .ok (.goto (-49), 3) := by decide +kernel
theorem dd_M_alike_84 : decode cc_M_alike 84 = .ok (.iload_n 3, 1) := by decide +kernel
theorem dd_M_alike_85 : decode cc_M_alike 85 = .ok (.ifCond .eq 17, 3) := by decide +kernel
theorem dd_M_alike_88 : decode cc_M_alike 88 = .ok (.iload 4, 2) := by decide +kernel
theorem dd_M_alike_90 : decode cc_M_alike 90 = .ok (.ifCond .ge 12, 3) := by decide +kernel
theorem dd_M_alike_93 : decode cc_M_alike 93 = .ok (.iload 5, 2) := by decide +kernel
theorem dd_M_alike_95 : decode cc_M_alike 95 = .ok (.ifCond .ge 7, 3) := by decide +kernel
theorem dd_M_alike_98 : decode cc_M_alike 98 = .ok (.iconst 1, 1) := by decide +kernel
theorem dd_M_alike_99 : decode cc_M_alike 99 = .ok (.goto 4, 3) := by decide +kernel
theorem dd_M_alike_102 : decode cc_M_alike 102 = .ok (.iconst 0, 1) := by decide +kernel
theorem dd_M_alike_103 : decode cc_M_alike 103 = .ok (.ireturn, 1) := by decide +kernel
theorem dd_M_attempts_0 : decode cc_M_attempts 0 = .ok (.aload_n 0, 1) := by decide +kernel
theorem dd_M_attempts_1 : decode cc_M_attempts 1 = .ok (.iload_n 1, 1) := by decide +kernel
theorem dd_M_attempts_2 : decode cc_M_attempts 2 = .ok (.invokevirtual 87, 3) := by decide +kernel
theorem dd_M_attempts_5 : decode cc_M_attempts 5 = .ok (.ifCond .eq 13, 3) := by decide +kernel
theorem dd_M_attempts_8 : decode cc_M_attempts 8 = .ok (.aload_n 0, 1) := by decide +kernel
theorem dd_M_attempts_9 : decode cc_M_attempts 9 = .ok (.getfield 20, 3) := by decide +kernel
theorem dd_M_attempts_12 : decode cc_M_attempts 12 = .ok (.iload_n 1, 1) := by decide +kernel
theorem dd_M_attempts_13 : decode cc_M_attempts 13 = .ok (.iaload, 1) := by decide +kernel
theorem dd_M_attempts_14 : decode cc_M_attempts 14 = .ok (.iconst 4, 1) := by decide +kernel
theorem dd_M_attempts_15 : decode cc_M_attempts 15 = .ok (.if_icmp .ne 5, 3) := by decide +kernel
theorem dd_M_attempts_18 : decode cc_M_attempts 18 = .ok (.iconst (-1), 1) := by decide +kernel
theorem dd_M_attempts_19 : decode cc_M_attempts 19 = .ok (.ireturn, 1) := by decide +kernel
theorem dd_M_attempts_20 : decode cc_M_attempts 20 = .ok (.iconst 0, 1) := by decide +kernel
theorem dd_M_attempts_21 : decode cc_M_attempts 21 = .ok (.istore_n 2, 1) := by decide +kernel
theorem dd_M_attempts_22 : decode cc_M_attempts 22 = .ok (.iconst 0, 1) := by decide +kernel
theorem dd_M_attempts_23 : decode cc_M_attempts 23 = .ok (.istore_n 3, 1) := by decide +kernel
theorem dd_M_attempts_24 : decode cc_M_attempts 24 = .ok (.iload_n 3, 1) := by decide +kernel
theorem dd_M_attempts_25 : decode cc_M_attempts 25 = .ok (.aload_n 0, 1) := by decide +kernel
theorem dd_M_attempts_26 : decode cc_M_attempts 26 = .ok (.getfield 13, 3) := by decide +kernel
theorem dd_M_attempts_29 : decode cc_M_attempts 29 = .ok (.iconst 0, 1) := by decide +kernel
theorem dd_M_attempts_30 : decode cc_M_attempts 30 = .ok (.iaload, 1) := by decide +kernel
theorem dd_M_attempts_31 : decode cc_M_attempts 31 = .ok (.if_icmp .ge 26, 3) := by decide +kernel
theorem dd_M_attempts_34 : decode cc_M_attempts 34 = .ok (.iload_n 2, 1) := by decide +kernel
theorem dd_M_attempts_35 : decode cc_M_attempts 35 = .ok (.aload_n 0, 1) := by decide +kernel
theorem dd_M_attempts_36 : decode cc_M_attempts 36 = .ok (.iload_n 3, 1) := by decide +kernel
theorem dd_M_attempts_37 : decode cc_M_attempts 37 = .ok (.iload_n 1, 1) := by decide +kernel
theorem dd_M_attempts_38 : decode cc_M_attempts 38 = .ok (.invokevirtual 205, 3) := by decide +kernel
theorem dd_M_attempts_41 : decode cc_M_attempts 41 = .ok (.ifCond .eq 7, 3) := by decide +kernel
theorem dd_M_attempts_44 : decode cc_M_attempts 44 = .ok (.iconst 1, 1) := by decide +kernel
theorem dd_M_attempts_45 : decode cc_M_attempts 45 = .ok (.goto 4, 3) := by decide +kernel
theorem dd_M_attempts_48 : decode cc_M_attempts 48 = .ok (.iconst 0, 1) := by decide +kernel
theorem dd_M_attempts_49 : decode cc_M_attempts 49 = .ok (.iadd, 1) := by decide +kernel
theorem dd_M_attempts_50 : decode cc_M_attempts 50 = .ok (.istore_n 2, 1) := by decide +kernel
theorem dd_M_attempts_51 : decode cc_M_attempts 51 = .ok (.iinc 3 1, 3) := by decide +kernel
theorem dd_M_attempts_54 : decode cc_M_attempts 54 = .ok (.goto (-30), 3) := by decide +kernel
theorem dd_M_attempts_57 : decode cc_M_attempts 57 = .ok (.iload_n 2, 1) := by decide +kernel
theorem dd_M_attempts_58 : decode cc_M_attempts 58 = .ok (.ireturn, 1) := by decide +kernel
theorem dd_M_flaky_0 : decode cc_M_flaky 0 = .ok (.aload_n 0, 1) := by decide +kernel
theorem dd_M_flaky_1 : decode cc_M_flaky 1 = .ok (.iload_n 1, 1) := by decide +kernel
theorem dd_M_flaky_2 : decode cc_M_flaky 2 = .ok (.invokevirtual 87, 3) := by decide +kernel
theorem dd_M_flaky_5 : decode cc_M_flaky 5 = .ok (.ifCond .eq 13, 3) := by decide +kernel
theorem dd_M_flaky_8 : decode cc_M_flaky 8 = .ok (.aload_n 0, 1) := by decide +kernel
theorem dd_M_flaky_9 : decode cc_M_flaky 9 = .ok (.getfield 20, 3) := by decide +kernel
theorem dd_M_flaky_12 : decode cc_M_flaky 12 = .ok (.iload_n 1, 1) := by decide +kernel
theorem dd_M_flaky_13 : decode cc_M_flaky 13 = .ok (.iaload, 1) := by decide +kernel
theorem dd_M_flaky_14 : decode cc_M_flaky 14 = .ok (.iconst 4, 1) := by decide +kernel
theorem dd_M_flaky_15 : decode cc_M_flaky 15 = .ok (.if_icmp .ne 5, 3) := by decide +kernel
theorem dd_M_flaky_18 : decode cc_M_flaky 18 = .ok (.iconst 0, 1) := by decide +kernel
theorem dd_M_flaky_19 : decode cc_M_flaky 19 = .ok (.ireturn, 1) := by decide +kernel
theorem dd_M_flaky_20 : decode cc_M_flaky 20 = .ok (.iconst 0, 1) := by decide +kernel
theorem dd_M_flaky_21 : decode cc_M_flaky 21 = .ok (.istore_n 2, 1) := by decide +kernel
theorem dd_M_flaky_22 : decode cc_M_flaky 22 = .ok (.iconst 0, 1) := by decide +kernel
theorem dd_M_flaky_23 : decode cc_M_flaky 23 = .ok (.istore_n 3, 1) := by decide +kernel
theorem dd_M_flaky_24 : decode cc_M_flaky 24 = .ok (.iconst 0, 1) := by decide +kernel
theorem dd_M_flaky_25 : decode cc_M_flaky 25 = .ok (.istore 4, 2) := by decide +kernel
theorem dd_M_flaky_27 : decode cc_M_flaky 27 = .ok (.iload 4, 2) := by decide +kernel
theorem dd_M_flaky_29 : decode cc_M_flaky 29 = .ok (.aload_n 0, 1) := by decide +kernel
theorem dd_M_flaky_30 : decode cc_M_flaky 30 = .ok (.getfield 13, 3) := by decide +kernel
theorem dd_M_flaky_33 : decode cc_M_flaky 33 = .ok (.iconst 0, 1) := by decide +kernel
theorem dd_M_flaky_34 : decode cc_M_flaky 34 = .ok (.iaload, 1) := by decide +kernel
theorem dd_M_flaky_35 : decode cc_M_flaky 35 = .ok (.if_icmp .ge 73, 3) := by decide +kernel
theorem dd_M_flaky_38 : decode cc_M_flaky 38 = .ok (.aload_n 0, 1) := by decide +kernel
theorem dd_M_flaky_39 : decode cc_M_flaky 39 = .ok (.iload 4, 2) := by decide +kernel
theorem dd_M_flaky_41 : decode cc_M_flaky 41 = .ok (.iload_n 1, 1) := by decide +kernel
theorem dd_M_flaky_42 : decode cc_M_flaky 42 = .ok (.invokevirtual 205, 3) := by decide +kernel
theorem dd_M_flaky_45 : decode cc_M_flaky 45 = .ok (.istore 5, 2) := by decide +kernel
theorem dd_M_flaky_47 : decode cc_M_flaky 47 = .ok (.iload_n 3, 1) := by decide +kernel
theorem dd_M_flaky_48 : decode cc_M_flaky 48 = .ok (.ifCond .ne 22, 3) := by decide +kernel
theorem dd_M_flaky_51 : decode cc_M_flaky 51 = .ok (.iload 5, 2) := by decide +kernel
theorem dd_M_flaky_53 : decode cc_M_flaky 53 = .ok (.ifCond .eq 21, 3) := by decide +kernel
theorem dd_M_flaky_56 : decode cc_M_flaky 56 = .ok (.iload_n 2, 1) := by decide +kernel
theorem dd_M_flaky_57 : decode cc_M_flaky 57 = .ok (.ifCond .eq 17, 3) := by decide +kernel
theorem dd_M_flaky_60 : decode cc_M_flaky 60 = .ok (.aload_n 0, 1) := by decide +kernel
theorem dd_M_flaky_61 : decode cc_M_flaky 61 = .ok (.getfield 20, 3) := by decide +kernel
theorem dd_M_flaky_64 : decode cc_M_flaky 64 = .ok (.iload 4, 2) := by decide +kernel
theorem dd_M_flaky_66 : decode cc_M_flaky 66 = .ok (.iaload, 1) := by decide +kernel
theorem dd_M_flaky_67 : decode cc_M_flaky 67 = .ok (.ifCond .ne 7, 3) := by decide +kernel
theorem dd_M_flaky_70 : decode cc_M_flaky 70 = .ok (.iconst 1, 1) := by decide +kernel
theorem dd_M_flaky_71 : decode cc_M_flaky 71 = .ok (.goto 4, 3) := by decide +kernel
theorem dd_M_flaky_74 : decode cc_M_flaky 74 = .ok (.iconst 0, 1) := by decide +kernel
theorem dd_M_flaky_75 : decode cc_M_flaky 75 = .ok (.istore_n 3, 1) := by decide +kernel
theorem dd_M_flaky_76 : decode cc_M_flaky 76 = .ok (.iload_n 2, 1) := by decide +kernel
theorem dd_M_flaky_77 : decode cc_M_flaky 77 = .ok (.ifCond .ne 19, 3) := by decide +kernel
theorem dd_M_flaky_80 : decode cc_M_flaky 80 = .ok (.iload 5, 2) := by decide +kernel
theorem dd_M_flaky_82 : decode cc_M_flaky 82 = .ok (.ifCond .eq 18, 3) := by decide +kernel
theorem dd_M_flaky_85 : decode cc_M_flaky 85 = .ok (.aload_n 0, 1) := by decide +kernel
theorem dd_M_flaky_86 : decode cc_M_flaky 86 = .ok (.getfield 20, 3) := by decide +kernel
theorem dd_M_flaky_89 : decode cc_M_flaky 89 = .ok (.iload 4, 2) := by decide +kernel
theorem dd_M_flaky_91 : decode cc_M_flaky 91 = .ok (.iaload, 1) := by decide +kernel
theorem dd_M_flaky_92 : decode cc_M_flaky 92 = .ok (.iconst 1, 1) := by decide +kernel
theorem dd_M_flaky_93 : decode cc_M_flaky 93 = .ok (.if_icmp .ne 7, 3) := by decide +kernel
theorem dd_M_flaky_96 : decode cc_M_flaky 96 = .ok (.iconst 1, 1) := by decide +kernel
theorem dd_M_flaky_97 : decode cc_M_flaky 97 = .ok (.goto 4, 3) := by decide +kernel
theorem dd_M_flaky_100 : decode cc_M_flaky 100 = .ok (.iconst 0, 1) := by decide +kernel
theorem dd_M_flaky_101 : decode cc_M_flaky 101 = .ok (.istore_n 2, 1) := by decide +kernel
theorem dd_M_flaky_102 : decode cc_M_flaky 102 = .ok (.iinc 4 1, 3) := by decide +kernel
theorem dd_M_flaky_105 : decode cc_M_flaky 105 = .ok (.goto (-78), 3) := by decide +kernel
theorem dd_M_flaky_108 : decode cc_M_flaky 108 = .ok (.iload_n 3, 1) := by decide +kernel
theorem dd_M_flaky_109 : decode cc_M_flaky 109 = .ok (.ireturn, 1) := by decide +kernel
theorem dd_C_skipNumber_0 : decode cc_C_skipNumber 0 = .ok (.iload_n 1, 1) := by decide +kernel
theorem dd_C_skipNumber_1 : decode cc_C_skipNumber 1 = .ok (.bipush 10, 2) := by decide +kernel
theorem dd_C_skipNumber_3 : decode cc_C_skipNumber 3 = .ok (.if_icmp .lt 14, 3) := by decide +kernel
theorem dd_C_skipNumber_6 : decode cc_C_skipNumber 6 = .ok (.aload_n 0, 1) := by decide +kernel
theorem dd_C_skipNumber_7 : decode cc_C_skipNumber 7 = .ok (.iload_n 1, 1) := by decide +kernel
theorem dd_C_skipNumber_8 : decode cc_C_skipNumber 8 = .ok (.bipush 10, 2) := by decide +kernel
theorem dd_C_skipNumber_10 : decode cc_C_skipNumber 10 = .ok (.idiv, 1) := by decide +kernel
theorem dd_C_skipNumber_11 : decode cc_C_skipNumber 11 = .ok (.invokevirtual 41, 3) := by decide +kernel
theorem dd_C_skipNumber_14 : decode cc_C_skipNumber 14 = .ok (.ifCond .eq 18, 3) := by decide +kernel
theorem dd_C_skipNumber_17 : decode cc_C_skipNumber 17 = .ok (.aload_n 0, 1) := by decide +kernel
theorem dd_C_skipNumber_18 : decode cc_C_skipNumber 18 = .ok (.iload_n 1, 1) := by decide +kernel
theorem dd_C_skipNumber_19 : decode cc_C_skipNumber 19 = .ok (.bipush 10, 2) := by decide +kernel
theorem dd_C_skipNumber_21 : decode cc_C_skipNumber 21 = .ok (.irem, 1) := by decide +kernel
theorem dd_C_skipNumber_22 : decode cc_C_skipNumber 22 = .ok (.invokevirtual 41, 3) := by decide +kernel
theorem dd_C_skipNumber_25 : decode cc_C_skipNumber 25 = .ok (.ifCond .eq 7, 3) := by decide +kernel
theorem dd_C_skipNumber_28 : decode cc_C_skipNumber 28 = .ok (.iconst 1, 1) := by decide +kernel
theorem dd_C_skipNumber_29 : decode cc_C_skipNumber 29 = .ok (.goto 4, 3) := by decide +kernel
theorem dd_C_skipNumber_32 : decode cc_C_skipNumber 32 = .ok (.iconst 0, 1) := by decide +kernel
theorem dd_C_skipNumber_33 : decode cc_C_skipNumber 33 = .ok (.ireturn, 1) := by decide +kernel
theorem dd_C_takeName_0 : decode cc_C_takeName 0 = .ok (.lconst 0, 1) := by decide +kernel
theorem dd_C_takeName_1 : decode cc_C_takeName 1 = .ok (.lstore_n 1, 1) := by decide +kernel
theorem dd_C_takeName_2 : decode cc_C_takeName 2 = .ok (.iconst 0, 1) := by decide +kernel
theorem dd_C_takeName_3 : decode cc_C_takeName 3 = .ok (.istore_n 3, 1) := by decide +kernel
theorem dd_C_takeName_4 : decode cc_C_takeName 4 = .ok (.iload_n 3, 1) := by decide +kernel
theorem dd_C_takeName_5 : decode cc_C_takeName 5 = .ok (.bipush 6, 2) := by decide +kernel
theorem dd_C_takeName_7 : decode cc_C_takeName 7 = .ok (.if_icmp .ge 30, 3) := by decide +kernel
theorem dd_C_takeName_10 : decode cc_C_takeName 10 = .ok (.aload_n 0, 1) := by decide +kernel
theorem dd_C_takeName_11 : decode cc_C_takeName 11 = .ok (.invokevirtual 47, 3) := by decide +kernel
theorem dd_C_takeName_14 : decode cc_C_takeName 14 = .ok (.istore 4, 2) := by decide +kernel
theorem dd_C_takeName_16 : decode cc_C_takeName 16 = .ok (.iload 4, 2) := by decide +kernel
theorem dd_C_takeName_18 : decode cc_C_takeName 18 = .ok (.ifCond .ne 5, 3) := by decide +kernel
theorem dd_C_takeName_21 : decode cc_C_takeName 21 = .ok (.lload_n 1, 1) := by decide +kernel
theorem dd_C_takeName_22 : decode cc_C_takeName 22 = .ok (.lreturn, 1) := by decide +kernel
theorem dd_C_takeName_23 : decode cc_C_takeName 23 = .ok (.lload_n 1, 1) := by decide +kernel
theorem dd_C_takeName_24 : decode cc_C_takeName 24 = .ok (.iload_n 3, 1) := by decide +kernel
theorem dd_C_takeName_25 : decode cc_C_takeName 25 = .ok (.iload 4, 2) := by decide +kernel
theorem dd_C_takeName_27 : decode cc_C_takeName 27 = .ok (.invokestatic 50, 3) := by decide +kernel
theorem dd_C_takeName_30 : decode cc_C_takeName 30 = .ok (.lstore_n 1, 1) := by decide +kernel
theorem dd_C_takeName_31 : decode cc_C_takeName 31 = .ok (.iinc 3 1, 3) := by decide +kernel
theorem dd_C_takeName_34 : decode cc_C_takeName 34 = .ok (.goto (-30), 3) := by decide +kernel
theorem dd_C_takeName_37 : decode cc_C_takeName 37 = .ok (.lload_n 1, 1) := by decide +kernel
theorem dd_C_takeName_38 : decode cc_C_takeName 38 = .ok (.lreturn, 1) := by decide +kernel
theorem dd_N_sizeOf_0 : decode cc_N_sizeOf 0 = .ok (.iconst 0, 1) := by decide +kernel
theorem dd_N_sizeOf_1 : decode cc_N_sizeOf 1 = .ok (.istore_n 2, 1) := by decide +kernel
theorem dd_N_sizeOf_2 : decode cc_N_sizeOf 2 = .ok (.iload_n 2, 1) := by decide +kernel
theorem dd_N_sizeOf_3 : decode cc_N_sizeOf 3 = .ok (.bipush 6, 2) := by decide +kernel
theorem dd_N_sizeOf_5 : decode cc_N_sizeOf 5 = .ok (.if_icmp .ge 17, 3) := by decide +kernel
theorem dd_N_sizeOf_8 : decode cc_N_sizeOf 8 = .ok (.lload_n 0, 1) := by decide +kernel
theorem dd_N_sizeOf_9 : decode cc_N_sizeOf 9 = .ok (.iload_n 2, 1) := by decide +kernel
theorem dd_N_sizeOf_10 : decode cc_N_sizeOf 10 = .ok (.invokestatic 9, 3) := by decide +kernel
theorem dd_N_sizeOf_13 : decode cc_N_sizeOf 13 = .ok (.ifCond .eq 9, 3) := by decide +kernel
theorem dd_N_sizeOf_16 : decode cc_N_sizeOf 16 = .ok (.iinc 2 1, 3) := by decide +kernel
theorem dd_N_sizeOf_19 : decode cc_N_sizeOf 19 = .ok (.goto (-17), 3) := by decide +kernel
theorem dd_N_sizeOf_22 : decode cc_N_sizeOf 22 = .ok (.iload_n 2, 1) := by decide +kernel
theorem dd_N_sizeOf_23 : decode cc_N_sizeOf 23 = .ok (.ireturn, 1) := by decide +kernel
theorem dd_P_addWritten_0 : decode cc_P_addWritten 0 = .ok (.lload_n 1, 1) := by decide +kernel
theorem dd_P_addWritten_1 : decode cc_P_addWritten 1 = .ok (.invokestatic 39, 3) := by decide +kernel
theorem dd_P_addWritten_4 : decode cc_P_addWritten 4 = .ok (.istore_n 3, 1) := by decide +kernel
theorem dd_P_addWritten_5 : decode cc_P_addWritten 5 = .ok (.iconst 0, 1) := by decide +kernel
theorem dd_P_addWritten_6 : decode cc_P_addWritten 6 = .ok (.istore 4, 2) := by decide +kernel
theorem dd_P_addWritten_8 : decode cc_P_addWritten 8 = .ok (.iload 4, 2) := by decide +kernel
theorem dd_P_addWritten_10 : decode cc_P_addWritten 10 = .ok (.iload_n 3, 1) := by decide +kernel
theorem dd_P_addWritten_11 : decode cc_P_addWritten 11 = .ok (.if_icmp .ge 46, 3) := by decide +kernel
theorem dd_P_addWritten_14 : decode cc_P_addWritten 14 = .ok (.lload_n 1, 1) := by decide +kernel
theorem dd_P_addWritten_15 : decode cc_P_addWritten 15 = .ok (.iload 4, 2) := by decide +kernel
theorem dd_P_addWritten_17 : decode cc_P_addWritten 17 = .ok (.invokestatic 45, 3) := by decide +kernel
theorem dd_P_addWritten_20 : decode cc_P_addWritten 20 = .ok (.i2c, 1) := by decide +kernel
theorem dd_P_addWritten_21 : decode cc_P_addWritten 21 = .ok (.istore 5, 2) := by decide +kernel
theorem dd_P_addWritten_23 : decode cc_P_addWritten 23 = .ok (.iload 5, 2) := by decide +kernel
theorem dd_P_addWritten_25 : decode cc_P_addWritten 25 = .ok (.bipush 92, 2) := by decide +kernel
theorem dd_P_addWritten_27 : decode cc_P_addWritten 27 = .ok (.if_icmp .eq 10, 3) := by decide +kernel
theorem dd_P_addWritten_30 : decode cc_P_addWritten 30 = .ok (.iload 5, 2) := by decide +kernel
theorem dd_P_addWritten_32 : decode cc_P_addWritten 32 = .ok (.bipush 35, 2) := by decide +kernel
theorem dd_P_addWritten_34 : decode cc_P_addWritten 34 = .ok (.if_icmp .ne 10, 3) := by decide +kernel
theorem dd_P_addWritten_37 : decode cc_P_addWritten 37 = .ok (.aload_n 0, 1) := by decide +kernel
theorem dd_P_addWritten_38 : decode cc_P_addWritten 38 = .ok (.bipush 92, 2) := by decide +kernel
theorem dd_P_addWritten_40 : decode cc_P_addWritten 40 = .ok (.invokevirtual 29, 3) := by decide +kernel
theorem dd_P_addWritten_43 : decode cc_P_addWritten 43 = .ok (.pop, 1) := by decide +kernel
theorem dd_P_addWritten_44 : decode cc_P_addWritten 44 = .ok (.aload_n 0, 1) := by decide +kernel
theorem dd_P_addWritten_45 : decode cc_P_addWritten 45 = .ok (.iload 5, 2) := by decide +kernel
theorem dd_P_addWritten_47 : decode cc_P_addWritten 47 = .ok (.invokevirtual 29, 3) := by decide +kernel
theorem dd_P_addWritten_50 : decode cc_P_addWritten 50 = .ok (.pop, 1) := by decide +kernel
theorem dd_P_addWritten_51 : decode cc_P_addWritten 51 = .ok (.iinc 4 1, 3) := by decide +kernel
theorem dd_P_addWritten_54 : decode cc_P_addWritten 54 = .ok (.goto (-46), 3) := by decide +kernel
theorem dd_P_addWritten_57 : decode cc_P_addWritten 57 = .ok (.return_, 1) := by decide +kernel
theorem dd_W_writeSubtest_0 : decode cc_W_writeSubtest 0 = .ok (.aload_n 0, 1) := by decide +kernel
theorem dd_W_writeSubtest_1 : decode cc_W_writeSubtest 1 = .ok (.getfield 9, 3) := by decide +kernel
theorem dd_W_writeSubtest_4 : decode cc_W_writeSubtest 4 = .ok (.aload_n 0, 1) := by decide +kernel
theorem dd_W_writeSubtest_5 : decode cc_W_writeSubtest 5 = .ok (.getfield 15, 3) := by decide +kernel
theorem dd_W_writeSubtest_8 : decode cc_W_writeSubtest 8 = .ok (.iload_n 1, 1) := by decide +kernel
theorem dd_W_writeSubtest_9 : decode cc_W_writeSubtest 9 = .ok (.invokevirtual 87, 3) := by decide +kernel
theorem dd_W_writeSubtest_12 : decode cc_W_writeSubtest 12 = .ok (.invokevirtual 76, 3) := by decide +kernel
theorem dd_W_writeSubtest_15 : decode cc_W_writeSubtest 15 = .ok (.aload_n 0, 1) := by decide +kernel
theorem dd_W_writeSubtest_16 : decode cc_W_writeSubtest 16 = .ok (.getfield 9, 3) := by decide +kernel
theorem dd_W_writeSubtest_19 : decode cc_W_writeSubtest 19 = .ok (.ldc 90, 2) := by decide +kernel
theorem dd_W_writeSubtest_21 : decode cc_W_writeSubtest 21 = .ok (.invokevirtual 27, 3) := by decide +kernel
theorem dd_W_writeSubtest_24 : decode cc_W_writeSubtest 24 = .ok (.aload_n 0, 1) := by decide +kernel
theorem dd_W_writeSubtest_25 : decode cc_W_writeSubtest 25 = .ok (.getfield 9, 3) := by decide +kernel
theorem dd_W_writeSubtest_28 : decode cc_W_writeSubtest 28 = .ok (.aload_n 0, 1) := by decide +kernel
theorem dd_W_writeSubtest_29 : decode cc_W_writeSubtest 29 = .ok (.getfield 15, 3) := by decide +kernel
theorem dd_W_writeSubtest_32 : decode cc_W_writeSubtest 32 = .ok (.iload_n 1, 1) := by decide +kernel
theorem dd_W_writeSubtest_33 : decode cc_W_writeSubtest 33 = .ok (.invokevirtual 92, 3) := by decide +kernel
theorem dd_W_writeSubtest_36 : decode cc_W_writeSubtest 36 = .ok (.invokevirtual 96, 3) := by decide +kernel
theorem dd_W_writeSubtest_39 : decode cc_W_writeSubtest 39 = .ok (.aload_n 0, 1) := by decide +kernel
theorem dd_W_writeSubtest_40 : decode cc_W_writeSubtest 40 = .ok (.getfield 9, 3) := by decide +kernel
theorem dd_W_writeSubtest_43 : decode cc_W_writeSubtest 43 = .ok (.bipush 10, 2) := by decide +kernel
theorem dd_W_writeSubtest_45 : decode cc_W_writeSubtest 45 = .ok (.invokevirtual 31, 3) := by decide +kernel
theorem dd_W_writeSubtest_48 : decode cc_W_writeSubtest 48 = .ok (.pop, 1) := by decide +kernel
theorem dd_W_writeSubtest_49 : decode cc_W_writeSubtest 49 = .ok (.return_, 1) := by decide +kernel
theorem dd_R_rowSize_0 : decode cc_R_rowSize 0 = .ok (.aload_n 0, 1) := by decide +kernel
theorem dd_R_rowSize_1 : decode cc_R_rowSize 1 = .ok (.iload_n 1, 1) := by decide +kernel
theorem dd_R_rowSize_2 : decode cc_R_rowSize 2 = .ok (.aload_n 0, 1) := by decide +kernel
theorem dd_R_rowSize_3 : decode cc_R_rowSize 3 = .ok (.getfield 25, 3) := by decide +kernel
theorem dd_R_rowSize_6 : decode cc_R_rowSize 6 = .ok (.invokevirtual 41, 3) := by decide +kernel
theorem dd_R_rowSize_9 : decode cc_R_rowSize 9 = .ok (.ireturn, 1) := by decide +kernel
theorem dd_R_placeOf_0 : decode cc_R_placeOf 0 = .ok (.aload_n 0, 1) := by decide +kernel
theorem dd_R_placeOf_1 : decode cc_R_placeOf 1 = .ok (.iload_n 1, 1) := by decide +kernel
theorem dd_R_placeOf_2 : decode cc_R_placeOf 2 = .ok (.invokevirtual 35, 3) := by decide +kernel
theorem dd_R_placeOf_5 : decode cc_R_placeOf 5 = .ok (.ifCond .eq 19, 3) := by decide +kernel
theorem dd_R_placeOf_8 : decode cc_R_placeOf 8 = .ok (.aload_n 0, 1) := by decide +kernel
theorem dd_R_placeOf_9 : decode cc_R_placeOf 9 = .ok (.aload_n 0, 1) := by decide +kernel
theorem dd_R_placeOf_10 : decode cc_R_placeOf 10 = .ok (.getfield 18, 3) := by decide +kernel
theorem dd_R_placeOf_13 : decode cc_R_placeOf 13 = .ok (.iload_n 1, 1) := by decide +kernel
theorem dd_R_placeOf_14 : decode cc_R_placeOf 14 = .ok (.iaload, 1) := by decide +kernel
theorem dd_R_placeOf_15 : decode cc_R_placeOf 15 = .ok (.iload_n 1, 1) := by decide +kernel
theorem dd_R_placeOf_16 : decode cc_R_placeOf 16 = .ok (.iconst 1, 1) := by decide +kernel
theorem dd_R_placeOf_17 : decode cc_R_placeOf 17 = .ok (.iadd, 1) := by decide +kernel
theorem dd_R_placeOf_18 : decode cc_R_placeOf 18 = .ok (.invokevirtual 41, 3) := by decide +kernel
theorem dd_R_placeOf_21 : decode cc_R_placeOf 21 = .ok (.goto 4, 3) := by decide +kernel
theorem dd_R_placeOf_24 : decode cc_R_placeOf 24 = .ok (.iconst (-1), 1) := by decide +kernel
theorem dd_R_placeOf_25 : decode cc_R_placeOf 25 = .ok (.ireturn, 1) := by decide +kernel
theorem dd_R_closeLastOpen_0 : decode cc_R_closeLastOpen 0 = .ok (.aload_n 0, 1) := by decide +kernel
theorem dd_R_closeLastOpen_1 : decode cc_R_closeLastOpen 1 = .ok (.aload_n 0, 1) := by decide +kernel
theorem dd_R_closeLastOpen_2 : decode cc_R_closeLastOpen 2 = .ok (.getfield 29, 3) := by decide +kernel
theorem dd_R_closeLastOpen_5 : decode cc_R_closeLastOpen 5 = .ok (.invokevirtual 35, 3) := by decide +kernel
theorem dd_R_closeLastOpen_8 : decode cc_R_closeLastOpen 8 = .ok (.ifCond .ne 5, 3) := by decide +kernel
theorem dd_R_closeLastOpen_11 : decode cc_R_closeLastOpen 11 = .ok (.iconst 0, 1) := by decide +kernel
theorem dd_R_closeLastOpen_12 : decode cc_R_closeLastOpen 12 = .ok (.ireturn, 1) := by decide +kernel
theorem dd_R_closeLastOpen_13 : decode cc_R_closeLastOpen 13 = .ok (.aload_n 0, 1) := by decide +kernel
theorem dd_R_closeLastOpen_14 : decode cc_R_closeLastOpen 14 = .ok (.getfield 9, 3) := by decide +kernel
theorem dd_R_closeLastOpen_17 : decode cc_R_closeLastOpen 17 = .ok (.aload_n 0, 1) := by decide +kernel
theorem dd_R_closeLastOpen_18 : decode cc_R_closeLastOpen 18 = .ok (.getfield 29, 3) := by decide +kernel
theorem dd_R_closeLastOpen_21 : decode cc_R_closeLastOpen 21 = .ok (.aload_n 0, 1) := by decide +kernel
theorem dd_R_closeLastOpen_22 : decode cc_R_closeLastOpen 22 = .ok (.aload_n 0, 1) := by decide +kernel
theorem dd_R_closeLastOpen_23 : decode cc_R_closeLastOpen 23 = .ok (.getfield 29, 3) := by decide +kernel
theorem dd_R_closeLastOpen_26 : decode cc_R_closeLastOpen 26 = .ok (.invokevirtual 45, 3) := by decide +kernel
theorem dd_R_closeLastOpen_29 : decode cc_R_closeLastOpen 29 = .ok (.ifCond .eq 7, 3) := by decide +kernel
theorem dd_R_closeLastOpen_32 : decode cc_R_closeLastOpen 32 = .ok (.iconst 5, 1) := by decide +kernel
theorem dd_R_closeLastOpen_33 : decode cc_R_closeLastOpen 33 = .ok (.goto 4, 3) := by decide +kernel
theorem dd_R_closeLastOpen_36 : decode cc_R_closeLastOpen 36 = .ok (.iconst 4, 1) := by decide +kernel
theorem dd_R_closeLastOpen_37 : decode cc_R_closeLastOpen 37 = .ok (.iastore, 1) := by decide +kernel
theorem dd_R_closeLastOpen_38 : decode cc_R_closeLastOpen 38 = .ok (.aload_n 0, 1) := by decide +kernel
theorem dd_R_closeLastOpen_39 : decode cc_R_closeLastOpen 39 = .ok (.aload_n 0, 1) := by decide +kernel
theorem dd_R_closeLastOpen_40 : decode cc_R_closeLastOpen 40 = .ok (.getfield 18, 3) := by decide +kernel
theorem dd_R_closeLastOpen_43 : decode cc_R_closeLastOpen 43 = .ok (.aload_n 0, 1) := by decide +kernel
theorem dd_R_closeLastOpen_44 : decode cc_R_closeLastOpen 44 = .ok (.getfield 29, 3) := by decide +kernel
theorem dd_R_closeLastOpen_47 : decode cc_R_closeLastOpen 47 = .ok (.iaload, 1) := by decide +kernel
theorem dd_R_closeLastOpen_48 : decode cc_R_closeLastOpen 48 = .ok (.putfield 29, 3) := by decide +kernel
theorem dd_R_closeLastOpen_51 : decode cc_R_closeLastOpen 51 = .ok (.aload_n 0, 1) := by decide +kernel
theorem dd_R_closeLastOpen_52 : decode cc_R_closeLastOpen 52 = .ok (.dup, 1) := by decide +kernel
theorem dd_R_closeLastOpen_53 : decode cc_R_closeLastOpen 53 = .ok (.getfield 32, 3) := by decide +kernel
theorem dd_R_closeLastOpen_56 : decode cc_R_closeLastOpen 56 = .ok (.iconst 1, 1) := by decide +kernel
theorem dd_R_closeLastOpen_57 : decode cc_R_closeLastOpen 57 = .ok (.isub, 1) := by decide +kernel
theorem dd_R_closeLastOpen_58 : decode cc_R_closeLastOpen 58 = .ok (.putfield 32, 3) := by decide +kernel
theorem dd_R_closeLastOpen_61 : decode cc_R_closeLastOpen 61 = .ok (.iconst 1, 1) := by decide +kernel
theorem dd_R_closeLastOpen_62 : decode cc_R_closeLastOpen 62 = .ok (.ireturn, 1) := by decide +kernel
theorem dd_V_letter_0 : decode cc_V_letter 0 = .ok (.aload_n 0, 1) := by decide +kernel
theorem dd_V_letter_1 : decode cc_V_letter 1 = .ok (.getfield 28, 3) := by decide +kernel
theorem dd_V_letter_4 : decode cc_V_letter 4 = .ok (.invokestatic 32, 3) := by decide +kernel
theorem dd_V_letter_7 : decode cc_V_letter 7 = .ok (.istore_n 2, 1) := by decide +kernel
theorem dd_V_letter_8 : decode cc_V_letter 8 = .ok (.iload_n 1, 1) := by decide +kernel
theorem dd_V_letter_9 : decode cc_V_letter 9 = .ok (.invokestatic 36, 3) := by decide +kernel
theorem dd_V_letter_12 : decode cc_V_letter 12 = .ok (.ifCond .eq 9, 3) := by decide +kernel
theorem dd_V_letter_15 : decode cc_V_letter 15 = .ok (.iload_n 2, 1) := by decide +kernel
theorem dd_V_letter_16 : decode cc_V_letter 16 = .ok (.bipush 6, 2) := by decide +kernel
theorem dd_V_letter_18 : decode cc_V_letter 18 = .ok (.if_icmp .lt 5, 3) := by decide +kernel
theorem dd_V_letter_21 : decode cc_V_letter 21 = .ok (.iconst 0, 1) := by decide +kernel
theorem dd_V_letter_22 : decode cc_V_letter 22 = .ok (.ireturn, 1) := by decide +kernel
theorem dd_V_letter_23 : decode cc_V_letter 23 = .ok (.aload_n 0, 1) := by decide +kernel
theorem dd_V_letter_24 : decode cc_V_letter 24 = .ok (.aload_n 0, 1) := by decide +kernel
theorem dd_V_letter_25 : decode cc_V_letter 25 = .ok (.getfield 28, 3) := by decide +kernel
theorem dd_V_letter_28 : decode cc_V_letter 28 = .ok (.iload_n 2, 1) := by decide +kernel
theorem dd_V_letter_29 : decode cc_V_letter 29 = .ok (.iload_n 1, 1) := by decide +kernel
theorem dd_V_letter_30 : decode cc_V_letter 30 = .ok (.invokestatic 40, 3) := by decide +kernel
theorem dd_V_letter_33 : decode cc_V_letter 33 = .ok (.putfield 28, 3) := by decide +kernel
theorem dd_V_letter_36 : decode cc_V_letter 36 = .ok (.iconst 1, 1) := by decide +kernel
theorem dd_V_letter_37 : decode cc_V_letter 37 = .ok (.ireturn, 1) := by decide +kernel
theorem dd_V_open_0 : decode cc_V_open 0 = .ok (.aload_n 0, 1) := by decide +kernel
theorem dd_V_open_1 : decode cc_V_open 1 = .ok (.bipush 6, 2) := by decide +kernel
theorem dd_V_open_3 : decode cc_V_open 3 = .ok (.invokevirtual 44, 3) := by decide +kernel
theorem dd_V_open_6 : decode cc_V_open 6 = .ok (.ireturn, 1) := by decide +kernel
theorem dd_V_close_0 : decode cc_V_close 0 = .ok (.aload_n 0, 1) := by decide +kernel
theorem dd_V_close_1 : decode cc_V_close 1 = .ok (.getfield 19, 3) := by decide +kernel
theorem dd_V_close_4 : decode cc_V_close 4 = .ok (.invokevirtual 48, 3) := by decide +kernel
theorem dd_V_close_7 : decode cc_V_close 7 = .ok (.ireturn, 1) := by decide +kernel
theorem dd_V_test_0 : decode cc_V_test 0 = .ok (.iload_n 1, 1) := by decide +kernel
theorem dd_V_test_1 : decode cc_V_test 1 = .ok (.ifCond .lt 8, 3) := by decide +kernel
theorem dd_V_test_4 : decode cc_V_test 4 = .ok (.iload_n 1, 1) := by decide +kernel
theorem dd_V_test_5 : decode cc_V_test 5 = .ok (.iconst 3, 1) := by decide +kernel
theorem dd_V_test_6 : decode cc_V_test 6 = .ok (.if_icmp .le 5, 3) := by decide +kernel
theorem dd_V_test_9 : decode cc_V_test 9 = .ok (.iconst (-1), 1) := by decide +kernel
theorem dd_V_test_10 : decode cc_V_test 10 = .ok (.ireturn, 1) := by decide +kernel
theorem dd_V_test_11 : decode cc_V_test 11 = .ok (.aload_n 0, 1) := by decide +kernel
theorem dd_V_test_12 : decode cc_V_test 12 = .ok (.iload_n 1, 1) := by decide +kernel
theorem dd_V_test_13 : decode cc_V_test 13 = .ok (.invokevirtual 44, 3) := by decide +kernel
theorem dd_V_test_16 : decode cc_V_test 16 = .ok (.ireturn, 1) := by decide +kernel
theorem dd_V_name_0 : decode cc_V_name 0 = .ok (.aload_n 0, 1) := by decide +kernel
theorem dd_V_name_1 : decode cc_V_name 1 = .ok (.getfield 19, 3) := by decide +kernel
theorem dd_V_name_4 : decode cc_V_name 4 = .ok (.iload_n 1, 1) := by decide +kernel
theorem dd_V_name_5 : decode cc_V_name 5 = .ok (.invokevirtual 69, 3) := by decide +kernel
theorem dd_V_name_8 : decode cc_V_name 8 = .ok (.lstore_n 3, 1) := by decide +kernel
theorem dd_V_name_9 : decode cc_V_name 9 = .ok (.iload_n 2, 1) := by decide +kernel
theorem dd_V_name_10 : decode cc_V_name 10 = .ok (.ifCond .lt 19, 3) := by decide +kernel
theorem dd_V_name_13 : decode cc_V_name 13 = .ok (.iload_n 2, 1) := by decide +kernel
theorem dd_V_name_14 : decode cc_V_name 14 = .ok (.lload_n 3, 1) := by decide +kernel
theorem dd_V_name_15 : decode cc_V_name 15 = .ok (.invokestatic 32, 3) := by decide +kernel
theorem dd_V_name_18 : decode cc_V_name 18 = .ok (.if_icmp .ge 11, 3) := by decide +kernel
theorem dd_V_name_21 : decode cc_V_name 21 = .ok (.lload_n 3, 1) := by decide +kernel
theorem dd_V_name_22 : decode cc_V_name 22 = .ok (.iload_n 2, 1) := by decide +kernel
theorem dd_V_name_23 : decode cc_V_name 23 = .ok (.invokestatic 73, 3) := by decide +kernel
theorem dd_V_name_26 : decode cc_V_name 26 = .ok (.goto 4, 3) := by decide +kernel
theorem dd_V_name_29 : decode cc_V_name 29 = .ok (.iconst (-1), 1) := by decide +kernel
theorem dd_V_name_30 : decode cc_V_name 30 = .ok (.ireturn, 1) := by decide +kernel
theorem dd_V_put_0 : decode cc_V_put 0 = .ok (.iload_n 1, 1) := by decide +kernel
theorem dd_V_put_1 : decode cc_V_put 1 = .ok (.invokestatic 100, 3) := by decide +kernel
theorem dd_V_put_4 : decode cc_V_put 4 = .ok (.ifCond .eq 18, 3) := by decide +kernel
theorem dd_V_put_7 : decode cc_V_put 7 = .ok (.aload_n 0, 1) := by decide +kernel
