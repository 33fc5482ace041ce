theorem dd_M_letter_39 : decode cc_M_letter 39 = .ok (.iadd, 1) := by decide +kernel
theorem dd_M_letter_40 : decode cc_M_letter 40 = .ok (.putfield 69, 3) := by decide +kernel
theorem dd_M_letter_43 : decode cc_M_letter 43 = .ok (.iconst 1, 1) := by decide +kernel
theorem dd_M_letter_44 : decode cc_M_letter 44 = .ok (.ireturn, 1) := by decide +kernel
theorem dd_M_innermost_0 : decode cc_M_innermost 0 = .ok (.iconst (-1), 1) := by decide +kernel
theorem dd_M_innermost_1 : decode cc_M_innermost 1 = .ok (.istore_n 2, 1) := by decide +kernel
theorem dd_M_innermost_2 : decode cc_M_innermost 2 = .ok (.iconst 0, 1) := by decide +kernel
theorem dd_M_innermost_3 : decode cc_M_innermost 3 = .ok (.istore_n 3, 1) := by decide +kernel
theorem dd_M_innermost_4 : decode cc_M_innermost 4 = .ok (.iload_n 3, 1) := by decide +kernel
theorem dd_M_innermost_5 : decode cc_M_innermost 5 = .ok (.aload_n 0, 1) := by decide +kernel
theorem dd_M_innermost_6 : decode cc_M_innermost 6 = .ok (.getfield 13, 3) := by decide +kernel
theorem dd_M_innermost_9 : decode cc_M_innermost 9 = .ok (.iload_n 1, 1) := by decide +kernel
theorem dd_M_innermost_10 : decode cc_M_innermost 10 = .ok (.iaload, 1) := by decide +kernel
theorem dd_M_innermost_11 : decode cc_M_innermost 11 = .ok (.if_icmp .ge 44, 3) := by decide +kernel
theorem dd_M_innermost_14 : decode cc_M_innermost 14 = .ok (.aload_n 0, 1) := by decide +kernel
theorem dd_M_innermost_15 : decode cc_M_innermost 15 = .ok (.getfield 20, 3) := by decide +kernel
theorem dd_M_innermost_18 : decode cc_M_innermost 18 = .ok (.bipush 24, 2) := by decide +kernel
theorem dd_M_innermost_20 : decode cc_M_innermost 20 = .ok (.iload_n 1, 1) := by decide +kernel
theorem dd_M_innermost_21 : decode cc_M_innermost 21 = .ok (.imul, 1) := by decide +kernel
theorem dd_M_innermost_22 : decode cc_M_innermost 22 = .ok (.iload_n 3, 1) := by decide +kernel
theorem dd_M_innermost_23 : decode cc_M_innermost 23 = .ok (.iadd, 1) := by decide +kernel
theorem dd_M_innermost_24 : decode cc_M_innermost 24 = .ok (.iaload, 1) := by decide +kernel
theorem dd_M_innermost_25 : decode cc_M_innermost 25 = .ok (.iconst 4, 1) := by decide +kernel
theorem dd_M_innermost_26 : decode cc_M_innermost 26 = .ok (.if_icmp .ne 21, 3) := by decide +kernel
theorem dd_M_innermost_29 : decode cc_M_innermost 29 = .ok (.aload_n 0, 1) := by decide +kernel
theorem dd_M_innermost_30 : decode cc_M_innermost 30 = .ok (.getfield 23, 3) := by decide +kernel
theorem dd_M_innermost_33 : decode cc_M_innermost 33 = .ok (.bipush 24, 2) := by decide +kernel
theorem dd_M_innermost_35 : decode cc_M_innermost 35 = .ok (.iload_n 1, 1) := by decide +kernel
theorem dd_M_innermost_36 : decode cc_M_innermost 36 = .ok (.imul, 1) := by decide +kernel
theorem dd_M_innermost_37 : decode cc_M_innermost 37 = .ok (.iload_n 3, 1) := by decide +kernel
theorem dd_M_innermost_38 : decode cc_M_innermost 38 = .ok (.iadd, 1) := by decide +kernel
theorem dd_M_innermost_39 : decode cc_M_innermost 39 = .ok (.baload, 1) := by decide +kernel
theorem dd_M_innermost_40 : decode cc_M_innermost 40 = .ok (.ifCond .ne 7, 3) := by decide +kernel
theorem dd_M_innermost_43 : decode cc_M_innermost 43 = .ok (.iload_n 3, 1) := by decide +kernel
theorem dd_M_innermost_44 : decode cc_M_innermost 44 = .ok (.goto 4, 3) := by decide +kernel
theorem dd_M_innermost_47 : decode cc_M_innermost 47 = .ok (.iload_n 2, 1) := by decide +kernel
theorem dd_M_innermost_48 : decode cc_M_innermost 48 = .ok (.istore_n 2, 1) := by decide +kernel
theorem dd_M_innermost_49 : decode cc_M_innermost 49 = .ok (.iinc 3 1, 3) := by decide +kernel
theorem dd_M_innermost_52 : decode cc_M_innermost 52 = .ok (.goto (-48), 3) := by decide +kernel
theorem dd_M_innermost_55 : decode cc_M_innermost 55 = .ok (.iload_n 2, 1) := by decide +kernel
theorem dd_M_innermost_56 : decode cc_M_innermost 56 = .ok (.ireturn, 1) := by decide +kernel
theorem dd_M_depthOf_0 : decode cc_M_depthOf 0 = .ok (.iconst 0, 1) := by decide +kernel
theorem dd_M_depthOf_1 : decode cc_M_depthOf 1 = .ok (.istore_n 3, 1) := by decide +kernel
theorem dd_M_depthOf_2 : decode cc_M_depthOf 2 = .ok (.aload_n 0, 1) := by decide +kernel
theorem dd_M_depthOf_3 : decode cc_M_depthOf 3 = .ok (.getfield 17, 3) := by decide +kernel
theorem dd_M_depthOf_6 : decode cc_M_depthOf 6 = .ok (.bipush 24, 2) := by decide +kernel
theorem dd_M_depthOf_8 : decode cc_M_depthOf 8 = .ok (.iload_n 1, 1) := by decide +kernel
theorem dd_M_depthOf_9 : decode cc_M_depthOf 9 = .ok (.imul, 1) := by decide +kernel
theorem dd_M_depthOf_10 : decode cc_M_depthOf 10 = .ok (.iload_n 2, 1) := by decide +kernel
theorem dd_M_depthOf_11 : decode cc_M_depthOf 11 = .ok (.iadd, 1) := by decide +kernel
theorem dd_M_depthOf_12 : decode cc_M_depthOf 12 = .ok (.iaload, 1) := by decide +kernel
theorem dd_M_depthOf_13 : decode cc_M_depthOf 13 = .ok (.istore 4, 2) := by decide +kernel
theorem dd_M_depthOf_15 : decode cc_M_depthOf 15 = .ok (.iload 4, 2) := by decide +kernel
theorem dd_M_depthOf_17 : decode cc_M_depthOf 17 = .ok (.ifCond .lt 23, 3) := by decide +kernel
theorem dd_M_depthOf_20 : decode cc_M_depthOf 20 = .ok (.iinc 3 1, 3) := by decide +kernel
theorem dd_M_depthOf_23 : decode cc_M_depthOf 23 = .ok (.aload_n 0, 1) := by decide +kernel
theorem dd_M_depthOf_24 : decode cc_M_depthOf 24 = .ok (.getfield 17, 3) := by decide +kernel
theorem dd_M_depthOf_27 : decode cc_M_depthOf 27 = .ok (.bipush 24, 2) := by decide +kernel
theorem dd_M_depthOf_29 : decode cc_M_depthOf 29 = .ok (.iload_n 1, 1) := by decide +kernel
theorem dd_M_depthOf_30 : decode cc_M_depthOf 30 = .ok (.imul, 1) := by decide +kernel
theorem dd_M_depthOf_31 : decode cc_M_depthOf 31 = .ok (.iload 4, 2) := by decide +kernel
theorem dd_M_depthOf_33 : decode cc_M_depthOf 33 = .ok (.iadd, 1) := by decide +kernel
theorem dd_M_depthOf_34 : decode cc_M_depthOf 34 = .ok (.iaload, 1) := by decide +kernel
theorem dd_M_depthOf_35 : decode cc_M_depthOf 35 = .ok (.istore 4, 2) := by decide +kernel
theorem dd_M_depthOf_37 : decode cc_M_depthOf 37 = .ok (.goto (-22), 3) := by decide +kernel
theorem dd_M_depthOf_40 : decode cc_M_depthOf 40 = .ok (.iload_n 3, 1) := by decide +kernel
theorem dd_M_depthOf_41 : decode cc_M_depthOf 41 = .ok (.ireturn, 1) := by decide +kernel
theorem dd_M_grow_0 : decode cc_M_grow 0 = .ok (.aload_n 0, 1) := by decide +kernel
theorem dd_M_grow_1 : decode cc_M_grow 1 = .ok (.getfield 13, 3) := by decide +kernel
theorem dd_M_grow_4 : decode cc_M_grow 4 = .ok (.iload_n 1, 1) := by decide +kernel
theorem dd_M_grow_5 : decode cc_M_grow 5 = .ok (.iaload, 1) := by decide +kernel
theorem dd_M_grow_6 : decode cc_M_grow 6 = .ok (.istore_n 3, 1) := by decide +kernel
theorem dd_M_grow_7 : decode cc_M_grow 7 = .ok (.aload_n 0, 1) := by decide +kernel
theorem dd_M_grow_8 : decode cc_M_grow 8 = .ok (.iload_n 1, 1) := by decide +kernel
theorem dd_M_grow_9 : decode cc_M_grow 9 = .ok (.invokevirtual 73, 3) := by decide +kernel
theorem dd_M_grow_12 : decode cc_M_grow 12 = .ok (.istore 4, 2) := by decide +kernel
theorem dd_M_grow_14 : decode cc_M_grow 14 = .ok (.aload_n 0, 1) := by decide +kernel
theorem dd_M_grow_15 : decode cc_M_grow 15 = .ok (.getfield 17, 3) := by decide +kernel
theorem dd_M_grow_18 : decode cc_M_grow 18 = .ok (.bipush 24, 2) := by decide +kernel
theorem dd_M_grow_20 : decode cc_M_grow 20 = .ok (.iload_n 1, 1) := by decide +kernel
theorem dd_M_grow_21 : decode cc_M_grow 21 = .ok (.imul, 1) := by decide +kernel
theorem dd_M_grow_22 : decode cc_M_grow 22 = .ok (.iload_n 3, 1) := by decide +kernel
theorem dd_M_grow_23 : decode cc_M_grow 23 = .ok (.iadd, 1) := by decide +kernel
theorem dd_M_grow_24 : decode cc_M_grow 24 = .ok (.iload 4, 2) := by decide +kernel
theorem dd_M_grow_26 : decode cc_M_grow 26 = .ok (.iastore, 1) := by decide +kernel
theorem dd_M_grow_27 : decode cc_M_grow 27 = .ok (.aload_n 0, 1) := by decide +kernel
theorem dd_M_grow_28 : decode cc_M_grow 28 = .ok (.getfield 20, 3) := by decide +kernel
theorem dd_M_grow_31 : decode cc_M_grow 31 = .ok (.bipush 24, 2) := by decide +kernel
theorem dd_M_grow_33 : decode cc_M_grow 33 = .ok (.iload_n 1, 1) := by decide +kernel
theorem dd_M_grow_34 : decode cc_M_grow 34 = .ok (.imul, 1) := by decide +kernel
theorem dd_M_grow_35 : decode cc_M_grow 35 = .ok (.iload_n 3, 1) := by decide +kernel
theorem dd_M_grow_36 : decode cc_M_grow 36 = .ok (.iadd, 1) := by decide +kernel
theorem dd_M_grow_37 : decode cc_M_grow 37 = .ok (.iload_n 2, 1) := by decide +kernel
theorem dd_M_grow_38 : decode cc_M_grow 38 = .ok (.iastore, 1) := by decide +kernel
theorem dd_M_grow_39 : decode cc_M_grow 39 = .ok (.aload_n 0, 1) := by decide +kernel
theorem dd_M_grow_40 : decode cc_M_grow 40 = .ok (.getfield 23, 3) := by decide +kernel
theorem dd_M_grow_43 : decode cc_M_grow 43 = .ok (.bipush 24, 2) := by decide +kernel
theorem dd_M_grow_45 : decode cc_M_grow 45 = .ok (.iload_n 1, 1) := by decide +kernel
theorem dd_M_grow_46 : decode cc_M_grow 46 = .ok (.imul, 1) := by decide +kernel
theorem dd_M_grow_47 : decode cc_M_grow 47 = .ok (.iload_n 3, 1) := by decide +kernel
theorem dd_M_grow_48 : decode cc_M_grow 48 = .ok (.iadd, 1) := by decide +kernel
theorem dd_M_grow_49 : decode cc_M_grow 49 = .ok (.iconst 0, 1) := by decide +kernel
theorem dd_M_grow_50 : decode cc_M_grow 50 = .ok (.bastore, 1) := by decide +kernel
theorem dd_M_grow_51 : decode cc_M_grow 51 = .ok (.aload_n 0, 1) := by decide +kernel
theorem dd_M_grow_52 : decode cc_M_grow 52 = .ok (.getfield 27, 3) := by decide +kernel
theorem dd_M_grow_55 : decode cc_M_grow 55 = .ok (.bipush 24, 2) := by decide +kernel
theorem dd_M_grow_57 : decode cc_M_grow 57 = .ok (.iload_n 1, 1) := by decide +kernel
theorem dd_M_grow_58 : decode cc_M_grow 58 = .ok (.imul, 1) := by decide +kernel
theorem dd_M_grow_59 : decode cc_M_grow 59 = .ok (.iload_n 3, 1) := by decide +kernel
theorem dd_M_grow_60 : decode cc_M_grow 60 = .ok (.iadd, 1) := by decide +kernel
theorem dd_M_grow_61 : decode cc_M_grow 61 = .ok (.iconst 0, 1) := by decide +kernel
theorem dd_M_grow_62 : decode cc_M_grow 62 = .ok (.iastore, 1) := by decide +kernel
theorem dd_M_grow_63 : decode cc_M_grow 63 = .ok (.aload_n 0, 1) := by decide +kernel
theorem dd_M_grow_64 : decode cc_M_grow 64 = .ok (.getfield 13, 3) := by decide +kernel
theorem dd_M_grow_67 : decode cc_M_grow 67 = .ok (.iload_n 1, 1) := by decide +kernel
theorem dd_M_grow_68 : decode cc_M_grow 68 = .ok (.dup2, 1) := by decide +kernel
theorem dd_M_grow_69 : decode cc_M_grow 69 = .ok (.iaload, 1) := by decide +kernel
theorem dd_M_grow_70 : decode cc_M_grow 70 = .ok (.iconst 1, 1) := by decide +kernel
theorem dd_M_grow_71 : decode cc_M_grow 71 = .ok (.iadd, 1) := by decide +kernel
theorem dd_M_grow_72 : decode cc_M_grow 72 = .ok (.iastore, 1) := by decide +kernel
theorem dd_M_grow_73 : decode cc_M_grow 73 = .ok (.iload_n 3, 1) := by decide +kernel
theorem dd_M_grow_74 : decode cc_M_grow 74 = .ok (.ireturn, 1) := by decide +kernel
theorem dd_M_addNamed_0 : decode cc_M_addNamed 0 = .ok (.aload_n 0, 1) := by decide +kernel
theorem dd_M_addNamed_1 : decode cc_M_addNamed 1 = .ok (.iconst 0, 1) := by decide +kernel
theorem dd_M_addNamed_2 : decode cc_M_addNamed 2 = .ok (.iload_n 1, 1) := by decide +kernel
theorem dd_M_addNamed_3 : decode cc_M_addNamed 3 = .ok (.invokevirtual 77, 3) := by decide +kernel
theorem dd_M_addNamed_6 : decode cc_M_addNamed 6 = .ok (.istore_n 2, 1) := by decide +kernel
theorem dd_M_addNamed_7 : decode cc_M_addNamed 7 = .ok (.iconst 0, 1) := by decide +kernel
theorem dd_M_addNamed_8 : decode cc_M_addNamed 8 = .ok (.istore_n 3, 1) := by decide +kernel
theorem dd_M_addNamed_9 : decode cc_M_addNamed 9 = .ok (.iload_n 3, 1) := by decide +kernel
theorem dd_M_addNamed_10 : decode cc_M_addNamed 10 = .ok (.aload_n 0, 1) := by decide +kernel
theorem dd_M_addNamed_11 : decode cc_M_addNamed 11 = .ok (.getfield 69, 3) := by decide +kernel
theorem dd_M_addNamed_14 : decode cc_M_addNamed 14 = .ok (.if_icmp .ge 26, 3) := by decide +kernel
theorem dd_M_addNamed_17 : decode cc_M_addNamed 17 = .ok (.aload_n 0, 1) := by decide +kernel
theorem dd_M_addNamed_18 : decode cc_M_addNamed 18 = .ok (.getfield 30, 3) := by decide +kernel
theorem dd_M_addNamed_21 : decode cc_M_addNamed 21 = .ok (.bipush 6, 2) := by decide +kernel
theorem dd_M_addNamed_23 : decode cc_M_addNamed 23 = .ok (.iload_n 2, 1) := by decide +kernel
theorem dd_M_addNamed_24 : decode cc_M_addNamed 24 = .ok (.imul, 1) := by decide +kernel
theorem dd_M_addNamed_25 : decode cc_M_addNamed 25 = .ok (.iload_n 3, 1) := by decide +kernel
theorem dd_M_addNamed_26 : decode cc_M_addNamed 26 = .ok (.iadd, 1) := by decide +kernel
theorem dd_M_addNamed_27 : decode cc_M_addNamed 27 = .ok (.aload_n 0, 1) := by decide +kernel
theorem dd_M_addNamed_28 : decode cc_M_addNamed 28 = .ok (.getfield 7, 3) := by decide +kernel
theorem dd_M_addNamed_31 : decode cc_M_addNamed 31 = .ok (.iload_n 3, 1) := by decide +kernel
theorem dd_M_addNamed_32 : decode cc_M_addNamed 32 = .ok (.caload, 1) := by decide +kernel
theorem dd_M_addNamed_33 : decode cc_M_addNamed 33 = .ok (.castore, 1) := by decide +kernel
theorem dd_M_addNamed_34 : decode cc_M_addNamed 34 = .ok (.iinc 3 1, 3) := by decide +kernel
theorem dd_M_addNamed_37 : decode cc_M_addNamed 37 = .ok (.goto (-28), 3) := by decide +kernel
theorem dd_M_addNamed_40 : decode cc_M_addNamed 40 = .ok (.aload_n 0, 1) := by decide +kernel
theorem dd_M_addNamed_41 : decode cc_M_addNamed 41 = .ok (.getfield 27, 3) := by decide +kernel
theorem dd_M_addNamed_44 : decode cc_M_addNamed 44 = .ok (.iload_n 2, 1) := by decide +kernel
theorem dd_M_addNamed_45 : decode cc_M_addNamed 45 = .ok (.aload_n 0, 1) := by decide +kernel
theorem dd_M_addNamed_46 : decode cc_M_addNamed 46 = .ok (.getfield 69, 3) := by decide +kernel
theorem dd_M_addNamed_49 : decode cc_M_addNamed 49 = .ok (.iastore, 1) := by decide +kernel
theorem dd_M_addNamed_50 : decode cc_M_addNamed 50 = .ok (.aload_n 0, 1) := by decide +kernel
theorem dd_M_addNamed_51 : decode cc_M_addNamed 51 = .ok (.iconst 0, 1) := by decide +kernel
theorem dd_M_addNamed_52 : decode cc_M_addNamed 52 = .ok (.putfield 69, 3) := by decide +kernel
theorem dd_M_addNamed_55 : decode cc_M_addNamed 55 = .ok (.iload_n 2, 1) := by decide +kernel
theorem dd_M_addNamed_56 : decode cc_M_addNamed 56 = .ok (.ireturn, 1) := by decide +kernel
theorem dd_M_open_0 : decode cc_M_open 0 = .ok (.aload_n 0, 1) := by decide +kernel
theorem dd_M_open_1 : decode cc_M_open 1 = .ok (.iconst 0, 1) := by decide +kernel
theorem dd_M_open_2 : decode cc_M_open 2 = .ok (.invokevirtual 73, 3) := by decide +kernel
theorem dd_M_open_5 : decode cc_M_open 5 = .ok (.istore_n 1, 1) := by decide +kernel
theorem dd_M_open_6 : decode cc_M_open 6 = .ok (.aload_n 0, 1) := by decide +kernel
theorem dd_M_open_7 : decode cc_M_open 7 = .ok (.getfield 13, 3) := by decide +kernel
theorem dd_M_open_10 : decode cc_M_open 10 = .ok (.iconst 0, 1) := by decide +kernel
theorem dd_M_open_11 : decode cc_M_open 11 = .ok (.iaload, 1) := by decide +kernel
theorem dd_M_open_12 : decode cc_M_open 12 = .ok (.bipush 24, 2) := by decide +kernel
theorem dd_M_open_14 : decode cc_M_open 14 = .ok (.if_icmp .eq 17, 3) := by decide +kernel
theorem dd_M_open_17 : decode cc_M_open 17 = .ok (.iload_n 1, 1) := by decide +kernel
theorem dd_M_open_18 : decode cc_M_open 18 = .ok (.ifCond .lt 16, 3) := by decide +kernel
theorem dd_M_open_21 : decode cc_M_open 21 = .ok (.aload_n 0, 1) := by decide +kernel
theorem dd_M_open_22 : decode cc_M_open 22 = .ok (.iconst 0, 1) := by decide +kernel
theorem dd_M_open_23 : decode cc_M_open 23 = .ok (.iload_n 1, 1) := by decide +kernel
theorem dd_M_open_24 : decode cc_M_open 24 = .ok (.invokevirtual 81, 3) := by decide +kernel
theorem dd_M_open_27 : decode cc_M_open 27 = .ok (.iconst 2, 1) := by decide +kernel
theorem dd_M_open_28 : decode cc_M_open 28 = .ok (.if_icmp .ne 6, 3) := by decide +kernel
theorem dd_M_open_31 : decode cc_M_open 31 = .ok (.bipush (-2), 2) := by decide +kernel
theorem dd_M_open_33 : decode cc_M_open 33 = .ok (.ireturn, 1) := by decide +kernel
theorem dd_M_open_34 : decode cc_M_open 34 = .ok (.aload_n 0, 1) := by decide +kernel
theorem dd_M_open_35 : decode cc_M_open 35 = .ok (.iconst 4, 1) := by decide +kernel
theorem dd_M_open_36 : decode cc_M_open 36 = .ok (.invokevirtual 84, 3) := by decide +kernel
theorem dd_M_open_39 : decode cc_M_open 39 = .ok (.ireturn, 1) := by decide +kernel
theorem dd_M_close_0 : decode cc_M_close 0 = .ok (.aload_n 0, 1) := by decide +kernel
theorem dd_M_close_1 : decode cc_M_close 1 = .ok (.iconst 0, 1) := by decide +kernel
theorem dd_M_close_2 : decode cc_M_close 2 = .ok (.invokevirtual 73, 3) := by decide +kernel
theorem dd_M_close_5 : decode cc_M_close 5 = .ok (.istore_n 1, 1) := by decide +kernel
theorem dd_M_close_6 : decode cc_M_close 6 = .ok (.iload_n 1, 1) := by decide +kernel
theorem dd_M_close_7 : decode cc_M_close 7 = .ok (.ifCond .ge 5, 3) := by decide +kernel
theorem dd_M_close_10 : decode cc_M_close 10 = .ok (.iconst 0, 1) := by decide +kernel
theorem dd_M_close_11 : decode cc_M_close 11 = .ok (.ireturn, 1) := by decide +kernel
theorem dd_M_close_12 : decode cc_M_close 12 = .ok (.aload_n 0, 1) := by decide +kernel
theorem dd_M_close_13 : decode cc_M_close 13 = .ok (.getfield 23, 3) := by decide +kernel
theorem dd_M_close_16 : decode cc_M_close 16 = .ok (.iload_n 1, 1) := by decide +kernel
theorem dd_M_close_17 : decode cc_M_close 17 = .ok (.iconst 1, 1) := by decide +kernel
theorem dd_M_close_18 : decode cc_M_close 18 = .ok (.bastore, 1) := by decide +kernel
theorem dd_M_close_19 : decode cc_M_close 19 = .ok (.iconst 1, 1) := by decide +kernel
theorem dd_M_close_20 : decode cc_M_close 20 = .ok (.ireturn, 1) := by decide +kernel
theorem dd_M_test_0 : decode cc_M_test 0 = .ok (.iload_n 1, 1) := by decide +kernel
theorem dd_M_test_1 : decode cc_M_test 1 = .ok (.ifCond .lt 8, 3) := by decide +kernel
theorem dd_M_test_4 : decode cc_M_test 4 = .ok (.iload_n 1, 1) := by decide +kernel
theorem dd_M_test_5 : decode cc_M_test 5 = .ok (.iconst 3, 1) := by decide +kernel
theorem dd_M_test_6 : decode cc_M_test 6 = .ok (.if_icmp .le 5, 3) := by decide +kernel
theorem dd_M_test_9 : decode cc_M_test 9 = .ok (.iconst (-1), 1) := by decide +kernel
theorem dd_M_test_10 : decode cc_M_test 10 = .ok (.ireturn, 1) := by decide +kernel
theorem dd_M_test_11 : decode cc_M_test 11 = .ok (.aload_n 0, 1) := by decide +kernel
theorem dd_M_test_12 : decode cc_M_test 12 = .ok (.getfield 13, 3) := by decide +kernel
theorem dd_M_test_15 : decode cc_M_test 15 = .ok (.iconst 0, 1) := by decide +kernel
theorem dd_M_test_16 : decode cc_M_test 16 = .ok (.iaload, 1) := by decide +kernel
theorem dd_M_test_17 : decode cc_M_test 17 = .ok (.bipush 24, 2) := by decide +kernel
theorem dd_M_test_19 : decode cc_M_test 19 = .ok (.if_icmp .ne 8, 3) := by decide +kernel
theorem dd_M_test_22 : decode cc_M_test 22 = .ok (.bipush (-2), 2) := by decide +kernel
theorem dd_M_test_24 : decode cc_M_test 24 = .ok (.goto 8, 3) := by decide +kernel
theorem dd_M_test_27 : decode cc_M_test 27 = .ok (.aload_n 0, 1) := by decide +kernel
theorem dd_M_test_28 : decode cc_M_test 28 = .ok (.iload_n 1, 1) := by decide +kernel
theorem dd_M_test_29 : decode cc_M_test 29 = .ok (.invokevirtual 84, 3) := by decide +kernel
theorem dd_M_test_32 : decode cc_M_test 32 = .ok (.ireturn, 1) := by decide +kernel
theorem dd_M_reset_0 : decode cc_M_reset 0 = .ok (.aload_n 0, 1) := by decide +kernel
theorem dd_M_reset_1 : decode cc_M_reset 1 = .ok (.getfield 13, 3) := by decide +kernel
theorem dd_M_reset_4 : decode cc_M_reset 4 = .ok (.iconst 0, 1) := by decide +kernel
theorem dd_M_reset_5 : decode cc_M_reset 5 = .ok (.iconst 0, 1) := by decide +kernel
theorem dd_M_reset_6 : decode cc_M_reset 6 = .ok (.iastore, 1) := by decide +kernel
theorem dd_M_reset_7 : decode cc_M_reset 7 = .ok (.return_, 1) := by decide +kernel
theorem dd_M_nodes_0 : decode cc_M_nodes 0 = .ok (.aload_n 0, 1) := by decide +kernel
theorem dd_M_nodes_1 : decode cc_M_nodes 1 = .ok (.getfield 13, 3) := by decide +kernel
theorem dd_M_nodes_4 : decode cc_M_nodes 4 = .ok (.iconst 0, 1) := by decide +kernel
theorem dd_M_nodes_5 : decode cc_M_nodes 5 = .ok (.iaload, 1) := by decide +kernel
theorem dd_M_nodes_6 : decode cc_M_nodes 6 = .ok (.ireturn, 1) := by decide +kernel
theorem dd_M_node_0 : decode cc_M_node 0 = .ok (.iload_n 1, 1) := by decide +kernel
theorem dd_M_node_1 : decode cc_M_node 1 = .ok (.ifCond .lt 17, 3) := by decide +kernel
theorem dd_M_node_4 : decode cc_M_node 4 = .ok (.iload_n 1, 1) := by decide +kernel
theorem dd_M_node_5 : decode cc_M_node 5 = .ok (.aload_n 0, 1) := by decide +kernel
theorem dd_M_node_6 : decode cc_M_node 6 = .ok (.getfield 13, 3) := by decide +kernel
theorem dd_M_node_9 : decode cc_M_node 9 = .ok (.iconst 0, 1) := by decide +kernel
theorem dd_M_node_10 : decode cc_M_node 10 = .ok (.iaload, 1) := by decide +kernel
theorem dd_M_node_11 : decode cc_M_node 11 = .ok (.if_icmp .ge 7, 3) := by decide +kernel
theorem dd_M_node_14 : decode cc_M_node 14 = .ok (.iconst 1, 1) := by decide +kernel
theorem dd_M_node_15 : decode cc_M_node 15 = .ok (.goto 4, 3) := by decide +kernel
theorem dd_M_node_18 : decode cc_M_node 18 = .ok (.iconst 0, 1) := by decide +kernel
theorem dd_M_node_19 : decode cc_M_node 19 = .ok (.ireturn, 1) := by decide +kernel
theorem dd_M_good_0 : decode cc_M_good 0 = .ok (.iconst 1, 1) := by decide +kernel
theorem dd_M_good_1 : decode cc_M_good 1 = .ok (.istore_n 3, 1) := by decide +kernel
theorem dd_M_good_2 : decode cc_M_good 2 = .ok (.iload_n 2, 1) := by decide +kernel
theorem dd_M_good_3 : decode cc_M_good 3 = .ok (.iconst 1, 1) := by decide +kernel
theorem dd_M_good_4 : decode cc_M_good 4 = .ok (.iadd, 1) := by decide +kernel
theorem dd_M_good_5 : decode cc_M_good 5 = .ok (.istore 4, 2) := by decide +kernel
theorem dd_M_good_7 : decode cc_M_good 7 = .ok (.iload 4, 2) := by decide +kernel
theorem dd_M_good_9 : decode cc_M_good 9 = .ok (.aload_n 0, 1) := by decide +kernel
theorem dd_M_good_10 : decode cc_M_good 10 = .ok (.getfield 13, 3) := by decide +kernel
theorem dd_M_good_13 : decode cc_M_good 13 = .ok (.iload_n 1, 1) := by decide +kernel
theorem dd_M_good_14 : decode cc_M_good 14 = .ok (.iaload, 1) := by decide +kernel
theorem dd_M_good_15 : decode cc_M_good 15 = .ok (.if_icmp .ge 97, 3) := by decide +kernel
theorem dd_M_good_18 : decode cc_M_good 18 = .ok (.iconst 0, 1) := by decide +kernel
theorem dd_M_good_19 : decode cc_M_good 19 = .ok (.istore 5, 2) := by decide +kernel
theorem dd_M_good_21 : decode cc_M_good 21 = .ok (.aload_n 0, 1) := by decide +kernel
theorem dd_M_good_22 : decode cc_M_good 22 = .ok (.getfield 17, 3) := by decide +kernel
theorem dd_M_good_25 : decode cc_M_good 25 = .ok (.bipush 24, 2) := by decide +kernel
theorem dd_M_good_27 : decode cc_M_good 27 = .ok (.iload_n 1, 1) := by decide +kernel
theorem dd_M_good_28 : decode cc_M_good 28 = .ok (.imul, 1) := by decide +kernel
theorem dd_M_good_29 : decode cc_M_good 29 = .ok (.iload 4, 2) := by decide +kernel
theorem dd_M_good_31 : decode cc_M_good 31 = .ok (.iadd, 1) := by decide +kernel
theorem dd_M_good_32 : decode cc_M_good 32 = .ok (.iaload, 1) := by decide +kernel
theorem dd_M_good_33 : decode cc_M_good 33 = .ok (.istore 6, 2) := by decide +kernel
theorem dd_M_good_35 : decode cc_M_good 35 = .ok (.iload 6, 2) := by decide +kernel
theorem dd_M_good_37 : decode cc_M_good 37 = .ok (.ifCond .lt 38, 3) := by decide +kernel
theorem dd_M_good_40 : decode cc_M_good 40 = .ok (.iload 5, 2) := by decide +kernel
theorem dd_M_good_42 : decode cc_M_good 42 = .ok (.ifCond .ne 9, 3) := by decide +kernel
theorem dd_M_good_45 : decode cc_M_good 45 = .ok (.iload 6, 2) := by decide +kernel
theorem dd_M_good_47 : decode cc_M_good 47 = .ok (.iload_n 2, 1) := by decide +kernel
theorem dd_M_good_48 : decode cc_M_good 48 = .ok (.if_icmp .ne 7, 3) := by decide +kernel
theorem dd_M_good_51 : decode cc_M_good 51 = .ok (.iconst 1, 1) := by decide +kernel
theorem dd_M_good_52 : decode cc_M_good 52 = .ok (.goto 4, 3) := by decide +kernel
theorem dd_M_good_55 : decode cc_M_good 55 = .ok (.iconst 0, 1) := by decide +kernel
theorem dd_M_good_56 : decode cc_M_good 56 = .ok (.istore 5, 2) := by decide +kernel
theorem dd_M_good_58 : decode cc_M_good 58 = .ok (.aload_n 0, 1) := by decide +kernel
theorem dd_M_good_59 : decode cc_M_good 59 = .ok (.getfield 17, 3) := by decide +kernel
theorem dd_M_good_62 : decode cc_M_good 62 = .ok (.bipush 24, 2) := by decide +kernel
theorem dd_M_good_64 : decode cc_M_good 64 = .ok (.iload_n 1, 1) := by decide +kernel
theorem dd_M_good_65 : decode cc_M_good 65 = .ok (.imul, 1) := by decide +kernel
theorem dd_M_good_66 : decode cc_M_good 66 = .ok (.iload 6, 2) := by decide +kernel
theorem dd_M_good_68 : decode cc_M_good 68 = .ok (.iadd, 1) := by decide +kernel
theorem dd_M_good_69 : decode cc_M_good 69 = .ok (.iaload, 1) := by decide +kernel
theorem dd_M_good_70 : decode cc_M_good 70 = .ok (.istore 6, 2) := by decide +kernel
theorem dd_M_good_72 : decode cc_M_good 72 = .ok (.goto (-37), 3) := by decide +kernel
theorem dd_M_good_75 : decode cc_M_good 75 = .ok (.iload_n 3, 1) := by decide +kernel
theorem dd_M_good_76 : decode cc_M_good 76 = .ok (.ifCond .eq 28, 3) := by decide +kernel
theorem dd_M_good_79 : decode cc_M_good 79 = .ok (.iload 5, 2) := by decide +kernel
theorem dd_M_good_81 : decode cc_M_good 81 = .ok (.ifCond .eq 19, 3) := by decide +kernel
theorem dd_M_good_84 : decode cc_M_good 84 = .ok (.aload_n 0, 1) := by decide +kernel
theorem dd_M_good_85 : decode cc_M_good 85 = .ok (.getfield 20, 3) := by decide +kernel
theorem dd_M_good_88 : decode cc_M_good 88 = .ok (.bipush 24, 2) := by decide +kernel
theorem dd_M_good_90 : decode cc_M_good 90 = .ok (.iload_n 1, 1) := by decide +kernel
theorem dd_M_good_91 : decode cc_M_good 91 = .ok (.imul, 1) := by decide +kernel
theorem dd_M_good_92 : decode cc_M_good 92 = .ok (.iload 4, 2) := by decide +kernel
theorem dd_M_good_94 : decode cc_M_good 94 = .ok (.iadd, 1) := by decide +kernel
theorem dd_M_good_95 : decode cc_M_good 95 = .ok (.iaload, 1) := by decide +kernel
theorem dd_M_good_96 : decode cc_M_good 96 = .ok (.iconst 1, 1) := by decide +kernel
theorem dd_M_good_97 : decode cc_M_good 97 = .ok (.if_icmp .eq 7, 3) := by decide +kernel
theorem dd_M_good_100 : decode cc_M_good 100 = .ok (.iconst 1, 1) := by decide +kernel
theorem dd_M_good_101 : decode cc_M_good 101 = .ok (.goto 4, 3) := by decide +kernel
theorem dd_M_good_104 : decode cc_M_good 104 = .ok (.iconst 0, 1) := by decide +kernel
theorem dd_M_good_105 : decode cc_M_good 105 = .ok (.istore_n 3, 1) := by decide +kernel
theorem dd_M_good_106 : decode cc_M_good 106 = .ok (.iinc 4 1, 3) := by decide +kernel
theorem dd_M_good_109 : decode cc_M_good 109 = .ok (.goto (-102), 3) := by decide +kernel
theorem dd_M_good_112 : decode cc_M_good 112 = .ok (.iload_n 3, 1) := by decide +kernel
theorem dd_M_good_113 : decode cc_M_good 113 = .ok (.ireturn, 1) := by decide +kernel
theorem dd_M_kind_0 : decode cc_M_kind 0 = .ok (.aload_n 0, 1) := by decide +kernel
theorem dd_M_kind_1 : decode cc_M_kind 1 = .ok (.iload_n 1, 1) := by decide +kernel
theorem dd_M_kind_2 : decode cc_M_kind 2 = .ok (.invokevirtual 87, 3) := by decide +kernel
theorem dd_M_kind_5 : decode cc_M_kind 5 = .ok (.ifCond .ne 5, 3) := by decide +kernel
theorem dd_M_kind_8 : decode cc_M_kind 8 = .ok (.iconst (-1), 1) := by decide +kernel
theorem dd_M_kind_9 : decode cc_M_kind 9 = .ok (.ireturn, 1) := by decide +kernel
theorem dd_M_kind_10 : decode cc_M_kind 10 = .ok (.aload_n 0, 1) := by decide +kernel
theorem dd_M_kind_11 : decode cc_M_kind 11 = .ok (.getfield 20, 3) := by decide +kernel
theorem dd_M_kind_14 : decode cc_M_kind 14 = .ok (.iload_n 1, 1) := by decide +kernel
theorem dd_M_kind_15 : decode cc_M_kind 15 = .ok (.iaload, 1) := by decide +kernel
theorem dd_M_kind_16 : decode cc_M_kind 16 = .ok (.iconst 4, 1) := by decide +kernel
theorem dd_M_kind_17 : decode cc_M_kind 17 = .ok (.if_icmp .ge 12, 3) := by decide +kernel
theorem dd_M_kind_20 : decode cc_M_kind 20 = .ok (.aload_n 0, 1) := by decide +kernel
theorem dd_M_kind_21 : decode cc_M_kind 21 = .ok (.getfield 20, 3) := by decide +kernel
theorem dd_M_kind_24 : decode cc_M_kind 24 = .ok (.iload_n 1, 1) := by decide +kernel
theorem dd_M_kind_25 : decode cc_M_kind 25 = .ok (.iaload, 1) := by decide +kernel
theorem dd_M_kind_26 : decode cc_M_kind 26 = .ok (.goto 31, 3) := by decide +kernel
theorem dd_M_kind_29 : decode cc_M_kind 29 = .ok (.aload_n 0, 1) := by decide +kernel
theorem dd_M_kind_30 : decode cc_M_kind 30 = .ok (.getfield 23, 3) := by decide +kernel
theorem dd_M_kind_33 : decode cc_M_kind 33 = .ok (.iload_n 1, 1) := by decide +kernel
theorem dd_M_kind_34 : decode cc_M_kind 34 = .ok (.baload, 1) := by decide +kernel
theorem dd_M_kind_35 : decode cc_M_kind 35 = .ok (.ifCond .ne 8, 3) := by decide +kernel
theorem dd_M_kind_38 : decode cc_M_kind 38 = .ok (.bipush 6, 2) := by decide +kernel
theorem dd_M_kind_40 : decode cc_M_kind 40 = .ok (.goto 17, 3) := by decide +kernel
theorem dd_M_kind_43 : decode cc_M_kind 43 = .ok (.aload_n 0, 1) := by decide +kernel
theorem dd_M_kind_44 : decode cc_M_kind 44 = .ok (.iconst 0, 1) := by decide +kernel
theorem dd_M_kind_45 : decode cc_M_kind 45 = .ok (.iload_n 1, 1) := by decide +kernel
theorem dd_M_kind_46 : decode cc_M_kind 46 = .ok (.invokevirtual 91, 3) := by decide +kernel
theorem dd_M_kind_49 : decode cc_M_kind 49 = .ok (.ifCond .eq 7, 3) := by decide +kernel
theorem dd_M_kind_52 : decode cc_M_kind 52 = .ok (.iconst 4, 1) := by decide +kernel
theorem dd_M_kind_53 : decode cc_M_kind 53 = .ok (.goto 4, 3) := by decide +kernel
theorem dd_M_kind_56 : decode cc_M_kind 56 = .ok (.iconst 5, 1) := by decide +kernel
theorem dd_M_kind_57 : decode cc_M_kind 57 = .ok (.ireturn, 1) := by decide +kernel
theorem dd_M_depth_0 : decode cc_M_depth 0 = .ok (.aload_n 0, 1) := by decide +kernel
theorem dd_M_depth_1 : decode cc_M_depth 1 = .ok (.iload_n 1, 1) := by decide +kernel
theorem dd_M_depth_2 : decode cc_M_depth 2 = .ok (.invokevirtual 87, 3) := by decide +kernel
theorem dd_M_depth_5 : decode cc_M_depth 5 = .ok (.ifCond .eq 12, 3) := by decide +kernel
theorem dd_M_depth_8 : decode cc_M_depth 8 = .ok (.aload_n 0, 1) := by decide +kernel
theorem dd_M_depth_9 : decode cc_M_depth 9 = .ok (.iconst 0, 1) := by decide +kernel
theorem dd_M_depth_10 : decode cc_M_depth 10 = .ok (.iload_n 1, 1) := by decide +kernel
theorem dd_M_depth_11 : decode cc_M_depth 11 = .ok (.invokevirtual 81, 3) := by decide +kernel
theorem dd_M_depth_14 : decode cc_M_depth 14 = .ok (.goto 4, 3) := by decide +kernel
theorem dd_M_depth_17 : decode cc_M_depth 17 = .ok (.iconst (-1), 1) := by decide +kernel
theorem dd_M_depth_18 : decode cc_M_depth 18 = .ok (.ireturn, 1) := by decide +kernel
theorem dd_M_name_0 : decode cc_M_name 0 = .ok (.aload_n 0, 1) := by decide +kernel
theorem dd_M_name_1 : decode cc_M_name 1 = .ok (.iload_n 1, 1) := by decide +kernel
theorem dd_M_name_2 : decode cc_M_name 2 = .ok (.invokevirtual 87, 3) := by decide +kernel
theorem dd_M_name_5 : decode cc_M_name 5 = .ok (.ifCond .eq 31, 3) := by decide +kernel
theorem dd_M_name_8 : decode cc_M_name 8 = .ok (.iload_n 2, 1) := by decide +kernel
theorem dd_M_name_9 : decode cc_M_name 9 = .ok (.ifCond .lt 27, 3) := by decide +kernel
theorem dd_M_name_12 : decode cc_M_name 12 = .ok (.iload_n 2, 1) := by decide +kernel
theorem dd_M_name_13 : decode cc_M_name 13 = .ok (.aload_n 0, 1) := by decide +kernel
theorem dd_M_name_14 : decode cc_M_name 14 = .ok (.getfield 27, 3) := by decide +kernel
theorem dd_M_name_17 : decode cc_M_name 17 = .ok (.iload_n 1, 1) := by decide +kernel
theorem dd_M_name_18 : decode cc_M_name 18 = .ok (.iaload, 1) := by decide +kernel
theorem dd_M_name_19 : decode cc_M_name 19 = .ok (.if_icmp .ge 17, 3) := by decide +kernel
theorem dd_M_name_22 : decode cc_M_name 22 = .ok (.aload_n 0, 1) := by decide +kernel
theorem dd_M_name_23 : decode cc_M_name 23 = .ok (.getfield 30, 3) := by decide +kernel
theorem dd_M_name_26 : decode cc_M_name 26 = .ok (.bipush 6, 2) := by decide +kernel
theorem dd_M_name_28 : decode cc_M_name 28 = .ok (.iload_n 1, 1) := by decide +kernel
theorem dd_M_name_29 : decode cc_M_name 29 = .ok (.imul, 1) := by decide +kernel
theorem dd_M_name_30 : decode cc_M_name 30 = .ok (.iload_n 2, 1) := by decide +kernel
theorem dd_M_name_31 : decode cc_M_name 31 = .ok (.iadd, 1) := by decide +kernel
theorem dd_M_name_32 : decode cc_M_name 32 = .ok (.caload, 1) := by decide +kernel
theorem dd_M_name_33 : decode cc_M_name 33 = .ok (.goto 4, 3) := by decide +kernel
theorem dd_M_name_36 : decode cc_M_name 36 = .ok (.iconst (-1), 1) := by decide +kernel
theorem dd_M_name_37 : decode cc_M_name 37 = .ok (.ireturn, 1) := by decide +kernel
theorem dd_M_placeOf_0 : decode cc_M_placeOf 0 = .ok (.iconst 0, 1) := by decide +kernel
theorem dd_M_placeOf_1 : decode cc_M_placeOf 1 = .ok (.istore_n 3, 1) := by decide +kernel
theorem dd_M_placeOf_2 : decode cc_M_placeOf 2 = .ok (.iconst 0, 1) := by decide +kernel
theorem dd_M_placeOf_3 : decode cc_M_placeOf 3 = .ok (.istore 4, 2) := by decide +kernel
theorem dd_M_placeOf_5 : decode cc_M_placeOf 5 = .ok (.iload 4, 2) := by decide +kernel
theorem dd_M_placeOf_7 : decode cc_M_placeOf 7 = .ok (.iload_n 2, 1) := by decide +kernel
theorem dd_M_placeOf_8 : decode cc_M_placeOf 8 = .ok (.if_icmp .gt 43, 3) := by decide +kernel
theorem dd_M_placeOf_11 : decode cc_M_placeOf 11 = .ok (.iload_n 3, 1) := by decide +kernel
theorem dd_M_placeOf_12 : decode cc_M_placeOf 12 = .ok (.aload_n 0, 1) := by decide +kernel
theorem dd_M_placeOf_13 : decode cc_M_placeOf 13 = .ok (.getfield 17, 3) := by decide +kernel
theorem dd_M_placeOf_16 : decode cc_M_placeOf 16 = .ok (.bipush 24, 2) := by decide +kernel
theorem dd_M_placeOf_18 : decode cc_M_placeOf 18 = .ok (.iload_n 1, 1) := by decide +kernel
theorem dd_M_placeOf_19 : decode cc_M_placeOf 19 = .ok (.imul, 1) := by decide +kernel
theorem dd_M_placeOf_20 : decode cc_M_placeOf 20 = .ok (.iload 4, 2) := by decide +kernel
theorem dd_M_placeOf_22 : decode cc_M_placeOf 22 = .ok (.iadd, 1) := by decide +kernel
theorem dd_M_placeOf_23 : decode cc_M_placeOf 23 = .ok (.iaload, 1) := by decide +kernel
theorem dd_M_placeOf_24 : decode cc_M_placeOf 24 = .ok (.aload_n 0, 1) := by decide +kernel
theorem dd_M_placeOf_25 : decode cc_M_placeOf 25 = .ok (.getfield 17, 3) := by decide +kernel
theorem dd_M_placeOf_28 : decode cc_M_placeOf 28 = .ok (.bipush 24, 2) := by decide +kernel
theorem dd_M_placeOf_30 : decode cc_M_placeOf 30 = .ok (.iload_n 1, 1) := by decide +kernel
theorem dd_M_placeOf_31 : decode cc_M_placeOf 31 = .ok (.imul, 1) := by decide +kernel
theorem dd_M_placeOf_32 : decode cc_M_placeOf 32 = .ok (.iload_n 2, 1) := by decide +kernel
theorem dd_M_placeOf_33 : decode cc_M_placeOf 33 = .ok (.iadd, 1) := by decide +kernel
theorem dd_M_placeOf_34 : decode cc_M_placeOf 34 = .ok (.iaload, 1) := by decide +kernel
theorem dd_M_placeOf_35 : decode cc_M_placeOf 35 = .ok (.if_icmp .ne 7, 3) := by decide +kernel
theorem dd_M_placeOf_38 : decode cc_M_placeOf 38 = .ok (.iconst 1, 1) := by decide +kernel
theorem dd_M_placeOf_39 : decode cc_M_placeOf 39 = .ok (.goto 4, 3) := by decide +kernel
theorem dd_M_placeOf_42 : decode cc_M_placeOf 42 = .ok (.iconst 0, 1) := by decide +kernel
theorem dd_M_placeOf_43 : decode cc_M_placeOf 43 = .ok (.iadd, 1) := by decide +kernel
theorem dd_M_placeOf_44 : decode cc_M_placeOf 44 = .ok (.istore_n 3, 1) := by decide +kernel
theorem dd_M_placeOf_45 : decode cc_M_placeOf 45 = .ok (.iinc 4 1, 3) := by decide +kernel
theorem dd_M_placeOf_48 : decode cc_M_placeOf 48 = .ok (.goto (-43), 3) := by decide +kernel
theorem dd_M_placeOf_51 : decode cc_M_placeOf 51 = .ok (.iload_n 3, 1) := by decide +kernel
theorem dd_M_placeOf_52 : decode cc_M_placeOf 52 = .ok (.ireturn, 1) := by decide +kernel
theorem dd_M_rowSize_0 : decode cc_M_rowSize 0 = .ok (.iconst 0, 1) := by decide +kernel
theorem dd_M_rowSize_1 : decode cc_M_rowSize 1 = .ok (.istore_n 3, 1) := by decide +kernel
theorem dd_M_rowSize_2 : decode cc_M_rowSize 2 = .ok (.iconst 0, 1) := by decide +kernel
theorem dd_M_rowSize_3 : decode cc_M_rowSize 3 = .ok (.istore 4, 2) := by decide +kernel
theorem dd_M_rowSize_5 : decode cc_M_rowSize 5 = .ok (.iload 4, 2) := by decide +kernel
theorem dd_M_rowSize_7 : decode cc_M_rowSize 7 = .ok (.aload_n 0, 1) := by decide +kernel
theorem dd_M_rowSize_8 : decode cc_M_rowSize 8 = .ok (.getfield 13, 3) := by decide +kernel
theorem dd_M_rowSize_11 : decode cc_M_rowSize 11 = .ok (.iload_n 1, 1) := by decide +kernel
theorem dd_M_rowSize_12 : decode cc_M_rowSize 12 = .ok (.iaload, 1) := by decide +kernel
theorem dd_M_rowSize_13 : decode cc_M_rowSize 13 = .ok (.if_icmp .ge 33, 3) := by decide +kernel
theorem dd_M_rowSize_16 : decode cc_M_rowSize 16 = .ok (.iload_n 3, 1) := by decide +kernel
theorem dd_M_rowSize_17 : decode cc_M_rowSize 17 = .ok (.aload_n 0, 1) := by decide +kernel
theorem dd_M_rowSize_18 : decode cc_M_rowSize 18 = .ok (.getfield 17, 3) := by decide +kernel
theorem dd_M_rowSize_21 : decode cc_M_rowSize 21 = .ok (.bipush 24, 2) := by decide +kernel
theorem dd_M_rowSize_23 : decode cc_M_rowSize 23 = .ok (.iload_n 1, 1) := by decide +kernel
theorem dd_M_rowSize_24 : decode cc_M_rowSize 24 = .ok (.imul, 1) := by decide +kernel
theorem dd_M_rowSize_25 : decode cc_M_rowSize 25 = .ok (.iload 4, 2) := by decide +kernel
theorem dd_M_rowSize_27 : decode cc_M_rowSize 27 = .ok (.iadd, 1) := by decide +kernel
theorem dd_M_rowSize_28 : decode cc_M_rowSize 28 = .ok (.iaload, 1) := by decide +kernel
theorem dd_M_rowSize_29 : decode cc_M_rowSize 29 = .ok (.iload_n 2, 1) := by decide +kernel
theorem dd_M_rowSize_30 : decode cc_M_rowSize 30 = .ok (.if_icmp .ne 7, 3) := by decide +kernel
theorem dd_M_rowSize_33 : decode cc_M_rowSize 33 = .ok (.iconst 1, 1) := by decide +kernel
theorem dd_M_rowSize_34 : decode cc_M_rowSize 34 = .ok (.goto 4, 3) := by decide +kernel
theorem dd_M_rowSize_37 : decode cc_M_rowSize 37 = .ok (.iconst 0, 1) := by decide +kernel
theorem dd_M_rowSize_38 : decode cc_M_rowSize 38 = .ok (.iadd, 1) := by decide +kernel
theorem dd_M_rowSize_39 : decode cc_M_rowSize 39 = .ok (.istore_n 3, 1) := by decide +kernel
theorem dd_M_rowSize_40 : decode cc_M_rowSize 40 = .ok (.iinc 4 1, 3) := by decide +kernel
theorem dd_M_rowSize_43 : decode cc_M_rowSize 43 = .ok (.goto (-38), 3) := by decide +kernel
theorem dd_M_rowSize_46 : decode cc_M_rowSize 46 = .ok (.iload_n 3, 1) := by decide +kernel
theorem dd_M_rowSize_47 : decode cc_M_rowSize 47 = .ok (.ireturn, 1) := by decide +kernel
theorem dd_M_add_0 : decode cc_M_add 0 = .ok (.aload_n 0, 1) := by decide +kernel
theorem dd_M_add_1 : decode cc_M_add 1 = .ok (.getfield 33, 3) := by decide +kernel
theorem dd_M_add_4 : decode cc_M_add 4 = .ok (.aload_n 0, 1) := by decide +kernel
theorem dd_M_add_5 : decode cc_M_add 5 = .ok (.getfield 95, 3) := by decide +kernel
theorem dd_M_add_8 : decode cc_M_add 8 = .ok (.iload_n 1, 1) := by decide +kernel
theorem dd_M_add_9 : decode cc_M_add 9 = .ok (.castore, 1) := by decide +kernel
theorem dd_M_add_10 : decode cc_M_add 10 = .ok (.aload_n 0, 1) := by decide +kernel
theorem dd_M_add_11 : decode cc_M_add 11 = .ok (.dup, 1) := by decide +kernel
theorem dd_M_add_12 : decode cc_M_add 12 = .ok (.getfield 95, 3) := by decide +kernel
theorem dd_M_add_15 : decode cc_M_add 15 = .ok (.iconst 1, 1) := by decide +kernel
theorem dd_M_add_16 : decode cc_M_add 16 = .ok (.iadd, 1) := by decide +kernel
theorem dd_M_add_17 : decode cc_M_add 17 = .ok (.putfield 95, 3) := by decide +kernel
theorem dd_M_add_20 : decode cc_M_add 20 = .ok (.return_, 1) := by decide +kernel
theorem dd_M_addText_0 : decode cc_M_addText 0 = .ok (.iconst 0, 1) := by decide +kernel
theorem dd_M_addText_1 : decode cc_M_addText 1 = .ok (.istore_n 2, 1) := by decide +kernel
theorem dd_M_addText_2 : decode cc_M_addText 2 = .ok (.iload_n 1, 1) := by decide +kernel
theorem dd_M_addText_3 : decode cc_M_addText 3 = .ok (.iload_n 2, 1) := by decide +kernel
theorem dd_M_addText_4 : decode cc_M_addText 4 = .ok (.invokestatic 98, 3) := by decide +kernel
theorem dd_M_addText_7 : decode cc_M_addText 7 = .ok (.ifCond .eq 18, 3) := by decide +kernel
theorem dd_M_addText_10 : decode cc_M_addText 10 = .ok (.aload_n 0, 1) := by decide +kernel
theorem dd_M_addText_11 : decode cc_M_addText 11 = .ok (.iload_n 1, 1) := by decide +kernel
theorem dd_M_addText_12 : decode cc_M_addText 12 = .ok (.iload_n 2, 1) := by decide +kernel
theorem dd_M_addText_13 : decode cc_M_addText 13 = .ok (.invokestatic 98, 3) := by decide +kernel
theorem dd_M_addText_16 : decode cc_M_addText 16 = .ok (.invokevirtual 102, 3) := by decide +kernel
theorem dd_M_addText_19 : decode cc_M_addText 19 = .ok (.iinc 2 1, 3) := by decide +kernel
theorem dd_M_addText_22 : decode cc_M_addText 22 = .ok (.goto (-20), 3) := by decide +kernel
theorem dd_M_addText_25 : decode cc_M_addText 25 = .ok (.return_, 1) := by decide +kernel
theorem dd_M_addSpaces_0 : decode cc_M_addSpaces 0 = .ok (.iconst 0, 1) := by decide +kernel
theorem dd_M_addSpaces_1 : decode cc_M_addSpaces 1 = .ok (.istore_n 2, 1) := by decide +kernel
theorem dd_M_addSpaces_2 : decode cc_M_addSpaces 2 = .ok (.iload_n 2, 1) := by decide +kernel
theorem dd_M_addSpaces_3 : decode cc_M_addSpaces 3 = .ok (.iconst 4, 1) := by decide +kernel
theorem dd_M_addSpaces_4 : decode cc_M_addSpaces 4 = .ok (.iload_n 1, 1) := by decide +kernel
theorem dd_M_addSpaces_5 : decode cc_M_addSpaces 5 = .ok (.imul, 1) := by decide +kernel
theorem dd_M_addSpaces_6 : decode cc_M_addSpaces 6 = .ok (.if_icmp .ge 15, 3) := by decide +kernel
theorem dd_M_addSpaces_9 : decode cc_M_addSpaces 9 = .ok (.aload_n 0, 1) := by decide +kernel
theorem dd_M_addSpaces_10 : decode cc_M_addSpaces 10 = .ok (.bipush 32, 2) := by decide +kernel
theorem dd_M_addSpaces_12 : decode cc_M_addSpaces 12 = .ok (.invokevirtual 102, 3) := by decide +kernel
theorem dd_M_addSpaces_15 : decode cc_M_addSpaces 15 = .ok (.iinc 2 1, 3) := by decide +kernel
theorem dd_M_addSpaces_18 : decode cc_M_addSpaces 18 = .ok (.goto (-16), 3) := by decide +kernel
theorem dd_M_addSpaces_21 : decode cc_M_addSpaces 21 = .ok (.return_, 1) := by decide +kernel
theorem dd_M_addNumber_0 : decode cc_M_addNumber 0 = .ok (.iload_n 1, 1) := by decide +kernel
theorem dd_M_addNumber_1 : decode cc_M_addNumber 1 = .ok (.bipush 9, 2) := by decide +kernel
theorem dd_M_addNumber_3 : decode cc_M_addNumber 3 = .ok (.if_icmp .le 15, 3) := by decide +kernel
theorem dd_M_addNumber_6 : decode cc_M_addNumber 6 = .ok (.aload_n 0, 1) := by decide +kernel
theorem dd_M_addNumber_7 : decode cc_M_addNumber 7 = .ok (.bipush 48, 2) := by decide +kernel
theorem dd_M_addNumber_9 : decode cc_M_addNumber 9 = .ok (.iload_n 1, 1) := by decide +kernel
theorem dd_M_addNumber_10 : decode cc_M_addNumber 10 = .ok (.bipush 10, 2) := by decide +kernel
theorem dd_M_addNumber_12 : decode cc_M_addNumber 12 = .ok (.idiv, 1) := by decide +kernel
theorem dd_M_addNumber_13 : decode cc_M_addNumber 13 = .ok (.iadd, 1) := by decide +kernel
theorem dd_M_addNumber_14 : decode cc_M_addNumber 14 = .ok (.i2c, 1) := by decide +kernel
theorem dd_M_addNumber_15 : decode cc_M_addNumber 15 = .ok (.invokevirtual 102, 3) := by decide +kernel
theorem dd_M_addNumber_18 : decode cc_M_addNumber 18 = .ok (.aload_n 0, 1) := by decide +kernel
theorem dd_M_addNumber_19 : decode cc_M_addNumber 19 = .ok (.bipush 48, 2) := by decide +kernel
theorem dd_M_addNumber_21 : decode cc_M_addNumber 21 = .ok (.iload_n 1, 1) := by decide +kernel
theorem dd_M_addNumber_22 : decode cc_M_addNumber 22 = .ok (.bipush 10, 2) := by decide +kernel
theorem dd_M_addNumber_24 : decode cc_M_addNumber 24 = .ok (.irem, 1) := by decide +kernel
theorem dd_M_addNumber_25 : decode cc_M_addNumber 25 = .ok (.iadd, 1) := by decide +kernel
theorem dd_M_addNumber_26 : decode cc_M_addNumber 26 = .ok (.i2c, 1) := by decide +kernel
theorem dd_M_addNumber_27 : decode cc_M_addNumber 27 = .ok (.invokevirtual 102, 3) := by decide +kernel
theorem dd_M_addNumber_30 : decode cc_M_addNumber 30 = .ok (.return_, 1) := by decide +kernel
theorem dd_M_addName_0 : decode cc_M_addName 0 = .ok (.iconst 0, 1) := by decide +kernel
theorem dd_M_addName_1 : decode cc_M_addName 1 = .ok (.istore_n 2, 1) := by decide +kernel
theorem dd_M_addName_2 : decode cc_M_addName 2 = .ok (.iload_n 2, 1) := by decide +kernel
theorem dd_M_addName_3 : decode cc_M_addName 3 = .ok (.aload_n 0, 1) := by decide +kernel
theorem dd_M_addName_4 : decode cc_M_addName 4 = .ok (.getfield 27, 3) := by decide +kernel
theorem dd_M_addName_7 : decode cc_M_addName 7 = .ok (.iload_n 1, 1) := by decide +kernel
theorem dd_M_addName_8 : decode cc_M_addName 8 = .ok (.iaload, 1) := by decide +kernel
theorem dd_M_addName_9 : decode cc_M_addName 9 = .ok (.if_icmp .ge 44, 3) := by decide +kernel
theorem dd_M_addName_12 : decode cc_M_addName 12 = .ok (.aload_n 0, 1) := by decide +kernel
theorem dd_M_addName_13 : decode cc_M_addName 13 = .ok (.getfield 30, 3) := by decide +kernel
theorem dd_M_addName_16 : decode cc_M_addName 16 = .ok (.bipush 6, 2) := by decide +kernel
theorem dd_M_addName_18 : decode cc_M_addName 18 = .ok (.iload_n 1, 1) := by decide +kernel
theorem dd_M_addName_19 : decode cc_M_addName 19 = .ok (.imul, 1) := by decide +kernel
theorem dd_M_addName_20 : decode cc_M_addName 20 = .ok (.iload_n 2, 1) := by decide +kernel
theorem dd_M_addName_21 : decode cc_M_addName 21 = .ok (.iadd, 1) := by decide +kernel
theorem dd_M_addName_22 : decode cc_M_addName 22 = .ok (.caload, 1) := by decide +kernel
theorem dd_M_addName_23 : decode cc_M_addName 23 = .ok (.istore_n 3, 1) := by decide +kernel
theorem dd_M_addName_24 : decode cc_M_addName 24 = .ok (.iload_n 3, 1) := by decide +kernel
theorem dd_M_addName_25 : decode cc_M_addName 25 = .ok (.bipush 92, 2) := by decide +kernel
theorem dd_M_addName_27 : decode cc_M_addName 27 = .ok (.if_icmp .eq 9, 3) := by decide +kernel
theorem dd_M_addName_30 : decode cc_M_addName 30 = .ok (.iload_n 3, 1) := by decide +kernel
theorem dd_M_addName_31 : decode cc_M_addName 31 = .ok (.bipush 35, 2) := by decide +kernel
theorem dd_M_addName_33 : decode cc_M_addName 33 = .ok (.if_icmp .ne 9, 3) := by decide +kernel
theorem dd_M_addName_36 : decode cc_M_addName 36 = .ok (.aload_n 0, 1) := by decide +kernel
theorem dd_M_addName_37 : decode cc_M_addName 37 = .ok (.bipush 92, 2) := by decide +kernel
theorem dd_M_addName_39 : decode cc_M_addName 39 = .ok (.invokevirtual 102, 3) := by decide +kernel
theorem dd_M_addName_42 : decode cc_M_addName 42 = .ok (.aload_n 0, 1) := by decide +kernel
theorem dd_M_addName_43 : decode cc_M_addName 43 = .ok (.iload_n 3, 1) := by decide +kernel
theorem dd_M_addName_44 : decode cc_M_addName 44 = .ok (.invokevirtual 102, 3) := by decide +kernel
theorem dd_M_addName_47 : decode cc_M_addName 47 = .ok (.iinc 2 1, 3) := by decide +kernel
theorem dd_M_addName_50 : decode cc_M_addName 50 = .ok (.goto (-48), 3) := by decide +kernel
theorem dd_M_addName_53 : decode cc_M_addName 53 = .ok (.return_, 1) := by decide +kernel
theorem dd_M_addVerdict_0 : decode cc_M_addVerdict 0 = .ok (.aload_n 0, 1) := by decide +kernel
theorem dd_M_addVerdict_1 : decode cc_M_addVerdict 1 = .ok (.aload_n 0, 1) := by decide +kernel
theorem dd_M_addVerdict_2 : decode cc_M_addVerdict 2 = .ok (.iconst 0, 1) := by decide +kernel
theorem dd_M_addVerdict_3 : decode cc_M_addVerdict 3 = .ok (.iload_n 1, 1) := by decide +kernel
theorem dd_M_addVerdict_4 : decode cc_M_addVerdict 4 = .ok (.invokevirtual 81, 3) := by decide +kernel
theorem dd_M_addVerdict_7 : decode cc_M_addVerdict 7 = .ok (.invokevirtual 106, 3) := by decide +kernel
theorem dd_M_addVerdict_10 : decode cc_M_addVerdict 10 = .ok (.aload_n 0, 1) := by decide +kernel
theorem dd_M_addVerdict_11 : decode cc_M_addVerdict 11 = .ok (.iload_n 2, 1) := by decide +kernel
theorem dd_M_addVerdict_12 : decode cc_M_addVerdict 12 = .ok (.ifCond .eq 7, 3) := by decide +kernel
theorem dd_M_addVerdict_15 : decode cc_M_addVerdict 15 = .ok (.iconst 1, 1) := by decide +kernel
theorem dd_M_addVerdict_16 : decode cc_M_addVerdict 16 = .ok (.goto 4, 3) := by decide +kernel
theorem dd_M_addVerdict_19 : decode cc_M_addVerdict 19 = .ok (.iconst 2, 1) := by decide +kernel
theorem dd_M_addVerdict_20 : decode cc_M_addVerdict 20 = .ok (.invokevirtual 110, 3) := by decide +kernel
theorem dd_M_addVerdict_23 : decode cc_M_addVerdict 23 = .ok (.aload_n 0, 1) := by decide +kernel
theorem dd_M_addVerdict_24 : decode cc_M_addVerdict 24 = .ok (.aload_n 0, 1) := by decide +kernel
theorem dd_M_addVerdict_25 : decode cc_M_addVerdict 25 = .ok (.iconst 0, 1) := by decide +kernel
theorem dd_M_addVerdict_26 : decode cc_M_addVerdict 26 = .ok (.iload_n 1, 1) := by decide +kernel
theorem dd_M_addVerdict_27 : decode cc_M_addVerdict 27 = .ok (.invokevirtual 113, 3) := by decide +kernel
theorem dd_M_addVerdict_30 : decode cc_M_addVerdict 30 = .ok (.invokevirtual 116, 3) := by decide +kernel
theorem dd_M_addVerdict_33 : decode cc_M_addVerdict 33 = .ok (.aload_n 0, 1) := by decide +kernel
theorem dd_M_addVerdict_34 : decode cc_M_addVerdict 34 = .ok (.iconst 3, 1) := by decide +kernel
theorem dd_M_addVerdict_35 : decode cc_M_addVerdict 35 = .ok (.invokevirtual 110, 3) := by decide +kernel
theorem dd_M_addVerdict_38 : decode cc_M_addVerdict 38 = .ok (.aload_n 0, 1) := by decide +kernel
theorem dd_M_addVerdict_39 : decode cc_M_addVerdict 39 = .ok (.iload_n 1, 1) := by decide +kernel
theorem dd_M_addVerdict_40 : decode cc_M_addVerdict 40 = .ok (.invokevirtual 119, 3) := by decide +kernel
theorem dd_M_addVerdict_43 : decode cc_M_addVerdict 43 = .ok (.return_, 1) := by decide +kernel
theorem dd_M_finish_0 : decode cc_M_finish 0 = .ok (.aload_n 0, 1) := by decide +kernel
theorem dd_M_finish_1 : decode cc_M_finish 1 = .ok (.aload_n 0, 1) := by decide +kernel
theorem dd_M_finish_2 : decode cc_M_finish 2 = .ok (.iconst 0, 1) := by decide +kernel
theorem dd_M_finish_3 : decode cc_M_finish 3 = .ok (.iload_n 1, 1) := by decide +kernel
theorem dd_M_finish_4 : decode cc_M_finish 4 = .ok (.invokevirtual 81, 3) := by decide +kernel
theorem dd_M_finish_7 : decode cc_M_finish 7 = .ok (.iconst 1, 1) := by decide +kernel
theorem dd_M_finish_8 : decode cc_M_finish 8 = .ok (.iadd, 1) := by decide +kernel
theorem dd_M_finish_9 : decode cc_M_finish 9 = .ok (.invokevirtual 106, 3) := by decide +kernel
theorem dd_M_finish_12 : decode cc_M_finish 12 = .ok (.aload_n 0, 1) := by decide +kernel
theorem dd_M_finish_13 : decode cc_M_finish 13 = .ok (.bipush 7, 2) := by decide +kernel
theorem dd_M_finish_15 : decode cc_M_finish 15 = .ok (.invokevirtual 110, 3) := by decide +kernel
theorem dd_M_finish_18 : decode cc_M_finish 18 = .ok (.aload_n 0, 1) := by decide +kernel
theorem dd_M_finish_19 : decode cc_M_finish 19 = .ok (.aload_n 0, 1) := by decide +kernel
theorem dd_M_finish_20 : decode cc_M_finish 20 = .ok (.iconst 0, 1) := by decide +kernel
theorem dd_M_finish_21 : decode cc_M_finish 21 = .ok (.iload_n 1, 1) := by decide +kernel
theorem dd_M_finish_22 : decode cc_M_finish 22 = .ok (.invokevirtual 122, 3) := by decide +kernel
theorem dd_M_finish_25 : decode cc_M_finish 25 = .ok (.invokevirtual 116, 3) := by decide +kernel
theorem dd_M_finish_28 : decode cc_M_finish 28 = .ok (.aload_n 0, 1) := by decide +kernel
theorem dd_M_finish_29 : decode cc_M_finish 29 = .ok (.bipush 10, 2) := by decide +kernel
theorem dd_M_finish_31 : decode cc_M_finish 31 = .ok (.invokevirtual 102, 3) := by decide +kernel
theorem dd_M_finish_34 : decode cc_M_finish 34 = .ok (.aload_n 0, 1) := by decide +kernel
theorem dd_M_finish_35 : decode cc_M_finish 35 = .ok (.iload_n 1, 1) := by decide +kernel
theorem dd_M_finish_36 : decode cc_M_finish 36 = .ok (.aload_n 0, 1) := by decide +kernel
theorem dd_M_finish_37 : decode cc_M_finish 37 = .ok (.iconst 0, 1) := by decide +kernel
theorem dd_M_finish_38 : decode cc_M_finish 38 = .ok (.iload_n 1, 1) := by decide +kernel
theorem dd_M_finish_39 : decode cc_M_finish 39 = .ok (.invokevirtual 91, 3) := by decide +kernel
theorem dd_M_finish_42 : decode cc_M_finish 42 = .ok (.invokevirtual 125, 3) := by decide +kernel
theorem dd_M_finish_45 : decode cc_M_finish 45 = .ok (.aload_n 0, 1) := by decide +kernel
theorem dd_M_finish_46 : decode cc_M_finish 46 = .ok (.bipush 10, 2) := by decide +kernel
theorem dd_M_finish_48 : decode cc_M_finish 48 = .ok (.invokevirtual 102, 3) := by decide +kernel
theorem dd_M_finish_51 : decode cc_M_finish 51 = .ok (.return_, 1) := by decide +kernel
theorem dd_M_write_0 : decode cc_M_write 0 = .ok (.aload_n 0, 1) := by decide +kernel
theorem dd_M_write_1 : decode cc_M_write 1 = .ok (.iconst 0, 1) := by decide +kernel
theorem dd_M_write_2 : decode cc_M_write 2 = .ok (.putfield 95, 3) := by decide +kernel
theorem dd_M_write_5 : decode cc_M_write 5 = .ok (.aload_n 0, 1) := by decide +kernel
theorem dd_M_write_6 : decode cc_M_write 6 = .ok (.iconst 0, 1) := by decide +kernel
theorem dd_M_write_7 : decode cc_M_write 7 = .ok (.invokevirtual 110, 3) := by decide +kernel
theorem dd_M_write_10 : decode cc_M_write 10 = .ok (.aload_n 0, 1) := by decide +kernel
theorem dd_M_write_11 : decode cc_M_write 11 = .ok (.bipush 10, 2) := by decide +kernel
theorem dd_M_write_13 : decode cc_M_write 13 = .ok (.invokevirtual 102, 3) := by decide +kernel
theorem dd_M_write_16 : decode cc_M_write 16 = .ok (.iconst (-1), 1) := by decide +kernel
theorem dd_M_write_17 : decode cc_M_write 17 = .ok (.istore_n 1, 1) := by decide +kernel
theorem dd_M_write_18 : decode cc_M_write 18 = .ok (.iconst 0, 1) := by decide +kernel
theorem dd_M_write_19 : decode cc_M_write 19 = .ok (.istore_n 2, 1) := by decide +kernel
theorem dd_M_write_20 : decode cc_M_write 20 = .ok (.iload_n 2, 1) := by decide +kernel
theorem dd_M_write_21 : decode cc_M_write 21 = .ok (.aload_n 0, 1) := by decide +kernel
theorem dd_M_write_22 : decode cc_M_write 22 = .ok (.getfield 13, 3) := by decide +kernel
theorem dd_M_write_25 : decode cc_M_write 25 = .ok (.iconst 0, 1) := by decide +kernel
theorem dd_M_write_26 : decode cc_M_write 26 = .ok (.iaload, 1) := by decide +kernel
theorem dd_M_write_27 : decode cc_M_write 27 = .ok (.if_icmp .ge 119, 3) := by decide +kernel
theorem dd_M_write_30 : decode cc_M_write 30 = .ok (.iload_n 1, 1) := by decide +kernel
theorem dd_M_write_31 : decode cc_M_write 31 = .ok (.aload_n 0, 1) := by decide +kernel
theorem dd_M_write_32 : decode cc_M_write 32 = .ok (.getfield 17, 3) := by decide +kernel
theorem dd_M_write_35 : decode cc_M_write 35 = .ok (.iload_n 2, 1) := by decide +kernel
theorem dd_M_write_36 : decode cc_M_write 36 = .ok (.iaload, 1) := by decide +kernel
theorem dd_M_write_37 : decode cc_M_write 37 = .ok (.if_icmp .eq 18, 3) := by decide +kernel
theorem dd_M_write_40 : decode cc_M_write 40 = .ok (.aload_n 0, 1) := by decide +kernel
theorem dd_M_write_41 : decode cc_M_write 41 = .ok (.iload_n 1, 1) := by decide +kernel
theorem dd_M_write_42 : decode cc_M_write 42 = .ok (.invokevirtual 129, 3) := by decide +kernel
theorem dd_M_write_45 : decode cc_M_write 45 = .ok (.aload_n 0, 1) := by decide +kernel
theorem dd_M_write_46 : decode cc_M_write 46 = .ok (.getfield 17, 3) := by decide +kernel
theorem dd_M_write_49 : decode cc_M_write 49 = .ok (.iload_n 1, 1) := by decide +kernel
theorem dd_M_write_50 : decode cc_M_write 50 = .ok (.iaload, 1) := by decide +kernel
theorem dd_M_write_51 : decode cc_M_write 51 = .ok (.istore_n 1, 1) := by decide +kernel
theorem dd_M_write_52 : decode cc_M_write 52 = .ok (.goto (-22), 3) := by decide +kernel
theorem dd_M_write_55 : decode cc_M_write 55 = .ok (.aload_n 0, 1) := by decide +kernel
theorem dd_M_write_56 : decode cc_M_write 56 = .ok (.getfield 20, 3) := by decide +kernel
theorem dd_M_write_59 : decode cc_M_write 59 = .ok (.iload_n 2, 1) := by decide +kernel
theorem dd_M_write_60 : decode cc_M_write 60 = .ok (.iaload, 1) := by decide +kernel
theorem dd_M_write_61 : decode cc_M_write 61 = .ok (.iconst 4, 1) := by decide +kernel
theorem dd_M_write_62 : decode cc_M_write 62 = .ok (.if_icmp .ne 29, 3) := by decide +kernel
theorem dd_M_write_65 : decode cc_M_write 65 = .ok (.aload_n 0, 1) := by decide +kernel
theorem dd_M_write_66 : decode cc_M_write 66 = .ok (.aload_n 0, 1) := by decide +kernel
theorem dd_M_write_67 : decode cc_M_write 67 = .ok (.iconst 0, 1) := by decide +kernel
theorem dd_M_write_68 : decode cc_M_write 68 = .ok (.iload_n 2, 1) := by decide +kernel
theorem dd_M_write_69 : decode cc_M_write 69 = .ok (.invokevirtual 81, 3) := by decide +kernel
theorem dd_M_write_72 : decode cc_M_write 72 = .ok (.invokevirtual 106, 3) := by decide +kernel
theorem dd_M_write_75 : decode cc_M_write 75 = .ok (.aload_n 0, 1) := by decide +kernel
theorem dd_M_write_76 : decode cc_M_write 76 = .ok (.bipush 6, 2) := by decide +kernel
theorem dd_M_write_78 : decode cc_M_write 78 = .ok (.invokevirtual 110, 3) := by decide +kernel
theorem dd_M_write_81 : decode cc_M_write 81 = .ok (.aload_n 0, 1) := by decide +kernel
theorem dd_M_write_82 : decode cc_M_write 82 = .ok (.iload_n 2, 1) := by decide +kernel
theorem dd_M_write_83 : decode cc_M_write 83 = .ok (.invokevirtual 119, 3) := by decide +kernel
theorem dd_M_write_86 : decode cc_M_write 86 = .ok (.iload_n 2, 1) := by decide +kernel
theorem dd_M_write_87 : decode cc_M_write 87 = .ok (.istore_n 1, 1) := by decide +kernel
theorem dd_M_write_88 : decode cc_M_write 88 = .ok (.goto 46, 3) := by decide +kernel
theorem dd_M_write_91 : decode cc_M_write 91 = .ok (.aload_n 0, 1) := by decide +kernel
theorem dd_M_write_92 : decode cc_M_write 92 = .ok (.iload_n 2, 1) := by decide +kernel
theorem dd_M_write_93 : decode cc_M_write 93 = .ok (.aload_n 0, 1) := by decide +kernel
theorem dd_M_write_94 : decode cc_M_write 94 = .ok (.getfield 20, 3) := by decide +kernel
theorem dd_M_write_97 : decode cc_M_write 97 = .ok (.iload_n 2, 1) := by decide +kernel
theorem dd_M_write_98 : decode cc_M_write 98 = .ok (.iaload, 1) := by decide +kernel
theorem dd_M_write_99 : decode cc_M_write 99 = .ok (.iconst 2, 1) := by decide +kernel
theorem dd_M_write_100 : decode cc_M_write 100 = .ok (.irem, 1) := by decide +kernel
theorem dd_M_write_101 : decode cc_M_write 101 = .ok (.ifCond .ne 7, 3) := by decide +kernel
theorem dd_M_write_104 : decode cc_M_write 104 = .ok (.iconst 1, 1) := by decide +kernel
theorem dd_M_write_105 : decode cc_M_write 105 = .ok (.goto 4, 3) := by decide +kernel
theorem dd_M_write_108 : decode cc_M_write 108 = .ok (.iconst 0, 1) := by decide +kernel
theorem dd_M_write_109 : decode cc_M_write 109 = .ok (.invokevirtual 125, 3) := by decide +kernel
theorem dd_M_write_112 : decode cc_M_write 112 = .ok (.aload_n 0, 1) := by decide +kernel
theorem dd_M_write_113 : decode cc_M_write 113 = .ok (.getfield 20, 3) := by decide +kernel
theorem dd_M_write_116 : decode cc_M_write 116 = .ok (.iload_n 2, 1) := by decide +kernel
theorem dd_M_write_117 : decode cc_M_write 117 = .ok (.iaload, 1) := by decide +kernel
theorem dd_M_write_118 : decode cc_M_write 118 = .ok (.iconst 1, 1) := by decide +kernel
theorem dd_M_write_119 : decode cc_M_write 119 = .ok (.if_icmp .le 15, 3) := by decide +kernel
theorem dd_M_write_122 : decode cc_M_write 122 = .ok (.aload_n 0, 1) := by decide +kernel
theorem dd_M_write_123 : decode cc_M_write 123 = .ok (.aload_n 0, 1) := by decide +kernel
theorem dd_M_write_124 : decode cc_M_write 124 = .ok (.getfield 20, 3) := by decide +kernel
theorem dd_M_write_127 : decode cc_M_write 127 = .ok (.iload_n 2, 1) := by decide +kernel
theorem dd_M_write_128 : decode cc_M_write 128 = .ok (.iaload, 1) := by decide +kernel
theorem dd_M_write_129 : decode cc_M_write 129 = .ok (.iconst 2, 1) := by decide +kernel
theorem dd_M_write_130 : decode cc_M_write 130 = .ok (.iadd, 1) := by decide +kernel
theorem dd_M_write_131 : decode cc_M_write 131 = .ok (.invokevirtual 110, 3) := by decide +kernel
theorem dd_M_write_134 : decode cc_M_write 134 = .ok (.aload_n 0, 1) := by decide +kernel
theorem dd_M_write_135 : decode cc_M_write 135 = .ok (.bipush 10, 2) := by decide +kernel
theorem dd_M_write_137 : decode cc_M_write 137 = .ok (.invokevirtual 102, 3) := by decide +kernel
theorem dd_M_write_140 : decode cc_M_write 140 = .ok (.iinc 2 1, 3) := by decide +kernel
theorem dd_M_write_143 : decode cc_M_write 143 = .ok (.goto (-123), 3) := by decide +kernel
theorem dd_M_write_146 : decode cc_M_write 146 = .ok (.iload_n 1, 1) := by decide +kernel
theorem dd_M_write_147 : decode cc_M_write 147 = .ok (.ifCond .lt 27, 3) := by decide +kernel
theorem dd_M_write_150 : decode cc_M_write 150 = .ok (.aload_n 0, 1) := by decide +kernel
theorem dd_M_write_151 : decode cc_M_write 151 = .ok (.getfield 23, 3) := by decide +kernel
theorem dd_M_write_154 : decode cc_M_write 154 = .ok (.iload_n 1, 1) := by decide +kernel
theorem dd_M_write_155 : decode cc_M_write 155 = .ok (.baload, 1) := by decide +kernel
theorem dd_M_write_156 : decode cc_M_write 156 = .ok (.ifCond .eq 18, 3) := by decide +kernel
theorem dd_M_write_159 : decode cc_M_write 159 = .ok (.aload_n 0, 1) := by decide +kernel
theorem dd_M_write_160 : decode cc_M_write 160 = .ok (.iload_n 1, 1) := by decide +kernel
theorem dd_M_write_161 : decode cc_M_write 161 = .ok (.invokevirtual 129, 3) := by decide +kernel
theorem dd_M_write_164 : decode cc_M_write 164 = .ok (.aload_n 0, 1) := by decide +kernel
theorem dd_M_write_165 : decode cc_M_write 165 = .ok (.getfield 17, 3) := by decide +kernel
theorem dd_M_write_168 : decode cc_M_write 168 = .ok (.iload_n 1, 1) := by decide +kernel
theorem dd_M_write_169 : decode cc_M_write 169 = .ok (.iaload, 1) := by decide +kernel
theorem dd_M_write_170 : decode cc_M_write 170 = .ok (.istore_n 1, 1) := by decide +kernel
theorem dd_M_write_171 : decode cc_M_write 171 = .ok (.goto (-25), 3) := by decide +kernel
theorem dd_M_write_174 : decode cc_M_write 174 = .ok (.iload_n 1, 1) := by decide +kernel
theorem dd_M_write_175 : decode cc_M_write 175 = .ok (.ifCond .ge 22, 3) := by decide +kernel
theorem dd_M_write_178 : decode cc_M_write 178 = .ok (.aload_n 0, 1) := by decide +kernel
theorem dd_M_write_179 : decode cc_M_write 179 = .ok (.bipush 7, 2) := by decide +kernel
theorem dd_M_write_181 : decode cc_M_write 181 = .ok (.invokevirtual 110, 3) := by decide +kernel
theorem dd_M_write_184 : decode cc_M_write 184 = .ok (.aload_n 0, 1) := by decide +kernel
theorem dd_M_write_185 : decode cc_M_write 185 = .ok (.aload_n 0, 1) := by decide +kernel
theorem dd_M_write_186 : decode cc_M_write 186 = .ok (.iconst 0, 1) := by decide +kernel
theorem dd_M_write_187 : decode cc_M_write 187 = .ok (.iconst (-1), 1) := by decide +kernel
theorem dd_M_write_188 : decode cc_M_write 188 = .ok (.invokevirtual 122, 3) := by decide +kernel
theorem dd_M_write_191 : decode cc_M_write 191 = .ok (.invokevirtual 116, 3) := by decide +kernel
theorem dd_M_write_194 : decode cc_M_write 194 = .ok (.goto 9, 3) := by decide +kernel
theorem dd_M_write_197 : decode cc_M_write 197 = .ok (.aload_n 0, 1) := by decide +kernel
theorem dd_M_write_198 : decode cc_M_write 198 = .ok (.bipush 8, 2) := by decide +kernel
theorem dd_M_write_200 : decode cc_M_write 200 = .ok (.invokevirtual 110, 3) := by decide +kernel
theorem dd_M_write_203 : decode cc_M_write 203 = .ok (.aload_n 0, 1) := by decide +kernel
theorem dd_M_write_204 : decode cc_M_write 204 = .ok (.bipush 10, 2) := by decide +kernel
theorem dd_M_write_206 : decode cc_M_write 206 = .ok (.invokevirtual 102, 3) := by decide +kernel
theorem dd_M_write_209 : decode cc_M_write 209 = .ok (.aload_n 0, 1) := by decide +kernel
theorem dd_M_write_210 : decode cc_M_write 210 = .ok (.getfield 95, 3) := by decide +kernel
theorem dd_M_write_213 : decode cc_M_write 213 = .ok (.ireturn, 1) := by decide +kernel
theorem dd_M_eat_0 : decode cc_M_eat 0 = .ok (.aload_n 0, 1) := by decide +kernel
theorem dd_M_eat_1 : decode cc_M_eat 1 = .ok (.getfield 132, 3) := by decide +kernel
theorem dd_M_eat_4 : decode cc_M_eat 4 = .ok (.istore_n 2, 1) := by decide +kernel
theorem dd_M_eat_5 : decode cc_M_eat 5 = .ok (.iconst 0, 1) := by decide +kernel
theorem dd_M_eat_6 : decode cc_M_eat 6 = .ok (.istore_n 3, 1) := by decide +kernel
theorem dd_M_eat_7 : decode cc_M_eat 7 = .ok (.iload_n 1, 1) := by decide +kernel
theorem dd_M_eat_8 : decode cc_M_eat 8 = .ok (.iload_n 3, 1) := by decide +kernel
theorem dd_M_eat_9 : decode cc_M_eat 9 = .ok (.invokestatic 98, 3) := by decide +kernel
theorem dd_M_eat_12 : decode cc_M_eat 12 = .ok (.ifCond .eq 36, 3) := by decide +kernel
theorem dd_M_eat_15 : decode cc_M_eat 15 = .ok (.iload_n 2, 1) := by decide +kernel
theorem dd_M_eat_16 : decode cc_M_eat 16 = .ok (.aload_n 0, 1) := by decide +kernel
theorem dd_M_eat_17 : decode cc_M_eat 17 = .ok (.getfield 135, 3) := by decide +kernel
theorem dd_M_eat_20 : decode cc_M_eat 20 = .ok (.if_icmp .ge 17, 3) := by decide +kernel
theorem dd_M_eat_23 : decode cc_M_eat 23 = .ok (.aload_n 0, 1) := by decide +kernel
theorem dd_M_eat_24 : decode cc_M_eat 24 = .ok (.getfield 33, 3) := by decide +kernel
theorem dd_M_eat_27 : decode cc_M_eat 27 = .ok (.iload_n 2, 1) := by decide +kernel
theorem dd_M_eat_28 : decode cc_M_eat 28 = .ok (.caload, 1) := by decide +kernel
theorem dd_M_eat_29 : decode cc_M_eat 29 = .ok (.iload_n 1, 1) := by decide +kernel
theorem dd_M_eat_30 : decode cc_M_eat 30 = .ok (.iload_n 3, 1) := by decide +kernel
theorem dd_M_eat_31 : decode cc_M_eat 31 = .ok (.invokestatic 98, 3) := by decide +kernel
theorem dd_M_eat_34 : decode cc_M_eat 34 = .ok (.if_icmp .eq 5, 3) := by decide +kernel
theorem dd_M_eat_37 : decode cc_M_eat 37 = .ok (.iconst 0, 1) := by decide +kernel
theorem dd_M_eat_38 : decode cc_M_eat 38 = .ok (.ireturn, 1) := by decide +kernel
theorem dd_M_eat_39 : decode cc_M_eat 39 = .ok (.iinc 2 1, 3) := by decide +kernel
theorem dd_M_eat_42 : decode cc_M_eat 42 = .ok (.iinc 3 1, 3) := by decide +kernel
theorem dd_M_eat_45 : decode cc_M_eat 45 = .ok (.goto (-38), 3) := by decide +kernel
theorem dd_M_eat_48 : decode cc_M_eat 48 = .ok (.aload_n 0, 1) := by decide +kernel
theorem dd_M_eat_49 : decode cc_M_eat 49 = .ok (.iload_n 2, 1) := by decide +kernel
theorem dd_M_eat_50 : decode cc_M_eat 50 = .ok (.putfield 132, 3) := by decide +kernel
theorem dd_M_eat_53 : decode cc_M_eat 53 = .ok (.iconst 1, 1) := by decide +kernel
theorem dd_M_eat_54 : decode cc_M_eat 54 = .ok (.ireturn, 1) := by decide +kernel
theorem dd_M_eatSpaces_0 : decode cc_M_eatSpaces 0 = .ok (.iconst 0, 1) := by decide +kernel
theorem dd_M_eatSpaces_1 : decode cc_M_eatSpaces 1 = .ok (.istore_n 2, 1) := by decide +kernel
theorem dd_M_eatSpaces_2 : decode cc_M_eatSpaces 2 = .ok (.iload_n 2, 1) := by decide +kernel
theorem dd_M_eatSpaces_3 : decode cc_M_eatSpaces 3 = .ok (.iconst 4, 1) := by decide +kernel
theorem dd_M_eatSpaces_4 : decode cc_M_eatSpaces 4 = .ok (.iload_n 1, 1) := by decide +kernel
theorem dd_M_eatSpaces_5 : decode cc_M_eatSpaces 5 = .ok (.imul, 1) := by decide +kernel
theorem dd_M_eatSpaces_6 : decode cc_M_eatSpaces 6 = .ok (.if_icmp .ge 46, 3) := by decide +kernel
theorem dd_M_eatSpaces_9 : decode cc_M_eatSpaces 9 = .ok (.aload_n 0, 1) := by decide +kernel
theorem dd_M_eatSpaces_10 : decode cc_M_eatSpaces 10 = .ok (.getfield 132, 3) := by decide +kernel
theorem dd_M_eatSpaces_13 : decode cc_M_eatSpaces 13 = .ok (.aload_n 0, 1) := by decide +kernel
theorem dd_M_eatSpaces_14 : decode cc_M_eatSpaces 14 = .ok (.getfield 135, 3) := by decide +kernel
theorem dd_M_eatSpaces_17 : decode cc_M_eatSpaces 17 = .ok (.if_icmp .ge 17, 3) := by decide +kernel
theorem dd_M_eatSpaces_20 : decode cc_M_eatSpaces 20 = .ok (.aload_n 0, 1) := by decide +kernel
theorem dd_M_eatSpaces_21 : decode cc_M_eatSpaces 21 = .ok (.getfield 33, 3) := by decide +kernel
theorem dd_M_eatSpaces_24 : decode cc_M_eatSpaces 24 = .ok (.aload_n 0, 1) := by decide +kernel
theorem dd_M_eatSpaces_25 : decode cc_M_eatSpaces 25 = .ok (.getfield 132, 3) := by decide +kernel
theorem dd_M_eatSpaces_28 : decode cc_M_eatSpaces 28 = .ok (.caload, 1) := by decide +kernel
theorem dd_M_eatSpaces_29 : decode cc_M_eatSpaces 29 = .ok (.bipush 32, 2) := by decide +kernel
theorem dd_M_eatSpaces_31 : decode cc_M_eatSpaces 31 = .ok (.if_icmp .eq 5, 3) := by decide +kernel
theorem dd_M_eatSpaces_34 : decode cc_M_eatSpaces 34 = .ok (.iconst 0, 1) := by decide +kernel
theorem dd_M_eatSpaces_35 : decode cc_M_eatSpaces 35 = .ok (.ireturn, 1) := by decide +kernel
theorem dd_M_eatSpaces_36 : decode cc_M_eatSpaces 36 = .ok (.aload_n 0, 1) := by decide +kernel
theorem dd_M_eatSpaces_37 : decode cc_M_eatSpaces 37 = .ok (.dup, 1) := by decide +kernel
theorem dd_M_eatSpaces_38 : decode cc_M_eatSpaces 38 = .ok (.getfield 132, 3) := by decide +kernel
theorem dd_M_eatSpaces_41 : decode cc_M_eatSpaces 41 = .ok (.iconst 1, 1) := by decide +kernel
theorem dd_M_eatSpaces_42 : decode cc_M_eatSpaces 42 = .ok (.iadd, 1) := by decide +kernel
theorem dd_M_eatSpaces_43 : decode cc_M_eatSpaces 43 = .ok (.putfield 132, 3) := by decide +kernel
theorem dd_M_eatSpaces_46 : decode cc_M_eatSpaces 46 = .ok (.iinc 2 1, 3) := by decide +kernel
theorem dd_M_eatSpaces_49 : decode cc_M_eatSpaces 49 = .ok (.goto (-47), 3) := by decide +kernel
theorem dd_M_eatSpaces_52 : decode cc_M_eatSpaces 52 = .ok (.iconst 1, 1) := by decide +kernel
theorem dd_M_eatSpaces_53 : decode cc_M_eatSpaces 53 = .ok (.ireturn, 1) := by decide +kernel
theorem dd_M_eatDigit_0 : decode cc_M_eatDigit 0 = .ok (.aload_n 0, 1) := by decide +kernel
theorem dd_M_eatDigit_1 : decode cc_M_eatDigit 1 = .ok (.getfield 132, 3) := by decide +kernel
theorem dd_M_eatDigit_4 : decode cc_M_eatDigit 4 = .ok (.aload_n 0, 1) := by decide +kernel
theorem dd_M_eatDigit_5 : decode cc_M_eatDigit 5 = .ok (.getfield 135, 3) := by decide +kernel
theorem dd_M_eatDigit_8 : decode cc_M_eatDigit 8 = .ok (.if_icmp .ge 19, 3) := by decide +kernel
theorem dd_M_eatDigit_11 : decode cc_M_eatDigit 11 = .ok (.aload_n 0, 1) := by decide +kernel
theorem dd_M_eatDigit_12 : decode cc_M_eatDigit 12 = .ok (.getfield 33, 3) := by decide +kernel
theorem dd_M_eatDigit_15 : decode cc_M_eatDigit 15 = .ok (.aload_n 0, 1) := by decide +kernel
theorem dd_M_eatDigit_16 : decode cc_M_eatDigit 16 = .ok (.getfield 132, 3) := by decide +kernel
theorem dd_M_eatDigit_19 : decode cc_M_eatDigit 19 = .ok (.caload, 1) := by decide +kernel
theorem dd_M_eatDigit_20 : decode cc_M_eatDigit 20 = .ok (.bipush 48, 2) := by decide +kernel
theorem dd_M_eatDigit_22 : decode cc_M_eatDigit 22 = .ok (.iload_n 1, 1) := by decide +kernel
theorem dd_M_eatDigit_23 : decode cc_M_eatDigit 23 = .ok (.iadd, 1) := by decide +kernel
theorem dd_M_eatDigit_24 : decode cc_M_eatDigit 24 = .ok (.if_icmp .eq 5, 3) := by decide +kernel
theorem dd_M_eatDigit_27 : decode cc_M_eatDigit 27 = .ok (.iconst 0, 1) := by decide +kernel
theorem dd_M_eatDigit_28 : decode cc_M_eatDigit 28 = .ok (.ireturn, 1) := by decide +kernel
theorem dd_M_eatDigit_29 : decode cc_M_eatDigit 29 = .ok (.aload_n 0, 1) := by decide +kernel
theorem dd_M_eatDigit_30 : decode cc_M_eatDigit 30 = .ok (.dup, 1) := by decide +kernel
theorem dd_M_eatDigit_31 : decode cc_M_eatDigit 31 = .ok (.getfield 132, 3) := by decide +kernel
theorem dd_M_eatDigit_34 : decode cc_M_eatDigit 34 = .ok (.iconst 1, 1) := by decide +kernel
theorem dd_M_eatDigit_35 : decode cc_M_eatDigit 35 = .ok (.iadd, 1) := by decide +kernel
theorem dd_M_eatDigit_36 : decode cc_M_eatDigit 36 = .ok (.putfield 132, 3) := by decide +kernel
theorem dd_M_eatDigit_39 : decode cc_M_eatDigit 39 = .ok (.iconst 1, 1) := by decide +kernel
theorem dd_M_eatDigit_40 : decode cc_M_eatDigit 40 = .ok (.ireturn, 1) := by decide +kernel
theorem dd_M_eatNumber_0 : decode cc_M_eatNumber 0 = .ok (.iload_n 1, 1) := by decide +kernel
theorem dd_M_eatNumber_1 : decode cc_M_eatNumber 1 = .ok (.bipush 10, 2) := by decide +kernel
theorem dd_M_eatNumber_3 : decode cc_M_eatNumber 3 = .ok (.if_icmp .lt 14, 3) := by decide +kernel
theorem dd_M_eatNumber_6 : decode cc_M_eatNumber 6 = .ok (.aload_n 0, 1) := by decide +kernel
theorem dd_M_eatNumber_7 : decode cc_M_eatNumber 7 = .ok (.iload_n 1, 1) := by decide +kernel
theorem dd_M_eatNumber_8 : decode cc_M_eatNumber 8 = .ok (.bipush 10, 2) := by decide +kernel
theorem dd_M_eatNumber_10 : decode cc_M_eatNumber 10 = .ok (.idiv, 1) := by decide +kernel
theorem dd_M_eatNumber_11 : decode cc_M_eatNumber 11 = .ok (.invokevirtual 138, 3) := by decide +kernel
theorem dd_M_eatNumber_14 : decode cc_M_eatNumber 14 = .ok (.ifCond .eq 18, 3) := by decide +kernel
theorem dd_M_eatNumber_17 : decode cc_M_eatNumber 17 = .ok (.aload_n 0, 1) := by decide +kernel
theorem dd_M_eatNumber_18 : decode cc_M_eatNumber 18 = .ok (.iload_n 1, 1) := by decide +kernel
theorem dd_M_eatNumber_19 : decode cc_M_eatNumber 19 = .ok (.bipush 10, 2) := by decide +kernel
theorem dd_M_eatNumber_21 : decode cc_M_eatNumber 21 = .ok (.irem, 1) := by decide +kernel
theorem dd_M_eatNumber_22 : decode cc_M_eatNumber 22 = .ok (.invokevirtual 138, 3) := by decide +kernel
theorem dd_M_eatNumber_25 : decode cc_M_eatNumber 25 = .ok (.ifCond .eq 7, 3) := by decide +kernel
theorem dd_M_eatNumber_28 : decode cc_M_eatNumber 28 = .ok (.iconst 1, 1) := by decide +kernel
theorem dd_M_eatNumber_29 : decode cc_M_eatNumber 29 = .ok (.goto 4, 3) := by decide +kernel
theorem dd_M_eatNumber_32 : decode cc_M_eatNumber 32 = .ok (.iconst 0, 1) := by decide +kernel
theorem dd_M_eatNumber_33 : decode cc_M_eatNumber 33 = .ok (.ireturn, 1) := by decide +kernel
theorem dd_M_eatName_0 : decode cc_M_eatName 0 = .ok (.aload_n 0, 1) := by decide +kernel
theorem dd_M_eatName_1 : decode cc_M_eatName 1 = .ok (.iconst 0, 1) := by decide +kernel
theorem dd_M_eatName_2 : decode cc_M_eatName 2 = .ok (.putfield 141, 3) := by decide +kernel
theorem dd_M_eatName_5 : decode cc_M_eatName 5 = .ok (.aload_n 0, 1) := by decide +kernel
theorem dd_M_eatName_6 : decode cc_M_eatName 6 = .ok (.getfield 132, 3) := by decide +kernel
theorem dd_M_eatName_9 : decode cc_M_eatName 9 = .ok (.iload_n 1, 1) := by decide +kernel
theorem dd_M_eatName_10 : decode cc_M_eatName 10 = .ok (.if_icmp .ge 125, 3) := by decide +kernel
theorem dd_M_eatName_13 : decode cc_M_eatName 13 = .ok (.aload_n 0, 1) := by decide +kernel
theorem dd_M_eatName_14 : decode cc_M_eatName 14 = .ok (.getfield 141, 3) := by decide +kernel
theorem dd_M_eatName_17 : decode cc_M_eatName 17 = .ok (.bipush 6, 2) := by decide +kernel
theorem dd_M_eatName_19 : decode cc_M_eatName 19 = .ok (.if_icmp .ge 116, 3) := by decide +kernel
theorem dd_M_eatName_22 : decode cc_M_eatName 22 = .ok (.aload_n 0, 1) := by decide +kernel
theorem dd_M_eatName_23 : decode cc_M_eatName 23 = .ok (.getfield 33, 3) := by decide +kernel
theorem dd_M_eatName_26 : decode cc_M_eatName 26 = .ok (.aload_n 0, 1) := by decide +kernel
theorem dd_M_eatName_27 : decode cc_M_eatName 27 = .ok (.getfield 132, 3) := by decide +kernel
theorem dd_M_eatName_30 : decode cc_M_eatName 30 = .ok (.caload, 1) := by decide +kernel
theorem dd_M_eatName_31 : decode cc_M_eatName 31 = .ok (.istore_n 2, 1) := by decide +kernel
theorem dd_M_eatName_32 : decode cc_M_eatName 32 = .ok (.iload_n 2, 1) := by decide +kernel
theorem dd_M_eatName_33 : decode cc_M_eatName 33 = .ok (.bipush 35, 2) := by decide +kernel
theorem dd_M_eatName_35 : decode cc_M_eatName 35 = .ok (.if_icmp .ne 5, 3) := by decide +kernel
theorem dd_M_eatName_38 : decode cc_M_eatName 38 = .ok (.iconst 0, 1) := by decide +kernel
theorem dd_M_eatName_39 : decode cc_M_eatName 39 = .ok (.ireturn, 1) := by decide +kernel
theorem dd_M_eatName_40 : decode cc_M_eatName 40 = .ok (.iload_n 2, 1) := by decide +kernel
theorem dd_M_eatName_41 : decode cc_M_eatName 41 = .ok (.bipush 92, 2) := by decide +kernel
theorem dd_M_eatName_43 : decode cc_M_eatName 43 = .ok (.if_icmp .ne 51, 3) := by decide +kernel
theorem dd_M_eatName_46 : decode cc_M_eatName 46 = .ok (.aload_n 0, 1) := by decide +kernel
theorem dd_M_eatName_47 : decode cc_M_eatName 47 = .ok (.dup, 1) := by decide +kernel
theorem dd_M_eatName_48 : decode cc_M_eatName 48 = .ok (.getfield 132, 3) := by decide +kernel
theorem dd_M_eatName_51 : decode cc_M_eatName 51 = .ok (.iconst 1, 1) := by decide +kernel
theorem dd_M_eatName_52 : decode cc_M_eatName 52 = .ok (.iadd, 1) := by decide +kernel
theorem dd_M_eatName_53 : decode cc_M_eatName 53 = .ok (.putfield 132, 3) := by decide +kernel
theorem dd_M_eatName_56 : decode cc_M_eatName 56 = .ok (.aload_n 0, 1) := by decide +kernel
theorem dd_M_eatName_57 : decode cc_M_eatName 57 = .ok (.getfield 132, 3) := by decide +kernel
theorem dd_M_eatName_60 : decode cc_M_eatName 60 = .ok (.iload_n 1, 1) := by decide +kernel
theorem dd_M_eatName_61 : decode cc_M_eatName 61 = .ok (.if_icmp .ge 31, 3) := by decide +kernel
theorem dd_M_eatName_64 : decode cc_M_eatName 64 = .ok (.aload_n 0, 1) := by decide +kernel
theorem dd_M_eatName_65 : decode cc_M_eatName 65 = .ok (.getfield 33, 3) := by decide +kernel
theorem dd_M_eatName_68 : decode cc_M_eatName 68 = .ok (.aload_n 0, 1) := by decide +kernel
theorem dd_M_eatName_69 : decode cc_M_eatName 69 = .ok (.getfield 132, 3) := by decide +kernel
theorem dd_M_eatName_72 : decode cc_M_eatName 72 = .ok (.caload, 1) := by decide +kernel
theorem dd_M_eatName_73 : decode cc_M_eatName 73 = .ok (.bipush 92, 2) := by decide +kernel
theorem dd_M_eatName_75 : decode cc_M_eatName 75 = .ok (.if_icmp .eq 19, 3) := by decide +kernel
theorem dd_M_eatName_78 : decode cc_M_eatName 78 = .ok (.aload_n 0, 1) := by decide +kernel
theorem dd_M_eatName_79 : decode cc_M_eatName 79 = .ok (.getfield 33, 3) := by decide +kernel
theorem dd_M_eatName_82 : decode cc_M_eatName 82 = .ok (.aload_n 0, 1) := by decide +kernel
theorem dd_M_eatName_83 : decode cc_M_eatName 83 = .ok (.getfield 132, 3) := by decide +kernel
theorem dd_M_eatName_86 : decode cc_M_eatName 86 = .ok (.caload, 1) := by decide +kernel
theorem dd_M_eatName_87 : decode cc_M_eatName 87 = .ok (.bipush 35, 2) := by decide +kernel
theorem dd_M_eatName_89 : decode cc_M_eatName 89 = .ok (.if_icmp .eq 5, 3) := by decide +kernel
theorem dd_M_eatName_92 : decode cc_M_eatName 92 = .ok (.iconst 0, 1) := by decide +kernel
theorem dd_M_eatName_93 : decode cc_M_eatName 93 = .ok (.ireturn, 1) := by decide +kernel
theorem dd_M_eatName_94 : decode cc_M_eatName 94 = .ok (.aload_n 0, 1) := by decide +kernel
theorem dd_M_eatName_95 : decode cc_M_eatName 95 = .ok (.getfield 36, 3) := by decide +kernel
theorem dd_M_eatName_98 : decode cc_M_eatName 98 = .ok (.aload_n 0, 1) := by decide +kernel
theorem dd_M_eatName_99 : decode cc_M_eatName 99 = .ok (.getfield 141, 3) := by decide +kernel
theorem dd_M_eatName_102 : decode cc_M_eatName 102 = .ok (.aload_n 0, 1) := by decide +kernel
theorem dd_M_eatName_103 : decode cc_M_eatName 103 = .ok (.getfield 33, 3) := by decide +kernel
theorem dd_M_eatName_106 : decode cc_M_eatName 106 = .ok (.aload_n 0, 1) := by decide +kernel
theorem dd_M_eatName_107 : decode cc_M_eatName 107 = .ok (.getfield 132, 3) := by decide +kernel
theorem dd_M_eatName_110 : decode cc_M_eatName 110 = .ok (.caload, 1) := by decide +kernel
theorem dd_M_eatName_111 : decode cc_M_eatName 111 = .ok (.castore, 1) := by decide +kernel
theorem dd_M_eatName_112 : decode cc_M_eatName 112 = .ok (.aload_n 0, 1) := by decide +kernel
theorem dd_M_eatName_113 : decode cc_M_eatName 113 = .ok (.dup, 1) := by decide +kernel
theorem dd_M_eatName_114 : decode cc_M_eatName 114 = .ok (.getfield 141, 3) := by decide +kernel
theorem dd_M_eatName_117 : decode cc_M_eatName 117 = .ok (.iconst 1, 1) := by decide +kernel
theorem dd_M_eatName_118 : decode cc_M_eatName 118 = .ok (.iadd, 1) := by decide +kernel
theorem dd_M_eatName_119 : decode cc_M_eatName 119 = .ok (.putfield 141, 3) := by decide +kernel
theorem dd_M_eatName_122 : decode cc_M_eatName 122 = .ok (.aload_n 0, 1) := by decide +kernel
theorem dd_M_eatName_123 : decode cc_M_eatName 123 = .ok (.dup, 1) := by decide +kernel
theorem dd_M_eatName_124 : decode cc_M_eatName 124 = .ok (.getfield 132, 3) := by decide +kernel
theorem dd_M_eatName_127 : decode cc_M_eatName 127 = .ok (.iconst 1, 1) := by decide +kernel
theorem dd_M_eatName_128 : decode cc_M_eatName 128 = .ok (.iadd, 1) := by decide +kernel
theorem dd_M_eatName_129 : decode cc_M_eatName 129 = .ok (.putfield 132, 3) := by decide +kernel
theorem dd_M_eatName_132 : decode cc_M_eatName 132 = .ok (.goto (-127), 3) := by decide +kernel
theorem dd_M_eatName_135 : decode cc_M_eatName 135 = .ok (.aload_n 0, 1) := by decide +kernel
theorem dd_M_eatName_136 : decode cc_M_eatName 136 = .ok (.getfield 132, 3) := by decide +kernel
theorem dd_M_eatName_139 : decode cc_M_eatName 139 = .ok (.iload_n 1, 1) := by decide +kernel
theorem dd_M_eatName_140 : decode cc_M_eatName 140 = .ok (.if_icmp .ne 7, 3) := by decide +kernel
theorem dd_M_eatName_143 : decode cc_M_eatName 143 = .ok (.iconst 1, 1) := by decide +kernel
theorem dd_M_eatName_144 : decode cc_M_eatName 144 = .ok (.goto 4, 3) := by decide +kernel
theorem dd_M_eatName_147 : decode cc_M_eatName 147 = .ok (.iconst 0, 1) := by decide +kernel
theorem dd_M_eatName_148 : decode cc_M_eatName 148 = .ok (.ireturn, 1) := by decide +kernel
theorem dd_M_accept_0 : decode cc_M_accept 0 = .ok (.aload_n 0, 1) := by decide +kernel
theorem dd_M_accept_1 : decode cc_M_accept 1 = .ok (.getfield 13, 3) := by decide +kernel
theorem dd_M_accept_4 : decode cc_M_accept 4 = .ok (.iconst 1, 1) := by decide +kernel
theorem dd_M_accept_5 : decode cc_M_accept 5 = .ok (.iaload, 1) := by decide +kernel
theorem dd_M_accept_6 : decode cc_M_accept 6 = .ok (.bipush 24, 2) := by decide +kernel
theorem dd_M_accept_8 : decode cc_M_accept 8 = .ok (.if_icmp .ne 5, 3) := by decide +kernel
theorem dd_M_accept_11 : decode cc_M_accept 11 = .ok (.iconst 0, 1) := by decide +kernel
theorem dd_M_accept_12 : decode cc_M_accept 12 = .ok (.ireturn, 1) := by decide +kernel
theorem dd_M_accept_13 : decode cc_M_accept 13 = .ok (.aload_n 0, 1) := by decide +kernel
theorem dd_M_accept_14 : decode cc_M_accept 14 = .ok (.iconst 1, 1) := by decide +kernel
theorem dd_M_accept_15 : decode cc_M_accept 15 = .ok (.iload_n 1, 1) := by decide +kernel
theorem dd_M_accept_16 : decode cc_M_accept 16 = .ok (.invokevirtual 77, 3) := by decide +kernel
theorem dd_M_accept_19 : decode cc_M_accept 19 = .ok (.istore_n 2, 1) := by decide +kernel
theorem dd_M_accept_20 : decode cc_M_accept 20 = .ok (.aload_n 0, 1) := by decide +kernel
theorem dd_M_accept_21 : decode cc_M_accept 21 = .ok (.getfield 27, 3) := by decide +kernel
theorem dd_M_accept_24 : decode cc_M_accept 24 = .ok (.bipush 24, 2) := by decide +kernel
theorem dd_M_accept_26 : decode cc_M_accept 26 = .ok (.iload_n 2, 1) := by decide +kernel
theorem dd_M_accept_27 : decode cc_M_accept 27 = .ok (.iadd, 1) := by decide +kernel
theorem dd_M_accept_28 : decode cc_M_accept 28 = .ok (.aload_n 0, 1) := by decide +kernel
theorem dd_M_accept_29 : decode cc_M_accept 29 = .ok (.getfield 141, 3) := by decide +kernel
theorem dd_M_accept_32 : decode cc_M_accept 32 = .ok (.iastore, 1) := by decide +kernel
theorem dd_M_accept_33 : decode cc_M_accept 33 = .ok (.iconst 0, 1) := by decide +kernel
theorem dd_M_accept_34 : decode cc_M_accept 34 = .ok (.istore_n 3, 1) := by decide +kernel
theorem dd_M_accept_35 : decode cc_M_accept 35 = .ok (.iload_n 3, 1) := by decide +kernel
theorem dd_M_accept_36 : decode cc_M_accept 36 = .ok (.aload_n 0, 1) := by decide +kernel
theorem dd_M_accept_37 : decode cc_M_accept 37 = .ok (.getfield 141, 3) := by decide +kernel
theorem dd_M_accept_40 : decode cc_M_accept 40 = .ok (.if_icmp .ge 29, 3) := by decide +kernel
theorem dd_M_accept_43 : decode cc_M_accept 43 = .ok (.aload_n 0, 1) := by decide +kernel
theorem dd_M_accept_44 : decode cc_M_accept 44 = .ok (.getfield 30, 3) := by decide +kernel
theorem dd_M_accept_47 : decode cc_M_accept 47 = .ok (.bipush 6, 2) := by decide +kernel
theorem dd_M_accept_49 : decode cc_M_accept 49 = .ok (.bipush 24, 2) := by decide +kernel
theorem dd_M_accept_51 : decode cc_M_accept 51 = .ok (.iload_n 2, 1) := by decide +kernel
theorem dd_M_accept_52 : decode cc_M_accept 52 = .ok (.iadd, 1) := by decide +kernel
theorem dd_M_accept_53 : decode cc_M_accept 53 = .ok (.imul, 1) := by decide +kernel
theorem dd_M_accept_54 : decode cc_M_accept 54 = .ok (.iload_n 3, 1) := by decide +kernel
theorem dd_M_accept_55 : decode cc_M_accept 55 = .ok (.iadd, 1) := by decide +kernel
theorem dd_M_accept_56 : decode cc_M_accept 56 = .ok (.aload_n 0, 1) := by decide +kernel
theorem dd_M_accept_57 : decode cc_M_accept 57 = .ok (.getfield 36, 3) := by decide +kernel
theorem dd_M_accept_60 : decode cc_M_accept 60 = .ok (.iload_n 3, 1) := by decide +kernel
theorem dd_M_accept_61 : decode cc_M_accept 61 = .ok (.caload, 1) := by decide +kernel
theorem dd_M_accept_62 : decode cc_M_accept 62 = .ok (.castore, 1) := by decide +kernel
theorem dd_M_accept_63 : decode cc_M_accept 63 = .ok (.iinc 3 1, 3) := by decide +kernel
theorem dd_M_accept_66 : decode cc_M_accept 66 = .ok (.goto (-31), 3) := by decide +kernel
theorem dd_M_accept_69 : decode cc_M_accept 69 = .ok (.aload_n 0, 1) := by decide +kernel
theorem dd_M_accept_70 : decode cc_M_accept 70 = .ok (.iload_n 1, 1) := by decide +kernel
theorem dd_M_accept_71 : decode cc_M_accept 71 = .ok (.iconst 4, 1) := by decide +kernel
theorem dd_M_accept_72 : decode cc_M_accept 72 = .ok (.if_icmp .ne 7, 3) := by decide +kernel
theorem dd_M_accept_75 : decode cc_M_accept 75 = .ok (.iload_n 2, 1) := by decide +kernel
theorem dd_M_accept_76 : decode cc_M_accept 76 = .ok (.goto 7, 3) := by decide +kernel
theorem dd_M_accept_79 : decode cc_M_accept 79 = .ok (.aload_n 0, 1) := by decide +kernel
theorem dd_M_accept_80 : decode cc_M_accept 80 = .ok (.getfield 144, 3) := by decide +kernel
theorem dd_M_accept_83 : decode cc_M_accept 83 = .ok (.putfield 144, 3) := by decide +kernel
theorem dd_M_accept_86 : decode cc_M_accept 86 = .ok (.iconst 1, 1) := by decide +kernel
theorem dd_M_accept_87 : decode cc_M_accept 87 = .ok (.ireturn, 1) := by decide +kernel
theorem dd_M_isName_0 : decode cc_M_isName 0 = .ok (.aload_n 0, 1) := by decide +kernel
theorem dd_M_isName_1 : decode cc_M_isName 1 = .ok (.getfield 27, 3) := by decide +kernel
theorem dd_M_isName_4 : decode cc_M_isName 4 = .ok (.bipush 24, 2) := by decide +kernel
theorem dd_M_isName_6 : decode cc_M_isName 6 = .ok (.iload_n 1, 1) := by decide +kernel
theorem dd_M_isName_7 : decode cc_M_isName 7 = .ok (.iadd, 1) := by decide +kernel
theorem dd_M_isName_8 : decode cc_M_isName 8 = .ok (.iaload, 1) := by decide +kernel
theorem dd_M_isName_9 : decode cc_M_isName 9 = .ok (.aload_n 0, 1) := by decide +kernel
theorem dd_M_isName_10 : decode cc_M_isName 10 = .ok (.getfield 141, 3) := by decide +kernel
theorem dd_M_isName_13 : decode cc_M_isName 13 = .ok (.if_icmp .ne 7, 3) := by decide +kernel
theorem dd_M_isName_16 : decode cc_M_isName 16 = .ok (.iconst 1, 1) := by decide +kernel
theorem dd_M_isName_17 : decode cc_M_isName 17 = .ok (.goto 4, 3) := by decide +kernel
theorem dd_M_isName_20 : decode cc_M_isName 20 = .ok (.iconst 0, 1) := by decide +kernel
theorem dd_M_isName_21 : decode cc_M_isName 21 = .ok (.istore_n 2, 1) := by decide +kernel
theorem dd_M_isName_22 : decode cc_M_isName 22 = .ok (.iconst 0, 1) := by decide +kernel
theorem dd_M_isName_23 : decode cc_M_isName 23 = .ok (.istore_n 3, 1) := by decide +kernel
theorem dd_M_isName_24 : decode cc_M_isName 24 = .ok (.iload_n 3, 1) := by decide +kernel
theorem dd_M_isName_25 : decode cc_M_isName 25 = .ok (.aload_n 0, 1) := by decide +kernel
theorem dd_M_isName_26 : decode cc_M_isName 26 = .ok (.getfield 141, 3) := by decide +kernel
theorem dd_M_isName_29 : decode cc_M_isName 29 = .ok (.if_icmp .ge 42, 3) := by decide +kernel
theorem dd_M_isName_32 : decode cc_M_isName 32 = .ok (.iload_n 2, 1) := by decide +kernel
theorem dd_M_isName_33 : decode cc_M_isName 33 = .ok (.ifCond .eq 38, 3) := by decide +kernel
theorem dd_M_isName_36 : decode cc_M_isName 36 = .ok (.aload_n 0, 1) := by decide +kernel
theorem dd_M_isName_37 : decode cc_M_isName 37 = .ok (.getfield 30, 3) := by decide +kernel
theorem dd_M_isName_40 : decode cc_M_isName 40 = .ok (.bipush 6, 2) := by decide +kernel
theorem dd_M_isName_42 : decode cc_M_isName 42 = .ok (.bipush 24, 2) := by decide +kernel
theorem dd_M_isName_44 : decode cc_M_isName 44 = .ok (.iload_n 1, 1) := by decide +kernel
theorem dd_M_isName_45 : decode cc_M_isName 45 = .ok (.iadd, 1) := by decide +kernel
theorem dd_M_isName_46 : decode cc_M_isName 46 = .ok (.imul, 1) := by decide +kernel
theorem dd_M_isName_47 : decode cc_M_isName 47 = .ok (.iload_n 3, 1) := by decide +kernel
theorem dd_M_isName_48 : decode cc_M_isName 48 = .ok (.iadd, 1) := by decide +kernel
theorem dd_M_isName_49 : decode cc_M_isName 49 = .ok (.caload, 1) := by decide +kernel
theorem dd_M_isName_50 : decode cc_M_isName 50 = .ok (.aload_n 0, 1) := by decide +kernel
theorem dd_M_isName_51 : decode cc_M_isName 51 = .ok (.getfield 36, 3) := by decide +kernel
theorem dd_M_isName_54 : decode cc_M_isName 54 = .ok (.iload_n 3, 1) := by decide +kernel
theorem dd_M_isName_55 : decode cc_M_isName 55 = .ok (.caload, 1) := by decide +kernel
theorem dd_M_isName_56 : decode cc_M_isName 56 = .ok (.if_icmp .ne 7, 3) := by decide +kernel
theorem dd_M_isName_59 : decode cc_M_isName 59 = .ok (.iconst 1, 1) := by decide +kernel
theorem dd_M_isName_60 : decode cc_M_isName 60 = .ok (.goto 4, 3) := by decide +kernel
theorem dd_M_isName_63 : decode cc_M_isName 63 = .ok (.iconst 0, 1) := by decide +kernel
theorem dd_M_isName_64 : decode cc_M_isName 64 = .ok (.istore_n 2, 1) := by decide +kernel
theorem dd_M_isName_65 : decode cc_M_isName 65 = .ok (.iinc 3 1, 3) := by decide +kernel
theorem dd_M_isName_68 : decode cc_M_isName 68 = .ok (.goto (-44), 3) := by decide +kernel
theorem dd_M_isName_71 : decode cc_M_isName 71 = .ok (.iload_n 2, 1) := by decide +kernel
theorem dd_M_isName_72 : decode cc_M_isName 72 = .ok (.ireturn, 1) := by decide +kernel
theorem dd_M_closing_0 : decode cc_M_closing 0 = .ok (.aload_n 0, 1) := by decide +kernel
theorem dd_M_closing_1 : decode cc_M_closing 1 = .ok (.iconst 1, 1) := by decide +kernel
theorem dd_M_closing_2 : decode cc_M_closing 2 = .ok (.aload_n 0, 1) := by decide +kernel
theorem dd_M_closing_3 : decode cc_M_closing 3 = .ok (.getfield 144, 3) := by decide +kernel
theorem dd_M_closing_6 : decode cc_M_closing 6 = .ok (.invokevirtual 81, 3) := by decide +kernel
theorem dd_M_closing_9 : decode cc_M_closing 9 = .ok (.istore_n 1, 1) := by decide +kernel
