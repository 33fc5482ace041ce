theorem dd_V_put_8 : decode cc_V_put 8 = .ok (.getfield 10, 3) := by decide +kernel
theorem dd_V_put_11 : decode cc_V_put 11 = .ok (.iload_n 1, 1) := by decide +kernel
theorem dd_V_put_12 : decode cc_V_put 12 = .ok (.invokevirtual 103, 3) := by decide +kernel
theorem dd_V_put_15 : decode cc_V_put 15 = .ok (.ifCond .eq 7, 3) := by decide +kernel
theorem dd_V_put_18 : decode cc_V_put 18 = .ok (.iconst 1, 1) := by decide +kernel
theorem dd_V_put_19 : decode cc_V_put 19 = .ok (.goto 4, 3) := by decide +kernel
theorem dd_V_put_22 : decode cc_V_put 22 = .ok (.iconst 0, 1) := by decide +kernel
theorem dd_V_put_23 : decode cc_V_put 23 = .ok (.ireturn, 1) := by decide +kernel
theorem dd_V_poke_0 : decode cc_V_poke 0 = .ok (.iload_n 2, 1) := by decide +kernel
theorem dd_V_poke_1 : decode cc_V_poke 1 = .ok (.invokestatic 100, 3) := by decide +kernel
theorem dd_V_poke_4 : decode cc_V_poke 4 = .ok (.ifCond .eq 19, 3) := by decide +kernel
theorem dd_V_poke_7 : decode cc_V_poke 7 = .ok (.aload_n 0, 1) := by decide +kernel
theorem dd_V_poke_8 : decode cc_V_poke 8 = .ok (.getfield 10, 3) := by decide +kernel
theorem dd_V_poke_11 : decode cc_V_poke 11 = .ok (.iload_n 1, 1) := by decide +kernel
theorem dd_V_poke_12 : decode cc_V_poke 12 = .ok (.iload_n 2, 1) := by decide +kernel
theorem dd_V_poke_13 : decode cc_V_poke 13 = .ok (.invokevirtual 106, 3) := by decide +kernel
theorem dd_V_poke_16 : decode cc_V_poke 16 = .ok (.ifCond .eq 7, 3) := by decide +kernel
theorem dd_V_poke_19 : decode cc_V_poke 19 = .ok (.iconst 1, 1) := by decide +kernel
theorem dd_V_poke_20 : decode cc_V_poke 20 = .ok (.goto 4, 3) := by decide +kernel
theorem dd_V_poke_23 : decode cc_V_poke 23 = .ok (.iconst 0, 1) := by decide +kernel
theorem dd_V_poke_24 : decode cc_V_poke 24 = .ok (.ireturn, 1) := by decide +kernel
theorem dd_E_takeTest_0 : decode cc_E_takeTest 0 = .ok (.aload_n 0, 1) := by decide +kernel
theorem dd_E_takeTest_1 : decode cc_E_takeTest 1 = .ok (.getfield 19, 3) := by decide +kernel
theorem dd_E_takeTest_4 : decode cc_E_takeTest 4 = .ok (.aload_n 0, 1) := by decide +kernel
theorem dd_E_takeTest_5 : decode cc_E_takeTest 5 = .ok (.getfield 19, 3) := by decide +kernel
theorem dd_E_takeTest_8 : decode cc_E_takeTest 8 = .ok (.invokevirtual 67, 3) := by decide +kernel
theorem dd_E_takeTest_11 : decode cc_E_takeTest 11 = .ok (.invokevirtual 70, 3) := by decide +kernel
theorem dd_E_takeTest_14 : decode cc_E_takeTest 14 = .ok (.iconst 1, 1) := by decide +kernel
theorem dd_E_takeTest_15 : decode cc_E_takeTest 15 = .ok (.iadd, 1) := by decide +kernel
theorem dd_E_takeTest_16 : decode cc_E_takeTest 16 = .ok (.istore 4, 2) := by decide +kernel
theorem dd_E_takeTest_18 : decode cc_E_takeTest 18 = .ok (.aload_n 0, 1) := by decide +kernel
theorem dd_E_takeTest_19 : decode cc_E_takeTest 19 = .ok (.getfield 15, 3) := by decide +kernel
theorem dd_E_takeTest_22 : decode cc_E_takeTest 22 = .ok (.iload 4, 2) := by decide +kernel
theorem dd_E_takeTest_24 : decode cc_E_takeTest 24 = .ok (.invokevirtual 74, 3) := by decide +kernel
theorem dd_E_takeTest_27 : decode cc_E_takeTest 27 = .ok (.ifCond .eq 15, 3) := by decide +kernel
theorem dd_E_takeTest_30 : decode cc_E_takeTest 30 = .ok (.aload_n 0, 1) := by decide +kernel
theorem dd_E_takeTest_31 : decode cc_E_takeTest 31 = .ok (.getfield 15, 3) := by decide +kernel
theorem dd_E_takeTest_34 : decode cc_E_takeTest 34 = .ok (.ldc 99, 2) := by decide +kernel
theorem dd_E_takeTest_36 : decode cc_E_takeTest 36 = .ok (.invokevirtual 45, 3) := by decide +kernel
theorem dd_E_takeTest_39 : decode cc_E_takeTest 39 = .ok (.ifCond .ne 5, 3) := by decide +kernel
theorem dd_E_takeTest_42 : decode cc_E_takeTest 42 = .ok (.iconst 0, 1) := by decide +kernel
theorem dd_E_takeTest_43 : decode cc_E_takeTest 43 = .ok (.ireturn, 1) := by decide +kernel
theorem dd_E_takeTest_44 : decode cc_E_takeTest 44 = .ok (.aload_n 0, 1) := by decide +kernel
theorem dd_E_takeTest_45 : decode cc_E_takeTest 45 = .ok (.getfield 15, 3) := by decide +kernel
theorem dd_E_takeTest_48 : decode cc_E_takeTest 48 = .ok (.invokevirtual 79, 3) := by decide +kernel
theorem dd_E_takeTest_51 : decode cc_E_takeTest 51 = .ok (.lstore 5, 2) := by decide +kernel
theorem dd_E_takeTest_53 : decode cc_E_takeTest 53 = .ok (.aload_n 0, 1) := by decide +kernel
theorem dd_E_takeTest_54 : decode cc_E_takeTest 54 = .ok (.getfield 15, 3) := by decide +kernel
theorem dd_E_takeTest_57 : decode cc_E_takeTest 57 = .ok (.aload_n 2, 1) := by decide +kernel
theorem dd_E_takeTest_58 : decode cc_E_takeTest 58 = .ok (.invokevirtual 45, 3) := by decide +kernel
theorem dd_E_takeTest_61 : decode cc_E_takeTest 61 = .ok (.ifCond .eq 7, 3) := by decide +kernel
theorem dd_E_takeTest_64 : decode cc_E_takeTest 64 = .ok (.iload_n 3, 1) := by decide +kernel
theorem dd_E_takeTest_65 : decode cc_E_takeTest 65 = .ok (.goto 4, 3) := by decide +kernel
theorem dd_E_takeTest_68 : decode cc_E_takeTest 68 = .ok (.iload_n 1, 1) := by decide +kernel
theorem dd_E_takeTest_69 : decode cc_E_takeTest 69 = .ok (.istore 7, 2) := by decide +kernel
theorem dd_E_takeTest_71 : decode cc_E_takeTest 71 = .ok (.aload_n 0, 1) := by decide +kernel
theorem dd_E_takeTest_72 : decode cc_E_takeTest 72 = .ok (.getfield 19, 3) := by decide +kernel
theorem dd_E_takeTest_75 : decode cc_E_takeTest 75 = .ok (.iload 7, 2) := by decide +kernel
theorem dd_E_takeTest_77 : decode cc_E_takeTest 77 = .ok (.lload 5, 2) := by decide +kernel
theorem dd_E_takeTest_79 : decode cc_E_takeTest 79 = .ok (.invokevirtual 83, 3) := by decide +kernel
theorem dd_E_takeTest_82 : decode cc_E_takeTest 82 = .ok (.ifCond .lt 7, 3) := by decide +kernel
theorem dd_E_takeTest_85 : decode cc_E_takeTest 85 = .ok (.iconst 1, 1) := by decide +kernel
theorem dd_E_takeTest_86 : decode cc_E_takeTest 86 = .ok (.goto 4, 3) := by decide +kernel
theorem dd_E_takeTest_89 : decode cc_E_takeTest 89 = .ok (.iconst 0, 1) := by decide +kernel
theorem dd_E_takeTest_90 : decode cc_E_takeTest 90 = .ok (.ireturn, 1) := by decide +kernel
theorem dd_E_takeSuiteEnd_0 : decode cc_E_takeSuiteEnd 0 = .ok (.aload_n 0, 1) := by decide +kernel
theorem dd_E_takeSuiteEnd_1 : decode cc_E_takeSuiteEnd 1 = .ok (.getfield 19, 3) := by decide +kernel
theorem dd_E_takeSuiteEnd_4 : decode cc_E_takeSuiteEnd 4 = .ok (.invokevirtual 67, 3) := by decide +kernel
theorem dd_E_takeSuiteEnd_7 : decode cc_E_takeSuiteEnd 7 = .ok (.istore_n 1, 1) := by decide +kernel
theorem dd_E_takeSuiteEnd_8 : decode cc_E_takeSuiteEnd 8 = .ok (.aload_n 0, 1) := by decide +kernel
theorem dd_E_takeSuiteEnd_9 : decode cc_E_takeSuiteEnd 9 = .ok (.getfield 19, 3) := by decide +kernel
theorem dd_E_takeSuiteEnd_12 : decode cc_E_takeSuiteEnd 12 = .ok (.invokevirtual 101, 3) := by decide +kernel
theorem dd_E_takeSuiteEnd_15 : decode cc_E_takeSuiteEnd 15 = .ok (.pop, 1) := by decide +kernel
theorem dd_E_takeSuiteEnd_16 : decode cc_E_takeSuiteEnd 16 = .ok (.aload_n 0, 1) := by decide +kernel
theorem dd_E_takeSuiteEnd_17 : decode cc_E_takeSuiteEnd 17 = .ok (.getfield 15, 3) := by decide +kernel
theorem dd_E_takeSuiteEnd_20 : decode cc_E_takeSuiteEnd 20 = .ok (.aload_n 0, 1) := by decide +kernel
theorem dd_E_takeSuiteEnd_21 : decode cc_E_takeSuiteEnd 21 = .ok (.getfield 19, 3) := by decide +kernel
theorem dd_E_takeSuiteEnd_24 : decode cc_E_takeSuiteEnd 24 = .ok (.iload_n 1, 1) := by decide +kernel
theorem dd_E_takeSuiteEnd_25 : decode cc_E_takeSuiteEnd 25 = .ok (.invokevirtual 104, 3) := by decide +kernel
theorem dd_E_takeSuiteEnd_28 : decode cc_E_takeSuiteEnd 28 = .ok (.invokevirtual 61, 3) := by decide +kernel
theorem dd_E_takeSuiteEnd_31 : decode cc_E_takeSuiteEnd 31 = .ok (.ifCond .eq 85, 3) := by decide +kernel
theorem dd_E_takeSuiteEnd_34 : decode cc_E_takeSuiteEnd 34 = .ok (.aload_n 0, 1) := by decide +kernel
theorem dd_E_takeSuiteEnd_35 : decode cc_E_takeSuiteEnd 35 = .ok (.getfield 15, 3) := by decide +kernel
theorem dd_E_takeSuiteEnd_38 : decode cc_E_takeSuiteEnd 38 = .ok (.aload_n 0, 1) := by decide +kernel
theorem dd_E_takeSuiteEnd_39 : decode cc_E_takeSuiteEnd 39 = .ok (.getfield 19, 3) := by decide +kernel
theorem dd_E_takeSuiteEnd_42 : decode cc_E_takeSuiteEnd 42 = .ok (.iload_n 1, 1) := by decide +kernel
theorem dd_E_takeSuiteEnd_43 : decode cc_E_takeSuiteEnd 43 = .ok (.invokevirtual 107, 3) := by decide +kernel
theorem dd_E_takeSuiteEnd_46 : decode cc_E_takeSuiteEnd 46 = .ok (.iconst 4, 1) := by decide +kernel
theorem dd_E_takeSuiteEnd_47 : decode cc_E_takeSuiteEnd 47 = .ok (.if_icmp .ne 8, 3) := by decide +kernel
theorem dd_E_takeSuiteEnd_50 : decode cc_E_takeSuiteEnd 50 = .ok (.ldc 87, 2) := by decide +kernel
theorem dd_E_takeSuiteEnd_52 : decode cc_E_takeSuiteEnd 52 = .ok (.goto 5, 3) := by decide +kernel
theorem dd_E_takeSuiteEnd_55 : decode cc_E_takeSuiteEnd 55 = .ok (.ldc 95, 2) := by decide +kernel
theorem dd_E_takeSuiteEnd_57 : decode cc_E_takeSuiteEnd 57 = .ok (.invokevirtual 45, 3) := by decide +kernel
theorem dd_E_takeSuiteEnd_60 : decode cc_E_takeSuiteEnd 60 = .ok (.ifCond .eq 56, 3) := by decide +kernel
theorem dd_E_takeSuiteEnd_63 : decode cc_E_takeSuiteEnd 63 = .ok (.aload_n 0, 1) := by decide +kernel
theorem dd_E_takeSuiteEnd_64 : decode cc_E_takeSuiteEnd 64 = .ok (.getfield 15, 3) := by decide +kernel
theorem dd_E_takeSuiteEnd_67 : decode cc_E_takeSuiteEnd 67 = .ok (.aload_n 0, 1) := by decide +kernel
theorem dd_E_takeSuiteEnd_68 : decode cc_E_takeSuiteEnd 68 = .ok (.getfield 19, 3) := by decide +kernel
theorem dd_E_takeSuiteEnd_71 : decode cc_E_takeSuiteEnd 71 = .ok (.iload_n 1, 1) := by decide +kernel
theorem dd_E_takeSuiteEnd_72 : decode cc_E_takeSuiteEnd 72 = .ok (.invokevirtual 110, 3) := by decide +kernel
theorem dd_E_takeSuiteEnd_75 : decode cc_E_takeSuiteEnd 75 = .ok (.invokevirtual 74, 3) := by decide +kernel
theorem dd_E_takeSuiteEnd_78 : decode cc_E_takeSuiteEnd 78 = .ok (.ifCond .eq 38, 3) := by decide +kernel
theorem dd_E_takeSuiteEnd_81 : decode cc_E_takeSuiteEnd 81 = .ok (.aload_n 0, 1) := by decide +kernel
theorem dd_E_takeSuiteEnd_82 : decode cc_E_takeSuiteEnd 82 = .ok (.getfield 15, 3) := by decide +kernel
theorem dd_E_takeSuiteEnd_85 : decode cc_E_takeSuiteEnd 85 = .ok (.ldc 99, 2) := by decide +kernel
theorem dd_E_takeSuiteEnd_87 : decode cc_E_takeSuiteEnd 87 = .ok (.invokevirtual 45, 3) := by decide +kernel
theorem dd_E_takeSuiteEnd_90 : decode cc_E_takeSuiteEnd 90 = .ok (.ifCond .eq 26, 3) := by decide +kernel
theorem dd_E_takeSuiteEnd_93 : decode cc_E_takeSuiteEnd 93 = .ok (.aload_n 0, 1) := by decide +kernel
theorem dd_E_takeSuiteEnd_94 : decode cc_E_takeSuiteEnd 94 = .ok (.getfield 15, 3) := by decide +kernel
theorem dd_E_takeSuiteEnd_97 : decode cc_E_takeSuiteEnd 97 = .ok (.invokevirtual 79, 3) := by decide +kernel
theorem dd_E_takeSuiteEnd_100 : decode cc_E_takeSuiteEnd 100 = .ok (.aload_n 0, 1) := by decide +kernel
theorem dd_E_takeSuiteEnd_101 : decode cc_E_takeSuiteEnd 101 = .ok (.getfield 19, 3) := by decide +kernel
theorem dd_E_takeSuiteEnd_104 : decode cc_E_takeSuiteEnd 104 = .ok (.iload_n 1, 1) := by decide +kernel
theorem dd_E_takeSuiteEnd_105 : decode cc_E_takeSuiteEnd 105 = .ok (.invokevirtual 113, 3) := by decide +kernel
theorem dd_E_takeSuiteEnd_108 : decode cc_E_takeSuiteEnd 108 = .ok (.lcmp, 1) := by decide +kernel
theorem dd_E_takeSuiteEnd_109 : decode cc_E_takeSuiteEnd 109 = .ok (.ifCond .ne 7, 3) := by decide +kernel
theorem dd_E_takeSuiteEnd_112 : decode cc_E_takeSuiteEnd 112 = .ok (.iconst 1, 1) := by decide +kernel
theorem dd_E_takeSuiteEnd_113 : decode cc_E_takeSuiteEnd 113 = .ok (.goto 4, 3) := by decide +kernel
theorem dd_E_takeSuiteEnd_116 : decode cc_E_takeSuiteEnd 116 = .ok (.iconst 0, 1) := by decide +kernel
theorem dd_E_takeSuiteEnd_117 : decode cc_E_takeSuiteEnd 117 = .ok (.ireturn, 1) := by decide +kernel
theorem dd_W_writePlan_0 : decode cc_W_writePlan 0 = .ok (.aload_n 0, 1) := by decide +kernel
theorem dd_W_writePlan_1 : decode cc_W_writePlan 1 = .ok (.getfield 9, 3) := by decide +kernel
theorem dd_W_writePlan_4 : decode cc_W_writePlan 4 = .ok (.aload_n 0, 1) := by decide +kernel
theorem dd_W_writePlan_5 : decode cc_W_writePlan 5 = .ok (.getfield 15, 3) := by decide +kernel
theorem dd_W_writePlan_8 : decode cc_W_writePlan 8 = .ok (.iload_n 1, 1) := by decide +kernel
theorem dd_W_writePlan_9 : decode cc_W_writePlan 9 = .ok (.invokevirtual 73, 3) := by decide +kernel
theorem dd_W_writePlan_12 : decode cc_W_writePlan 12 = .ok (.invokevirtual 76, 3) := by decide +kernel
theorem dd_W_writePlan_15 : decode cc_W_writePlan 15 = .ok (.aload_n 0, 1) := by decide +kernel
theorem dd_W_writePlan_16 : decode cc_W_writePlan 16 = .ok (.getfield 9, 3) := by decide +kernel
theorem dd_W_writePlan_19 : decode cc_W_writePlan 19 = .ok (.ldc 79, 2) := by decide +kernel
theorem dd_W_writePlan_21 : decode cc_W_writePlan 21 = .ok (.invokevirtual 27, 3) := by decide +kernel
theorem dd_W_writePlan_24 : decode cc_W_writePlan 24 = .ok (.aload_n 0, 1) := by decide +kernel
theorem dd_W_writePlan_25 : decode cc_W_writePlan 25 = .ok (.getfield 9, 3) := by decide +kernel
theorem dd_W_writePlan_28 : decode cc_W_writePlan 28 = .ok (.aload_n 0, 1) := by decide +kernel
theorem dd_W_writePlan_29 : decode cc_W_writePlan 29 = .ok (.getfield 15, 3) := by decide +kernel
theorem dd_W_writePlan_32 : decode cc_W_writePlan 32 = .ok (.iload_n 1, 1) := by decide +kernel
theorem dd_W_writePlan_33 : decode cc_W_writePlan 33 = .ok (.invokevirtual 81, 3) := by decide +kernel
theorem dd_W_writePlan_36 : decode cc_W_writePlan 36 = .ok (.invokevirtual 84, 3) := by decide +kernel
theorem dd_W_writePlan_39 : decode cc_W_writePlan 39 = .ok (.aload_n 0, 1) := by decide +kernel
theorem dd_W_writePlan_40 : decode cc_W_writePlan 40 = .ok (.getfield 9, 3) := by decide +kernel
theorem dd_W_writePlan_43 : decode cc_W_writePlan 43 = .ok (.bipush 10, 2) := by decide +kernel
theorem dd_W_writePlan_45 : decode cc_W_writePlan 45 = .ok (.invokevirtual 31, 3) := by decide +kernel
theorem dd_W_writePlan_48 : decode cc_W_writePlan 48 = .ok (.pop, 1) := by decide +kernel
theorem dd_W_writePlan_49 : decode cc_W_writePlan 49 = .ok (.return_, 1) := by decide +kernel
theorem dd_W_writeVerdict_0 : decode cc_W_writeVerdict 0 = .ok (.aload_n 0, 1) := by decide +kernel
theorem dd_W_writeVerdict_1 : decode cc_W_writeVerdict 1 = .ok (.getfield 15, 3) := by decide +kernel
theorem dd_W_writeVerdict_4 : decode cc_W_writeVerdict 4 = .ok (.iload_n 1, 1) := by decide +kernel
theorem dd_W_writeVerdict_5 : decode cc_W_writeVerdict 5 = .ok (.invokevirtual 100, 3) := by decide +kernel
theorem dd_W_writeVerdict_8 : decode cc_W_writeVerdict 8 = .ok (.istore_n 2, 1) := by decide +kernel
theorem dd_W_writeVerdict_9 : decode cc_W_writeVerdict 9 = .ok (.aload_n 0, 1) := by decide +kernel
theorem dd_W_writeVerdict_10 : decode cc_W_writeVerdict 10 = .ok (.getfield 9, 3) := by decide +kernel
theorem dd_W_writeVerdict_13 : decode cc_W_writeVerdict 13 = .ok (.aload_n 0, 1) := by decide +kernel
theorem dd_W_writeVerdict_14 : decode cc_W_writeVerdict 14 = .ok (.getfield 15, 3) := by decide +kernel
theorem dd_W_writeVerdict_17 : decode cc_W_writeVerdict 17 = .ok (.iload_n 1, 1) := by decide +kernel
theorem dd_W_writeVerdict_18 : decode cc_W_writeVerdict 18 = .ok (.invokevirtual 87, 3) := by decide +kernel
theorem dd_W_writeVerdict_21 : decode cc_W_writeVerdict 21 = .ok (.invokevirtual 76, 3) := by decide +kernel
theorem dd_W_writeVerdict_24 : decode cc_W_writeVerdict 24 = .ok (.aload_n 0, 1) := by decide +kernel
theorem dd_W_writeVerdict_25 : decode cc_W_writeVerdict 25 = .ok (.getfield 9, 3) := by decide +kernel
theorem dd_W_writeVerdict_28 : decode cc_W_writeVerdict 28 = .ok (.iload_n 2, 1) := by decide +kernel
theorem dd_W_writeVerdict_29 : decode cc_W_writeVerdict 29 = .ok (.invokestatic 103, 3) := by decide +kernel
theorem dd_W_writeVerdict_32 : decode cc_W_writeVerdict 32 = .ok (.invokevirtual 27, 3) := by decide +kernel
theorem dd_W_writeVerdict_35 : decode cc_W_writeVerdict 35 = .ok (.aload_n 0, 1) := by decide +kernel
theorem dd_W_writeVerdict_36 : decode cc_W_writeVerdict 36 = .ok (.getfield 9, 3) := by decide +kernel
theorem dd_W_writeVerdict_39 : decode cc_W_writeVerdict 39 = .ok (.aload_n 0, 1) := by decide +kernel
theorem dd_W_writeVerdict_40 : decode cc_W_writeVerdict 40 = .ok (.getfield 15, 3) := by decide +kernel
theorem dd_W_writeVerdict_43 : decode cc_W_writeVerdict 43 = .ok (.iload_n 1, 1) := by decide +kernel
theorem dd_W_writeVerdict_44 : decode cc_W_writeVerdict 44 = .ok (.invokevirtual 107, 3) := by decide +kernel
theorem dd_W_writeVerdict_47 : decode cc_W_writeVerdict 47 = .ok (.invokevirtual 84, 3) := by decide +kernel
theorem dd_W_writeVerdict_50 : decode cc_W_writeVerdict 50 = .ok (.aload_n 0, 1) := by decide +kernel
theorem dd_W_writeVerdict_51 : decode cc_W_writeVerdict 51 = .ok (.getfield 9, 3) := by decide +kernel
theorem dd_W_writeVerdict_54 : decode cc_W_writeVerdict 54 = .ok (.ldc 110, 2) := by decide +kernel
theorem dd_W_writeVerdict_56 : decode cc_W_writeVerdict 56 = .ok (.invokevirtual 27, 3) := by decide +kernel
theorem dd_W_writeVerdict_59 : decode cc_W_writeVerdict 59 = .ok (.aload_n 0, 1) := by decide +kernel
theorem dd_W_writeVerdict_60 : decode cc_W_writeVerdict 60 = .ok (.getfield 9, 3) := by decide +kernel
theorem dd_W_writeVerdict_63 : decode cc_W_writeVerdict 63 = .ok (.aload_n 0, 1) := by decide +kernel
theorem dd_W_writeVerdict_64 : decode cc_W_writeVerdict 64 = .ok (.getfield 15, 3) := by decide +kernel
theorem dd_W_writeVerdict_67 : decode cc_W_writeVerdict 67 = .ok (.iload_n 1, 1) := by decide +kernel
theorem dd_W_writeVerdict_68 : decode cc_W_writeVerdict 68 = .ok (.invokevirtual 92, 3) := by decide +kernel
theorem dd_W_writeVerdict_71 : decode cc_W_writeVerdict 71 = .ok (.invokevirtual 96, 3) := by decide +kernel
theorem dd_W_writeVerdict_74 : decode cc_W_writeVerdict 74 = .ok (.aload_n 0, 1) := by decide +kernel
theorem dd_W_writeVerdict_75 : decode cc_W_writeVerdict 75 = .ok (.getfield 9, 3) := by decide +kernel
theorem dd_W_writeVerdict_78 : decode cc_W_writeVerdict 78 = .ok (.iload_n 2, 1) := by decide +kernel
theorem dd_W_writeVerdict_79 : decode cc_W_writeVerdict 79 = .ok (.invokestatic 112, 3) := by decide +kernel
theorem dd_W_writeVerdict_82 : decode cc_W_writeVerdict 82 = .ok (.invokevirtual 27, 3) := by decide +kernel
theorem dd_W_writeVerdict_85 : decode cc_W_writeVerdict 85 = .ok (.aload_n 0, 1) := by decide +kernel
theorem dd_W_writeVerdict_86 : decode cc_W_writeVerdict 86 = .ok (.getfield 9, 3) := by decide +kernel
theorem dd_W_writeVerdict_89 : decode cc_W_writeVerdict 89 = .ok (.bipush 10, 2) := by decide +kernel
theorem dd_W_writeVerdict_91 : decode cc_W_writeVerdict 91 = .ok (.invokevirtual 31, 3) := by decide +kernel
theorem dd_W_writeVerdict_94 : decode cc_W_writeVerdict 94 = .ok (.pop, 1) := by decide +kernel
theorem dd_W_writeVerdict_95 : decode cc_W_writeVerdict 95 = .ok (.return_, 1) := by decide +kernel
theorem dd_E_takeRowLine_0 : decode cc_E_takeRowLine 0 = .ok (.aload_n 0, 1) := by decide +kernel
theorem dd_E_takeRowLine_1 : decode cc_E_takeRowLine 1 = .ok (.getfield 19, 3) := by decide +kernel
theorem dd_E_takeRowLine_4 : decode cc_E_takeRowLine 4 = .ok (.invokevirtual 55, 3) := by decide +kernel
theorem dd_E_takeRowLine_7 : decode cc_E_takeRowLine 7 = .ok (.istore_n 1, 1) := by decide +kernel
theorem dd_E_takeRowLine_8 : decode cc_E_takeRowLine 8 = .ok (.iload_n 1, 1) := by decide +kernel
theorem dd_E_takeRowLine_9 : decode cc_E_takeRowLine 9 = .ok (.ifCond .le 22, 3) := by decide +kernel
theorem dd_E_takeRowLine_12 : decode cc_E_takeRowLine 12 = .ok (.aload_n 0, 1) := by decide +kernel
theorem dd_E_takeRowLine_13 : decode cc_E_takeRowLine 13 = .ok (.getfield 15, 3) := by decide +kernel
theorem dd_E_takeRowLine_16 : decode cc_E_takeRowLine 16 = .ok (.ldc 59, 2) := by decide +kernel
theorem dd_E_takeRowLine_18 : decode cc_E_takeRowLine 18 = .ok (.invokevirtual 45, 3) := by decide +kernel
theorem dd_E_takeRowLine_21 : decode cc_E_takeRowLine 21 = .ok (.ifCond .eq 10, 3) := by decide +kernel
theorem dd_E_takeRowLine_24 : decode cc_E_takeRowLine 24 = .ok (.aload_n 0, 1) := by decide +kernel
theorem dd_E_takeRowLine_25 : decode cc_E_takeRowLine 25 = .ok (.iconst 3, 1) := by decide +kernel
theorem dd_E_takeRowLine_26 : decode cc_E_takeRowLine 26 = .ok (.putfield 11, 3) := by decide +kernel
theorem dd_E_takeRowLine_29 : decode cc_E_takeRowLine 29 = .ok (.iconst 1, 1) := by decide +kernel
theorem dd_E_takeRowLine_30 : decode cc_E_takeRowLine 30 = .ok (.ireturn, 1) := by decide +kernel
theorem dd_E_takeRowLine_31 : decode cc_E_takeRowLine 31 = .ok (.aload_n 0, 1) := by decide +kernel
theorem dd_E_takeRowLine_32 : decode cc_E_takeRowLine 32 = .ok (.getfield 15, 3) := by decide +kernel
theorem dd_E_takeRowLine_35 : decode cc_E_takeRowLine 35 = .ok (.iload_n 1, 1) := by decide +kernel
theorem dd_E_takeRowLine_36 : decode cc_E_takeRowLine 36 = .ok (.invokevirtual 61, 3) := by decide +kernel
theorem dd_E_takeRowLine_39 : decode cc_E_takeRowLine 39 = .ok (.ifCond .ne 5, 3) := by decide +kernel
theorem dd_E_takeRowLine_42 : decode cc_E_takeRowLine 42 = .ok (.iconst 0, 1) := by decide +kernel
theorem dd_E_takeRowLine_43 : decode cc_E_takeRowLine 43 = .ok (.ireturn, 1) := by decide +kernel
theorem dd_E_takeRowLine_44 : decode cc_E_takeRowLine 44 = .ok (.aload_n 0, 1) := by decide +kernel
theorem dd_E_takeRowLine_45 : decode cc_E_takeRowLine 45 = .ok (.getfield 15, 3) := by decide +kernel
theorem dd_E_takeRowLine_48 : decode cc_E_takeRowLine 48 = .ok (.ldc 65, 2) := by decide +kernel
theorem dd_E_takeRowLine_50 : decode cc_E_takeRowLine 50 = .ok (.invokevirtual 45, 3) := by decide +kernel
theorem dd_E_takeRowLine_53 : decode cc_E_takeRowLine 53 = .ok (.ifCond .eq 38, 3) := by decide +kernel
theorem dd_E_takeRowLine_56 : decode cc_E_takeRowLine 56 = .ok (.aload_n 0, 1) := by decide +kernel
theorem dd_E_takeRowLine_57 : decode cc_E_takeRowLine 57 = .ok (.iload_n 1, 1) := by decide +kernel
theorem dd_E_takeRowLine_58 : decode cc_E_takeRowLine 58 = .ok (.ifCond .le 7, 3) := by decide +kernel
theorem dd_E_takeRowLine_61 : decode cc_E_takeRowLine 61 = .ok (.iconst 2, 1) := by decide +kernel
theorem dd_E_takeRowLine_62 : decode cc_E_takeRowLine 62 = .ok (.goto 4, 3) := by decide +kernel
theorem dd_E_takeRowLine_65 : decode cc_E_takeRowLine 65 = .ok (.iconst 3, 1) := by decide +kernel
theorem dd_E_takeRowLine_66 : decode cc_E_takeRowLine 66 = .ok (.putfield 11, 3) := by decide +kernel
theorem dd_E_takeRowLine_69 : decode cc_E_takeRowLine 69 = .ok (.aload_n 0, 1) := by decide +kernel
theorem dd_E_takeRowLine_70 : decode cc_E_takeRowLine 70 = .ok (.getfield 15, 3) := by decide +kernel
theorem dd_E_takeRowLine_73 : decode cc_E_takeRowLine 73 = .ok (.aload_n 0, 1) := by decide +kernel
theorem dd_E_takeRowLine_74 : decode cc_E_takeRowLine 74 = .ok (.getfield 19, 3) := by decide +kernel
theorem dd_E_takeRowLine_77 : decode cc_E_takeRowLine 77 = .ok (.aload_n 0, 1) := by decide +kernel
theorem dd_E_takeRowLine_78 : decode cc_E_takeRowLine 78 = .ok (.getfield 19, 3) := by decide +kernel
theorem dd_E_takeRowLine_81 : decode cc_E_takeRowLine 81 = .ok (.invokevirtual 67, 3) := by decide +kernel
theorem dd_E_takeRowLine_84 : decode cc_E_takeRowLine 84 = .ok (.invokevirtual 70, 3) := by decide +kernel
theorem dd_E_takeRowLine_87 : decode cc_E_takeRowLine 87 = .ok (.invokevirtual 74, 3) := by decide +kernel
theorem dd_E_takeRowLine_90 : decode cc_E_takeRowLine 90 = .ok (.ireturn, 1) := by decide +kernel
theorem dd_E_takeRowLine_91 : decode cc_E_takeRowLine 91 = .ok (.aload_n 0, 1) := by decide +kernel
theorem dd_E_takeRowLine_92 : decode cc_E_takeRowLine 92 = .ok (.getfield 15, 3) := by decide +kernel
theorem dd_E_takeRowLine_95 : decode cc_E_takeRowLine 95 = .ok (.ldc 77, 2) := by decide +kernel
theorem dd_E_takeRowLine_97 : decode cc_E_takeRowLine 97 = .ok (.invokevirtual 45, 3) := by decide +kernel
theorem dd_E_takeRowLine_100 : decode cc_E_takeRowLine 100 = .ok (.ifCond .eq 28, 3) := by decide +kernel
theorem dd_E_takeRowLine_103 : decode cc_E_takeRowLine 103 = .ok (.aload_n 0, 1) := by decide +kernel
theorem dd_E_takeRowLine_104 : decode cc_E_takeRowLine 104 = .ok (.getfield 19, 3) := by decide +kernel
theorem dd_E_takeRowLine_107 : decode cc_E_takeRowLine 107 = .ok (.bipush 6, 2) := by decide +kernel
theorem dd_E_takeRowLine_109 : decode cc_E_takeRowLine 109 = .ok (.aload_n 0, 1) := by decide +kernel
theorem dd_E_takeRowLine_110 : decode cc_E_takeRowLine 110 = .ok (.getfield 15, 3) := by decide +kernel
theorem dd_E_takeRowLine_113 : decode cc_E_takeRowLine 113 = .ok (.invokevirtual 79, 3) := by decide +kernel
theorem dd_E_takeRowLine_116 : decode cc_E_takeRowLine 116 = .ok (.invokevirtual 83, 3) := by decide +kernel
theorem dd_E_takeRowLine_119 : decode cc_E_takeRowLine 119 = .ok (.ifCond .lt 7, 3) := by decide +kernel
theorem dd_E_takeRowLine_122 : decode cc_E_takeRowLine 122 = .ok (.iconst 1, 1) := by decide +kernel
theorem dd_E_takeRowLine_123 : decode cc_E_takeRowLine 123 = .ok (.goto 4, 3) := by decide +kernel
theorem dd_E_takeRowLine_126 : decode cc_E_takeRowLine 126 = .ok (.iconst 0, 1) := by decide +kernel
theorem dd_E_takeRowLine_127 : decode cc_E_takeRowLine 127 = .ok (.ireturn, 1) := by decide +kernel
theorem dd_E_takeRowLine_128 : decode cc_E_takeRowLine 128 = .ok (.aload_n 0, 1) := by decide +kernel
theorem dd_E_takeRowLine_129 : decode cc_E_takeRowLine 129 = .ok (.getfield 15, 3) := by decide +kernel
theorem dd_E_takeRowLine_132 : decode cc_E_takeRowLine 132 = .ok (.ldc 87, 2) := by decide +kernel
theorem dd_E_takeRowLine_134 : decode cc_E_takeRowLine 134 = .ok (.invokevirtual 45, 3) := by decide +kernel
theorem dd_E_takeRowLine_137 : decode cc_E_takeRowLine 137 = .ok (.ifCond .eq 12, 3) := by decide +kernel
theorem dd_E_takeRowLine_140 : decode cc_E_takeRowLine 140 = .ok (.aload_n 0, 1) := by decide +kernel
theorem dd_E_takeRowLine_141 : decode cc_E_takeRowLine 141 = .ok (.iconst 0, 1) := by decide +kernel
theorem dd_E_takeRowLine_142 : decode cc_E_takeRowLine 142 = .ok (.ldc 89, 2) := by decide +kernel
theorem dd_E_takeRowLine_144 : decode cc_E_takeRowLine 144 = .ok (.iconst 2, 1) := by decide +kernel
theorem dd_E_takeRowLine_145 : decode cc_E_takeRowLine 145 = .ok (.invokevirtual 91, 3) := by decide +kernel
theorem dd_E_takeRowLine_148 : decode cc_E_takeRowLine 148 = .ok (.ireturn, 1) := by decide +kernel
theorem dd_E_takeRowLine_149 : decode cc_E_takeRowLine 149 = .ok (.aload_n 0, 1) := by decide +kernel
theorem dd_E_takeRowLine_150 : decode cc_E_takeRowLine 150 = .ok (.getfield 15, 3) := by decide +kernel
theorem dd_E_takeRowLine_153 : decode cc_E_takeRowLine 153 = .ok (.ldc 95, 2) := by decide +kernel
theorem dd_E_takeRowLine_155 : decode cc_E_takeRowLine 155 = .ok (.invokevirtual 45, 3) := by decide +kernel
theorem dd_E_takeRowLine_158 : decode cc_E_takeRowLine 158 = .ok (.ifCond .eq 18, 3) := by decide +kernel
theorem dd_E_takeRowLine_161 : decode cc_E_takeRowLine 161 = .ok (.aload_n 0, 1) := by decide +kernel
theorem dd_E_takeRowLine_162 : decode cc_E_takeRowLine 162 = .ok (.iconst 1, 1) := by decide +kernel
theorem dd_E_takeRowLine_163 : decode cc_E_takeRowLine 163 = .ok (.ldc 97, 2) := by decide +kernel
theorem dd_E_takeRowLine_165 : decode cc_E_takeRowLine 165 = .ok (.iconst 3, 1) := by decide +kernel
theorem dd_E_takeRowLine_166 : decode cc_E_takeRowLine 166 = .ok (.invokevirtual 91, 3) := by decide +kernel
theorem dd_E_takeRowLine_169 : decode cc_E_takeRowLine 169 = .ok (.ifCond .eq 7, 3) := by decide +kernel
theorem dd_E_takeRowLine_172 : decode cc_E_takeRowLine 172 = .ok (.iconst 1, 1) := by decide +kernel
theorem dd_E_takeRowLine_173 : decode cc_E_takeRowLine 173 = .ok (.goto 4, 3) := by decide +kernel
theorem dd_E_takeRowLine_176 : decode cc_E_takeRowLine 176 = .ok (.iconst 0, 1) := by decide +kernel
theorem dd_E_takeRowLine_177 : decode cc_E_takeRowLine 177 = .ok (.ireturn, 1) := by decide +kernel
theorem dd_W_endSuites_0 : decode cc_W_endSuites 0 = .ok (.iload_n 1, 1) := by decide +kernel
theorem dd_W_endSuites_1 : decode cc_W_endSuites 1 = .ok (.istore_n 3, 1) := by decide +kernel
theorem dd_W_endSuites_2 : decode cc_W_endSuites 2 = .ok (.iconst 0, 1) := by decide +kernel
theorem dd_W_endSuites_3 : decode cc_W_endSuites 3 = .ok (.istore 4, 2) := by decide +kernel
theorem dd_W_endSuites_5 : decode cc_W_endSuites 5 = .ok (.iload 4, 2) := by decide +kernel
theorem dd_W_endSuites_7 : decode cc_W_endSuites 7 = .ok (.iconst 3, 1) := by decide +kernel
theorem dd_W_endSuites_8 : decode cc_W_endSuites 8 = .ok (.if_icmp .ge 33, 3) := by decide +kernel
theorem dd_W_endSuites_11 : decode cc_W_endSuites 11 = .ok (.iload_n 3, 1) := by decide +kernel
theorem dd_W_endSuites_12 : decode cc_W_endSuites 12 = .ok (.iload_n 2, 1) := by decide +kernel
theorem dd_W_endSuites_13 : decode cc_W_endSuites 13 = .ok (.if_icmp .eq 28, 3) := by decide +kernel
theorem dd_W_endSuites_16 : decode cc_W_endSuites 16 = .ok (.aload_n 0, 1) := by decide +kernel
theorem dd_W_endSuites_17 : decode cc_W_endSuites 17 = .ok (.iload_n 3, 1) := by decide +kernel
theorem dd_W_endSuites_18 : decode cc_W_endSuites 18 = .ok (.invokevirtual 65, 3) := by decide +kernel
theorem dd_W_endSuites_21 : decode cc_W_endSuites 21 = .ok (.aload_n 0, 1) := by decide +kernel
theorem dd_W_endSuites_22 : decode cc_W_endSuites 22 = .ok (.iload_n 3, 1) := by decide +kernel
theorem dd_W_endSuites_23 : decode cc_W_endSuites 23 = .ok (.invokevirtual 52, 3) := by decide +kernel
theorem dd_W_endSuites_26 : decode cc_W_endSuites 26 = .ok (.aload_n 0, 1) := by decide +kernel
theorem dd_W_endSuites_27 : decode cc_W_endSuites 27 = .ok (.getfield 15, 3) := by decide +kernel
theorem dd_W_endSuites_30 : decode cc_W_endSuites 30 = .ok (.iload_n 3, 1) := by decide +kernel
theorem dd_W_endSuites_31 : decode cc_W_endSuites 31 = .ok (.invokevirtual 41, 3) := by decide +kernel
theorem dd_W_endSuites_34 : decode cc_W_endSuites 34 = .ok (.istore_n 3, 1) := by decide +kernel
theorem dd_W_endSuites_35 : decode cc_W_endSuites 35 = .ok (.iinc 4 1, 3) := by decide +kernel
theorem dd_W_endSuites_38 : decode cc_W_endSuites 38 = .ok (.goto (-33), 3) := by decide +kernel
theorem dd_W_endSuites_41 : decode cc_W_endSuites 41 = .ok (.return_, 1) := by decide +kernel
theorem dd_W_writeEnd_0 : decode cc_W_writeEnd 0 = .ok (.aload_n 0, 1) := by decide +kernel
theorem dd_W_writeEnd_1 : decode cc_W_writeEnd 1 = .ok (.getfield 15, 3) := by decide +kernel
theorem dd_W_writeEnd_4 : decode cc_W_writeEnd 4 = .ok (.invokevirtual 68, 3) := by decide +kernel
theorem dd_W_writeEnd_7 : decode cc_W_writeEnd 7 = .ok (.ifCond .ne 11, 3) := by decide +kernel
theorem dd_W_writeEnd_10 : decode cc_W_writeEnd 10 = .ok (.aload_n 0, 1) := by decide +kernel
theorem dd_W_writeEnd_11 : decode cc_W_writeEnd 11 = .ok (.iconst (-1), 1) := by decide +kernel
theorem dd_W_writeEnd_12 : decode cc_W_writeEnd 12 = .ok (.invokevirtual 65, 3) := by decide +kernel
theorem dd_W_writeEnd_15 : decode cc_W_writeEnd 15 = .ok (.goto 22, 3) := by decide +kernel
theorem dd_W_writeEnd_18 : decode cc_W_writeEnd 18 = .ok (.aload_n 0, 1) := by decide +kernel
theorem dd_W_writeEnd_19 : decode cc_W_writeEnd 19 = .ok (.getfield 9, 3) := by decide +kernel
theorem dd_W_writeEnd_22 : decode cc_W_writeEnd 22 = .ok (.ldc 71, 2) := by decide +kernel
theorem dd_W_writeEnd_24 : decode cc_W_writeEnd 24 = .ok (.invokevirtual 27, 3) := by decide +kernel
theorem dd_W_writeEnd_27 : decode cc_W_writeEnd 27 = .ok (.aload_n 0, 1) := by decide +kernel
theorem dd_W_writeEnd_28 : decode cc_W_writeEnd 28 = .ok (.getfield 9, 3) := by decide +kernel
theorem dd_W_writeEnd_31 : decode cc_W_writeEnd 31 = .ok (.bipush 10, 2) := by decide +kernel
theorem dd_W_writeEnd_33 : decode cc_W_writeEnd 33 = .ok (.invokevirtual 31, 3) := by decide +kernel
theorem dd_W_writeEnd_36 : decode cc_W_writeEnd 36 = .ok (.pop, 1) := by decide +kernel
theorem dd_W_writeEnd_37 : decode cc_W_writeEnd 37 = .ok (.return_, 1) := by decide +kernel
theorem dd_E_takeLine_0 : decode cc_E_takeLine 0 = .ok (.aload_n 0, 1) := by decide +kernel
theorem dd_E_takeLine_1 : decode cc_E_takeLine 1 = .ok (.getfield 11, 3) := by decide +kernel
theorem dd_E_takeLine_4 : decode cc_E_takeLine 4 = .ok (.tableswitch 58 0 2 #[28, 43, 48], 28) := by decide +kernel
theorem dd_E_takeLine_32 : decode cc_E_takeLine 32 = .ok (.aload_n 0, 1) := by decide +kernel
theorem dd_E_takeLine_33 : decode cc_E_takeLine 33 = .ok (.iconst 1, 1) := by decide +kernel
theorem dd_E_takeLine_34 : decode cc_E_takeLine 34 = .ok (.putfield 11, 3) := by decide +kernel
theorem dd_E_takeLine_37 : decode cc_E_takeLine 37 = .ok (.aload_n 0, 1) := by decide +kernel
theorem dd_E_takeLine_38 : decode cc_E_takeLine 38 = .ok (.getfield 15, 3) := by decide +kernel
theorem dd_E_takeLine_41 : decode cc_E_takeLine 41 = .ok (.ldc 43, 2) := by decide +kernel
theorem dd_E_takeLine_43 : decode cc_E_takeLine 43 = .ok (.invokevirtual 45, 3) := by decide +kernel
theorem dd_E_takeLine_46 : decode cc_E_takeLine 46 = .ok (.ireturn, 1) := by decide +kernel
theorem dd_E_takeLine_47 : decode cc_E_takeLine 47 = .ok (.aload_n 0, 1) := by decide +kernel
theorem dd_E_takeLine_48 : decode cc_E_takeLine 48 = .ok (.invokevirtual 49, 3) := by decide +kernel
theorem dd_E_takeLine_51 : decode cc_E_takeLine 51 = .ok (.ireturn, 1) := by decide +kernel
theorem dd_E_takeLine_52 : decode cc_E_takeLine 52 = .ok (.aload_n 0, 1) := by decide +kernel
theorem dd_E_takeLine_53 : decode cc_E_takeLine 53 = .ok (.iconst 1, 1) := by decide +kernel
theorem dd_E_takeLine_54 : decode cc_E_takeLine 54 = .ok (.putfield 11, 3) := by decide +kernel
theorem dd_E_takeLine_57 : decode cc_E_takeLine 57 = .ok (.aload_n 0, 1) := by decide +kernel
theorem dd_E_takeLine_58 : decode cc_E_takeLine 58 = .ok (.invokevirtual 52, 3) := by decide +kernel
theorem dd_E_takeLine_61 : decode cc_E_takeLine 61 = .ok (.ireturn, 1) := by decide +kernel
theorem dd_E_takeLine_62 : decode cc_E_takeLine 62 = .ok (.iconst 0, 1) := by decide +kernel
theorem dd_E_takeLine_63 : decode cc_E_takeLine 63 = .ok (.ireturn, 1) := by decide +kernel
theorem dd_W_writeAll_0 : decode cc_W_writeAll 0 = .ok (.aload_n 0, 1) := by decide +kernel
theorem dd_W_writeAll_1 : decode cc_W_writeAll 1 = .ok (.getfield 9, 3) := by decide +kernel
theorem dd_W_writeAll_4 : decode cc_W_writeAll 4 = .ok (.iconst 0, 1) := by decide +kernel
theorem dd_W_writeAll_5 : decode cc_W_writeAll 5 = .ok (.invokevirtual 19, 3) := by decide +kernel
theorem dd_W_writeAll_8 : decode cc_W_writeAll 8 = .ok (.pop, 1) := by decide +kernel
theorem dd_W_writeAll_9 : decode cc_W_writeAll 9 = .ok (.aload_n 0, 1) := by decide +kernel
theorem dd_W_writeAll_10 : decode cc_W_writeAll 10 = .ok (.getfield 9, 3) := by decide +kernel
theorem dd_W_writeAll_13 : decode cc_W_writeAll 13 = .ok (.ldc 25, 2) := by decide +kernel
theorem dd_W_writeAll_15 : decode cc_W_writeAll 15 = .ok (.invokevirtual 27, 3) := by decide +kernel
theorem dd_W_writeAll_18 : decode cc_W_writeAll 18 = .ok (.aload_n 0, 1) := by decide +kernel
theorem dd_W_writeAll_19 : decode cc_W_writeAll 19 = .ok (.getfield 9, 3) := by decide +kernel
theorem dd_W_writeAll_22 : decode cc_W_writeAll 22 = .ok (.bipush 10, 2) := by decide +kernel
theorem dd_W_writeAll_24 : decode cc_W_writeAll 24 = .ok (.invokevirtual 31, 3) := by decide +kernel
theorem dd_W_writeAll_27 : decode cc_W_writeAll 27 = .ok (.pop, 1) := by decide +kernel
theorem dd_W_writeAll_28 : decode cc_W_writeAll 28 = .ok (.iconst (-1), 1) := by decide +kernel
theorem dd_W_writeAll_29 : decode cc_W_writeAll 29 = .ok (.istore_n 1, 1) := by decide +kernel
theorem dd_W_writeAll_30 : decode cc_W_writeAll 30 = .ok (.iconst 0, 1) := by decide +kernel
theorem dd_W_writeAll_31 : decode cc_W_writeAll 31 = .ok (.istore_n 2, 1) := by decide +kernel
theorem dd_W_writeAll_32 : decode cc_W_writeAll 32 = .ok (.iload_n 2, 1) := by decide +kernel
theorem dd_W_writeAll_33 : decode cc_W_writeAll 33 = .ok (.aload_n 0, 1) := by decide +kernel
theorem dd_W_writeAll_34 : decode cc_W_writeAll 34 = .ok (.getfield 15, 3) := by decide +kernel
theorem dd_W_writeAll_37 : decode cc_W_writeAll 37 = .ok (.invokevirtual 35, 3) := by decide +kernel
theorem dd_W_writeAll_40 : decode cc_W_writeAll 40 = .ok (.if_icmp .ge 57, 3) := by decide +kernel
theorem dd_W_writeAll_43 : decode cc_W_writeAll 43 = .ok (.aload_n 0, 1) := by decide +kernel
theorem dd_W_writeAll_44 : decode cc_W_writeAll 44 = .ok (.iload_n 1, 1) := by decide +kernel
theorem dd_W_writeAll_45 : decode cc_W_writeAll 45 = .ok (.aload_n 0, 1) := by decide +kernel
theorem dd_W_writeAll_46 : decode cc_W_writeAll 46 = .ok (.getfield 15, 3) := by decide +kernel
theorem dd_W_writeAll_49 : decode cc_W_writeAll 49 = .ok (.iload_n 2, 1) := by decide +kernel
theorem dd_W_writeAll_50 : decode cc_W_writeAll 50 = .ok (.invokevirtual 41, 3) := by decide +kernel
theorem dd_W_writeAll_53 : decode cc_W_writeAll 53 = .ok (.invokevirtual 45, 3) := by decide +kernel
theorem dd_W_writeAll_56 : decode cc_W_writeAll 56 = .ok (.aload_n 0, 1) := by decide +kernel
theorem dd_W_writeAll_57 : decode cc_W_writeAll 57 = .ok (.getfield 15, 3) := by decide +kernel
theorem dd_W_writeAll_60 : decode cc_W_writeAll 60 = .ok (.iload_n 2, 1) := by decide +kernel
theorem dd_W_writeAll_61 : decode cc_W_writeAll 61 = .ok (.invokevirtual 49, 3) := by decide +kernel
theorem dd_W_writeAll_64 : decode cc_W_writeAll 64 = .ok (.ifCond .eq 20, 3) := by decide +kernel
theorem dd_W_writeAll_67 : decode cc_W_writeAll 67 = .ok (.aload_n 0, 1) := by decide +kernel
theorem dd_W_writeAll_68 : decode cc_W_writeAll 68 = .ok (.iload_n 2, 1) := by decide +kernel
theorem dd_W_writeAll_69 : decode cc_W_writeAll 69 = .ok (.invokevirtual 52, 3) := by decide +kernel
theorem dd_W_writeAll_72 : decode cc_W_writeAll 72 = .ok (.aload_n 0, 1) := by decide +kernel
theorem dd_W_writeAll_73 : decode cc_W_writeAll 73 = .ok (.getfield 15, 3) := by decide +kernel
theorem dd_W_writeAll_76 : decode cc_W_writeAll 76 = .ok (.iload_n 2, 1) := by decide +kernel
theorem dd_W_writeAll_77 : decode cc_W_writeAll 77 = .ok (.invokevirtual 41, 3) := by decide +kernel
theorem dd_W_writeAll_80 : decode cc_W_writeAll 80 = .ok (.istore_n 1, 1) := by decide +kernel
theorem dd_W_writeAll_81 : decode cc_W_writeAll 81 = .ok (.goto 10, 3) := by decide +kernel
theorem dd_W_writeAll_84 : decode cc_W_writeAll 84 = .ok (.aload_n 0, 1) := by decide +kernel
theorem dd_W_writeAll_85 : decode cc_W_writeAll 85 = .ok (.iload_n 2, 1) := by decide +kernel
theorem dd_W_writeAll_86 : decode cc_W_writeAll 86 = .ok (.invokevirtual 56, 3) := by decide +kernel
theorem dd_W_writeAll_89 : decode cc_W_writeAll 89 = .ok (.iload_n 2, 1) := by decide +kernel
theorem dd_W_writeAll_90 : decode cc_W_writeAll 90 = .ok (.istore_n 1, 1) := by decide +kernel
theorem dd_W_writeAll_91 : decode cc_W_writeAll 91 = .ok (.iinc 2 1, 3) := by decide +kernel
theorem dd_W_writeAll_94 : decode cc_W_writeAll 94 = .ok (.goto (-62), 3) := by decide +kernel
theorem dd_W_writeAll_97 : decode cc_W_writeAll 97 = .ok (.aload_n 0, 1) := by decide +kernel
theorem dd_W_writeAll_98 : decode cc_W_writeAll 98 = .ok (.iload_n 1, 1) := by decide +kernel
theorem dd_W_writeAll_99 : decode cc_W_writeAll 99 = .ok (.aload_n 0, 1) := by decide +kernel
theorem dd_W_writeAll_100 : decode cc_W_writeAll 100 = .ok (.getfield 15, 3) := by decide +kernel
theorem dd_W_writeAll_103 : decode cc_W_writeAll 103 = .ok (.invokevirtual 59, 3) := by decide +kernel
theorem dd_W_writeAll_106 : decode cc_W_writeAll 106 = .ok (.invokevirtual 45, 3) := by decide +kernel
theorem dd_W_writeAll_109 : decode cc_W_writeAll 109 = .ok (.aload_n 0, 1) := by decide +kernel
theorem dd_W_writeAll_110 : decode cc_W_writeAll 110 = .ok (.invokevirtual 62, 3) := by decide +kernel
theorem dd_W_writeAll_113 : decode cc_W_writeAll 113 = .ok (.return_, 1) := by decide +kernel
theorem dd_V_write_0 : decode cc_V_write 0 = .ok (.new 77, 3) := by decide +kernel
theorem dd_V_write_3 : decode cc_V_write 3 = .ok (.dup, 1) := by decide +kernel
theorem dd_V_write_4 : decode cc_V_write 4 = .ok (.aload_n 0, 1) := by decide +kernel
theorem dd_V_write_5 : decode cc_V_write 5 = .ok (.getfield 10, 3) := by decide +kernel
theorem dd_V_write_8 : decode cc_V_write 8 = .ok (.aload_n 0, 1) := by decide +kernel
theorem dd_V_write_9 : decode cc_V_write 9 = .ok (.getfield 19, 3) := by decide +kernel
theorem dd_V_write_12 : decode cc_V_write 12 = .ok (.invokespecial 79, 3) := by decide +kernel
theorem dd_V_write_15 : decode cc_V_write 15 = .ok (.invokevirtual 82, 3) := by decide +kernel
theorem dd_V_write_18 : decode cc_V_write 18 = .ok (.aload_n 0, 1) := by decide +kernel
theorem dd_V_write_19 : decode cc_V_write 19 = .ok (.getfield 10, 3) := by decide +kernel
theorem dd_V_write_22 : decode cc_V_write 22 = .ok (.invokevirtual 85, 3) := by decide +kernel
theorem dd_V_write_25 : decode cc_V_write 25 = .ok (.ireturn, 1) := by decide +kernel
theorem dd_E_readAll_0 : decode cc_E_readAll 0 = .ok (.aload_n 0, 1) := by decide +kernel
theorem dd_E_readAll_1 : decode cc_E_readAll 1 = .ok (.getfield 19, 3) := by decide +kernel
theorem dd_E_readAll_4 : decode cc_E_readAll 4 = .ok (.invokevirtual 23, 3) := by decide +kernel
theorem dd_E_readAll_7 : decode cc_E_readAll 7 = .ok (.iconst 1, 1) := by decide +kernel
theorem dd_E_readAll_8 : decode cc_E_readAll 8 = .ok (.istore_n 1, 1) := by decide +kernel
theorem dd_E_readAll_9 : decode cc_E_readAll 9 = .ok (.iload_n 1, 1) := by decide +kernel
theorem dd_E_readAll_10 : decode cc_E_readAll 10 = .ok (.sipush 3000, 3) := by decide +kernel
theorem dd_E_readAll_13 : decode cc_E_readAll 13 = .ok (.if_icmp .gt 49, 3) := by decide +kernel
theorem dd_E_readAll_16 : decode cc_E_readAll 16 = .ok (.aload_n 0, 1) := by decide +kernel
theorem dd_E_readAll_17 : decode cc_E_readAll 17 = .ok (.getfield 15, 3) := by decide +kernel
theorem dd_E_readAll_20 : decode cc_E_readAll 20 = .ok (.invokevirtual 28, 3) := by decide +kernel
theorem dd_E_readAll_23 : decode cc_E_readAll 23 = .ok (.ifCond .ne 39, 3) := by decide +kernel
theorem dd_E_readAll_26 : decode cc_E_readAll 26 = .ok (.aload_n 0, 1) := by decide +kernel
theorem dd_E_readAll_27 : decode cc_E_readAll 27 = .ok (.getfield 15, 3) := by decide +kernel
theorem dd_E_readAll_30 : decode cc_E_readAll 30 = .ok (.invokevirtual 34, 3) := by decide +kernel
theorem dd_E_readAll_33 : decode cc_E_readAll 33 = .ok (.ifCond .eq 20, 3) := by decide +kernel
theorem dd_E_readAll_36 : decode cc_E_readAll 36 = .ok (.aload_n 0, 1) := by decide +kernel
theorem dd_E_readAll_37 : decode cc_E_readAll 37 = .ok (.invokevirtual 37, 3) := by decide +kernel
theorem dd_E_readAll_40 : decode cc_E_readAll 40 = .ok (.ifCond .eq 13, 3) := by decide +kernel
theorem dd_E_readAll_43 : decode cc_E_readAll 43 = .ok (.aload_n 0, 1) := by decide +kernel
theorem dd_E_readAll_44 : decode cc_E_readAll 44 = .ok (.getfield 15, 3) := by decide +kernel
theorem dd_E_readAll_47 : decode cc_E_readAll 47 = .ok (.invokevirtual 40, 3) := by decide +kernel
theorem dd_E_readAll_50 : decode cc_E_readAll 50 = .ok (.ifCond .ne 6, 3) := by decide +kernel
theorem dd_E_readAll_53 : decode cc_E_readAll 53 = .ok (.iload_n 1, 1) := by decide +kernel
theorem dd_E_readAll_54 : decode cc_E_readAll 54 = .ok (.ineg, 1) := by decide +kernel
theorem dd_E_readAll_55 : decode cc_E_readAll 55 = .ok (.ireturn, 1) := by decide +kernel
theorem dd_E_readAll_56 : decode cc_E_readAll 56 = .ok (.iinc 1 1, 3) := by decide +kernel
theorem dd_E_readAll_59 : decode cc_E_readAll 59 = .ok (.goto (-50), 3) := by decide +kernel
theorem dd_E_readAll_62 : decode cc_E_readAll 62 = .ok (.aload_n 0, 1) := by decide +kernel
theorem dd_E_readAll_63 : decode cc_E_readAll 63 = .ok (.getfield 11, 3) := by decide +kernel
theorem dd_E_readAll_66 : decode cc_E_readAll 66 = .ok (.iconst 3, 1) := by decide +kernel
theorem dd_E_readAll_67 : decode cc_E_readAll 67 = .ok (.if_icmp .ne 7, 3) := by decide +kernel
theorem dd_E_readAll_70 : decode cc_E_readAll 70 = .ok (.iconst 0, 1) := by decide +kernel
theorem dd_E_readAll_71 : decode cc_E_readAll 71 = .ok (.goto 5, 3) := by decide +kernel
theorem dd_E_readAll_74 : decode cc_E_readAll 74 = .ok (.iload_n 1, 1) := by decide +kernel
theorem dd_E_readAll_75 : decode cc_E_readAll 75 = .ok (.ineg, 1) := by decide +kernel
theorem dd_E_readAll_76 : decode cc_E_readAll 76 = .ok (.ireturn, 1) := by decide +kernel
theorem dd_V_read_0 : decode cc_V_read 0 = .ok (.new 86, 3) := by decide +kernel
theorem dd_V_read_3 : decode cc_V_read 3 = .ok (.dup, 1) := by decide +kernel
theorem dd_V_read_4 : decode cc_V_read 4 = .ok (.aload_n 0, 1) := by decide +kernel
theorem dd_V_read_5 : decode cc_V_read 5 = .ok (.getfield 10, 3) := by decide +kernel
theorem dd_V_read_8 : decode cc_V_read 8 = .ok (.invokevirtual 88, 3) := by decide +kernel
theorem dd_V_read_11 : decode cc_V_read 11 = .ok (.aload_n 0, 1) := by decide +kernel
theorem dd_V_read_12 : decode cc_V_read 12 = .ok (.getfield 23, 3) := by decide +kernel
theorem dd_V_read_15 : decode cc_V_read 15 = .ok (.invokespecial 92, 3) := by decide +kernel
theorem dd_V_read_18 : decode cc_V_read 18 = .ok (.invokevirtual 95, 3) := by decide +kernel
theorem dd_V_read_21 : decode cc_V_read 21 = .ok (.istore_n 1, 1) := by decide +kernel
theorem dd_V_read_22 : decode cc_V_read 22 = .ok (.iload_n 1, 1) := by decide +kernel
theorem dd_V_read_23 : decode cc_V_read 23 = .ok (.ifCond .ne 21, 3) := by decide +kernel
theorem dd_V_read_26 : decode cc_V_read 26 = .ok (.aload_n 0, 1) := by decide +kernel
theorem dd_V_read_27 : decode cc_V_read 27 = .ok (.getfield 19, 3) := by decide +kernel
theorem dd_V_read_30 : decode cc_V_read 30 = .ok (.astore_n 2, 1) := by decide +kernel
theorem dd_V_read_31 : decode cc_V_read 31 = .ok (.aload_n 0, 1) := by decide +kernel
theorem dd_V_read_32 : decode cc_V_read 32 = .ok (.aload_n 0, 1) := by decide +kernel
theorem dd_V_read_33 : decode cc_V_read 33 = .ok (.getfield 23, 3) := by decide +kernel
theorem dd_V_read_36 : decode cc_V_read 36 = .ok (.putfield 19, 3) := by decide +kernel
theorem dd_V_read_39 : decode cc_V_read 39 = .ok (.aload_n 0, 1) := by decide +kernel
theorem dd_V_read_40 : decode cc_V_read 40 = .ok (.aload_n 2, 1) := by decide +kernel
theorem dd_V_read_41 : decode cc_V_read 41 = .ok (.putfield 23, 3) := by decide +kernel
theorem dd_V_read_44 : decode cc_V_read 44 = .ok (.iload_n 1, 1) := by decide +kernel
theorem dd_V_read_45 : decode cc_V_read 45 = .ok (.ireturn, 1) := by decide +kernel
