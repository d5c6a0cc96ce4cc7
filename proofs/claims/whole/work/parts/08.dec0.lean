theorem dX0_init_0 : decode cX0_init 0 = .ok (.aload_n 0, 1) := by decide +kernel
theorem dX0_init_1 : decode cX0_init 1 = .ok (.iconst 5, 1) := by decide +kernel
theorem dX0_init_2 : decode cX0_init 2 = .ok (.iload_n 1, 1) := by decide +kernel
theorem dX0_init_3 : decode cX0_init 3 = .ok (.invokespecial 3, 3) := by decide +kernel
theorem dX0_init_6 : decode cX0_init 6 = .ok (.return_, 1) := by decide +kernel
theorem dX0_gift_0 : decode cX0_gift 0 = .ok (.aload_n 0, 1) := by decide +kernel
theorem dX0_gift_1 : decode cX0_gift 1 = .ok (.aload_n 1, 1) := by decide +kernel
theorem dX0_gift_2 : decode cX0_gift 2 = .ok (.iload_n 2, 1) := by decide +kernel
theorem dX0_gift_3 : decode cX0_gift 3 = .ok (.invokevirtual 9, 3) := by decide +kernel
theorem dX0_gift_6 : decode cX0_gift 6 = .ok (.istore_n 3, 1) := by decide +kernel
theorem dX0_gift_7 : decode cX0_gift 7 = .ok (.bipush (-4), 2) := by decide +kernel
theorem dX0_gift_9 : decode cX0_gift 9 = .ok (.istore 4, 2) := by decide +kernel
theorem dX0_gift_11 : decode cX0_gift 11 = .ok (.iconst 0, 1) := by decide +kernel
theorem dX0_gift_12 : decode cX0_gift 12 = .ok (.istore 5, 2) := by decide +kernel
theorem dX0_gift_14 : decode cX0_gift 14 = .ok (.iconst 0, 1) := by decide +kernel
theorem dX0_gift_15 : decode cX0_gift 15 = .ok (.istore 6, 2) := by decide +kernel
theorem dX0_gift_17 : decode cX0_gift 17 = .ok (.iload 6, 2) := by decide +kernel
theorem dX0_gift_19 : decode cX0_gift 19 = .ok (.bipush 12, 2) := by decide +kernel
theorem dX0_gift_21 : decode cX0_gift 21 = .ok (.if_icmp .ge 47, 3) := by decide +kernel
theorem dX0_gift_24 : decode cX0_gift 24 = .ok (.iload_n 3, 1) := by decide +kernel
theorem dX0_gift_25 : decode cX0_gift 25 = .ok (.iload 6, 2) := by decide +kernel
theorem dX0_gift_27 : decode cX0_gift 27 = .ok (.invokestatic 15, 3) := by decide +kernel
theorem dX0_gift_30 : decode cX0_gift 30 = .ok (.ifCond .eq 32, 3) := by decide +kernel
theorem dX0_gift_33 : decode cX0_gift 33 = .ok (.aload_n 1, 1) := by decide +kernel
theorem dX0_gift_34 : decode cX0_gift 34 = .ok (.iload_n 2, 1) := by decide +kernel
theorem dX0_gift_35 : decode cX0_gift 35 = .ok (.aload_n 1, 1) := by decide +kernel
theorem dX0_gift_36 : decode cX0_gift 36 = .ok (.getfield 19, 3) := by decide +kernel
theorem dX0_gift_39 : decode cX0_gift 39 = .ok (.iload 6, 2) := by decide +kernel
theorem dX0_gift_41 : decode cX0_gift 41 = .ok (.iaload, 1) := by decide +kernel
theorem dX0_gift_42 : decode cX0_gift 42 = .ok (.invokevirtual 25, 3) := by decide +kernel
theorem dX0_gift_45 : decode cX0_gift 45 = .ok (.istore 7, 2) := by decide +kernel
theorem dX0_gift_47 : decode cX0_gift 47 = .ok (.iload 7, 2) := by decide +kernel
theorem dX0_gift_49 : decode cX0_gift 49 = .ok (.iload 5, 2) := by decide +kernel
theorem dX0_gift_51 : decode cX0_gift 51 = .ok (.if_icmp .le 11, 3) := by decide +kernel
theorem dX0_gift_54 : decode cX0_gift 54 = .ok (.iload 7, 2) := by decide +kernel
theorem dX0_gift_56 : decode cX0_gift 56 = .ok (.istore 5, 2) := by decide +kernel
theorem dX0_gift_58 : decode cX0_gift 58 = .ok (.iload 6, 2) := by decide +kernel
theorem dX0_gift_60 : decode cX0_gift 60 = .ok (.istore 4, 2) := by decide +kernel
theorem dX0_gift_62 : decode cX0_gift 62 = .ok (.iinc 6 1, 3) := by decide +kernel
theorem dX0_gift_65 : decode cX0_gift 65 = .ok (.goto (-48), 3) := by decide +kernel
theorem dX0_gift_68 : decode cX0_gift 68 = .ok (.iload 4, 2) := by decide +kernel
theorem dX0_gift_70 : decode cX0_gift 70 = .ok (.ireturn, 1) := by decide +kernel
theorem dX0_wages_0 : decode cX0_wages 0 = .ok (.aload_n 0, 1) := by decide +kernel
theorem dX0_wages_1 : decode cX0_wages 1 = .ok (.invokespecial 29, 3) := by decide +kernel
theorem dX0_wages_4 : decode cX0_wages 4 = .ok (.iconst 3, 1) := by decide +kernel
theorem dX0_wages_5 : decode cX0_wages 5 = .ok (.iadd, 1) := by decide +kernel
theorem dX0_wages_6 : decode cX0_wages 6 = .ok (.ireturn, 1) := by decide +kernel
theorem dX0_worthOfFailure_0 : decode cX0_worthOfFailure 0 = .ok (.aload_n 0, 1) := by decide +kernel
theorem dX0_worthOfFailure_1 : decode cX0_worthOfFailure 1 = .ok (.invokespecial 33, 3) := by decide +kernel
theorem dX0_worthOfFailure_4 : decode cX0_worthOfFailure 4 = .ok (.bipush 100, 2) := by decide +kernel
theorem dX0_worthOfFailure_6 : decode cX0_worthOfFailure 6 = .ok (.iadd, 1) := by decide +kernel
theorem dX0_worthOfFailure_7 : decode cX0_worthOfFailure 7 = .ok (.ireturn, 1) := by decide +kernel
theorem dX1_init_0 : decode cX1_init 0 = .ok (.aload_n 0, 1) := by decide +kernel
theorem dX1_init_1 : decode cX1_init 1 = .ok (.invokespecial 3, 3) := by decide +kernel
theorem dX1_init_4 : decode cX1_init 4 = .ok (.aload_n 0, 1) := by decide +kernel
theorem dX1_init_5 : decode cX1_init 5 = .ok (.iload_n 1, 1) := by decide +kernel
theorem dX1_init_6 : decode cX1_init 6 = .ok (.putfield 9, 3) := by decide +kernel
theorem dX1_init_9 : decode cX1_init 9 = .ok (.aload_n 0, 1) := by decide +kernel
theorem dX1_init_10 : decode cX1_init 10 = .ok (.iload_n 2, 1) := by decide +kernel
theorem dX1_init_11 : decode cX1_init 11 = .ok (.putfield 15, 3) := by decide +kernel
theorem dX1_init_14 : decode cX1_init 14 = .ok (.return_, 1) := by decide +kernel
theorem dX1_gift_0 : decode cX1_gift 0 = .ok (.iconst 0, 1) := by decide +kernel
theorem dX1_gift_1 : decode cX1_gift 1 = .ok (.istore_n 3, 1) := by decide +kernel
theorem dX1_gift_2 : decode cX1_gift 2 = .ok (.iload_n 3, 1) := by decide +kernel
theorem dX1_gift_3 : decode cX1_gift 3 = .ok (.bipush 12, 2) := by decide +kernel
theorem dX1_gift_5 : decode cX1_gift 5 = .ok (.if_icmp .ge 19, 3) := by decide +kernel
theorem dX1_gift_8 : decode cX1_gift 8 = .ok (.iload_n 2, 1) := by decide +kernel
theorem dX1_gift_9 : decode cX1_gift 9 = .ok (.iload_n 3, 1) := by decide +kernel
theorem dX1_gift_10 : decode cX1_gift 10 = .ok (.invokestatic 18, 3) := by decide +kernel
theorem dX1_gift_13 : decode cX1_gift 13 = .ok (.ifCond .eq 5, 3) := by decide +kernel
theorem dX1_gift_16 : decode cX1_gift 16 = .ok (.iload_n 3, 1) := by decide +kernel
theorem dX1_gift_17 : decode cX1_gift 17 = .ok (.ireturn, 1) := by decide +kernel
theorem dX1_gift_18 : decode cX1_gift 18 = .ok (.iinc 3 1, 3) := by decide +kernel
theorem dX1_gift_21 : decode cX1_gift 21 = .ok (.goto (-19), 3) := by decide +kernel
theorem dX1_gift_24 : decode cX1_gift 24 = .ok (.bipush (-4), 2) := by decide +kernel
theorem dX1_gift_26 : decode cX1_gift 26 = .ok (.ireturn, 1) := by decide +kernel
theorem dX1_wages_0 : decode cX1_wages 0 = .ok (.bipush 6, 2) := by decide +kernel
theorem dX1_wages_2 : decode cX1_wages 2 = .ok (.ireturn, 1) := by decide +kernel
theorem dX1_fail_0 : decode cX1_fail 0 = .ok (.aload_n 0, 1) := by decide +kernel
theorem dX1_fail_1 : decode cX1_fail 1 = .ok (.getfield 15, 3) := by decide +kernel
theorem dX1_fail_4 : decode cX1_fail 4 = .ok (.ifCond .eq 13, 3) := by decide +kernel
theorem dX1_fail_7 : decode cX1_fail 7 = .ok (.new 22, 3) := by decide +kernel
theorem dX1_fail_10 : decode cX1_fail 10 = .ok (.dup, 1) := by decide +kernel
theorem dX1_fail_11 : decode cX1_fail 11 = .ok (.ldc 24, 2) := by decide +kernel
theorem dX1_fail_13 : decode cX1_fail 13 = .ok (.invokespecial 26, 3) := by decide +kernel
theorem dX1_fail_16 : decode cX1_fail 16 = .ok (.athrow, 1) := by decide +kernel
theorem dX1_fail_17 : decode cX1_fail 17 = .ok (.return_, 1) := by decide +kernel
theorem dX1_worthOfFailure_0 : decode cX1_worthOfFailure 0 = .ok (.aload_n 0, 1) := by decide +kernel
theorem dX1_worthOfFailure_1 : decode cX1_worthOfFailure 1 = .ok (.getfield 15, 3) := by decide +kernel
theorem dX1_worthOfFailure_4 : decode cX1_worthOfFailure 4 = .ok (.ireturn, 1) := by decide +kernel
theorem dX2_init_0 : decode cX2_init 0 = .ok (.aload_n 0, 1) := by decide +kernel
theorem dX2_init_1 : decode cX2_init 1 = .ok (.invokespecial 3, 3) := by decide +kernel
theorem dX2_init_4 : decode cX2_init 4 = .ok (.aload_n 0, 1) := by decide +kernel
theorem dX2_init_5 : decode cX2_init 5 = .ok (.iconst 5, 1) := by decide +kernel
theorem dX2_init_6 : decode cX2_init 6 = .ok (.anewarray 9, 3) := by decide +kernel
theorem dX2_init_9 : decode cX2_init 9 = .ok (.putfield 11, 3) := by decide +kernel
theorem dX2_init_12 : decode cX2_init 12 = .ok (.new 9, 3) := by decide +kernel
theorem dX2_init_15 : decode cX2_init 15 = .ok (.dup, 1) := by decide +kernel
theorem dX2_init_16 : decode cX2_init 16 = .ok (.iconst 0, 1) := by decide +kernel
theorem dX2_init_17 : decode cX2_init 17 = .ok (.iconst 0, 1) := by decide +kernel
theorem dX2_init_18 : decode cX2_init 18 = .ok (.invokespecial 17, 3) := by decide +kernel
theorem dX2_init_21 : decode cX2_init 21 = .ok (.astore_n 1, 1) := by decide +kernel
theorem dX2_init_22 : decode cX2_init 22 = .ok (.iconst 0, 1) := by decide +kernel
theorem dX2_init_23 : decode cX2_init 23 = .ok (.istore_n 2, 1) := by decide +kernel
theorem dX2_init_24 : decode cX2_init 24 = .ok (.iload_n 2, 1) := by decide +kernel
theorem dX2_init_25 : decode cX2_init 25 = .ok (.iconst 5, 1) := by decide +kernel
theorem dX2_init_26 : decode cX2_init 26 = .ok (.if_icmp .ge 16, 3) := by decide +kernel
theorem dX2_init_29 : decode cX2_init 29 = .ok (.aload_n 0, 1) := by decide +kernel
theorem dX2_init_30 : decode cX2_init 30 = .ok (.getfield 11, 3) := by decide +kernel
theorem dX2_init_33 : decode cX2_init 33 = .ok (.iload_n 2, 1) := by decide +kernel
theorem dX2_init_34 : decode cX2_init 34 = .ok (.aload_n 1, 1) := by decide +kernel
theorem dX2_init_35 : decode cX2_init 35 = .ok (.aastore, 1) := by decide +kernel
theorem dX2_init_36 : decode cX2_init 36 = .ok (.iinc 2 1, 3) := by decide +kernel
theorem dX2_init_39 : decode cX2_init 39 = .ok (.goto (-15), 3) := by decide +kernel
theorem dX2_init_42 : decode cX2_init 42 = .ok (.aload_n 0, 1) := by decide +kernel
theorem dX2_init_43 : decode cX2_init 43 = .ok (.iconst 5, 1) := by decide +kernel
theorem dX2_init_44 : decode cX2_init 44 = .ok (.newarray .int, 2) := by decide +kernel
theorem dX2_init_46 : decode cX2_init 46 = .ok (.putfield 20, 3) := by decide +kernel
theorem dX2_init_49 : decode cX2_init 49 = .ok (.aload_n 0, 1) := by decide +kernel
theorem dX2_init_50 : decode cX2_init 50 = .ok (.bipush 12, 2) := by decide +kernel
theorem dX2_init_52 : decode cX2_init 52 = .ok (.newarray .int, 2) := by decide +kernel
theorem dX2_init_54 : decode cX2_init 54 = .ok (.putfield 24, 3) := by decide +kernel
theorem dX2_init_57 : decode cX2_init 57 = .ok (.aload_n 0, 1) := by decide +kernel
theorem dX2_init_58 : decode cX2_init 58 = .ok (.bipush 12, 2) := by decide +kernel
theorem dX2_init_60 : decode cX2_init 60 = .ok (.newarray .int, 2) := by decide +kernel
theorem dX2_init_62 : decode cX2_init 62 = .ok (.putfield 27, 3) := by decide +kernel
theorem dX2_init_65 : decode cX2_init 65 = .ok (.aload_n 0, 1) := by decide +kernel
theorem dX2_init_66 : decode cX2_init 66 = .ok (.bipush 12, 2) := by decide +kernel
theorem dX2_init_68 : decode cX2_init 68 = .ok (.newarray .int, 2) := by decide +kernel
theorem dX2_init_70 : decode cX2_init 70 = .ok (.putfield 30, 3) := by decide +kernel
theorem dX2_init_73 : decode cX2_init 73 = .ok (.aload_n 0, 1) := by decide +kernel
theorem dX2_init_74 : decode cX2_init 74 = .ok (.bipush 12, 2) := by decide +kernel
theorem dX2_init_76 : decode cX2_init 76 = .ok (.newarray .int, 2) := by decide +kernel
theorem dX2_init_78 : decode cX2_init 78 = .ok (.putfield 33, 3) := by decide +kernel
theorem dX2_init_81 : decode cX2_init 81 = .ok (.aload_n 0, 1) := by decide +kernel
theorem dX2_init_82 : decode cX2_init 82 = .ok (.bipush 12, 2) := by decide +kernel
theorem dX2_init_84 : decode cX2_init 84 = .ok (.newarray .int, 2) := by decide +kernel
theorem dX2_init_86 : decode cX2_init 86 = .ok (.putfield 36, 3) := by decide +kernel
theorem dX2_init_89 : decode cX2_init 89 = .ok (.return_, 1) := by decide +kernel
theorem dX2_become_0 : decode cX2_become 0 = .ok (.aload_n 0, 1) := by decide +kernel
theorem dX2_become_1 : decode cX2_become 1 = .ok (.aload_n 1, 1) := by decide +kernel
theorem dX2_become_2 : decode cX2_become 2 = .ok (.getfield 39, 3) := by decide +kernel
theorem dX2_become_5 : decode cX2_become 5 = .ok (.putfield 39, 3) := by decide +kernel
theorem dX2_become_8 : decode cX2_become 8 = .ok (.aload_n 0, 1) := by decide +kernel
theorem dX2_become_9 : decode cX2_become 9 = .ok (.aload_n 1, 1) := by decide +kernel
theorem dX2_become_10 : decode cX2_become 10 = .ok (.getfield 43, 3) := by decide +kernel
theorem dX2_become_13 : decode cX2_become 13 = .ok (.putfield 43, 3) := by decide +kernel
theorem dX2_become_16 : decode cX2_become 16 = .ok (.aload_n 0, 1) := by decide +kernel
theorem dX2_become_17 : decode cX2_become 17 = .ok (.aload_n 1, 1) := by decide +kernel
theorem dX2_become_18 : decode cX2_become 18 = .ok (.getfield 46, 3) := by decide +kernel
theorem dX2_become_21 : decode cX2_become 21 = .ok (.putfield 46, 3) := by decide +kernel
theorem dX2_become_24 : decode cX2_become 24 = .ok (.iconst 0, 1) := by decide +kernel
theorem dX2_become_25 : decode cX2_become 25 = .ok (.istore_n 2, 1) := by decide +kernel
theorem dX2_become_26 : decode cX2_become 26 = .ok (.iload_n 2, 1) := by decide +kernel
theorem dX2_become_27 : decode cX2_become 27 = .ok (.iconst 5, 1) := by decide +kernel
theorem dX2_become_28 : decode cX2_become 28 = .ok (.if_icmp .ge 33, 3) := by decide +kernel
theorem dX2_become_31 : decode cX2_become 31 = .ok (.aload_n 0, 1) := by decide +kernel
theorem dX2_become_32 : decode cX2_become 32 = .ok (.getfield 11, 3) := by decide +kernel
theorem dX2_become_35 : decode cX2_become 35 = .ok (.iload_n 2, 1) := by decide +kernel
theorem dX2_become_36 : decode cX2_become 36 = .ok (.aload_n 1, 1) := by decide +kernel
theorem dX2_become_37 : decode cX2_become 37 = .ok (.getfield 11, 3) := by decide +kernel
theorem dX2_become_40 : decode cX2_become 40 = .ok (.iload_n 2, 1) := by decide +kernel
theorem dX2_become_41 : decode cX2_become 41 = .ok (.aaload, 1) := by decide +kernel
theorem dX2_become_42 : decode cX2_become 42 = .ok (.aastore, 1) := by decide +kernel
theorem dX2_become_43 : decode cX2_become 43 = .ok (.aload_n 0, 1) := by decide +kernel
theorem dX2_become_44 : decode cX2_become 44 = .ok (.getfield 20, 3) := by decide +kernel
theorem dX2_become_47 : decode cX2_become 47 = .ok (.iload_n 2, 1) := by decide +kernel
theorem dX2_become_48 : decode cX2_become 48 = .ok (.aload_n 1, 1) := by decide +kernel
theorem dX2_become_49 : decode cX2_become 49 = .ok (.getfield 20, 3) := by decide +kernel
theorem dX2_become_52 : decode cX2_become 52 = .ok (.iload_n 2, 1) := by decide +kernel
theorem dX2_become_53 : decode cX2_become 53 = .ok (.iaload, 1) := by decide +kernel
theorem dX2_become_54 : decode cX2_become 54 = .ok (.iastore, 1) := by decide +kernel
theorem dX2_become_55 : decode cX2_become 55 = .ok (.iinc 2 1, 3) := by decide +kernel
theorem dX2_become_58 : decode cX2_become 58 = .ok (.goto (-32), 3) := by decide +kernel
theorem dX2_become_61 : decode cX2_become 61 = .ok (.iconst 0, 1) := by decide +kernel
theorem dX2_become_62 : decode cX2_become 62 = .ok (.istore_n 2, 1) := by decide +kernel
theorem dX2_become_63 : decode cX2_become 63 = .ok (.iload_n 2, 1) := by decide +kernel
theorem dX2_become_64 : decode cX2_become 64 = .ok (.bipush 12, 2) := by decide +kernel
theorem dX2_become_66 : decode cX2_become 66 = .ok (.if_icmp .ge 69, 3) := by decide +kernel
theorem dX2_become_69 : decode cX2_become 69 = .ok (.aload_n 0, 1) := by decide +kernel
theorem dX2_become_70 : decode cX2_become 70 = .ok (.getfield 24, 3) := by decide +kernel
theorem dX2_become_73 : decode cX2_become 73 = .ok (.iload_n 2, 1) := by decide +kernel
theorem dX2_become_74 : decode cX2_become 74 = .ok (.aload_n 1, 1) := by decide +kernel
theorem dX2_become_75 : decode cX2_become 75 = .ok (.getfield 24, 3) := by decide +kernel
theorem dX2_become_78 : decode cX2_become 78 = .ok (.iload_n 2, 1) := by decide +kernel
theorem dX2_become_79 : decode cX2_become 79 = .ok (.iaload, 1) := by decide +kernel
theorem dX2_become_80 : decode cX2_become 80 = .ok (.iastore, 1) := by decide +kernel
theorem dX2_become_81 : decode cX2_become 81 = .ok (.aload_n 0, 1) := by decide +kernel
theorem dX2_become_82 : decode cX2_become 82 = .ok (.getfield 27, 3) := by decide +kernel
theorem dX2_become_85 : decode cX2_become 85 = .ok (.iload_n 2, 1) := by decide +kernel
theorem dX2_become_86 : decode cX2_become 86 = .ok (.aload_n 1, 1) := by decide +kernel
theorem dX2_become_87 : decode cX2_become 87 = .ok (.getfield 27, 3) := by decide +kernel
theorem dX2_become_90 : decode cX2_become 90 = .ok (.iload_n 2, 1) := by decide +kernel
theorem dX2_become_91 : decode cX2_become 91 = .ok (.iaload, 1) := by decide +kernel
theorem dX2_become_92 : decode cX2_become 92 = .ok (.iastore, 1) := by decide +kernel
theorem dX2_become_93 : decode cX2_become 93 = .ok (.aload_n 0, 1) := by decide +kernel
theorem dX2_become_94 : decode cX2_become 94 = .ok (.getfield 30, 3) := by decide +kernel
theorem dX2_become_97 : decode cX2_become 97 = .ok (.iload_n 2, 1) := by decide +kernel
theorem dX2_become_98 : decode cX2_become 98 = .ok (.aload_n 1, 1) := by decide +kernel
theorem dX2_become_99 : decode cX2_become 99 = .ok (.getfield 30, 3) := by decide +kernel
theorem dX2_become_102 : decode cX2_become 102 = .ok (.iload_n 2, 1) := by decide +kernel
theorem dX2_become_103 : decode cX2_become 103 = .ok (.iaload, 1) := by decide +kernel
theorem dX2_become_104 : decode cX2_become 104 = .ok (.iastore, 1) := by decide +kernel
theorem dX2_become_105 : decode cX2_become 105 = .ok (.aload_n 0, 1) := by decide +kernel
theorem dX2_become_106 : decode cX2_become 106 = .ok (.getfield 33, 3) := by decide +kernel
theorem dX2_become_109 : decode cX2_become 109 = .ok (.iload_n 2, 1) := by decide +kernel
theorem dX2_become_110 : decode cX2_become 110 = .ok (.aload_n 1, 1) := by decide +kernel
theorem dX2_become_111 : decode cX2_become 111 = .ok (.getfield 33, 3) := by decide +kernel
theorem dX2_become_114 : decode cX2_become 114 = .ok (.iload_n 2, 1) := by decide +kernel
theorem dX2_become_115 : decode cX2_become 115 = .ok (.iaload, 1) := by decide +kernel
theorem dX2_become_116 : decode cX2_become 116 = .ok (.iastore, 1) := by decide +kernel
theorem dX2_become_117 : decode cX2_become 117 = .ok (.aload_n 0, 1) := by decide +kernel
theorem dX2_become_118 : decode cX2_become 118 = .ok (.getfield 36, 3) := by decide +kernel
theorem dX2_become_121 : decode cX2_become 121 = .ok (.iload_n 2, 1) := by decide +kernel
theorem dX2_become_122 : decode cX2_become 122 = .ok (.aload_n 1, 1) := by decide +kernel
theorem dX2_become_123 : decode cX2_become 123 = .ok (.getfield 36, 3) := by decide +kernel
theorem dX2_become_126 : decode cX2_become 126 = .ok (.iload_n 2, 1) := by decide +kernel
theorem dX2_become_127 : decode cX2_become 127 = .ok (.iaload, 1) := by decide +kernel
theorem dX2_become_128 : decode cX2_become 128 = .ok (.iastore, 1) := by decide +kernel
theorem dX2_become_129 : decode cX2_become 129 = .ok (.iinc 2 1, 3) := by decide +kernel
theorem dX2_become_132 : decode cX2_become 132 = .ok (.goto (-69), 3) := by decide +kernel
theorem dX2_become_135 : decode cX2_become 135 = .ok (.return_, 1) := by decide +kernel
theorem dX2_isShip_0 : decode cX2_isShip 0 = .ok (.iload_n 1, 1) := by decide +kernel
theorem dX2_isShip_1 : decode cX2_isShip 1 = .ok (.ifCond .lt 15, 3) := by decide +kernel
theorem dX2_isShip_4 : decode cX2_isShip 4 = .ok (.iload_n 1, 1) := by decide +kernel
theorem dX2_isShip_5 : decode cX2_isShip 5 = .ok (.aload_n 0, 1) := by decide +kernel
theorem dX2_isShip_6 : decode cX2_isShip 6 = .ok (.getfield 39, 3) := by decide +kernel
theorem dX2_isShip_9 : decode cX2_isShip 9 = .ok (.if_icmp .ge 7, 3) := by decide +kernel
theorem dX2_isShip_12 : decode cX2_isShip 12 = .ok (.iconst 1, 1) := by decide +kernel
theorem dX2_isShip_13 : decode cX2_isShip 13 = .ok (.goto 4, 3) := by decide +kernel
theorem dX2_isShip_16 : decode cX2_isShip 16 = .ok (.iconst 0, 1) := by decide +kernel
theorem dX2_isShip_17 : decode cX2_isShip 17 = .ok (.ireturn, 1) := by decide +kernel
theorem dX2_isMan_0 : decode cX2_isMan 0 = .ok (.iload_n 1, 1) := by decide +kernel
theorem dX2_isMan_1 : decode cX2_isMan 1 = .ok (.ifCond .lt 15, 3) := by decide +kernel
theorem dX2_isMan_4 : decode cX2_isMan 4 = .ok (.iload_n 1, 1) := by decide +kernel
theorem dX2_isMan_5 : decode cX2_isMan 5 = .ok (.aload_n 0, 1) := by decide +kernel
theorem dX2_isMan_6 : decode cX2_isMan 6 = .ok (.getfield 43, 3) := by decide +kernel
theorem dX2_isMan_9 : decode cX2_isMan 9 = .ok (.if_icmp .ge 7, 3) := by decide +kernel
theorem dX2_isMan_12 : decode cX2_isMan 12 = .ok (.iconst 1, 1) := by decide +kernel
theorem dX2_isMan_13 : decode cX2_isMan 13 = .ok (.goto 4, 3) := by decide +kernel
theorem dX2_isMan_16 : decode cX2_isMan 16 = .ok (.iconst 0, 1) := by decide +kernel
theorem dX2_isMan_17 : decode cX2_isMan 17 = .ok (.ireturn, 1) := by decide +kernel
theorem dX2_areUnlikeShips_0 : decode cX2_areUnlikeShips 0 = .ok (.aload_n 0, 1) := by decide +kernel
theorem dX2_areUnlikeShips_1 : decode cX2_areUnlikeShips 1 = .ok (.iload_n 1, 1) := by decide +kernel
theorem dX2_areUnlikeShips_2 : decode cX2_areUnlikeShips 2 = .ok (.invokevirtual 49, 3) := by decide +kernel
theorem dX2_areUnlikeShips_5 : decode cX2_areUnlikeShips 5 = .ok (.ifCond .eq 20, 3) := by decide +kernel
theorem dX2_areUnlikeShips_8 : decode cX2_areUnlikeShips 8 = .ok (.aload_n 0, 1) := by decide +kernel
theorem dX2_areUnlikeShips_9 : decode cX2_areUnlikeShips 9 = .ok (.iload_n 2, 1) := by decide +kernel
theorem dX2_areUnlikeShips_10 : decode cX2_areUnlikeShips 10 = .ok (.invokevirtual 49, 3) := by decide +kernel
theorem dX2_areUnlikeShips_13 : decode cX2_areUnlikeShips 13 = .ok (.ifCond .eq 12, 3) := by decide +kernel
theorem dX2_areUnlikeShips_16 : decode cX2_areUnlikeShips 16 = .ok (.iload_n 1, 1) := by decide +kernel
theorem dX2_areUnlikeShips_17 : decode cX2_areUnlikeShips 17 = .ok (.iload_n 2, 1) := by decide +kernel
theorem dX2_areUnlikeShips_18 : decode cX2_areUnlikeShips 18 = .ok (.if_icmp .eq 7, 3) := by decide +kernel
theorem dX2_areUnlikeShips_21 : decode cX2_areUnlikeShips 21 = .ok (.iconst 1, 1) := by decide +kernel
theorem dX2_areUnlikeShips_22 : decode cX2_areUnlikeShips 22 = .ok (.goto 4, 3) := by decide +kernel
theorem dX2_areUnlikeShips_25 : decode cX2_areUnlikeShips 25 = .ok (.iconst 0, 1) := by decide +kernel
theorem dX2_areUnlikeShips_26 : decode cX2_areUnlikeShips 26 = .ok (.ireturn, 1) := by decide +kernel
theorem dX2_canMeet_0 : decode cX2_canMeet 0 = .ok (.aload_n 0, 1) := by decide +kernel
theorem dX2_canMeet_1 : decode cX2_canMeet 1 = .ok (.iload_n 1, 1) := by decide +kernel
theorem dX2_canMeet_2 : decode cX2_canMeet 2 = .ok (.iload_n 2, 1) := by decide +kernel
theorem dX2_canMeet_3 : decode cX2_canMeet 3 = .ok (.invokevirtual 53, 3) := by decide +kernel
theorem dX2_canMeet_6 : decode cX2_canMeet 6 = .ok (.ifCond .eq 25, 3) := by decide +kernel
theorem dX2_canMeet_9 : decode cX2_canMeet 9 = .ok (.aload_n 0, 1) := by decide +kernel
theorem dX2_canMeet_10 : decode cX2_canMeet 10 = .ok (.getfield 20, 3) := by decide +kernel
theorem dX2_canMeet_13 : decode cX2_canMeet 13 = .ok (.iload_n 1, 1) := by decide +kernel
theorem dX2_canMeet_14 : decode cX2_canMeet 14 = .ok (.iaload, 1) := by decide +kernel
theorem dX2_canMeet_15 : decode cX2_canMeet 15 = .ok (.ifCond .eq 16, 3) := by decide +kernel
theorem dX2_canMeet_18 : decode cX2_canMeet 18 = .ok (.aload_n 0, 1) := by decide +kernel
theorem dX2_canMeet_19 : decode cX2_canMeet 19 = .ok (.getfield 20, 3) := by decide +kernel
theorem dX2_canMeet_22 : decode cX2_canMeet 22 = .ok (.iload_n 2, 1) := by decide +kernel
theorem dX2_canMeet_23 : decode cX2_canMeet 23 = .ok (.iaload, 1) := by decide +kernel
theorem dX2_canMeet_24 : decode cX2_canMeet 24 = .ok (.ifCond .eq 7, 3) := by decide +kernel
theorem dX2_canMeet_27 : decode cX2_canMeet 27 = .ok (.iconst 1, 1) := by decide +kernel
theorem dX2_canMeet_28 : decode cX2_canMeet 28 = .ok (.goto 4, 3) := by decide +kernel
theorem dX2_canMeet_31 : decode cX2_canMeet 31 = .ok (.iconst 0, 1) := by decide +kernel
theorem dX2_canMeet_32 : decode cX2_canMeet 32 = .ok (.ireturn, 1) := by decide +kernel
theorem dX2_isAlone_0 : decode cX2_isAlone 0 = .ok (.aload_n 0, 1) := by decide +kernel
theorem dX2_isAlone_1 : decode cX2_isAlone 1 = .ok (.getfield 20, 3) := by decide +kernel
theorem dX2_isAlone_4 : decode cX2_isAlone 4 = .ok (.iload_n 1, 1) := by decide +kernel
theorem dX2_isAlone_5 : decode cX2_isAlone 5 = .ok (.iaload, 1) := by decide +kernel
theorem dX2_isAlone_6 : decode cX2_isAlone 6 = .ok (.invokestatic 57, 3) := by decide +kernel
theorem dX2_isAlone_9 : decode cX2_isAlone 9 = .ok (.iconst 1, 1) := by decide +kernel
theorem dX2_isAlone_10 : decode cX2_isAlone 10 = .ok (.if_icmp .ne 7, 3) := by decide +kernel
theorem dX2_isAlone_13 : decode cX2_isAlone 13 = .ok (.iconst 1, 1) := by decide +kernel
theorem dX2_isAlone_14 : decode cX2_isAlone 14 = .ok (.goto 4, 3) := by decide +kernel
theorem dX2_isAlone_17 : decode cX2_isAlone 17 = .ok (.iconst 0, 1) := by decide +kernel
theorem dX2_isAlone_18 : decode cX2_isAlone 18 = .ok (.ireturn, 1) := by decide +kernel
theorem dX2_takesShip_0 : decode cX2_takesShip 0 = .ok (.aload_n 0, 1) := by decide +kernel
theorem dX2_takesShip_1 : decode cX2_takesShip 1 = .ok (.getfield 39, 3) := by decide +kernel
theorem dX2_takesShip_4 : decode cX2_takesShip 4 = .ok (.iconst 5, 1) := by decide +kernel
theorem dX2_takesShip_5 : decode cX2_takesShip 5 = .ok (.if_icmp .lt 5, 3) := by decide +kernel
theorem dX2_takesShip_8 : decode cX2_takesShip 8 = .ok (.iconst 0, 1) := by decide +kernel
theorem dX2_takesShip_9 : decode cX2_takesShip 9 = .ok (.ireturn, 1) := by decide +kernel
theorem dX2_takesShip_10 : decode cX2_takesShip 10 = .ok (.aload_n 0, 1) := by decide +kernel
theorem dX2_takesShip_11 : decode cX2_takesShip 11 = .ok (.getfield 11, 3) := by decide +kernel
theorem dX2_takesShip_14 : decode cX2_takesShip 14 = .ok (.aload_n 0, 1) := by decide +kernel
theorem dX2_takesShip_15 : decode cX2_takesShip 15 = .ok (.getfield 39, 3) := by decide +kernel
theorem dX2_takesShip_18 : decode cX2_takesShip 18 = .ok (.aload_n 1, 1) := by decide +kernel
theorem dX2_takesShip_19 : decode cX2_takesShip 19 = .ok (.aastore, 1) := by decide +kernel
theorem dX2_takesShip_20 : decode cX2_takesShip 20 = .ok (.aload_n 0, 1) := by decide +kernel
theorem dX2_takesShip_21 : decode cX2_takesShip 21 = .ok (.getfield 20, 3) := by decide +kernel
theorem dX2_takesShip_24 : decode cX2_takesShip 24 = .ok (.aload_n 0, 1) := by decide +kernel
theorem dX2_takesShip_25 : decode cX2_takesShip 25 = .ok (.getfield 39, 3) := by decide +kernel
theorem dX2_takesShip_28 : decode cX2_takesShip 28 = .ok (.iconst 0, 1) := by decide +kernel
theorem dX2_takesShip_29 : decode cX2_takesShip 29 = .ok (.iastore, 1) := by decide +kernel
theorem dX2_takesShip_30 : decode cX2_takesShip 30 = .ok (.aload_n 0, 1) := by decide +kernel
theorem dX2_takesShip_31 : decode cX2_takesShip 31 = .ok (.dup, 1) := by decide +kernel
theorem dX2_takesShip_32 : decode cX2_takesShip 32 = .ok (.getfield 39, 3) := by decide +kernel
theorem dX2_takesShip_35 : decode cX2_takesShip 35 = .ok (.iconst 1, 1) := by decide +kernel
theorem dX2_takesShip_36 : decode cX2_takesShip 36 = .ok (.iadd, 1) := by decide +kernel
theorem dX2_takesShip_37 : decode cX2_takesShip 37 = .ok (.putfield 39, 3) := by decide +kernel
theorem dX2_takesShip_40 : decode cX2_takesShip 40 = .ok (.iconst 1, 1) := by decide +kernel
theorem dX2_takesShip_41 : decode cX2_takesShip 41 = .ok (.ireturn, 1) := by decide +kernel
theorem dX2_takesMan_0 : decode cX2_takesMan 0 = .ok (.aload_n 0, 1) := by decide +kernel
theorem dX2_takesMan_1 : decode cX2_takesMan 1 = .ok (.iload_n 1, 1) := by decide +kernel
theorem dX2_takesMan_2 : decode cX2_takesMan 2 = .ok (.invokevirtual 49, 3) := by decide +kernel
theorem dX2_takesMan_5 : decode cX2_takesMan 5 = .ok (.ifCond .eq 25, 3) := by decide +kernel
theorem dX2_takesMan_8 : decode cX2_takesMan 8 = .ok (.iload_n 2, 1) := by decide +kernel
theorem dX2_takesMan_9 : decode cX2_takesMan 9 = .ok (.ifCond .lt 21, 3) := by decide +kernel
theorem dX2_takesMan_12 : decode cX2_takesMan 12 = .ok (.iload_n 2, 1) := by decide +kernel
theorem dX2_takesMan_13 : decode cX2_takesMan 13 = .ok (.iconst 4, 1) := by decide +kernel
theorem dX2_takesMan_14 : decode cX2_takesMan 14 = .ok (.if_icmp .ge 16, 3) := by decide +kernel
theorem dX2_takesMan_17 : decode cX2_takesMan 17 = .ok (.iload_n 3, 1) := by decide +kernel
theorem dX2_takesMan_18 : decode cX2_takesMan 18 = .ok (.ifCond .lt 12, 3) := by decide +kernel
theorem dX2_takesMan_21 : decode cX2_takesMan 21 = .ok (.iload_n 3, 1) := by decide +kernel
theorem dX2_takesMan_22 : decode cX2_takesMan 22 = .ok (.iconst 4, 1) := by decide +kernel
theorem dX2_takesMan_23 : decode cX2_takesMan 23 = .ok (.if_icmp .ge 7, 3) := by decide +kernel
theorem dX2_takesMan_26 : decode cX2_takesMan 26 = .ok (.iconst 1, 1) := by decide +kernel
theorem dX2_takesMan_27 : decode cX2_takesMan 27 = .ok (.goto 4, 3) := by decide +kernel
theorem dX2_takesMan_30 : decode cX2_takesMan 30 = .ok (.iconst 0, 1) := by decide +kernel
theorem dX2_takesMan_31 : decode cX2_takesMan 31 = .ok (.istore 4, 2) := by decide +kernel
theorem dX2_takesMan_33 : decode cX2_takesMan 33 = .ok (.iload 4, 2) := by decide +kernel
theorem dX2_takesMan_35 : decode cX2_takesMan 35 = .ok (.ifCond .eq 12, 3) := by decide +kernel
theorem dX2_takesMan_38 : decode cX2_takesMan 38 = .ok (.aload_n 0, 1) := by decide +kernel
theorem dX2_takesMan_39 : decode cX2_takesMan 39 = .ok (.getfield 43, 3) := by decide +kernel
theorem dX2_takesMan_42 : decode cX2_takesMan 42 = .ok (.bipush 12, 2) := by decide +kernel
theorem dX2_takesMan_44 : decode cX2_takesMan 44 = .ok (.if_icmp .lt 5, 3) := by decide +kernel
theorem dX2_takesMan_47 : decode cX2_takesMan 47 = .ok (.iconst 0, 1) := by decide +kernel
theorem dX2_takesMan_48 : decode cX2_takesMan 48 = .ok (.ireturn, 1) := by decide +kernel
theorem dX2_takesMan_49 : decode cX2_takesMan 49 = .ok (.aload_n 0, 1) := by decide +kernel
theorem dX2_takesMan_50 : decode cX2_takesMan 50 = .ok (.getfield 24, 3) := by decide +kernel
theorem dX2_takesMan_53 : decode cX2_takesMan 53 = .ok (.aload_n 0, 1) := by decide +kernel
theorem dX2_takesMan_54 : decode cX2_takesMan 54 = .ok (.getfield 43, 3) := by decide +kernel
theorem dX2_takesMan_57 : decode cX2_takesMan 57 = .ok (.iload_n 1, 1) := by decide +kernel
theorem dX2_takesMan_58 : decode cX2_takesMan 58 = .ok (.iastore, 1) := by decide +kernel
theorem dX2_takesMan_59 : decode cX2_takesMan 59 = .ok (.aload_n 0, 1) := by decide +kernel
theorem dX2_takesMan_60 : decode cX2_takesMan 60 = .ok (.getfield 27, 3) := by decide +kernel
theorem dX2_takesMan_63 : decode cX2_takesMan 63 = .ok (.aload_n 0, 1) := by decide +kernel
theorem dX2_takesMan_64 : decode cX2_takesMan 64 = .ok (.getfield 43, 3) := by decide +kernel
theorem dX2_takesMan_67 : decode cX2_takesMan 67 = .ok (.iload_n 2, 1) := by decide +kernel
theorem dX2_takesMan_68 : decode cX2_takesMan 68 = .ok (.iastore, 1) := by decide +kernel
theorem dX2_takesMan_69 : decode cX2_takesMan 69 = .ok (.aload_n 0, 1) := by decide +kernel
theorem dX2_takesMan_70 : decode cX2_takesMan 70 = .ok (.getfield 30, 3) := by decide +kernel
theorem dX2_takesMan_73 : decode cX2_takesMan 73 = .ok (.aload_n 0, 1) := by decide +kernel
theorem dX2_takesMan_74 : decode cX2_takesMan 74 = .ok (.getfield 43, 3) := by decide +kernel
theorem dX2_takesMan_77 : decode cX2_takesMan 77 = .ok (.iload_n 3, 1) := by decide +kernel
theorem dX2_takesMan_78 : decode cX2_takesMan 78 = .ok (.iastore, 1) := by decide +kernel
theorem dX2_takesMan_79 : decode cX2_takesMan 79 = .ok (.aload_n 0, 1) := by decide +kernel
theorem dX2_takesMan_80 : decode cX2_takesMan 80 = .ok (.getfield 33, 3) := by decide +kernel
theorem dX2_takesMan_83 : decode cX2_takesMan 83 = .ok (.aload_n 0, 1) := by decide +kernel
theorem dX2_takesMan_84 : decode cX2_takesMan 84 = .ok (.getfield 43, 3) := by decide +kernel
theorem dX2_takesMan_87 : decode cX2_takesMan 87 = .ok (.iconst 0, 1) := by decide +kernel
theorem dX2_takesMan_88 : decode cX2_takesMan 88 = .ok (.iastore, 1) := by decide +kernel
theorem dX2_takesMan_89 : decode cX2_takesMan 89 = .ok (.aload_n 0, 1) := by decide +kernel
theorem dX2_takesMan_90 : decode cX2_takesMan 90 = .ok (.getfield 36, 3) := by decide +kernel
theorem dX2_takesMan_93 : decode cX2_takesMan 93 = .ok (.aload_n 0, 1) := by decide +kernel
theorem dX2_takesMan_94 : decode cX2_takesMan 94 = .ok (.getfield 43, 3) := by decide +kernel
theorem dX2_takesMan_97 : decode cX2_takesMan 97 = .ok (.iconst 0, 1) := by decide +kernel
theorem dX2_takesMan_98 : decode cX2_takesMan 98 = .ok (.iastore, 1) := by decide +kernel
theorem dX2_takesMan_99 : decode cX2_takesMan 99 = .ok (.aload_n 0, 1) := by decide +kernel
theorem dX2_takesMan_100 : decode cX2_takesMan 100 = .ok (.getfield 20, 3) := by decide +kernel
theorem dX2_takesMan_103 : decode cX2_takesMan 103 = .ok (.iload_n 1, 1) := by decide +kernel
theorem dX2_takesMan_104 : decode cX2_takesMan 104 = .ok (.dup2, 1) := by decide +kernel
theorem dX2_takesMan_105 : decode cX2_takesMan 105 = .ok (.iaload, 1) := by decide +kernel
theorem dX2_takesMan_106 : decode cX2_takesMan 106 = .ok (.iconst 1, 1) := by decide +kernel
theorem dX2_takesMan_107 : decode cX2_takesMan 107 = .ok (.aload_n 0, 1) := by decide +kernel
theorem dX2_takesMan_108 : decode cX2_takesMan 108 = .ok (.getfield 43, 3) := by decide +kernel
theorem dX2_takesMan_111 : decode cX2_takesMan 111 = .ok (.ishl, 1) := by decide +kernel
theorem dX2_takesMan_112 : decode cX2_takesMan 112 = .ok (.ior, 1) := by decide +kernel
theorem dX2_takesMan_113 : decode cX2_takesMan 113 = .ok (.iastore, 1) := by decide +kernel
theorem dX2_takesMan_114 : decode cX2_takesMan 114 = .ok (.aload_n 0, 1) := by decide +kernel
theorem dX2_takesMan_115 : decode cX2_takesMan 115 = .ok (.dup, 1) := by decide +kernel
theorem dX2_takesMan_116 : decode cX2_takesMan 116 = .ok (.getfield 43, 3) := by decide +kernel
theorem dX2_takesMan_119 : decode cX2_takesMan 119 = .ok (.iconst 1, 1) := by decide +kernel
theorem dX2_takesMan_120 : decode cX2_takesMan 120 = .ok (.iadd, 1) := by decide +kernel
theorem dX2_takesMan_121 : decode cX2_takesMan 121 = .ok (.putfield 43, 3) := by decide +kernel
theorem dX2_takesMan_124 : decode cX2_takesMan 124 = .ok (.aload_n 0, 1) := by decide +kernel
theorem dX2_takesMan_125 : decode cX2_takesMan 125 = .ok (.iload_n 1, 1) := by decide +kernel
theorem dX2_takesMan_126 : decode cX2_takesMan 126 = .ok (.invokevirtual 63, 3) := by decide +kernel
theorem dX2_takesMan_129 : decode cX2_takesMan 129 = .ok (.iconst 1, 1) := by decide +kernel
theorem dX2_takesMan_130 : decode cX2_takesMan 130 = .ok (.ireturn, 1) := by decide +kernel
theorem dX2_giver_0 : decode cX2_giver 0 = .ok (.aload_n 0, 1) := by decide +kernel
theorem dX2_giver_1 : decode cX2_giver 1 = .ok (.iload_n 1, 1) := by decide +kernel
theorem dX2_giver_2 : decode cX2_giver 2 = .ok (.invokevirtual 49, 3) := by decide +kernel
theorem dX2_giver_5 : decode cX2_giver 5 = .ok (.ifCond .eq 22, 3) := by decide +kernel
theorem dX2_giver_8 : decode cX2_giver 8 = .ok (.aload_n 0, 1) := by decide +kernel
theorem dX2_giver_9 : decode cX2_giver 9 = .ok (.getfield 11, 3) := by decide +kernel
theorem dX2_giver_12 : decode cX2_giver 12 = .ok (.iload_n 1, 1) := by decide +kernel
theorem dX2_giver_13 : decode cX2_giver 13 = .ok (.aaload, 1) := by decide +kernel
theorem dX2_giver_14 : decode cX2_giver 14 = .ok (.aload_n 0, 1) := by decide +kernel
theorem dX2_giver_15 : decode cX2_giver 15 = .ok (.aload_n 0, 1) := by decide +kernel
theorem dX2_giver_16 : decode cX2_giver 16 = .ok (.getfield 20, 3) := by decide +kernel
theorem dX2_giver_19 : decode cX2_giver 19 = .ok (.iload_n 1, 1) := by decide +kernel
theorem dX2_giver_20 : decode cX2_giver 20 = .ok (.iaload, 1) := by decide +kernel
theorem dX2_giver_21 : decode cX2_giver 21 = .ok (.invokevirtual 67, 3) := by decide +kernel
theorem dX2_giver_24 : decode cX2_giver 24 = .ok (.goto 5, 3) := by decide +kernel
theorem dX2_giver_27 : decode cX2_giver 27 = .ok (.bipush (-4), 2) := by decide +kernel
theorem dX2_giver_29 : decode cX2_giver 29 = .ok (.ireturn, 1) := by decide +kernel
theorem dX2_fillGivers_0 : decode cX2_fillGivers 0 = .ok (.iconst 0, 1) := by decide +kernel
theorem dX2_fillGivers_1 : decode cX2_fillGivers 1 = .ok (.istore_n 2, 1) := by decide +kernel
theorem dX2_fillGivers_2 : decode cX2_fillGivers 2 = .ok (.iload_n 2, 1) := by decide +kernel
theorem dX2_fillGivers_3 : decode cX2_fillGivers 3 = .ok (.iconst 5, 1) := by decide +kernel
theorem dX2_fillGivers_4 : decode cX2_fillGivers 4 = .ok (.if_icmp .ge 23, 3) := by decide +kernel
theorem dX2_fillGivers_7 : decode cX2_fillGivers 7 = .ok (.iload_n 2, 1) := by decide +kernel
theorem dX2_fillGivers_8 : decode cX2_fillGivers 8 = .ok (.aload_n 1, 1) := by decide +kernel
theorem dX2_fillGivers_9 : decode cX2_fillGivers 9 = .ok (.arraylength, 1) := by decide +kernel
theorem dX2_fillGivers_10 : decode cX2_fillGivers 10 = .ok (.if_icmp .ge 17, 3) := by decide +kernel
theorem dX2_fillGivers_13 : decode cX2_fillGivers 13 = .ok (.aload_n 1, 1) := by decide +kernel
theorem dX2_fillGivers_14 : decode cX2_fillGivers 14 = .ok (.iload_n 2, 1) := by decide +kernel
theorem dX2_fillGivers_15 : decode cX2_fillGivers 15 = .ok (.aload_n 0, 1) := by decide +kernel
theorem dX2_fillGivers_16 : decode cX2_fillGivers 16 = .ok (.iload_n 2, 1) := by decide +kernel
theorem dX2_fillGivers_17 : decode cX2_fillGivers 17 = .ok (.invokevirtual 71, 3) := by decide +kernel
theorem dX2_fillGivers_20 : decode cX2_fillGivers 20 = .ok (.iastore, 1) := by decide +kernel
theorem dX2_fillGivers_21 : decode cX2_fillGivers 21 = .ok (.iinc 2 1, 3) := by decide +kernel
theorem dX2_fillGivers_24 : decode cX2_fillGivers 24 = .ok (.goto (-22), 3) := by decide +kernel
theorem dX2_fillGivers_27 : decode cX2_fillGivers 27 = .ok (.return_, 1) := by decide +kernel
theorem dX2_holdMeeting_0 : decode cX2_holdMeeting 0 = .ok (.aload_n 0, 1) := by decide +kernel
theorem dX2_holdMeeting_1 : decode cX2_holdMeeting 1 = .ok (.iload_n 1, 1) := by decide +kernel
theorem dX2_holdMeeting_2 : decode cX2_holdMeeting 2 = .ok (.iload_n 2, 1) := by decide +kernel
theorem dX2_holdMeeting_3 : decode cX2_holdMeeting 3 = .ok (.invokevirtual 74, 3) := by decide +kernel
theorem dX2_holdMeeting_6 : decode cX2_holdMeeting 6 = .ok (.ifCond .ne 5, 3) := by decide +kernel
theorem dX2_holdMeeting_9 : decode cX2_holdMeeting 9 = .ok (.iconst 0, 1) := by decide +kernel
theorem dX2_holdMeeting_10 : decode cX2_holdMeeting 10 = .ok (.ireturn, 1) := by decide +kernel
theorem dX2_holdMeeting_11 : decode cX2_holdMeeting 11 = .ok (.aload_n 0, 1) := by decide +kernel
theorem dX2_holdMeeting_12 : decode cX2_holdMeeting 12 = .ok (.iload_n 1, 1) := by decide +kernel
theorem dX2_holdMeeting_13 : decode cX2_holdMeeting 13 = .ok (.iload_n 2, 1) := by decide +kernel
theorem dX2_holdMeeting_14 : decode cX2_holdMeeting 14 = .ok (.aload_n 0, 1) := by decide +kernel
theorem dX2_holdMeeting_15 : decode cX2_holdMeeting 15 = .ok (.iload_n 1, 1) := by decide +kernel
theorem dX2_holdMeeting_16 : decode cX2_holdMeeting 16 = .ok (.invokevirtual 71, 3) := by decide +kernel
theorem dX2_holdMeeting_19 : decode cX2_holdMeeting 19 = .ok (.aload_n 0, 1) := by decide +kernel
theorem dX2_holdMeeting_20 : decode cX2_holdMeeting 20 = .ok (.iload_n 2, 1) := by decide +kernel
theorem dX2_holdMeeting_21 : decode cX2_holdMeeting 21 = .ok (.invokevirtual 71, 3) := by decide +kernel
theorem dX2_holdMeeting_24 : decode cX2_holdMeeting 24 = .ok (.invokevirtual 77, 3) := by decide +kernel
theorem dX2_holdMeeting_27 : decode cX2_holdMeeting 27 = .ok (.aload_n 0, 1) := by decide +kernel
theorem dX2_holdMeeting_28 : decode cX2_holdMeeting 28 = .ok (.iload_n 1, 1) := by decide +kernel
theorem dX2_holdMeeting_29 : decode cX2_holdMeeting 29 = .ok (.invokevirtual 63, 3) := by decide +kernel
theorem dX2_holdMeeting_32 : decode cX2_holdMeeting 32 = .ok (.aload_n 0, 1) := by decide +kernel
theorem dX2_holdMeeting_33 : decode cX2_holdMeeting 33 = .ok (.iload_n 2, 1) := by decide +kernel
theorem dX2_holdMeeting_34 : decode cX2_holdMeeting 34 = .ok (.invokevirtual 63, 3) := by decide +kernel
theorem dX2_holdMeeting_37 : decode cX2_holdMeeting 37 = .ok (.iconst 1, 1) := by decide +kernel
theorem dX2_holdMeeting_38 : decode cX2_holdMeeting 38 = .ok (.ireturn, 1) := by decide +kernel
theorem dX2_holdTold_0 : decode cX2_holdTold 0 = .ok (.aload_n 0, 1) := by decide +kernel
theorem dX2_holdTold_1 : decode cX2_holdTold 1 = .ok (.aload_n 1, 1) := by decide +kernel
theorem dX2_holdTold_2 : decode cX2_holdTold 2 = .ok (.iload_n 2, 1) := by decide +kernel
theorem dX2_holdTold_3 : decode cX2_holdTold 3 = .ok (.invokevirtual 81, 3) := by decide +kernel
theorem dX2_holdTold_6 : decode cX2_holdTold 6 = .ok (.aload_n 1, 1) := by decide +kernel
theorem dX2_holdTold_7 : decode cX2_holdTold 7 = .ok (.iload_n 2, 1) := by decide +kernel
theorem dX2_holdTold_8 : decode cX2_holdTold 8 = .ok (.invokevirtual 86, 3) := by decide +kernel
theorem dX2_holdTold_11 : decode cX2_holdTold 11 = .ok (.invokevirtual 89, 3) := by decide +kernel
theorem dX2_holdTold_14 : decode cX2_holdTold 14 = .ok (.pop, 1) := by decide +kernel
theorem dX2_holdTold_15 : decode cX2_holdTold 15 = .ok (.return_, 1) := by decide +kernel
theorem dX2_exchange_0 : decode cX2_exchange 0 = .ok (.aload_n 0, 1) := by decide +kernel
theorem dX2_exchange_1 : decode cX2_exchange 1 = .ok (.iload_n 3, 1) := by decide +kernel
theorem dX2_exchange_2 : decode cX2_exchange 2 = .ok (.invokevirtual 92, 3) := by decide +kernel
theorem dX2_exchange_5 : decode cX2_exchange 5 = .ok (.ifCond .eq 12, 3) := by decide +kernel
theorem dX2_exchange_8 : decode cX2_exchange 8 = .ok (.aload_n 0, 1) := by decide +kernel
theorem dX2_exchange_9 : decode cX2_exchange 9 = .ok (.iload 4, 2) := by decide +kernel
theorem dX2_exchange_11 : decode cX2_exchange 11 = .ok (.invokevirtual 92, 3) := by decide +kernel
theorem dX2_exchange_14 : decode cX2_exchange 14 = .ok (.ifCond .ne 4, 3) := by decide +kernel
theorem dX2_exchange_17 : decode cX2_exchange 17 = .ok (.return_, 1) := by decide +kernel
theorem dX2_exchange_18 : decode cX2_exchange 18 = .ok (.aload_n 0, 1) := by decide +kernel
theorem dX2_exchange_19 : decode cX2_exchange 19 = .ok (.iload_n 3, 1) := by decide +kernel
theorem dX2_exchange_20 : decode cX2_exchange 20 = .ok (.iload_n 1, 1) := by decide +kernel
theorem dX2_exchange_21 : decode cX2_exchange 21 = .ok (.iload_n 2, 1) := by decide +kernel
theorem dX2_exchange_22 : decode cX2_exchange 22 = .ok (.invokevirtual 95, 3) := by decide +kernel
theorem dX2_exchange_25 : decode cX2_exchange 25 = .ok (.aload_n 0, 1) := by decide +kernel
theorem dX2_exchange_26 : decode cX2_exchange 26 = .ok (.iload 4, 2) := by decide +kernel
theorem dX2_exchange_28 : decode cX2_exchange 28 = .ok (.iload_n 2, 1) := by decide +kernel
theorem dX2_exchange_29 : decode cX2_exchange 29 = .ok (.iload_n 1, 1) := by decide +kernel
theorem dX2_exchange_30 : decode cX2_exchange 30 = .ok (.invokevirtual 95, 3) := by decide +kernel
theorem dX2_exchange_33 : decode cX2_exchange 33 = .ok (.aload_n 0, 1) := by decide +kernel
theorem dX2_exchange_34 : decode cX2_exchange 34 = .ok (.dup, 1) := by decide +kernel
theorem dX2_exchange_35 : decode cX2_exchange 35 = .ok (.getfield 46, 3) := by decide +kernel
theorem dX2_exchange_38 : decode cX2_exchange 38 = .ok (.iconst 1, 1) := by decide +kernel
theorem dX2_exchange_39 : decode cX2_exchange 39 = .ok (.iadd, 1) := by decide +kernel
theorem dX2_exchange_40 : decode cX2_exchange 40 = .ok (.putfield 46, 3) := by decide +kernel
theorem dX2_exchange_43 : decode cX2_exchange 43 = .ok (.aload_n 0, 1) := by decide +kernel
theorem dX2_exchange_44 : decode cX2_exchange 44 = .ok (.getfield 33, 3) := by decide +kernel
theorem dX2_exchange_47 : decode cX2_exchange 47 = .ok (.iload_n 3, 1) := by decide +kernel
theorem dX2_exchange_48 : decode cX2_exchange 48 = .ok (.aload_n 0, 1) := by decide +kernel
theorem dX2_exchange_49 : decode cX2_exchange 49 = .ok (.getfield 46, 3) := by decide +kernel
theorem dX2_exchange_52 : decode cX2_exchange 52 = .ok (.iastore, 1) := by decide +kernel
theorem dX2_exchange_53 : decode cX2_exchange 53 = .ok (.aload_n 0, 1) := by decide +kernel
theorem dX2_exchange_54 : decode cX2_exchange 54 = .ok (.getfield 33, 3) := by decide +kernel
theorem dX2_exchange_57 : decode cX2_exchange 57 = .ok (.iload 4, 2) := by decide +kernel
theorem dX2_exchange_59 : decode cX2_exchange 59 = .ok (.aload_n 0, 1) := by decide +kernel
theorem dX2_exchange_60 : decode cX2_exchange 60 = .ok (.getfield 46, 3) := by decide +kernel
theorem dX2_exchange_63 : decode cX2_exchange 63 = .ok (.iastore, 1) := by decide +kernel
theorem dX2_exchange_64 : decode cX2_exchange 64 = .ok (.return_, 1) := by decide +kernel
theorem dX2_takeBack_0 : decode cX2_takeBack 0 = .ok (.aload_n 0, 1) := by decide +kernel
theorem dX2_takeBack_1 : decode cX2_takeBack 1 = .ok (.iload_n 3, 1) := by decide +kernel
theorem dX2_takeBack_2 : decode cX2_takeBack 2 = .ok (.iload_n 2, 1) := by decide +kernel
theorem dX2_takeBack_3 : decode cX2_takeBack 3 = .ok (.iload_n 1, 1) := by decide +kernel
theorem dX2_takeBack_4 : decode cX2_takeBack 4 = .ok (.invokevirtual 95, 3) := by decide +kernel
theorem dX2_takeBack_7 : decode cX2_takeBack 7 = .ok (.aload_n 0, 1) := by decide +kernel
theorem dX2_takeBack_8 : decode cX2_takeBack 8 = .ok (.iload 4, 2) := by decide +kernel
theorem dX2_takeBack_10 : decode cX2_takeBack 10 = .ok (.iload_n 1, 1) := by decide +kernel
theorem dX2_takeBack_11 : decode cX2_takeBack 11 = .ok (.iload_n 2, 1) := by decide +kernel
theorem dX2_takeBack_12 : decode cX2_takeBack 12 = .ok (.invokevirtual 95, 3) := by decide +kernel
theorem dX2_takeBack_15 : decode cX2_takeBack 15 = .ok (.aload_n 0, 1) := by decide +kernel
theorem dX2_takeBack_16 : decode cX2_takeBack 16 = .ok (.dup, 1) := by decide +kernel
theorem dX2_takeBack_17 : decode cX2_takeBack 17 = .ok (.getfield 46, 3) := by decide +kernel
theorem dX2_takeBack_20 : decode cX2_takeBack 20 = .ok (.iconst 1, 1) := by decide +kernel
theorem dX2_takeBack_21 : decode cX2_takeBack 21 = .ok (.isub, 1) := by decide +kernel
theorem dX2_takeBack_22 : decode cX2_takeBack 22 = .ok (.putfield 46, 3) := by decide +kernel
theorem dX2_takeBack_25 : decode cX2_takeBack 25 = .ok (.aload_n 0, 1) := by decide +kernel
theorem dX2_takeBack_26 : decode cX2_takeBack 26 = .ok (.getfield 33, 3) := by decide +kernel
theorem dX2_takeBack_29 : decode cX2_takeBack 29 = .ok (.iload_n 3, 1) := by decide +kernel
theorem dX2_takeBack_30 : decode cX2_takeBack 30 = .ok (.iload 5, 2) := by decide +kernel
theorem dX2_takeBack_32 : decode cX2_takeBack 32 = .ok (.iastore, 1) := by decide +kernel
theorem dX2_takeBack_33 : decode cX2_takeBack 33 = .ok (.aload_n 0, 1) := by decide +kernel
theorem dX2_takeBack_34 : decode cX2_takeBack 34 = .ok (.getfield 33, 3) := by decide +kernel
theorem dX2_takeBack_37 : decode cX2_takeBack 37 = .ok (.iload 4, 2) := by decide +kernel
theorem dX2_takeBack_39 : decode cX2_takeBack 39 = .ok (.iload 6, 2) := by decide +kernel
theorem dX2_takeBack_41 : decode cX2_takeBack 41 = .ok (.iastore, 1) := by decide +kernel
theorem dX2_takeBack_42 : decode cX2_takeBack 42 = .ok (.return_, 1) := by decide +kernel
theorem dX2_bring_0 : decode cX2_bring 0 = .ok (.aload_n 0, 1) := by decide +kernel
theorem dX2_bring_1 : decode cX2_bring 1 = .ok (.getfield 20, 3) := by decide +kernel
theorem dX2_bring_4 : decode cX2_bring 4 = .ok (.iload_n 2, 1) := by decide +kernel
theorem dX2_bring_5 : decode cX2_bring 5 = .ok (.dup2, 1) := by decide +kernel
theorem dX2_bring_6 : decode cX2_bring 6 = .ok (.iaload, 1) := by decide +kernel
theorem dX2_bring_7 : decode cX2_bring 7 = .ok (.iconst 1, 1) := by decide +kernel
theorem dX2_bring_8 : decode cX2_bring 8 = .ok (.iload_n 1, 1) := by decide +kernel
theorem dX2_bring_9 : decode cX2_bring 9 = .ok (.ishl, 1) := by decide +kernel
theorem dX2_bring_10 : decode cX2_bring 10 = .ok (.iconst (-1), 1) := by decide +kernel
theorem dX2_bring_11 : decode cX2_bring 11 = .ok (.ixor, 1) := by decide +kernel
theorem dX2_bring_12 : decode cX2_bring 12 = .ok (.iand, 1) := by decide +kernel
theorem dX2_bring_13 : decode cX2_bring 13 = .ok (.iastore, 1) := by decide +kernel
theorem dX2_bring_14 : decode cX2_bring 14 = .ok (.aload_n 0, 1) := by decide +kernel
theorem dX2_bring_15 : decode cX2_bring 15 = .ok (.getfield 20, 3) := by decide +kernel
theorem dX2_bring_18 : decode cX2_bring 18 = .ok (.iload_n 3, 1) := by decide +kernel
theorem dX2_bring_19 : decode cX2_bring 19 = .ok (.dup2, 1) := by decide +kernel
theorem dX2_bring_20 : decode cX2_bring 20 = .ok (.iaload, 1) := by decide +kernel
theorem dX2_bring_21 : decode cX2_bring 21 = .ok (.iconst 1, 1) := by decide +kernel
theorem dX2_bring_22 : decode cX2_bring 22 = .ok (.iload_n 1, 1) := by decide +kernel
theorem dX2_bring_23 : decode cX2_bring 23 = .ok (.ishl, 1) := by decide +kernel
theorem dX2_bring_24 : decode cX2_bring 24 = .ok (.ior, 1) := by decide +kernel
theorem dX2_bring_25 : decode cX2_bring 25 = .ok (.iastore, 1) := by decide +kernel
theorem dX2_bring_26 : decode cX2_bring 26 = .ok (.aload_n 0, 1) := by decide +kernel
theorem dX2_bring_27 : decode cX2_bring 27 = .ok (.getfield 24, 3) := by decide +kernel
theorem dX2_bring_30 : decode cX2_bring 30 = .ok (.iload_n 1, 1) := by decide +kernel
theorem dX2_bring_31 : decode cX2_bring 31 = .ok (.iload_n 3, 1) := by decide +kernel
theorem dX2_bring_32 : decode cX2_bring 32 = .ok (.iastore, 1) := by decide +kernel
theorem dX2_bring_33 : decode cX2_bring 33 = .ok (.return_, 1) := by decide +kernel
theorem dX2_acquaint_0 : decode cX2_acquaint 0 = .ok (.iconst 0, 1) := by decide +kernel
theorem dX2_acquaint_1 : decode cX2_acquaint 1 = .ok (.istore_n 2, 1) := by decide +kernel
theorem dX2_acquaint_2 : decode cX2_acquaint 2 = .ok (.iload_n 2, 1) := by decide +kernel
theorem dX2_acquaint_3 : decode cX2_acquaint 3 = .ok (.aload_n 0, 1) := by decide +kernel
theorem dX2_acquaint_4 : decode cX2_acquaint 4 = .ok (.getfield 43, 3) := by decide +kernel
theorem dX2_acquaint_7 : decode cX2_acquaint 7 = .ok (.if_icmp .ge 40, 3) := by decide +kernel
theorem dX2_acquaint_10 : decode cX2_acquaint 10 = .ok (.aload_n 0, 1) := by decide +kernel
theorem dX2_acquaint_11 : decode cX2_acquaint 11 = .ok (.getfield 24, 3) := by decide +kernel
theorem dX2_acquaint_14 : decode cX2_acquaint 14 = .ok (.iload_n 2, 1) := by decide +kernel
theorem dX2_acquaint_15 : decode cX2_acquaint 15 = .ok (.iaload, 1) := by decide +kernel
theorem dX2_acquaint_16 : decode cX2_acquaint 16 = .ok (.iload_n 1, 1) := by decide +kernel
theorem dX2_acquaint_17 : decode cX2_acquaint 17 = .ok (.if_icmp .ne 24, 3) := by decide +kernel
theorem dX2_acquaint_20 : decode cX2_acquaint 20 = .ok (.aload_n 0, 1) := by decide +kernel
theorem dX2_acquaint_21 : decode cX2_acquaint 21 = .ok (.getfield 36, 3) := by decide +kernel
theorem dX2_acquaint_24 : decode cX2_acquaint 24 = .ok (.iload_n 2, 1) := by decide +kernel
theorem dX2_acquaint_25 : decode cX2_acquaint 25 = .ok (.dup2, 1) := by decide +kernel
theorem dX2_acquaint_26 : decode cX2_acquaint 26 = .ok (.iaload, 1) := by decide +kernel
theorem dX2_acquaint_27 : decode cX2_acquaint 27 = .ok (.aload_n 0, 1) := by decide +kernel
theorem dX2_acquaint_28 : decode cX2_acquaint 28 = .ok (.getfield 20, 3) := by decide +kernel
theorem dX2_acquaint_31 : decode cX2_acquaint 31 = .ok (.iload_n 1, 1) := by decide +kernel
theorem dX2_acquaint_32 : decode cX2_acquaint 32 = .ok (.iaload, 1) := by decide +kernel
theorem dX2_acquaint_33 : decode cX2_acquaint 33 = .ok (.iconst 1, 1) := by decide +kernel
theorem dX2_acquaint_34 : decode cX2_acquaint 34 = .ok (.iload_n 2, 1) := by decide +kernel
theorem dX2_acquaint_35 : decode cX2_acquaint 35 = .ok (.ishl, 1) := by decide +kernel
theorem dX2_acquaint_36 : decode cX2_acquaint 36 = .ok (.iconst (-1), 1) := by decide +kernel
theorem dX2_acquaint_37 : decode cX2_acquaint 37 = .ok (.ixor, 1) := by decide +kernel
theorem dX2_acquaint_38 : decode cX2_acquaint 38 = .ok (.iand, 1) := by decide +kernel
theorem dX2_acquaint_39 : decode cX2_acquaint 39 = .ok (.ior, 1) := by decide +kernel
theorem dX2_acquaint_40 : decode cX2_acquaint 40 = .ok (.iastore, 1) := by decide +kernel
theorem dX2_acquaint_41 : decode cX2_acquaint 41 = .ok (.iinc 2 1, 3) := by decide +kernel
theorem dX2_acquaint_44 : decode cX2_acquaint 44 = .ok (.goto (-42), 3) := by decide +kernel
theorem dX2_acquaint_47 : decode cX2_acquaint 47 = .ok (.return_, 1) := by decide +kernel
theorem dX2_speakers_0 : decode cX2_speakers 0 = .ok (.iconst 0, 1) := by decide +kernel
theorem dX2_speakers_1 : decode cX2_speakers 1 = .ok (.istore_n 3, 1) := by decide +kernel
theorem dX2_speakers_2 : decode cX2_speakers 2 = .ok (.iconst 0, 1) := by decide +kernel
theorem dX2_speakers_3 : decode cX2_speakers 3 = .ok (.istore 4, 2) := by decide +kernel
theorem dX2_speakers_5 : decode cX2_speakers 5 = .ok (.iload 4, 2) := by decide +kernel
theorem dX2_speakers_7 : decode cX2_speakers 7 = .ok (.aload_n 0, 1) := by decide +kernel
theorem dX2_speakers_8 : decode cX2_speakers 8 = .ok (.getfield 43, 3) := by decide +kernel
theorem dX2_speakers_11 : decode cX2_speakers 11 = .ok (.if_icmp .ge 32, 3) := by decide +kernel
theorem dX2_speakers_14 : decode cX2_speakers 14 = .ok (.iload_n 1, 1) := by decide +kernel
theorem dX2_speakers_15 : decode cX2_speakers 15 = .ok (.iload 4, 2) := by decide +kernel
theorem dX2_speakers_17 : decode cX2_speakers 17 = .ok (.invokestatic 99, 3) := by decide +kernel
theorem dX2_speakers_20 : decode cX2_speakers 20 = .ok (.ifCond .eq 17, 3) := by decide +kernel
theorem dX2_speakers_23 : decode cX2_speakers 23 = .ok (.aload_n 0, 1) := by decide +kernel
theorem dX2_speakers_24 : decode cX2_speakers 24 = .ok (.getfield 30, 3) := by decide +kernel
theorem dX2_speakers_27 : decode cX2_speakers 27 = .ok (.iload 4, 2) := by decide +kernel
theorem dX2_speakers_29 : decode cX2_speakers 29 = .ok (.iaload, 1) := by decide +kernel
theorem dX2_speakers_30 : decode cX2_speakers 30 = .ok (.iload_n 2, 1) := by decide +kernel
theorem dX2_speakers_31 : decode cX2_speakers 31 = .ok (.if_icmp .ne 6, 3) := by decide +kernel
theorem dX2_speakers_34 : decode cX2_speakers 34 = .ok (.iinc 3 1, 3) := by decide +kernel
theorem dX2_speakers_37 : decode cX2_speakers 37 = .ok (.iinc 4 1, 3) := by decide +kernel
theorem dX2_speakers_40 : decode cX2_speakers 40 = .ok (.goto (-35), 3) := by decide +kernel
theorem dX2_speakers_43 : decode cX2_speakers 43 = .ok (.iload_n 3, 1) := by decide +kernel
theorem dX2_speakers_44 : decode cX2_speakers 44 = .ok (.ireturn, 1) := by decide +kernel
theorem dX2_hasTrade_0 : decode cX2_hasTrade 0 = .ok (.iconst 0, 1) := by decide +kernel
theorem dX2_hasTrade_1 : decode cX2_hasTrade 1 = .ok (.istore_n 3, 1) := by decide +kernel
theorem dX2_hasTrade_2 : decode cX2_hasTrade 2 = .ok (.iload_n 3, 1) := by decide +kernel
theorem dX2_hasTrade_3 : decode cX2_hasTrade 3 = .ok (.aload_n 0, 1) := by decide +kernel
theorem dX2_hasTrade_4 : decode cX2_hasTrade 4 = .ok (.getfield 43, 3) := by decide +kernel
theorem dX2_hasTrade_7 : decode cX2_hasTrade 7 = .ok (.if_icmp .ge 31, 3) := by decide +kernel
theorem dX2_hasTrade_10 : decode cX2_hasTrade 10 = .ok (.aload_n 0, 1) := by decide +kernel
theorem dX2_hasTrade_11 : decode cX2_hasTrade 11 = .ok (.getfield 24, 3) := by decide +kernel
theorem dX2_hasTrade_14 : decode cX2_hasTrade 14 = .ok (.iload_n 3, 1) := by decide +kernel
theorem dX2_hasTrade_15 : decode cX2_hasTrade 15 = .ok (.iaload, 1) := by decide +kernel
theorem dX2_hasTrade_16 : decode cX2_hasTrade 16 = .ok (.iload_n 1, 1) := by decide +kernel
theorem dX2_hasTrade_17 : decode cX2_hasTrade 17 = .ok (.if_icmp .ne 15, 3) := by decide +kernel
theorem dX2_hasTrade_20 : decode cX2_hasTrade 20 = .ok (.aload_n 0, 1) := by decide +kernel
theorem dX2_hasTrade_21 : decode cX2_hasTrade 21 = .ok (.getfield 27, 3) := by decide +kernel
theorem dX2_hasTrade_24 : decode cX2_hasTrade 24 = .ok (.iload_n 3, 1) := by decide +kernel
theorem dX2_hasTrade_25 : decode cX2_hasTrade 25 = .ok (.iaload, 1) := by decide +kernel
theorem dX2_hasTrade_26 : decode cX2_hasTrade 26 = .ok (.iload_n 2, 1) := by decide +kernel
theorem dX2_hasTrade_27 : decode cX2_hasTrade 27 = .ok (.if_icmp .ne 5, 3) := by decide +kernel
theorem dX2_hasTrade_30 : decode cX2_hasTrade 30 = .ok (.iconst 1, 1) := by decide +kernel
theorem dX2_hasTrade_31 : decode cX2_hasTrade 31 = .ok (.ireturn, 1) := by decide +kernel
theorem dX2_hasTrade_32 : decode cX2_hasTrade 32 = .ok (.iinc 3 1, 3) := by decide +kernel
theorem dX2_hasTrade_35 : decode cX2_hasTrade 35 = .ok (.goto (-33), 3) := by decide +kernel
theorem dX2_hasTrade_38 : decode cX2_hasTrade 38 = .ok (.iconst 0, 1) := by decide +kernel
theorem dX2_hasTrade_39 : decode cX2_hasTrade 39 = .ok (.ireturn, 1) := by decide +kernel
theorem dX2_mixedPairs_0 : decode cX2_mixedPairs 0 = .ok (.iconst 0, 1) := by decide +kernel
theorem dX2_mixedPairs_1 : decode cX2_mixedPairs 1 = .ok (.istore_n 1, 1) := by decide +kernel
theorem dX2_mixedPairs_2 : decode cX2_mixedPairs 2 = .ok (.iconst 0, 1) := by decide +kernel
theorem dX2_mixedPairs_3 : decode cX2_mixedPairs 3 = .ok (.istore_n 2, 1) := by decide +kernel
theorem dX2_mixedPairs_4 : decode cX2_mixedPairs 4 = .ok (.iload_n 2, 1) := by decide +kernel
theorem dX2_mixedPairs_5 : decode cX2_mixedPairs 5 = .ok (.aload_n 0, 1) := by decide +kernel
theorem dX2_mixedPairs_6 : decode cX2_mixedPairs 6 = .ok (.getfield 43, 3) := by decide +kernel
theorem dX2_mixedPairs_9 : decode cX2_mixedPairs 9 = .ok (.if_icmp .ge 60, 3) := by decide +kernel
theorem dX2_mixedPairs_12 : decode cX2_mixedPairs 12 = .ok (.iload_n 2, 1) := by decide +kernel
theorem dX2_mixedPairs_13 : decode cX2_mixedPairs 13 = .ok (.iconst 1, 1) := by decide +kernel
theorem dX2_mixedPairs_14 : decode cX2_mixedPairs 14 = .ok (.iadd, 1) := by decide +kernel
theorem dX2_mixedPairs_15 : decode cX2_mixedPairs 15 = .ok (.istore_n 3, 1) := by decide +kernel
theorem dX2_mixedPairs_16 : decode cX2_mixedPairs 16 = .ok (.iload_n 3, 1) := by decide +kernel
theorem dX2_mixedPairs_17 : decode cX2_mixedPairs 17 = .ok (.aload_n 0, 1) := by decide +kernel
theorem dX2_mixedPairs_18 : decode cX2_mixedPairs 18 = .ok (.getfield 43, 3) := by decide +kernel
theorem dX2_mixedPairs_21 : decode cX2_mixedPairs 21 = .ok (.if_icmp .ge 42, 3) := by decide +kernel
theorem dX2_mixedPairs_24 : decode cX2_mixedPairs 24 = .ok (.aload_n 0, 1) := by decide +kernel
theorem dX2_mixedPairs_25 : decode cX2_mixedPairs 25 = .ok (.getfield 24, 3) := by decide +kernel
theorem dX2_mixedPairs_28 : decode cX2_mixedPairs 28 = .ok (.iload_n 2, 1) := by decide +kernel
theorem dX2_mixedPairs_29 : decode cX2_mixedPairs 29 = .ok (.iaload, 1) := by decide +kernel
theorem dX2_mixedPairs_30 : decode cX2_mixedPairs 30 = .ok (.aload_n 0, 1) := by decide +kernel
theorem dX2_mixedPairs_31 : decode cX2_mixedPairs 31 = .ok (.getfield 24, 3) := by decide +kernel
theorem dX2_mixedPairs_34 : decode cX2_mixedPairs 34 = .ok (.iload_n 3, 1) := by decide +kernel
theorem dX2_mixedPairs_35 : decode cX2_mixedPairs 35 = .ok (.iaload, 1) := by decide +kernel
theorem dX2_mixedPairs_36 : decode cX2_mixedPairs 36 = .ok (.if_icmp .ne 21, 3) := by decide +kernel
theorem dX2_mixedPairs_39 : decode cX2_mixedPairs 39 = .ok (.aload_n 0, 1) := by decide +kernel
theorem dX2_mixedPairs_40 : decode cX2_mixedPairs 40 = .ok (.getfield 30, 3) := by decide +kernel
theorem dX2_mixedPairs_43 : decode cX2_mixedPairs 43 = .ok (.iload_n 2, 1) := by decide +kernel
theorem dX2_mixedPairs_44 : decode cX2_mixedPairs 44 = .ok (.iaload, 1) := by decide +kernel
theorem dX2_mixedPairs_45 : decode cX2_mixedPairs 45 = .ok (.aload_n 0, 1) := by decide +kernel
theorem dX2_mixedPairs_46 : decode cX2_mixedPairs 46 = .ok (.getfield 30, 3) := by decide +kernel
theorem dX2_mixedPairs_49 : decode cX2_mixedPairs 49 = .ok (.iload_n 3, 1) := by decide +kernel
theorem dX2_mixedPairs_50 : decode cX2_mixedPairs 50 = .ok (.iaload, 1) := by decide +kernel
theorem dX2_mixedPairs_51 : decode cX2_mixedPairs 51 = .ok (.if_icmp .eq 6, 3) := by decide +kernel
theorem dX2_mixedPairs_54 : decode cX2_mixedPairs 54 = .ok (.iinc 1 1, 3) := by decide +kernel
theorem dX2_mixedPairs_57 : decode cX2_mixedPairs 57 = .ok (.iinc 3 1, 3) := by decide +kernel
theorem dX2_mixedPairs_60 : decode cX2_mixedPairs 60 = .ok (.goto (-44), 3) := by decide +kernel
theorem dX2_mixedPairs_63 : decode cX2_mixedPairs 63 = .ok (.iinc 2 1, 3) := by decide +kernel
theorem dX2_mixedPairs_66 : decode cX2_mixedPairs 66 = .ok (.goto (-62), 3) := by decide +kernel
theorem dX2_mixedPairs_69 : decode cX2_mixedPairs 69 = .ok (.iload_n 1, 1) := by decide +kernel
theorem dX2_mixedPairs_70 : decode cX2_mixedPairs 70 = .ok (.ireturn, 1) := by decide +kernel
theorem dX2_withShipmates_0 : decode cX2_withShipmates 0 = .ok (.iload_n 1, 1) := by decide +kernel
theorem dX2_withShipmates_1 : decode cX2_withShipmates 1 = .ok (.istore_n 2, 1) := by decide +kernel
theorem dX2_withShipmates_2 : decode cX2_withShipmates 2 = .ok (.iconst 0, 1) := by decide +kernel
theorem dX2_withShipmates_3 : decode cX2_withShipmates 3 = .ok (.istore_n 3, 1) := by decide +kernel
theorem dX2_withShipmates_4 : decode cX2_withShipmates 4 = .ok (.iload_n 3, 1) := by decide +kernel
theorem dX2_withShipmates_5 : decode cX2_withShipmates 5 = .ok (.aload_n 0, 1) := by decide +kernel
theorem dX2_withShipmates_6 : decode cX2_withShipmates 6 = .ok (.getfield 39, 3) := by decide +kernel
theorem dX2_withShipmates_9 : decode cX2_withShipmates 9 = .ok (.if_icmp .ge 29, 3) := by decide +kernel
theorem dX2_withShipmates_12 : decode cX2_withShipmates 12 = .ok (.aload_n 0, 1) := by decide +kernel
theorem dX2_withShipmates_13 : decode cX2_withShipmates 13 = .ok (.getfield 20, 3) := by decide +kernel
theorem dX2_withShipmates_16 : decode cX2_withShipmates 16 = .ok (.iload_n 3, 1) := by decide +kernel
theorem dX2_withShipmates_17 : decode cX2_withShipmates 17 = .ok (.iaload, 1) := by decide +kernel
theorem dX2_withShipmates_18 : decode cX2_withShipmates 18 = .ok (.iload_n 1, 1) := by decide +kernel
theorem dX2_withShipmates_19 : decode cX2_withShipmates 19 = .ok (.iand, 1) := by decide +kernel
theorem dX2_withShipmates_20 : decode cX2_withShipmates 20 = .ok (.ifCond .eq 12, 3) := by decide +kernel
theorem dX2_withShipmates_23 : decode cX2_withShipmates 23 = .ok (.iload_n 2, 1) := by decide +kernel
theorem dX2_withShipmates_24 : decode cX2_withShipmates 24 = .ok (.aload_n 0, 1) := by decide +kernel
theorem dX2_withShipmates_25 : decode cX2_withShipmates 25 = .ok (.getfield 20, 3) := by decide +kernel
theorem dX2_withShipmates_28 : decode cX2_withShipmates 28 = .ok (.iload_n 3, 1) := by decide +kernel
theorem dX2_withShipmates_29 : decode cX2_withShipmates 29 = .ok (.iaload, 1) := by decide +kernel
theorem dX2_withShipmates_30 : decode cX2_withShipmates 30 = .ok (.ior, 1) := by decide +kernel
theorem dX2_withShipmates_31 : decode cX2_withShipmates 31 = .ok (.istore_n 2, 1) := by decide +kernel
theorem dX2_withShipmates_32 : decode cX2_withShipmates 32 = .ok (.iinc 3 1, 3) := by decide +kernel
theorem dX2_withShipmates_35 : decode cX2_withShipmates 35 = .ok (.goto (-31), 3) := by decide +kernel
theorem dX2_withShipmates_38 : decode cX2_withShipmates 38 = .ok (.iload_n 2, 1) := by decide +kernel
theorem dX2_withShipmates_39 : decode cX2_withShipmates 39 = .ok (.ireturn, 1) := by decide +kernel
theorem dX2_setAllCaptains_0 : decode cX2_setAllCaptains 0 = .ok (.iconst 0, 1) := by decide +kernel
theorem dX2_setAllCaptains_1 : decode cX2_setAllCaptains 1 = .ok (.istore_n 2, 1) := by decide +kernel
theorem dX2_setAllCaptains_2 : decode cX2_setAllCaptains 2 = .ok (.iload_n 2, 1) := by decide +kernel
theorem dX2_setAllCaptains_3 : decode cX2_setAllCaptains 3 = .ok (.aload_n 0, 1) := by decide +kernel
theorem dX2_setAllCaptains_4 : decode cX2_setAllCaptains 4 = .ok (.getfield 39, 3) := by decide +kernel
theorem dX2_setAllCaptains_7 : decode cX2_setAllCaptains 7 = .ok (.if_icmp .ge 16, 3) := by decide +kernel
theorem dX2_setAllCaptains_10 : decode cX2_setAllCaptains 10 = .ok (.aload_n 0, 1) := by decide +kernel
theorem dX2_setAllCaptains_11 : decode cX2_setAllCaptains 11 = .ok (.getfield 11, 3) := by decide +kernel
theorem dX2_setAllCaptains_14 : decode cX2_setAllCaptains 14 = .ok (.iload_n 2, 1) := by decide +kernel
theorem dX2_setAllCaptains_15 : decode cX2_setAllCaptains 15 = .ok (.aload_n 1, 1) := by decide +kernel
theorem dX2_setAllCaptains_16 : decode cX2_setAllCaptains 16 = .ok (.aastore, 1) := by decide +kernel
theorem dX2_setAllCaptains_17 : decode cX2_setAllCaptains 17 = .ok (.iinc 2 1, 3) := by decide +kernel
theorem dX2_setAllCaptains_20 : decode cX2_setAllCaptains 20 = .ok (.goto (-18), 3) := by decide +kernel
theorem dX2_setAllCaptains_23 : decode cX2_setAllCaptains 23 = .ok (.return_, 1) := by decide +kernel
theorem dX2_isAstray_0 : decode cX2_isAstray 0 = .ok (.iload_n 1, 1) := by decide +kernel
theorem dX2_isAstray_1 : decode cX2_isAstray 1 = .ok (.aload_n 2, 1) := by decide +kernel
theorem dX2_isAstray_2 : decode cX2_isAstray 2 = .ok (.arraylength, 1) := by decide +kernel
theorem dX2_isAstray_3 : decode cX2_isAstray 3 = .ok (.if_icmp .ge 26, 3) := by decide +kernel
theorem dX2_isAstray_6 : decode cX2_isAstray 6 = .ok (.aload_n 2, 1) := by decide +kernel
theorem dX2_isAstray_7 : decode cX2_isAstray 7 = .ok (.iload_n 1, 1) := by decide +kernel
theorem dX2_isAstray_8 : decode cX2_isAstray 8 = .ok (.iaload, 1) := by decide +kernel
theorem dX2_isAstray_9 : decode cX2_isAstray 9 = .ok (.iconst (-1), 1) := by decide +kernel
theorem dX2_isAstray_10 : decode cX2_isAstray 10 = .ok (.if_icmp .eq 19, 3) := by decide +kernel
theorem dX2_isAstray_13 : decode cX2_isAstray 13 = .ok (.aload_n 2, 1) := by decide +kernel
theorem dX2_isAstray_14 : decode cX2_isAstray 14 = .ok (.iload_n 1, 1) := by decide +kernel
theorem dX2_isAstray_15 : decode cX2_isAstray 15 = .ok (.iaload, 1) := by decide +kernel
theorem dX2_isAstray_16 : decode cX2_isAstray 16 = .ok (.aload_n 0, 1) := by decide +kernel
theorem dX2_isAstray_17 : decode cX2_isAstray 17 = .ok (.getfield 24, 3) := by decide +kernel
theorem dX2_isAstray_20 : decode cX2_isAstray 20 = .ok (.iload_n 1, 1) := by decide +kernel
theorem dX2_isAstray_21 : decode cX2_isAstray 21 = .ok (.iaload, 1) := by decide +kernel
theorem dX2_isAstray_22 : decode cX2_isAstray 22 = .ok (.if_icmp .eq 7, 3) := by decide +kernel
theorem dX2_isAstray_25 : decode cX2_isAstray 25 = .ok (.iconst 1, 1) := by decide +kernel
theorem dX2_isAstray_26 : decode cX2_isAstray 26 = .ok (.goto 4, 3) := by decide +kernel
theorem dX2_isAstray_29 : decode cX2_isAstray 29 = .ok (.iconst 0, 1) := by decide +kernel
theorem dX2_isAstray_30 : decode cX2_isAstray 30 = .ok (.ireturn, 1) := by decide +kernel
theorem dX2_astray_0 : decode cX2_astray 0 = .ok (.iconst 0, 1) := by decide +kernel
theorem dX2_astray_1 : decode cX2_astray 1 = .ok (.istore_n 2, 1) := by decide +kernel
theorem dX2_astray_2 : decode cX2_astray 2 = .ok (.iconst 0, 1) := by decide +kernel
theorem dX2_astray_3 : decode cX2_astray 3 = .ok (.istore_n 3, 1) := by decide +kernel
theorem dX2_astray_4 : decode cX2_astray 4 = .ok (.iload_n 3, 1) := by decide +kernel
theorem dX2_astray_5 : decode cX2_astray 5 = .ok (.aload_n 0, 1) := by decide +kernel
theorem dX2_astray_6 : decode cX2_astray 6 = .ok (.getfield 43, 3) := by decide +kernel
theorem dX2_astray_9 : decode cX2_astray 9 = .ok (.if_icmp .ge 21, 3) := by decide +kernel
theorem dX2_astray_12 : decode cX2_astray 12 = .ok (.aload_n 0, 1) := by decide +kernel
theorem dX2_astray_13 : decode cX2_astray 13 = .ok (.iload_n 3, 1) := by decide +kernel
theorem dX2_astray_14 : decode cX2_astray 14 = .ok (.aload_n 1, 1) := by decide +kernel
theorem dX2_astray_15 : decode cX2_astray 15 = .ok (.invokevirtual 102, 3) := by decide +kernel
theorem dX2_astray_18 : decode cX2_astray 18 = .ok (.ifCond .eq 6, 3) := by decide +kernel
theorem dX2_astray_21 : decode cX2_astray 21 = .ok (.iinc 2 1, 3) := by decide +kernel
theorem dX2_astray_24 : decode cX2_astray 24 = .ok (.iinc 3 1, 3) := by decide +kernel
theorem dX2_astray_27 : decode cX2_astray 27 = .ok (.goto (-23), 3) := by decide +kernel
theorem dX2_astray_30 : decode cX2_astray 30 = .ok (.iload_n 2, 1) := by decide +kernel
theorem dX2_astray_31 : decode cX2_astray 31 = .ok (.ireturn, 1) := by decide +kernel
theorem dX2_firstAstray_0 : decode cX2_firstAstray 0 = .ok (.iconst 0, 1) := by decide +kernel
theorem dX2_firstAstray_1 : decode cX2_firstAstray 1 = .ok (.istore_n 2, 1) := by decide +kernel
theorem dX2_firstAstray_2 : decode cX2_firstAstray 2 = .ok (.iload_n 2, 1) := by decide +kernel
theorem dX2_firstAstray_3 : decode cX2_firstAstray 3 = .ok (.aload_n 0, 1) := by decide +kernel
theorem dX2_firstAstray_4 : decode cX2_firstAstray 4 = .ok (.getfield 43, 3) := by decide +kernel
theorem dX2_firstAstray_7 : decode cX2_firstAstray 7 = .ok (.if_icmp .ge 20, 3) := by decide +kernel
theorem dX2_firstAstray_10 : decode cX2_firstAstray 10 = .ok (.aload_n 0, 1) := by decide +kernel
theorem dX2_firstAstray_11 : decode cX2_firstAstray 11 = .ok (.iload_n 2, 1) := by decide +kernel
theorem dX2_firstAstray_12 : decode cX2_firstAstray 12 = .ok (.aload_n 1, 1) := by decide +kernel
theorem dX2_firstAstray_13 : decode cX2_firstAstray 13 = .ok (.invokevirtual 102, 3) := by decide +kernel
theorem dX2_firstAstray_16 : decode cX2_firstAstray 16 = .ok (.ifCond .eq 5, 3) := by decide +kernel
theorem dX2_firstAstray_19 : decode cX2_firstAstray 19 = .ok (.iload_n 2, 1) := by decide +kernel
theorem dX2_firstAstray_20 : decode cX2_firstAstray 20 = .ok (.ireturn, 1) := by decide +kernel
theorem dX2_firstAstray_21 : decode cX2_firstAstray 21 = .ok (.iinc 2 1, 3) := by decide +kernel
theorem dX2_firstAstray_24 : decode cX2_firstAstray 24 = .ok (.goto (-22), 3) := by decide +kernel
theorem dX2_firstAstray_27 : decode cX2_firstAstray 27 = .ok (.bipush (-4), 2) := by decide +kernel
theorem dX2_firstAstray_29 : decode cX2_firstAstray 29 = .ok (.ireturn, 1) := by decide +kernel
theorem dX2_lastMeeting_0 : decode cX2_lastMeeting 0 = .ok (.aload_n 0, 1) := by decide +kernel
theorem dX2_lastMeeting_1 : decode cX2_lastMeeting 1 = .ok (.aload_n 1, 1) := by decide +kernel
theorem dX2_lastMeeting_2 : decode cX2_lastMeeting 2 = .ok (.invokevirtual 106, 3) := by decide +kernel
theorem dX2_lastMeeting_5 : decode cX2_lastMeeting 5 = .ok (.istore_n 2, 1) := by decide +kernel
theorem dX2_lastMeeting_6 : decode cX2_lastMeeting 6 = .ok (.iload_n 2, 1) := by decide +kernel
theorem dX2_lastMeeting_7 : decode cX2_lastMeeting 7 = .ok (.ifCond .ge 6, 3) := by decide +kernel
theorem dX2_lastMeeting_10 : decode cX2_lastMeeting 10 = .ok (.bipush (-4), 2) := by decide +kernel
theorem dX2_lastMeeting_12 : decode cX2_lastMeeting 12 = .ok (.ireturn, 1) := by decide +kernel
theorem dX2_lastMeeting_13 : decode cX2_lastMeeting 13 = .ok (.aload_n 0, 1) := by decide +kernel
theorem dX2_lastMeeting_14 : decode cX2_lastMeeting 14 = .ok (.getfield 24, 3) := by decide +kernel
theorem dX2_lastMeeting_17 : decode cX2_lastMeeting 17 = .ok (.iload_n 2, 1) := by decide +kernel
theorem dX2_lastMeeting_18 : decode cX2_lastMeeting 18 = .ok (.iaload, 1) := by decide +kernel
theorem dX2_lastMeeting_19 : decode cX2_lastMeeting 19 = .ok (.istore_n 3, 1) := by decide +kernel
theorem dX2_lastMeeting_20 : decode cX2_lastMeeting 20 = .ok (.aload_n 1, 1) := by decide +kernel
theorem dX2_lastMeeting_21 : decode cX2_lastMeeting 21 = .ok (.iload_n 2, 1) := by decide +kernel
theorem dX2_lastMeeting_22 : decode cX2_lastMeeting 22 = .ok (.iaload, 1) := by decide +kernel
theorem dX2_lastMeeting_23 : decode cX2_lastMeeting 23 = .ok (.istore 4, 2) := by decide +kernel
theorem dX2_lastMeeting_25 : decode cX2_lastMeeting 25 = .ok (.aload_n 0, 1) := by decide +kernel
theorem dX2_lastMeeting_26 : decode cX2_lastMeeting 26 = .ok (.iload_n 3, 1) := by decide +kernel
theorem dX2_lastMeeting_27 : decode cX2_lastMeeting 27 = .ok (.iload 4, 2) := by decide +kernel
theorem dX2_lastMeeting_29 : decode cX2_lastMeeting 29 = .ok (.invokevirtual 74, 3) := by decide +kernel
theorem dX2_lastMeeting_32 : decode cX2_lastMeeting 32 = .ok (.ifCond .eq 12, 3) := by decide +kernel
theorem dX2_lastMeeting_35 : decode cX2_lastMeeting 35 = .ok (.aload_n 0, 1) := by decide +kernel
theorem dX2_lastMeeting_36 : decode cX2_lastMeeting 36 = .ok (.iload_n 3, 1) := by decide +kernel
theorem dX2_lastMeeting_37 : decode cX2_lastMeeting 37 = .ok (.invokevirtual 71, 3) := by decide +kernel
theorem dX2_lastMeeting_40 : decode cX2_lastMeeting 40 = .ok (.iload_n 2, 1) := by decide +kernel
theorem dX2_lastMeeting_41 : decode cX2_lastMeeting 41 = .ok (.if_icmp .eq 6, 3) := by decide +kernel
theorem dX2_lastMeeting_44 : decode cX2_lastMeeting 44 = .ok (.bipush (-4), 2) := by decide +kernel
theorem dX2_lastMeeting_46 : decode cX2_lastMeeting 46 = .ok (.ireturn, 1) := by decide +kernel
theorem dX2_lastMeeting_47 : decode cX2_lastMeeting 47 = .ok (.aload_n 0, 1) := by decide +kernel
theorem dX2_lastMeeting_48 : decode cX2_lastMeeting 48 = .ok (.iload 4, 2) := by decide +kernel
theorem dX2_lastMeeting_50 : decode cX2_lastMeeting 50 = .ok (.invokevirtual 71, 3) := by decide +kernel
theorem dX2_lastMeeting_53 : decode cX2_lastMeeting 53 = .ok (.istore 5, 2) := by decide +kernel
theorem dX2_lastMeeting_55 : decode cX2_lastMeeting 55 = .ok (.aload_n 0, 1) := by decide +kernel
theorem dX2_lastMeeting_56 : decode cX2_lastMeeting 56 = .ok (.iload 5, 2) := by decide +kernel
theorem dX2_lastMeeting_58 : decode cX2_lastMeeting 58 = .ok (.invokevirtual 92, 3) := by decide +kernel
theorem dX2_lastMeeting_61 : decode cX2_lastMeeting 61 = .ok (.ifCond .ne 6, 3) := by decide +kernel
theorem dX2_lastMeeting_64 : decode cX2_lastMeeting 64 = .ok (.bipush (-4), 2) := by decide +kernel
theorem dX2_lastMeeting_66 : decode cX2_lastMeeting 66 = .ok (.ireturn, 1) := by decide +kernel
theorem dX2_lastMeeting_67 : decode cX2_lastMeeting 67 = .ok (.aload_n 0, 1) := by decide +kernel
theorem dX2_lastMeeting_68 : decode cX2_lastMeeting 68 = .ok (.getfield 33, 3) := by decide +kernel
theorem dX2_lastMeeting_71 : decode cX2_lastMeeting 71 = .ok (.iload_n 2, 1) := by decide +kernel
theorem dX2_lastMeeting_72 : decode cX2_lastMeeting 72 = .ok (.iaload, 1) := by decide +kernel
theorem dX2_lastMeeting_73 : decode cX2_lastMeeting 73 = .ok (.istore 6, 2) := by decide +kernel
theorem dX2_lastMeeting_75 : decode cX2_lastMeeting 75 = .ok (.aload_n 0, 1) := by decide +kernel
theorem dX2_lastMeeting_76 : decode cX2_lastMeeting 76 = .ok (.getfield 33, 3) := by decide +kernel
theorem dX2_lastMeeting_79 : decode cX2_lastMeeting 79 = .ok (.iload 5, 2) := by decide +kernel
theorem dX2_lastMeeting_81 : decode cX2_lastMeeting 81 = .ok (.iaload, 1) := by decide +kernel
theorem dX2_lastMeeting_82 : decode cX2_lastMeeting 82 = .ok (.istore 7, 2) := by decide +kernel
theorem dX2_lastMeeting_84 : decode cX2_lastMeeting 84 = .ok (.aload_n 0, 1) := by decide +kernel
theorem dX2_lastMeeting_85 : decode cX2_lastMeeting 85 = .ok (.iload_n 3, 1) := by decide +kernel
theorem dX2_lastMeeting_86 : decode cX2_lastMeeting 86 = .ok (.iload 4, 2) := by decide +kernel
theorem dX2_lastMeeting_88 : decode cX2_lastMeeting 88 = .ok (.iload_n 2, 1) := by decide +kernel
theorem dX2_lastMeeting_89 : decode cX2_lastMeeting 89 = .ok (.iload 5, 2) := by decide +kernel
theorem dX2_lastMeeting_91 : decode cX2_lastMeeting 91 = .ok (.invokevirtual 77, 3) := by decide +kernel
theorem dX2_lastMeeting_94 : decode cX2_lastMeeting 94 = .ok (.aload_n 0, 1) := by decide +kernel
theorem dX2_lastMeeting_95 : decode cX2_lastMeeting 95 = .ok (.aload_n 1, 1) := by decide +kernel
theorem dX2_lastMeeting_96 : decode cX2_lastMeeting 96 = .ok (.invokevirtual 106, 3) := by decide +kernel
theorem dX2_lastMeeting_99 : decode cX2_lastMeeting 99 = .ok (.ifCond .ge 7, 3) := by decide +kernel
theorem dX2_lastMeeting_102 : decode cX2_lastMeeting 102 = .ok (.iconst 1, 1) := by decide +kernel
theorem dX2_lastMeeting_103 : decode cX2_lastMeeting 103 = .ok (.goto 4, 3) := by decide +kernel
theorem dX2_lastMeeting_106 : decode cX2_lastMeeting 106 = .ok (.iconst 0, 1) := by decide +kernel
theorem dX2_lastMeeting_107 : decode cX2_lastMeeting 107 = .ok (.istore 8, 2) := by decide +kernel
theorem dX2_lastMeeting_109 : decode cX2_lastMeeting 109 = .ok (.aload_n 0, 1) := by decide +kernel
theorem dX2_lastMeeting_110 : decode cX2_lastMeeting 110 = .ok (.iload_n 3, 1) := by decide +kernel
theorem dX2_lastMeeting_111 : decode cX2_lastMeeting 111 = .ok (.iload 4, 2) := by decide +kernel
theorem dX2_lastMeeting_113 : decode cX2_lastMeeting 113 = .ok (.iload_n 2, 1) := by decide +kernel
theorem dX2_lastMeeting_114 : decode cX2_lastMeeting 114 = .ok (.iload 5, 2) := by decide +kernel
theorem dX2_lastMeeting_116 : decode cX2_lastMeeting 116 = .ok (.iload 6, 2) := by decide +kernel
theorem dX2_lastMeeting_118 : decode cX2_lastMeeting 118 = .ok (.iload 7, 2) := by decide +kernel
theorem dX2_lastMeeting_120 : decode cX2_lastMeeting 120 = .ok (.invokevirtual 110, 3) := by decide +kernel
theorem dX2_lastMeeting_123 : decode cX2_lastMeeting 123 = .ok (.iload 8, 2) := by decide +kernel
theorem dX2_lastMeeting_125 : decode cX2_lastMeeting 125 = .ok (.ifCond .eq 12, 3) := by decide +kernel
theorem dX2_lastMeeting_128 : decode cX2_lastMeeting 128 = .ok (.iload_n 3, 1) := by decide +kernel
theorem dX2_lastMeeting_129 : decode cX2_lastMeeting 129 = .ok (.iload 4, 2) := by decide +kernel
theorem dX2_lastMeeting_131 : decode cX2_lastMeeting 131 = .ok (.invokestatic 114, 3) := by decide +kernel
theorem dX2_lastMeeting_134 : decode cX2_lastMeeting 134 = .ok (.goto 5, 3) := by decide +kernel
theorem dX2_lastMeeting_137 : decode cX2_lastMeeting 137 = .ok (.bipush (-4), 2) := by decide +kernel
theorem dX2_lastMeeting_139 : decode cX2_lastMeeting 139 = .ok (.ireturn, 1) := by decide +kernel
theorem dX2_shipsWithoutMen_0 : decode cX2_shipsWithoutMen 0 = .ok (.iconst 0, 1) := by decide +kernel
theorem dX2_shipsWithoutMen_1 : decode cX2_shipsWithoutMen 1 = .ok (.istore_n 1, 1) := by decide +kernel
theorem dX2_shipsWithoutMen_2 : decode cX2_shipsWithoutMen 2 = .ok (.iconst 0, 1) := by decide +kernel
theorem dX2_shipsWithoutMen_3 : decode cX2_shipsWithoutMen 3 = .ok (.istore_n 2, 1) := by decide +kernel
theorem dX2_shipsWithoutMen_4 : decode cX2_shipsWithoutMen 4 = .ok (.iload_n 2, 1) := by decide +kernel
theorem dX2_shipsWithoutMen_5 : decode cX2_shipsWithoutMen 5 = .ok (.aload_n 0, 1) := by decide +kernel
theorem dX2_shipsWithoutMen_6 : decode cX2_shipsWithoutMen 6 = .ok (.getfield 39, 3) := by decide +kernel
theorem dX2_shipsWithoutMen_9 : decode cX2_shipsWithoutMen 9 = .ok (.if_icmp .ge 21, 3) := by decide +kernel
theorem dX2_shipsWithoutMen_12 : decode cX2_shipsWithoutMen 12 = .ok (.aload_n 0, 1) := by decide +kernel
theorem dX2_shipsWithoutMen_13 : decode cX2_shipsWithoutMen 13 = .ok (.getfield 20, 3) := by decide +kernel
theorem dX2_shipsWithoutMen_16 : decode cX2_shipsWithoutMen 16 = .ok (.iload_n 2, 1) := by decide +kernel
theorem dX2_shipsWithoutMen_17 : decode cX2_shipsWithoutMen 17 = .ok (.iaload, 1) := by decide +kernel
theorem dX2_shipsWithoutMen_18 : decode cX2_shipsWithoutMen 18 = .ok (.ifCond .ne 6, 3) := by decide +kernel
theorem dX2_shipsWithoutMen_21 : decode cX2_shipsWithoutMen 21 = .ok (.iinc 1 1, 3) := by decide +kernel
theorem dX2_shipsWithoutMen_24 : decode cX2_shipsWithoutMen 24 = .ok (.iinc 2 1, 3) := by decide +kernel
theorem dX2_shipsWithoutMen_27 : decode cX2_shipsWithoutMen 27 = .ok (.goto (-23), 3) := by decide +kernel
theorem dX2_shipsWithoutMen_30 : decode cX2_shipsWithoutMen 30 = .ok (.iload_n 1, 1) := by decide +kernel
theorem dX2_shipsWithoutMen_31 : decode cX2_shipsWithoutMen 31 = .ok (.ireturn, 1) := by decide +kernel
theorem dX2_mostAboard_0 : decode cX2_mostAboard 0 = .ok (.iconst 0, 1) := by decide +kernel
theorem dX2_mostAboard_1 : decode cX2_mostAboard 1 = .ok (.istore_n 1, 1) := by decide +kernel
theorem dX2_mostAboard_2 : decode cX2_mostAboard 2 = .ok (.iconst 0, 1) := by decide +kernel
theorem dX2_mostAboard_3 : decode cX2_mostAboard 3 = .ok (.istore_n 2, 1) := by decide +kernel
theorem dX2_mostAboard_4 : decode cX2_mostAboard 4 = .ok (.iload_n 2, 1) := by decide +kernel
theorem dX2_mostAboard_5 : decode cX2_mostAboard 5 = .ok (.aload_n 0, 1) := by decide +kernel
theorem dX2_mostAboard_6 : decode cX2_mostAboard 6 = .ok (.getfield 39, 3) := by decide +kernel
theorem dX2_mostAboard_9 : decode cX2_mostAboard 9 = .ok (.if_icmp .ge 23, 3) := by decide +kernel
theorem dX2_mostAboard_12 : decode cX2_mostAboard 12 = .ok (.iload_n 1, 1) := by decide +kernel
theorem dX2_mostAboard_13 : decode cX2_mostAboard 13 = .ok (.aload_n 0, 1) := by decide +kernel
theorem dX2_mostAboard_14 : decode cX2_mostAboard 14 = .ok (.getfield 20, 3) := by decide +kernel
theorem dX2_mostAboard_17 : decode cX2_mostAboard 17 = .ok (.iload_n 2, 1) := by decide +kernel
theorem dX2_mostAboard_18 : decode cX2_mostAboard 18 = .ok (.iaload, 1) := by decide +kernel
theorem dX2_mostAboard_19 : decode cX2_mostAboard 19 = .ok (.invokestatic 57, 3) := by decide +kernel
theorem dX2_mostAboard_22 : decode cX2_mostAboard 22 = .ok (.invokestatic 118, 3) := by decide +kernel
theorem dX2_mostAboard_25 : decode cX2_mostAboard 25 = .ok (.istore_n 1, 1) := by decide +kernel
theorem dX2_mostAboard_26 : decode cX2_mostAboard 26 = .ok (.iinc 2 1, 3) := by decide +kernel
theorem dX2_mostAboard_29 : decode cX2_mostAboard 29 = .ok (.goto (-25), 3) := by decide +kernel
theorem dX2_mostAboard_32 : decode cX2_mostAboard 32 = .ok (.iload_n 1, 1) := by decide +kernel
theorem dX2_mostAboard_33 : decode cX2_mostAboard 33 = .ok (.ireturn, 1) := by decide +kernel
theorem dX3_init_0 : decode cX3_init 0 = .ok (.aload_n 0, 1) := by decide +kernel
theorem dX3_init_1 : decode cX3_init 1 = .ok (.bipush 7, 2) := by decide +kernel
theorem dX3_init_3 : decode cX3_init 3 = .ok (.iload_n 1, 1) := by decide +kernel
theorem dX3_init_4 : decode cX3_init 4 = .ok (.invokespecial 1, 3) := by decide +kernel
theorem dX3_init_7 : decode cX3_init 7 = .ok (.return_, 1) := by decide +kernel
theorem dX3_gift_0 : decode cX3_gift 0 = .ok (.iload_n 2, 1) := by decide +kernel
theorem dX3_gift_1 : decode cX3_gift 1 = .ok (.iconst 1, 1) := by decide +kernel
theorem dX3_gift_2 : decode cX3_gift 2 = .ok (.aload_n 0, 1) := by decide +kernel
theorem dX3_gift_3 : decode cX3_gift 3 = .ok (.getfield 7, 3) := by decide +kernel
theorem dX3_gift_6 : decode cX3_gift 6 = .ok (.ishl, 1) := by decide +kernel
theorem dX3_gift_7 : decode cX3_gift 7 = .ok (.iconst (-1), 1) := by decide +kernel
theorem dX3_gift_8 : decode cX3_gift 8 = .ok (.ixor, 1) := by decide +kernel
theorem dX3_gift_9 : decode cX3_gift 9 = .ok (.iand, 1) := by decide +kernel
theorem dX3_gift_10 : decode cX3_gift 10 = .ok (.istore_n 3, 1) := by decide +kernel
theorem dX3_gift_11 : decode cX3_gift 11 = .ok (.aload_n 0, 1) := by decide +kernel
theorem dX3_gift_12 : decode cX3_gift 12 = .ok (.aload_n 1, 1) := by decide +kernel
theorem dX3_gift_13 : decode cX3_gift 13 = .ok (.iload_n 3, 1) := by decide +kernel
theorem dX3_gift_14 : decode cX3_gift 14 = .ok (.ifCond .ne 7, 3) := by decide +kernel
theorem dX3_gift_17 : decode cX3_gift 17 = .ok (.iload_n 2, 1) := by decide +kernel
theorem dX3_gift_18 : decode cX3_gift 18 = .ok (.goto 4, 3) := by decide +kernel
theorem dX3_gift_21 : decode cX3_gift 21 = .ok (.iload_n 3, 1) := by decide +kernel
theorem dX3_gift_22 : decode cX3_gift 22 = .ok (.invokespecial 13, 3) := by decide +kernel
theorem dX3_gift_25 : decode cX3_gift 25 = .ok (.ireturn, 1) := by decide +kernel
theorem dX3_wages_0 : decode cX3_wages 0 = .ok (.aload_n 0, 1) := by decide +kernel
theorem dX3_wages_1 : decode cX3_wages 1 = .ok (.invokespecial 17, 3) := by decide +kernel
theorem dX3_wages_4 : decode cX3_wages 4 = .ok (.aload_n 0, 1) := by decide +kernel
theorem dX3_wages_5 : decode cX3_wages 5 = .ok (.getfield 7, 3) := by decide +kernel
theorem dX3_wages_8 : decode cX3_wages 8 = .ok (.iadd, 1) := by decide +kernel
theorem dX3_wages_9 : decode cX3_wages 9 = .ok (.ireturn, 1) := by decide +kernel
theorem dX3_worthOfFailure_0 : decode cX3_worthOfFailure 0 = .ok (.sipush 200, 3) := by decide +kernel
theorem dX3_worthOfFailure_3 : decode cX3_worthOfFailure 3 = .ok (.aload_n 0, 1) := by decide +kernel
theorem dX3_worthOfFailure_4 : decode cX3_worthOfFailure 4 = .ok (.invokevirtual 21, 3) := by decide +kernel
theorem dX3_worthOfFailure_7 : decode cX3_worthOfFailure 7 = .ok (.iadd, 1) := by decide +kernel
theorem dX3_worthOfFailure_8 : decode cX3_worthOfFailure 8 = .ok (.ireturn, 1) := by decide +kernel
theorem dX4_init_0 : decode cX4_init 0 = .ok (.aload_n 0, 1) := by decide +kernel
theorem dX4_init_1 : decode cX4_init 1 = .ok (.iconst 1, 1) := by decide +kernel
theorem dX4_init_2 : decode cX4_init 2 = .ok (.iload_n 1, 1) := by decide +kernel
theorem dX4_init_3 : decode cX4_init 3 = .ok (.invokespecial 3, 3) := by decide +kernel
theorem dX4_init_6 : decode cX4_init 6 = .ok (.return_, 1) := by decide +kernel
theorem dX4_gift_0 : decode cX4_gift 0 = .ok (.iload_n 2, 1) := by decide +kernel
theorem dX4_gift_1 : decode cX4_gift 1 = .ok (.invokestatic 9, 3) := by decide +kernel
theorem dX4_gift_4 : decode cX4_gift 4 = .ok (.istore_n 3, 1) := by decide +kernel
theorem dX4_gift_5 : decode cX4_gift 5 = .ok (.iload_n 3, 1) := by decide +kernel
theorem dX4_gift_6 : decode cX4_gift 6 = .ok (.iconst 1, 1) := by decide +kernel
theorem dX4_gift_7 : decode cX4_gift 7 = .ok (.if_icmp .ge 7, 3) := by decide +kernel
theorem dX4_gift_10 : decode cX4_gift 10 = .ok (.iconst 0, 1) := by decide +kernel
theorem dX4_gift_11 : decode cX4_gift 11 = .ok (.goto 9, 3) := by decide +kernel
theorem dX4_gift_14 : decode cX4_gift 14 = .ok (.aload_n 0, 1) := by decide +kernel
theorem dX4_gift_15 : decode cX4_gift 15 = .ok (.getfield 15, 3) := by decide +kernel
theorem dX4_gift_18 : decode cX4_gift 18 = .ok (.iload_n 3, 1) := by decide +kernel
theorem dX4_gift_19 : decode cX4_gift 19 = .ok (.irem, 1) := by decide +kernel
theorem dX4_gift_20 : decode cX4_gift 20 = .ok (.istore 4, 2) := by decide +kernel
theorem dX4_gift_22 : decode cX4_gift 22 = .ok (.iconst 0, 1) := by decide +kernel
theorem dX4_gift_23 : decode cX4_gift 23 = .ok (.istore 5, 2) := by decide +kernel
theorem dX4_gift_25 : decode cX4_gift 25 = .ok (.iload 5, 2) := by decide +kernel
theorem dX4_gift_27 : decode cX4_gift 27 = .ok (.bipush 12, 2) := by decide +kernel
theorem dX4_gift_29 : decode cX4_gift 29 = .ok (.if_icmp .ge 29, 3) := by decide +kernel
theorem dX4_gift_32 : decode cX4_gift 32 = .ok (.iload_n 2, 1) := by decide +kernel
theorem dX4_gift_33 : decode cX4_gift 33 = .ok (.iload 5, 2) := by decide +kernel
theorem dX4_gift_35 : decode cX4_gift 35 = .ok (.invokestatic 21, 3) := by decide +kernel
theorem dX4_gift_38 : decode cX4_gift 38 = .ok (.ifCond .eq 14, 3) := by decide +kernel
theorem dX4_gift_41 : decode cX4_gift 41 = .ok (.iload 4, 2) := by decide +kernel
theorem dX4_gift_43 : decode cX4_gift 43 = .ok (.ifCond .ne 6, 3) := by decide +kernel
theorem dX4_gift_46 : decode cX4_gift 46 = .ok (.iload 5, 2) := by decide +kernel
theorem dX4_gift_48 : decode cX4_gift 48 = .ok (.ireturn, 1) := by decide +kernel
theorem dX4_gift_49 : decode cX4_gift 49 = .ok (.iinc 4 (-1), 3) := by decide +kernel
theorem dX4_gift_52 : decode cX4_gift 52 = .ok (.iinc 5 1, 3) := by decide +kernel
theorem dX4_gift_55 : decode cX4_gift 55 = .ok (.goto (-30), 3) := by decide +kernel
theorem dX4_gift_58 : decode cX4_gift 58 = .ok (.bipush (-4), 2) := by decide +kernel
theorem dX4_gift_60 : decode cX4_gift 60 = .ok (.ireturn, 1) := by decide +kernel
theorem dX4_wages_0 : decode cX4_wages 0 = .ok (.aload_n 0, 1) := by decide +kernel
theorem dX4_wages_1 : decode cX4_wages 1 = .ok (.invokespecial 25, 3) := by decide +kernel
theorem dX4_wages_4 : decode cX4_wages 4 = .ok (.aload_n 0, 1) := by decide +kernel
theorem dX4_wages_5 : decode cX4_wages 5 = .ok (.getfield 15, 3) := by decide +kernel
theorem dX4_wages_8 : decode cX4_wages 8 = .ok (.iadd, 1) := by decide +kernel
theorem dX4_wages_9 : decode cX4_wages 9 = .ok (.ireturn, 1) := by decide +kernel
theorem dX5_init_0 : decode cX5_init 0 = .ok (.aload_n 0, 1) := by decide +kernel
theorem dX5_init_1 : decode cX5_init 1 = .ok (.iload_n 1, 1) := by decide +kernel
theorem dX5_init_2 : decode cX5_init 2 = .ok (.iload_n 2, 1) := by decide +kernel
theorem dX5_init_3 : decode cX5_init 3 = .ok (.invokespecial 3, 3) := by decide +kernel
theorem dX5_init_6 : decode cX5_init 6 = .ok (.return_, 1) := by decide +kernel
theorem dX5_gift_0 : decode cX5_gift 0 = .ok (.bipush (-4), 2) := by decide +kernel
theorem dX5_gift_2 : decode cX5_gift 2 = .ok (.istore_n 3, 1) := by decide +kernel
theorem dX5_gift_3 : decode cX5_gift 3 = .ok (.iconst 0, 1) := by decide +kernel
theorem dX5_gift_4 : decode cX5_gift 4 = .ok (.istore 4, 2) := by decide +kernel
theorem dX5_gift_6 : decode cX5_gift 6 = .ok (.iload 4, 2) := by decide +kernel
theorem dX5_gift_8 : decode cX5_gift 8 = .ok (.bipush 12, 2) := by decide +kernel
theorem dX5_gift_10 : decode cX5_gift 10 = .ok (.if_icmp .ge 41, 3) := by decide +kernel
theorem dX5_gift_13 : decode cX5_gift 13 = .ok (.iload_n 2, 1) := by decide +kernel
theorem dX5_gift_14 : decode cX5_gift 14 = .ok (.iload 4, 2) := by decide +kernel
theorem dX5_gift_16 : decode cX5_gift 16 = .ok (.invokestatic 9, 3) := by decide +kernel
theorem dX5_gift_19 : decode cX5_gift 19 = .ok (.ifCond .eq 26, 3) := by decide +kernel
theorem dX5_gift_22 : decode cX5_gift 22 = .ok (.iload_n 3, 1) := by decide +kernel
theorem dX5_gift_23 : decode cX5_gift 23 = .ok (.ifCond .lt 19, 3) := by decide +kernel
theorem dX5_gift_26 : decode cX5_gift 26 = .ok (.aload_n 1, 1) := by decide +kernel
theorem dX5_gift_27 : decode cX5_gift 27 = .ok (.getfield 13, 3) := by decide +kernel
theorem dX5_gift_30 : decode cX5_gift 30 = .ok (.iload 4, 2) := by decide +kernel
theorem dX5_gift_32 : decode cX5_gift 32 = .ok (.iaload, 1) := by decide +kernel
theorem dX5_gift_33 : decode cX5_gift 33 = .ok (.aload_n 1, 1) := by decide +kernel
theorem dX5_gift_34 : decode cX5_gift 34 = .ok (.getfield 13, 3) := by decide +kernel
theorem dX5_gift_37 : decode cX5_gift 37 = .ok (.iload_n 3, 1) := by decide +kernel
theorem dX5_gift_38 : decode cX5_gift 38 = .ok (.iaload, 1) := by decide +kernel
theorem dX5_gift_39 : decode cX5_gift 39 = .ok (.if_icmp .lt 6, 3) := by decide +kernel
theorem dX5_gift_42 : decode cX5_gift 42 = .ok (.iload 4, 2) := by decide +kernel
theorem dX5_gift_44 : decode cX5_gift 44 = .ok (.istore_n 3, 1) := by decide +kernel
theorem dX5_gift_45 : decode cX5_gift 45 = .ok (.iinc 4 1, 3) := by decide +kernel
theorem dX5_gift_48 : decode cX5_gift 48 = .ok (.goto (-42), 3) := by decide +kernel
theorem dX5_gift_51 : decode cX5_gift 51 = .ok (.iload_n 3, 1) := by decide +kernel
theorem dX5_gift_52 : decode cX5_gift 52 = .ok (.ireturn, 1) := by decide +kernel
theorem dX5_wages_0 : decode cX5_wages 0 = .ok (.aload_n 0, 1) := by decide +kernel
theorem dX5_wages_1 : decode cX5_wages 1 = .ok (.invokespecial 19, 3) := by decide +kernel
theorem dX5_wages_4 : decode cX5_wages 4 = .ok (.iconst 1, 1) := by decide +kernel
theorem dX5_wages_5 : decode cX5_wages 5 = .ok (.isub, 1) := by decide +kernel
theorem dX5_wages_6 : decode cX5_wages 6 = .ok (.ireturn, 1) := by decide +kernel
theorem dX6_init_0 : decode cX6_init 0 = .ok (.aload_n 0, 1) := by decide +kernel
theorem dX6_init_1 : decode cX6_init 1 = .ok (.iload_n 1, 1) := by decide +kernel
theorem dX6_init_2 : decode cX6_init 2 = .ok (.iload_n 2, 1) := by decide +kernel
theorem dX6_init_3 : decode cX6_init 3 = .ok (.invokespecial 3, 3) := by decide +kernel
theorem dX6_init_6 : decode cX6_init 6 = .ok (.return_, 1) := by decide +kernel
theorem dX6_gift_0 : decode cX6_gift 0 = .ok (.bipush (-4), 2) := by decide +kernel
theorem dX6_gift_2 : decode cX6_gift 2 = .ok (.istore_n 3, 1) := by decide +kernel
theorem dX6_gift_3 : decode cX6_gift 3 = .ok (.iconst 0, 1) := by decide +kernel
theorem dX6_gift_4 : decode cX6_gift 4 = .ok (.istore 4, 2) := by decide +kernel
theorem dX6_gift_6 : decode cX6_gift 6 = .ok (.iload 4, 2) := by decide +kernel
theorem dX6_gift_8 : decode cX6_gift 8 = .ok (.bipush 12, 2) := by decide +kernel
theorem dX6_gift_10 : decode cX6_gift 10 = .ok (.if_icmp .ge 41, 3) := by decide +kernel
theorem dX6_gift_13 : decode cX6_gift 13 = .ok (.iload_n 2, 1) := by decide +kernel
theorem dX6_gift_14 : decode cX6_gift 14 = .ok (.iload 4, 2) := by decide +kernel
theorem dX6_gift_16 : decode cX6_gift 16 = .ok (.invokestatic 9, 3) := by decide +kernel
theorem dX6_gift_19 : decode cX6_gift 19 = .ok (.ifCond .eq 26, 3) := by decide +kernel
theorem dX6_gift_22 : decode cX6_gift 22 = .ok (.iload_n 3, 1) := by decide +kernel
theorem dX6_gift_23 : decode cX6_gift 23 = .ok (.ifCond .lt 19, 3) := by decide +kernel
theorem dX6_gift_26 : decode cX6_gift 26 = .ok (.aload_n 1, 1) := by decide +kernel
theorem dX6_gift_27 : decode cX6_gift 27 = .ok (.getfield 13, 3) := by decide +kernel
theorem dX6_gift_30 : decode cX6_gift 30 = .ok (.iload 4, 2) := by decide +kernel
theorem dX6_gift_32 : decode cX6_gift 32 = .ok (.iaload, 1) := by decide +kernel
theorem dX6_gift_33 : decode cX6_gift 33 = .ok (.aload_n 1, 1) := by decide +kernel
theorem dX6_gift_34 : decode cX6_gift 34 = .ok (.getfield 13, 3) := by decide +kernel
theorem dX6_gift_37 : decode cX6_gift 37 = .ok (.iload_n 3, 1) := by decide +kernel
theorem dX6_gift_38 : decode cX6_gift 38 = .ok (.iaload, 1) := by decide +kernel
theorem dX6_gift_39 : decode cX6_gift 39 = .ok (.if_icmp .ge 6, 3) := by decide +kernel
theorem dX6_gift_42 : decode cX6_gift 42 = .ok (.iload 4, 2) := by decide +kernel
theorem dX6_gift_44 : decode cX6_gift 44 = .ok (.istore_n 3, 1) := by decide +kernel
theorem dX6_gift_45 : decode cX6_gift 45 = .ok (.iinc 4 1, 3) := by decide +kernel
theorem dX6_gift_48 : decode cX6_gift 48 = .ok (.goto (-42), 3) := by decide +kernel
theorem dX6_gift_51 : decode cX6_gift 51 = .ok (.iload_n 3, 1) := by decide +kernel
theorem dX6_gift_52 : decode cX6_gift 52 = .ok (.ireturn, 1) := by decide +kernel
theorem dX6_wages_0 : decode cX6_wages 0 = .ok (.iconst 2, 1) := by decide +kernel
theorem dX6_wages_1 : decode cX6_wages 1 = .ok (.aload_n 0, 1) := by decide +kernel
theorem dX6_wages_2 : decode cX6_wages 2 = .ok (.invokespecial 19, 3) := by decide +kernel
theorem dX6_wages_5 : decode cX6_wages 5 = .ok (.imul, 1) := by decide +kernel
theorem dX6_wages_6 : decode cX6_wages 6 = .ok (.ireturn, 1) := by decide +kernel
theorem dX7_init_0 : decode cX7_init 0 = .ok (.aload_n 0, 1) := by decide +kernel
theorem dX7_init_1 : decode cX7_init 1 = .ok (.invokespecial 3, 3) := by decide +kernel
theorem dX7_init_4 : decode cX7_init 4 = .ok (.aload_n 0, 1) := by decide +kernel
theorem dX7_init_5 : decode cX7_init 5 = .ok (.aconst_null, 1) := by decide +kernel
theorem dX7_init_6 : decode cX7_init 6 = .ok (.putfield 9, 3) := by decide +kernel
theorem dX7_init_9 : decode cX7_init 9 = .ok (.aload_n 0, 1) := by decide +kernel
theorem dX7_init_10 : decode cX7_init 10 = .ok (.iconst (-1), 1) := by decide +kernel
theorem dX7_init_11 : decode cX7_init 11 = .ok (.putfield 15, 3) := by decide +kernel
theorem dX7_init_14 : decode cX7_init 14 = .ok (.aload_n 0, 1) := by decide +kernel
theorem dX7_init_15 : decode cX7_init 15 = .ok (.iconst 0, 1) := by decide +kernel
theorem dX7_init_16 : decode cX7_init 16 = .ok (.putfield 19, 3) := by decide +kernel
theorem dX7_init_19 : decode cX7_init 19 = .ok (.aload_n 0, 1) := by decide +kernel
theorem dX7_init_20 : decode cX7_init 20 = .ok (.bipush 100, 2) := by decide +kernel
theorem dX7_init_22 : decode cX7_init 22 = .ok (.newarray .int, 2) := by decide +kernel
theorem dX7_init_24 : decode cX7_init 24 = .ok (.putfield 22, 3) := by decide +kernel
theorem dX7_init_27 : decode cX7_init 27 = .ok (.return_, 1) := by decide +kernel
theorem dX7_holdsNothing_0 : decode cX7_holdsNothing 0 = .ok (.aload_n 0, 1) := by decide +kernel
theorem dX7_holdsNothing_1 : decode cX7_holdsNothing 1 = .ok (.getfield 9, 3) := by decide +kernel
theorem dX7_holdsNothing_4 : decode cX7_holdsNothing 4 = .ok (.ifnonnull 14, 3) := by decide +kernel
theorem dX7_holdsNothing_7 : decode cX7_holdsNothing 7 = .ok (.aload_n 0, 1) := by decide +kernel
theorem dX7_holdsNothing_8 : decode cX7_holdsNothing 8 = .ok (.getfield 15, 3) := by decide +kernel
theorem dX7_holdsNothing_11 : decode cX7_holdsNothing 11 = .ok (.ifCond .ge 7, 3) := by decide +kernel
theorem dX7_holdsNothing_14 : decode cX7_holdsNothing 14 = .ok (.iconst 1, 1) := by decide +kernel
theorem dX7_holdsNothing_15 : decode cX7_holdsNothing 15 = .ok (.goto 4, 3) := by decide +kernel
theorem dX7_holdsNothing_18 : decode cX7_holdsNothing 18 = .ok (.iconst 0, 1) := by decide +kernel
theorem dX7_holdsNothing_19 : decode cX7_holdsNothing 19 = .ok (.ireturn, 1) := by decide +kernel
theorem dX7_holdsRow_0 : decode cX7_holdsRow 0 = .ok (.aload_n 0, 1) := by decide +kernel
theorem dX7_holdsRow_1 : decode cX7_holdsRow 1 = .ok (.getfield 15, 3) := by decide +kernel
theorem dX7_holdsRow_4 : decode cX7_holdsRow 4 = .ok (.ifCond .lt 7, 3) := by decide +kernel
theorem dX7_holdsRow_7 : decode cX7_holdsRow 7 = .ok (.iconst 1, 1) := by decide +kernel
theorem dX7_holdsRow_8 : decode cX7_holdsRow 8 = .ok (.goto 4, 3) := by decide +kernel
theorem dX7_holdsRow_11 : decode cX7_holdsRow 11 = .ok (.iconst 0, 1) := by decide +kernel
theorem dX7_holdsRow_12 : decode cX7_holdsRow 12 = .ok (.ireturn, 1) := by decide +kernel
theorem dX7_holdNothing_0 : decode cX7_holdNothing 0 = .ok (.aload_n 0, 1) := by decide +kernel
theorem dX7_holdNothing_1 : decode cX7_holdNothing 1 = .ok (.aconst_null, 1) := by decide +kernel
theorem dX7_holdNothing_2 : decode cX7_holdNothing 2 = .ok (.putfield 9, 3) := by decide +kernel
theorem dX7_holdNothing_5 : decode cX7_holdNothing 5 = .ok (.aload_n 0, 1) := by decide +kernel
theorem dX7_holdNothing_6 : decode cX7_holdNothing 6 = .ok (.iconst (-1), 1) := by decide +kernel
theorem dX7_holdNothing_7 : decode cX7_holdNothing 7 = .ok (.putfield 15, 3) := by decide +kernel
theorem dX7_holdNothing_10 : decode cX7_holdNothing 10 = .ok (.aload_n 0, 1) := by decide +kernel
theorem dX7_holdNothing_11 : decode cX7_holdNothing 11 = .ok (.iconst 0, 1) := by decide +kernel
theorem dX7_holdNothing_12 : decode cX7_holdNothing 12 = .ok (.putfield 19, 3) := by decide +kernel
theorem dX7_holdNothing_15 : decode cX7_holdNothing 15 = .ok (.return_, 1) := by decide +kernel
theorem dX7_holdCaptain_0 : decode cX7_holdCaptain 0 = .ok (.aload_n 0, 1) := by decide +kernel
theorem dX7_holdCaptain_1 : decode cX7_holdCaptain 1 = .ok (.invokevirtual 26, 3) := by decide +kernel
theorem dX7_holdCaptain_4 : decode cX7_holdCaptain 4 = .ok (.aload_n 0, 1) := by decide +kernel
theorem dX7_holdCaptain_5 : decode cX7_holdCaptain 5 = .ok (.aload_n 1, 1) := by decide +kernel
theorem dX7_holdCaptain_6 : decode cX7_holdCaptain 6 = .ok (.putfield 9, 3) := by decide +kernel
theorem dX7_holdCaptain_9 : decode cX7_holdCaptain 9 = .ok (.return_, 1) := by decide +kernel
theorem dX7_holdRow_0 : decode cX7_holdRow 0 = .ok (.aload_n 0, 1) := by decide +kernel
theorem dX7_holdRow_1 : decode cX7_holdRow 1 = .ok (.invokevirtual 26, 3) := by decide +kernel
theorem dX7_holdRow_4 : decode cX7_holdRow 4 = .ok (.aload_n 0, 1) := by decide +kernel
theorem dX7_holdRow_5 : decode cX7_holdRow 5 = .ok (.iload_n 1, 1) := by decide +kernel
theorem dX7_holdRow_6 : decode cX7_holdRow 6 = .ok (.putfield 15, 3) := by decide +kernel
theorem dX7_holdRow_9 : decode cX7_holdRow 9 = .ok (.aload_n 0, 1) := by decide +kernel
theorem dX7_holdRow_10 : decode cX7_holdRow 10 = .ok (.iload_n 2, 1) := by decide +kernel
theorem dX7_holdRow_11 : decode cX7_holdRow 11 = .ok (.putfield 19, 3) := by decide +kernel
theorem dX7_holdRow_14 : decode cX7_holdRow 14 = .ok (.iconst 0, 1) := by decide +kernel
theorem dX7_holdRow_15 : decode cX7_holdRow 15 = .ok (.istore_n 3, 1) := by decide +kernel
theorem dX7_holdRow_16 : decode cX7_holdRow 16 = .ok (.iload_n 3, 1) := by decide +kernel
theorem dX7_holdRow_17 : decode cX7_holdRow 17 = .ok (.bipush 100, 2) := by decide +kernel
theorem dX7_holdRow_19 : decode cX7_holdRow 19 = .ok (.if_icmp .ge 16, 3) := by decide +kernel
theorem dX7_holdRow_22 : decode cX7_holdRow 22 = .ok (.aload_n 0, 1) := by decide +kernel
theorem dX7_holdRow_23 : decode cX7_holdRow 23 = .ok (.getfield 22, 3) := by decide +kernel
theorem dX7_holdRow_26 : decode cX7_holdRow 26 = .ok (.iload_n 3, 1) := by decide +kernel
theorem dX7_holdRow_27 : decode cX7_holdRow 27 = .ok (.iconst 0, 1) := by decide +kernel
theorem dX7_holdRow_28 : decode cX7_holdRow 28 = .ok (.iastore, 1) := by decide +kernel
theorem dX7_holdRow_29 : decode cX7_holdRow 29 = .ok (.iinc 3 1, 3) := by decide +kernel
theorem dX7_holdRow_32 : decode cX7_holdRow 32 = .ok (.goto (-16), 3) := by decide +kernel
theorem dX7_holdRow_35 : decode cX7_holdRow 35 = .ok (.return_, 1) := by decide +kernel
theorem dX7_hasPlace_0 : decode cX7_hasPlace 0 = .ok (.iload_n 1, 1) := by decide +kernel
theorem dX7_hasPlace_1 : decode cX7_hasPlace 1 = .ok (.ifCond .lt 15, 3) := by decide +kernel
theorem dX7_hasPlace_4 : decode cX7_hasPlace 4 = .ok (.iload_n 1, 1) := by decide +kernel
theorem dX7_hasPlace_5 : decode cX7_hasPlace 5 = .ok (.aload_n 0, 1) := by decide +kernel
theorem dX7_hasPlace_6 : decode cX7_hasPlace 6 = .ok (.getfield 19, 3) := by decide +kernel
theorem dX7_hasPlace_9 : decode cX7_hasPlace 9 = .ok (.if_icmp .ge 7, 3) := by decide +kernel
theorem dX7_hasPlace_12 : decode cX7_hasPlace 12 = .ok (.iconst 1, 1) := by decide +kernel
theorem dX7_hasPlace_13 : decode cX7_hasPlace 13 = .ok (.goto 4, 3) := by decide +kernel
theorem dX7_hasPlace_16 : decode cX7_hasPlace 16 = .ok (.iconst 0, 1) := by decide +kernel
theorem dX7_hasPlace_17 : decode cX7_hasPlace 17 = .ok (.ireturn, 1) := by decide +kernel
theorem dX7_hasStretch_0 : decode cX7_hasStretch 0 = .ok (.iload_n 1, 1) := by decide +kernel
theorem dX7_hasStretch_1 : decode cX7_hasStretch 1 = .ok (.ifCond .lt 29, 3) := by decide +kernel
theorem dX7_hasStretch_4 : decode cX7_hasStretch 4 = .ok (.iload_n 2, 1) := by decide +kernel
theorem dX7_hasStretch_5 : decode cX7_hasStretch 5 = .ok (.ifCond .lt 25, 3) := by decide +kernel
theorem dX7_hasStretch_8 : decode cX7_hasStretch 8 = .ok (.iload_n 1, 1) := by decide +kernel
theorem dX7_hasStretch_9 : decode cX7_hasStretch 9 = .ok (.aload_n 0, 1) := by decide +kernel
theorem dX7_hasStretch_10 : decode cX7_hasStretch 10 = .ok (.getfield 19, 3) := by decide +kernel
theorem dX7_hasStretch_13 : decode cX7_hasStretch 13 = .ok (.if_icmp .gt 17, 3) := by decide +kernel
theorem dX7_hasStretch_16 : decode cX7_hasStretch 16 = .ok (.iload_n 2, 1) := by decide +kernel
theorem dX7_hasStretch_17 : decode cX7_hasStretch 17 = .ok (.aload_n 0, 1) := by decide +kernel
theorem dX7_hasStretch_18 : decode cX7_hasStretch 18 = .ok (.getfield 19, 3) := by decide +kernel
theorem dX7_hasStretch_21 : decode cX7_hasStretch 21 = .ok (.iload_n 1, 1) := by decide +kernel
theorem dX7_hasStretch_22 : decode cX7_hasStretch 22 = .ok (.isub, 1) := by decide +kernel
theorem dX7_hasStretch_23 : decode cX7_hasStretch 23 = .ok (.if_icmp .gt 7, 3) := by decide +kernel
theorem dX7_hasStretch_26 : decode cX7_hasStretch 26 = .ok (.iconst 1, 1) := by decide +kernel
theorem dX7_hasStretch_27 : decode cX7_hasStretch 27 = .ok (.goto 4, 3) := by decide +kernel
theorem dX7_hasStretch_30 : decode cX7_hasStretch 30 = .ok (.iconst 0, 1) := by decide +kernel
theorem dX7_hasStretch_31 : decode cX7_hasStretch 31 = .ok (.ireturn, 1) := by decide +kernel
theorem dX7_at_0 : decode cX7_at 0 = .ok (.aload_n 0, 1) := by decide +kernel
theorem dX7_at_1 : decode cX7_at 1 = .ok (.iload_n 1, 1) := by decide +kernel
theorem dX7_at_2 : decode cX7_at 2 = .ok (.invokevirtual 29, 3) := by decide +kernel
theorem dX7_at_5 : decode cX7_at 5 = .ok (.ifCond .eq 12, 3) := by decide +kernel
theorem dX7_at_8 : decode cX7_at 8 = .ok (.aload_n 0, 1) := by decide +kernel
theorem dX7_at_9 : decode cX7_at 9 = .ok (.getfield 22, 3) := by decide +kernel
theorem dX7_at_12 : decode cX7_at 12 = .ok (.iload_n 1, 1) := by decide +kernel
theorem dX7_at_13 : decode cX7_at 13 = .ok (.iaload, 1) := by decide +kernel
theorem dX7_at_14 : decode cX7_at 14 = .ok (.goto 4, 3) := by decide +kernel
theorem dX7_at_17 : decode cX7_at 17 = .ok (.iconst 0, 1) := by decide +kernel
theorem dX7_at_18 : decode cX7_at 18 = .ok (.ireturn, 1) := by decide +kernel
theorem dX7_meetings_0 : decode cX7_meetings 0 = .ok (.aload_n 0, 1) := by decide +kernel
theorem dX7_meetings_1 : decode cX7_meetings 1 = .ok (.getfield 19, 3) := by decide +kernel
theorem dX7_meetings_4 : decode cX7_meetings 4 = .ok (.iconst 2, 1) := by decide +kernel
theorem dX7_meetings_5 : decode cX7_meetings 5 = .ok (.idiv, 1) := by decide +kernel
theorem dX7_meetings_6 : decode cX7_meetings 6 = .ok (.ireturn, 1) := by decide +kernel
theorem dX7_one_0 : decode cX7_one 0 = .ok (.aload_n 0, 1) := by decide +kernel
theorem dX7_one_1 : decode cX7_one 1 = .ok (.iconst 2, 1) := by decide +kernel
theorem dX7_one_2 : decode cX7_one 2 = .ok (.iload_n 1, 1) := by decide +kernel
theorem dX7_one_3 : decode cX7_one 3 = .ok (.imul, 1) := by decide +kernel
theorem dX7_one_4 : decode cX7_one 4 = .ok (.invokevirtual 33, 3) := by decide +kernel
theorem dX7_one_7 : decode cX7_one 7 = .ok (.ireturn, 1) := by decide +kernel
theorem dX7_other_0 : decode cX7_other 0 = .ok (.aload_n 0, 1) := by decide +kernel
theorem dX7_other_1 : decode cX7_other 1 = .ok (.iconst 2, 1) := by decide +kernel
theorem dX7_other_2 : decode cX7_other 2 = .ok (.iload_n 1, 1) := by decide +kernel
theorem dX7_other_3 : decode cX7_other 3 = .ok (.imul, 1) := by decide +kernel
theorem dX7_other_4 : decode cX7_other 4 = .ok (.iconst 1, 1) := by decide +kernel
theorem dX7_other_5 : decode cX7_other 5 = .ok (.iadd, 1) := by decide +kernel
theorem dX7_other_6 : decode cX7_other 6 = .ok (.invokevirtual 33, 3) := by decide +kernel
theorem dX7_other_9 : decode cX7_other 9 = .ok (.ireturn, 1) := by decide +kernel
theorem dX7_write_0 : decode cX7_write 0 = .ok (.aload_n 0, 1) := by decide +kernel
theorem dX7_write_1 : decode cX7_write 1 = .ok (.iload_n 1, 1) := by decide +kernel
theorem dX7_write_2 : decode cX7_write 2 = .ok (.invokevirtual 29, 3) := by decide +kernel
theorem dX7_write_5 : decode cX7_write 5 = .ok (.ifCond .ne 4, 3) := by decide +kernel
theorem dX7_write_8 : decode cX7_write 8 = .ok (.return_, 1) := by decide +kernel
theorem dX7_write_9 : decode cX7_write 9 = .ok (.aload_n 0, 1) := by decide +kernel
theorem dX7_write_10 : decode cX7_write 10 = .ok (.getfield 15, 3) := by decide +kernel
theorem dX7_write_13 : decode cX7_write 13 = .ok (.lookupswitch 49 #[(0, 27), (1, 38)], 27) := by decide +kernel
theorem dX7_write_40 : decode cX7_write 40 = .ok (.aload_n 0, 1) := by decide +kernel
theorem dX7_write_41 : decode cX7_write 41 = .ok (.getfield 22, 3) := by decide +kernel
theorem dX7_write_44 : decode cX7_write 44 = .ok (.iload_n 1, 1) := by decide +kernel
theorem dX7_write_45 : decode cX7_write 45 = .ok (.iload_n 2, 1) := by decide +kernel
theorem dX7_write_46 : decode cX7_write 46 = .ok (.i2b, 1) := by decide +kernel
theorem dX7_write_47 : decode cX7_write 47 = .ok (.iastore, 1) := by decide +kernel
theorem dX7_write_48 : decode cX7_write 48 = .ok (.goto 21, 3) := by decide +kernel
theorem dX7_write_51 : decode cX7_write 51 = .ok (.aload_n 0, 1) := by decide +kernel
theorem dX7_write_52 : decode cX7_write 52 = .ok (.getfield 22, 3) := by decide +kernel
theorem dX7_write_55 : decode cX7_write 55 = .ok (.iload_n 1, 1) := by decide +kernel
theorem dX7_write_56 : decode cX7_write 56 = .ok (.iload_n 2, 1) := by decide +kernel
theorem dX7_write_57 : decode cX7_write 57 = .ok (.i2s, 1) := by decide +kernel
theorem dX7_write_58 : decode cX7_write 58 = .ok (.iastore, 1) := by decide +kernel
theorem dX7_write_59 : decode cX7_write 59 = .ok (.goto 10, 3) := by decide +kernel
theorem dX7_write_62 : decode cX7_write 62 = .ok (.aload_n 0, 1) := by decide +kernel
theorem dX7_write_63 : decode cX7_write 63 = .ok (.getfield 22, 3) := by decide +kernel
theorem dX7_write_66 : decode cX7_write 66 = .ok (.iload_n 1, 1) := by decide +kernel
theorem dX7_write_67 : decode cX7_write 67 = .ok (.iload_n 2, 1) := by decide +kernel
theorem dX7_write_68 : decode cX7_write 68 = .ok (.iastore, 1) := by decide +kernel
theorem dX7_write_69 : decode cX7_write 69 = .ok (.return_, 1) := by decide +kernel
theorem dX8_init_0 : decode cX8_init 0 = .ok (.aload_n 0, 1) := by decide +kernel
theorem dX8_init_1 : decode cX8_init 1 = .ok (.bipush 6, 2) := by decide +kernel
theorem dX8_init_3 : decode cX8_init 3 = .ok (.iload_n 1, 1) := by decide +kernel
theorem dX8_init_4 : decode cX8_init 4 = .ok (.invokespecial 1, 3) := by decide +kernel
theorem dX8_init_7 : decode cX8_init 7 = .ok (.return_, 1) := by decide +kernel
theorem dX8_gift_0 : decode cX8_gift 0 = .ok (.iload_n 2, 1) := by decide +kernel
theorem dX8_gift_1 : decode cX8_gift 1 = .ok (.aload_n 0, 1) := by decide +kernel
theorem dX8_gift_2 : decode cX8_gift 2 = .ok (.getfield 7, 3) := by decide +kernel
theorem dX8_gift_5 : decode cX8_gift 5 = .ok (.invokestatic 13, 3) := by decide +kernel
theorem dX8_gift_8 : decode cX8_gift 8 = .ok (.ifCond .eq 10, 3) := by decide +kernel
theorem dX8_gift_11 : decode cX8_gift 11 = .ok (.aload_n 0, 1) := by decide +kernel
theorem dX8_gift_12 : decode cX8_gift 12 = .ok (.getfield 7, 3) := by decide +kernel
theorem dX8_gift_15 : decode cX8_gift 15 = .ok (.goto 9, 3) := by decide +kernel
theorem dX8_gift_18 : decode cX8_gift 18 = .ok (.aload_n 0, 1) := by decide +kernel
theorem dX8_gift_19 : decode cX8_gift 19 = .ok (.aload_n 1, 1) := by decide +kernel
theorem dX8_gift_20 : decode cX8_gift 20 = .ok (.iload_n 2, 1) := by decide +kernel
theorem dX8_gift_21 : decode cX8_gift 21 = .ok (.invokespecial 19, 3) := by decide +kernel
theorem dX8_gift_24 : decode cX8_gift 24 = .ok (.ireturn, 1) := by decide +kernel
theorem dX8_wages_0 : decode cX8_wages 0 = .ok (.aload_n 0, 1) := by decide +kernel
theorem dX8_wages_1 : decode cX8_wages 1 = .ok (.invokespecial 23, 3) := by decide +kernel
theorem dX8_wages_4 : decode cX8_wages 4 = .ok (.aload_n 0, 1) := by decide +kernel
theorem dX8_wages_5 : decode cX8_wages 5 = .ok (.getfield 7, 3) := by decide +kernel
theorem dX8_wages_8 : decode cX8_wages 8 = .ok (.isub, 1) := by decide +kernel
theorem dX8_wages_9 : decode cX8_wages 9 = .ok (.ireturn, 1) := by decide +kernel
theorem dX8_fail_0 : decode cX8_fail 0 = .ok (.return_, 1) := by decide +kernel
theorem dX9_init_0 : decode cX9_init 0 = .ok (.aload_n 0, 1) := by decide +kernel
theorem dX9_init_1 : decode cX9_init 1 = .ok (.iload_n 1, 1) := by decide +kernel
theorem dX9_init_2 : decode cX9_init 2 = .ok (.iload_n 2, 1) := by decide +kernel
theorem dX9_init_3 : decode cX9_init 3 = .ok (.invokespecial 3, 3) := by decide +kernel
theorem dX9_init_6 : decode cX9_init 6 = .ok (.return_, 1) := by decide +kernel
theorem dX9_unwanted_0 : decode cX9_unwanted 0 = .ok (.iconst 0, 1) := by decide +kernel
theorem dX9_unwanted_1 : decode cX9_unwanted 1 = .ok (.istore_n 3, 1) := by decide +kernel
theorem dX9_unwanted_2 : decode cX9_unwanted 2 = .ok (.iconst 0, 1) := by decide +kernel
theorem dX9_unwanted_3 : decode cX9_unwanted 3 = .ok (.istore 4, 2) := by decide +kernel
theorem dX9_unwanted_5 : decode cX9_unwanted 5 = .ok (.iload 4, 2) := by decide +kernel
theorem dX9_unwanted_7 : decode cX9_unwanted 7 = .ok (.bipush 12, 2) := by decide +kernel
theorem dX9_unwanted_9 : decode cX9_unwanted 9 = .ok (.if_icmp .ge 41, 3) := by decide +kernel
theorem dX9_unwanted_12 : decode cX9_unwanted 12 = .ok (.iload_n 2, 1) := by decide +kernel
theorem dX9_unwanted_13 : decode cX9_unwanted 13 = .ok (.iload 4, 2) := by decide +kernel
theorem dX9_unwanted_15 : decode cX9_unwanted 15 = .ok (.invokestatic 9, 3) := by decide +kernel
theorem dX9_unwanted_18 : decode cX9_unwanted 18 = .ok (.ifCond .eq 26, 3) := by decide +kernel
theorem dX9_unwanted_21 : decode cX9_unwanted 21 = .ok (.aload_n 1, 1) := by decide +kernel
theorem dX9_unwanted_22 : decode cX9_unwanted 22 = .ok (.getfield 13, 3) := by decide +kernel
theorem dX9_unwanted_25 : decode cX9_unwanted 25 = .ok (.iload 4, 2) := by decide +kernel
theorem dX9_unwanted_27 : decode cX9_unwanted 27 = .ok (.iaload, 1) := by decide +kernel
theorem dX9_unwanted_28 : decode cX9_unwanted 28 = .ok (.aload_n 0, 1) := by decide +kernel
theorem dX9_unwanted_29 : decode cX9_unwanted 29 = .ok (.getfield 19, 3) := by decide +kernel
theorem dX9_unwanted_32 : decode cX9_unwanted 32 = .ok (.iconst 4, 1) := by decide +kernel
theorem dX9_unwanted_33 : decode cX9_unwanted 33 = .ok (.irem, 1) := by decide +kernel
theorem dX9_unwanted_34 : decode cX9_unwanted 34 = .ok (.if_icmp .eq 10, 3) := by decide +kernel
theorem dX9_unwanted_37 : decode cX9_unwanted 37 = .ok (.iload_n 3, 1) := by decide +kernel
theorem dX9_unwanted_38 : decode cX9_unwanted 38 = .ok (.iconst 1, 1) := by decide +kernel
theorem dX9_unwanted_39 : decode cX9_unwanted 39 = .ok (.iload 4, 2) := by decide +kernel
theorem dX9_unwanted_41 : decode cX9_unwanted 41 = .ok (.ishl, 1) := by decide +kernel
theorem dX9_unwanted_42 : decode cX9_unwanted 42 = .ok (.ior, 1) := by decide +kernel
theorem dX9_unwanted_43 : decode cX9_unwanted 43 = .ok (.istore_n 3, 1) := by decide +kernel
theorem dX9_unwanted_44 : decode cX9_unwanted 44 = .ok (.iinc 4 1, 3) := by decide +kernel
theorem dX9_unwanted_47 : decode cX9_unwanted 47 = .ok (.goto (-42), 3) := by decide +kernel
theorem dX9_unwanted_50 : decode cX9_unwanted 50 = .ok (.iload_n 3, 1) := by decide +kernel
theorem dX9_unwanted_51 : decode cX9_unwanted 51 = .ok (.ifCond .ne 7, 3) := by decide +kernel
theorem dX9_unwanted_54 : decode cX9_unwanted 54 = .ok (.iload_n 2, 1) := by decide +kernel
theorem dX9_unwanted_55 : decode cX9_unwanted 55 = .ok (.goto 4, 3) := by decide +kernel
theorem dX9_unwanted_58 : decode cX9_unwanted 58 = .ok (.iload_n 3, 1) := by decide +kernel
theorem dX9_unwanted_59 : decode cX9_unwanted 59 = .ok (.ireturn, 1) := by decide +kernel
theorem dX9_gift_0 : decode cX9_gift 0 = .ok (.aload_n 0, 1) := by decide +kernel
theorem dX9_gift_1 : decode cX9_gift 1 = .ok (.aload_n 1, 1) := by decide +kernel
theorem dX9_gift_2 : decode cX9_gift 2 = .ok (.aload_n 0, 1) := by decide +kernel
theorem dX9_gift_3 : decode cX9_gift 3 = .ok (.aload_n 1, 1) := by decide +kernel
theorem dX9_gift_4 : decode cX9_gift 4 = .ok (.iload_n 2, 1) := by decide +kernel
theorem dX9_gift_5 : decode cX9_gift 5 = .ok (.invokevirtual 25, 3) := by decide +kernel
theorem dX9_gift_8 : decode cX9_gift 8 = .ok (.invokespecial 29, 3) := by decide +kernel
theorem dX9_gift_11 : decode cX9_gift 11 = .ok (.ireturn, 1) := by decide +kernel
theorem dX9_wages_0 : decode cX9_wages 0 = .ok (.aload_n 0, 1) := by decide +kernel
theorem dX9_wages_1 : decode cX9_wages 1 = .ok (.invokespecial 32, 3) := by decide +kernel
theorem dX9_wages_4 : decode cX9_wages 4 = .ok (.aload_n 0, 1) := by decide +kernel
theorem dX9_wages_5 : decode cX9_wages 5 = .ok (.getfield 19, 3) := by decide +kernel
theorem dX9_wages_8 : decode cX9_wages 8 = .ok (.iconst 1, 1) := by decide +kernel
theorem dX9_wages_9 : decode cX9_wages 9 = .ok (.iadd, 1) := by decide +kernel
theorem dX9_wages_10 : decode cX9_wages 10 = .ok (.imul, 1) := by decide +kernel
theorem dX9_wages_11 : decode cX9_wages 11 = .ok (.ireturn, 1) := by decide +kernel
theorem dX10_init_0 : decode cX10_init 0 = .ok (.aload_n 0, 1) := by decide +kernel
theorem dX10_init_1 : decode cX10_init 1 = .ok (.invokespecial 1, 3) := by decide +kernel
theorem dX10_init_4 : decode cX10_init 4 = .ok (.aload_n 0, 1) := by decide +kernel
theorem dX10_init_5 : decode cX10_init 5 = .ok (.new 7, 3) := by decide +kernel
theorem dX10_init_8 : decode cX10_init 8 = .ok (.dup, 1) := by decide +kernel
theorem dX10_init_9 : decode cX10_init 9 = .ok (.invokespecial 9, 3) := by decide +kernel
theorem dX10_init_12 : decode cX10_init 12 = .ok (.putfield 10, 3) := by decide +kernel
theorem dX10_init_15 : decode cX10_init 15 = .ok (.aload_n 0, 1) := by decide +kernel
theorem dX10_init_16 : decode cX10_init 16 = .ok (.new 7, 3) := by decide +kernel
theorem dX10_init_19 : decode cX10_init 19 = .ok (.dup, 1) := by decide +kernel
theorem dX10_init_20 : decode cX10_init 20 = .ok (.invokespecial 9, 3) := by decide +kernel
theorem dX10_init_23 : decode cX10_init 23 = .ok (.putfield 16, 3) := by decide +kernel
theorem dX10_init_26 : decode cX10_init 26 = .ok (.aload_n 0, 1) := by decide +kernel
theorem dX10_init_27 : decode cX10_init 27 = .ok (.new 7, 3) := by decide +kernel
theorem dX10_init_30 : decode cX10_init 30 = .ok (.dup, 1) := by decide +kernel
theorem dX10_init_31 : decode cX10_init 31 = .ok (.invokespecial 9, 3) := by decide +kernel
theorem dX10_init_34 : decode cX10_init 34 = .ok (.putfield 19, 3) := by decide +kernel
theorem dX10_init_37 : decode cX10_init 37 = .ok (.aload_n 0, 1) := by decide +kernel
theorem dX10_init_38 : decode cX10_init 38 = .ok (.iconst 0, 1) := by decide +kernel
theorem dX10_init_39 : decode cX10_init 39 = .ok (.putfield 22, 3) := by decide +kernel
theorem dX10_init_42 : decode cX10_init 42 = .ok (.aload_n 0, 1) := by decide +kernel
theorem dX10_init_43 : decode cX10_init 43 = .ok (.bipush 8, 2) := by decide +kernel
theorem dX10_init_45 : decode cX10_init 45 = .ok (.anewarray 26, 3) := by decide +kernel
theorem dX10_init_48 : decode cX10_init 48 = .ok (.putfield 28, 3) := by decide +kernel
theorem dX10_init_51 : decode cX10_init 51 = .ok (.iconst 0, 1) := by decide +kernel
theorem dX10_init_52 : decode cX10_init 52 = .ok (.istore_n 1, 1) := by decide +kernel
theorem dX10_init_53 : decode cX10_init 53 = .ok (.iload_n 1, 1) := by decide +kernel
theorem dX10_init_54 : decode cX10_init 54 = .ok (.bipush 8, 2) := by decide +kernel
theorem dX10_init_56 : decode cX10_init 56 = .ok (.if_icmp .ge 22, 3) := by decide +kernel
theorem dX10_init_59 : decode cX10_init 59 = .ok (.aload_n 0, 1) := by decide +kernel
theorem dX10_init_60 : decode cX10_init 60 = .ok (.getfield 28, 3) := by decide +kernel
theorem dX10_init_63 : decode cX10_init 63 = .ok (.iload_n 1, 1) := by decide +kernel
theorem dX10_init_64 : decode cX10_init 64 = .ok (.new 26, 3) := by decide +kernel
theorem dX10_init_67 : decode cX10_init 67 = .ok (.dup, 1) := by decide +kernel
theorem dX10_init_68 : decode cX10_init 68 = .ok (.invokespecial 32, 3) := by decide +kernel
theorem dX10_init_71 : decode cX10_init 71 = .ok (.aastore, 1) := by decide +kernel
theorem dX10_init_72 : decode cX10_init 72 = .ok (.iinc 1 1, 3) := by decide +kernel
theorem dX10_init_75 : decode cX10_init 75 = .ok (.goto (-22), 3) := by decide +kernel
theorem dX10_init_78 : decode cX10_init 78 = .ok (.aload_n 0, 1) := by decide +kernel
theorem dX10_init_79 : decode cX10_init 79 = .ok (.iconst 5, 1) := by decide +kernel
theorem dX10_init_80 : decode cX10_init 80 = .ok (.iconst 5, 1) := by decide +kernel
theorem dX10_init_81 : decode cX10_init 81 = .ok (.multianewarray 33 2, 4) := by decide +kernel
theorem dX10_init_85 : decode cX10_init 85 = .ok (.putfield 35, 3) := by decide +kernel
theorem dX10_init_88 : decode cX10_init 88 = .ok (.aload_n 0, 1) := by decide +kernel
theorem dX10_init_89 : decode cX10_init 89 = .ok (.bipush 12, 2) := by decide +kernel
theorem dX10_init_91 : decode cX10_init 91 = .ok (.newarray .int, 2) := by decide +kernel
theorem dX10_init_93 : decode cX10_init 93 = .ok (.putfield 38, 3) := by decide +kernel
theorem dX10_init_96 : decode cX10_init 96 = .ok (.aload_n 0, 1) := by decide +kernel
theorem dX10_init_97 : decode cX10_init 97 = .ok (.iconst 5, 1) := by decide +kernel
theorem dX10_init_98 : decode cX10_init 98 = .ok (.newarray .long, 2) := by decide +kernel
theorem dX10_init_100 : decode cX10_init 100 = .ok (.putfield 42, 3) := by decide +kernel
theorem dX10_init_103 : decode cX10_init 103 = .ok (.return_, 1) := by decide +kernel
theorem dX10_fleet_0 : decode cX10_fleet 0 = .ok (.aload_n 0, 1) := by decide +kernel
theorem dX10_fleet_1 : decode cX10_fleet 1 = .ok (.iload_n 1, 1) := by decide +kernel
theorem dX10_fleet_2 : decode cX10_fleet 2 = .ok (.invokevirtual 46, 3) := by decide +kernel
theorem dX10_fleet_5 : decode cX10_fleet 5 = .ok (.istore_n 2, 1) := by decide +kernel
theorem dX10_fleet_6 : decode cX10_fleet 6 = .ok (.iload_n 2, 1) := by decide +kernel
theorem dX10_fleet_7 : decode cX10_fleet 7 = .ok (.ifCond .ge 5, 3) := by decide +kernel
theorem dX10_fleet_10 : decode cX10_fleet 10 = .ok (.iload_n 2, 1) := by decide +kernel
theorem dX10_fleet_11 : decode cX10_fleet 11 = .ok (.ireturn, 1) := by decide +kernel
theorem dX10_fleet_12 : decode cX10_fleet 12 = .ok (.aload_n 0, 1) := by decide +kernel
theorem dX10_fleet_13 : decode cX10_fleet 13 = .ok (.getfield 28, 3) := by decide +kernel
theorem dX10_fleet_16 : decode cX10_fleet 16 = .ok (.iload_n 1, 1) := by decide +kernel
theorem dX10_fleet_17 : decode cX10_fleet 17 = .ok (.aaload, 1) := by decide +kernel
theorem dX10_fleet_18 : decode cX10_fleet 18 = .ok (.astore_n 3, 1) := by decide +kernel
theorem dX10_fleet_19 : decode cX10_fleet 19 = .ok (.aload_n 3, 1) := by decide +kernel
theorem dX10_fleet_20 : decode cX10_fleet 20 = .ok (.invokestatic 50, 3) := by decide +kernel
theorem dX10_fleet_23 : decode cX10_fleet 23 = .ok (.istore 4, 2) := by decide +kernel
theorem dX10_fleet_25 : decode cX10_fleet 25 = .ok (.iload 4, 2) := by decide +kernel
theorem dX10_fleet_27 : decode cX10_fleet 27 = .ok (.ifCond .lt 10, 3) := by decide +kernel
theorem dX10_fleet_30 : decode cX10_fleet 30 = .ok (.sipush (-1000), 3) := by decide +kernel
theorem dX10_fleet_33 : decode cX10_fleet 33 = .ok (.iload 4, 2) := by decide +kernel
theorem dX10_fleet_35 : decode cX10_fleet 35 = .ok (.isub, 1) := by decide +kernel
theorem dX10_fleet_36 : decode cX10_fleet 36 = .ok (.ireturn, 1) := by decide +kernel
theorem dX10_fleet_37 : decode cX10_fleet 37 = .ok (.aload_n 0, 1) := by decide +kernel
theorem dX10_fleet_38 : decode cX10_fleet 38 = .ok (.getfield 16, 3) := by decide +kernel
theorem dX10_fleet_41 : decode cX10_fleet 41 = .ok (.aload_n 0, 1) := by decide +kernel
theorem dX10_fleet_42 : decode cX10_fleet 42 = .ok (.getfield 10, 3) := by decide +kernel
theorem dX10_fleet_45 : decode cX10_fleet 45 = .ok (.invokevirtual 54, 3) := by decide +kernel
theorem dX10_fleet_48 : decode cX10_fleet 48 = .ok (.iconst 0, 1) := by decide +kernel
theorem dX10_fleet_49 : decode cX10_fleet 49 = .ok (.istore 5, 2) := by decide +kernel
theorem dX10_fleet_51 : decode cX10_fleet 51 = .ok (.iconst 0, 1) := by decide +kernel
theorem dX10_fleet_52 : decode cX10_fleet 52 = .ok (.istore 6, 2) := by decide +kernel
theorem dX10_fleet_54 : decode cX10_fleet 54 = .ok (.iload 6, 2) := by decide +kernel
theorem dX10_fleet_56 : decode cX10_fleet 56 = .ok (.aload_n 3, 1) := by decide +kernel
theorem dX10_fleet_57 : decode cX10_fleet 57 = .ok (.getfield 58, 3) := by decide +kernel
theorem dX10_fleet_60 : decode cX10_fleet 60 = .ok (.if_icmp .ge 45, 3) := by decide +kernel
theorem dX10_fleet_63 : decode cX10_fleet 63 = .ok (.aload_n 0, 1) := by decide +kernel
theorem dX10_fleet_64 : decode cX10_fleet 64 = .ok (.getfield 16, 3) := by decide +kernel
theorem dX10_fleet_67 : decode cX10_fleet 67 = .ok (.aload_n 3, 1) := by decide +kernel
theorem dX10_fleet_68 : decode cX10_fleet 68 = .ok (.iload 6, 2) := by decide +kernel
theorem dX10_fleet_70 : decode cX10_fleet 70 = .ok (.invokestatic 62, 3) := by decide +kernel
theorem dX10_fleet_73 : decode cX10_fleet 73 = .ok (.ifCond .ne 10, 3) := by decide +kernel
theorem dX10_fleet_76 : decode cX10_fleet 76 = .ok (.sipush (-2000), 3) := by decide +kernel
theorem dX10_fleet_79 : decode cX10_fleet 79 = .ok (.iload 6, 2) := by decide +kernel
theorem dX10_fleet_81 : decode cX10_fleet 81 = .ok (.isub, 1) := by decide +kernel
theorem dX10_fleet_82 : decode cX10_fleet 82 = .ok (.ireturn, 1) := by decide +kernel
theorem dX10_fleet_83 : decode cX10_fleet 83 = .ok (.iinc 5 1, 3) := by decide +kernel
theorem dX10_fleet_86 : decode cX10_fleet 86 = .ok (.iload 6, 2) := by decide +kernel
theorem dX10_fleet_88 : decode cX10_fleet 88 = .ok (.iconst 1, 1) := by decide +kernel
theorem dX10_fleet_89 : decode cX10_fleet 89 = .ok (.aload_n 3, 1) := by decide +kernel
theorem dX10_fleet_90 : decode cX10_fleet 90 = .ok (.iload 6, 2) := by decide +kernel
theorem dX10_fleet_92 : decode cX10_fleet 92 = .ok (.invokevirtual 66, 3) := by decide +kernel
theorem dX10_fleet_95 : decode cX10_fleet 95 = .ok (.invokestatic 69, 3) := by decide +kernel
theorem dX10_fleet_98 : decode cX10_fleet 98 = .ok (.iadd, 1) := by decide +kernel
theorem dX10_fleet_99 : decode cX10_fleet 99 = .ok (.iadd, 1) := by decide +kernel
theorem dX10_fleet_100 : decode cX10_fleet 100 = .ok (.istore 6, 2) := by decide +kernel
theorem dX10_fleet_102 : decode cX10_fleet 102 = .ok (.goto (-48), 3) := by decide +kernel
theorem dX10_fleet_105 : decode cX10_fleet 105 = .ok (.aload_n 0, 1) := by decide +kernel
theorem dX10_fleet_106 : decode cX10_fleet 106 = .ok (.getfield 10, 3) := by decide +kernel
theorem dX10_fleet_109 : decode cX10_fleet 109 = .ok (.aload_n 0, 1) := by decide +kernel
theorem dX10_fleet_110 : decode cX10_fleet 110 = .ok (.getfield 16, 3) := by decide +kernel
theorem dX10_fleet_113 : decode cX10_fleet 113 = .ok (.invokevirtual 54, 3) := by decide +kernel
theorem dX10_fleet_116 : decode cX10_fleet 116 = .ok (.iload 5, 2) := by decide +kernel
theorem dX10_fleet_118 : decode cX10_fleet 118 = .ok (.ireturn, 1) := by decide +kernel
theorem dX10_ship_0 : decode cX10_ship 0 = .ok (.aload_n 0, 1) := by decide +kernel
theorem dX10_ship_1 : decode cX10_ship 1 = .ok (.getfield 10, 3) := by decide +kernel
theorem dX10_ship_4 : decode cX10_ship 4 = .ok (.iload_n 1, 1) := by decide +kernel
theorem dX10_ship_5 : decode cX10_ship 5 = .ok (.invokevirtual 72, 3) := by decide +kernel
theorem dX10_ship_8 : decode cX10_ship 8 = .ok (.ifCond .ne 5, 3) := by decide +kernel
theorem dX10_ship_11 : decode cX10_ship 11 = .ok (.iconst (-1), 1) := by decide +kernel
theorem dX10_ship_12 : decode cX10_ship 12 = .ok (.ireturn, 1) := by decide +kernel
theorem dX10_ship_13 : decode cX10_ship 13 = .ok (.iload_n 2, 1) := by decide +kernel
theorem dX10_ship_14 : decode cX10_ship 14 = .ok (.tableswitch 92 0 4 #[34, 47, 60, 73, 83], 34) := by decide +kernel
theorem dX10_ship_48 : decode cX10_ship 48 = .ok (.aload_n 0, 1) := by decide +kernel
theorem dX10_ship_49 : decode cX10_ship 49 = .ok (.getfield 10, 3) := by decide +kernel
theorem dX10_ship_52 : decode cX10_ship 52 = .ok (.getfield 76, 3) := by decide +kernel
theorem dX10_ship_55 : decode cX10_ship 55 = .ok (.iload_n 1, 1) := by decide +kernel
theorem dX10_ship_56 : decode cX10_ship 56 = .ok (.aaload, 1) := by decide +kernel
theorem dX10_ship_57 : decode cX10_ship 57 = .ok (.getfield 80, 3) := by decide +kernel
theorem dX10_ship_60 : decode cX10_ship 60 = .ok (.ireturn, 1) := by decide +kernel
theorem dX10_ship_61 : decode cX10_ship 61 = .ok (.aload_n 0, 1) := by decide +kernel
theorem dX10_ship_62 : decode cX10_ship 62 = .ok (.getfield 10, 3) := by decide +kernel
theorem dX10_ship_65 : decode cX10_ship 65 = .ok (.getfield 76, 3) := by decide +kernel
theorem dX10_ship_68 : decode cX10_ship 68 = .ok (.iload_n 1, 1) := by decide +kernel
theorem dX10_ship_69 : decode cX10_ship 69 = .ok (.aaload, 1) := by decide +kernel
theorem dX10_ship_70 : decode cX10_ship 70 = .ok (.getfield 85, 3) := by decide +kernel
theorem dX10_ship_73 : decode cX10_ship 73 = .ok (.ireturn, 1) := by decide +kernel
theorem dX10_ship_74 : decode cX10_ship 74 = .ok (.aload_n 0, 1) := by decide +kernel
theorem dX10_ship_75 : decode cX10_ship 75 = .ok (.getfield 10, 3) := by decide +kernel
theorem dX10_ship_78 : decode cX10_ship 78 = .ok (.getfield 88, 3) := by decide +kernel
theorem dX10_ship_81 : decode cX10_ship 81 = .ok (.iload_n 1, 1) := by decide +kernel
theorem dX10_ship_82 : decode cX10_ship 82 = .ok (.iaload, 1) := by decide +kernel
theorem dX10_ship_83 : decode cX10_ship 83 = .ok (.invokestatic 91, 3) := by decide +kernel
theorem dX10_ship_86 : decode cX10_ship 86 = .ok (.ireturn, 1) := by decide +kernel
theorem dX10_ship_87 : decode cX10_ship 87 = .ok (.aload_n 0, 1) := by decide +kernel
theorem dX10_ship_88 : decode cX10_ship 88 = .ok (.getfield 10, 3) := by decide +kernel
theorem dX10_ship_91 : decode cX10_ship 91 = .ok (.getfield 88, 3) := by decide +kernel
theorem dX10_ship_94 : decode cX10_ship 94 = .ok (.iload_n 1, 1) := by decide +kernel
theorem dX10_ship_95 : decode cX10_ship 95 = .ok (.iaload, 1) := by decide +kernel
theorem dX10_ship_96 : decode cX10_ship 96 = .ok (.ireturn, 1) := by decide +kernel
theorem dX10_ship_97 : decode cX10_ship 97 = .ok (.aload_n 0, 1) := by decide +kernel
theorem dX10_ship_98 : decode cX10_ship 98 = .ok (.getfield 10, 3) := by decide +kernel
theorem dX10_ship_101 : decode cX10_ship 101 = .ok (.iload_n 1, 1) := by decide +kernel
theorem dX10_ship_102 : decode cX10_ship 102 = .ok (.invokevirtual 96, 3) := by decide +kernel
theorem dX10_ship_105 : decode cX10_ship 105 = .ok (.ireturn, 1) := by decide +kernel
theorem dX10_ship_106 : decode cX10_ship 106 = .ok (.iconst (-1), 1) := by decide +kernel
theorem dX10_ship_107 : decode cX10_ship 107 = .ok (.ireturn, 1) := by decide +kernel
theorem dX10_man_0 : decode cX10_man 0 = .ok (.aload_n 0, 1) := by decide +kernel
theorem dX10_man_1 : decode cX10_man 1 = .ok (.getfield 10, 3) := by decide +kernel
theorem dX10_man_4 : decode cX10_man 4 = .ok (.iload_n 1, 1) := by decide +kernel
theorem dX10_man_5 : decode cX10_man 5 = .ok (.invokevirtual 99, 3) := by decide +kernel
theorem dX10_man_8 : decode cX10_man 8 = .ok (.ifCond .ne 5, 3) := by decide +kernel
theorem dX10_man_11 : decode cX10_man 11 = .ok (.iconst (-1), 1) := by decide +kernel
theorem dX10_man_12 : decode cX10_man 12 = .ok (.ireturn, 1) := by decide +kernel
theorem dX10_man_13 : decode cX10_man 13 = .ok (.iload_n 2, 1) := by decide +kernel
theorem dX10_man_14 : decode cX10_man 14 = .ok (.tableswitch 70 0 3 #[30, 40, 50, 60], 30) := by decide +kernel
theorem dX10_man_44 : decode cX10_man 44 = .ok (.aload_n 0, 1) := by decide +kernel
theorem dX10_man_45 : decode cX10_man 45 = .ok (.getfield 10, 3) := by decide +kernel
theorem dX10_man_48 : decode cX10_man 48 = .ok (.getfield 102, 3) := by decide +kernel
theorem dX10_man_51 : decode cX10_man 51 = .ok (.iload_n 1, 1) := by decide +kernel
theorem dX10_man_52 : decode cX10_man 52 = .ok (.iaload, 1) := by decide +kernel
theorem dX10_man_53 : decode cX10_man 53 = .ok (.ireturn, 1) := by decide +kernel
theorem dX10_man_54 : decode cX10_man 54 = .ok (.aload_n 0, 1) := by decide +kernel
theorem dX10_man_55 : decode cX10_man 55 = .ok (.getfield 10, 3) := by decide +kernel
theorem dX10_man_58 : decode cX10_man 58 = .ok (.getfield 105, 3) := by decide +kernel
theorem dX10_man_61 : decode cX10_man 61 = .ok (.iload_n 1, 1) := by decide +kernel
theorem dX10_man_62 : decode cX10_man 62 = .ok (.iaload, 1) := by decide +kernel
theorem dX10_man_63 : decode cX10_man 63 = .ok (.ireturn, 1) := by decide +kernel
theorem dX10_man_64 : decode cX10_man 64 = .ok (.aload_n 0, 1) := by decide +kernel
theorem dX10_man_65 : decode cX10_man 65 = .ok (.getfield 10, 3) := by decide +kernel
theorem dX10_man_68 : decode cX10_man 68 = .ok (.getfield 108, 3) := by decide +kernel
theorem dX10_man_71 : decode cX10_man 71 = .ok (.iload_n 1, 1) := by decide +kernel
theorem dX10_man_72 : decode cX10_man 72 = .ok (.iaload, 1) := by decide +kernel
theorem dX10_man_73 : decode cX10_man 73 = .ok (.ireturn, 1) := by decide +kernel
theorem dX10_man_74 : decode cX10_man 74 = .ok (.aload_n 0, 1) := by decide +kernel
theorem dX10_man_75 : decode cX10_man 75 = .ok (.getfield 10, 3) := by decide +kernel
theorem dX10_man_78 : decode cX10_man 78 = .ok (.getfield 111, 3) := by decide +kernel
theorem dX10_man_81 : decode cX10_man 81 = .ok (.iload_n 1, 1) := by decide +kernel
theorem dX10_man_82 : decode cX10_man 82 = .ok (.iaload, 1) := by decide +kernel
theorem dX10_man_83 : decode cX10_man 83 = .ok (.ireturn, 1) := by decide +kernel
theorem dX10_man_84 : decode cX10_man 84 = .ok (.iconst (-1), 1) := by decide +kernel
theorem dX10_man_85 : decode cX10_man 85 = .ok (.ireturn, 1) := by decide +kernel
theorem dX10_commands_0 : decode cX10_commands 0 = .ok (.aload_n 0, 1) := by decide +kernel
theorem dX10_commands_1 : decode cX10_commands 1 = .ok (.getfield 10, 3) := by decide +kernel
theorem dX10_commands_4 : decode cX10_commands 4 = .ok (.iload_n 2, 1) := by decide +kernel
theorem dX10_commands_5 : decode cX10_commands 5 = .ok (.invokevirtual 72, 3) := by decide +kernel
theorem dX10_commands_8 : decode cX10_commands 8 = .ok (.ifCond .ne 5, 3) := by decide +kernel
theorem dX10_commands_11 : decode cX10_commands 11 = .ok (.iconst (-1), 1) := by decide +kernel
theorem dX10_commands_12 : decode cX10_commands 12 = .ok (.ireturn, 1) := by decide +kernel
theorem dX10_commands_13 : decode cX10_commands 13 = .ok (.aload_n 0, 1) := by decide +kernel
theorem dX10_commands_14 : decode cX10_commands 14 = .ok (.iload_n 1, 1) := by decide +kernel
theorem dX10_commands_15 : decode cX10_commands 15 = .ok (.invokevirtual 114, 3) := by decide +kernel
theorem dX10_commands_18 : decode cX10_commands 18 = .ok (.istore_n 3, 1) := by decide +kernel
theorem dX10_commands_19 : decode cX10_commands 19 = .ok (.iload_n 3, 1) := by decide +kernel
theorem dX10_commands_20 : decode cX10_commands 20 = .ok (.ifCond .ge 5, 3) := by decide +kernel
theorem dX10_commands_23 : decode cX10_commands 23 = .ok (.iload_n 3, 1) := by decide +kernel
theorem dX10_commands_24 : decode cX10_commands 24 = .ok (.ireturn, 1) := by decide +kernel
theorem dX10_commands_25 : decode cX10_commands 25 = .ok (.aload_n 0, 1) := by decide +kernel
theorem dX10_commands_26 : decode cX10_commands 26 = .ok (.getfield 10, 3) := by decide +kernel
theorem dX10_commands_29 : decode cX10_commands 29 = .ok (.getfield 76, 3) := by decide +kernel
theorem dX10_commands_32 : decode cX10_commands 32 = .ok (.iload_n 2, 1) := by decide +kernel
theorem dX10_commands_33 : decode cX10_commands 33 = .ok (.aload_n 0, 1) := by decide +kernel
theorem dX10_commands_34 : decode cX10_commands 34 = .ok (.getfield 28, 3) := by decide +kernel
theorem dX10_commands_37 : decode cX10_commands 37 = .ok (.iload_n 1, 1) := by decide +kernel
theorem dX10_commands_38 : decode cX10_commands 38 = .ok (.aaload, 1) := by decide +kernel
theorem dX10_commands_39 : decode cX10_commands 39 = .ok (.getfield 117, 3) := by decide +kernel
theorem dX10_commands_42 : decode cX10_commands 42 = .ok (.aastore, 1) := by decide +kernel
theorem dX10_commands_43 : decode cX10_commands 43 = .ok (.iconst 0, 1) := by decide +kernel
theorem dX10_commands_44 : decode cX10_commands 44 = .ok (.ireturn, 1) := by decide +kernel
theorem dX10_meet_0 : decode cX10_meet 0 = .ok (.aload_n 0, 1) := by decide +kernel
theorem dX10_meet_1 : decode cX10_meet 1 = .ok (.getfield 10, 3) := by decide +kernel
theorem dX10_meet_4 : decode cX10_meet 4 = .ok (.iload_n 1, 1) := by decide +kernel
theorem dX10_meet_5 : decode cX10_meet 5 = .ok (.iload_n 2, 1) := by decide +kernel
theorem dX10_meet_6 : decode cX10_meet 6 = .ok (.invokevirtual 121, 3) := by decide +kernel
theorem dX10_meet_9 : decode cX10_meet 9 = .ok (.ifCond .ne 5, 3) := by decide +kernel
theorem dX10_meet_12 : decode cX10_meet 12 = .ok (.iconst (-1), 1) := by decide +kernel
theorem dX10_meet_13 : decode cX10_meet 13 = .ok (.ireturn, 1) := by decide +kernel
theorem dX10_meet_14 : decode cX10_meet 14 = .ok (.aload_n 0, 1) := by decide +kernel
theorem dX10_meet_15 : decode cX10_meet 15 = .ok (.getfield 10, 3) := by decide +kernel
theorem dX10_meet_18 : decode cX10_meet 18 = .ok (.iload_n 1, 1) := by decide +kernel
theorem dX10_meet_19 : decode cX10_meet 19 = .ok (.iload_n 2, 1) := by decide +kernel
theorem dX10_meet_20 : decode cX10_meet 20 = .ok (.invokevirtual 125, 3) := by decide +kernel
theorem dX10_meet_23 : decode cX10_meet 23 = .ok (.ifCond .ne 6, 3) := by decide +kernel
theorem dX10_meet_26 : decode cX10_meet 26 = .ok (.bipush (-3), 2) := by decide +kernel
theorem dX10_meet_28 : decode cX10_meet 28 = .ok (.ireturn, 1) := by decide +kernel
theorem dX10_meet_29 : decode cX10_meet 29 = .ok (.bipush 100, 2) := by decide +kernel
theorem dX10_meet_31 : decode cX10_meet 31 = .ok (.aload_n 0, 1) := by decide +kernel
theorem dX10_meet_32 : decode cX10_meet 32 = .ok (.getfield 10, 3) := by decide +kernel
theorem dX10_meet_35 : decode cX10_meet 35 = .ok (.iload_n 1, 1) := by decide +kernel
theorem dX10_meet_36 : decode cX10_meet 36 = .ok (.invokevirtual 96, 3) := by decide +kernel
theorem dX10_meet_39 : decode cX10_meet 39 = .ok (.imul, 1) := by decide +kernel
theorem dX10_meet_40 : decode cX10_meet 40 = .ok (.aload_n 0, 1) := by decide +kernel
theorem dX10_meet_41 : decode cX10_meet 41 = .ok (.getfield 10, 3) := by decide +kernel
theorem dX10_meet_44 : decode cX10_meet 44 = .ok (.iload_n 2, 1) := by decide +kernel
theorem dX10_meet_45 : decode cX10_meet 45 = .ok (.invokevirtual 96, 3) := by decide +kernel
theorem dX10_meet_48 : decode cX10_meet 48 = .ok (.iadd, 1) := by decide +kernel
theorem dX10_meet_49 : decode cX10_meet 49 = .ok (.istore_n 3, 1) := by decide +kernel
theorem dX10_meet_50 : decode cX10_meet 50 = .ok (.aload_n 0, 1) := by decide +kernel
theorem dX10_meet_51 : decode cX10_meet 51 = .ok (.getfield 10, 3) := by decide +kernel
theorem dX10_meet_54 : decode cX10_meet 54 = .ok (.iload_n 1, 1) := by decide +kernel
theorem dX10_meet_55 : decode cX10_meet 55 = .ok (.iload_n 2, 1) := by decide +kernel
theorem dX10_meet_56 : decode cX10_meet 56 = .ok (.invokevirtual 128, 3) := by decide +kernel
theorem dX10_meet_59 : decode cX10_meet 59 = .ok (.pop, 1) := by decide +kernel
theorem dX10_meet_60 : decode cX10_meet 60 = .ok (.iload_n 3, 1) := by decide +kernel
theorem dX10_meet_61 : decode cX10_meet 61 = .ok (.ireturn, 1) := by decide +kernel
theorem dX10_where_0 : decode cX10_where 0 = .ok (.aload_n 0, 1) := by decide +kernel
theorem dX10_where_1 : decode cX10_where 1 = .ok (.iload_n 1, 1) := by decide +kernel
theorem dX10_where_2 : decode cX10_where 2 = .ok (.iload_n 2, 1) := by decide +kernel
theorem dX10_where_3 : decode cX10_where 3 = .ok (.invokevirtual 131, 3) := by decide +kernel
theorem dX10_where_6 : decode cX10_where 6 = .ok (.istore_n 3, 1) := by decide +kernel
theorem dX10_where_7 : decode cX10_where 7 = .ok (.iload_n 3, 1) := by decide +kernel
theorem dX10_where_8 : decode cX10_where 8 = .ok (.ifCond .ge 5, 3) := by decide +kernel
theorem dX10_where_11 : decode cX10_where 11 = .ok (.iload_n 3, 1) := by decide +kernel
theorem dX10_where_12 : decode cX10_where 12 = .ok (.ireturn, 1) := by decide +kernel
theorem dX10_where_13 : decode cX10_where 13 = .ok (.aload_n 0, 1) := by decide +kernel
theorem dX10_where_14 : decode cX10_where 14 = .ok (.getfield 28, 3) := by decide +kernel
theorem dX10_where_17 : decode cX10_where 17 = .ok (.iload_n 2, 1) := by decide +kernel
theorem dX10_where_18 : decode cX10_where 18 = .ok (.aaload, 1) := by decide +kernel
theorem dX10_where_19 : decode cX10_where 19 = .ok (.astore 4, 2) := by decide +kernel
theorem dX10_where_21 : decode cX10_where 21 = .ok (.aload_n 0, 1) := by decide +kernel
theorem dX10_where_22 : decode cX10_where 22 = .ok (.getfield 16, 3) := by decide +kernel
theorem dX10_where_25 : decode cX10_where 25 = .ok (.aload_n 0, 1) := by decide +kernel
theorem dX10_where_26 : decode cX10_where 26 = .ok (.getfield 10, 3) := by decide +kernel
theorem dX10_where_29 : decode cX10_where 29 = .ok (.invokevirtual 54, 3) := by decide +kernel
theorem dX10_where_32 : decode cX10_where 32 = .ok (.iconst 0, 1) := by decide +kernel
theorem dX10_where_33 : decode cX10_where 33 = .ok (.istore 5, 2) := by decide +kernel
theorem dX10_where_35 : decode cX10_where 35 = .ok (.iload 5, 2) := by decide +kernel
theorem dX10_where_37 : decode cX10_where 37 = .ok (.aload 4, 2) := by decide +kernel
theorem dX10_where_39 : decode cX10_where 39 = .ok (.invokevirtual 135, 3) := by decide +kernel
theorem dX10_where_42 : decode cX10_where 42 = .ok (.if_icmp .ge 20, 3) := by decide +kernel
theorem dX10_where_45 : decode cX10_where 45 = .ok (.aload_n 0, 1) := by decide +kernel
theorem dX10_where_46 : decode cX10_where 46 = .ok (.getfield 16, 3) := by decide +kernel
theorem dX10_where_49 : decode cX10_where 49 = .ok (.aload 4, 2) := by decide +kernel
theorem dX10_where_51 : decode cX10_where 51 = .ok (.iload 5, 2) := by decide +kernel
theorem dX10_where_53 : decode cX10_where 53 = .ok (.invokevirtual 139, 3) := by decide +kernel
theorem dX10_where_56 : decode cX10_where 56 = .ok (.iinc 5 1, 3) := by decide +kernel
theorem dX10_where_59 : decode cX10_where 59 = .ok (.goto (-24), 3) := by decide +kernel
theorem dX10_where_62 : decode cX10_where 62 = .ok (.aload_n 0, 1) := by decide +kernel
theorem dX10_where_63 : decode cX10_where 63 = .ok (.getfield 16, 3) := by decide +kernel
theorem dX10_where_66 : decode cX10_where 66 = .ok (.getfield 102, 3) := by decide +kernel
theorem dX10_where_69 : decode cX10_where 69 = .ok (.iload_n 1, 1) := by decide +kernel
theorem dX10_where_70 : decode cX10_where 70 = .ok (.iaload, 1) := by decide +kernel
theorem dX10_where_71 : decode cX10_where 71 = .ok (.ireturn, 1) := by decide +kernel
theorem dX10_can_0 : decode cX10_can 0 = .ok (.aload_n 0, 1) := by decide +kernel
theorem dX10_can_1 : decode cX10_can 1 = .ok (.iload_n 1, 1) := by decide +kernel
theorem dX10_can_2 : decode cX10_can 2 = .ok (.iload_n 2, 1) := by decide +kernel
theorem dX10_can_3 : decode cX10_can 3 = .ok (.invokevirtual 131, 3) := by decide +kernel
theorem dX10_can_6 : decode cX10_can 6 = .ok (.istore_n 3, 1) := by decide +kernel
theorem dX10_can_7 : decode cX10_can 7 = .ok (.iload_n 3, 1) := by decide +kernel
theorem dX10_can_8 : decode cX10_can 8 = .ok (.ifCond .ge 5, 3) := by decide +kernel
theorem dX10_can_11 : decode cX10_can 11 = .ok (.iload_n 3, 1) := by decide +kernel
theorem dX10_can_12 : decode cX10_can 12 = .ok (.ireturn, 1) := by decide +kernel
theorem dX10_can_13 : decode cX10_can 13 = .ok (.aload_n 0, 1) := by decide +kernel
theorem dX10_can_14 : decode cX10_can 14 = .ok (.getfield 28, 3) := by decide +kernel
theorem dX10_can_17 : decode cX10_can 17 = .ok (.iload_n 2, 1) := by decide +kernel
theorem dX10_can_18 : decode cX10_can 18 = .ok (.aaload, 1) := by decide +kernel
theorem dX10_can_19 : decode cX10_can 19 = .ok (.astore 4, 2) := by decide +kernel
theorem dX10_can_21 : decode cX10_can 21 = .ok (.iconst 1, 1) := by decide +kernel
theorem dX10_can_22 : decode cX10_can 22 = .ok (.aload_n 0, 1) := by decide +kernel
theorem dX10_can_23 : decode cX10_can 23 = .ok (.getfield 10, 3) := by decide +kernel
theorem dX10_can_26 : decode cX10_can 26 = .ok (.getfield 102, 3) := by decide +kernel
theorem dX10_can_29 : decode cX10_can 29 = .ok (.iload_n 1, 1) := by decide +kernel
theorem dX10_can_30 : decode cX10_can 30 = .ok (.iaload, 1) := by decide +kernel
theorem dX10_can_31 : decode cX10_can 31 = .ok (.ishl, 1) := by decide +kernel
theorem dX10_can_32 : decode cX10_can 32 = .ok (.istore 5, 2) := by decide +kernel
theorem dX10_can_34 : decode cX10_can 34 = .ok (.iconst 0, 1) := by decide +kernel
theorem dX10_can_35 : decode cX10_can 35 = .ok (.istore 6, 2) := by decide +kernel
theorem dX10_can_37 : decode cX10_can 37 = .ok (.iload 6, 2) := by decide +kernel
theorem dX10_can_39 : decode cX10_can 39 = .ok (.aload 4, 2) := by decide +kernel
theorem dX10_can_41 : decode cX10_can 41 = .ok (.invokevirtual 135, 3) := by decide +kernel
theorem dX10_can_44 : decode cX10_can 44 = .ok (.if_icmp .ge 31, 3) := by decide +kernel
theorem dX10_can_47 : decode cX10_can 47 = .ok (.aload_n 0, 1) := by decide +kernel
theorem dX10_can_48 : decode cX10_can 48 = .ok (.iload 5, 2) := by decide +kernel
theorem dX10_can_50 : decode cX10_can 50 = .ok (.aload 4, 2) := by decide +kernel
theorem dX10_can_52 : decode cX10_can 52 = .ok (.iload 6, 2) := by decide +kernel
theorem dX10_can_54 : decode cX10_can 54 = .ok (.invokevirtual 143, 3) := by decide +kernel
theorem dX10_can_57 : decode cX10_can 57 = .ok (.aload 4, 2) := by decide +kernel
theorem dX10_can_59 : decode cX10_can 59 = .ok (.iload 6, 2) := by decide +kernel
theorem dX10_can_61 : decode cX10_can 61 = .ok (.invokevirtual 146, 3) := by decide +kernel
theorem dX10_can_64 : decode cX10_can 64 = .ok (.invokevirtual 149, 3) := by decide +kernel
theorem dX10_can_67 : decode cX10_can 67 = .ok (.istore 5, 2) := by decide +kernel
theorem dX10_can_69 : decode cX10_can 69 = .ok (.iinc 6 1, 3) := by decide +kernel
theorem dX10_can_72 : decode cX10_can 72 = .ok (.goto (-35), 3) := by decide +kernel
theorem dX10_can_75 : decode cX10_can 75 = .ok (.iload 5, 2) := by decide +kernel
theorem dX10_can_77 : decode cX10_can 77 = .ok (.ireturn, 1) := by decide +kernel
theorem dX10_soonest_0 : decode cX10_soonest 0 = .ok (.aload_n 0, 1) := by decide +kernel
theorem dX10_soonest_1 : decode cX10_soonest 1 = .ok (.getfield 10, 3) := by decide +kernel
theorem dX10_soonest_4 : decode cX10_soonest 4 = .ok (.iload_n 2, 1) := by decide +kernel
theorem dX10_soonest_5 : decode cX10_soonest 5 = .ok (.invokevirtual 72, 3) := by decide +kernel
theorem dX10_soonest_8 : decode cX10_soonest 8 = .ok (.ifCond .ne 5, 3) := by decide +kernel
theorem dX10_soonest_11 : decode cX10_soonest 11 = .ok (.iconst (-1), 1) := by decide +kernel
theorem dX10_soonest_12 : decode cX10_soonest 12 = .ok (.ireturn, 1) := by decide +kernel
theorem dX10_soonest_13 : decode cX10_soonest 13 = .ok (.aload_n 0, 1) := by decide +kernel
theorem dX10_soonest_14 : decode cX10_soonest 14 = .ok (.iload_n 1, 1) := by decide +kernel
theorem dX10_soonest_15 : decode cX10_soonest 15 = .ok (.iload_n 3, 1) := by decide +kernel
theorem dX10_soonest_16 : decode cX10_soonest 16 = .ok (.invokevirtual 131, 3) := by decide +kernel
theorem dX10_soonest_19 : decode cX10_soonest 19 = .ok (.istore 4, 2) := by decide +kernel
theorem dX10_soonest_21 : decode cX10_soonest 21 = .ok (.iload 4, 2) := by decide +kernel
theorem dX10_soonest_23 : decode cX10_soonest 23 = .ok (.ifCond .ge 6, 3) := by decide +kernel
theorem dX10_soonest_26 : decode cX10_soonest 26 = .ok (.iload 4, 2) := by decide +kernel
theorem dX10_soonest_28 : decode cX10_soonest 28 = .ok (.ireturn, 1) := by decide +kernel
theorem dX10_soonest_29 : decode cX10_soonest 29 = .ok (.aload_n 0, 1) := by decide +kernel
theorem dX10_soonest_30 : decode cX10_soonest 30 = .ok (.getfield 28, 3) := by decide +kernel
theorem dX10_soonest_33 : decode cX10_soonest 33 = .ok (.iload_n 3, 1) := by decide +kernel
theorem dX10_soonest_34 : decode cX10_soonest 34 = .ok (.aaload, 1) := by decide +kernel
theorem dX10_soonest_35 : decode cX10_soonest 35 = .ok (.astore 5, 2) := by decide +kernel
theorem dX10_soonest_37 : decode cX10_soonest 37 = .ok (.iconst 1, 1) := by decide +kernel
theorem dX10_soonest_38 : decode cX10_soonest 38 = .ok (.aload_n 0, 1) := by decide +kernel
theorem dX10_soonest_39 : decode cX10_soonest 39 = .ok (.getfield 10, 3) := by decide +kernel
theorem dX10_soonest_42 : decode cX10_soonest 42 = .ok (.getfield 102, 3) := by decide +kernel
theorem dX10_soonest_45 : decode cX10_soonest 45 = .ok (.iload_n 1, 1) := by decide +kernel
theorem dX10_soonest_46 : decode cX10_soonest 46 = .ok (.iaload, 1) := by decide +kernel
theorem dX10_soonest_47 : decode cX10_soonest 47 = .ok (.ishl, 1) := by decide +kernel
theorem dX10_soonest_48 : decode cX10_soonest 48 = .ok (.istore 6, 2) := by decide +kernel
theorem dX10_soonest_50 : decode cX10_soonest 50 = .ok (.iconst 0, 1) := by decide +kernel
theorem dX10_soonest_51 : decode cX10_soonest 51 = .ok (.istore 7, 2) := by decide +kernel
theorem dX10_soonest_53 : decode cX10_soonest 53 = .ok (.iload 7, 2) := by decide +kernel
theorem dX10_soonest_55 : decode cX10_soonest 55 = .ok (.aload 5, 2) := by decide +kernel
theorem dX10_soonest_57 : decode cX10_soonest 57 = .ok (.invokevirtual 135, 3) := by decide +kernel
theorem dX10_soonest_60 : decode cX10_soonest 60 = .ok (.if_icmp .ge 43, 3) := by decide +kernel
theorem dX10_soonest_63 : decode cX10_soonest 63 = .ok (.iload 6, 2) := by decide +kernel
theorem dX10_soonest_65 : decode cX10_soonest 65 = .ok (.iload_n 2, 1) := by decide +kernel
theorem dX10_soonest_66 : decode cX10_soonest 66 = .ok (.invokestatic 153, 3) := by decide +kernel
theorem dX10_soonest_69 : decode cX10_soonest 69 = .ok (.ifCond .eq 6, 3) := by decide +kernel
theorem dX10_soonest_72 : decode cX10_soonest 72 = .ok (.iload 7, 2) := by decide +kernel
theorem dX10_soonest_74 : decode cX10_soonest 74 = .ok (.ireturn, 1) := by decide +kernel
theorem dX10_soonest_75 : decode cX10_soonest 75 = .ok (.aload_n 0, 1) := by decide +kernel
theorem dX10_soonest_76 : decode cX10_soonest 76 = .ok (.iload 6, 2) := by decide +kernel
theorem dX10_soonest_78 : decode cX10_soonest 78 = .ok (.aload 5, 2) := by decide +kernel
theorem dX10_soonest_80 : decode cX10_soonest 80 = .ok (.iload 7, 2) := by decide +kernel
theorem dX10_soonest_82 : decode cX10_soonest 82 = .ok (.invokevirtual 143, 3) := by decide +kernel
theorem dX10_soonest_85 : decode cX10_soonest 85 = .ok (.aload 5, 2) := by decide +kernel
theorem dX10_soonest_87 : decode cX10_soonest 87 = .ok (.iload 7, 2) := by decide +kernel
theorem dX10_soonest_89 : decode cX10_soonest 89 = .ok (.invokevirtual 146, 3) := by decide +kernel
theorem dX10_soonest_92 : decode cX10_soonest 92 = .ok (.invokevirtual 149, 3) := by decide +kernel
theorem dX10_soonest_95 : decode cX10_soonest 95 = .ok (.istore 6, 2) := by decide +kernel
theorem dX10_soonest_97 : decode cX10_soonest 97 = .ok (.iinc 7 1, 3) := by decide +kernel
theorem dX10_soonest_100 : decode cX10_soonest 100 = .ok (.goto (-47), 3) := by decide +kernel
theorem dX10_soonest_103 : decode cX10_soonest 103 = .ok (.iload 6, 2) := by decide +kernel
theorem dX10_soonest_105 : decode cX10_soonest 105 = .ok (.iload_n 2, 1) := by decide +kernel
theorem dX10_soonest_106 : decode cX10_soonest 106 = .ok (.invokestatic 153, 3) := by decide +kernel
theorem dX10_soonest_109 : decode cX10_soonest 109 = .ok (.ifCond .eq 11, 3) := by decide +kernel
theorem dX10_soonest_112 : decode cX10_soonest 112 = .ok (.aload 5, 2) := by decide +kernel
theorem dX10_soonest_114 : decode cX10_soonest 114 = .ok (.invokevirtual 135, 3) := by decide +kernel
theorem dX10_soonest_117 : decode cX10_soonest 117 = .ok (.goto 5, 3) := by decide +kernel
theorem dX10_soonest_120 : decode cX10_soonest 120 = .ok (.bipush (-4), 2) := by decide +kernel
theorem dX10_soonest_122 : decode cX10_soonest 122 = .ok (.ireturn, 1) := by decide +kernel
theorem dX10_likely_0 : decode cX10_likely 0 = .ok (.aload_n 0, 1) := by decide +kernel
theorem dX10_likely_1 : decode cX10_likely 1 = .ok (.getfield 10, 3) := by decide +kernel
theorem dX10_likely_4 : decode cX10_likely 4 = .ok (.iload_n 2, 1) := by decide +kernel
theorem dX10_likely_5 : decode cX10_likely 5 = .ok (.invokevirtual 72, 3) := by decide +kernel
theorem dX10_likely_8 : decode cX10_likely 8 = .ok (.ifCond .eq 14, 3) := by decide +kernel
theorem dX10_likely_11 : decode cX10_likely 11 = .ok (.iload 4, 2) := by decide +kernel
theorem dX10_likely_13 : decode cX10_likely 13 = .ok (.ifCond .lt 9, 3) := by decide +kernel
theorem dX10_likely_16 : decode cX10_likely 16 = .ok (.iload 4, 2) := by decide +kernel
theorem dX10_likely_18 : decode cX10_likely 18 = .ok (.iconst 1, 1) := by decide +kernel
theorem dX10_likely_19 : decode cX10_likely 19 = .ok (.if_icmp .le 7, 3) := by decide +kernel
theorem dX10_likely_22 : decode cX10_likely 22 = .ok (.ldc2_w 156, 3) := by decide +kernel
theorem dX10_likely_25 : decode cX10_likely 25 = .ok (.lreturn, 1) := by decide +kernel
theorem dX10_likely_26 : decode cX10_likely 26 = .ok (.aload_n 0, 1) := by decide +kernel
theorem dX10_likely_27 : decode cX10_likely 27 = .ok (.iload_n 1, 1) := by decide +kernel
theorem dX10_likely_28 : decode cX10_likely 28 = .ok (.iload_n 3, 1) := by decide +kernel
theorem dX10_likely_29 : decode cX10_likely 29 = .ok (.invokevirtual 131, 3) := by decide +kernel
theorem dX10_likely_32 : decode cX10_likely 32 = .ok (.istore 5, 2) := by decide +kernel
theorem dX10_likely_34 : decode cX10_likely 34 = .ok (.iload 5, 2) := by decide +kernel
theorem dX10_likely_36 : decode cX10_likely 36 = .ok (.ifCond .ge 11, 3) := by decide +kernel
theorem dX10_likely_39 : decode cX10_likely 39 = .ok (.iload 5, 2) := by decide +kernel
theorem dX10_likely_41 : decode cX10_likely 41 = .ok (.i2l, 1) := by decide +kernel
theorem dX10_likely_42 : decode cX10_likely 42 = .ok (.ldc2_w 158, 3) := by decide +kernel
theorem dX10_likely_45 : decode cX10_likely 45 = .ok (.lsub, 1) := by decide +kernel
theorem dX10_likely_46 : decode cX10_likely 46 = .ok (.lreturn, 1) := by decide +kernel
theorem dX10_likely_47 : decode cX10_likely 47 = .ok (.aload_n 0, 1) := by decide +kernel
theorem dX10_likely_48 : decode cX10_likely 48 = .ok (.iload_n 1, 1) := by decide +kernel
theorem dX10_likely_49 : decode cX10_likely 49 = .ok (.aload_n 0, 1) := by decide +kernel
theorem dX10_likely_50 : decode cX10_likely 50 = .ok (.getfield 28, 3) := by decide +kernel
theorem dX10_likely_53 : decode cX10_likely 53 = .ok (.iload_n 3, 1) := by decide +kernel
theorem dX10_likely_54 : decode cX10_likely 54 = .ok (.aaload, 1) := by decide +kernel
theorem dX10_likely_55 : decode cX10_likely 55 = .ok (.invokevirtual 160, 3) := by decide +kernel
theorem dX10_likely_58 : decode cX10_likely 58 = .ok (.lstore 6, 2) := by decide +kernel
theorem dX10_likely_60 : decode cX10_likely 60 = .ok (.aload_n 0, 1) := by decide +kernel
theorem dX10_likely_61 : decode cX10_likely 61 = .ok (.getfield 42, 3) := by decide +kernel
theorem dX10_likely_64 : decode cX10_likely 64 = .ok (.iload_n 2, 1) := by decide +kernel
theorem dX10_likely_65 : decode cX10_likely 65 = .ok (.laload, 1) := by decide +kernel
theorem dX10_likely_66 : decode cX10_likely 66 = .ok (.lstore 8, 2) := by decide +kernel
theorem dX10_likely_68 : decode cX10_likely 68 = .ok (.lload 8, 2) := by decide +kernel
theorem dX10_likely_70 : decode cX10_likely 70 = .ok (.lload 6, 2) := by decide +kernel
theorem dX10_likely_72 : decode cX10_likely 72 = .ok (.invokestatic 164, 3) := by decide +kernel
theorem dX10_likely_75 : decode cX10_likely 75 = .ok (.lstore 10, 2) := by decide +kernel
theorem dX10_likely_77 : decode cX10_likely 77 = .ok (.lload 10, 2) := by decide +kernel
theorem dX10_likely_79 : decode cX10_likely 79 = .ok (.lconst 1, 1) := by decide +kernel
theorem dX10_likely_80 : decode cX10_likely 80 = .ok (.lcmp, 1) := by decide +kernel
theorem dX10_likely_81 : decode cX10_likely 81 = .ok (.ifCond .ge 6, 3) := by decide +kernel
theorem dX10_likely_84 : decode cX10_likely 84 = .ok (.lconst 1, 1) := by decide +kernel
theorem dX10_likely_85 : decode cX10_likely 85 = .ok (.lstore 10, 2) := by decide +kernel
theorem dX10_likely_87 : decode cX10_likely 87 = .ok (.iload 4, 2) := by decide +kernel
theorem dX10_likely_89 : decode cX10_likely 89 = .ok (.ifCond .ne 8, 3) := by decide +kernel
theorem dX10_likely_92 : decode cX10_likely 92 = .ok (.lload 8, 2) := by decide +kernel
theorem dX10_likely_94 : decode cX10_likely 94 = .ok (.goto 5, 3) := by decide +kernel
theorem dX10_likely_97 : decode cX10_likely 97 = .ok (.lload 6, 2) := by decide +kernel
theorem dX10_likely_99 : decode cX10_likely 99 = .ok (.lload 10, 2) := by decide +kernel
theorem dX10_likely_101 : decode cX10_likely 101 = .ok (.ldiv, 1) := by decide +kernel
theorem dX10_likely_102 : decode cX10_likely 102 = .ok (.lreturn, 1) := by decide +kernel
theorem dX10_fewest_0 : decode cX10_fewest 0 = .ok (.aload_n 0, 1) := by decide +kernel
theorem dX10_fewest_1 : decode cX10_fewest 1 = .ok (.getfield 10, 3) := by decide +kernel
theorem dX10_fewest_4 : decode cX10_fewest 4 = .ok (.iload_n 1, 1) := by decide +kernel
theorem dX10_fewest_5 : decode cX10_fewest 5 = .ok (.invokevirtual 99, 3) := by decide +kernel
theorem dX10_fewest_8 : decode cX10_fewest 8 = .ok (.ifCond .eq 23, 3) := by decide +kernel
theorem dX10_fewest_11 : decode cX10_fewest 11 = .ok (.aload_n 0, 1) := by decide +kernel
theorem dX10_fewest_12 : decode cX10_fewest 12 = .ok (.getfield 10, 3) := by decide +kernel
theorem dX10_fewest_15 : decode cX10_fewest 15 = .ok (.iload_n 2, 1) := by decide +kernel
theorem dX10_fewest_16 : decode cX10_fewest 16 = .ok (.invokevirtual 72, 3) := by decide +kernel
theorem dX10_fewest_19 : decode cX10_fewest 19 = .ok (.ifCond .eq 12, 3) := by decide +kernel
theorem dX10_fewest_22 : decode cX10_fewest 22 = .ok (.iload_n 3, 1) := by decide +kernel
theorem dX10_fewest_23 : decode cX10_fewest 23 = .ok (.ifCond .lt 8, 3) := by decide +kernel
theorem dX10_fewest_26 : decode cX10_fewest 26 = .ok (.iload_n 3, 1) := by decide +kernel
theorem dX10_fewest_27 : decode cX10_fewest 27 = .ok (.iconst 1, 1) := by decide +kernel
theorem dX10_fewest_28 : decode cX10_fewest 28 = .ok (.if_icmp .le 5, 3) := by decide +kernel
theorem dX10_fewest_31 : decode cX10_fewest 31 = .ok (.iconst (-1), 1) := by decide +kernel
theorem dX10_fewest_32 : decode cX10_fewest 32 = .ok (.ireturn, 1) := by decide +kernel
theorem dX10_fewest_33 : decode cX10_fewest 33 = .ok (.iconst 0, 1) := by decide +kernel
theorem dX10_fewest_34 : decode cX10_fewest 34 = .ok (.istore 4, 2) := by decide +kernel
theorem dX10_fewest_36 : decode cX10_fewest 36 = .ok (.iload 4, 2) := by decide +kernel
theorem dX10_fewest_38 : decode cX10_fewest 38 = .ok (.bipush 12, 2) := by decide +kernel
theorem dX10_fewest_40 : decode cX10_fewest 40 = .ok (.if_icmp .ge 27, 3) := by decide +kernel
theorem dX10_fewest_43 : decode cX10_fewest 43 = .ok (.aload_n 0, 1) := by decide +kernel
theorem dX10_fewest_44 : decode cX10_fewest 44 = .ok (.getfield 38, 3) := by decide +kernel
theorem dX10_fewest_47 : decode cX10_fewest 47 = .ok (.iload 4, 2) := by decide +kernel
theorem dX10_fewest_49 : decode cX10_fewest 49 = .ok (.iload 4, 2) := by decide +kernel
theorem dX10_fewest_51 : decode cX10_fewest 51 = .ok (.iload_n 1, 1) := by decide +kernel
theorem dX10_fewest_52 : decode cX10_fewest 52 = .ok (.if_icmp .ne 7, 3) := by decide +kernel
theorem dX10_fewest_55 : decode cX10_fewest 55 = .ok (.iload_n 2, 1) := by decide +kernel
theorem dX10_fewest_56 : decode cX10_fewest 56 = .ok (.goto 4, 3) := by decide +kernel
theorem dX10_fewest_59 : decode cX10_fewest 59 = .ok (.iconst (-1), 1) := by decide +kernel
theorem dX10_fewest_60 : decode cX10_fewest 60 = .ok (.iastore, 1) := by decide +kernel
theorem dX10_fewest_61 : decode cX10_fewest 61 = .ok (.iinc 4 1, 3) := by decide +kernel
theorem dX10_fewest_64 : decode cX10_fewest 64 = .ok (.goto (-28), 3) := by decide +kernel
theorem dX10_fewest_67 : decode cX10_fewest 67 = .ok (.aload_n 0, 1) := by decide +kernel
theorem dX10_fewest_68 : decode cX10_fewest 68 = .ok (.iconst 4, 1) := by decide +kernel
theorem dX10_fewest_69 : decode cX10_fewest 69 = .ok (.invokevirtual 168, 3) := by decide +kernel
theorem dX10_fewest_72 : decode cX10_fewest 72 = .ok (.istore 4, 2) := by decide +kernel
theorem dX10_fewest_74 : decode cX10_fewest 74 = .ok (.iload_n 3, 1) := by decide +kernel
theorem dX10_fewest_75 : decode cX10_fewest 75 = .ok (.ifCond .ne 8, 3) := by decide +kernel
theorem dX10_fewest_78 : decode cX10_fewest 78 = .ok (.iload 4, 2) := by decide +kernel
theorem dX10_fewest_80 : decode cX10_fewest 80 = .ok (.goto 20, 3) := by decide +kernel
theorem dX10_fewest_83 : decode cX10_fewest 83 = .ok (.aload_n 0, 1) := by decide +kernel
theorem dX10_fewest_84 : decode cX10_fewest 84 = .ok (.getfield 16, 3) := by decide +kernel
theorem dX10_fewest_87 : decode cX10_fewest 87 = .ok (.aload_n 0, 1) := by decide +kernel
theorem dX10_fewest_88 : decode cX10_fewest 88 = .ok (.getfield 35, 3) := by decide +kernel
theorem dX10_fewest_91 : decode cX10_fewest 91 = .ok (.aload_n 0, 1) := by decide +kernel
theorem dX10_fewest_92 : decode cX10_fewest 92 = .ok (.getfield 38, 3) := by decide +kernel
theorem dX10_fewest_95 : decode cX10_fewest 95 = .ok (.iload 4, 2) := by decide +kernel
theorem dX10_fewest_97 : decode cX10_fewest 97 = .ok (.invokestatic 171, 3) := by decide +kernel
theorem dX10_fewest_100 : decode cX10_fewest 100 = .ok (.ireturn, 1) := by decide +kernel
theorem dX10_crews_0 : decode cX10_crews 0 = .ok (.aload_n 0, 1) := by decide +kernel
theorem dX10_crews_1 : decode cX10_crews 1 = .ok (.iload_n 1, 1) := by decide +kernel
theorem dX10_crews_2 : decode cX10_crews 2 = .ok (.invokevirtual 46, 3) := by decide +kernel
theorem dX10_crews_5 : decode cX10_crews 5 = .ok (.istore_n 2, 1) := by decide +kernel
theorem dX10_crews_6 : decode cX10_crews 6 = .ok (.iload_n 2, 1) := by decide +kernel
theorem dX10_crews_7 : decode cX10_crews 7 = .ok (.ifCond .ge 5, 3) := by decide +kernel
theorem dX10_crews_10 : decode cX10_crews 10 = .ok (.iload_n 2, 1) := by decide +kernel
theorem dX10_crews_11 : decode cX10_crews 11 = .ok (.ireturn, 1) := by decide +kernel
theorem dX10_crews_12 : decode cX10_crews 12 = .ok (.aload_n 0, 1) := by decide +kernel
theorem dX10_crews_13 : decode cX10_crews 13 = .ok (.getfield 28, 3) := by decide +kernel
theorem dX10_crews_16 : decode cX10_crews 16 = .ok (.iload_n 1, 1) := by decide +kernel
theorem dX10_crews_17 : decode cX10_crews 17 = .ok (.aaload, 1) := by decide +kernel
theorem dX10_crews_18 : decode cX10_crews 18 = .ok (.astore_n 3, 1) := by decide +kernel
theorem dX10_crews_19 : decode cX10_crews 19 = .ok (.aload_n 0, 1) := by decide +kernel
theorem dX10_crews_20 : decode cX10_crews 20 = .ok (.aload_n 3, 1) := by decide +kernel
theorem dX10_crews_21 : decode cX10_crews 21 = .ok (.invokevirtual 175, 3) := by decide +kernel
theorem dX10_crews_24 : decode cX10_crews 24 = .ok (.ifCond .ne 6, 3) := by decide +kernel
theorem dX10_crews_27 : decode cX10_crews 27 = .ok (.bipush (-13), 2) := by decide +kernel
theorem dX10_crews_29 : decode cX10_crews 29 = .ok (.ireturn, 1) := by decide +kernel
theorem dX10_crews_30 : decode cX10_crews 30 = .ok (.iconst 0, 1) := by decide +kernel
theorem dX10_crews_31 : decode cX10_crews 31 = .ok (.istore 4, 2) := by decide +kernel
theorem dX10_crews_33 : decode cX10_crews 33 = .ok (.iload 4, 2) := by decide +kernel
theorem dX10_crews_35 : decode cX10_crews 35 = .ok (.bipush 12, 2) := by decide +kernel
theorem dX10_crews_37 : decode cX10_crews 37 = .ok (.if_icmp .ge 35, 3) := by decide +kernel
theorem dX10_crews_40 : decode cX10_crews 40 = .ok (.aload_n 0, 1) := by decide +kernel
theorem dX10_crews_41 : decode cX10_crews 41 = .ok (.getfield 38, 3) := by decide +kernel
theorem dX10_crews_44 : decode cX10_crews 44 = .ok (.iload 4, 2) := by decide +kernel
theorem dX10_crews_46 : decode cX10_crews 46 = .ok (.iload 4, 2) := by decide +kernel
theorem dX10_crews_48 : decode cX10_crews 48 = .ok (.aload_n 3, 1) := by decide +kernel
theorem dX10_crews_49 : decode cX10_crews 49 = .ok (.getfield 58, 3) := by decide +kernel
theorem dX10_crews_52 : decode cX10_crews 52 = .ok (.if_icmp .ge 12, 3) := by decide +kernel
theorem dX10_crews_55 : decode cX10_crews 55 = .ok (.aload_n 3, 1) := by decide +kernel
theorem dX10_crews_56 : decode cX10_crews 56 = .ok (.iload 4, 2) := by decide +kernel
theorem dX10_crews_58 : decode cX10_crews 58 = .ok (.invokevirtual 66, 3) := by decide +kernel
theorem dX10_crews_61 : decode cX10_crews 61 = .ok (.goto 4, 3) := by decide +kernel
theorem dX10_crews_64 : decode cX10_crews 64 = .ok (.iconst (-1), 1) := by decide +kernel
theorem dX10_crews_65 : decode cX10_crews 65 = .ok (.iastore, 1) := by decide +kernel
theorem dX10_crews_66 : decode cX10_crews 66 = .ok (.iinc 4 1, 3) := by decide +kernel
theorem dX10_crews_69 : decode cX10_crews 69 = .ok (.goto (-36), 3) := by decide +kernel
theorem dX10_crews_72 : decode cX10_crews 72 = .ok (.aload_n 0, 1) := by decide +kernel
theorem dX10_crews_73 : decode cX10_crews 73 = .ok (.iconst 3, 1) := by decide +kernel
theorem dX10_crews_74 : decode cX10_crews 74 = .ok (.invokevirtual 168, 3) := by decide +kernel
theorem dX10_crews_77 : decode cX10_crews 77 = .ok (.ireturn, 1) := by decide +kernel
theorem dX10_sailed_0 : decode cX10_sailed 0 = .ok (.aload_n 0, 1) := by decide +kernel
theorem dX10_sailed_1 : decode cX10_sailed 1 = .ok (.getfield 10, 3) := by decide +kernel
theorem dX10_sailed_4 : decode cX10_sailed 4 = .ok (.iload_n 1, 1) := by decide +kernel
theorem dX10_sailed_5 : decode cX10_sailed 5 = .ok (.invokevirtual 99, 3) := by decide +kernel
theorem dX10_sailed_8 : decode cX10_sailed 8 = .ok (.ifCond .eq 15, 3) := by decide +kernel
theorem dX10_sailed_11 : decode cX10_sailed 11 = .ok (.aload_n 0, 1) := by decide +kernel
theorem dX10_sailed_12 : decode cX10_sailed 12 = .ok (.getfield 10, 3) := by decide +kernel
theorem dX10_sailed_15 : decode cX10_sailed 15 = .ok (.getfield 179, 3) := by decide +kernel
theorem dX10_sailed_18 : decode cX10_sailed 18 = .ok (.iload_n 1, 1) := by decide +kernel
theorem dX10_sailed_19 : decode cX10_sailed 19 = .ok (.iaload, 1) := by decide +kernel
theorem dX10_sailed_20 : decode cX10_sailed 20 = .ok (.goto 4, 3) := by decide +kernel
theorem dX10_sailed_23 : decode cX10_sailed 23 = .ok (.iconst (-1), 1) := by decide +kernel
theorem dX10_sailed_24 : decode cX10_sailed 24 = .ok (.ireturn, 1) := by decide +kernel
theorem dX10_never_0 : decode cX10_never 0 = .ok (.iconst 0, 1) := by decide +kernel
theorem dX10_never_1 : decode cX10_never 1 = .ok (.istore_n 1, 1) := by decide +kernel
theorem dX10_never_2 : decode cX10_never 2 = .ok (.iconst 0, 1) := by decide +kernel
theorem dX10_never_3 : decode cX10_never 3 = .ok (.istore_n 2, 1) := by decide +kernel
theorem dX10_never_4 : decode cX10_never 4 = .ok (.iload_n 2, 1) := by decide +kernel
theorem dX10_never_5 : decode cX10_never 5 = .ok (.aload_n 0, 1) := by decide +kernel
theorem dX10_never_6 : decode cX10_never 6 = .ok (.getfield 10, 3) := by decide +kernel
theorem dX10_never_9 : decode cX10_never 9 = .ok (.getfield 182, 3) := by decide +kernel
theorem dX10_never_12 : decode cX10_never 12 = .ok (.if_icmp .ge 49, 3) := by decide +kernel
theorem dX10_never_15 : decode cX10_never 15 = .ok (.iload_n 2, 1) := by decide +kernel
theorem dX10_never_16 : decode cX10_never 16 = .ok (.iconst 1, 1) := by decide +kernel
theorem dX10_never_17 : decode cX10_never 17 = .ok (.iadd, 1) := by decide +kernel
theorem dX10_never_18 : decode cX10_never 18 = .ok (.istore_n 3, 1) := by decide +kernel
theorem dX10_never_19 : decode cX10_never 19 = .ok (.iload_n 3, 1) := by decide +kernel
theorem dX10_never_20 : decode cX10_never 20 = .ok (.aload_n 0, 1) := by decide +kernel
theorem dX10_never_21 : decode cX10_never 21 = .ok (.getfield 10, 3) := by decide +kernel
theorem dX10_never_24 : decode cX10_never 24 = .ok (.getfield 182, 3) := by decide +kernel
theorem dX10_never_27 : decode cX10_never 27 = .ok (.if_icmp .ge 28, 3) := by decide +kernel
theorem dX10_never_30 : decode cX10_never 30 = .ok (.aload_n 0, 1) := by decide +kernel
theorem dX10_never_31 : decode cX10_never 31 = .ok (.getfield 10, 3) := by decide +kernel
theorem dX10_never_34 : decode cX10_never 34 = .ok (.getfield 179, 3) := by decide +kernel
theorem dX10_never_37 : decode cX10_never 37 = .ok (.iload_n 2, 1) := by decide +kernel
theorem dX10_never_38 : decode cX10_never 38 = .ok (.iaload, 1) := by decide +kernel
theorem dX10_never_39 : decode cX10_never 39 = .ok (.iload_n 3, 1) := by decide +kernel
theorem dX10_never_40 : decode cX10_never 40 = .ok (.invokestatic 153, 3) := by decide +kernel
theorem dX10_never_43 : decode cX10_never 43 = .ok (.ifCond .ne 6, 3) := by decide +kernel
theorem dX10_never_46 : decode cX10_never 46 = .ok (.iinc 1 1, 3) := by decide +kernel
theorem dX10_never_49 : decode cX10_never 49 = .ok (.iinc 3 1, 3) := by decide +kernel
theorem dX10_never_52 : decode cX10_never 52 = .ok (.goto (-33), 3) := by decide +kernel
theorem dX10_never_55 : decode cX10_never 55 = .ok (.iinc 2 1, 3) := by decide +kernel
theorem dX10_never_58 : decode cX10_never 58 = .ok (.goto (-54), 3) := by decide +kernel
theorem dX10_never_61 : decode cX10_never 61 = .ok (.iload_n 1, 1) := by decide +kernel
theorem dX10_never_62 : decode cX10_never 62 = .ok (.ireturn, 1) := by decide +kernel
theorem dX10_mixed_0 : decode cX10_mixed 0 = .ok (.aload_n 0, 1) := by decide +kernel
theorem dX10_mixed_1 : decode cX10_mixed 1 = .ok (.getfield 10, 3) := by decide +kernel
theorem dX10_mixed_4 : decode cX10_mixed 4 = .ok (.invokevirtual 185, 3) := by decide +kernel
theorem dX10_mixed_7 : decode cX10_mixed 7 = .ok (.ireturn, 1) := by decide +kernel
theorem dX10_mixesMost_0 : decode cX10_mixesMost 0 = .ok (.bipush (-4), 2) := by decide +kernel
theorem dX10_mixesMost_2 : decode cX10_mixesMost 2 = .ok (.istore_n 1, 1) := by decide +kernel
theorem dX10_mixesMost_3 : decode cX10_mixesMost 3 = .ok (.iconst (-1), 1) := by decide +kernel
theorem dX10_mixesMost_4 : decode cX10_mixesMost 4 = .ok (.istore_n 2, 1) := by decide +kernel
theorem dX10_mixesMost_5 : decode cX10_mixesMost 5 = .ok (.iconst 0, 1) := by decide +kernel
theorem dX10_mixesMost_6 : decode cX10_mixesMost 6 = .ok (.istore_n 3, 1) := by decide +kernel
theorem dX10_mixesMost_7 : decode cX10_mixesMost 7 = .ok (.iload_n 3, 1) := by decide +kernel
theorem dX10_mixesMost_8 : decode cX10_mixesMost 8 = .ok (.aload_n 0, 1) := by decide +kernel
theorem dX10_mixesMost_9 : decode cX10_mixesMost 9 = .ok (.getfield 10, 3) := by decide +kernel
theorem dX10_mixesMost_12 : decode cX10_mixesMost 12 = .ok (.getfield 188, 3) := by decide +kernel
theorem dX10_mixesMost_15 : decode cX10_mixesMost 15 = .ok (.if_icmp .ge 92, 3) := by decide +kernel
theorem dX10_mixesMost_18 : decode cX10_mixesMost 18 = .ok (.iload_n 3, 1) := by decide +kernel
theorem dX10_mixesMost_19 : decode cX10_mixesMost 19 = .ok (.iconst 1, 1) := by decide +kernel
theorem dX10_mixesMost_20 : decode cX10_mixesMost 20 = .ok (.iadd, 1) := by decide +kernel
theorem dX10_mixesMost_21 : decode cX10_mixesMost 21 = .ok (.istore 4, 2) := by decide +kernel
theorem dX10_mixesMost_23 : decode cX10_mixesMost 23 = .ok (.iload 4, 2) := by decide +kernel
theorem dX10_mixesMost_25 : decode cX10_mixesMost 25 = .ok (.aload_n 0, 1) := by decide +kernel
theorem dX10_mixesMost_26 : decode cX10_mixesMost 26 = .ok (.getfield 10, 3) := by decide +kernel
theorem dX10_mixesMost_29 : decode cX10_mixesMost 29 = .ok (.getfield 188, 3) := by decide +kernel
theorem dX10_mixesMost_32 : decode cX10_mixesMost 32 = .ok (.if_icmp .ge 69, 3) := by decide +kernel
theorem dX10_mixesMost_35 : decode cX10_mixesMost 35 = .ok (.aload_n 0, 1) := by decide +kernel
theorem dX10_mixesMost_36 : decode cX10_mixesMost 36 = .ok (.getfield 10, 3) := by decide +kernel
theorem dX10_mixesMost_39 : decode cX10_mixesMost 39 = .ok (.iload_n 3, 1) := by decide +kernel
theorem dX10_mixesMost_40 : decode cX10_mixesMost 40 = .ok (.iload 4, 2) := by decide +kernel
theorem dX10_mixesMost_42 : decode cX10_mixesMost 42 = .ok (.invokevirtual 125, 3) := by decide +kernel
theorem dX10_mixesMost_45 : decode cX10_mixesMost 45 = .ok (.ifCond .eq 50, 3) := by decide +kernel
theorem dX10_mixesMost_48 : decode cX10_mixesMost 48 = .ok (.aload_n 0, 1) := by decide +kernel
theorem dX10_mixesMost_49 : decode cX10_mixesMost 49 = .ok (.getfield 16, 3) := by decide +kernel
theorem dX10_mixesMost_52 : decode cX10_mixesMost 52 = .ok (.aload_n 0, 1) := by decide +kernel
theorem dX10_mixesMost_53 : decode cX10_mixesMost 53 = .ok (.getfield 10, 3) := by decide +kernel
theorem dX10_mixesMost_56 : decode cX10_mixesMost 56 = .ok (.invokevirtual 54, 3) := by decide +kernel
theorem dX10_mixesMost_59 : decode cX10_mixesMost 59 = .ok (.aload_n 0, 1) := by decide +kernel
theorem dX10_mixesMost_60 : decode cX10_mixesMost 60 = .ok (.getfield 16, 3) := by decide +kernel
theorem dX10_mixesMost_63 : decode cX10_mixesMost 63 = .ok (.iload_n 3, 1) := by decide +kernel
theorem dX10_mixesMost_64 : decode cX10_mixesMost 64 = .ok (.iload 4, 2) := by decide +kernel
theorem dX10_mixesMost_66 : decode cX10_mixesMost 66 = .ok (.invokevirtual 128, 3) := by decide +kernel
theorem dX10_mixesMost_69 : decode cX10_mixesMost 69 = .ok (.pop, 1) := by decide +kernel
theorem dX10_mixesMost_70 : decode cX10_mixesMost 70 = .ok (.aload_n 0, 1) := by decide +kernel
theorem dX10_mixesMost_71 : decode cX10_mixesMost 71 = .ok (.getfield 16, 3) := by decide +kernel
theorem dX10_mixesMost_74 : decode cX10_mixesMost 74 = .ok (.invokevirtual 185, 3) := by decide +kernel
theorem dX10_mixesMost_77 : decode cX10_mixesMost 77 = .ok (.istore 5, 2) := by decide +kernel
theorem dX10_mixesMost_79 : decode cX10_mixesMost 79 = .ok (.iload 5, 2) := by decide +kernel
theorem dX10_mixesMost_81 : decode cX10_mixesMost 81 = .ok (.iload_n 2, 1) := by decide +kernel
theorem dX10_mixesMost_82 : decode cX10_mixesMost 82 = .ok (.if_icmp .le 13, 3) := by decide +kernel
theorem dX10_mixesMost_85 : decode cX10_mixesMost 85 = .ok (.iload 5, 2) := by decide +kernel
theorem dX10_mixesMost_87 : decode cX10_mixesMost 87 = .ok (.istore_n 2, 1) := by decide +kernel
theorem dX10_mixesMost_88 : decode cX10_mixesMost 88 = .ok (.iload_n 3, 1) := by decide +kernel
theorem dX10_mixesMost_89 : decode cX10_mixesMost 89 = .ok (.iload 4, 2) := by decide +kernel
theorem dX10_mixesMost_91 : decode cX10_mixesMost 91 = .ok (.invokestatic 191, 3) := by decide +kernel
theorem dX10_mixesMost_94 : decode cX10_mixesMost 94 = .ok (.istore_n 1, 1) := by decide +kernel
theorem dX10_mixesMost_95 : decode cX10_mixesMost 95 = .ok (.iinc 4 1, 3) := by decide +kernel
theorem dX10_mixesMost_98 : decode cX10_mixesMost 98 = .ok (.goto (-75), 3) := by decide +kernel
theorem dX10_mixesMost_101 : decode cX10_mixesMost 101 = .ok (.iinc 3 1, 3) := by decide +kernel
theorem dX10_mixesMost_104 : decode cX10_mixesMost 104 = .ok (.goto (-97), 3) := by decide +kernel
theorem dX10_mixesMost_107 : decode cX10_mixesMost 107 = .ok (.iload_n 1, 1) := by decide +kernel
theorem dX10_mixesMost_108 : decode cX10_mixesMost 108 = .ok (.ireturn, 1) := by decide +kernel
theorem dX10_lacks_0 : decode cX10_lacks 0 = .ok (.iload_n 1, 1) := by decide +kernel
theorem dX10_lacks_1 : decode cX10_lacks 1 = .ok (.ifCond .lt 8, 3) := by decide +kernel
theorem dX10_lacks_4 : decode cX10_lacks 4 = .ok (.iload_n 1, 1) := by decide +kernel
theorem dX10_lacks_5 : decode cX10_lacks 5 = .ok (.iconst 4, 1) := by decide +kernel
theorem dX10_lacks_6 : decode cX10_lacks 6 = .ok (.if_icmp .lt 5, 3) := by decide +kernel
theorem dX10_lacks_9 : decode cX10_lacks 9 = .ok (.iconst (-1), 1) := by decide +kernel
theorem dX10_lacks_10 : decode cX10_lacks 10 = .ok (.ireturn, 1) := by decide +kernel
theorem dX10_lacks_11 : decode cX10_lacks 11 = .ok (.iconst 0, 1) := by decide +kernel
theorem dX10_lacks_12 : decode cX10_lacks 12 = .ok (.istore_n 2, 1) := by decide +kernel
theorem dX10_lacks_13 : decode cX10_lacks 13 = .ok (.iconst 0, 1) := by decide +kernel
theorem dX10_lacks_14 : decode cX10_lacks 14 = .ok (.istore_n 3, 1) := by decide +kernel
theorem dX10_lacks_15 : decode cX10_lacks 15 = .ok (.iload_n 3, 1) := by decide +kernel
theorem dX10_lacks_16 : decode cX10_lacks 16 = .ok (.aload_n 0, 1) := by decide +kernel
theorem dX10_lacks_17 : decode cX10_lacks 17 = .ok (.getfield 10, 3) := by decide +kernel
theorem dX10_lacks_20 : decode cX10_lacks 20 = .ok (.getfield 188, 3) := by decide +kernel
theorem dX10_lacks_23 : decode cX10_lacks 23 = .ok (.if_icmp .ge 27, 3) := by decide +kernel
theorem dX10_lacks_26 : decode cX10_lacks 26 = .ok (.aload_n 0, 1) := by decide +kernel
theorem dX10_lacks_27 : decode cX10_lacks 27 = .ok (.getfield 10, 3) := by decide +kernel
theorem dX10_lacks_30 : decode cX10_lacks 30 = .ok (.iload_n 3, 1) := by decide +kernel
theorem dX10_lacks_31 : decode cX10_lacks 31 = .ok (.iload_n 1, 1) := by decide +kernel
theorem dX10_lacks_32 : decode cX10_lacks 32 = .ok (.invokevirtual 194, 3) := by decide +kernel
theorem dX10_lacks_35 : decode cX10_lacks 35 = .ok (.ifCond .ne 9, 3) := by decide +kernel
theorem dX10_lacks_38 : decode cX10_lacks 38 = .ok (.iload_n 2, 1) := by decide +kernel
theorem dX10_lacks_39 : decode cX10_lacks 39 = .ok (.iconst 1, 1) := by decide +kernel
theorem dX10_lacks_40 : decode cX10_lacks 40 = .ok (.iload_n 3, 1) := by decide +kernel
theorem dX10_lacks_41 : decode cX10_lacks 41 = .ok (.ishl, 1) := by decide +kernel
theorem dX10_lacks_42 : decode cX10_lacks 42 = .ok (.ior, 1) := by decide +kernel
theorem dX10_lacks_43 : decode cX10_lacks 43 = .ok (.istore_n 2, 1) := by decide +kernel
theorem dX10_lacks_44 : decode cX10_lacks 44 = .ok (.iinc 3 1, 3) := by decide +kernel
theorem dX10_lacks_47 : decode cX10_lacks 47 = .ok (.goto (-32), 3) := by decide +kernel
theorem dX10_lacks_50 : decode cX10_lacks 50 = .ok (.iload_n 2, 1) := by decide +kernel
theorem dX10_lacks_51 : decode cX10_lacks 51 = .ok (.ireturn, 1) := by decide +kernel
theorem dX10_letter_0 : decode cX10_letter 0 = .ok (.aload_n 0, 1) := by decide +kernel
theorem dX10_letter_1 : decode cX10_letter 1 = .ok (.iload_n 1, 1) := by decide +kernel
theorem dX10_letter_2 : decode cX10_letter 2 = .ok (.iload_n 2, 1) := by decide +kernel
theorem dX10_letter_3 : decode cX10_letter 3 = .ok (.invokevirtual 131, 3) := by decide +kernel
theorem dX10_letter_6 : decode cX10_letter 6 = .ok (.istore_n 3, 1) := by decide +kernel
theorem dX10_letter_7 : decode cX10_letter 7 = .ok (.iload_n 3, 1) := by decide +kernel
theorem dX10_letter_8 : decode cX10_letter 8 = .ok (.ifCond .ge 5, 3) := by decide +kernel
theorem dX10_letter_11 : decode cX10_letter 11 = .ok (.iload_n 3, 1) := by decide +kernel
theorem dX10_letter_12 : decode cX10_letter 12 = .ok (.ireturn, 1) := by decide +kernel
theorem dX10_letter_13 : decode cX10_letter 13 = .ok (.aload_n 0, 1) := by decide +kernel
theorem dX10_letter_14 : decode cX10_letter 14 = .ok (.getfield 28, 3) := by decide +kernel
theorem dX10_letter_17 : decode cX10_letter 17 = .ok (.iload_n 2, 1) := by decide +kernel
theorem dX10_letter_18 : decode cX10_letter 18 = .ok (.aaload, 1) := by decide +kernel
theorem dX10_letter_19 : decode cX10_letter 19 = .ok (.astore 4, 2) := by decide +kernel
theorem dX10_letter_21 : decode cX10_letter 21 = .ok (.aload_n 0, 1) := by decide +kernel
theorem dX10_letter_22 : decode cX10_letter 22 = .ok (.getfield 16, 3) := by decide +kernel
theorem dX10_letter_25 : decode cX10_letter 25 = .ok (.aload_n 0, 1) := by decide +kernel
theorem dX10_letter_26 : decode cX10_letter 26 = .ok (.getfield 10, 3) := by decide +kernel
theorem dX10_letter_29 : decode cX10_letter 29 = .ok (.invokevirtual 54, 3) := by decide +kernel
theorem dX10_letter_32 : decode cX10_letter 32 = .ok (.aload_n 0, 1) := by decide +kernel
theorem dX10_letter_33 : decode cX10_letter 33 = .ok (.getfield 16, 3) := by decide +kernel
theorem dX10_letter_36 : decode cX10_letter 36 = .ok (.iconst 1, 1) := by decide +kernel
theorem dX10_letter_37 : decode cX10_letter 37 = .ok (.iload_n 1, 1) := by decide +kernel
theorem dX10_letter_38 : decode cX10_letter 38 = .ok (.ishl, 1) := by decide +kernel
theorem dX10_letter_39 : decode cX10_letter 39 = .ok (.invokevirtual 197, 3) := by decide +kernel
theorem dX10_letter_42 : decode cX10_letter 42 = .ok (.istore 5, 2) := by decide +kernel
theorem dX10_letter_44 : decode cX10_letter 44 = .ok (.iconst 0, 1) := by decide +kernel
theorem dX10_letter_45 : decode cX10_letter 45 = .ok (.istore 6, 2) := by decide +kernel
theorem dX10_letter_47 : decode cX10_letter 47 = .ok (.iload 6, 2) := by decide +kernel
theorem dX10_letter_49 : decode cX10_letter 49 = .ok (.aload 4, 2) := by decide +kernel
theorem dX10_letter_51 : decode cX10_letter 51 = .ok (.invokevirtual 135, 3) := by decide +kernel
theorem dX10_letter_54 : decode cX10_letter 54 = .ok (.if_icmp .ge 31, 3) := by decide +kernel
theorem dX10_letter_57 : decode cX10_letter 57 = .ok (.aload_n 0, 1) := by decide +kernel
theorem dX10_letter_58 : decode cX10_letter 58 = .ok (.getfield 16, 3) := by decide +kernel
theorem dX10_letter_61 : decode cX10_letter 61 = .ok (.aload 4, 2) := by decide +kernel
theorem dX10_letter_63 : decode cX10_letter 63 = .ok (.iload 6, 2) := by decide +kernel
theorem dX10_letter_65 : decode cX10_letter 65 = .ok (.invokevirtual 139, 3) := by decide +kernel
theorem dX10_letter_68 : decode cX10_letter 68 = .ok (.aload_n 0, 1) := by decide +kernel
theorem dX10_letter_69 : decode cX10_letter 69 = .ok (.getfield 16, 3) := by decide +kernel
theorem dX10_letter_72 : decode cX10_letter 72 = .ok (.iload 5, 2) := by decide +kernel
theorem dX10_letter_74 : decode cX10_letter 74 = .ok (.invokevirtual 197, 3) := by decide +kernel
theorem dX10_letter_77 : decode cX10_letter 77 = .ok (.istore 5, 2) := by decide +kernel
theorem dX10_letter_79 : decode cX10_letter 79 = .ok (.iinc 6 1, 3) := by decide +kernel
theorem dX10_letter_82 : decode cX10_letter 82 = .ok (.goto (-35), 3) := by decide +kernel
theorem dX10_letter_85 : decode cX10_letter 85 = .ok (.iload 5, 2) := by decide +kernel
theorem dX10_letter_87 : decode cX10_letter 87 = .ok (.ireturn, 1) := by decide +kernel
theorem dX10_law_0 : decode cX10_law 0 = .ok (.iload_n 3, 1) := by decide +kernel
theorem dX10_law_1 : decode cX10_law 1 = .ok (.iload 4, 2) := by decide +kernel
theorem dX10_law_3 : decode cX10_law 3 = .ok (.invokestatic 200, 3) := by decide +kernel
theorem dX10_law_6 : decode cX10_law 6 = .ok (.ifCond .ne 5, 3) := by decide +kernel
theorem dX10_law_9 : decode cX10_law 9 = .ok (.iconst (-1), 1) := by decide +kernel
theorem dX10_law_10 : decode cX10_law 10 = .ok (.ireturn, 1) := by decide +kernel
theorem dX10_law_11 : decode cX10_law 11 = .ok (.aload_n 0, 1) := by decide +kernel
theorem dX10_law_12 : decode cX10_law 12 = .ok (.iload_n 1, 1) := by decide +kernel
theorem dX10_law_13 : decode cX10_law 13 = .ok (.iload_n 2, 1) := by decide +kernel
theorem dX10_law_14 : decode cX10_law 14 = .ok (.invokevirtual 131, 3) := by decide +kernel
theorem dX10_law_17 : decode cX10_law 17 = .ok (.istore 5, 2) := by decide +kernel
theorem dX10_law_19 : decode cX10_law 19 = .ok (.iload 5, 2) := by decide +kernel
theorem dX10_law_21 : decode cX10_law 21 = .ok (.ifCond .ge 6, 3) := by decide +kernel
theorem dX10_law_24 : decode cX10_law 24 = .ok (.iload 5, 2) := by decide +kernel
theorem dX10_law_26 : decode cX10_law 26 = .ok (.ireturn, 1) := by decide +kernel
theorem dX10_law_27 : decode cX10_law 27 = .ok (.aload_n 0, 1) := by decide +kernel
theorem dX10_law_28 : decode cX10_law 28 = .ok (.getfield 28, 3) := by decide +kernel
theorem dX10_law_31 : decode cX10_law 31 = .ok (.iload_n 2, 1) := by decide +kernel
theorem dX10_law_32 : decode cX10_law 32 = .ok (.aaload, 1) := by decide +kernel
theorem dX10_law_33 : decode cX10_law 33 = .ok (.astore 6, 2) := by decide +kernel
theorem dX10_law_35 : decode cX10_law 35 = .ok (.aload_n 0, 1) := by decide +kernel
theorem dX10_law_36 : decode cX10_law 36 = .ok (.getfield 16, 3) := by decide +kernel
theorem dX10_law_39 : decode cX10_law 39 = .ok (.aload_n 0, 1) := by decide +kernel
theorem dX10_law_40 : decode cX10_law 40 = .ok (.getfield 10, 3) := by decide +kernel
theorem dX10_law_43 : decode cX10_law 43 = .ok (.invokevirtual 54, 3) := by decide +kernel
theorem dX10_law_46 : decode cX10_law 46 = .ok (.aload_n 0, 1) := by decide +kernel
theorem dX10_law_47 : decode cX10_law 47 = .ok (.getfield 16, 3) := by decide +kernel
theorem dX10_law_50 : decode cX10_law 50 = .ok (.iload_n 3, 1) := by decide +kernel
theorem dX10_law_51 : decode cX10_law 51 = .ok (.iload 4, 2) := by decide +kernel
theorem dX10_law_53 : decode cX10_law 53 = .ok (.invokestatic 203, 3) := by decide +kernel
theorem dX10_law_56 : decode cX10_law 56 = .ok (.invokevirtual 207, 3) := by decide +kernel
theorem dX10_law_59 : decode cX10_law 59 = .ok (.iconst 0, 1) := by decide +kernel
theorem dX10_law_60 : decode cX10_law 60 = .ok (.istore 7, 2) := by decide +kernel
theorem dX10_law_62 : decode cX10_law 62 = .ok (.iconst 0, 1) := by decide +kernel
theorem dX10_law_63 : decode cX10_law 63 = .ok (.istore 8, 2) := by decide +kernel
theorem dX10_law_65 : decode cX10_law 65 = .ok (.iload 8, 2) := by decide +kernel
theorem dX10_law_67 : decode cX10_law 67 = .ok (.aload 6, 2) := by decide +kernel
theorem dX10_law_69 : decode cX10_law 69 = .ok (.invokevirtual 135, 3) := by decide +kernel
theorem dX10_law_72 : decode cX10_law 72 = .ok (.if_icmp .ge 44, 3) := by decide +kernel
theorem dX10_law_75 : decode cX10_law 75 = .ok (.aload_n 0, 1) := by decide +kernel
theorem dX10_law_76 : decode cX10_law 76 = .ok (.getfield 16, 3) := by decide +kernel
theorem dX10_law_79 : decode cX10_law 79 = .ok (.aload 6, 2) := by decide +kernel
theorem dX10_law_81 : decode cX10_law 81 = .ok (.iload 8, 2) := by decide +kernel
theorem dX10_law_83 : decode cX10_law 83 = .ok (.invokevirtual 139, 3) := by decide +kernel
theorem dX10_law_86 : decode cX10_law 86 = .ok (.aload_n 0, 1) := by decide +kernel
theorem dX10_law_87 : decode cX10_law 87 = .ok (.getfield 16, 3) := by decide +kernel
theorem dX10_law_90 : decode cX10_law 90 = .ok (.getfield 102, 3) := by decide +kernel
theorem dX10_law_93 : decode cX10_law 93 = .ok (.iload_n 1, 1) := by decide +kernel
theorem dX10_law_94 : decode cX10_law 94 = .ok (.iaload, 1) := by decide +kernel
theorem dX10_law_95 : decode cX10_law 95 = .ok (.aload_n 0, 1) := by decide +kernel
theorem dX10_law_96 : decode cX10_law 96 = .ok (.getfield 10, 3) := by decide +kernel
theorem dX10_law_99 : decode cX10_law 99 = .ok (.getfield 102, 3) := by decide +kernel
theorem dX10_law_102 : decode cX10_law 102 = .ok (.iload_n 1, 1) := by decide +kernel
theorem dX10_law_103 : decode cX10_law 103 = .ok (.iaload, 1) := by decide +kernel
theorem dX10_law_104 : decode cX10_law 104 = .ok (.if_icmp .eq 6, 3) := by decide +kernel
theorem dX10_law_107 : decode cX10_law 107 = .ok (.iinc 7 1, 3) := by decide +kernel
theorem dX10_law_110 : decode cX10_law 110 = .ok (.iinc 8 1, 3) := by decide +kernel
theorem dX10_law_113 : decode cX10_law 113 = .ok (.goto (-48), 3) := by decide +kernel
theorem dX10_law_116 : decode cX10_law 116 = .ok (.iload 7, 2) := by decide +kernel
theorem dX10_law_118 : decode cX10_law 118 = .ok (.ireturn, 1) := by decide +kernel
theorem dX10_together_0 : decode cX10_together 0 = .ok (.aload_n 0, 1) := by decide +kernel
theorem dX10_together_1 : decode cX10_together 1 = .ok (.getfield 10, 3) := by decide +kernel
theorem dX10_together_4 : decode cX10_together 4 = .ok (.iload_n 1, 1) := by decide +kernel
theorem dX10_together_5 : decode cX10_together 5 = .ok (.invokevirtual 99, 3) := by decide +kernel
theorem dX10_together_8 : decode cX10_together 8 = .ok (.ifCond .eq 26, 3) := by decide +kernel
theorem dX10_together_11 : decode cX10_together 11 = .ok (.aload_n 0, 1) := by decide +kernel
theorem dX10_together_12 : decode cX10_together 12 = .ok (.getfield 10, 3) := by decide +kernel
theorem dX10_together_15 : decode cX10_together 15 = .ok (.iload_n 2, 1) := by decide +kernel
theorem dX10_together_16 : decode cX10_together 16 = .ok (.invokevirtual 99, 3) := by decide +kernel
theorem dX10_together_19 : decode cX10_together 19 = .ok (.ifCond .eq 15, 3) := by decide +kernel
theorem dX10_together_22 : decode cX10_together 22 = .ok (.iload_n 1, 1) := by decide +kernel
theorem dX10_together_23 : decode cX10_together 23 = .ok (.iload_n 2, 1) := by decide +kernel
theorem dX10_together_24 : decode cX10_together 24 = .ok (.if_icmp .eq 10, 3) := by decide +kernel
theorem dX10_together_27 : decode cX10_together 27 = .ok (.iload_n 3, 1) := by decide +kernel
theorem dX10_together_28 : decode cX10_together 28 = .ok (.invokestatic 211, 3) := by decide +kernel
theorem dX10_together_31 : decode cX10_together 31 = .ok (.ifCond .ne 5, 3) := by decide +kernel
theorem dX10_together_34 : decode cX10_together 34 = .ok (.iconst (-1), 1) := by decide +kernel
theorem dX10_together_35 : decode cX10_together 35 = .ok (.ireturn, 1) := by decide +kernel
theorem dX10_together_36 : decode cX10_together 36 = .ok (.aload_n 0, 1) := by decide +kernel
theorem dX10_together_37 : decode cX10_together 37 = .ok (.getfield 10, 3) := by decide +kernel
theorem dX10_together_40 : decode cX10_together 40 = .ok (.getfield 102, 3) := by decide +kernel
theorem dX10_together_43 : decode cX10_together 43 = .ok (.iload_n 1, 1) := by decide +kernel
theorem dX10_together_44 : decode cX10_together 44 = .ok (.iaload, 1) := by decide +kernel
theorem dX10_together_45 : decode cX10_together 45 = .ok (.aload_n 0, 1) := by decide +kernel
theorem dX10_together_46 : decode cX10_together 46 = .ok (.getfield 10, 3) := by decide +kernel
theorem dX10_together_49 : decode cX10_together 49 = .ok (.getfield 102, 3) := by decide +kernel
theorem dX10_together_52 : decode cX10_together 52 = .ok (.iload_n 2, 1) := by decide +kernel
theorem dX10_together_53 : decode cX10_together 53 = .ok (.iaload, 1) := by decide +kernel
theorem dX10_together_54 : decode cX10_together 54 = .ok (.if_icmp .eq 6, 3) := by decide +kernel
theorem dX10_together_57 : decode cX10_together 57 = .ok (.bipush (-3), 2) := by decide +kernel
theorem dX10_together_59 : decode cX10_together 59 = .ok (.ireturn, 1) := by decide +kernel
theorem dX10_together_60 : decode cX10_together 60 = .ok (.aload_n 0, 1) := by decide +kernel
theorem dX10_together_61 : decode cX10_together 61 = .ok (.iload_n 3, 1) := by decide +kernel
theorem dX10_together_62 : decode cX10_together 62 = .ok (.invokevirtual 214, 3) := by decide +kernel
theorem dX10_together_65 : decode cX10_together 65 = .ok (.istore 4, 2) := by decide +kernel
theorem dX10_together_67 : decode cX10_together 67 = .ok (.iload 4, 2) := by decide +kernel
theorem dX10_together_69 : decode cX10_together 69 = .ok (.ifCond .ge 6, 3) := by decide +kernel
theorem dX10_together_72 : decode cX10_together 72 = .ok (.iload 4, 2) := by decide +kernel
theorem dX10_together_74 : decode cX10_together 74 = .ok (.ireturn, 1) := by decide +kernel
theorem dX10_together_75 : decode cX10_together 75 = .ok (.aload_n 0, 1) := by decide +kernel
theorem dX10_together_76 : decode cX10_together 76 = .ok (.getfield 28, 3) := by decide +kernel
theorem dX10_together_79 : decode cX10_together 79 = .ok (.iload_n 3, 1) := by decide +kernel
theorem dX10_together_80 : decode cX10_together 80 = .ok (.aaload, 1) := by decide +kernel
theorem dX10_together_81 : decode cX10_together 81 = .ok (.astore 5, 2) := by decide +kernel
theorem dX10_together_83 : decode cX10_together 83 = .ok (.aload_n 0, 1) := by decide +kernel
theorem dX10_together_84 : decode cX10_together 84 = .ok (.getfield 16, 3) := by decide +kernel
theorem dX10_together_87 : decode cX10_together 87 = .ok (.aload_n 0, 1) := by decide +kernel
theorem dX10_together_88 : decode cX10_together 88 = .ok (.getfield 10, 3) := by decide +kernel
theorem dX10_together_91 : decode cX10_together 91 = .ok (.invokevirtual 54, 3) := by decide +kernel
theorem dX10_together_94 : decode cX10_together 94 = .ok (.iconst 0, 1) := by decide +kernel
theorem dX10_together_95 : decode cX10_together 95 = .ok (.istore 6, 2) := by decide +kernel
theorem dX10_together_97 : decode cX10_together 97 = .ok (.iload 6, 2) := by decide +kernel
theorem dX10_together_99 : decode cX10_together 99 = .ok (.aload 5, 2) := by decide +kernel
theorem dX10_together_101 : decode cX10_together 101 = .ok (.invokevirtual 135, 3) := by decide +kernel
theorem dX10_together_104 : decode cX10_together 104 = .ok (.if_icmp .ge 44, 3) := by decide +kernel
theorem dX10_together_107 : decode cX10_together 107 = .ok (.aload_n 0, 1) := by decide +kernel
theorem dX10_together_108 : decode cX10_together 108 = .ok (.getfield 16, 3) := by decide +kernel
theorem dX10_together_111 : decode cX10_together 111 = .ok (.aload 5, 2) := by decide +kernel
theorem dX10_together_113 : decode cX10_together 113 = .ok (.iload 6, 2) := by decide +kernel
theorem dX10_together_115 : decode cX10_together 115 = .ok (.invokevirtual 139, 3) := by decide +kernel
theorem dX10_together_118 : decode cX10_together 118 = .ok (.aload_n 0, 1) := by decide +kernel
theorem dX10_together_119 : decode cX10_together 119 = .ok (.getfield 16, 3) := by decide +kernel
theorem dX10_together_122 : decode cX10_together 122 = .ok (.getfield 102, 3) := by decide +kernel
theorem dX10_together_125 : decode cX10_together 125 = .ok (.iload_n 1, 1) := by decide +kernel
theorem dX10_together_126 : decode cX10_together 126 = .ok (.iaload, 1) := by decide +kernel
theorem dX10_together_127 : decode cX10_together 127 = .ok (.aload_n 0, 1) := by decide +kernel
theorem dX10_together_128 : decode cX10_together 128 = .ok (.getfield 16, 3) := by decide +kernel
theorem dX10_together_131 : decode cX10_together 131 = .ok (.getfield 102, 3) := by decide +kernel
theorem dX10_together_134 : decode cX10_together 134 = .ok (.iload_n 2, 1) := by decide +kernel
theorem dX10_together_135 : decode cX10_together 135 = .ok (.iaload, 1) := by decide +kernel
theorem dX10_together_136 : decode cX10_together 136 = .ok (.if_icmp .eq 6, 3) := by decide +kernel
theorem dX10_together_139 : decode cX10_together 139 = .ok (.iload 6, 2) := by decide +kernel
theorem dX10_together_141 : decode cX10_together 141 = .ok (.ireturn, 1) := by decide +kernel
theorem dX10_together_142 : decode cX10_together 142 = .ok (.iinc 6 1, 3) := by decide +kernel
theorem dX10_together_145 : decode cX10_together 145 = .ok (.goto (-48), 3) := by decide +kernel
theorem dX10_together_148 : decode cX10_together 148 = .ok (.aload 5, 2) := by decide +kernel
theorem dX10_together_150 : decode cX10_together 150 = .ok (.invokevirtual 135, 3) := by decide +kernel
theorem dX10_together_153 : decode cX10_together 153 = .ok (.ireturn, 1) := by decide +kernel
theorem dX10_moved_0 : decode cX10_moved 0 = .ok (.aload_n 0, 1) := by decide +kernel
theorem dX10_moved_1 : decode cX10_moved 1 = .ok (.iload_n 1, 1) := by decide +kernel
theorem dX10_moved_2 : decode cX10_moved 2 = .ok (.iload_n 2, 1) := by decide +kernel
theorem dX10_moved_3 : decode cX10_moved 3 = .ok (.invokevirtual 131, 3) := by decide +kernel
theorem dX10_moved_6 : decode cX10_moved 6 = .ok (.istore_n 3, 1) := by decide +kernel
theorem dX10_moved_7 : decode cX10_moved 7 = .ok (.iload_n 3, 1) := by decide +kernel
theorem dX10_moved_8 : decode cX10_moved 8 = .ok (.ifCond .ge 5, 3) := by decide +kernel
theorem dX10_moved_11 : decode cX10_moved 11 = .ok (.iload_n 3, 1) := by decide +kernel
theorem dX10_moved_12 : decode cX10_moved 12 = .ok (.ireturn, 1) := by decide +kernel
theorem dX10_moved_13 : decode cX10_moved 13 = .ok (.aload_n 0, 1) := by decide +kernel
theorem dX10_moved_14 : decode cX10_moved 14 = .ok (.getfield 28, 3) := by decide +kernel
theorem dX10_moved_17 : decode cX10_moved 17 = .ok (.iload_n 2, 1) := by decide +kernel
theorem dX10_moved_18 : decode cX10_moved 18 = .ok (.aaload, 1) := by decide +kernel
theorem dX10_moved_19 : decode cX10_moved 19 = .ok (.astore 4, 2) := by decide +kernel
theorem dX10_moved_21 : decode cX10_moved 21 = .ok (.aload_n 0, 1) := by decide +kernel
theorem dX10_moved_22 : decode cX10_moved 22 = .ok (.getfield 16, 3) := by decide +kernel
theorem dX10_moved_25 : decode cX10_moved 25 = .ok (.aload_n 0, 1) := by decide +kernel
theorem dX10_moved_26 : decode cX10_moved 26 = .ok (.getfield 10, 3) := by decide +kernel
theorem dX10_moved_29 : decode cX10_moved 29 = .ok (.invokevirtual 54, 3) := by decide +kernel
theorem dX10_moved_32 : decode cX10_moved 32 = .ok (.iconst 0, 1) := by decide +kernel
theorem dX10_moved_33 : decode cX10_moved 33 = .ok (.istore 5, 2) := by decide +kernel
theorem dX10_moved_35 : decode cX10_moved 35 = .ok (.iconst 0, 1) := by decide +kernel
theorem dX10_moved_36 : decode cX10_moved 36 = .ok (.istore 6, 2) := by decide +kernel
theorem dX10_moved_38 : decode cX10_moved 38 = .ok (.iload 6, 2) := by decide +kernel
theorem dX10_moved_40 : decode cX10_moved 40 = .ok (.aload 4, 2) := by decide +kernel
theorem dX10_moved_42 : decode cX10_moved 42 = .ok (.invokevirtual 135, 3) := by decide +kernel
theorem dX10_moved_45 : decode cX10_moved 45 = .ok (.if_icmp .ge 48, 3) := by decide +kernel
theorem dX10_moved_48 : decode cX10_moved 48 = .ok (.aload_n 0, 1) := by decide +kernel
theorem dX10_moved_49 : decode cX10_moved 49 = .ok (.getfield 16, 3) := by decide +kernel
theorem dX10_moved_52 : decode cX10_moved 52 = .ok (.getfield 102, 3) := by decide +kernel
theorem dX10_moved_55 : decode cX10_moved 55 = .ok (.iload_n 1, 1) := by decide +kernel
theorem dX10_moved_56 : decode cX10_moved 56 = .ok (.iaload, 1) := by decide +kernel
theorem dX10_moved_57 : decode cX10_moved 57 = .ok (.istore 7, 2) := by decide +kernel
theorem dX10_moved_59 : decode cX10_moved 59 = .ok (.aload_n 0, 1) := by decide +kernel
theorem dX10_moved_60 : decode cX10_moved 60 = .ok (.getfield 16, 3) := by decide +kernel
theorem dX10_moved_63 : decode cX10_moved 63 = .ok (.aload 4, 2) := by decide +kernel
theorem dX10_moved_65 : decode cX10_moved 65 = .ok (.iload 6, 2) := by decide +kernel
theorem dX10_moved_67 : decode cX10_moved 67 = .ok (.invokevirtual 139, 3) := by decide +kernel
theorem dX10_moved_70 : decode cX10_moved 70 = .ok (.aload_n 0, 1) := by decide +kernel
theorem dX10_moved_71 : decode cX10_moved 71 = .ok (.getfield 16, 3) := by decide +kernel
theorem dX10_moved_74 : decode cX10_moved 74 = .ok (.getfield 102, 3) := by decide +kernel
theorem dX10_moved_77 : decode cX10_moved 77 = .ok (.iload_n 1, 1) := by decide +kernel
theorem dX10_moved_78 : decode cX10_moved 78 = .ok (.iaload, 1) := by decide +kernel
theorem dX10_moved_79 : decode cX10_moved 79 = .ok (.iload 7, 2) := by decide +kernel
theorem dX10_moved_81 : decode cX10_moved 81 = .ok (.if_icmp .eq 6, 3) := by decide +kernel
theorem dX10_moved_84 : decode cX10_moved 84 = .ok (.iinc 5 1, 3) := by decide +kernel
theorem dX10_moved_87 : decode cX10_moved 87 = .ok (.iinc 6 1, 3) := by decide +kernel
theorem dX10_moved_90 : decode cX10_moved 90 = .ok (.goto (-52), 3) := by decide +kernel
theorem dX10_moved_93 : decode cX10_moved 93 = .ok (.iload 5, 2) := by decide +kernel
theorem dX10_moved_95 : decode cX10_moved 95 = .ok (.ireturn, 1) := by decide +kernel
theorem dX10_seeded_0 : decode cX10_seeded 0 = .ok (.aload_n 0, 1) := by decide +kernel
theorem dX10_seeded_1 : decode cX10_seeded 1 = .ok (.getfield 10, 3) := by decide +kernel
theorem dX10_seeded_4 : decode cX10_seeded 4 = .ok (.iload_n 1, 1) := by decide +kernel
theorem dX10_seeded_5 : decode cX10_seeded 5 = .ok (.invokevirtual 99, 3) := by decide +kernel
theorem dX10_seeded_8 : decode cX10_seeded 8 = .ok (.ifCond .eq 14, 3) := by decide +kernel
theorem dX10_seeded_11 : decode cX10_seeded 11 = .ok (.iload_n 2, 1) := by decide +kernel
