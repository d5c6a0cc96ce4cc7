theorem dX10_seeded_12 : decode cX10_seeded 12 = .ok (.iconst 1, 1) := by decide +kernel
theorem dX10_seeded_13 : decode cX10_seeded 13 = .ok (.if_icmp .lt 9, 3) := by decide +kernel
theorem dX10_seeded_16 : decode cX10_seeded 16 = .ok (.iload_n 2, 1) := by decide +kernel
theorem dX10_seeded_17 : decode cX10_seeded 17 = .ok (.bipush 40, 2) := by decide +kernel
theorem dX10_seeded_19 : decode cX10_seeded 19 = .ok (.if_icmp .le 5, 3) := by decide +kernel
theorem dX10_seeded_22 : decode cX10_seeded 22 = .ok (.iconst (-1), 1) := by decide +kernel
theorem dX10_seeded_23 : decode cX10_seeded 23 = .ok (.ireturn, 1) := by decide +kernel
theorem dX10_seeded_24 : decode cX10_seeded 24 = .ok (.aload_n 0, 1) := by decide +kernel
theorem dX10_seeded_25 : decode cX10_seeded 25 = .ok (.getfield 16, 3) := by decide +kernel
theorem dX10_seeded_28 : decode cX10_seeded 28 = .ok (.aload_n 0, 1) := by decide +kernel
theorem dX10_seeded_29 : decode cX10_seeded 29 = .ok (.getfield 10, 3) := by decide +kernel
theorem dX10_seeded_32 : decode cX10_seeded 32 = .ok (.invokevirtual 54, 3) := by decide +kernel
theorem dX10_seeded_35 : decode cX10_seeded 35 = .ok (.iload_n 3, 1) := by decide +kernel
theorem dX10_seeded_36 : decode cX10_seeded 36 = .ok (.istore 4, 2) := by decide +kernel
theorem dX10_seeded_38 : decode cX10_seeded 38 = .ok (.iconst 0, 1) := by decide +kernel
theorem dX10_seeded_39 : decode cX10_seeded 39 = .ok (.istore 5, 2) := by decide +kernel
theorem dX10_seeded_41 : decode cX10_seeded 41 = .ok (.iload 5, 2) := by decide +kernel
theorem dX10_seeded_43 : decode cX10_seeded 43 = .ok (.iload_n 2, 1) := by decide +kernel
theorem dX10_seeded_44 : decode cX10_seeded 44 = .ok (.if_icmp .ge 63, 3) := by decide +kernel
theorem dX10_seeded_47 : decode cX10_seeded 47 = .ok (.iload 4, 2) := by decide +kernel
theorem dX10_seeded_49 : decode cX10_seeded 49 = .ok (.invokestatic 217, 3) := by decide +kernel
theorem dX10_seeded_52 : decode cX10_seeded 52 = .ok (.istore 4, 2) := by decide +kernel
theorem dX10_seeded_54 : decode cX10_seeded 54 = .ok (.aload_n 0, 1) := by decide +kernel
theorem dX10_seeded_55 : decode cX10_seeded 55 = .ok (.getfield 16, 3) := by decide +kernel
theorem dX10_seeded_58 : decode cX10_seeded 58 = .ok (.getfield 188, 3) := by decide +kernel
theorem dX10_seeded_61 : decode cX10_seeded 61 = .ok (.iload 4, 2) := by decide +kernel
theorem dX10_seeded_63 : decode cX10_seeded 63 = .ok (.invokestatic 220, 3) := by decide +kernel
theorem dX10_seeded_66 : decode cX10_seeded 66 = .ok (.istore 6, 2) := by decide +kernel
theorem dX10_seeded_68 : decode cX10_seeded 68 = .ok (.iload 4, 2) := by decide +kernel
theorem dX10_seeded_70 : decode cX10_seeded 70 = .ok (.invokestatic 217, 3) := by decide +kernel
theorem dX10_seeded_73 : decode cX10_seeded 73 = .ok (.istore 4, 2) := by decide +kernel
theorem dX10_seeded_75 : decode cX10_seeded 75 = .ok (.aload_n 0, 1) := by decide +kernel
theorem dX10_seeded_76 : decode cX10_seeded 76 = .ok (.getfield 16, 3) := by decide +kernel
theorem dX10_seeded_79 : decode cX10_seeded 79 = .ok (.getfield 188, 3) := by decide +kernel
theorem dX10_seeded_82 : decode cX10_seeded 82 = .ok (.iload 4, 2) := by decide +kernel
theorem dX10_seeded_84 : decode cX10_seeded 84 = .ok (.invokestatic 220, 3) := by decide +kernel
theorem dX10_seeded_87 : decode cX10_seeded 87 = .ok (.istore 7, 2) := by decide +kernel
theorem dX10_seeded_89 : decode cX10_seeded 89 = .ok (.aload_n 0, 1) := by decide +kernel
theorem dX10_seeded_90 : decode cX10_seeded 90 = .ok (.getfield 16, 3) := by decide +kernel
theorem dX10_seeded_93 : decode cX10_seeded 93 = .ok (.iload 6, 2) := by decide +kernel
theorem dX10_seeded_95 : decode cX10_seeded 95 = .ok (.iload 7, 2) := by decide +kernel
theorem dX10_seeded_97 : decode cX10_seeded 97 = .ok (.invokevirtual 128, 3) := by decide +kernel
theorem dX10_seeded_100 : decode cX10_seeded 100 = .ok (.pop, 1) := by decide +kernel
theorem dX10_seeded_101 : decode cX10_seeded 101 = .ok (.iinc 5 1, 3) := by decide +kernel
theorem dX10_seeded_104 : decode cX10_seeded 104 = .ok (.goto (-63), 3) := by decide +kernel
theorem dX10_seeded_107 : decode cX10_seeded 107 = .ok (.aload_n 0, 1) := by decide +kernel
theorem dX10_seeded_108 : decode cX10_seeded 108 = .ok (.getfield 16, 3) := by decide +kernel
theorem dX10_seeded_111 : decode cX10_seeded 111 = .ok (.getfield 102, 3) := by decide +kernel
theorem dX10_seeded_114 : decode cX10_seeded 114 = .ok (.iload_n 1, 1) := by decide +kernel
theorem dX10_seeded_115 : decode cX10_seeded 115 = .ok (.iaload, 1) := by decide +kernel
theorem dX10_seeded_116 : decode cX10_seeded 116 = .ok (.ireturn, 1) := by decide +kernel
theorem dX10_judge_0 : decode cX10_judge 0 = .ok (.aload_n 0, 1) := by decide +kernel
theorem dX10_judge_1 : decode cX10_judge 1 = .ok (.iload_n 1, 1) := by decide +kernel
theorem dX10_judge_2 : decode cX10_judge 2 = .ok (.invokevirtual 223, 3) := by decide +kernel
theorem dX10_judge_5 : decode cX10_judge 5 = .ok (.istore_n 2, 1) := by decide +kernel
theorem dX10_judge_6 : decode cX10_judge 6 = .ok (.iload_n 2, 1) := by decide +kernel
theorem dX10_judge_7 : decode cX10_judge 7 = .ok (.ifCond .ge 5, 3) := by decide +kernel
theorem dX10_judge_10 : decode cX10_judge 10 = .ok (.iload_n 2, 1) := by decide +kernel
theorem dX10_judge_11 : decode cX10_judge 11 = .ok (.ireturn, 1) := by decide +kernel
theorem dX10_judge_12 : decode cX10_judge 12 = .ok (.aload_n 0, 1) := by decide +kernel
theorem dX10_judge_13 : decode cX10_judge 13 = .ok (.getfield 28, 3) := by decide +kernel
theorem dX10_judge_16 : decode cX10_judge 16 = .ok (.iload_n 1, 1) := by decide +kernel
theorem dX10_judge_17 : decode cX10_judge 17 = .ok (.aaload, 1) := by decide +kernel
theorem dX10_judge_18 : decode cX10_judge 18 = .ok (.astore_n 3, 1) := by decide +kernel
theorem dX10_judge_19 : decode cX10_judge 19 = .ok (.aload_n 0, 1) := by decide +kernel
theorem dX10_judge_20 : decode cX10_judge 20 = .ok (.getfield 16, 3) := by decide +kernel
theorem dX10_judge_23 : decode cX10_judge 23 = .ok (.aload_n 0, 1) := by decide +kernel
theorem dX10_judge_24 : decode cX10_judge 24 = .ok (.getfield 10, 3) := by decide +kernel
theorem dX10_judge_27 : decode cX10_judge 27 = .ok (.invokevirtual 54, 3) := by decide +kernel
theorem dX10_judge_30 : decode cX10_judge 30 = .ok (.iconst 0, 1) := by decide +kernel
theorem dX10_judge_31 : decode cX10_judge 31 = .ok (.istore 4, 2) := by decide +kernel
theorem dX10_judge_33 : decode cX10_judge 33 = .ok (.iload 4, 2) := by decide +kernel
theorem dX10_judge_35 : decode cX10_judge 35 = .ok (.iconst 3, 1) := by decide +kernel
theorem dX10_judge_36 : decode cX10_judge 36 = .ok (.iadd, 1) := by decide +kernel
theorem dX10_judge_37 : decode cX10_judge 37 = .ok (.aload_n 3, 1) := by decide +kernel
theorem dX10_judge_38 : decode cX10_judge 38 = .ok (.getfield 58, 3) := by decide +kernel
theorem dX10_judge_41 : decode cX10_judge 41 = .ok (.if_icmp .ge 51, 3) := by decide +kernel
theorem dX10_judge_44 : decode cX10_judge 44 = .ok (.aload_n 0, 1) := by decide +kernel
theorem dX10_judge_45 : decode cX10_judge 45 = .ok (.getfield 16, 3) := by decide +kernel
theorem dX10_judge_48 : decode cX10_judge 48 = .ok (.aload_n 3, 1) := by decide +kernel
theorem dX10_judge_49 : decode cX10_judge 49 = .ok (.iload 4, 2) := by decide +kernel
theorem dX10_judge_51 : decode cX10_judge 51 = .ok (.invokestatic 226, 3) := by decide +kernel
theorem dX10_judge_54 : decode cX10_judge 54 = .ok (.istore 5, 2) := by decide +kernel
theorem dX10_judge_56 : decode cX10_judge 56 = .ok (.iload 5, 2) := by decide +kernel
theorem dX10_judge_58 : decode cX10_judge 58 = .ok (.ifCond .lt 6, 3) := by decide +kernel
theorem dX10_judge_61 : decode cX10_judge 61 = .ok (.iload 5, 2) := by decide +kernel
theorem dX10_judge_63 : decode cX10_judge 63 = .ok (.ireturn, 1) := by decide +kernel
theorem dX10_judge_64 : decode cX10_judge 64 = .ok (.aload_n 0, 1) := by decide +kernel
theorem dX10_judge_65 : decode cX10_judge 65 = .ok (.getfield 16, 3) := by decide +kernel
theorem dX10_judge_68 : decode cX10_judge 68 = .ok (.aload_n 3, 1) := by decide +kernel
theorem dX10_judge_69 : decode cX10_judge 69 = .ok (.iload 4, 2) := by decide +kernel
theorem dX10_judge_71 : decode cX10_judge 71 = .ok (.invokevirtual 66, 3) := by decide +kernel
theorem dX10_judge_74 : decode cX10_judge 74 = .ok (.aload_n 3, 1) := by decide +kernel
theorem dX10_judge_75 : decode cX10_judge 75 = .ok (.iload 4, 2) := by decide +kernel
theorem dX10_judge_77 : decode cX10_judge 77 = .ok (.iconst 1, 1) := by decide +kernel
theorem dX10_judge_78 : decode cX10_judge 78 = .ok (.iadd, 1) := by decide +kernel
theorem dX10_judge_79 : decode cX10_judge 79 = .ok (.invokevirtual 66, 3) := by decide +kernel
theorem dX10_judge_82 : decode cX10_judge 82 = .ok (.invokevirtual 128, 3) := by decide +kernel
theorem dX10_judge_85 : decode cX10_judge 85 = .ok (.pop, 1) := by decide +kernel
theorem dX10_judge_86 : decode cX10_judge 86 = .ok (.iinc 4 4, 3) := by decide +kernel
theorem dX10_judge_89 : decode cX10_judge 89 = .ok (.goto (-56), 3) := by decide +kernel
theorem dX10_judge_92 : decode cX10_judge 92 = .ok (.iload 4, 2) := by decide +kernel
theorem dX10_judge_94 : decode cX10_judge 94 = .ok (.aload_n 3, 1) := by decide +kernel
theorem dX10_judge_95 : decode cX10_judge 95 = .ok (.getfield 58, 3) := by decide +kernel
theorem dX10_judge_98 : decode cX10_judge 98 = .ok (.if_icmp .ge 8, 3) := by decide +kernel
theorem dX10_judge_101 : decode cX10_judge 101 = .ok (.iload 4, 2) := by decide +kernel
theorem dX10_judge_103 : decode cX10_judge 103 = .ok (.goto 5, 3) := by decide +kernel
theorem dX10_judge_106 : decode cX10_judge 106 = .ok (.bipush (-4), 2) := by decide +kernel
theorem dX10_judge_108 : decode cX10_judge 108 = .ok (.ireturn, 1) := by decide +kernel
theorem dX10_image_0 : decode cX10_image 0 = .ok (.aload_n 0, 1) := by decide +kernel
theorem dX10_image_1 : decode cX10_image 1 = .ok (.getfield 19, 3) := by decide +kernel
theorem dX10_image_4 : decode cX10_image 4 = .ok (.aload_n 0, 1) := by decide +kernel
theorem dX10_image_5 : decode cX10_image 5 = .ok (.getfield 10, 3) := by decide +kernel
theorem dX10_image_8 : decode cX10_image 8 = .ok (.invokevirtual 54, 3) := by decide +kernel
theorem dX10_image_11 : decode cX10_image 11 = .ok (.aload_n 0, 1) := by decide +kernel
theorem dX10_image_12 : decode cX10_image 12 = .ok (.iconst 1, 1) := by decide +kernel
theorem dX10_image_13 : decode cX10_image 13 = .ok (.putfield 22, 3) := by decide +kernel
theorem dX10_image_16 : decode cX10_image 16 = .ok (.aload_n 0, 1) := by decide +kernel
theorem dX10_image_17 : decode cX10_image 17 = .ok (.getfield 10, 3) := by decide +kernel
theorem dX10_image_20 : decode cX10_image 20 = .ok (.getfield 230, 3) := by decide +kernel
theorem dX10_image_23 : decode cX10_image 23 = .ok (.ireturn, 1) := by decide +kernel
theorem dX10_restore_0 : decode cX10_restore 0 = .ok (.aload_n 0, 1) := by decide +kernel
theorem dX10_restore_1 : decode cX10_restore 1 = .ok (.getfield 22, 3) := by decide +kernel
theorem dX10_restore_4 : decode cX10_restore 4 = .ok (.ifCond .ne 6, 3) := by decide +kernel
theorem dX10_restore_7 : decode cX10_restore 7 = .ok (.bipush (-3), 2) := by decide +kernel
theorem dX10_restore_9 : decode cX10_restore 9 = .ok (.ireturn, 1) := by decide +kernel
theorem dX10_restore_10 : decode cX10_restore 10 = .ok (.aload_n 0, 1) := by decide +kernel
theorem dX10_restore_11 : decode cX10_restore 11 = .ok (.getfield 10, 3) := by decide +kernel
theorem dX10_restore_14 : decode cX10_restore 14 = .ok (.aload_n 0, 1) := by decide +kernel
theorem dX10_restore_15 : decode cX10_restore 15 = .ok (.getfield 19, 3) := by decide +kernel
theorem dX10_restore_18 : decode cX10_restore 18 = .ok (.invokevirtual 54, 3) := by decide +kernel
theorem dX10_restore_21 : decode cX10_restore 21 = .ok (.aload_n 0, 1) := by decide +kernel
theorem dX10_restore_22 : decode cX10_restore 22 = .ok (.getfield 10, 3) := by decide +kernel
theorem dX10_restore_25 : decode cX10_restore 25 = .ok (.getfield 230, 3) := by decide +kernel
theorem dX10_restore_28 : decode cX10_restore 28 = .ok (.ireturn, 1) := by decide +kernel
theorem dX10_count_0 : decode cX10_count 0 = .ok (.iload_n 1, 1) := by decide +kernel
theorem dX10_count_1 : decode cX10_count 1 = .ok (.tableswitch 75 0 4 #[35, 43, 51, 59, 67], 35) := by decide +kernel
theorem dX10_count_36 : decode cX10_count 36 = .ok (.aload_n 0, 1) := by decide +kernel
theorem dX10_count_37 : decode cX10_count 37 = .ok (.getfield 10, 3) := by decide +kernel
theorem dX10_count_40 : decode cX10_count 40 = .ok (.getfield 188, 3) := by decide +kernel
theorem dX10_count_43 : decode cX10_count 43 = .ok (.ireturn, 1) := by decide +kernel
theorem dX10_count_44 : decode cX10_count 44 = .ok (.aload_n 0, 1) := by decide +kernel
theorem dX10_count_45 : decode cX10_count 45 = .ok (.getfield 10, 3) := by decide +kernel
theorem dX10_count_48 : decode cX10_count 48 = .ok (.getfield 182, 3) := by decide +kernel
theorem dX10_count_51 : decode cX10_count 51 = .ok (.ireturn, 1) := by decide +kernel
theorem dX10_count_52 : decode cX10_count 52 = .ok (.aload_n 0, 1) := by decide +kernel
theorem dX10_count_53 : decode cX10_count 53 = .ok (.getfield 10, 3) := by decide +kernel
theorem dX10_count_56 : decode cX10_count 56 = .ok (.getfield 230, 3) := by decide +kernel
theorem dX10_count_59 : decode cX10_count 59 = .ok (.ireturn, 1) := by decide +kernel
theorem dX10_count_60 : decode cX10_count 60 = .ok (.aload_n 0, 1) := by decide +kernel
theorem dX10_count_61 : decode cX10_count 61 = .ok (.getfield 10, 3) := by decide +kernel
theorem dX10_count_64 : decode cX10_count 64 = .ok (.invokevirtual 232, 3) := by decide +kernel
theorem dX10_count_67 : decode cX10_count 67 = .ok (.ireturn, 1) := by decide +kernel
theorem dX10_count_68 : decode cX10_count 68 = .ok (.aload_n 0, 1) := by decide +kernel
theorem dX10_count_69 : decode cX10_count 69 = .ok (.getfield 10, 3) := by decide +kernel
theorem dX10_count_72 : decode cX10_count 72 = .ok (.invokevirtual 235, 3) := by decide +kernel
theorem dX10_count_75 : decode cX10_count 75 = .ok (.ireturn, 1) := by decide +kernel
theorem dX10_count_76 : decode cX10_count 76 = .ok (.iconst (-1), 1) := by decide +kernel
theorem dX10_count_77 : decode cX10_count 77 = .ok (.ireturn, 1) := by decide +kernel
theorem dX10_keep_0 : decode cX10_keep 0 = .ok (.iload_n 1, 1) := by decide +kernel
theorem dX10_keep_1 : decode cX10_keep 1 = .ok (.invokestatic 211, 3) := by decide +kernel
theorem dX10_keep_4 : decode cX10_keep 4 = .ok (.ifCond .eq 12, 3) := by decide +kernel
theorem dX10_keep_7 : decode cX10_keep 7 = .ok (.iload_n 2, 1) := by decide +kernel
theorem dX10_keep_8 : decode cX10_keep 8 = .ok (.ifCond .lt 8, 3) := by decide +kernel
theorem dX10_keep_11 : decode cX10_keep 11 = .ok (.iload_n 2, 1) := by decide +kernel
theorem dX10_keep_12 : decode cX10_keep 12 = .ok (.iconst 1, 1) := by decide +kernel
theorem dX10_keep_13 : decode cX10_keep 13 = .ok (.if_icmp .le 5, 3) := by decide +kernel
theorem dX10_keep_16 : decode cX10_keep 16 = .ok (.iconst (-1), 1) := by decide +kernel
theorem dX10_keep_17 : decode cX10_keep 17 = .ok (.ireturn, 1) := by decide +kernel
theorem dX10_keep_18 : decode cX10_keep 18 = .ok (.iload_n 2, 1) := by decide +kernel
theorem dX10_keep_19 : decode cX10_keep 19 = .ok (.ifCond .ne 14, 3) := by decide +kernel
theorem dX10_keep_22 : decode cX10_keep 22 = .ok (.aload_n 0, 1) := by decide +kernel
theorem dX10_keep_23 : decode cX10_keep 23 = .ok (.getfield 28, 3) := by decide +kernel
theorem dX10_keep_26 : decode cX10_keep 26 = .ok (.iload_n 1, 1) := by decide +kernel
theorem dX10_keep_27 : decode cX10_keep 27 = .ok (.aaload, 1) := by decide +kernel
theorem dX10_keep_28 : decode cX10_keep 28 = .ok (.invokevirtual 238, 3) := by decide +kernel
theorem dX10_keep_31 : decode cX10_keep 31 = .ok (.iconst 0, 1) := by decide +kernel
theorem dX10_keep_32 : decode cX10_keep 32 = .ok (.ireturn, 1) := by decide +kernel
theorem dX10_keep_33 : decode cX10_keep 33 = .ok (.iload_n 3, 1) := by decide +kernel
theorem dX10_keep_34 : decode cX10_keep 34 = .ok (.iload 4, 2) := by decide +kernel
theorem dX10_keep_36 : decode cX10_keep 36 = .ok (.invokestatic 200, 3) := by decide +kernel
theorem dX10_keep_39 : decode cX10_keep 39 = .ok (.ifCond .ne 5, 3) := by decide +kernel
theorem dX10_keep_42 : decode cX10_keep 42 = .ok (.iconst (-1), 1) := by decide +kernel
theorem dX10_keep_43 : decode cX10_keep 43 = .ok (.ireturn, 1) := by decide +kernel
theorem dX10_keep_44 : decode cX10_keep 44 = .ok (.aload_n 0, 1) := by decide +kernel
theorem dX10_keep_45 : decode cX10_keep 45 = .ok (.getfield 28, 3) := by decide +kernel
theorem dX10_keep_48 : decode cX10_keep 48 = .ok (.iload_n 1, 1) := by decide +kernel
theorem dX10_keep_49 : decode cX10_keep 49 = .ok (.aaload, 1) := by decide +kernel
theorem dX10_keep_50 : decode cX10_keep 50 = .ok (.iload_n 3, 1) := by decide +kernel
theorem dX10_keep_51 : decode cX10_keep 51 = .ok (.iload 4, 2) := by decide +kernel
theorem dX10_keep_53 : decode cX10_keep 53 = .ok (.invokestatic 203, 3) := by decide +kernel
theorem dX10_keep_56 : decode cX10_keep 56 = .ok (.invokevirtual 241, 3) := by decide +kernel
theorem dX10_keep_59 : decode cX10_keep 59 = .ok (.iconst 0, 1) := by decide +kernel
theorem dX10_keep_60 : decode cX10_keep 60 = .ok (.ireturn, 1) := by decide +kernel
theorem dX10_row_0 : decode cX10_row 0 = .ok (.iload_n 1, 1) := by decide +kernel
theorem dX10_row_1 : decode cX10_row 1 = .ok (.invokestatic 211, 3) := by decide +kernel
theorem dX10_row_4 : decode cX10_row 4 = .ok (.ifCond .eq 18, 3) := by decide +kernel
theorem dX10_row_7 : decode cX10_row 7 = .ok (.iload_n 2, 1) := by decide +kernel
theorem dX10_row_8 : decode cX10_row 8 = .ok (.ifCond .lt 14, 3) := by decide +kernel
theorem dX10_row_11 : decode cX10_row 11 = .ok (.iload_n 2, 1) := by decide +kernel
theorem dX10_row_12 : decode cX10_row 12 = .ok (.iconst 3, 1) := by decide +kernel
theorem dX10_row_13 : decode cX10_row 13 = .ok (.if_icmp .ge 9, 3) := by decide +kernel
theorem dX10_row_16 : decode cX10_row 16 = .ok (.iload_n 3, 1) := by decide +kernel
theorem dX10_row_17 : decode cX10_row 17 = .ok (.bipush 100, 2) := by decide +kernel
theorem dX10_row_19 : decode cX10_row 19 = .ok (.if_icmp .le 5, 3) := by decide +kernel
theorem dX10_row_22 : decode cX10_row 22 = .ok (.iconst (-1), 1) := by decide +kernel
theorem dX10_row_23 : decode cX10_row 23 = .ok (.ireturn, 1) := by decide +kernel
theorem dX10_row_24 : decode cX10_row 24 = .ok (.iload_n 3, 1) := by decide +kernel
theorem dX10_row_25 : decode cX10_row 25 = .ok (.ifCond .ge 6, 3) := by decide +kernel
theorem dX10_row_28 : decode cX10_row 28 = .ok (.bipush (-14), 2) := by decide +kernel
theorem dX10_row_30 : decode cX10_row 30 = .ok (.ireturn, 1) := by decide +kernel
theorem dX10_row_31 : decode cX10_row 31 = .ok (.aload_n 0, 1) := by decide +kernel
theorem dX10_row_32 : decode cX10_row 32 = .ok (.getfield 28, 3) := by decide +kernel
theorem dX10_row_35 : decode cX10_row 35 = .ok (.iload_n 1, 1) := by decide +kernel
theorem dX10_row_36 : decode cX10_row 36 = .ok (.aaload, 1) := by decide +kernel
theorem dX10_row_37 : decode cX10_row 37 = .ok (.iload_n 2, 1) := by decide +kernel
theorem dX10_row_38 : decode cX10_row 38 = .ok (.iload_n 3, 1) := by decide +kernel
theorem dX10_row_39 : decode cX10_row 39 = .ok (.invokevirtual 244, 3) := by decide +kernel
theorem dX10_row_42 : decode cX10_row 42 = .ok (.iconst 0, 1) := by decide +kernel
theorem dX10_row_43 : decode cX10_row 43 = .ok (.ireturn, 1) := by decide +kernel
theorem dX10_put_0 : decode cX10_put 0 = .ok (.aload_n 0, 1) := by decide +kernel
theorem dX10_put_1 : decode cX10_put 1 = .ok (.iload_n 1, 1) := by decide +kernel
theorem dX10_put_2 : decode cX10_put 2 = .ok (.invokevirtual 223, 3) := by decide +kernel
theorem dX10_put_5 : decode cX10_put 5 = .ok (.istore 4, 2) := by decide +kernel
theorem dX10_put_7 : decode cX10_put 7 = .ok (.iload 4, 2) := by decide +kernel
theorem dX10_put_9 : decode cX10_put 9 = .ok (.ifCond .ge 6, 3) := by decide +kernel
theorem dX10_put_12 : decode cX10_put 12 = .ok (.iload 4, 2) := by decide +kernel
theorem dX10_put_14 : decode cX10_put 14 = .ok (.ireturn, 1) := by decide +kernel
theorem dX10_put_15 : decode cX10_put 15 = .ok (.aload_n 0, 1) := by decide +kernel
theorem dX10_put_16 : decode cX10_put 16 = .ok (.getfield 28, 3) := by decide +kernel
theorem dX10_put_19 : decode cX10_put 19 = .ok (.iload_n 1, 1) := by decide +kernel
theorem dX10_put_20 : decode cX10_put 20 = .ok (.aaload, 1) := by decide +kernel
theorem dX10_put_21 : decode cX10_put 21 = .ok (.iload_n 2, 1) := by decide +kernel
theorem dX10_put_22 : decode cX10_put 22 = .ok (.invokevirtual 248, 3) := by decide +kernel
theorem dX10_put_25 : decode cX10_put 25 = .ok (.ifCond .ne 6, 3) := by decide +kernel
theorem dX10_put_28 : decode cX10_put 28 = .ok (.bipush (-13), 2) := by decide +kernel
theorem dX10_put_30 : decode cX10_put 30 = .ok (.ireturn, 1) := by decide +kernel
theorem dX10_put_31 : decode cX10_put 31 = .ok (.aload_n 0, 1) := by decide +kernel
theorem dX10_put_32 : decode cX10_put 32 = .ok (.getfield 28, 3) := by decide +kernel
theorem dX10_put_35 : decode cX10_put 35 = .ok (.iload_n 1, 1) := by decide +kernel
theorem dX10_put_36 : decode cX10_put 36 = .ok (.aaload, 1) := by decide +kernel
theorem dX10_put_37 : decode cX10_put 37 = .ok (.iload_n 2, 1) := by decide +kernel
theorem dX10_put_38 : decode cX10_put 38 = .ok (.iload_n 3, 1) := by decide +kernel
theorem dX10_put_39 : decode cX10_put 39 = .ok (.invokevirtual 251, 3) := by decide +kernel
theorem dX10_put_42 : decode cX10_put 42 = .ok (.iconst 0, 1) := by decide +kernel
theorem dX10_put_43 : decode cX10_put 43 = .ok (.ireturn, 1) := by decide +kernel
theorem dX10_element_0 : decode cX10_element 0 = .ok (.iload_n 1, 1) := by decide +kernel
theorem dX10_element_1 : decode cX10_element 1 = .ok (.invokestatic 211, 3) := by decide +kernel
theorem dX10_element_4 : decode cX10_element 4 = .ok (.ifCond .ne 14, 3) := by decide +kernel
theorem dX10_element_7 : decode cX10_element 7 = .ok (.new 254, 3) := by decide +kernel
theorem dX10_element_10 : decode cX10_element 10 = .ok (.dup, 1) := by decide +kernel
theorem dX10_element_11 : decode cX10_element 11 = .ok (.ldc_w 256, 3) := by decide +kernel
theorem dX10_element_14 : decode cX10_element 14 = .ok (.invokespecial 258, 3) := by decide +kernel
theorem dX10_element_17 : decode cX10_element 17 = .ok (.athrow, 1) := by decide +kernel
theorem dX10_element_18 : decode cX10_element 18 = .ok (.aload_n 0, 1) := by decide +kernel
theorem dX10_element_19 : decode cX10_element 19 = .ok (.getfield 28, 3) := by decide +kernel
theorem dX10_element_22 : decode cX10_element 22 = .ok (.iload_n 1, 1) := by decide +kernel
theorem dX10_element_23 : decode cX10_element 23 = .ok (.aaload, 1) := by decide +kernel
theorem dX10_element_24 : decode cX10_element 24 = .ok (.invokevirtual 261, 3) := by decide +kernel
theorem dX10_element_27 : decode cX10_element 27 = .ok (.ifCond .ne 14, 3) := by decide +kernel
theorem dX10_element_30 : decode cX10_element 30 = .ok (.new 265, 3) := by decide +kernel
theorem dX10_element_33 : decode cX10_element 33 = .ok (.dup, 1) := by decide +kernel
theorem dX10_element_34 : decode cX10_element 34 = .ok (.ldc_w 267, 3) := by decide +kernel
theorem dX10_element_37 : decode cX10_element 37 = .ok (.invokespecial 269, 3) := by decide +kernel
theorem dX10_element_40 : decode cX10_element 40 = .ok (.athrow, 1) := by decide +kernel
theorem dX10_element_41 : decode cX10_element 41 = .ok (.aload_n 0, 1) := by decide +kernel
theorem dX10_element_42 : decode cX10_element 42 = .ok (.getfield 28, 3) := by decide +kernel
theorem dX10_element_45 : decode cX10_element 45 = .ok (.iload_n 1, 1) := by decide +kernel
theorem dX10_element_46 : decode cX10_element 46 = .ok (.aaload, 1) := by decide +kernel
theorem dX10_element_47 : decode cX10_element 47 = .ok (.iload_n 2, 1) := by decide +kernel
theorem dX10_element_48 : decode cX10_element 48 = .ok (.invokevirtual 248, 3) := by decide +kernel
theorem dX10_element_51 : decode cX10_element 51 = .ok (.ifCond .ne 14, 3) := by decide +kernel
theorem dX10_element_54 : decode cX10_element 54 = .ok (.new 265, 3) := by decide +kernel
theorem dX10_element_57 : decode cX10_element 57 = .ok (.dup, 1) := by decide +kernel
theorem dX10_element_58 : decode cX10_element 58 = .ok (.ldc_w 270, 3) := by decide +kernel
theorem dX10_element_61 : decode cX10_element 61 = .ok (.invokespecial 269, 3) := by decide +kernel
theorem dX10_element_64 : decode cX10_element 64 = .ok (.athrow, 1) := by decide +kernel
theorem dX10_element_65 : decode cX10_element 65 = .ok (.aload_n 0, 1) := by decide +kernel
theorem dX10_element_66 : decode cX10_element 66 = .ok (.getfield 28, 3) := by decide +kernel
theorem dX10_element_69 : decode cX10_element 69 = .ok (.iload_n 1, 1) := by decide +kernel
theorem dX10_element_70 : decode cX10_element 70 = .ok (.aaload, 1) := by decide +kernel
theorem dX10_element_71 : decode cX10_element 71 = .ok (.iload_n 2, 1) := by decide +kernel
theorem dX10_element_72 : decode cX10_element 72 = .ok (.invokevirtual 66, 3) := by decide +kernel
theorem dX10_element_75 : decode cX10_element 75 = .ok (.i2l, 1) := by decide +kernel
theorem dX10_element_76 : decode cX10_element 76 = .ok (.lreturn, 1) := by decide +kernel
theorem dX10_copy_0 : decode cX10_copy 0 = .ok (.iload_n 1, 1) := by decide +kernel
theorem dX10_copy_1 : decode cX10_copy 1 = .ok (.invokestatic 211, 3) := by decide +kernel
theorem dX10_copy_4 : decode cX10_copy 4 = .ok (.ifCond .eq 10, 3) := by decide +kernel
theorem dX10_copy_7 : decode cX10_copy 7 = .ok (.iload_n 3, 1) := by decide +kernel
theorem dX10_copy_8 : decode cX10_copy 8 = .ok (.invokestatic 211, 3) := by decide +kernel
theorem dX10_copy_11 : decode cX10_copy 11 = .ok (.ifCond .ne 5, 3) := by decide +kernel
theorem dX10_copy_14 : decode cX10_copy 14 = .ok (.iconst (-1), 1) := by decide +kernel
theorem dX10_copy_15 : decode cX10_copy 15 = .ok (.ireturn, 1) := by decide +kernel
theorem dX10_copy_16 : decode cX10_copy 16 = .ok (.aload_n 0, 1) := by decide +kernel
theorem dX10_copy_17 : decode cX10_copy 17 = .ok (.getfield 28, 3) := by decide +kernel
theorem dX10_copy_20 : decode cX10_copy 20 = .ok (.iload_n 1, 1) := by decide +kernel
theorem dX10_copy_21 : decode cX10_copy 21 = .ok (.aaload, 1) := by decide +kernel
theorem dX10_copy_22 : decode cX10_copy 22 = .ok (.astore 6, 2) := by decide +kernel
theorem dX10_copy_24 : decode cX10_copy 24 = .ok (.aload_n 0, 1) := by decide +kernel
theorem dX10_copy_25 : decode cX10_copy 25 = .ok (.getfield 28, 3) := by decide +kernel
theorem dX10_copy_28 : decode cX10_copy 28 = .ok (.iload_n 3, 1) := by decide +kernel
theorem dX10_copy_29 : decode cX10_copy 29 = .ok (.aaload, 1) := by decide +kernel
theorem dX10_copy_30 : decode cX10_copy 30 = .ok (.astore 7, 2) := by decide +kernel
theorem dX10_copy_32 : decode cX10_copy 32 = .ok (.aload 6, 2) := by decide +kernel
theorem dX10_copy_34 : decode cX10_copy 34 = .ok (.invokevirtual 272, 3) := by decide +kernel
theorem dX10_copy_37 : decode cX10_copy 37 = .ok (.ifCond .ne 11, 3) := by decide +kernel
theorem dX10_copy_40 : decode cX10_copy 40 = .ok (.aload 7, 2) := by decide +kernel
theorem dX10_copy_42 : decode cX10_copy 42 = .ok (.invokevirtual 272, 3) := by decide +kernel
theorem dX10_copy_45 : decode cX10_copy 45 = .ok (.ifCond .eq 6, 3) := by decide +kernel
theorem dX10_copy_48 : decode cX10_copy 48 = .ok (.bipush (-11), 2) := by decide +kernel
theorem dX10_copy_50 : decode cX10_copy 50 = .ok (.ireturn, 1) := by decide +kernel
theorem dX10_copy_51 : decode cX10_copy 51 = .ok (.aload 6, 2) := by decide +kernel
theorem dX10_copy_53 : decode cX10_copy 53 = .ok (.invokevirtual 261, 3) := by decide +kernel
theorem dX10_copy_56 : decode cX10_copy 56 = .ok (.ifCond .eq 24, 3) := by decide +kernel
theorem dX10_copy_59 : decode cX10_copy 59 = .ok (.aload 7, 2) := by decide +kernel
theorem dX10_copy_61 : decode cX10_copy 61 = .ok (.invokevirtual 261, 3) := by decide +kernel
theorem dX10_copy_64 : decode cX10_copy 64 = .ok (.ifCond .eq 16, 3) := by decide +kernel
theorem dX10_copy_67 : decode cX10_copy 67 = .ok (.aload 6, 2) := by decide +kernel
theorem dX10_copy_69 : decode cX10_copy 69 = .ok (.getfield 275, 3) := by decide +kernel
theorem dX10_copy_72 : decode cX10_copy 72 = .ok (.aload 7, 2) := by decide +kernel
theorem dX10_copy_74 : decode cX10_copy 74 = .ok (.getfield 275, 3) := by decide +kernel
theorem dX10_copy_77 : decode cX10_copy 77 = .ok (.if_icmp .eq 6, 3) := by decide +kernel
theorem dX10_copy_80 : decode cX10_copy 80 = .ok (.bipush (-12), 2) := by decide +kernel
theorem dX10_copy_82 : decode cX10_copy 82 = .ok (.ireturn, 1) := by decide +kernel
theorem dX10_copy_83 : decode cX10_copy 83 = .ok (.aload 6, 2) := by decide +kernel
theorem dX10_copy_85 : decode cX10_copy 85 = .ok (.iload_n 2, 1) := by decide +kernel
theorem dX10_copy_86 : decode cX10_copy 86 = .ok (.iload 5, 2) := by decide +kernel
theorem dX10_copy_88 : decode cX10_copy 88 = .ok (.invokevirtual 278, 3) := by decide +kernel
theorem dX10_copy_91 : decode cX10_copy 91 = .ok (.ifCond .eq 15, 3) := by decide +kernel
theorem dX10_copy_94 : decode cX10_copy 94 = .ok (.aload 7, 2) := by decide +kernel
theorem dX10_copy_96 : decode cX10_copy 96 = .ok (.iload 4, 2) := by decide +kernel
theorem dX10_copy_98 : decode cX10_copy 98 = .ok (.iload 5, 2) := by decide +kernel
theorem dX10_copy_100 : decode cX10_copy 100 = .ok (.invokevirtual 278, 3) := by decide +kernel
theorem dX10_copy_103 : decode cX10_copy 103 = .ok (.ifCond .ne 6, 3) := by decide +kernel
theorem dX10_copy_106 : decode cX10_copy 106 = .ok (.bipush (-13), 2) := by decide +kernel
theorem dX10_copy_108 : decode cX10_copy 108 = .ok (.ireturn, 1) := by decide +kernel
theorem dX10_copy_109 : decode cX10_copy 109 = .ok (.aload 6, 2) := by decide +kernel
theorem dX10_copy_111 : decode cX10_copy 111 = .ok (.getfield 281, 3) := by decide +kernel
theorem dX10_copy_114 : decode cX10_copy 114 = .ok (.iload_n 2, 1) := by decide +kernel
theorem dX10_copy_115 : decode cX10_copy 115 = .ok (.aload 7, 2) := by decide +kernel
theorem dX10_copy_117 : decode cX10_copy 117 = .ok (.getfield 281, 3) := by decide +kernel
theorem dX10_copy_120 : decode cX10_copy 120 = .ok (.iload 4, 2) := by decide +kernel
theorem dX10_copy_122 : decode cX10_copy 122 = .ok (.iload 5, 2) := by decide +kernel
theorem dX10_copy_124 : decode cX10_copy 124 = .ok (.invokestatic 284, 3) := by decide +kernel
theorem dX10_copy_127 : decode cX10_copy 127 = .ok (.iload 5, 2) := by decide +kernel
theorem dX10_copy_129 : decode cX10_copy 129 = .ok (.ireturn, 1) := by decide +kernel
theorem dX10_pay_0 : decode cX10_pay 0 = .ok (.aload_n 0, 1) := by decide +kernel
theorem dX10_pay_1 : decode cX10_pay 1 = .ok (.iload_n 1, 1) := by decide +kernel
theorem dX10_pay_2 : decode cX10_pay 2 = .ok (.invokevirtual 114, 3) := by decide +kernel
theorem dX10_pay_5 : decode cX10_pay 5 = .ok (.istore_n 2, 1) := by decide +kernel
theorem dX10_pay_6 : decode cX10_pay 6 = .ok (.iload_n 2, 1) := by decide +kernel
theorem dX10_pay_7 : decode cX10_pay 7 = .ok (.ifCond .ge 7, 3) := by decide +kernel
theorem dX10_pay_10 : decode cX10_pay 10 = .ok (.iload_n 2, 1) := by decide +kernel
theorem dX10_pay_11 : decode cX10_pay 11 = .ok (.goto 15, 3) := by decide +kernel
theorem dX10_pay_14 : decode cX10_pay 14 = .ok (.aload_n 0, 1) := by decide +kernel
theorem dX10_pay_15 : decode cX10_pay 15 = .ok (.getfield 28, 3) := by decide +kernel
theorem dX10_pay_18 : decode cX10_pay 18 = .ok (.iload_n 1, 1) := by decide +kernel
theorem dX10_pay_19 : decode cX10_pay 19 = .ok (.aaload, 1) := by decide +kernel
theorem dX10_pay_20 : decode cX10_pay 20 = .ok (.getfield 117, 3) := by decide +kernel
theorem dX10_pay_23 : decode cX10_pay 23 = .ok (.invokevirtual 290, 3) := by decide +kernel
theorem dX10_pay_26 : decode cX10_pay 26 = .ok (.ireturn, 1) := by decide +kernel
theorem dX10_toss_0 : decode cX10_toss 0 = .ok (.aload_n 0, 1) := by decide +kernel
theorem dX10_toss_1 : decode cX10_toss 1 = .ok (.iload_n 1, 1) := by decide +kernel
theorem dX10_toss_2 : decode cX10_toss 2 = .ok (.invokevirtual 114, 3) := by decide +kernel
theorem dX10_toss_5 : decode cX10_toss 5 = .ok (.istore_n 2, 1) := by decide +kernel
theorem dX10_toss_6 : decode cX10_toss 6 = .ok (.iload_n 2, 1) := by decide +kernel
theorem dX10_toss_7 : decode cX10_toss 7 = .ok (.ifCond .ge 5, 3) := by decide +kernel
theorem dX10_toss_10 : decode cX10_toss 10 = .ok (.iload_n 2, 1) := by decide +kernel
theorem dX10_toss_11 : decode cX10_toss 11 = .ok (.ireturn, 1) := by decide +kernel
theorem dX10_toss_12 : decode cX10_toss 12 = .ok (.aload_n 0, 1) := by decide +kernel
theorem dX10_toss_13 : decode cX10_toss 13 = .ok (.getfield 28, 3) := by decide +kernel
theorem dX10_toss_16 : decode cX10_toss 16 = .ok (.iload_n 1, 1) := by decide +kernel
theorem dX10_toss_17 : decode cX10_toss 17 = .ok (.aaload, 1) := by decide +kernel
theorem dX10_toss_18 : decode cX10_toss 18 = .ok (.getfield 117, 3) := by decide +kernel
theorem dX10_toss_21 : decode cX10_toss 21 = .ok (.astore_n 3, 1) := by decide +kernel
theorem dX10_toss_22 : decode cX10_toss 22 = .ok (.aload_n 3, 1) := by decide +kernel
theorem dX10_toss_23 : decode cX10_toss 23 = .ok (.invokevirtual 293, 3) := by decide +kernel
theorem dX10_toss_26 : decode cX10_toss 26 = .ok (.goto 10, 3) := by decide +kernel
theorem dX10_toss_29 : decode cX10_toss 29 = .ok (.astore 4, 2) := by decide +kernel
theorem dX10_toss_31 : decode cX10_toss 31 = .ok (.aload_n 3, 1) := by decide +kernel
theorem dX10_toss_32 : decode cX10_toss 32 = .ok (.invokevirtual 296, 3) := by decide +kernel
theorem dX10_toss_35 : decode cX10_toss 35 = .ok (.ireturn, 1) := by decide +kernel
theorem dX10_toss_36 : decode cX10_toss 36 = .ok (.bipush (-15), 2) := by decide +kernel
theorem dX10_toss_38 : decode cX10_toss 38 = .ok (.ireturn, 1) := by decide +kernel
theorem dX10_isShelf_0 : decode cX10_isShelf 0 = .ok (.iload_n 0, 1) := by decide +kernel
theorem dX10_isShelf_1 : decode cX10_isShelf 1 = .ok (.ifCond .lt 13, 3) := by decide +kernel
theorem dX10_isShelf_4 : decode cX10_isShelf 4 = .ok (.iload_n 0, 1) := by decide +kernel
theorem dX10_isShelf_5 : decode cX10_isShelf 5 = .ok (.bipush 8, 2) := by decide +kernel
theorem dX10_isShelf_7 : decode cX10_isShelf 7 = .ok (.if_icmp .ge 7, 3) := by decide +kernel
theorem dX10_isShelf_10 : decode cX10_isShelf 10 = .ok (.iconst 1, 1) := by decide +kernel
theorem dX10_isShelf_11 : decode cX10_isShelf 11 = .ok (.goto 4, 3) := by decide +kernel
theorem dX10_isShelf_14 : decode cX10_isShelf 14 = .ok (.iconst 0, 1) := by decide +kernel
theorem dX10_isShelf_15 : decode cX10_isShelf 15 = .ok (.ireturn, 1) := by decide +kernel
theorem dX10_isKindAndFigure_0 : decode cX10_isKindAndFigure 0 = .ok (.iload_n 0, 1) := by decide +kernel
theorem dX10_isKindAndFigure_1 : decode cX10_isKindAndFigure 1 = .ok (.ifCond .lt 23, 3) := by decide +kernel
theorem dX10_isKindAndFigure_4 : decode cX10_isKindAndFigure 4 = .ok (.iload_n 0, 1) := by decide +kernel
theorem dX10_isKindAndFigure_5 : decode cX10_isKindAndFigure 5 = .ok (.bipush 8, 2) := by decide +kernel
theorem dX10_isKindAndFigure_7 : decode cX10_isKindAndFigure 7 = .ok (.if_icmp .ge 17, 3) := by decide +kernel
theorem dX10_isKindAndFigure_10 : decode cX10_isKindAndFigure 10 = .ok (.iload_n 1, 1) := by decide +kernel
theorem dX10_isKindAndFigure_11 : decode cX10_isKindAndFigure 11 = .ok (.ifCond .lt 13, 3) := by decide +kernel
theorem dX10_isKindAndFigure_14 : decode cX10_isKindAndFigure 14 = .ok (.iload_n 1, 1) := by decide +kernel
theorem dX10_isKindAndFigure_15 : decode cX10_isKindAndFigure 15 = .ok (.bipush 10, 2) := by decide +kernel
theorem dX10_isKindAndFigure_17 : decode cX10_isKindAndFigure 17 = .ok (.if_icmp .ge 7, 3) := by decide +kernel
theorem dX10_isKindAndFigure_20 : decode cX10_isKindAndFigure 20 = .ok (.iconst 1, 1) := by decide +kernel
theorem dX10_isKindAndFigure_21 : decode cX10_isKindAndFigure 21 = .ok (.goto 4, 3) := by decide +kernel
theorem dX10_isKindAndFigure_24 : decode cX10_isKindAndFigure 24 = .ok (.iconst 0, 1) := by decide +kernel
theorem dX10_isKindAndFigure_25 : decode cX10_isKindAndFigure 25 = .ok (.ireturn, 1) := by decide +kernel
theorem dX10_refusalOfCaptain_0 : decode cX10_refusalOfCaptain 0 = .ok (.iload_n 1, 1) := by decide +kernel
theorem dX10_refusalOfCaptain_1 : decode cX10_refusalOfCaptain 1 = .ok (.invokestatic 211, 3) := by decide +kernel
theorem dX10_refusalOfCaptain_4 : decode cX10_refusalOfCaptain 4 = .ok (.ifCond .ne 5, 3) := by decide +kernel
theorem dX10_refusalOfCaptain_7 : decode cX10_refusalOfCaptain 7 = .ok (.iconst (-1), 1) := by decide +kernel
theorem dX10_refusalOfCaptain_8 : decode cX10_refusalOfCaptain 8 = .ok (.ireturn, 1) := by decide +kernel
theorem dX10_refusalOfCaptain_9 : decode cX10_refusalOfCaptain 9 = .ok (.aload_n 0, 1) := by decide +kernel
theorem dX10_refusalOfCaptain_10 : decode cX10_refusalOfCaptain 10 = .ok (.getfield 28, 3) := by decide +kernel
theorem dX10_refusalOfCaptain_13 : decode cX10_refusalOfCaptain 13 = .ok (.iload_n 1, 1) := by decide +kernel
theorem dX10_refusalOfCaptain_14 : decode cX10_refusalOfCaptain 14 = .ok (.aaload, 1) := by decide +kernel
theorem dX10_refusalOfCaptain_15 : decode cX10_refusalOfCaptain 15 = .ok (.invokevirtual 272, 3) := by decide +kernel
theorem dX10_refusalOfCaptain_18 : decode cX10_refusalOfCaptain 18 = .ok (.ifCond .eq 6, 3) := by decide +kernel
theorem dX10_refusalOfCaptain_21 : decode cX10_refusalOfCaptain 21 = .ok (.bipush (-11), 2) := by decide +kernel
theorem dX10_refusalOfCaptain_23 : decode cX10_refusalOfCaptain 23 = .ok (.ireturn, 1) := by decide +kernel
theorem dX10_refusalOfCaptain_24 : decode cX10_refusalOfCaptain 24 = .ok (.aload_n 0, 1) := by decide +kernel
theorem dX10_refusalOfCaptain_25 : decode cX10_refusalOfCaptain 25 = .ok (.getfield 28, 3) := by decide +kernel
theorem dX10_refusalOfCaptain_28 : decode cX10_refusalOfCaptain 28 = .ok (.iload_n 1, 1) := by decide +kernel
theorem dX10_refusalOfCaptain_29 : decode cX10_refusalOfCaptain 29 = .ok (.aaload, 1) := by decide +kernel
theorem dX10_refusalOfCaptain_30 : decode cX10_refusalOfCaptain 30 = .ok (.getfield 117, 3) := by decide +kernel
theorem dX10_refusalOfCaptain_33 : decode cX10_refusalOfCaptain 33 = .ok (.ifnonnull 8, 3) := by decide +kernel
theorem dX10_refusalOfCaptain_36 : decode cX10_refusalOfCaptain 36 = .ok (.bipush (-12), 2) := by decide +kernel
theorem dX10_refusalOfCaptain_38 : decode cX10_refusalOfCaptain 38 = .ok (.goto 4, 3) := by decide +kernel
theorem dX10_refusalOfCaptain_41 : decode cX10_refusalOfCaptain 41 = .ok (.iconst 0, 1) := by decide +kernel
theorem dX10_refusalOfCaptain_42 : decode cX10_refusalOfCaptain 42 = .ok (.ireturn, 1) := by decide +kernel
theorem dX10_refusalOfRow_0 : decode cX10_refusalOfRow 0 = .ok (.iload_n 1, 1) := by decide +kernel
theorem dX10_refusalOfRow_1 : decode cX10_refusalOfRow 1 = .ok (.invokestatic 211, 3) := by decide +kernel
theorem dX10_refusalOfRow_4 : decode cX10_refusalOfRow 4 = .ok (.ifCond .ne 5, 3) := by decide +kernel
theorem dX10_refusalOfRow_7 : decode cX10_refusalOfRow 7 = .ok (.iconst (-1), 1) := by decide +kernel
theorem dX10_refusalOfRow_8 : decode cX10_refusalOfRow 8 = .ok (.ireturn, 1) := by decide +kernel
theorem dX10_refusalOfRow_9 : decode cX10_refusalOfRow 9 = .ok (.aload_n 0, 1) := by decide +kernel
theorem dX10_refusalOfRow_10 : decode cX10_refusalOfRow 10 = .ok (.getfield 28, 3) := by decide +kernel
theorem dX10_refusalOfRow_13 : decode cX10_refusalOfRow 13 = .ok (.iload_n 1, 1) := by decide +kernel
theorem dX10_refusalOfRow_14 : decode cX10_refusalOfRow 14 = .ok (.aaload, 1) := by decide +kernel
theorem dX10_refusalOfRow_15 : decode cX10_refusalOfRow 15 = .ok (.invokevirtual 272, 3) := by decide +kernel
theorem dX10_refusalOfRow_18 : decode cX10_refusalOfRow 18 = .ok (.ifCond .eq 6, 3) := by decide +kernel
theorem dX10_refusalOfRow_21 : decode cX10_refusalOfRow 21 = .ok (.bipush (-11), 2) := by decide +kernel
theorem dX10_refusalOfRow_23 : decode cX10_refusalOfRow 23 = .ok (.ireturn, 1) := by decide +kernel
theorem dX10_refusalOfRow_24 : decode cX10_refusalOfRow 24 = .ok (.aload_n 0, 1) := by decide +kernel
theorem dX10_refusalOfRow_25 : decode cX10_refusalOfRow 25 = .ok (.getfield 28, 3) := by decide +kernel
theorem dX10_refusalOfRow_28 : decode cX10_refusalOfRow 28 = .ok (.iload_n 1, 1) := by decide +kernel
theorem dX10_refusalOfRow_29 : decode cX10_refusalOfRow 29 = .ok (.aaload, 1) := by decide +kernel
theorem dX10_refusalOfRow_30 : decode cX10_refusalOfRow 30 = .ok (.invokevirtual 261, 3) := by decide +kernel
theorem dX10_refusalOfRow_33 : decode cX10_refusalOfRow 33 = .ok (.ifCond .eq 7, 3) := by decide +kernel
theorem dX10_refusalOfRow_36 : decode cX10_refusalOfRow 36 = .ok (.iconst 0, 1) := by decide +kernel
theorem dX10_refusalOfRow_37 : decode cX10_refusalOfRow 37 = .ok (.goto 5, 3) := by decide +kernel
theorem dX10_refusalOfRow_40 : decode cX10_refusalOfRow 40 = .ok (.bipush (-12), 2) := by decide +kernel
theorem dX10_refusalOfRow_42 : decode cX10_refusalOfRow 42 = .ok (.ireturn, 1) := by decide +kernel
theorem dX10_refusalOfBytes_0 : decode cX10_refusalOfBytes 0 = .ok (.aload_n 0, 1) := by decide +kernel
theorem dX10_refusalOfBytes_1 : decode cX10_refusalOfBytes 1 = .ok (.iload_n 1, 1) := by decide +kernel
theorem dX10_refusalOfBytes_2 : decode cX10_refusalOfBytes 2 = .ok (.invokevirtual 223, 3) := by decide +kernel
theorem dX10_refusalOfBytes_5 : decode cX10_refusalOfBytes 5 = .ok (.istore_n 2, 1) := by decide +kernel
theorem dX10_refusalOfBytes_6 : decode cX10_refusalOfBytes 6 = .ok (.iload_n 2, 1) := by decide +kernel
theorem dX10_refusalOfBytes_7 : decode cX10_refusalOfBytes 7 = .ok (.ifCond .ge 5, 3) := by decide +kernel
theorem dX10_refusalOfBytes_10 : decode cX10_refusalOfBytes 10 = .ok (.iload_n 2, 1) := by decide +kernel
theorem dX10_refusalOfBytes_11 : decode cX10_refusalOfBytes 11 = .ok (.ireturn, 1) := by decide +kernel
theorem dX10_refusalOfBytes_12 : decode cX10_refusalOfBytes 12 = .ok (.aload_n 0, 1) := by decide +kernel
theorem dX10_refusalOfBytes_13 : decode cX10_refusalOfBytes 13 = .ok (.getfield 28, 3) := by decide +kernel
theorem dX10_refusalOfBytes_16 : decode cX10_refusalOfBytes 16 = .ok (.iload_n 1, 1) := by decide +kernel
theorem dX10_refusalOfBytes_17 : decode cX10_refusalOfBytes 17 = .ok (.aaload, 1) := by decide +kernel
theorem dX10_refusalOfBytes_18 : decode cX10_refusalOfBytes 18 = .ok (.getfield 275, 3) := by decide +kernel
theorem dX10_refusalOfBytes_21 : decode cX10_refusalOfBytes 21 = .ok (.ifCond .ne 7, 3) := by decide +kernel
theorem dX10_refusalOfBytes_24 : decode cX10_refusalOfBytes 24 = .ok (.iconst 0, 1) := by decide +kernel
theorem dX10_refusalOfBytes_25 : decode cX10_refusalOfBytes 25 = .ok (.goto 5, 3) := by decide +kernel
theorem dX10_refusalOfBytes_28 : decode cX10_refusalOfBytes 28 = .ok (.bipush (-12), 2) := by decide +kernel
theorem dX10_refusalOfBytes_30 : decode cX10_refusalOfBytes 30 = .ok (.ireturn, 1) := by decide +kernel
theorem dX10_refusalOfMeetings_0 : decode cX10_refusalOfMeetings 0 = .ok (.aload_n 0, 1) := by decide +kernel
theorem dX10_refusalOfMeetings_1 : decode cX10_refusalOfMeetings 1 = .ok (.iload_n 1, 1) := by decide +kernel
theorem dX10_refusalOfMeetings_2 : decode cX10_refusalOfMeetings 2 = .ok (.invokevirtual 46, 3) := by decide +kernel
theorem dX10_refusalOfMeetings_5 : decode cX10_refusalOfMeetings 5 = .ok (.istore_n 2, 1) := by decide +kernel
theorem dX10_refusalOfMeetings_6 : decode cX10_refusalOfMeetings 6 = .ok (.iload_n 2, 1) := by decide +kernel
theorem dX10_refusalOfMeetings_7 : decode cX10_refusalOfMeetings 7 = .ok (.ifCond .ge 5, 3) := by decide +kernel
theorem dX10_refusalOfMeetings_10 : decode cX10_refusalOfMeetings 10 = .ok (.iload_n 2, 1) := by decide +kernel
theorem dX10_refusalOfMeetings_11 : decode cX10_refusalOfMeetings 11 = .ok (.ireturn, 1) := by decide +kernel
theorem dX10_refusalOfMeetings_12 : decode cX10_refusalOfMeetings 12 = .ok (.aload_n 0, 1) := by decide +kernel
theorem dX10_refusalOfMeetings_13 : decode cX10_refusalOfMeetings 13 = .ok (.getfield 28, 3) := by decide +kernel
theorem dX10_refusalOfMeetings_16 : decode cX10_refusalOfMeetings 16 = .ok (.iload_n 1, 1) := by decide +kernel
theorem dX10_refusalOfMeetings_17 : decode cX10_refusalOfMeetings 17 = .ok (.aaload, 1) := by decide +kernel
theorem dX10_refusalOfMeetings_18 : decode cX10_refusalOfMeetings 18 = .ok (.astore_n 3, 1) := by decide +kernel
theorem dX10_refusalOfMeetings_19 : decode cX10_refusalOfMeetings 19 = .ok (.aload_n 3, 1) := by decide +kernel
theorem dX10_refusalOfMeetings_20 : decode cX10_refusalOfMeetings 20 = .ok (.getfield 58, 3) := by decide +kernel
theorem dX10_refusalOfMeetings_23 : decode cX10_refusalOfMeetings 23 = .ok (.iconst 2, 1) := by decide +kernel
theorem dX10_refusalOfMeetings_24 : decode cX10_refusalOfMeetings 24 = .ok (.irem, 1) := by decide +kernel
theorem dX10_refusalOfMeetings_25 : decode cX10_refusalOfMeetings 25 = .ok (.ifCond .ne 12, 3) := by decide +kernel
theorem dX10_refusalOfMeetings_28 : decode cX10_refusalOfMeetings 28 = .ok (.aload_n 3, 1) := by decide +kernel
theorem dX10_refusalOfMeetings_29 : decode cX10_refusalOfMeetings 29 = .ok (.getfield 58, 3) := by decide +kernel
theorem dX10_refusalOfMeetings_32 : decode cX10_refusalOfMeetings 32 = .ok (.bipush 24, 2) := by decide +kernel
theorem dX10_refusalOfMeetings_34 : decode cX10_refusalOfMeetings 34 = .ok (.if_icmp .le 6, 3) := by decide +kernel
theorem dX10_refusalOfMeetings_37 : decode cX10_refusalOfMeetings 37 = .ok (.bipush (-13), 2) := by decide +kernel
theorem dX10_refusalOfMeetings_39 : decode cX10_refusalOfMeetings 39 = .ok (.ireturn, 1) := by decide +kernel
theorem dX10_refusalOfMeetings_40 : decode cX10_refusalOfMeetings 40 = .ok (.iconst 0, 1) := by decide +kernel
theorem dX10_refusalOfMeetings_41 : decode cX10_refusalOfMeetings 41 = .ok (.istore 4, 2) := by decide +kernel
theorem dX10_refusalOfMeetings_43 : decode cX10_refusalOfMeetings 43 = .ok (.iload 4, 2) := by decide +kernel
theorem dX10_refusalOfMeetings_45 : decode cX10_refusalOfMeetings 45 = .ok (.aload_n 3, 1) := by decide +kernel
theorem dX10_refusalOfMeetings_46 : decode cX10_refusalOfMeetings 46 = .ok (.invokevirtual 135, 3) := by decide +kernel
theorem dX10_refusalOfMeetings_49 : decode cX10_refusalOfMeetings 49 = .ok (.if_icmp .ge 34, 3) := by decide +kernel
theorem dX10_refusalOfMeetings_52 : decode cX10_refusalOfMeetings 52 = .ok (.aload_n 0, 1) := by decide +kernel
theorem dX10_refusalOfMeetings_53 : decode cX10_refusalOfMeetings 53 = .ok (.getfield 10, 3) := by decide +kernel
theorem dX10_refusalOfMeetings_56 : decode cX10_refusalOfMeetings 56 = .ok (.aload_n 3, 1) := by decide +kernel
theorem dX10_refusalOfMeetings_57 : decode cX10_refusalOfMeetings 57 = .ok (.iload 4, 2) := by decide +kernel
theorem dX10_refusalOfMeetings_59 : decode cX10_refusalOfMeetings 59 = .ok (.invokevirtual 143, 3) := by decide +kernel
theorem dX10_refusalOfMeetings_62 : decode cX10_refusalOfMeetings 62 = .ok (.aload_n 3, 1) := by decide +kernel
theorem dX10_refusalOfMeetings_63 : decode cX10_refusalOfMeetings 63 = .ok (.iload 4, 2) := by decide +kernel
theorem dX10_refusalOfMeetings_65 : decode cX10_refusalOfMeetings 65 = .ok (.invokevirtual 146, 3) := by decide +kernel
theorem dX10_refusalOfMeetings_68 : decode cX10_refusalOfMeetings 68 = .ok (.invokevirtual 121, 3) := by decide +kernel
theorem dX10_refusalOfMeetings_71 : decode cX10_refusalOfMeetings 71 = .ok (.ifCond .ne 6, 3) := by decide +kernel
theorem dX10_refusalOfMeetings_74 : decode cX10_refusalOfMeetings 74 = .ok (.bipush (-13), 2) := by decide +kernel
theorem dX10_refusalOfMeetings_76 : decode cX10_refusalOfMeetings 76 = .ok (.ireturn, 1) := by decide +kernel
theorem dX10_refusalOfMeetings_77 : decode cX10_refusalOfMeetings 77 = .ok (.iinc 4 1, 3) := by decide +kernel
theorem dX10_refusalOfMeetings_80 : decode cX10_refusalOfMeetings 80 = .ok (.goto (-37), 3) := by decide +kernel
theorem dX10_refusalOfMeetings_83 : decode cX10_refusalOfMeetings 83 = .ok (.iconst 0, 1) := by decide +kernel
theorem dX10_refusalOfMeetings_84 : decode cX10_refusalOfMeetings 84 = .ok (.ireturn, 1) := by decide +kernel
theorem dX10_refusalOfManAndMeetings_0 : decode cX10_refusalOfManAndMeetings 0 = .ok (.aload_n 0, 1) := by decide +kernel
theorem dX10_refusalOfManAndMeetings_1 : decode cX10_refusalOfManAndMeetings 1 = .ok (.getfield 10, 3) := by decide +kernel
theorem dX10_refusalOfManAndMeetings_4 : decode cX10_refusalOfManAndMeetings 4 = .ok (.iload_n 1, 1) := by decide +kernel
theorem dX10_refusalOfManAndMeetings_5 : decode cX10_refusalOfManAndMeetings 5 = .ok (.invokevirtual 99, 3) := by decide +kernel
theorem dX10_refusalOfManAndMeetings_8 : decode cX10_refusalOfManAndMeetings 8 = .ok (.ifCond .eq 11, 3) := by decide +kernel
theorem dX10_refusalOfManAndMeetings_11 : decode cX10_refusalOfManAndMeetings 11 = .ok (.aload_n 0, 1) := by decide +kernel
theorem dX10_refusalOfManAndMeetings_12 : decode cX10_refusalOfManAndMeetings 12 = .ok (.iload_n 2, 1) := by decide +kernel
theorem dX10_refusalOfManAndMeetings_13 : decode cX10_refusalOfManAndMeetings 13 = .ok (.invokevirtual 214, 3) := by decide +kernel
theorem dX10_refusalOfManAndMeetings_16 : decode cX10_refusalOfManAndMeetings 16 = .ok (.goto 4, 3) := by decide +kernel
theorem dX10_refusalOfManAndMeetings_19 : decode cX10_refusalOfManAndMeetings 19 = .ok (.iconst (-1), 1) := by decide +kernel
theorem dX10_refusalOfManAndMeetings_20 : decode cX10_refusalOfManAndMeetings 20 = .ok (.ireturn, 1) := by decide +kernel
theorem dX10_tellsOfEachMan_0 : decode cX10_tellsOfEachMan 0 = .ok (.aload_n 1, 1) := by decide +kernel
theorem dX10_tellsOfEachMan_1 : decode cX10_tellsOfEachMan 1 = .ok (.getfield 58, 3) := by decide +kernel
theorem dX10_tellsOfEachMan_4 : decode cX10_tellsOfEachMan 4 = .ok (.aload_n 0, 1) := by decide +kernel
theorem dX10_tellsOfEachMan_5 : decode cX10_tellsOfEachMan 5 = .ok (.getfield 10, 3) := by decide +kernel
theorem dX10_tellsOfEachMan_8 : decode cX10_tellsOfEachMan 8 = .ok (.getfield 182, 3) := by decide +kernel
theorem dX10_tellsOfEachMan_11 : decode cX10_tellsOfEachMan 11 = .ok (.if_icmp .eq 5, 3) := by decide +kernel
theorem dX10_tellsOfEachMan_14 : decode cX10_tellsOfEachMan 14 = .ok (.iconst 0, 1) := by decide +kernel
theorem dX10_tellsOfEachMan_15 : decode cX10_tellsOfEachMan 15 = .ok (.ireturn, 1) := by decide +kernel
theorem dX10_tellsOfEachMan_16 : decode cX10_tellsOfEachMan 16 = .ok (.iconst 0, 1) := by decide +kernel
theorem dX10_tellsOfEachMan_17 : decode cX10_tellsOfEachMan 17 = .ok (.istore_n 2, 1) := by decide +kernel
theorem dX10_tellsOfEachMan_18 : decode cX10_tellsOfEachMan 18 = .ok (.iload_n 2, 1) := by decide +kernel
theorem dX10_tellsOfEachMan_19 : decode cX10_tellsOfEachMan 19 = .ok (.aload_n 1, 1) := by decide +kernel
theorem dX10_tellsOfEachMan_20 : decode cX10_tellsOfEachMan 20 = .ok (.getfield 58, 3) := by decide +kernel
theorem dX10_tellsOfEachMan_23 : decode cX10_tellsOfEachMan 23 = .ok (.if_icmp .ge 26, 3) := by decide +kernel
theorem dX10_tellsOfEachMan_26 : decode cX10_tellsOfEachMan 26 = .ok (.aload_n 0, 1) := by decide +kernel
theorem dX10_tellsOfEachMan_27 : decode cX10_tellsOfEachMan 27 = .ok (.getfield 10, 3) := by decide +kernel
theorem dX10_tellsOfEachMan_30 : decode cX10_tellsOfEachMan 30 = .ok (.aload_n 1, 1) := by decide +kernel
theorem dX10_tellsOfEachMan_31 : decode cX10_tellsOfEachMan 31 = .ok (.iload_n 2, 1) := by decide +kernel
theorem dX10_tellsOfEachMan_32 : decode cX10_tellsOfEachMan 32 = .ok (.invokevirtual 66, 3) := by decide +kernel
theorem dX10_tellsOfEachMan_35 : decode cX10_tellsOfEachMan 35 = .ok (.invokevirtual 72, 3) := by decide +kernel
theorem dX10_tellsOfEachMan_38 : decode cX10_tellsOfEachMan 38 = .ok (.ifCond .ne 5, 3) := by decide +kernel
theorem dX10_tellsOfEachMan_41 : decode cX10_tellsOfEachMan 41 = .ok (.iconst 0, 1) := by decide +kernel
theorem dX10_tellsOfEachMan_42 : decode cX10_tellsOfEachMan 42 = .ok (.ireturn, 1) := by decide +kernel
theorem dX10_tellsOfEachMan_43 : decode cX10_tellsOfEachMan 43 = .ok (.iinc 2 1, 3) := by decide +kernel
theorem dX10_tellsOfEachMan_46 : decode cX10_tellsOfEachMan 46 = .ok (.goto (-28), 3) := by decide +kernel
theorem dX10_tellsOfEachMan_49 : decode cX10_tellsOfEachMan 49 = .ok (.iconst 1, 1) := by decide +kernel
theorem dX10_tellsOfEachMan_50 : decode cX10_tellsOfEachMan 50 = .ok (.ireturn, 1) := by decide +kernel
theorem dX10_signsBehind_0 : decode cX10_signsBehind 0 = .ok (.iload_n 0, 1) := by decide +kernel
theorem dX10_signsBehind_1 : decode cX10_signsBehind 1 = .ok (.lookupswitch 39 #[(109, 37), (115, 35), (120, 35)], 35) := by decide +kernel
theorem dX10_signsBehind_36 : decode cX10_signsBehind 36 = .ok (.iconst 3, 1) := by decide +kernel
theorem dX10_signsBehind_37 : decode cX10_signsBehind 37 = .ok (.ireturn, 1) := by decide +kernel
theorem dX10_signsBehind_38 : decode cX10_signsBehind 38 = .ok (.iconst 4, 1) := by decide +kernel
theorem dX10_signsBehind_39 : decode cX10_signsBehind 39 = .ok (.ireturn, 1) := by decide +kernel
theorem dX10_signsBehind_40 : decode cX10_signsBehind 40 = .ok (.iconst 0, 1) := by decide +kernel
theorem dX10_signsBehind_41 : decode cX10_signsBehind 41 = .ok (.ireturn, 1) := by decide +kernel
theorem dX10_faultOfForm_0 : decode cX10_faultOfForm 0 = .ok (.iconst 0, 1) := by decide +kernel
theorem dX10_faultOfForm_1 : decode cX10_faultOfForm 1 = .ok (.istore_n 1, 1) := by decide +kernel
theorem dX10_faultOfForm_2 : decode cX10_faultOfForm 2 = .ok (.iconst 0, 1) := by decide +kernel
theorem dX10_faultOfForm_3 : decode cX10_faultOfForm 3 = .ok (.istore_n 2, 1) := by decide +kernel
theorem dX10_faultOfForm_4 : decode cX10_faultOfForm 4 = .ok (.iload_n 2, 1) := by decide +kernel
theorem dX10_faultOfForm_5 : decode cX10_faultOfForm 5 = .ok (.aload_n 0, 1) := by decide +kernel
theorem dX10_faultOfForm_6 : decode cX10_faultOfForm 6 = .ok (.getfield 58, 3) := by decide +kernel
theorem dX10_faultOfForm_9 : decode cX10_faultOfForm 9 = .ok (.if_icmp .ge 78, 3) := by decide +kernel
theorem dX10_faultOfForm_12 : decode cX10_faultOfForm 12 = .ok (.aload_n 0, 1) := by decide +kernel
theorem dX10_faultOfForm_13 : decode cX10_faultOfForm 13 = .ok (.iload_n 2, 1) := by decide +kernel
theorem dX10_faultOfForm_14 : decode cX10_faultOfForm 14 = .ok (.invokevirtual 66, 3) := by decide +kernel
theorem dX10_faultOfForm_17 : decode cX10_faultOfForm 17 = .ok (.istore_n 3, 1) := by decide +kernel
theorem dX10_faultOfForm_18 : decode cX10_faultOfForm 18 = .ok (.iload_n 1, 1) := by decide +kernel
theorem dX10_faultOfForm_19 : decode cX10_faultOfForm 19 = .ok (.ifCond .ne 14, 3) := by decide +kernel
theorem dX10_faultOfForm_22 : decode cX10_faultOfForm 22 = .ok (.iload_n 3, 1) := by decide +kernel
theorem dX10_faultOfForm_23 : decode cX10_faultOfForm 23 = .ok (.invokestatic 69, 3) := by decide +kernel
theorem dX10_faultOfForm_26 : decode cX10_faultOfForm 26 = .ok (.istore_n 1, 1) := by decide +kernel
theorem dX10_faultOfForm_27 : decode cX10_faultOfForm 27 = .ok (.iload_n 1, 1) := by decide +kernel
theorem dX10_faultOfForm_28 : decode cX10_faultOfForm 28 = .ok (.ifCond .ne 53, 3) := by decide +kernel
theorem dX10_faultOfForm_31 : decode cX10_faultOfForm 31 = .ok (.iload_n 2, 1) := by decide +kernel
theorem dX10_faultOfForm_32 : decode cX10_faultOfForm 32 = .ok (.ireturn, 1) := by decide +kernel
theorem dX10_faultOfForm_33 : decode cX10_faultOfForm 33 = .ok (.iload_n 1, 1) := by decide +kernel
theorem dX10_faultOfForm_34 : decode cX10_faultOfForm 34 = .ok (.iconst 1, 1) := by decide +kernel
theorem dX10_faultOfForm_35 : decode cX10_faultOfForm 35 = .ok (.if_icmp .ne 17, 3) := by decide +kernel
theorem dX10_faultOfForm_38 : decode cX10_faultOfForm 38 = .ok (.iload_n 3, 1) := by decide +kernel
theorem dX10_faultOfForm_39 : decode cX10_faultOfForm 39 = .ok (.bipush 59, 2) := by decide +kernel
theorem dX10_faultOfForm_41 : decode cX10_faultOfForm 41 = .ok (.if_icmp .ne 7, 3) := by decide +kernel
theorem dX10_faultOfForm_44 : decode cX10_faultOfForm 44 = .ok (.iconst 1, 1) := by decide +kernel
theorem dX10_faultOfForm_45 : decode cX10_faultOfForm 45 = .ok (.goto 24, 3) := by decide +kernel
theorem dX10_faultOfForm_48 : decode cX10_faultOfForm 48 = .ok (.iconst 0, 1) := by decide +kernel
theorem dX10_faultOfForm_49 : decode cX10_faultOfForm 49 = .ok (.goto 20, 3) := by decide +kernel
theorem dX10_faultOfForm_52 : decode cX10_faultOfForm 52 = .ok (.iload_n 3, 1) := by decide +kernel
theorem dX10_faultOfForm_53 : decode cX10_faultOfForm 53 = .ok (.bipush 48, 2) := by decide +kernel
theorem dX10_faultOfForm_55 : decode cX10_faultOfForm 55 = .ok (.if_icmp .lt 13, 3) := by decide +kernel
theorem dX10_faultOfForm_58 : decode cX10_faultOfForm 58 = .ok (.iload_n 3, 1) := by decide +kernel
theorem dX10_faultOfForm_59 : decode cX10_faultOfForm 59 = .ok (.bipush 57, 2) := by decide +kernel
theorem dX10_faultOfForm_61 : decode cX10_faultOfForm 61 = .ok (.if_icmp .gt 7, 3) := by decide +kernel
theorem dX10_faultOfForm_64 : decode cX10_faultOfForm 64 = .ok (.iconst 1, 1) := by decide +kernel
theorem dX10_faultOfForm_65 : decode cX10_faultOfForm 65 = .ok (.goto 4, 3) := by decide +kernel
theorem dX10_faultOfForm_68 : decode cX10_faultOfForm 68 = .ok (.iconst 0, 1) := by decide +kernel
theorem dX10_faultOfForm_69 : decode cX10_faultOfForm 69 = .ok (.istore 4, 2) := by decide +kernel
theorem dX10_faultOfForm_71 : decode cX10_faultOfForm 71 = .ok (.iload 4, 2) := by decide +kernel
theorem dX10_faultOfForm_73 : decode cX10_faultOfForm 73 = .ok (.ifCond .ne 5, 3) := by decide +kernel
theorem dX10_faultOfForm_76 : decode cX10_faultOfForm 76 = .ok (.iload_n 2, 1) := by decide +kernel
theorem dX10_faultOfForm_77 : decode cX10_faultOfForm 77 = .ok (.ireturn, 1) := by decide +kernel
theorem dX10_faultOfForm_78 : decode cX10_faultOfForm 78 = .ok (.iinc 1 (-1), 3) := by decide +kernel
theorem dX10_faultOfForm_81 : decode cX10_faultOfForm 81 = .ok (.iinc 2 1, 3) := by decide +kernel
theorem dX10_faultOfForm_84 : decode cX10_faultOfForm 84 = .ok (.goto (-80), 3) := by decide +kernel
theorem dX10_faultOfForm_87 : decode cX10_faultOfForm 87 = .ok (.iload_n 1, 1) := by decide +kernel
theorem dX10_faultOfForm_88 : decode cX10_faultOfForm 88 = .ok (.ifCond .ne 15, 3) := by decide +kernel
theorem dX10_faultOfForm_91 : decode cX10_faultOfForm 91 = .ok (.aload_n 0, 1) := by decide +kernel
theorem dX10_faultOfForm_92 : decode cX10_faultOfForm 92 = .ok (.getfield 58, 3) := by decide +kernel
theorem dX10_faultOfForm_95 : decode cX10_faultOfForm 95 = .ok (.ifCond .le 8, 3) := by decide +kernel
theorem dX10_faultOfForm_98 : decode cX10_faultOfForm 98 = .ok (.bipush (-4), 2) := by decide +kernel
theorem dX10_faultOfForm_100 : decode cX10_faultOfForm 100 = .ok (.goto 7, 3) := by decide +kernel
theorem dX10_faultOfForm_103 : decode cX10_faultOfForm 103 = .ok (.aload_n 0, 1) := by decide +kernel
theorem dX10_faultOfForm_104 : decode cX10_faultOfForm 104 = .ok (.getfield 58, 3) := by decide +kernel
theorem dX10_faultOfForm_107 : decode cX10_faultOfForm 107 = .ok (.ireturn, 1) := by decide +kernel
theorem dX10_digit_0 : decode cX10_digit 0 = .ok (.aload_n 0, 1) := by decide +kernel
theorem dX10_digit_1 : decode cX10_digit 1 = .ok (.iload_n 1, 1) := by decide +kernel
theorem dX10_digit_2 : decode cX10_digit 2 = .ok (.invokevirtual 66, 3) := by decide +kernel
theorem dX10_digit_5 : decode cX10_digit 5 = .ok (.bipush 48, 2) := by decide +kernel
theorem dX10_digit_7 : decode cX10_digit 7 = .ok (.isub, 1) := by decide +kernel
theorem dX10_digit_8 : decode cX10_digit 8 = .ok (.ireturn, 1) := by decide +kernel
theorem dX10_isCarriedOut_0 : decode cX10_isCarriedOut 0 = .ok (.aload_n 1, 1) := by decide +kernel
theorem dX10_isCarriedOut_1 : decode cX10_isCarriedOut 1 = .ok (.iload_n 2, 1) := by decide +kernel
theorem dX10_isCarriedOut_2 : decode cX10_isCarriedOut 2 = .ok (.iconst 1, 1) := by decide +kernel
theorem dX10_isCarriedOut_3 : decode cX10_isCarriedOut 3 = .ok (.iadd, 1) := by decide +kernel
theorem dX10_isCarriedOut_4 : decode cX10_isCarriedOut 4 = .ok (.invokestatic 299, 3) := by decide +kernel
theorem dX10_isCarriedOut_7 : decode cX10_isCarriedOut 7 = .ok (.istore_n 3, 1) := by decide +kernel
theorem dX10_isCarriedOut_8 : decode cX10_isCarriedOut 8 = .ok (.aload_n 1, 1) := by decide +kernel
theorem dX10_isCarriedOut_9 : decode cX10_isCarriedOut 9 = .ok (.iload_n 2, 1) := by decide +kernel
theorem dX10_isCarriedOut_10 : decode cX10_isCarriedOut 10 = .ok (.iconst 2, 1) := by decide +kernel
theorem dX10_isCarriedOut_11 : decode cX10_isCarriedOut 11 = .ok (.iadd, 1) := by decide +kernel
theorem dX10_isCarriedOut_12 : decode cX10_isCarriedOut 12 = .ok (.invokestatic 299, 3) := by decide +kernel
theorem dX10_isCarriedOut_15 : decode cX10_isCarriedOut 15 = .ok (.istore 4, 2) := by decide +kernel
theorem dX10_isCarriedOut_17 : decode cX10_isCarriedOut 17 = .ok (.aload_n 1, 1) := by decide +kernel
theorem dX10_isCarriedOut_18 : decode cX10_isCarriedOut 18 = .ok (.iload_n 2, 1) := by decide +kernel
theorem dX10_isCarriedOut_19 : decode cX10_isCarriedOut 19 = .ok (.invokevirtual 66, 3) := by decide +kernel
theorem dX10_isCarriedOut_22 : decode cX10_isCarriedOut 22 = .ok (.lookupswitch 85 #[(109, 62), (115, 34), (120, 77)], 34) := by decide +kernel
theorem dX10_isCarriedOut_56 : decode cX10_isCarriedOut 56 = .ok (.iload_n 3, 1) := by decide +kernel
theorem dX10_isCarriedOut_57 : decode cX10_isCarriedOut 57 = .ok (.iload 4, 2) := by decide +kernel
theorem dX10_isCarriedOut_59 : decode cX10_isCarriedOut 59 = .ok (.invokestatic 200, 3) := by decide +kernel
theorem dX10_isCarriedOut_62 : decode cX10_isCarriedOut 62 = .ok (.ifCond .eq 20, 3) := by decide +kernel
theorem dX10_isCarriedOut_65 : decode cX10_isCarriedOut 65 = .ok (.aload_n 0, 1) := by decide +kernel
theorem dX10_isCarriedOut_66 : decode cX10_isCarriedOut 66 = .ok (.iload_n 3, 1) := by decide +kernel
theorem dX10_isCarriedOut_67 : decode cX10_isCarriedOut 67 = .ok (.iload 4, 2) := by decide +kernel
theorem dX10_isCarriedOut_69 : decode cX10_isCarriedOut 69 = .ok (.invokestatic 203, 3) := by decide +kernel
theorem dX10_isCarriedOut_72 : decode cX10_isCarriedOut 72 = .ok (.invokevirtual 303, 3) := by decide +kernel
theorem dX10_isCarriedOut_75 : decode cX10_isCarriedOut 75 = .ok (.ifCond .eq 7, 3) := by decide +kernel
theorem dX10_isCarriedOut_78 : decode cX10_isCarriedOut 78 = .ok (.iconst 1, 1) := by decide +kernel
theorem dX10_isCarriedOut_79 : decode cX10_isCarriedOut 79 = .ok (.goto 4, 3) := by decide +kernel
theorem dX10_isCarriedOut_82 : decode cX10_isCarriedOut 82 = .ok (.iconst 0, 1) := by decide +kernel
theorem dX10_isCarriedOut_83 : decode cX10_isCarriedOut 83 = .ok (.ireturn, 1) := by decide +kernel
theorem dX10_isCarriedOut_84 : decode cX10_isCarriedOut 84 = .ok (.aload_n 0, 1) := by decide +kernel
theorem dX10_isCarriedOut_85 : decode cX10_isCarriedOut 85 = .ok (.iload_n 3, 1) := by decide +kernel
theorem dX10_isCarriedOut_86 : decode cX10_isCarriedOut 86 = .ok (.iload 4, 2) := by decide +kernel
theorem dX10_isCarriedOut_88 : decode cX10_isCarriedOut 88 = .ok (.aload_n 1, 1) := by decide +kernel
theorem dX10_isCarriedOut_89 : decode cX10_isCarriedOut 89 = .ok (.iload_n 2, 1) := by decide +kernel
theorem dX10_isCarriedOut_90 : decode cX10_isCarriedOut 90 = .ok (.iconst 3, 1) := by decide +kernel
theorem dX10_isCarriedOut_91 : decode cX10_isCarriedOut 91 = .ok (.iadd, 1) := by decide +kernel
theorem dX10_isCarriedOut_92 : decode cX10_isCarriedOut 92 = .ok (.invokestatic 299, 3) := by decide +kernel
theorem dX10_isCarriedOut_95 : decode cX10_isCarriedOut 95 = .ok (.invokevirtual 307, 3) := by decide +kernel
theorem dX10_isCarriedOut_98 : decode cX10_isCarriedOut 98 = .ok (.ireturn, 1) := by decide +kernel
theorem dX10_isCarriedOut_99 : decode cX10_isCarriedOut 99 = .ok (.aload_n 0, 1) := by decide +kernel
theorem dX10_isCarriedOut_100 : decode cX10_isCarriedOut 100 = .ok (.iload_n 3, 1) := by decide +kernel
theorem dX10_isCarriedOut_101 : decode cX10_isCarriedOut 101 = .ok (.iload 4, 2) := by decide +kernel
theorem dX10_isCarriedOut_103 : decode cX10_isCarriedOut 103 = .ok (.invokevirtual 128, 3) := by decide +kernel
theorem dX10_isCarriedOut_106 : decode cX10_isCarriedOut 106 = .ok (.ireturn, 1) := by decide +kernel
theorem dX10_isCarriedOut_107 : decode cX10_isCarriedOut 107 = .ok (.iconst 0, 1) := by decide +kernel
theorem dX10_isCarriedOut_108 : decode cX10_isCarriedOut 108 = .ok (.ireturn, 1) := by decide +kernel
theorem dX10_has_0 : decode cX10_has 0 = .ok (.iload_n 0, 1) := by decide +kernel
theorem dX10_has_1 : decode cX10_has 1 = .ok (.iconst 1, 1) := by decide +kernel
theorem dX10_has_2 : decode cX10_has 2 = .ok (.iload_n 1, 1) := by decide +kernel
theorem dX10_has_3 : decode cX10_has 3 = .ok (.ishl, 1) := by decide +kernel
theorem dX10_has_4 : decode cX10_has 4 = .ok (.iand, 1) := by decide +kernel
theorem dX10_has_5 : decode cX10_has 5 = .ok (.ifCond .eq 7, 3) := by decide +kernel
theorem dX10_has_8 : decode cX10_has 8 = .ok (.iconst 1, 1) := by decide +kernel
theorem dX10_has_9 : decode cX10_has 9 = .ok (.goto 4, 3) := by decide +kernel
theorem dX10_has_12 : decode cX10_has 12 = .ok (.iconst 0, 1) := by decide +kernel
theorem dX10_has_13 : decode cX10_has 13 = .ok (.ireturn, 1) := by decide +kernel
theorem dX10_nameOfMeeting_0 : decode cX10_nameOfMeeting 0 = .ok (.bipush 10, 2) := by decide +kernel
theorem dX10_nameOfMeeting_2 : decode cX10_nameOfMeeting 2 = .ok (.iload_n 0, 1) := by decide +kernel
theorem dX10_nameOfMeeting_3 : decode cX10_nameOfMeeting 3 = .ok (.iload_n 1, 1) := by decide +kernel
theorem dX10_nameOfMeeting_4 : decode cX10_nameOfMeeting 4 = .ok (.invokestatic 311, 3) := by decide +kernel
theorem dX10_nameOfMeeting_7 : decode cX10_nameOfMeeting 7 = .ok (.imul, 1) := by decide +kernel
theorem dX10_nameOfMeeting_8 : decode cX10_nameOfMeeting 8 = .ok (.iload_n 0, 1) := by decide +kernel
theorem dX10_nameOfMeeting_9 : decode cX10_nameOfMeeting 9 = .ok (.iload_n 1, 1) := by decide +kernel
theorem dX10_nameOfMeeting_10 : decode cX10_nameOfMeeting 10 = .ok (.invokestatic 316, 3) := by decide +kernel
theorem dX10_nameOfMeeting_13 : decode cX10_nameOfMeeting 13 = .ok (.iadd, 1) := by decide +kernel
theorem dX10_nameOfMeeting_14 : decode cX10_nameOfMeeting 14 = .ok (.ireturn, 1) := by decide +kernel
theorem dX10_choicesBehind_0 : decode cX10_choicesBehind 0 = .ok (.aload_n 0, 1) := by decide +kernel
theorem dX10_choicesBehind_1 : decode cX10_choicesBehind 1 = .ok (.getfield 10, 3) := by decide +kernel
theorem dX10_choicesBehind_4 : decode cX10_choicesBehind 4 = .ok (.iload_n 2, 1) := by decide +kernel
theorem dX10_choicesBehind_5 : decode cX10_choicesBehind 5 = .ok (.iload_n 3, 1) := by decide +kernel
theorem dX10_choicesBehind_6 : decode cX10_choicesBehind 6 = .ok (.invokevirtual 125, 3) := by decide +kernel
theorem dX10_choicesBehind_9 : decode cX10_choicesBehind 9 = .ok (.ifCond .ne 5, 3) := by decide +kernel
theorem dX10_choicesBehind_12 : decode cX10_choicesBehind 12 = .ok (.iload_n 1, 1) := by decide +kernel
theorem dX10_choicesBehind_13 : decode cX10_choicesBehind 13 = .ok (.ireturn, 1) := by decide +kernel
theorem dX10_choicesBehind_14 : decode cX10_choicesBehind 14 = .ok (.iload_n 1, 1) := by decide +kernel
theorem dX10_choicesBehind_15 : decode cX10_choicesBehind 15 = .ok (.iconst 1, 1) := by decide +kernel
theorem dX10_choicesBehind_16 : decode cX10_choicesBehind 16 = .ok (.iload_n 2, 1) := by decide +kernel
theorem dX10_choicesBehind_17 : decode cX10_choicesBehind 17 = .ok (.ishl, 1) := by decide +kernel
theorem dX10_choicesBehind_18 : decode cX10_choicesBehind 18 = .ok (.iconst (-1), 1) := by decide +kernel
theorem dX10_choicesBehind_19 : decode cX10_choicesBehind 19 = .ok (.ixor, 1) := by decide +kernel
theorem dX10_choicesBehind_20 : decode cX10_choicesBehind 20 = .ok (.iand, 1) := by decide +kernel
theorem dX10_choicesBehind_21 : decode cX10_choicesBehind 21 = .ok (.iconst 1, 1) := by decide +kernel
theorem dX10_choicesBehind_22 : decode cX10_choicesBehind 22 = .ok (.iload_n 3, 1) := by decide +kernel
theorem dX10_choicesBehind_23 : decode cX10_choicesBehind 23 = .ok (.ishl, 1) := by decide +kernel
theorem dX10_choicesBehind_24 : decode cX10_choicesBehind 24 = .ok (.iconst (-1), 1) := by decide +kernel
theorem dX10_choicesBehind_25 : decode cX10_choicesBehind 25 = .ok (.ixor, 1) := by decide +kernel
theorem dX10_choicesBehind_26 : decode cX10_choicesBehind 26 = .ok (.iand, 1) := by decide +kernel
theorem dX10_choicesBehind_27 : decode cX10_choicesBehind 27 = .ok (.istore 4, 2) := by decide +kernel
theorem dX10_choicesBehind_29 : decode cX10_choicesBehind 29 = .ok (.iload_n 1, 1) := by decide +kernel
theorem dX10_choicesBehind_30 : decode cX10_choicesBehind 30 = .ok (.iload_n 2, 1) := by decide +kernel
theorem dX10_choicesBehind_31 : decode cX10_choicesBehind 31 = .ok (.invokestatic 153, 3) := by decide +kernel
theorem dX10_choicesBehind_34 : decode cX10_choicesBehind 34 = .ok (.ifCond .eq 30, 3) := by decide +kernel
theorem dX10_choicesBehind_37 : decode cX10_choicesBehind 37 = .ok (.iload 4, 2) := by decide +kernel
theorem dX10_choicesBehind_39 : decode cX10_choicesBehind 39 = .ok (.iconst 1, 1) := by decide +kernel
theorem dX10_choicesBehind_40 : decode cX10_choicesBehind 40 = .ok (.iload_n 3, 1) := by decide +kernel
theorem dX10_choicesBehind_41 : decode cX10_choicesBehind 41 = .ok (.ishl, 1) := by decide +kernel
theorem dX10_choicesBehind_42 : decode cX10_choicesBehind 42 = .ok (.aload_n 0, 1) := by decide +kernel
theorem dX10_choicesBehind_43 : decode cX10_choicesBehind 43 = .ok (.getfield 10, 3) := by decide +kernel
theorem dX10_choicesBehind_46 : decode cX10_choicesBehind 46 = .ok (.iload_n 2, 1) := by decide +kernel
theorem dX10_choicesBehind_47 : decode cX10_choicesBehind 47 = .ok (.invokevirtual 319, 3) := by decide +kernel
theorem dX10_choicesBehind_50 : decode cX10_choicesBehind 50 = .ok (.ifCond .eq 7, 3) := by decide +kernel
theorem dX10_choicesBehind_53 : decode cX10_choicesBehind 53 = .ok (.iconst 0, 1) := by decide +kernel
theorem dX10_choicesBehind_54 : decode cX10_choicesBehind 54 = .ok (.goto 6, 3) := by decide +kernel
theorem dX10_choicesBehind_57 : decode cX10_choicesBehind 57 = .ok (.iconst 1, 1) := by decide +kernel
theorem dX10_choicesBehind_58 : decode cX10_choicesBehind 58 = .ok (.iload_n 2, 1) := by decide +kernel
theorem dX10_choicesBehind_59 : decode cX10_choicesBehind 59 = .ok (.ishl, 1) := by decide +kernel
theorem dX10_choicesBehind_60 : decode cX10_choicesBehind 60 = .ok (.ior, 1) := by decide +kernel
theorem dX10_choicesBehind_61 : decode cX10_choicesBehind 61 = .ok (.ior, 1) := by decide +kernel
theorem dX10_choicesBehind_62 : decode cX10_choicesBehind 62 = .ok (.istore 4, 2) := by decide +kernel
theorem dX10_choicesBehind_64 : decode cX10_choicesBehind 64 = .ok (.iload_n 1, 1) := by decide +kernel
theorem dX10_choicesBehind_65 : decode cX10_choicesBehind 65 = .ok (.iload_n 3, 1) := by decide +kernel
theorem dX10_choicesBehind_66 : decode cX10_choicesBehind 66 = .ok (.invokestatic 153, 3) := by decide +kernel
theorem dX10_choicesBehind_69 : decode cX10_choicesBehind 69 = .ok (.ifCond .eq 30, 3) := by decide +kernel
theorem dX10_choicesBehind_72 : decode cX10_choicesBehind 72 = .ok (.iload 4, 2) := by decide +kernel
theorem dX10_choicesBehind_74 : decode cX10_choicesBehind 74 = .ok (.iconst 1, 1) := by decide +kernel
theorem dX10_choicesBehind_75 : decode cX10_choicesBehind 75 = .ok (.iload_n 2, 1) := by decide +kernel
theorem dX10_choicesBehind_76 : decode cX10_choicesBehind 76 = .ok (.ishl, 1) := by decide +kernel
theorem dX10_choicesBehind_77 : decode cX10_choicesBehind 77 = .ok (.aload_n 0, 1) := by decide +kernel
theorem dX10_choicesBehind_78 : decode cX10_choicesBehind 78 = .ok (.getfield 10, 3) := by decide +kernel
theorem dX10_choicesBehind_81 : decode cX10_choicesBehind 81 = .ok (.iload_n 3, 1) := by decide +kernel
theorem dX10_choicesBehind_82 : decode cX10_choicesBehind 82 = .ok (.invokevirtual 319, 3) := by decide +kernel
theorem dX10_choicesBehind_85 : decode cX10_choicesBehind 85 = .ok (.ifCond .eq 7, 3) := by decide +kernel
theorem dX10_choicesBehind_88 : decode cX10_choicesBehind 88 = .ok (.iconst 0, 1) := by decide +kernel
theorem dX10_choicesBehind_89 : decode cX10_choicesBehind 89 = .ok (.goto 6, 3) := by decide +kernel
theorem dX10_choicesBehind_92 : decode cX10_choicesBehind 92 = .ok (.iconst 1, 1) := by decide +kernel
theorem dX10_choicesBehind_93 : decode cX10_choicesBehind 93 = .ok (.iload_n 3, 1) := by decide +kernel
theorem dX10_choicesBehind_94 : decode cX10_choicesBehind 94 = .ok (.ishl, 1) := by decide +kernel
theorem dX10_choicesBehind_95 : decode cX10_choicesBehind 95 = .ok (.ior, 1) := by decide +kernel
theorem dX10_choicesBehind_96 : decode cX10_choicesBehind 96 = .ok (.ior, 1) := by decide +kernel
theorem dX10_choicesBehind_97 : decode cX10_choicesBehind 97 = .ok (.istore 4, 2) := by decide +kernel
theorem dX10_choicesBehind_99 : decode cX10_choicesBehind 99 = .ok (.iload 4, 2) := by decide +kernel
theorem dX10_choicesBehind_101 : decode cX10_choicesBehind 101 = .ok (.ireturn, 1) := by decide +kernel
theorem dX10_fillChances_0 : decode cX10_fillChances 0 = .ok (.iconst 0, 1) := by decide +kernel
theorem dX10_fillChances_1 : decode cX10_fillChances 1 = .ok (.istore_n 3, 1) := by decide +kernel
theorem dX10_fillChances_2 : decode cX10_fillChances 2 = .ok (.iload_n 3, 1) := by decide +kernel
theorem dX10_fillChances_3 : decode cX10_fillChances 3 = .ok (.iconst 5, 1) := by decide +kernel
theorem dX10_fillChances_4 : decode cX10_fillChances 4 = .ok (.if_icmp .ge 33, 3) := by decide +kernel
theorem dX10_fillChances_7 : decode cX10_fillChances 7 = .ok (.aload_n 0, 1) := by decide +kernel
theorem dX10_fillChances_8 : decode cX10_fillChances 8 = .ok (.getfield 42, 3) := by decide +kernel
theorem dX10_fillChances_11 : decode cX10_fillChances 11 = .ok (.iload_n 3, 1) := by decide +kernel
theorem dX10_fillChances_12 : decode cX10_fillChances 12 = .ok (.iload_n 3, 1) := by decide +kernel
theorem dX10_fillChances_13 : decode cX10_fillChances 13 = .ok (.aload_n 0, 1) := by decide +kernel
theorem dX10_fillChances_14 : decode cX10_fillChances 14 = .ok (.getfield 10, 3) := by decide +kernel
theorem dX10_fillChances_17 : decode cX10_fillChances 17 = .ok (.getfield 102, 3) := by decide +kernel
theorem dX10_fillChances_20 : decode cX10_fillChances 20 = .ok (.iload_n 1, 1) := by decide +kernel
theorem dX10_fillChances_21 : decode cX10_fillChances 21 = .ok (.iaload, 1) := by decide +kernel
theorem dX10_fillChances_22 : decode cX10_fillChances 22 = .ok (.if_icmp .ne 7, 3) := by decide +kernel
theorem dX10_fillChances_25 : decode cX10_fillChances 25 = .ok (.lconst 1, 1) := by decide +kernel
theorem dX10_fillChances_26 : decode cX10_fillChances 26 = .ok (.goto 4, 3) := by decide +kernel
theorem dX10_fillChances_29 : decode cX10_fillChances 29 = .ok (.lconst 0, 1) := by decide +kernel
theorem dX10_fillChances_30 : decode cX10_fillChances 30 = .ok (.lastore, 1) := by decide +kernel
theorem dX10_fillChances_31 : decode cX10_fillChances 31 = .ok (.iinc 3 1, 3) := by decide +kernel
theorem dX10_fillChances_34 : decode cX10_fillChances 34 = .ok (.goto (-32), 3) := by decide +kernel
theorem dX10_fillChances_37 : decode cX10_fillChances 37 = .ok (.lconst 1, 1) := by decide +kernel
theorem dX10_fillChances_38 : decode cX10_fillChances 38 = .ok (.lstore_n 3, 1) := by decide +kernel
theorem dX10_fillChances_39 : decode cX10_fillChances 39 = .ok (.iconst 0, 1) := by decide +kernel
theorem dX10_fillChances_40 : decode cX10_fillChances 40 = .ok (.istore 5, 2) := by decide +kernel
theorem dX10_fillChances_42 : decode cX10_fillChances 42 = .ok (.iload 5, 2) := by decide +kernel
theorem dX10_fillChances_44 : decode cX10_fillChances 44 = .ok (.aload_n 2, 1) := by decide +kernel
theorem dX10_fillChances_45 : decode cX10_fillChances 45 = .ok (.invokevirtual 135, 3) := by decide +kernel
theorem dX10_fillChances_48 : decode cX10_fillChances 48 = .ok (.if_icmp .ge 57, 3) := by decide +kernel
theorem dX10_fillChances_51 : decode cX10_fillChances 51 = .ok (.iload 5, 2) := by decide +kernel
theorem dX10_fillChances_53 : decode cX10_fillChances 53 = .ok (.bipush 8, 2) := by decide +kernel
theorem dX10_fillChances_55 : decode cX10_fillChances 55 = .ok (.if_icmp .ge 50, 3) := by decide +kernel
theorem dX10_fillChances_58 : decode cX10_fillChances 58 = .ok (.aload_n 0, 1) := by decide +kernel
theorem dX10_fillChances_59 : decode cX10_fillChances 59 = .ok (.getfield 10, 3) := by decide +kernel
theorem dX10_fillChances_62 : decode cX10_fillChances 62 = .ok (.aload_n 2, 1) := by decide +kernel
theorem dX10_fillChances_63 : decode cX10_fillChances 63 = .ok (.iload 5, 2) := by decide +kernel
theorem dX10_fillChances_65 : decode cX10_fillChances 65 = .ok (.invokevirtual 143, 3) := by decide +kernel
theorem dX10_fillChances_68 : decode cX10_fillChances 68 = .ok (.aload_n 2, 1) := by decide +kernel
theorem dX10_fillChances_69 : decode cX10_fillChances 69 = .ok (.iload 5, 2) := by decide +kernel
theorem dX10_fillChances_71 : decode cX10_fillChances 71 = .ok (.invokevirtual 146, 3) := by decide +kernel
theorem dX10_fillChances_74 : decode cX10_fillChances 74 = .ok (.invokevirtual 125, 3) := by decide +kernel
theorem dX10_fillChances_77 : decode cX10_fillChances 77 = .ok (.ifCond .eq 22, 3) := by decide +kernel
theorem dX10_fillChances_80 : decode cX10_fillChances 80 = .ok (.lload_n 3, 1) := by decide +kernel
theorem dX10_fillChances_81 : decode cX10_fillChances 81 = .ok (.aload_n 0, 1) := by decide +kernel
theorem dX10_fillChances_82 : decode cX10_fillChances 82 = .ok (.aload_n 2, 1) := by decide +kernel
theorem dX10_fillChances_83 : decode cX10_fillChances 83 = .ok (.iload 5, 2) := by decide +kernel
theorem dX10_fillChances_85 : decode cX10_fillChances 85 = .ok (.invokevirtual 143, 3) := by decide +kernel
theorem dX10_fillChances_88 : decode cX10_fillChances 88 = .ok (.aload_n 2, 1) := by decide +kernel
theorem dX10_fillChances_89 : decode cX10_fillChances 89 = .ok (.iload 5, 2) := by decide +kernel
theorem dX10_fillChances_91 : decode cX10_fillChances 91 = .ok (.invokevirtual 146, 3) := by decide +kernel
theorem dX10_fillChances_94 : decode cX10_fillChances 94 = .ok (.invokevirtual 322, 3) := by decide +kernel
theorem dX10_fillChances_97 : decode cX10_fillChances 97 = .ok (.lmul, 1) := by decide +kernel
theorem dX10_fillChances_98 : decode cX10_fillChances 98 = .ok (.lstore_n 3, 1) := by decide +kernel
theorem dX10_fillChances_99 : decode cX10_fillChances 99 = .ok (.iinc 5 1, 3) := by decide +kernel
theorem dX10_fillChances_102 : decode cX10_fillChances 102 = .ok (.goto (-60), 3) := by decide +kernel
theorem dX10_fillChances_105 : decode cX10_fillChances 105 = .ok (.lload_n 3, 1) := by decide +kernel
theorem dX10_fillChances_106 : decode cX10_fillChances 106 = .ok (.lreturn, 1) := by decide +kernel
theorem dX10_spreadChances_0 : decode cX10_spreadChances 0 = .ok (.aload_n 0, 1) := by decide +kernel
theorem dX10_spreadChances_1 : decode cX10_spreadChances 1 = .ok (.getfield 10, 3) := by decide +kernel
theorem dX10_spreadChances_4 : decode cX10_spreadChances 4 = .ok (.getfield 88, 3) := by decide +kernel
theorem dX10_spreadChances_7 : decode cX10_spreadChances 7 = .ok (.iload_n 1, 1) := by decide +kernel
theorem dX10_spreadChances_8 : decode cX10_spreadChances 8 = .ok (.iaload, 1) := by decide +kernel
theorem dX10_spreadChances_9 : decode cX10_spreadChances 9 = .ok (.invokestatic 91, 3) := by decide +kernel
theorem dX10_spreadChances_12 : decode cX10_spreadChances 12 = .ok (.i2l, 1) := by decide +kernel
theorem dX10_spreadChances_13 : decode cX10_spreadChances 13 = .ok (.lstore_n 3, 1) := by decide +kernel
theorem dX10_spreadChances_14 : decode cX10_spreadChances 14 = .ok (.aload_n 0, 1) := by decide +kernel
theorem dX10_spreadChances_15 : decode cX10_spreadChances 15 = .ok (.getfield 10, 3) := by decide +kernel
theorem dX10_spreadChances_18 : decode cX10_spreadChances 18 = .ok (.getfield 88, 3) := by decide +kernel
theorem dX10_spreadChances_21 : decode cX10_spreadChances 21 = .ok (.iload_n 2, 1) := by decide +kernel
theorem dX10_spreadChances_22 : decode cX10_spreadChances 22 = .ok (.iaload, 1) := by decide +kernel
theorem dX10_spreadChances_23 : decode cX10_spreadChances 23 = .ok (.invokestatic 91, 3) := by decide +kernel
theorem dX10_spreadChances_26 : decode cX10_spreadChances 26 = .ok (.i2l, 1) := by decide +kernel
theorem dX10_spreadChances_27 : decode cX10_spreadChances 27 = .ok (.lstore 5, 2) := by decide +kernel
theorem dX10_spreadChances_29 : decode cX10_spreadChances 29 = .ok (.lload_n 3, 1) := by decide +kernel
theorem dX10_spreadChances_30 : decode cX10_spreadChances 30 = .ok (.lload 5, 2) := by decide +kernel
theorem dX10_spreadChances_32 : decode cX10_spreadChances 32 = .ok (.lmul, 1) := by decide +kernel
theorem dX10_spreadChances_33 : decode cX10_spreadChances 33 = .ok (.lstore 7, 2) := by decide +kernel
theorem dX10_spreadChances_35 : decode cX10_spreadChances 35 = .ok (.aload_n 0, 1) := by decide +kernel
theorem dX10_spreadChances_36 : decode cX10_spreadChances 36 = .ok (.getfield 42, 3) := by decide +kernel
theorem dX10_spreadChances_39 : decode cX10_spreadChances 39 = .ok (.iload_n 1, 1) := by decide +kernel
theorem dX10_spreadChances_40 : decode cX10_spreadChances 40 = .ok (.laload, 1) := by decide +kernel
theorem dX10_spreadChances_41 : decode cX10_spreadChances 41 = .ok (.lstore 9, 2) := by decide +kernel
theorem dX10_spreadChances_43 : decode cX10_spreadChances 43 = .ok (.aload_n 0, 1) := by decide +kernel
theorem dX10_spreadChances_44 : decode cX10_spreadChances 44 = .ok (.getfield 42, 3) := by decide +kernel
theorem dX10_spreadChances_47 : decode cX10_spreadChances 47 = .ok (.iload_n 2, 1) := by decide +kernel
theorem dX10_spreadChances_48 : decode cX10_spreadChances 48 = .ok (.laload, 1) := by decide +kernel
theorem dX10_spreadChances_49 : decode cX10_spreadChances 49 = .ok (.lstore 11, 2) := by decide +kernel
theorem dX10_spreadChances_51 : decode cX10_spreadChances 51 = .ok (.iconst 0, 1) := by decide +kernel
theorem dX10_spreadChances_52 : decode cX10_spreadChances 52 = .ok (.istore 13, 2) := by decide +kernel
theorem dX10_spreadChances_54 : decode cX10_spreadChances 54 = .ok (.iload 13, 2) := by decide +kernel
theorem dX10_spreadChances_56 : decode cX10_spreadChances 56 = .ok (.iconst 5, 1) := by decide +kernel
theorem dX10_spreadChances_57 : decode cX10_spreadChances 57 = .ok (.if_icmp .ge 21, 3) := by decide +kernel
theorem dX10_spreadChances_60 : decode cX10_spreadChances 60 = .ok (.aload_n 0, 1) := by decide +kernel
theorem dX10_spreadChances_61 : decode cX10_spreadChances 61 = .ok (.getfield 42, 3) := by decide +kernel
theorem dX10_spreadChances_64 : decode cX10_spreadChances 64 = .ok (.iload 13, 2) := by decide +kernel
theorem dX10_spreadChances_66 : decode cX10_spreadChances 66 = .ok (.dup2, 1) := by decide +kernel
theorem dX10_spreadChances_67 : decode cX10_spreadChances 67 = .ok (.laload, 1) := by decide +kernel
theorem dX10_spreadChances_68 : decode cX10_spreadChances 68 = .ok (.lload 7, 2) := by decide +kernel
theorem dX10_spreadChances_70 : decode cX10_spreadChances 70 = .ok (.lmul, 1) := by decide +kernel
theorem dX10_spreadChances_71 : decode cX10_spreadChances 71 = .ok (.lastore, 1) := by decide +kernel
theorem dX10_spreadChances_72 : decode cX10_spreadChances 72 = .ok (.iinc 13 1, 3) := by decide +kernel
theorem dX10_spreadChances_75 : decode cX10_spreadChances 75 = .ok (.goto (-21), 3) := by decide +kernel
theorem dX10_spreadChances_78 : decode cX10_spreadChances 78 = .ok (.aload_n 0, 1) := by decide +kernel
theorem dX10_spreadChances_79 : decode cX10_spreadChances 79 = .ok (.getfield 42, 3) := by decide +kernel
theorem dX10_spreadChances_82 : decode cX10_spreadChances 82 = .ok (.iload_n 1, 1) := by decide +kernel
theorem dX10_spreadChances_83 : decode cX10_spreadChances 83 = .ok (.lload 9, 2) := by decide +kernel
theorem dX10_spreadChances_85 : decode cX10_spreadChances 85 = .ok (.lload_n 3, 1) := by decide +kernel
theorem dX10_spreadChances_86 : decode cX10_spreadChances 86 = .ok (.lconst 1, 1) := by decide +kernel
theorem dX10_spreadChances_87 : decode cX10_spreadChances 87 = .ok (.lsub, 1) := by decide +kernel
theorem dX10_spreadChances_88 : decode cX10_spreadChances 88 = .ok (.lmul, 1) := by decide +kernel
theorem dX10_spreadChances_89 : decode cX10_spreadChances 89 = .ok (.lload 5, 2) := by decide +kernel
theorem dX10_spreadChances_91 : decode cX10_spreadChances 91 = .ok (.lmul, 1) := by decide +kernel
theorem dX10_spreadChances_92 : decode cX10_spreadChances 92 = .ok (.lload 11, 2) := by decide +kernel
theorem dX10_spreadChances_94 : decode cX10_spreadChances 94 = .ok (.lload_n 3, 1) := by decide +kernel
theorem dX10_spreadChances_95 : decode cX10_spreadChances 95 = .ok (.lmul, 1) := by decide +kernel
theorem dX10_spreadChances_96 : decode cX10_spreadChances 96 = .ok (.ladd, 1) := by decide +kernel
theorem dX10_spreadChances_97 : decode cX10_spreadChances 97 = .ok (.lastore, 1) := by decide +kernel
theorem dX10_spreadChances_98 : decode cX10_spreadChances 98 = .ok (.aload_n 0, 1) := by decide +kernel
theorem dX10_spreadChances_99 : decode cX10_spreadChances 99 = .ok (.getfield 42, 3) := by decide +kernel
theorem dX10_spreadChances_102 : decode cX10_spreadChances 102 = .ok (.iload_n 2, 1) := by decide +kernel
theorem dX10_spreadChances_103 : decode cX10_spreadChances 103 = .ok (.lload 11, 2) := by decide +kernel
theorem dX10_spreadChances_105 : decode cX10_spreadChances 105 = .ok (.lload 5, 2) := by decide +kernel
theorem dX10_spreadChances_107 : decode cX10_spreadChances 107 = .ok (.lconst 1, 1) := by decide +kernel
theorem dX10_spreadChances_108 : decode cX10_spreadChances 108 = .ok (.lsub, 1) := by decide +kernel
theorem dX10_spreadChances_109 : decode cX10_spreadChances 109 = .ok (.lmul, 1) := by decide +kernel
theorem dX10_spreadChances_110 : decode cX10_spreadChances 110 = .ok (.lload_n 3, 1) := by decide +kernel
theorem dX10_spreadChances_111 : decode cX10_spreadChances 111 = .ok (.lmul, 1) := by decide +kernel
theorem dX10_spreadChances_112 : decode cX10_spreadChances 112 = .ok (.lload 9, 2) := by decide +kernel
theorem dX10_spreadChances_114 : decode cX10_spreadChances 114 = .ok (.lload 5, 2) := by decide +kernel
theorem dX10_spreadChances_116 : decode cX10_spreadChances 116 = .ok (.lmul, 1) := by decide +kernel
theorem dX10_spreadChances_117 : decode cX10_spreadChances 117 = .ok (.ladd, 1) := by decide +kernel
theorem dX10_spreadChances_118 : decode cX10_spreadChances 118 = .ok (.lastore, 1) := by decide +kernel
theorem dX10_spreadChances_119 : decode cX10_spreadChances 119 = .ok (.lload 7, 2) := by decide +kernel
theorem dX10_spreadChances_121 : decode cX10_spreadChances 121 = .ok (.lreturn, 1) := by decide +kernel
theorem dX10_commonDivisor_0 : decode cX10_commonDivisor 0 = .ok (.lload_n 2, 1) := by decide +kernel
theorem dX10_commonDivisor_1 : decode cX10_commonDivisor 1 = .ok (.lstore 4, 2) := by decide +kernel
theorem dX10_commonDivisor_3 : decode cX10_commonDivisor 3 = .ok (.lload_n 0, 1) := by decide +kernel
theorem dX10_commonDivisor_4 : decode cX10_commonDivisor 4 = .ok (.lstore 6, 2) := by decide +kernel
theorem dX10_commonDivisor_6 : decode cX10_commonDivisor 6 = .ok (.iconst 0, 1) := by decide +kernel
theorem dX10_commonDivisor_7 : decode cX10_commonDivisor 7 = .ok (.istore 8, 2) := by decide +kernel
theorem dX10_commonDivisor_9 : decode cX10_commonDivisor 9 = .ok (.iload 8, 2) := by decide +kernel
theorem dX10_commonDivisor_11 : decode cX10_commonDivisor 11 = .ok (.sipush 200, 3) := by decide +kernel
theorem dX10_commonDivisor_14 : decode cX10_commonDivisor 14 = .ok (.if_icmp .ge 31, 3) := by decide +kernel
theorem dX10_commonDivisor_17 : decode cX10_commonDivisor 17 = .ok (.lload 6, 2) := by decide +kernel
theorem dX10_commonDivisor_19 : decode cX10_commonDivisor 19 = .ok (.lconst 0, 1) := by decide +kernel
theorem dX10_commonDivisor_20 : decode cX10_commonDivisor 20 = .ok (.lcmp, 1) := by decide +kernel
theorem dX10_commonDivisor_21 : decode cX10_commonDivisor 21 = .ok (.ifCond .eq 24, 3) := by decide +kernel
theorem dX10_commonDivisor_24 : decode cX10_commonDivisor 24 = .ok (.lload 4, 2) := by decide +kernel
theorem dX10_commonDivisor_26 : decode cX10_commonDivisor 26 = .ok (.lload 6, 2) := by decide +kernel
theorem dX10_commonDivisor_28 : decode cX10_commonDivisor 28 = .ok (.lrem, 1) := by decide +kernel
theorem dX10_commonDivisor_29 : decode cX10_commonDivisor 29 = .ok (.lstore 9, 2) := by decide +kernel
theorem dX10_commonDivisor_31 : decode cX10_commonDivisor 31 = .ok (.lload 6, 2) := by decide +kernel
theorem dX10_commonDivisor_33 : decode cX10_commonDivisor 33 = .ok (.lstore 4, 2) := by decide +kernel
theorem dX10_commonDivisor_35 : decode cX10_commonDivisor 35 = .ok (.lload 9, 2) := by decide +kernel
theorem dX10_commonDivisor_37 : decode cX10_commonDivisor 37 = .ok (.lstore 6, 2) := by decide +kernel
theorem dX10_commonDivisor_39 : decode cX10_commonDivisor 39 = .ok (.iinc 8 1, 3) := by decide +kernel
theorem dX10_commonDivisor_42 : decode cX10_commonDivisor 42 = .ok (.goto (-33), 3) := by decide +kernel
theorem dX10_commonDivisor_45 : decode cX10_commonDivisor 45 = .ok (.lload 4, 2) := by decide +kernel
theorem dX10_commonDivisor_47 : decode cX10_commonDivisor 47 = .ok (.lreturn, 1) := by decide +kernel
theorem dX10_fewestMeetings_0 : decode cX10_fewestMeetings 0 = .ok (.aload_n 0, 1) := by decide +kernel
theorem dX10_fewestMeetings_1 : decode cX10_fewestMeetings 1 = .ok (.getfield 16, 3) := by decide +kernel
theorem dX10_fewestMeetings_4 : decode cX10_fewestMeetings 4 = .ok (.aload_n 0, 1) := by decide +kernel
theorem dX10_fewestMeetings_5 : decode cX10_fewestMeetings 5 = .ok (.getfield 10, 3) := by decide +kernel
theorem dX10_fewestMeetings_8 : decode cX10_fewestMeetings 8 = .ok (.invokevirtual 54, 3) := by decide +kernel
theorem dX10_fewestMeetings_11 : decode cX10_fewestMeetings 11 = .ok (.aload_n 0, 1) := by decide +kernel
theorem dX10_fewestMeetings_12 : decode cX10_fewestMeetings 12 = .ok (.getfield 16, 3) := by decide +kernel
theorem dX10_fewestMeetings_15 : decode cX10_fewestMeetings 15 = .ok (.aload_n 0, 1) := by decide +kernel
theorem dX10_fewestMeetings_16 : decode cX10_fewestMeetings 16 = .ok (.getfield 38, 3) := by decide +kernel
theorem dX10_fewestMeetings_19 : decode cX10_fewestMeetings 19 = .ok (.invokevirtual 326, 3) := by decide +kernel
theorem dX10_fewestMeetings_22 : decode cX10_fewestMeetings 22 = .ok (.ifCond .ge 5, 3) := by decide +kernel
theorem dX10_fewestMeetings_25 : decode cX10_fewestMeetings 25 = .ok (.iconst 0, 1) := by decide +kernel
theorem dX10_fewestMeetings_26 : decode cX10_fewestMeetings 26 = .ok (.ireturn, 1) := by decide +kernel
theorem dX10_fewestMeetings_27 : decode cX10_fewestMeetings 27 = .ok (.iconst 1, 1) := by decide +kernel
theorem dX10_fewestMeetings_28 : decode cX10_fewestMeetings 28 = .ok (.istore_n 2, 1) := by decide +kernel
theorem dX10_fewestMeetings_29 : decode cX10_fewestMeetings 29 = .ok (.iload_n 2, 1) := by decide +kernel
theorem dX10_fewestMeetings_30 : decode cX10_fewestMeetings 30 = .ok (.iload_n 1, 1) := by decide +kernel
theorem dX10_fewestMeetings_31 : decode cX10_fewestMeetings 31 = .ok (.if_icmp .gt 32, 3) := by decide +kernel
theorem dX10_fewestMeetings_34 : decode cX10_fewestMeetings 34 = .ok (.aload_n 0, 1) := by decide +kernel
theorem dX10_fewestMeetings_35 : decode cX10_fewestMeetings 35 = .ok (.getfield 16, 3) := by decide +kernel
theorem dX10_fewestMeetings_38 : decode cX10_fewestMeetings 38 = .ok (.aload_n 0, 1) := by decide +kernel
theorem dX10_fewestMeetings_39 : decode cX10_fewestMeetings 39 = .ok (.getfield 35, 3) := by decide +kernel
theorem dX10_fewestMeetings_42 : decode cX10_fewestMeetings 42 = .ok (.aload_n 0, 1) := by decide +kernel
theorem dX10_fewestMeetings_43 : decode cX10_fewestMeetings 43 = .ok (.getfield 38, 3) := by decide +kernel
theorem dX10_fewestMeetings_46 : decode cX10_fewestMeetings 46 = .ok (.iload_n 2, 1) := by decide +kernel
theorem dX10_fewestMeetings_47 : decode cX10_fewestMeetings 47 = .ok (.invokestatic 171, 3) := by decide +kernel
theorem dX10_fewestMeetings_50 : decode cX10_fewestMeetings 50 = .ok (.bipush (-4), 2) := by decide +kernel
theorem dX10_fewestMeetings_52 : decode cX10_fewestMeetings 52 = .ok (.if_icmp .eq 5, 3) := by decide +kernel
theorem dX10_fewestMeetings_55 : decode cX10_fewestMeetings 55 = .ok (.iload_n 2, 1) := by decide +kernel
theorem dX10_fewestMeetings_56 : decode cX10_fewestMeetings 56 = .ok (.ireturn, 1) := by decide +kernel
theorem dX10_fewestMeetings_57 : decode cX10_fewestMeetings 57 = .ok (.iinc 2 1, 3) := by decide +kernel
theorem dX10_fewestMeetings_60 : decode cX10_fewestMeetings 60 = .ok (.goto (-31), 3) := by decide +kernel
theorem dX10_fewestMeetings_63 : decode cX10_fewestMeetings 63 = .ok (.bipush (-4), 2) := by decide +kernel
theorem dX10_fewestMeetings_65 : decode cX10_fewestMeetings 65 = .ok (.ireturn, 1) := by decide +kernel
theorem dX10_firstOfWay_0 : decode cX10_firstOfWay 0 = .ok (.iload_n 3, 1) := by decide +kernel
theorem dX10_firstOfWay_1 : decode cX10_firstOfWay 1 = .ok (.iconst 1, 1) := by decide +kernel
theorem dX10_firstOfWay_2 : decode cX10_firstOfWay 2 = .ok (.if_icmp .lt 9, 3) := by decide +kernel
theorem dX10_firstOfWay_5 : decode cX10_firstOfWay 5 = .ok (.iload_n 3, 1) := by decide +kernel
theorem dX10_firstOfWay_6 : decode cX10_firstOfWay 6 = .ok (.aload_n 1, 1) := by decide +kernel
theorem dX10_firstOfWay_7 : decode cX10_firstOfWay 7 = .ok (.arraylength, 1) := by decide +kernel
theorem dX10_firstOfWay_8 : decode cX10_firstOfWay 8 = .ok (.if_icmp .lt 6, 3) := by decide +kernel
theorem dX10_firstOfWay_11 : decode cX10_firstOfWay 11 = .ok (.bipush (-4), 2) := by decide +kernel
theorem dX10_firstOfWay_13 : decode cX10_firstOfWay 13 = .ok (.ireturn, 1) := by decide +kernel
theorem dX10_firstOfWay_14 : decode cX10_firstOfWay 14 = .ok (.iload_n 3, 1) := by decide +kernel
theorem dX10_firstOfWay_15 : decode cX10_firstOfWay 15 = .ok (.iconst 1, 1) := by decide +kernel
theorem dX10_firstOfWay_16 : decode cX10_firstOfWay 16 = .ok (.if_icmp .ne 9, 3) := by decide +kernel
theorem dX10_firstOfWay_19 : decode cX10_firstOfWay 19 = .ok (.aload_n 0, 1) := by decide +kernel
theorem dX10_firstOfWay_20 : decode cX10_firstOfWay 20 = .ok (.aload_n 2, 1) := by decide +kernel
theorem dX10_firstOfWay_21 : decode cX10_firstOfWay 21 = .ok (.invokevirtual 330, 3) := by decide +kernel
theorem dX10_firstOfWay_24 : decode cX10_firstOfWay 24 = .ok (.ireturn, 1) := by decide +kernel
theorem dX10_firstOfWay_25 : decode cX10_firstOfWay 25 = .ok (.aload_n 0, 1) := by decide +kernel
theorem dX10_firstOfWay_26 : decode cX10_firstOfWay 26 = .ok (.aload_n 2, 1) := by decide +kernel
theorem dX10_firstOfWay_27 : decode cX10_firstOfWay 27 = .ok (.invokevirtual 333, 3) := by decide +kernel
theorem dX10_firstOfWay_30 : decode cX10_firstOfWay 30 = .ok (.iconst 2, 1) := by decide +kernel
theorem dX10_firstOfWay_31 : decode cX10_firstOfWay 31 = .ok (.iload_n 3, 1) := by decide +kernel
theorem dX10_firstOfWay_32 : decode cX10_firstOfWay 32 = .ok (.imul, 1) := by decide +kernel
theorem dX10_firstOfWay_33 : decode cX10_firstOfWay 33 = .ok (.if_icmp .le 6, 3) := by decide +kernel
theorem dX10_firstOfWay_36 : decode cX10_firstOfWay 36 = .ok (.bipush (-4), 2) := by decide +kernel
theorem dX10_firstOfWay_38 : decode cX10_firstOfWay 38 = .ok (.ireturn, 1) := by decide +kernel
theorem dX10_firstOfWay_39 : decode cX10_firstOfWay 39 = .ok (.aload_n 1, 1) := by decide +kernel
theorem dX10_firstOfWay_40 : decode cX10_firstOfWay 40 = .ok (.iload_n 3, 1) := by decide +kernel
theorem dX10_firstOfWay_41 : decode cX10_firstOfWay 41 = .ok (.aaload, 1) := by decide +kernel
theorem dX10_firstOfWay_42 : decode cX10_firstOfWay 42 = .ok (.astore 4, 2) := by decide +kernel
theorem dX10_firstOfWay_44 : decode cX10_firstOfWay 44 = .ok (.aload_n 0, 1) := by decide +kernel
theorem dX10_firstOfWay_45 : decode cX10_firstOfWay 45 = .ok (.aload 4, 2) := by decide +kernel
theorem dX10_firstOfWay_47 : decode cX10_firstOfWay 47 = .ok (.invokevirtual 336, 3) := by decide +kernel
theorem dX10_firstOfWay_50 : decode cX10_firstOfWay 50 = .ok (.iconst 0, 1) := by decide +kernel
theorem dX10_firstOfWay_51 : decode cX10_firstOfWay 51 = .ok (.istore 5, 2) := by decide +kernel
theorem dX10_firstOfWay_53 : decode cX10_firstOfWay 53 = .ok (.iload 5, 2) := by decide +kernel
theorem dX10_firstOfWay_55 : decode cX10_firstOfWay 55 = .ok (.aload_n 0, 1) := by decide +kernel
theorem dX10_firstOfWay_56 : decode cX10_firstOfWay 56 = .ok (.getfield 188, 3) := by decide +kernel
theorem dX10_firstOfWay_59 : decode cX10_firstOfWay 59 = .ok (.if_icmp .ge 136, 3) := by decide +kernel
theorem dX10_firstOfWay_62 : decode cX10_firstOfWay 62 = .ok (.iload 5, 2) := by decide +kernel
theorem dX10_firstOfWay_64 : decode cX10_firstOfWay 64 = .ok (.iconst 1, 1) := by decide +kernel
theorem dX10_firstOfWay_65 : decode cX10_firstOfWay 65 = .ok (.iadd, 1) := by decide +kernel
theorem dX10_firstOfWay_66 : decode cX10_firstOfWay 66 = .ok (.istore 6, 2) := by decide +kernel
theorem dX10_firstOfWay_68 : decode cX10_firstOfWay 68 = .ok (.iload 6, 2) := by decide +kernel
theorem dX10_firstOfWay_70 : decode cX10_firstOfWay 70 = .ok (.aload_n 0, 1) := by decide +kernel
theorem dX10_firstOfWay_71 : decode cX10_firstOfWay 71 = .ok (.getfield 188, 3) := by decide +kernel
theorem dX10_firstOfWay_74 : decode cX10_firstOfWay 74 = .ok (.if_icmp .ge 115, 3) := by decide +kernel
theorem dX10_firstOfWay_77 : decode cX10_firstOfWay 77 = .ok (.aload 4, 2) := by decide +kernel
theorem dX10_firstOfWay_79 : decode cX10_firstOfWay 79 = .ok (.iload 5, 2) := by decide +kernel
theorem dX10_firstOfWay_81 : decode cX10_firstOfWay 81 = .ok (.iaload, 1) := by decide +kernel
theorem dX10_firstOfWay_82 : decode cX10_firstOfWay 82 = .ok (.ifCond .lt 101, 3) := by decide +kernel
theorem dX10_firstOfWay_85 : decode cX10_firstOfWay 85 = .ok (.aload 4, 2) := by decide +kernel
theorem dX10_firstOfWay_87 : decode cX10_firstOfWay 87 = .ok (.iload 6, 2) := by decide +kernel
theorem dX10_firstOfWay_89 : decode cX10_firstOfWay 89 = .ok (.iaload, 1) := by decide +kernel
theorem dX10_firstOfWay_90 : decode cX10_firstOfWay 90 = .ok (.ifCond .lt 93, 3) := by decide +kernel
theorem dX10_firstOfWay_93 : decode cX10_firstOfWay 93 = .ok (.aload_n 0, 1) := by decide +kernel
theorem dX10_firstOfWay_94 : decode cX10_firstOfWay 94 = .ok (.getfield 111, 3) := by decide +kernel
theorem dX10_firstOfWay_97 : decode cX10_firstOfWay 97 = .ok (.aload 4, 2) := by decide +kernel
theorem dX10_firstOfWay_99 : decode cX10_firstOfWay 99 = .ok (.iload 5, 2) := by decide +kernel
theorem dX10_firstOfWay_101 : decode cX10_firstOfWay 101 = .ok (.iaload, 1) := by decide +kernel
theorem dX10_firstOfWay_102 : decode cX10_firstOfWay 102 = .ok (.iaload, 1) := by decide +kernel
theorem dX10_firstOfWay_103 : decode cX10_firstOfWay 103 = .ok (.istore 7, 2) := by decide +kernel
theorem dX10_firstOfWay_105 : decode cX10_firstOfWay 105 = .ok (.aload_n 0, 1) := by decide +kernel
theorem dX10_firstOfWay_106 : decode cX10_firstOfWay 106 = .ok (.getfield 111, 3) := by decide +kernel
theorem dX10_firstOfWay_109 : decode cX10_firstOfWay 109 = .ok (.aload 4, 2) := by decide +kernel
theorem dX10_firstOfWay_111 : decode cX10_firstOfWay 111 = .ok (.iload 6, 2) := by decide +kernel
theorem dX10_firstOfWay_113 : decode cX10_firstOfWay 113 = .ok (.iaload, 1) := by decide +kernel
theorem dX10_firstOfWay_114 : decode cX10_firstOfWay 114 = .ok (.iaload, 1) := by decide +kernel
theorem dX10_firstOfWay_115 : decode cX10_firstOfWay 115 = .ok (.istore 8, 2) := by decide +kernel
theorem dX10_firstOfWay_117 : decode cX10_firstOfWay 117 = .ok (.aload_n 0, 1) := by decide +kernel
theorem dX10_firstOfWay_118 : decode cX10_firstOfWay 118 = .ok (.iload 5, 2) := by decide +kernel
theorem dX10_firstOfWay_120 : decode cX10_firstOfWay 120 = .ok (.iload 6, 2) := by decide +kernel
theorem dX10_firstOfWay_122 : decode cX10_firstOfWay 122 = .ok (.aload 4, 2) := by decide +kernel
theorem dX10_firstOfWay_124 : decode cX10_firstOfWay 124 = .ok (.iload 5, 2) := by decide +kernel
theorem dX10_firstOfWay_126 : decode cX10_firstOfWay 126 = .ok (.iaload, 1) := by decide +kernel
theorem dX10_firstOfWay_127 : decode cX10_firstOfWay 127 = .ok (.aload 4, 2) := by decide +kernel
theorem dX10_firstOfWay_129 : decode cX10_firstOfWay 129 = .ok (.iload 6, 2) := by decide +kernel
theorem dX10_firstOfWay_131 : decode cX10_firstOfWay 131 = .ok (.iaload, 1) := by decide +kernel
theorem dX10_firstOfWay_132 : decode cX10_firstOfWay 132 = .ok (.invokevirtual 340, 3) := by decide +kernel
theorem dX10_firstOfWay_135 : decode cX10_firstOfWay 135 = .ok (.aload_n 0, 1) := by decide +kernel
theorem dX10_firstOfWay_136 : decode cX10_firstOfWay 136 = .ok (.aload_n 1, 1) := by decide +kernel
theorem dX10_firstOfWay_137 : decode cX10_firstOfWay 137 = .ok (.aload_n 2, 1) := by decide +kernel
theorem dX10_firstOfWay_138 : decode cX10_firstOfWay 138 = .ok (.iload_n 3, 1) := by decide +kernel
theorem dX10_firstOfWay_139 : decode cX10_firstOfWay 139 = .ok (.iconst 1, 1) := by decide +kernel
theorem dX10_firstOfWay_140 : decode cX10_firstOfWay 140 = .ok (.isub, 1) := by decide +kernel
theorem dX10_firstOfWay_141 : decode cX10_firstOfWay 141 = .ok (.invokestatic 171, 3) := by decide +kernel
theorem dX10_firstOfWay_144 : decode cX10_firstOfWay 144 = .ok (.istore 9, 2) := by decide +kernel
theorem dX10_firstOfWay_146 : decode cX10_firstOfWay 146 = .ok (.aload_n 0, 1) := by decide +kernel
theorem dX10_firstOfWay_147 : decode cX10_firstOfWay 147 = .ok (.iload 5, 2) := by decide +kernel
theorem dX10_firstOfWay_149 : decode cX10_firstOfWay 149 = .ok (.iload 6, 2) := by decide +kernel
theorem dX10_firstOfWay_151 : decode cX10_firstOfWay 151 = .ok (.aload 4, 2) := by decide +kernel
theorem dX10_firstOfWay_153 : decode cX10_firstOfWay 153 = .ok (.iload 5, 2) := by decide +kernel
theorem dX10_firstOfWay_155 : decode cX10_firstOfWay 155 = .ok (.iaload, 1) := by decide +kernel
theorem dX10_firstOfWay_156 : decode cX10_firstOfWay 156 = .ok (.aload 4, 2) := by decide +kernel
theorem dX10_firstOfWay_158 : decode cX10_firstOfWay 158 = .ok (.iload 6, 2) := by decide +kernel
theorem dX10_firstOfWay_160 : decode cX10_firstOfWay 160 = .ok (.iaload, 1) := by decide +kernel
theorem dX10_firstOfWay_161 : decode cX10_firstOfWay 161 = .ok (.iload 7, 2) := by decide +kernel
theorem dX10_firstOfWay_163 : decode cX10_firstOfWay 163 = .ok (.iload 8, 2) := by decide +kernel
theorem dX10_firstOfWay_165 : decode cX10_firstOfWay 165 = .ok (.invokevirtual 344, 3) := by decide +kernel
theorem dX10_firstOfWay_168 : decode cX10_firstOfWay 168 = .ok (.iload 9, 2) := by decide +kernel
theorem dX10_firstOfWay_170 : decode cX10_firstOfWay 170 = .ok (.bipush (-4), 2) := by decide +kernel
theorem dX10_firstOfWay_172 : decode cX10_firstOfWay 172 = .ok (.if_icmp .eq 11, 3) := by decide +kernel
theorem dX10_firstOfWay_175 : decode cX10_firstOfWay 175 = .ok (.iload 5, 2) := by decide +kernel
theorem dX10_firstOfWay_177 : decode cX10_firstOfWay 177 = .ok (.iload 6, 2) := by decide +kernel
theorem dX10_firstOfWay_179 : decode cX10_firstOfWay 179 = .ok (.invokestatic 191, 3) := by decide +kernel
theorem dX10_firstOfWay_182 : decode cX10_firstOfWay 182 = .ok (.ireturn, 1) := by decide +kernel
theorem dX10_firstOfWay_183 : decode cX10_firstOfWay 183 = .ok (.iinc 6 1, 3) := by decide +kernel
theorem dX10_firstOfWay_186 : decode cX10_firstOfWay 186 = .ok (.goto (-118), 3) := by decide +kernel
theorem dX10_firstOfWay_189 : decode cX10_firstOfWay 189 = .ok (.iinc 5 1, 3) := by decide +kernel
theorem dX10_firstOfWay_192 : decode cX10_firstOfWay 192 = .ok (.goto (-139), 3) := by decide +kernel
theorem dX10_firstOfWay_195 : decode cX10_firstOfWay 195 = .ok (.bipush (-4), 2) := by decide +kernel
theorem dX10_firstOfWay_197 : decode cX10_firstOfWay 197 = .ok (.ireturn, 1) := by decide +kernel
theorem dX10_nextSeed_0 : decode cX10_nextSeed 0 = .ok (.iload_n 0, 1) := by decide +kernel
theorem dX10_nextSeed_1 : decode cX10_nextSeed 1 = .ok (.ldc_w 348, 3) := by decide +kernel
theorem dX10_nextSeed_4 : decode cX10_nextSeed 4 = .ok (.imul, 1) := by decide +kernel
theorem dX10_nextSeed_5 : decode cX10_nextSeed 5 = .ok (.sipush 12345, 3) := by decide +kernel
theorem dX10_nextSeed_8 : decode cX10_nextSeed 8 = .ok (.iadd, 1) := by decide +kernel
theorem dX10_nextSeed_9 : decode cX10_nextSeed 9 = .ok (.ireturn, 1) := by decide +kernel
theorem dX10_drawBelow_0 : decode cX10_drawBelow 0 = .ok (.iload_n 0, 1) := by decide +kernel
theorem dX10_drawBelow_1 : decode cX10_drawBelow 1 = .ok (.iconst 1, 1) := by decide +kernel
theorem dX10_drawBelow_2 : decode cX10_drawBelow 2 = .ok (.if_icmp .ge 7, 3) := by decide +kernel
theorem dX10_drawBelow_5 : decode cX10_drawBelow 5 = .ok (.iconst 0, 1) := by decide +kernel
theorem dX10_drawBelow_6 : decode cX10_drawBelow 6 = .ok (.goto 14, 3) := by decide +kernel
theorem dX10_drawBelow_9 : decode cX10_drawBelow 9 = .ok (.iload_n 1, 1) := by decide +kernel
theorem dX10_drawBelow_10 : decode cX10_drawBelow 10 = .ok (.ldc_w 349, 3) := by decide +kernel
theorem dX10_drawBelow_13 : decode cX10_drawBelow 13 = .ok (.iand, 1) := by decide +kernel
theorem dX10_drawBelow_14 : decode cX10_drawBelow 14 = .ok (.ldc_w 350, 3) := by decide +kernel
theorem dX10_drawBelow_17 : decode cX10_drawBelow 17 = .ok (.idiv, 1) := by decide +kernel
theorem dX10_drawBelow_18 : decode cX10_drawBelow 18 = .ok (.iload_n 0, 1) := by decide +kernel
theorem dX10_drawBelow_19 : decode cX10_drawBelow 19 = .ok (.irem, 1) := by decide +kernel
theorem dX10_drawBelow_20 : decode cX10_drawBelow 20 = .ok (.ireturn, 1) := by decide +kernel
theorem dX10_faultOfGifts_0 : decode cX10_faultOfGifts 0 = .ok (.aload_n 1, 1) := by decide +kernel
theorem dX10_faultOfGifts_1 : decode cX10_faultOfGifts 1 = .ok (.iload_n 2, 1) := by decide +kernel
theorem dX10_faultOfGifts_2 : decode cX10_faultOfGifts 2 = .ok (.invokevirtual 66, 3) := by decide +kernel
theorem dX10_faultOfGifts_5 : decode cX10_faultOfGifts 5 = .ok (.istore_n 3, 1) := by decide +kernel
theorem dX10_faultOfGifts_6 : decode cX10_faultOfGifts 6 = .ok (.aload_n 1, 1) := by decide +kernel
theorem dX10_faultOfGifts_7 : decode cX10_faultOfGifts 7 = .ok (.iload_n 2, 1) := by decide +kernel
theorem dX10_faultOfGifts_8 : decode cX10_faultOfGifts 8 = .ok (.iconst 1, 1) := by decide +kernel
theorem dX10_faultOfGifts_9 : decode cX10_faultOfGifts 9 = .ok (.iadd, 1) := by decide +kernel
theorem dX10_faultOfGifts_10 : decode cX10_faultOfGifts 10 = .ok (.invokevirtual 66, 3) := by decide +kernel
theorem dX10_faultOfGifts_13 : decode cX10_faultOfGifts 13 = .ok (.istore 4, 2) := by decide +kernel
theorem dX10_faultOfGifts_15 : decode cX10_faultOfGifts 15 = .ok (.aload_n 0, 1) := by decide +kernel
theorem dX10_faultOfGifts_16 : decode cX10_faultOfGifts 16 = .ok (.iload_n 3, 1) := by decide +kernel
theorem dX10_faultOfGifts_17 : decode cX10_faultOfGifts 17 = .ok (.iload 4, 2) := by decide +kernel
theorem dX10_faultOfGifts_19 : decode cX10_faultOfGifts 19 = .ok (.invokevirtual 125, 3) := by decide +kernel
theorem dX10_faultOfGifts_22 : decode cX10_faultOfGifts 22 = .ok (.ifCond .ne 5, 3) := by decide +kernel
theorem dX10_faultOfGifts_25 : decode cX10_faultOfGifts 25 = .ok (.iload_n 2, 1) := by decide +kernel
theorem dX10_faultOfGifts_26 : decode cX10_faultOfGifts 26 = .ok (.ireturn, 1) := by decide +kernel
theorem dX10_faultOfGifts_27 : decode cX10_faultOfGifts 27 = .ok (.aload_n 1, 1) := by decide +kernel
theorem dX10_faultOfGifts_28 : decode cX10_faultOfGifts 28 = .ok (.iload_n 2, 1) := by decide +kernel
theorem dX10_faultOfGifts_29 : decode cX10_faultOfGifts 29 = .ok (.iconst 2, 1) := by decide +kernel
theorem dX10_faultOfGifts_30 : decode cX10_faultOfGifts 30 = .ok (.iadd, 1) := by decide +kernel
theorem dX10_faultOfGifts_31 : decode cX10_faultOfGifts 31 = .ok (.invokevirtual 66, 3) := by decide +kernel
theorem dX10_faultOfGifts_34 : decode cX10_faultOfGifts 34 = .ok (.aload_n 0, 1) := by decide +kernel
theorem dX10_faultOfGifts_35 : decode cX10_faultOfGifts 35 = .ok (.iload_n 3, 1) := by decide +kernel
theorem dX10_faultOfGifts_36 : decode cX10_faultOfGifts 36 = .ok (.invokevirtual 96, 3) := by decide +kernel
theorem dX10_faultOfGifts_39 : decode cX10_faultOfGifts 39 = .ok (.if_icmp .eq 7, 3) := by decide +kernel
theorem dX10_faultOfGifts_42 : decode cX10_faultOfGifts 42 = .ok (.iload_n 2, 1) := by decide +kernel
theorem dX10_faultOfGifts_43 : decode cX10_faultOfGifts 43 = .ok (.iconst 2, 1) := by decide +kernel
theorem dX10_faultOfGifts_44 : decode cX10_faultOfGifts 44 = .ok (.iadd, 1) := by decide +kernel
theorem dX10_faultOfGifts_45 : decode cX10_faultOfGifts 45 = .ok (.ireturn, 1) := by decide +kernel
theorem dX10_faultOfGifts_46 : decode cX10_faultOfGifts 46 = .ok (.aload_n 1, 1) := by decide +kernel
theorem dX10_faultOfGifts_47 : decode cX10_faultOfGifts 47 = .ok (.iload_n 2, 1) := by decide +kernel
theorem dX10_faultOfGifts_48 : decode cX10_faultOfGifts 48 = .ok (.iconst 3, 1) := by decide +kernel
theorem dX10_faultOfGifts_49 : decode cX10_faultOfGifts 49 = .ok (.iadd, 1) := by decide +kernel
theorem dX10_faultOfGifts_50 : decode cX10_faultOfGifts 50 = .ok (.invokevirtual 66, 3) := by decide +kernel
theorem dX10_faultOfGifts_53 : decode cX10_faultOfGifts 53 = .ok (.aload_n 0, 1) := by decide +kernel
theorem dX10_faultOfGifts_54 : decode cX10_faultOfGifts 54 = .ok (.iload 4, 2) := by decide +kernel
theorem dX10_faultOfGifts_56 : decode cX10_faultOfGifts 56 = .ok (.invokevirtual 96, 3) := by decide +kernel
theorem dX10_faultOfGifts_59 : decode cX10_faultOfGifts 59 = .ok (.if_icmp .ne 8, 3) := by decide +kernel
theorem dX10_faultOfGifts_62 : decode cX10_faultOfGifts 62 = .ok (.bipush (-4), 2) := by decide +kernel
theorem dX10_faultOfGifts_64 : decode cX10_faultOfGifts 64 = .ok (.goto 6, 3) := by decide +kernel
theorem dX10_faultOfGifts_67 : decode cX10_faultOfGifts 67 = .ok (.iload_n 2, 1) := by decide +kernel
theorem dX10_faultOfGifts_68 : decode cX10_faultOfGifts 68 = .ok (.iconst 3, 1) := by decide +kernel
theorem dX10_faultOfGifts_69 : decode cX10_faultOfGifts 69 = .ok (.iadd, 1) := by decide +kernel
theorem dX10_faultOfGifts_70 : decode cX10_faultOfGifts 70 = .ok (.ireturn, 1) := by decide +kernel
theorem dX10_captainOf_0 : decode cX10_captainOf 0 = .ok (.iload_n 0, 1) := by decide +kernel
theorem dX10_captainOf_1 : decode cX10_captainOf 1 = .ok (.tableswitch 109 1 7 #[43, 52, 62, 72, 82, 91, 100], 43) := by decide +kernel
theorem dX10_captainOf_44 : decode cX10_captainOf 44 = .ok (.new 351, 3) := by decide +kernel
theorem dX10_captainOf_47 : decode cX10_captainOf 47 = .ok (.dup, 1) := by decide +kernel
theorem dX10_captainOf_48 : decode cX10_captainOf 48 = .ok (.iload_n 1, 1) := by decide +kernel
theorem dX10_captainOf_49 : decode cX10_captainOf 49 = .ok (.invokespecial 353, 3) := by decide +kernel
theorem dX10_captainOf_52 : decode cX10_captainOf 52 = .ok (.areturn, 1) := by decide +kernel
theorem dX10_captainOf_53 : decode cX10_captainOf 53 = .ok (.new 356, 3) := by decide +kernel
theorem dX10_captainOf_56 : decode cX10_captainOf 56 = .ok (.dup, 1) := by decide +kernel
theorem dX10_captainOf_57 : decode cX10_captainOf 57 = .ok (.iload_n 0, 1) := by decide +kernel
theorem dX10_captainOf_58 : decode cX10_captainOf 58 = .ok (.iload_n 1, 1) := by decide +kernel
theorem dX10_captainOf_59 : decode cX10_captainOf 59 = .ok (.invokespecial 358, 3) := by decide +kernel
theorem dX10_captainOf_62 : decode cX10_captainOf 62 = .ok (.areturn, 1) := by decide +kernel
theorem dX10_captainOf_63 : decode cX10_captainOf 63 = .ok (.new 360, 3) := by decide +kernel
theorem dX10_captainOf_66 : decode cX10_captainOf 66 = .ok (.dup, 1) := by decide +kernel
theorem dX10_captainOf_67 : decode cX10_captainOf 67 = .ok (.iload_n 0, 1) := by decide +kernel
theorem dX10_captainOf_68 : decode cX10_captainOf 68 = .ok (.iload_n 1, 1) := by decide +kernel
theorem dX10_captainOf_69 : decode cX10_captainOf 69 = .ok (.invokespecial 362, 3) := by decide +kernel
theorem dX10_captainOf_72 : decode cX10_captainOf 72 = .ok (.areturn, 1) := by decide +kernel
theorem dX10_captainOf_73 : decode cX10_captainOf 73 = .ok (.new 363, 3) := by decide +kernel
theorem dX10_captainOf_76 : decode cX10_captainOf 76 = .ok (.dup, 1) := by decide +kernel
theorem dX10_captainOf_77 : decode cX10_captainOf 77 = .ok (.iload_n 0, 1) := by decide +kernel
theorem dX10_captainOf_78 : decode cX10_captainOf 78 = .ok (.iload_n 1, 1) := by decide +kernel
theorem dX10_captainOf_79 : decode cX10_captainOf 79 = .ok (.invokespecial 365, 3) := by decide +kernel
theorem dX10_captainOf_82 : decode cX10_captainOf 82 = .ok (.areturn, 1) := by decide +kernel
theorem dX10_captainOf_83 : decode cX10_captainOf 83 = .ok (.new 366, 3) := by decide +kernel
theorem dX10_captainOf_86 : decode cX10_captainOf 86 = .ok (.dup, 1) := by decide +kernel
theorem dX10_captainOf_87 : decode cX10_captainOf 87 = .ok (.iload_n 1, 1) := by decide +kernel
theorem dX10_captainOf_88 : decode cX10_captainOf 88 = .ok (.invokespecial 368, 3) := by decide +kernel
theorem dX10_captainOf_91 : decode cX10_captainOf 91 = .ok (.areturn, 1) := by decide +kernel
theorem dX10_captainOf_92 : decode cX10_captainOf 92 = .ok (.new 369, 3) := by decide +kernel
theorem dX10_captainOf_95 : decode cX10_captainOf 95 = .ok (.dup, 1) := by decide +kernel
theorem dX10_captainOf_96 : decode cX10_captainOf 96 = .ok (.iload_n 1, 1) := by decide +kernel
theorem dX10_captainOf_97 : decode cX10_captainOf 97 = .ok (.invokespecial 371, 3) := by decide +kernel
theorem dX10_captainOf_100 : decode cX10_captainOf 100 = .ok (.areturn, 1) := by decide +kernel
theorem dX10_captainOf_101 : decode cX10_captainOf 101 = .ok (.new 372, 3) := by decide +kernel
theorem dX10_captainOf_104 : decode cX10_captainOf 104 = .ok (.dup, 1) := by decide +kernel
theorem dX10_captainOf_105 : decode cX10_captainOf 105 = .ok (.iload_n 1, 1) := by decide +kernel
theorem dX10_captainOf_106 : decode cX10_captainOf 106 = .ok (.invokespecial 374, 3) := by decide +kernel
theorem dX10_captainOf_109 : decode cX10_captainOf 109 = .ok (.areturn, 1) := by decide +kernel
theorem dX10_captainOf_110 : decode cX10_captainOf 110 = .ok (.new 81, 3) := by decide +kernel
theorem dX10_captainOf_113 : decode cX10_captainOf 113 = .ok (.dup, 1) := by decide +kernel
theorem dX10_captainOf_114 : decode cX10_captainOf 114 = .ok (.iconst 0, 1) := by decide +kernel
theorem dX10_captainOf_115 : decode cX10_captainOf 115 = .ok (.iload_n 1, 1) := by decide +kernel
theorem dX10_captainOf_116 : decode cX10_captainOf 116 = .ok (.invokespecial 375, 3) := by decide +kernel
theorem dX10_captainOf_119 : decode cX10_captainOf 119 = .ok (.areturn, 1) := by decide +kernel
theorem dX11_init_0 : decode cX11_init 0 = .ok (.aload_n 0, 1) := by decide +kernel
theorem dX11_init_1 : decode cX11_init 1 = .ok (.invokespecial 1, 3) := by decide +kernel
theorem dX11_init_4 : decode cX11_init 4 = .ok (.aload_n 0, 1) := by decide +kernel
theorem dX11_init_5 : decode cX11_init 5 = .ok (.bipush 73, 2) := by decide +kernel
theorem dX11_init_7 : decode cX11_init 7 = .ok (.newarray .int, 2) := by decide +kernel
theorem dX11_init_9 : decode cX11_init 9 = .ok (.putfield 9, 3) := by decide +kernel
theorem dX11_init_12 : decode cX11_init 12 = .ok (.aload_n 0, 1) := by decide +kernel
theorem dX11_init_13 : decode cX11_init 13 = .ok (.bipush 73, 2) := by decide +kernel
theorem dX11_init_15 : decode cX11_init 15 = .ok (.newarray .int, 2) := by decide +kernel
theorem dX11_init_17 : decode cX11_init 17 = .ok (.putfield 13, 3) := by decide +kernel
theorem dX11_init_20 : decode cX11_init 20 = .ok (.aload_n 0, 1) := by decide +kernel
theorem dX11_init_21 : decode cX11_init 21 = .ok (.bipush 73, 2) := by decide +kernel
theorem dX11_init_23 : decode cX11_init 23 = .ok (.newarray .int, 2) := by decide +kernel
theorem dX11_init_25 : decode cX11_init 25 = .ok (.putfield 16, 3) := by decide +kernel
theorem dX11_init_28 : decode cX11_init 28 = .ok (.aload_n 0, 1) := by decide +kernel
theorem dX11_init_29 : decode cX11_init 29 = .ok (.bipush 73, 2) := by decide +kernel
theorem dX11_init_31 : decode cX11_init 31 = .ok (.newarray .int, 2) := by decide +kernel
theorem dX11_init_33 : decode cX11_init 33 = .ok (.putfield 19, 3) := by decide +kernel
theorem dX11_init_36 : decode cX11_init 36 = .ok (.aload_n 0, 1) := by decide +kernel
theorem dX11_init_37 : decode cX11_init 37 = .ok (.bipush 8, 2) := by decide +kernel
theorem dX11_init_39 : decode cX11_init 39 = .ok (.newarray .int, 2) := by decide +kernel
theorem dX11_init_41 : decode cX11_init 41 = .ok (.putfield 22, 3) := by decide +kernel
theorem dX11_init_44 : decode cX11_init 44 = .ok (.aload_n 0, 1) := by decide +kernel
theorem dX11_init_45 : decode cX11_init 45 = .ok (.bipush 8, 2) := by decide +kernel
theorem dX11_init_47 : decode cX11_init 47 = .ok (.newarray .int, 2) := by decide +kernel
theorem dX11_init_49 : decode cX11_init 49 = .ok (.putfield 25, 3) := by decide +kernel
theorem dX11_init_52 : decode cX11_init 52 = .ok (.aload_n 0, 1) := by decide +kernel
theorem dX11_init_53 : decode cX11_init 53 = .ok (.bipush 8, 2) := by decide +kernel
theorem dX11_init_55 : decode cX11_init 55 = .ok (.newarray .int, 2) := by decide +kernel
theorem dX11_init_57 : decode cX11_init 57 = .ok (.putfield 28, 3) := by decide +kernel
theorem dX11_init_60 : decode cX11_init 60 = .ok (.aload_n 0, 1) := by decide +kernel
theorem dX11_init_61 : decode cX11_init 61 = .ok (.sipush 800, 3) := by decide +kernel
theorem dX11_init_64 : decode cX11_init 64 = .ok (.newarray .int, 2) := by decide +kernel
theorem dX11_init_66 : decode cX11_init 66 = .ok (.putfield 31, 3) := by decide +kernel
theorem dX11_init_69 : decode cX11_init 69 = .ok (.aload_n 0, 1) := by decide +kernel
theorem dX11_init_70 : decode cX11_init 70 = .ok (.bipush 8, 2) := by decide +kernel
theorem dX11_init_72 : decode cX11_init 72 = .ok (.newarray .int, 2) := by decide +kernel
theorem dX11_init_74 : decode cX11_init 74 = .ok (.putfield 34, 3) := by decide +kernel
theorem dX11_init_77 : decode cX11_init 77 = .ok (.aload_n 0, 1) := by decide +kernel
theorem dX11_init_78 : decode cX11_init 78 = .ok (.bipush 8, 2) := by decide +kernel
theorem dX11_init_80 : decode cX11_init 80 = .ok (.newarray .int, 2) := by decide +kernel
theorem dX11_init_82 : decode cX11_init 82 = .ok (.putfield 37, 3) := by decide +kernel
theorem dX11_init_85 : decode cX11_init 85 = .ok (.aload_n 0, 1) := by decide +kernel
theorem dX11_init_86 : decode cX11_init 86 = .ok (.iconst 3, 1) := by decide +kernel
theorem dX11_init_87 : decode cX11_init 87 = .ok (.newarray .int, 2) := by decide +kernel
theorem dX11_init_89 : decode cX11_init 89 = .ok (.putfield 40, 3) := by decide +kernel
theorem dX11_init_92 : decode cX11_init 92 = .ok (.aload_n 0, 1) := by decide +kernel
theorem dX11_init_93 : decode cX11_init 93 = .ok (.iconst 5, 1) := by decide +kernel
theorem dX11_init_94 : decode cX11_init 94 = .ok (.newarray .long, 2) := by decide +kernel
theorem dX11_init_96 : decode cX11_init 96 = .ok (.putfield 43, 3) := by decide +kernel
theorem dX11_init_99 : decode cX11_init 99 = .ok (.aload_n 0, 1) := by decide +kernel
theorem dX11_init_100 : decode cX11_init 100 = .ok (.sipush 365, 3) := by decide +kernel
theorem dX11_init_103 : decode cX11_init 103 = .ok (.newarray .int, 2) := by decide +kernel
theorem dX11_init_105 : decode cX11_init 105 = .ok (.putfield 47, 3) := by decide +kernel
theorem dX11_init_108 : decode cX11_init 108 = .ok (.aload_n 0, 1) := by decide +kernel
theorem dX11_init_109 : decode cX11_init 109 = .ok (.bipush 12, 2) := by decide +kernel
theorem dX11_init_111 : decode cX11_init 111 = .ok (.newarray .int, 2) := by decide +kernel
theorem dX11_init_113 : decode cX11_init 113 = .ok (.putfield 50, 3) := by decide +kernel
theorem dX11_init_116 : decode cX11_init 116 = .ok (.return_, 1) := by decide +kernel
theorem dX11_thrown_0 : decode cX11_thrown 0 = .ok (.aload_n 0, 1) := by decide +kernel
theorem dX11_thrown_1 : decode cX11_thrown 1 = .ok (.getfield 53, 3) := by decide +kernel
theorem dX11_thrown_4 : decode cX11_thrown 4 = .ok (.ireturn, 1) := by decide +kernel
theorem dX11_isIn_0 : decode cX11_isIn 0 = .ok (.lload_n 0, 1) := by decide +kernel
theorem dX11_isIn_1 : decode cX11_isIn 1 = .ok (.lload_n 2, 1) := by decide +kernel
theorem dX11_isIn_2 : decode cX11_isIn 2 = .ok (.lcmp, 1) := by decide +kernel
theorem dX11_isIn_3 : decode cX11_isIn 3 = .ok (.ifCond .lt 14, 3) := by decide +kernel
theorem dX11_isIn_6 : decode cX11_isIn 6 = .ok (.lload_n 0, 1) := by decide +kernel
theorem dX11_isIn_7 : decode cX11_isIn 7 = .ok (.lload 4, 2) := by decide +kernel
theorem dX11_isIn_9 : decode cX11_isIn 9 = .ok (.lcmp, 1) := by decide +kernel
theorem dX11_isIn_10 : decode cX11_isIn 10 = .ok (.ifCond .gt 7, 3) := by decide +kernel
theorem dX11_isIn_13 : decode cX11_isIn 13 = .ok (.iconst 1, 1) := by decide +kernel
theorem dX11_isIn_14 : decode cX11_isIn 14 = .ok (.goto 4, 3) := by decide +kernel
theorem dX11_isIn_17 : decode cX11_isIn 17 = .ok (.iconst 0, 1) := by decide +kernel
theorem dX11_isIn_18 : decode cX11_isIn 18 = .ok (.ireturn, 1) := by decide +kernel
theorem dX11_isShelf_0 : decode cX11_isShelf 0 = .ok (.iload_n 0, 1) := by decide +kernel
theorem dX11_isShelf_1 : decode cX11_isShelf 1 = .ok (.i2l, 1) := by decide +kernel
theorem dX11_isShelf_2 : decode cX11_isShelf 2 = .ok (.lconst 0, 1) := by decide +kernel
theorem dX11_isShelf_3 : decode cX11_isShelf 3 = .ok (.ldc2_w 57, 3) := by decide +kernel
theorem dX11_isShelf_6 : decode cX11_isShelf 6 = .ok (.invokestatic 59, 3) := by decide +kernel
theorem dX11_isShelf_9 : decode cX11_isShelf 9 = .ok (.ireturn, 1) := by decide +kernel
theorem dX11_isShip_0 : decode cX11_isShip 0 = .ok (.iload_n 1, 1) := by decide +kernel
theorem dX11_isShip_1 : decode cX11_isShip 1 = .ok (.i2l, 1) := by decide +kernel
theorem dX11_isShip_2 : decode cX11_isShip 2 = .ok (.lconst 0, 1) := by decide +kernel
theorem dX11_isShip_3 : decode cX11_isShip 3 = .ok (.aload_n 0, 1) := by decide +kernel
theorem dX11_isShip_4 : decode cX11_isShip 4 = .ok (.getfield 9, 3) := by decide +kernel
theorem dX11_isShip_7 : decode cX11_isShip 7 = .ok (.iconst 0, 1) := by decide +kernel
theorem dX11_isShip_8 : decode cX11_isShip 8 = .ok (.iaload, 1) := by decide +kernel
theorem dX11_isShip_9 : decode cX11_isShip 9 = .ok (.iconst 1, 1) := by decide +kernel
theorem dX11_isShip_10 : decode cX11_isShip 10 = .ok (.isub, 1) := by decide +kernel
theorem dX11_isShip_11 : decode cX11_isShip 11 = .ok (.i2l, 1) := by decide +kernel
theorem dX11_isShip_12 : decode cX11_isShip 12 = .ok (.invokestatic 59, 3) := by decide +kernel
theorem dX11_isShip_15 : decode cX11_isShip 15 = .ok (.ireturn, 1) := by decide +kernel
theorem dX11_isMan_0 : decode cX11_isMan 0 = .ok (.iload_n 1, 1) := by decide +kernel
theorem dX11_isMan_1 : decode cX11_isMan 1 = .ok (.i2l, 1) := by decide +kernel
theorem dX11_isMan_2 : decode cX11_isMan 2 = .ok (.lconst 0, 1) := by decide +kernel
theorem dX11_isMan_3 : decode cX11_isMan 3 = .ok (.aload_n 0, 1) := by decide +kernel
theorem dX11_isMan_4 : decode cX11_isMan 4 = .ok (.getfield 9, 3) := by decide +kernel
theorem dX11_isMan_7 : decode cX11_isMan 7 = .ok (.iconst 1, 1) := by decide +kernel
theorem dX11_isMan_8 : decode cX11_isMan 8 = .ok (.iaload, 1) := by decide +kernel
theorem dX11_isMan_9 : decode cX11_isMan 9 = .ok (.iconst 1, 1) := by decide +kernel
theorem dX11_isMan_10 : decode cX11_isMan 10 = .ok (.isub, 1) := by decide +kernel
theorem dX11_isMan_11 : decode cX11_isMan 11 = .ok (.i2l, 1) := by decide +kernel
theorem dX11_isMan_12 : decode cX11_isMan 12 = .ok (.invokestatic 59, 3) := by decide +kernel
theorem dX11_isMan_15 : decode cX11_isMan 15 = .ok (.ireturn, 1) := by decide +kernel
theorem dX11_kind_0 : decode cX11_kind 0 = .ok (.aload_n 0, 1) := by decide +kernel
theorem dX11_kind_1 : decode cX11_kind 1 = .ok (.getfield 9, 3) := by decide +kernel
theorem dX11_kind_4 : decode cX11_kind 4 = .ok (.iconst 3, 1) := by decide +kernel
theorem dX11_kind_5 : decode cX11_kind 5 = .ok (.iconst 2, 1) := by decide +kernel
theorem dX11_kind_6 : decode cX11_kind 6 = .ok (.iload_n 1, 1) := by decide +kernel
theorem dX11_kind_7 : decode cX11_kind 7 = .ok (.imul, 1) := by decide +kernel
theorem dX11_kind_8 : decode cX11_kind 8 = .ok (.iadd, 1) := by decide +kernel
theorem dX11_kind_9 : decode cX11_kind 9 = .ok (.iaload, 1) := by decide +kernel
theorem dX11_kind_10 : decode cX11_kind 10 = .ok (.ireturn, 1) := by decide +kernel
theorem dX11_figure_0 : decode cX11_figure 0 = .ok (.aload_n 0, 1) := by decide +kernel
theorem dX11_figure_1 : decode cX11_figure 1 = .ok (.getfield 9, 3) := by decide +kernel
theorem dX11_figure_4 : decode cX11_figure 4 = .ok (.iconst 3, 1) := by decide +kernel
theorem dX11_figure_5 : decode cX11_figure 5 = .ok (.iconst 2, 1) := by decide +kernel
theorem dX11_figure_6 : decode cX11_figure 6 = .ok (.iload_n 1, 1) := by decide +kernel
theorem dX11_figure_7 : decode cX11_figure 7 = .ok (.imul, 1) := by decide +kernel
theorem dX11_figure_8 : decode cX11_figure 8 = .ok (.iadd, 1) := by decide +kernel
theorem dX11_figure_9 : decode cX11_figure 9 = .ok (.iconst 1, 1) := by decide +kernel
theorem dX11_figure_10 : decode cX11_figure 10 = .ok (.iadd, 1) := by decide +kernel
theorem dX11_figure_11 : decode cX11_figure 11 = .ok (.iaload, 1) := by decide +kernel
theorem dX11_figure_12 : decode cX11_figure 12 = .ok (.ireturn, 1) := by decide +kernel
theorem dX11_get_0 : decode cX11_get 0 = .ok (.aload_n 0, 1) := by decide +kernel
theorem dX11_get_1 : decode cX11_get 1 = .ok (.getfield 9, 3) := by decide +kernel
theorem dX11_get_4 : decode cX11_get 4 = .ok (.bipush 13, 2) := by decide +kernel
theorem dX11_get_6 : decode cX11_get 6 = .ok (.iconst 5, 1) := by decide +kernel
theorem dX11_get_7 : decode cX11_get 7 = .ok (.iload_n 1, 1) := by decide +kernel
theorem dX11_get_8 : decode cX11_get 8 = .ok (.imul, 1) := by decide +kernel
theorem dX11_get_9 : decode cX11_get 9 = .ok (.iadd, 1) := by decide +kernel
theorem dX11_get_10 : decode cX11_get 10 = .ok (.iload_n 2, 1) := by decide +kernel
theorem dX11_get_11 : decode cX11_get 11 = .ok (.iadd, 1) := by decide +kernel
theorem dX11_get_12 : decode cX11_get 12 = .ok (.iaload, 1) := by decide +kernel
theorem dX11_get_13 : decode cX11_get 13 = .ok (.ireturn, 1) := by decide +kernel
theorem dX11_puts_0 : decode cX11_puts 0 = .ok (.aload_n 0, 1) := by decide +kernel
theorem dX11_puts_1 : decode cX11_puts 1 = .ok (.getfield 9, 3) := by decide +kernel
theorem dX11_puts_4 : decode cX11_puts 4 = .ok (.bipush 13, 2) := by decide +kernel
theorem dX11_puts_6 : decode cX11_puts 6 = .ok (.iconst 5, 1) := by decide +kernel
theorem dX11_puts_7 : decode cX11_puts 7 = .ok (.iload_n 1, 1) := by decide +kernel
theorem dX11_puts_8 : decode cX11_puts 8 = .ok (.imul, 1) := by decide +kernel
theorem dX11_puts_9 : decode cX11_puts 9 = .ok (.iadd, 1) := by decide +kernel
theorem dX11_puts_10 : decode cX11_puts 10 = .ok (.iload_n 2, 1) := by decide +kernel
theorem dX11_puts_11 : decode cX11_puts 11 = .ok (.iadd, 1) := by decide +kernel
theorem dX11_puts_12 : decode cX11_puts 12 = .ok (.iload_n 3, 1) := by decide +kernel
theorem dX11_puts_13 : decode cX11_puts 13 = .ok (.iastore, 1) := by decide +kernel
theorem dX11_puts_14 : decode cX11_puts 14 = .ok (.return_, 1) := by decide +kernel
theorem dX11_copies_0 : decode cX11_copies 0 = .ok (.iconst 0, 1) := by decide +kernel
theorem dX11_copies_1 : decode cX11_copies 1 = .ok (.istore_n 2, 1) := by decide +kernel
theorem dX11_copies_2 : decode cX11_copies 2 = .ok (.iload_n 2, 1) := by decide +kernel
theorem dX11_copies_3 : decode cX11_copies 3 = .ok (.bipush 73, 2) := by decide +kernel
theorem dX11_copies_5 : decode cX11_copies 5 = .ok (.if_icmp .ge 15, 3) := by decide +kernel
theorem dX11_copies_8 : decode cX11_copies 8 = .ok (.aload_n 1, 1) := by decide +kernel
theorem dX11_copies_9 : decode cX11_copies 9 = .ok (.iload_n 2, 1) := by decide +kernel
theorem dX11_copies_10 : decode cX11_copies 10 = .ok (.aload_n 0, 1) := by decide +kernel
theorem dX11_copies_11 : decode cX11_copies 11 = .ok (.iload_n 2, 1) := by decide +kernel
theorem dX11_copies_12 : decode cX11_copies 12 = .ok (.iaload, 1) := by decide +kernel
theorem dX11_copies_13 : decode cX11_copies 13 = .ok (.iastore, 1) := by decide +kernel
theorem dX11_copies_14 : decode cX11_copies 14 = .ok (.iinc 2 1, 3) := by decide +kernel
theorem dX11_copies_17 : decode cX11_copies 17 = .ok (.goto (-15), 3) := by decide +kernel
theorem dX11_copies_20 : decode cX11_copies 20 = .ok (.return_, 1) := by decide +kernel
theorem dX11_common_0 : decode cX11_common 0 = .ok (.lload_n 2, 1) := by decide +kernel
theorem dX11_common_1 : decode cX11_common 1 = .ok (.lconst 0, 1) := by decide +kernel
theorem dX11_common_2 : decode cX11_common 2 = .ok (.lcmp, 1) := by decide +kernel
theorem dX11_common_3 : decode cX11_common 3 = .ok (.ifCond .ne 7, 3) := by decide +kernel
theorem dX11_common_6 : decode cX11_common 6 = .ok (.lload_n 0, 1) := by decide +kernel
theorem dX11_common_7 : decode cX11_common 7 = .ok (.goto 10, 3) := by decide +kernel
theorem dX11_common_10 : decode cX11_common 10 = .ok (.lload_n 2, 1) := by decide +kernel
theorem dX11_common_11 : decode cX11_common 11 = .ok (.lload_n 0, 1) := by decide +kernel
theorem dX11_common_12 : decode cX11_common 12 = .ok (.lload_n 2, 1) := by decide +kernel
theorem dX11_common_13 : decode cX11_common 13 = .ok (.lrem, 1) := by decide +kernel
theorem dX11_common_14 : decode cX11_common 14 = .ok (.invokestatic 63, 3) := by decide +kernel
theorem dX11_common_17 : decode cX11_common 17 = .ok (.lreturn, 1) := by decide +kernel
theorem dX11_aboard_0 : decode cX11_aboard 0 = .ok (.iconst 0, 1) := by decide +kernel
theorem dX11_aboard_1 : decode cX11_aboard 1 = .ok (.istore_n 2, 1) := by decide +kernel
theorem dX11_aboard_2 : decode cX11_aboard 2 = .ok (.iconst 0, 1) := by decide +kernel
theorem dX11_aboard_3 : decode cX11_aboard 3 = .ok (.istore_n 3, 1) := by decide +kernel
theorem dX11_aboard_4 : decode cX11_aboard 4 = .ok (.iload_n 3, 1) := by decide +kernel
theorem dX11_aboard_5 : decode cX11_aboard 5 = .ok (.aload_n 0, 1) := by decide +kernel
theorem dX11_aboard_6 : decode cX11_aboard 6 = .ok (.getfield 9, 3) := by decide +kernel
theorem dX11_aboard_9 : decode cX11_aboard 9 = .ok (.iconst 1, 1) := by decide +kernel
theorem dX11_aboard_10 : decode cX11_aboard 10 = .ok (.iaload, 1) := by decide +kernel
theorem dX11_aboard_11 : decode cX11_aboard 11 = .ok (.if_icmp .ge 25, 3) := by decide +kernel
theorem dX11_aboard_14 : decode cX11_aboard 14 = .ok (.aload_n 0, 1) := by decide +kernel
theorem dX11_aboard_15 : decode cX11_aboard 15 = .ok (.iload_n 3, 1) := by decide +kernel
theorem dX11_aboard_16 : decode cX11_aboard 16 = .ok (.iconst 0, 1) := by decide +kernel
theorem dX11_aboard_17 : decode cX11_aboard 17 = .ok (.invokevirtual 67, 3) := by decide +kernel
theorem dX11_aboard_20 : decode cX11_aboard 20 = .ok (.iload_n 1, 1) := by decide +kernel
theorem dX11_aboard_21 : decode cX11_aboard 21 = .ok (.if_icmp .ne 9, 3) := by decide +kernel
theorem dX11_aboard_24 : decode cX11_aboard 24 = .ok (.iload_n 2, 1) := by decide +kernel
theorem dX11_aboard_25 : decode cX11_aboard 25 = .ok (.iconst 1, 1) := by decide +kernel
theorem dX11_aboard_26 : decode cX11_aboard 26 = .ok (.iload_n 3, 1) := by decide +kernel
theorem dX11_aboard_27 : decode cX11_aboard 27 = .ok (.ishl, 1) := by decide +kernel
theorem dX11_aboard_28 : decode cX11_aboard 28 = .ok (.ior, 1) := by decide +kernel
theorem dX11_aboard_29 : decode cX11_aboard 29 = .ok (.istore_n 2, 1) := by decide +kernel
theorem dX11_aboard_30 : decode cX11_aboard 30 = .ok (.iinc 3 1, 3) := by decide +kernel
theorem dX11_aboard_33 : decode cX11_aboard 33 = .ok (.goto (-29), 3) := by decide +kernel
theorem dX11_aboard_36 : decode cX11_aboard 36 = .ok (.iload_n 2, 1) := by decide +kernel
theorem dX11_aboard_37 : decode cX11_aboard 37 = .ok (.ireturn, 1) := by decide +kernel
theorem dX11_bits_0 : decode cX11_bits 0 = .ok (.iconst 0, 1) := by decide +kernel
theorem dX11_bits_1 : decode cX11_bits 1 = .ok (.istore_n 1, 1) := by decide +kernel
theorem dX11_bits_2 : decode cX11_bits 2 = .ok (.iload_n 0, 1) := by decide +kernel
theorem dX11_bits_3 : decode cX11_bits 3 = .ok (.istore_n 2, 1) := by decide +kernel
theorem dX11_bits_4 : decode cX11_bits 4 = .ok (.iload_n 2, 1) := by decide +kernel
theorem dX11_bits_5 : decode cX11_bits 5 = .ok (.ifCond .le 16, 3) := by decide +kernel
theorem dX11_bits_8 : decode cX11_bits 8 = .ok (.iload_n 1, 1) := by decide +kernel
theorem dX11_bits_9 : decode cX11_bits 9 = .ok (.iload_n 2, 1) := by decide +kernel
theorem dX11_bits_10 : decode cX11_bits 10 = .ok (.iconst 1, 1) := by decide +kernel
theorem dX11_bits_11 : decode cX11_bits 11 = .ok (.iand, 1) := by decide +kernel
theorem dX11_bits_12 : decode cX11_bits 12 = .ok (.iadd, 1) := by decide +kernel
theorem dX11_bits_13 : decode cX11_bits 13 = .ok (.istore_n 1, 1) := by decide +kernel
theorem dX11_bits_14 : decode cX11_bits 14 = .ok (.iload_n 2, 1) := by decide +kernel
theorem dX11_bits_15 : decode cX11_bits 15 = .ok (.iconst 1, 1) := by decide +kernel
theorem dX11_bits_16 : decode cX11_bits 16 = .ok (.ishr, 1) := by decide +kernel
theorem dX11_bits_17 : decode cX11_bits 17 = .ok (.istore_n 2, 1) := by decide +kernel
theorem dX11_bits_18 : decode cX11_bits 18 = .ok (.goto (-14), 3) := by decide +kernel
theorem dX11_bits_21 : decode cX11_bits 21 = .ok (.iload_n 1, 1) := by decide +kernel
theorem dX11_bits_22 : decode cX11_bits 22 = .ok (.ireturn, 1) := by decide +kernel
theorem dX11_at_0 : decode cX11_at 0 = .ok (.iload_n 1, 1) := by decide +kernel
theorem dX11_at_1 : decode cX11_at 1 = .ok (.istore_n 2, 1) := by decide +kernel
theorem dX11_at_2 : decode cX11_at 2 = .ok (.iconst 0, 1) := by decide +kernel
theorem dX11_at_3 : decode cX11_at 3 = .ok (.istore_n 3, 1) := by decide +kernel
theorem dX11_at_4 : decode cX11_at 4 = .ok (.iload_n 2, 1) := by decide +kernel
theorem dX11_at_5 : decode cX11_at 5 = .ok (.ifCond .gt 11, 3) := by decide +kernel
theorem dX11_at_8 : decode cX11_at 8 = .ok (.iload_n 0, 1) := by decide +kernel
theorem dX11_at_9 : decode cX11_at 9 = .ok (.iload_n 3, 1) := by decide +kernel
theorem dX11_at_10 : decode cX11_at 10 = .ok (.ishr, 1) := by decide +kernel
theorem dX11_at_11 : decode cX11_at 11 = .ok (.iconst 1, 1) := by decide +kernel
theorem dX11_at_12 : decode cX11_at 12 = .ok (.iand, 1) := by decide +kernel
theorem dX11_at_13 : decode cX11_at 13 = .ok (.ifCond .ne 17, 3) := by decide +kernel
theorem dX11_at_16 : decode cX11_at 16 = .ok (.iload_n 2, 1) := by decide +kernel
theorem dX11_at_17 : decode cX11_at 17 = .ok (.iload_n 0, 1) := by decide +kernel
theorem dX11_at_18 : decode cX11_at 18 = .ok (.iload_n 3, 1) := by decide +kernel
theorem dX11_at_19 : decode cX11_at 19 = .ok (.ishr, 1) := by decide +kernel
theorem dX11_at_20 : decode cX11_at 20 = .ok (.iconst 1, 1) := by decide +kernel
theorem dX11_at_21 : decode cX11_at 21 = .ok (.iand, 1) := by decide +kernel
theorem dX11_at_22 : decode cX11_at 22 = .ok (.isub, 1) := by decide +kernel
theorem dX11_at_23 : decode cX11_at 23 = .ok (.istore_n 2, 1) := by decide +kernel
theorem dX11_at_24 : decode cX11_at 24 = .ok (.iinc 3 1, 3) := by decide +kernel
theorem dX11_at_27 : decode cX11_at 27 = .ok (.goto (-23), 3) := by decide +kernel
theorem dX11_at_30 : decode cX11_at 30 = .ok (.iload_n 3, 1) := by decide +kernel
theorem dX11_at_31 : decode cX11_at 31 = .ok (.ireturn, 1) := by decide +kernel
theorem dX11_bySince_0 : decode cX11_bySince 0 = .ok (.bipush (-4), 2) := by decide +kernel
theorem dX11_bySince_2 : decode cX11_bySince 2 = .ok (.istore_n 3, 1) := by decide +kernel
theorem dX11_bySince_3 : decode cX11_bySince 3 = .ok (.iconst 0, 1) := by decide +kernel
theorem dX11_bySince_4 : decode cX11_bySince 4 = .ok (.istore 4, 2) := by decide +kernel
theorem dX11_bySince_6 : decode cX11_bySince 6 = .ok (.iload 4, 2) := by decide +kernel
theorem dX11_bySince_8 : decode cX11_bySince 8 = .ok (.aload_n 0, 1) := by decide +kernel
theorem dX11_bySince_9 : decode cX11_bySince 9 = .ok (.getfield 9, 3) := by decide +kernel
theorem dX11_bySince_12 : decode cX11_bySince 12 = .ok (.iconst 1, 1) := by decide +kernel
theorem dX11_bySince_13 : decode cX11_bySince 13 = .ok (.iaload, 1) := by decide +kernel
theorem dX11_bySince_14 : decode cX11_bySince 14 = .ok (.if_icmp .ge 67, 3) := by decide +kernel
theorem dX11_bySince_17 : decode cX11_bySince 17 = .ok (.iload_n 1, 1) := by decide +kernel
theorem dX11_bySince_18 : decode cX11_bySince 18 = .ok (.iload 4, 2) := by decide +kernel
theorem dX11_bySince_20 : decode cX11_bySince 20 = .ok (.ishr, 1) := by decide +kernel
theorem dX11_bySince_21 : decode cX11_bySince 21 = .ok (.iconst 1, 1) := by decide +kernel
theorem dX11_bySince_22 : decode cX11_bySince 22 = .ok (.iand, 1) := by decide +kernel
theorem dX11_bySince_23 : decode cX11_bySince 23 = .ok (.ifCond .ne 6, 3) := by decide +kernel
theorem dX11_bySince_26 : decode cX11_bySince 26 = .ok (.goto 49, 3) := by decide +kernel
theorem dX11_bySince_29 : decode cX11_bySince 29 = .ok (.iload_n 3, 1) := by decide +kernel
theorem dX11_bySince_30 : decode cX11_bySince 30 = .ok (.ifCond .lt 42, 3) := by decide +kernel
theorem dX11_bySince_33 : decode cX11_bySince 33 = .ok (.iload_n 2, 1) := by decide +kernel
theorem dX11_bySince_34 : decode cX11_bySince 34 = .ok (.ifCond .eq 22, 3) := by decide +kernel
theorem dX11_bySince_37 : decode cX11_bySince 37 = .ok (.aload_n 0, 1) := by decide +kernel
theorem dX11_bySince_38 : decode cX11_bySince 38 = .ok (.iload 4, 2) := by decide +kernel
theorem dX11_bySince_40 : decode cX11_bySince 40 = .ok (.iconst 3, 1) := by decide +kernel
theorem dX11_bySince_41 : decode cX11_bySince 41 = .ok (.invokevirtual 67, 3) := by decide +kernel
theorem dX11_bySince_44 : decode cX11_bySince 44 = .ok (.aload_n 0, 1) := by decide +kernel
theorem dX11_bySince_45 : decode cX11_bySince 45 = .ok (.iload_n 3, 1) := by decide +kernel
theorem dX11_bySince_46 : decode cX11_bySince 46 = .ok (.iconst 3, 1) := by decide +kernel
theorem dX11_bySince_47 : decode cX11_bySince 47 = .ok (.invokevirtual 67, 3) := by decide +kernel
theorem dX11_bySince_50 : decode cX11_bySince 50 = .ok (.if_icmp .lt 25, 3) := by decide +kernel
theorem dX11_bySince_53 : decode cX11_bySince 53 = .ok (.goto 19, 3) := by decide +kernel
theorem dX11_bySince_56 : decode cX11_bySince 56 = .ok (.aload_n 0, 1) := by decide +kernel
theorem dX11_bySince_57 : decode cX11_bySince 57 = .ok (.iload 4, 2) := by decide +kernel
theorem dX11_bySince_59 : decode cX11_bySince 59 = .ok (.iconst 3, 1) := by decide +kernel
theorem dX11_bySince_60 : decode cX11_bySince 60 = .ok (.invokevirtual 67, 3) := by decide +kernel
theorem dX11_bySince_63 : decode cX11_bySince 63 = .ok (.aload_n 0, 1) := by decide +kernel
theorem dX11_bySince_64 : decode cX11_bySince 64 = .ok (.iload_n 3, 1) := by decide +kernel
theorem dX11_bySince_65 : decode cX11_bySince 65 = .ok (.iconst 3, 1) := by decide +kernel
theorem dX11_bySince_66 : decode cX11_bySince 66 = .ok (.invokevirtual 67, 3) := by decide +kernel
theorem dX11_bySince_69 : decode cX11_bySince 69 = .ok (.if_icmp .ge 6, 3) := by decide +kernel
theorem dX11_bySince_72 : decode cX11_bySince 72 = .ok (.iload 4, 2) := by decide +kernel
theorem dX11_bySince_74 : decode cX11_bySince 74 = .ok (.istore_n 3, 1) := by decide +kernel
theorem dX11_bySince_75 : decode cX11_bySince 75 = .ok (.iinc 4 1, 3) := by decide +kernel
theorem dX11_bySince_78 : decode cX11_bySince 78 = .ok (.goto (-72), 3) := by decide +kernel
theorem dX11_bySince_81 : decode cX11_bySince 81 = .ok (.iload_n 3, 1) := by decide +kernel
theorem dX11_bySince_82 : decode cX11_bySince 82 = .ok (.ireturn, 1) := by decide +kernel
theorem dX11_notOf_0 : decode cX11_notOf 0 = .ok (.iconst 0, 1) := by decide +kernel
theorem dX11_notOf_1 : decode cX11_notOf 1 = .ok (.istore_n 3, 1) := by decide +kernel
theorem dX11_notOf_2 : decode cX11_notOf 2 = .ok (.iconst 0, 1) := by decide +kernel
theorem dX11_notOf_3 : decode cX11_notOf 3 = .ok (.istore 4, 2) := by decide +kernel
theorem dX11_notOf_5 : decode cX11_notOf 5 = .ok (.iload 4, 2) := by decide +kernel
theorem dX11_notOf_7 : decode cX11_notOf 7 = .ok (.aload_n 0, 1) := by decide +kernel
theorem dX11_notOf_8 : decode cX11_notOf 8 = .ok (.getfield 9, 3) := by decide +kernel
theorem dX11_notOf_11 : decode cX11_notOf 11 = .ok (.iconst 1, 1) := by decide +kernel
theorem dX11_notOf_12 : decode cX11_notOf 12 = .ok (.iaload, 1) := by decide +kernel
theorem dX11_notOf_13 : decode cX11_notOf 13 = .ok (.if_icmp .ge 37, 3) := by decide +kernel
theorem dX11_notOf_16 : decode cX11_notOf 16 = .ok (.iload_n 1, 1) := by decide +kernel
theorem dX11_notOf_17 : decode cX11_notOf 17 = .ok (.iload 4, 2) := by decide +kernel
theorem dX11_notOf_19 : decode cX11_notOf 19 = .ok (.ishr, 1) := by decide +kernel
theorem dX11_notOf_20 : decode cX11_notOf 20 = .ok (.iconst 1, 1) := by decide +kernel
theorem dX11_notOf_21 : decode cX11_notOf 21 = .ok (.iand, 1) := by decide +kernel
theorem dX11_notOf_22 : decode cX11_notOf 22 = .ok (.iconst 1, 1) := by decide +kernel
theorem dX11_notOf_23 : decode cX11_notOf 23 = .ok (.if_icmp .ne 21, 3) := by decide +kernel
theorem dX11_notOf_26 : decode cX11_notOf 26 = .ok (.aload_n 0, 1) := by decide +kernel
theorem dX11_notOf_27 : decode cX11_notOf 27 = .ok (.iload 4, 2) := by decide +kernel
theorem dX11_notOf_29 : decode cX11_notOf 29 = .ok (.iconst 1, 1) := by decide +kernel
theorem dX11_notOf_30 : decode cX11_notOf 30 = .ok (.invokevirtual 67, 3) := by decide +kernel
theorem dX11_notOf_33 : decode cX11_notOf 33 = .ok (.iload_n 2, 1) := by decide +kernel
theorem dX11_notOf_34 : decode cX11_notOf 34 = .ok (.if_icmp .eq 10, 3) := by decide +kernel
theorem dX11_notOf_37 : decode cX11_notOf 37 = .ok (.iload_n 3, 1) := by decide +kernel
theorem dX11_notOf_38 : decode cX11_notOf 38 = .ok (.iconst 1, 1) := by decide +kernel
theorem dX11_notOf_39 : decode cX11_notOf 39 = .ok (.iload 4, 2) := by decide +kernel
theorem dX11_notOf_41 : decode cX11_notOf 41 = .ok (.ishl, 1) := by decide +kernel
theorem dX11_notOf_42 : decode cX11_notOf 42 = .ok (.ior, 1) := by decide +kernel
theorem dX11_notOf_43 : decode cX11_notOf 43 = .ok (.istore_n 3, 1) := by decide +kernel
theorem dX11_notOf_44 : decode cX11_notOf 44 = .ok (.iinc 4 1, 3) := by decide +kernel
theorem dX11_notOf_47 : decode cX11_notOf 47 = .ok (.goto (-42), 3) := by decide +kernel
theorem dX11_notOf_50 : decode cX11_notOf 50 = .ok (.iload_n 3, 1) := by decide +kernel
theorem dX11_notOf_51 : decode cX11_notOf 51 = .ok (.ireturn, 1) := by decide +kernel
theorem dX11_likeTongue_0 : decode cX11_likeTongue 0 = .ok (.iconst 0, 1) := by decide +kernel
theorem dX11_likeTongue_1 : decode cX11_likeTongue 1 = .ok (.istore_n 3, 1) := by decide +kernel
theorem dX11_likeTongue_2 : decode cX11_likeTongue 2 = .ok (.iconst 0, 1) := by decide +kernel
theorem dX11_likeTongue_3 : decode cX11_likeTongue 3 = .ok (.istore 4, 2) := by decide +kernel
theorem dX11_likeTongue_5 : decode cX11_likeTongue 5 = .ok (.iload 4, 2) := by decide +kernel
theorem dX11_likeTongue_7 : decode cX11_likeTongue 7 = .ok (.aload_n 0, 1) := by decide +kernel
theorem dX11_likeTongue_8 : decode cX11_likeTongue 8 = .ok (.getfield 9, 3) := by decide +kernel
theorem dX11_likeTongue_11 : decode cX11_likeTongue 11 = .ok (.iconst 1, 1) := by decide +kernel
theorem dX11_likeTongue_12 : decode cX11_likeTongue 12 = .ok (.iaload, 1) := by decide +kernel
theorem dX11_likeTongue_13 : decode cX11_likeTongue 13 = .ok (.if_icmp .ge 43, 3) := by decide +kernel
theorem dX11_likeTongue_16 : decode cX11_likeTongue 16 = .ok (.iload_n 3, 1) := by decide +kernel
theorem dX11_likeTongue_17 : decode cX11_likeTongue 17 = .ok (.iload_n 1, 1) := by decide +kernel
theorem dX11_likeTongue_18 : decode cX11_likeTongue 18 = .ok (.iload 4, 2) := by decide +kernel
theorem dX11_likeTongue_20 : decode cX11_likeTongue 20 = .ok (.ishr, 1) := by decide +kernel
theorem dX11_likeTongue_21 : decode cX11_likeTongue 21 = .ok (.iconst 1, 1) := by decide +kernel
theorem dX11_likeTongue_22 : decode cX11_likeTongue 22 = .ok (.iand, 1) := by decide +kernel
theorem dX11_likeTongue_23 : decode cX11_likeTongue 23 = .ok (.iconst 1, 1) := by decide +kernel
theorem dX11_likeTongue_24 : decode cX11_likeTongue 24 = .ok (.if_icmp .ne 23, 3) := by decide +kernel
theorem dX11_likeTongue_27 : decode cX11_likeTongue 27 = .ok (.aload_n 0, 1) := by decide +kernel
theorem dX11_likeTongue_28 : decode cX11_likeTongue 28 = .ok (.iload 4, 2) := by decide +kernel
theorem dX11_likeTongue_30 : decode cX11_likeTongue 30 = .ok (.iconst 2, 1) := by decide +kernel
theorem dX11_likeTongue_31 : decode cX11_likeTongue 31 = .ok (.invokevirtual 67, 3) := by decide +kernel
theorem dX11_likeTongue_34 : decode cX11_likeTongue 34 = .ok (.aload_n 0, 1) := by decide +kernel
theorem dX11_likeTongue_35 : decode cX11_likeTongue 35 = .ok (.iload_n 2, 1) := by decide +kernel
theorem dX11_likeTongue_36 : decode cX11_likeTongue 36 = .ok (.iconst 2, 1) := by decide +kernel
theorem dX11_likeTongue_37 : decode cX11_likeTongue 37 = .ok (.invokevirtual 67, 3) := by decide +kernel
theorem dX11_likeTongue_40 : decode cX11_likeTongue 40 = .ok (.if_icmp .ne 7, 3) := by decide +kernel
theorem dX11_likeTongue_43 : decode cX11_likeTongue 43 = .ok (.iconst 1, 1) := by decide +kernel
theorem dX11_likeTongue_44 : decode cX11_likeTongue 44 = .ok (.goto 4, 3) := by decide +kernel
theorem dX11_likeTongue_47 : decode cX11_likeTongue 47 = .ok (.iconst 0, 1) := by decide +kernel
theorem dX11_likeTongue_48 : decode cX11_likeTongue 48 = .ok (.iadd, 1) := by decide +kernel
theorem dX11_likeTongue_49 : decode cX11_likeTongue 49 = .ok (.istore_n 3, 1) := by decide +kernel
theorem dX11_likeTongue_50 : decode cX11_likeTongue 50 = .ok (.iinc 4 1, 3) := by decide +kernel
theorem dX11_likeTongue_53 : decode cX11_likeTongue 53 = .ok (.goto (-48), 3) := by decide +kernel
theorem dX11_likeTongue_56 : decode cX11_likeTongue 56 = .ok (.iload_n 3, 1) := by decide +kernel
theorem dX11_likeTongue_57 : decode cX11_likeTongue 57 = .ok (.ireturn, 1) := by decide +kernel
theorem dX11_bestOf_0 : decode cX11_bestOf 0 = .ok (.bipush (-4), 2) := by decide +kernel
theorem dX11_bestOf_2 : decode cX11_bestOf 2 = .ok (.istore_n 3, 1) := by decide +kernel
theorem dX11_bestOf_3 : decode cX11_bestOf 3 = .ok (.iconst 0, 1) := by decide +kernel
theorem dX11_bestOf_4 : decode cX11_bestOf 4 = .ok (.istore 4, 2) := by decide +kernel
theorem dX11_bestOf_6 : decode cX11_bestOf 6 = .ok (.iload 4, 2) := by decide +kernel
theorem dX11_bestOf_8 : decode cX11_bestOf 8 = .ok (.aload_n 0, 1) := by decide +kernel
theorem dX11_bestOf_9 : decode cX11_bestOf 9 = .ok (.getfield 9, 3) := by decide +kernel
theorem dX11_bestOf_12 : decode cX11_bestOf 12 = .ok (.iconst 1, 1) := by decide +kernel
theorem dX11_bestOf_13 : decode cX11_bestOf 13 = .ok (.iaload, 1) := by decide +kernel
theorem dX11_bestOf_14 : decode cX11_bestOf 14 = .ok (.if_icmp .ge 42, 3) := by decide +kernel
theorem dX11_bestOf_17 : decode cX11_bestOf 17 = .ok (.iload_n 2, 1) := by decide +kernel
theorem dX11_bestOf_18 : decode cX11_bestOf 18 = .ok (.iload 4, 2) := by decide +kernel
theorem dX11_bestOf_20 : decode cX11_bestOf 20 = .ok (.ishr, 1) := by decide +kernel
theorem dX11_bestOf_21 : decode cX11_bestOf 21 = .ok (.iconst 1, 1) := by decide +kernel
theorem dX11_bestOf_22 : decode cX11_bestOf 22 = .ok (.iand, 1) := by decide +kernel
theorem dX11_bestOf_23 : decode cX11_bestOf 23 = .ok (.iconst 1, 1) := by decide +kernel
theorem dX11_bestOf_24 : decode cX11_bestOf 24 = .ok (.if_icmp .ne 26, 3) := by decide +kernel
theorem dX11_bestOf_27 : decode cX11_bestOf 27 = .ok (.iload_n 3, 1) := by decide +kernel
theorem dX11_bestOf_28 : decode cX11_bestOf 28 = .ok (.ifCond .lt 19, 3) := by decide +kernel
theorem dX11_bestOf_31 : decode cX11_bestOf 31 = .ok (.aload_n 0, 1) := by decide +kernel
theorem dX11_bestOf_32 : decode cX11_bestOf 32 = .ok (.iload_n 1, 1) := by decide +kernel
theorem dX11_bestOf_33 : decode cX11_bestOf 33 = .ok (.iload 4, 2) := by decide +kernel
theorem dX11_bestOf_35 : decode cX11_bestOf 35 = .ok (.invokevirtual 71, 3) := by decide +kernel
theorem dX11_bestOf_38 : decode cX11_bestOf 38 = .ok (.aload_n 0, 1) := by decide +kernel
theorem dX11_bestOf_39 : decode cX11_bestOf 39 = .ok (.iload_n 1, 1) := by decide +kernel
theorem dX11_bestOf_40 : decode cX11_bestOf 40 = .ok (.iload_n 3, 1) := by decide +kernel
theorem dX11_bestOf_41 : decode cX11_bestOf 41 = .ok (.invokevirtual 71, 3) := by decide +kernel
theorem dX11_bestOf_44 : decode cX11_bestOf 44 = .ok (.if_icmp .le 6, 3) := by decide +kernel
theorem dX11_bestOf_47 : decode cX11_bestOf 47 = .ok (.iload 4, 2) := by decide +kernel
theorem dX11_bestOf_49 : decode cX11_bestOf 49 = .ok (.istore_n 3, 1) := by decide +kernel
theorem dX11_bestOf_50 : decode cX11_bestOf 50 = .ok (.iinc 4 1, 3) := by decide +kernel
theorem dX11_bestOf_53 : decode cX11_bestOf 53 = .ok (.goto (-47), 3) := by decide +kernel
theorem dX11_bestOf_56 : decode cX11_bestOf 56 = .ok (.iload_n 3, 1) := by decide +kernel
theorem dX11_bestOf_57 : decode cX11_bestOf 57 = .ok (.ireturn, 1) := by decide +kernel
theorem dX11_gives_0 : decode cX11_gives 0 = .ok (.aload_n 0, 1) := by decide +kernel
theorem dX11_gives_1 : decode cX11_gives 1 = .ok (.iload_n 1, 1) := by decide +kernel
theorem dX11_gives_2 : decode cX11_gives 2 = .ok (.invokevirtual 74, 3) := by decide +kernel
theorem dX11_gives_5 : decode cX11_gives 5 = .ok (.istore_n 2, 1) := by decide +kernel
theorem dX11_gives_6 : decode cX11_gives 6 = .ok (.aload_n 0, 1) := by decide +kernel
theorem dX11_gives_7 : decode cX11_gives 7 = .ok (.iload_n 1, 1) := by decide +kernel
theorem dX11_gives_8 : decode cX11_gives 8 = .ok (.invokevirtual 78, 3) := by decide +kernel
theorem dX11_gives_11 : decode cX11_gives 11 = .ok (.istore_n 3, 1) := by decide +kernel
theorem dX11_gives_12 : decode cX11_gives 12 = .ok (.iload_n 2, 1) := by decide +kernel
theorem dX11_gives_13 : decode cX11_gives 13 = .ok (.ifCond .ne 6, 3) := by decide +kernel
theorem dX11_gives_16 : decode cX11_gives 16 = .ok (.bipush (-4), 2) := by decide +kernel
theorem dX11_gives_18 : decode cX11_gives 18 = .ok (.ireturn, 1) := by decide +kernel
theorem dX11_gives_19 : decode cX11_gives 19 = .ok (.aload_n 0, 1) := by decide +kernel
theorem dX11_gives_20 : decode cX11_gives 20 = .ok (.iload_n 1, 1) := by decide +kernel
theorem dX11_gives_21 : decode cX11_gives 21 = .ok (.invokevirtual 81, 3) := by decide +kernel
theorem dX11_gives_24 : decode cX11_gives 24 = .ok (.tableswitch 167 1 7 #[44, 55, 62, 69, 95, 122, 141], 44) := by decide +kernel
theorem dX11_gives_68 : decode cX11_gives 68 = .ok (.iload_n 2, 1) := by decide +kernel
theorem dX11_gives_69 : decode cX11_gives 69 = .ok (.iload_n 3, 1) := by decide +kernel
theorem dX11_gives_70 : decode cX11_gives 70 = .ok (.iload_n 2, 1) := by decide +kernel
theorem dX11_gives_71 : decode cX11_gives 71 = .ok (.invokestatic 84, 3) := by decide +kernel
theorem dX11_gives_74 : decode cX11_gives 74 = .ok (.irem, 1) := by decide +kernel
theorem dX11_gives_75 : decode cX11_gives 75 = .ok (.invokestatic 87, 3) := by decide +kernel
theorem dX11_gives_78 : decode cX11_gives 78 = .ok (.ireturn, 1) := by decide +kernel
theorem dX11_gives_79 : decode cX11_gives 79 = .ok (.aload_n 0, 1) := by decide +kernel
theorem dX11_gives_80 : decode cX11_gives 80 = .ok (.iload_n 2, 1) := by decide +kernel
theorem dX11_gives_81 : decode cX11_gives 81 = .ok (.iconst 1, 1) := by decide +kernel
theorem dX11_gives_82 : decode cX11_gives 82 = .ok (.invokevirtual 90, 3) := by decide +kernel
theorem dX11_gives_85 : decode cX11_gives 85 = .ok (.ireturn, 1) := by decide +kernel
theorem dX11_gives_86 : decode cX11_gives 86 = .ok (.aload_n 0, 1) := by decide +kernel
theorem dX11_gives_87 : decode cX11_gives 87 = .ok (.iload_n 2, 1) := by decide +kernel
theorem dX11_gives_88 : decode cX11_gives 88 = .ok (.iconst 0, 1) := by decide +kernel
theorem dX11_gives_89 : decode cX11_gives 89 = .ok (.invokevirtual 90, 3) := by decide +kernel
theorem dX11_gives_92 : decode cX11_gives 92 = .ok (.ireturn, 1) := by decide +kernel
theorem dX11_gives_93 : decode cX11_gives 93 = .ok (.aload_n 0, 1) := by decide +kernel
theorem dX11_gives_94 : decode cX11_gives 94 = .ok (.iload_n 2, 1) := by decide +kernel
theorem dX11_gives_95 : decode cX11_gives 95 = .ok (.iload_n 3, 1) := by decide +kernel
theorem dX11_gives_96 : decode cX11_gives 96 = .ok (.iconst 4, 1) := by decide +kernel
theorem dX11_gives_97 : decode cX11_gives 97 = .ok (.irem, 1) := by decide +kernel
theorem dX11_gives_98 : decode cX11_gives 98 = .ok (.invokevirtual 94, 3) := by decide +kernel
theorem dX11_gives_101 : decode cX11_gives 101 = .ok (.istore 4, 2) := by decide +kernel
theorem dX11_gives_103 : decode cX11_gives 103 = .ok (.iload 4, 2) := by decide +kernel
theorem dX11_gives_105 : decode cX11_gives 105 = .ok (.ifCond .ne 7, 3) := by decide +kernel
theorem dX11_gives_108 : decode cX11_gives 108 = .ok (.iload_n 2, 1) := by decide +kernel
theorem dX11_gives_109 : decode cX11_gives 109 = .ok (.goto 5, 3) := by decide +kernel
theorem dX11_gives_112 : decode cX11_gives 112 = .ok (.iload 4, 2) := by decide +kernel
theorem dX11_gives_114 : decode cX11_gives 114 = .ok (.iconst 0, 1) := by decide +kernel
theorem dX11_gives_115 : decode cX11_gives 115 = .ok (.invokestatic 87, 3) := by decide +kernel
theorem dX11_gives_118 : decode cX11_gives 118 = .ok (.ireturn, 1) := by decide +kernel
theorem dX11_gives_119 : decode cX11_gives 119 = .ok (.aload_n 0, 1) := by decide +kernel
theorem dX11_gives_120 : decode cX11_gives 120 = .ok (.iload_n 2, 1) := by decide +kernel
theorem dX11_gives_121 : decode cX11_gives 121 = .ok (.iload_n 3, 1) := by decide +kernel
theorem dX11_gives_122 : decode cX11_gives 122 = .ok (.iconst 4, 1) := by decide +kernel
theorem dX11_gives_123 : decode cX11_gives 123 = .ok (.irem, 1) := by decide +kernel
theorem dX11_gives_124 : decode cX11_gives 124 = .ok (.invokevirtual 94, 3) := by decide +kernel
theorem dX11_gives_127 : decode cX11_gives 127 = .ok (.istore 4, 2) := by decide +kernel
theorem dX11_gives_129 : decode cX11_gives 129 = .ok (.aload_n 0, 1) := by decide +kernel
theorem dX11_gives_130 : decode cX11_gives 130 = .ok (.iload_n 2, 1) := by decide +kernel
theorem dX11_gives_131 : decode cX11_gives 131 = .ok (.iload 4, 2) := by decide +kernel
theorem dX11_gives_133 : decode cX11_gives 133 = .ok (.ifCond .ne 7, 3) := by decide +kernel
theorem dX11_gives_136 : decode cX11_gives 136 = .ok (.iload_n 2, 1) := by decide +kernel
theorem dX11_gives_137 : decode cX11_gives 137 = .ok (.goto 5, 3) := by decide +kernel
theorem dX11_gives_140 : decode cX11_gives 140 = .ok (.iload 4, 2) := by decide +kernel
theorem dX11_gives_142 : decode cX11_gives 142 = .ok (.invokevirtual 97, 3) := by decide +kernel
theorem dX11_gives_145 : decode cX11_gives 145 = .ok (.ireturn, 1) := by decide +kernel
theorem dX11_gives_146 : decode cX11_gives 146 = .ok (.iload_n 2, 1) := by decide +kernel
theorem dX11_gives_147 : decode cX11_gives 147 = .ok (.iload_n 3, 1) := by decide +kernel
theorem dX11_gives_148 : decode cX11_gives 148 = .ok (.ishr, 1) := by decide +kernel
theorem dX11_gives_149 : decode cX11_gives 149 = .ok (.iconst 1, 1) := by decide +kernel
theorem dX11_gives_150 : decode cX11_gives 150 = .ok (.iand, 1) := by decide +kernel
theorem dX11_gives_151 : decode cX11_gives 151 = .ok (.iconst 1, 1) := by decide +kernel
theorem dX11_gives_152 : decode cX11_gives 152 = .ok (.if_icmp .ne 7, 3) := by decide +kernel
theorem dX11_gives_155 : decode cX11_gives 155 = .ok (.iload_n 3, 1) := by decide +kernel
theorem dX11_gives_156 : decode cX11_gives 156 = .ok (.goto 8, 3) := by decide +kernel
theorem dX11_gives_159 : decode cX11_gives 159 = .ok (.iload_n 2, 1) := by decide +kernel
theorem dX11_gives_160 : decode cX11_gives 160 = .ok (.iconst 0, 1) := by decide +kernel
theorem dX11_gives_161 : decode cX11_gives 161 = .ok (.invokestatic 87, 3) := by decide +kernel
theorem dX11_gives_164 : decode cX11_gives 164 = .ok (.ireturn, 1) := by decide +kernel
theorem dX11_gives_165 : decode cX11_gives 165 = .ok (.iload_n 2, 1) := by decide +kernel
theorem dX11_gives_166 : decode cX11_gives 166 = .ok (.iconst 1, 1) := by decide +kernel
theorem dX11_gives_167 : decode cX11_gives 167 = .ok (.iload_n 3, 1) := by decide +kernel
theorem dX11_gives_168 : decode cX11_gives 168 = .ok (.ishl, 1) := by decide +kernel
theorem dX11_gives_169 : decode cX11_gives 169 = .ok (.iconst (-1), 1) := by decide +kernel
theorem dX11_gives_170 : decode cX11_gives 170 = .ok (.ixor, 1) := by decide +kernel
theorem dX11_gives_171 : decode cX11_gives 171 = .ok (.iand, 1) := by decide +kernel
theorem dX11_gives_172 : decode cX11_gives 172 = .ok (.istore 4, 2) := by decide +kernel
theorem dX11_gives_174 : decode cX11_gives 174 = .ok (.aload_n 0, 1) := by decide +kernel
theorem dX11_gives_175 : decode cX11_gives 175 = .ok (.iload 4, 2) := by decide +kernel
theorem dX11_gives_177 : decode cX11_gives 177 = .ok (.ifCond .ne 7, 3) := by decide +kernel
theorem dX11_gives_180 : decode cX11_gives 180 = .ok (.iload_n 2, 1) := by decide +kernel
theorem dX11_gives_181 : decode cX11_gives 181 = .ok (.goto 5, 3) := by decide +kernel
theorem dX11_gives_184 : decode cX11_gives 184 = .ok (.iload 4, 2) := by decide +kernel
theorem dX11_gives_186 : decode cX11_gives 186 = .ok (.iconst 0, 1) := by decide +kernel
theorem dX11_gives_187 : decode cX11_gives 187 = .ok (.invokevirtual 90, 3) := by decide +kernel
theorem dX11_gives_190 : decode cX11_gives 190 = .ok (.ireturn, 1) := by decide +kernel
theorem dX11_gives_191 : decode cX11_gives 191 = .ok (.iload_n 2, 1) := by decide +kernel
theorem dX11_gives_192 : decode cX11_gives 192 = .ok (.iconst 0, 1) := by decide +kernel
theorem dX11_gives_193 : decode cX11_gives 193 = .ok (.invokestatic 87, 3) := by decide +kernel
theorem dX11_gives_196 : decode cX11_gives 196 = .ok (.ireturn, 1) := by decide +kernel
theorem dX11_sails_0 : decode cX11_sails 0 = .ok (.aload_n 0, 1) := by decide +kernel
theorem dX11_sails_1 : decode cX11_sails 1 = .ok (.iload_n 1, 1) := by decide +kernel
theorem dX11_sails_2 : decode cX11_sails 2 = .ok (.invokevirtual 74, 3) := by decide +kernel
theorem dX11_sails_5 : decode cX11_sails 5 = .ok (.istore_n 2, 1) := by decide +kernel
theorem dX11_sails_6 : decode cX11_sails 6 = .ok (.iconst 0, 1) := by decide +kernel
theorem dX11_sails_7 : decode cX11_sails 7 = .ok (.istore_n 3, 1) := by decide +kernel
theorem dX11_sails_8 : decode cX11_sails 8 = .ok (.iload_n 3, 1) := by decide +kernel
theorem dX11_sails_9 : decode cX11_sails 9 = .ok (.aload_n 0, 1) := by decide +kernel
theorem dX11_sails_10 : decode cX11_sails 10 = .ok (.getfield 9, 3) := by decide +kernel
theorem dX11_sails_13 : decode cX11_sails 13 = .ok (.iconst 1, 1) := by decide +kernel
theorem dX11_sails_14 : decode cX11_sails 14 = .ok (.iaload, 1) := by decide +kernel
theorem dX11_sails_15 : decode cX11_sails 15 = .ok (.if_icmp .ge 38, 3) := by decide +kernel
theorem dX11_sails_18 : decode cX11_sails 18 = .ok (.iload_n 2, 1) := by decide +kernel
theorem dX11_sails_19 : decode cX11_sails 19 = .ok (.iload_n 3, 1) := by decide +kernel
theorem dX11_sails_20 : decode cX11_sails 20 = .ok (.ishr, 1) := by decide +kernel
theorem dX11_sails_21 : decode cX11_sails 21 = .ok (.iconst 1, 1) := by decide +kernel
theorem dX11_sails_22 : decode cX11_sails 22 = .ok (.iand, 1) := by decide +kernel
theorem dX11_sails_23 : decode cX11_sails 23 = .ok (.iconst 1, 1) := by decide +kernel
theorem dX11_sails_24 : decode cX11_sails 24 = .ok (.if_icmp .ne 23, 3) := by decide +kernel
theorem dX11_sails_27 : decode cX11_sails 27 = .ok (.aload_n 0, 1) := by decide +kernel
theorem dX11_sails_28 : decode cX11_sails 28 = .ok (.iload_n 3, 1) := by decide +kernel
theorem dX11_sails_29 : decode cX11_sails 29 = .ok (.iconst 4, 1) := by decide +kernel
theorem dX11_sails_30 : decode cX11_sails 30 = .ok (.aload_n 0, 1) := by decide +kernel
theorem dX11_sails_31 : decode cX11_sails 31 = .ok (.iload_n 3, 1) := by decide +kernel
theorem dX11_sails_32 : decode cX11_sails 32 = .ok (.iconst 4, 1) := by decide +kernel
theorem dX11_sails_33 : decode cX11_sails 33 = .ok (.invokevirtual 67, 3) := by decide +kernel
theorem dX11_sails_36 : decode cX11_sails 36 = .ok (.iload_n 2, 1) := by decide +kernel
theorem dX11_sails_37 : decode cX11_sails 37 = .ok (.iconst 1, 1) := by decide +kernel
theorem dX11_sails_38 : decode cX11_sails 38 = .ok (.iload_n 3, 1) := by decide +kernel
theorem dX11_sails_39 : decode cX11_sails 39 = .ok (.ishl, 1) := by decide +kernel
theorem dX11_sails_40 : decode cX11_sails 40 = .ok (.iconst (-1), 1) := by decide +kernel
theorem dX11_sails_41 : decode cX11_sails 41 = .ok (.ixor, 1) := by decide +kernel
theorem dX11_sails_42 : decode cX11_sails 42 = .ok (.iand, 1) := by decide +kernel
theorem dX11_sails_43 : decode cX11_sails 43 = .ok (.ior, 1) := by decide +kernel
theorem dX11_sails_44 : decode cX11_sails 44 = .ok (.invokevirtual 100, 3) := by decide +kernel
theorem dX11_sails_47 : decode cX11_sails 47 = .ok (.iinc 3 1, 3) := by decide +kernel
theorem dX11_sails_50 : decode cX11_sails 50 = .ok (.goto (-42), 3) := by decide +kernel
theorem dX11_sails_53 : decode cX11_sails 53 = .ok (.return_, 1) := by decide +kernel
theorem dX11_mayMeet_0 : decode cX11_mayMeet 0 = .ok (.aload_n 0, 1) := by decide +kernel
theorem dX11_mayMeet_1 : decode cX11_mayMeet 1 = .ok (.iload_n 1, 1) := by decide +kernel
theorem dX11_mayMeet_2 : decode cX11_mayMeet 2 = .ok (.invokevirtual 104, 3) := by decide +kernel
theorem dX11_mayMeet_5 : decode cX11_mayMeet 5 = .ok (.ifCond .eq 36, 3) := by decide +kernel
theorem dX11_mayMeet_8 : decode cX11_mayMeet 8 = .ok (.aload_n 0, 1) := by decide +kernel
theorem dX11_mayMeet_9 : decode cX11_mayMeet 9 = .ok (.iload_n 2, 1) := by decide +kernel
theorem dX11_mayMeet_10 : decode cX11_mayMeet 10 = .ok (.invokevirtual 104, 3) := by decide +kernel
theorem dX11_mayMeet_13 : decode cX11_mayMeet 13 = .ok (.ifCond .eq 28, 3) := by decide +kernel
theorem dX11_mayMeet_16 : decode cX11_mayMeet 16 = .ok (.iload_n 1, 1) := by decide +kernel
theorem dX11_mayMeet_17 : decode cX11_mayMeet 17 = .ok (.iload_n 2, 1) := by decide +kernel
theorem dX11_mayMeet_18 : decode cX11_mayMeet 18 = .ok (.if_icmp .eq 23, 3) := by decide +kernel
theorem dX11_mayMeet_21 : decode cX11_mayMeet 21 = .ok (.aload_n 0, 1) := by decide +kernel
theorem dX11_mayMeet_22 : decode cX11_mayMeet 22 = .ok (.iload_n 1, 1) := by decide +kernel
theorem dX11_mayMeet_23 : decode cX11_mayMeet 23 = .ok (.invokevirtual 74, 3) := by decide +kernel
theorem dX11_mayMeet_26 : decode cX11_mayMeet 26 = .ok (.ifCond .eq 15, 3) := by decide +kernel
theorem dX11_mayMeet_29 : decode cX11_mayMeet 29 = .ok (.aload_n 0, 1) := by decide +kernel
theorem dX11_mayMeet_30 : decode cX11_mayMeet 30 = .ok (.iload_n 2, 1) := by decide +kernel
theorem dX11_mayMeet_31 : decode cX11_mayMeet 31 = .ok (.invokevirtual 74, 3) := by decide +kernel
theorem dX11_mayMeet_34 : decode cX11_mayMeet 34 = .ok (.ifCond .eq 7, 3) := by decide +kernel
theorem dX11_mayMeet_37 : decode cX11_mayMeet 37 = .ok (.iconst 1, 1) := by decide +kernel
theorem dX11_mayMeet_38 : decode cX11_mayMeet 38 = .ok (.goto 4, 3) := by decide +kernel
theorem dX11_mayMeet_41 : decode cX11_mayMeet 41 = .ok (.iconst 0, 1) := by decide +kernel
theorem dX11_mayMeet_42 : decode cX11_mayMeet 42 = .ok (.ireturn, 1) := by decide +kernel
theorem dX11_meets_0 : decode cX11_meets 0 = .ok (.aload_n 0, 1) := by decide +kernel
theorem dX11_meets_1 : decode cX11_meets 1 = .ok (.aload_n 0, 1) := by decide +kernel
theorem dX11_meets_2 : decode cX11_meets 2 = .ok (.iload_n 1, 1) := by decide +kernel
theorem dX11_meets_3 : decode cX11_meets 3 = .ok (.invokevirtual 108, 3) := by decide +kernel
theorem dX11_meets_6 : decode cX11_meets 6 = .ok (.putfield 111, 3) := by decide +kernel
theorem dX11_meets_9 : decode cX11_meets 9 = .ok (.aload_n 0, 1) := by decide +kernel
theorem dX11_meets_10 : decode cX11_meets 10 = .ok (.aload_n 0, 1) := by decide +kernel
theorem dX11_meets_11 : decode cX11_meets 11 = .ok (.iload_n 2, 1) := by decide +kernel
theorem dX11_meets_12 : decode cX11_meets 12 = .ok (.invokevirtual 108, 3) := by decide +kernel
theorem dX11_meets_15 : decode cX11_meets 15 = .ok (.putfield 114, 3) := by decide +kernel
theorem dX11_meets_18 : decode cX11_meets 18 = .ok (.aload_n 0, 1) := by decide +kernel
theorem dX11_meets_19 : decode cX11_meets 19 = .ok (.getfield 9, 3) := by decide +kernel
theorem dX11_meets_22 : decode cX11_meets 22 = .ok (.iconst 2, 1) := by decide +kernel
theorem dX11_meets_23 : decode cX11_meets 23 = .ok (.dup2, 1) := by decide +kernel
theorem dX11_meets_24 : decode cX11_meets 24 = .ok (.iaload, 1) := by decide +kernel
theorem dX11_meets_25 : decode cX11_meets 25 = .ok (.iconst 1, 1) := by decide +kernel
theorem dX11_meets_26 : decode cX11_meets 26 = .ok (.iadd, 1) := by decide +kernel
theorem dX11_meets_27 : decode cX11_meets 27 = .ok (.iastore, 1) := by decide +kernel
theorem dX11_meets_28 : decode cX11_meets 28 = .ok (.aload_n 0, 1) := by decide +kernel
theorem dX11_meets_29 : decode cX11_meets 29 = .ok (.aload_n 0, 1) := by decide +kernel
theorem dX11_meets_30 : decode cX11_meets 30 = .ok (.getfield 111, 3) := by decide +kernel
theorem dX11_meets_33 : decode cX11_meets 33 = .ok (.iconst 0, 1) := by decide +kernel
theorem dX11_meets_34 : decode cX11_meets 34 = .ok (.iload_n 2, 1) := by decide +kernel
theorem dX11_meets_35 : decode cX11_meets 35 = .ok (.invokevirtual 100, 3) := by decide +kernel
theorem dX11_meets_38 : decode cX11_meets 38 = .ok (.aload_n 0, 1) := by decide +kernel
theorem dX11_meets_39 : decode cX11_meets 39 = .ok (.aload_n 0, 1) := by decide +kernel
theorem dX11_meets_40 : decode cX11_meets 40 = .ok (.getfield 114, 3) := by decide +kernel
theorem dX11_meets_43 : decode cX11_meets 43 = .ok (.iconst 0, 1) := by decide +kernel
theorem dX11_meets_44 : decode cX11_meets 44 = .ok (.iload_n 1, 1) := by decide +kernel
theorem dX11_meets_45 : decode cX11_meets 45 = .ok (.invokevirtual 100, 3) := by decide +kernel
theorem dX11_meets_48 : decode cX11_meets 48 = .ok (.aload_n 0, 1) := by decide +kernel
theorem dX11_meets_49 : decode cX11_meets 49 = .ok (.aload_n 0, 1) := by decide +kernel
theorem dX11_meets_50 : decode cX11_meets 50 = .ok (.getfield 111, 3) := by decide +kernel
theorem dX11_meets_53 : decode cX11_meets 53 = .ok (.iconst 3, 1) := by decide +kernel
theorem dX11_meets_54 : decode cX11_meets 54 = .ok (.aload_n 0, 1) := by decide +kernel
theorem dX11_meets_55 : decode cX11_meets 55 = .ok (.getfield 9, 3) := by decide +kernel
theorem dX11_meets_58 : decode cX11_meets 58 = .ok (.iconst 2, 1) := by decide +kernel
theorem dX11_meets_59 : decode cX11_meets 59 = .ok (.iaload, 1) := by decide +kernel
theorem dX11_meets_60 : decode cX11_meets 60 = .ok (.invokevirtual 100, 3) := by decide +kernel
theorem dX11_meets_63 : decode cX11_meets 63 = .ok (.aload_n 0, 1) := by decide +kernel
theorem dX11_meets_64 : decode cX11_meets 64 = .ok (.aload_n 0, 1) := by decide +kernel
theorem dX11_meets_65 : decode cX11_meets 65 = .ok (.getfield 114, 3) := by decide +kernel
theorem dX11_meets_68 : decode cX11_meets 68 = .ok (.iconst 3, 1) := by decide +kernel
theorem dX11_meets_69 : decode cX11_meets 69 = .ok (.aload_n 0, 1) := by decide +kernel
theorem dX11_meets_70 : decode cX11_meets 70 = .ok (.getfield 9, 3) := by decide +kernel
theorem dX11_meets_73 : decode cX11_meets 73 = .ok (.iconst 2, 1) := by decide +kernel
theorem dX11_meets_74 : decode cX11_meets 74 = .ok (.iaload, 1) := by decide +kernel
theorem dX11_meets_75 : decode cX11_meets 75 = .ok (.invokevirtual 100, 3) := by decide +kernel
theorem dX11_meets_78 : decode cX11_meets 78 = .ok (.aload_n 0, 1) := by decide +kernel
theorem dX11_meets_79 : decode cX11_meets 79 = .ok (.iload_n 1, 1) := by decide +kernel
theorem dX11_meets_80 : decode cX11_meets 80 = .ok (.invokevirtual 117, 3) := by decide +kernel
theorem dX11_meets_83 : decode cX11_meets 83 = .ok (.aload_n 0, 1) := by decide +kernel
theorem dX11_meets_84 : decode cX11_meets 84 = .ok (.iload_n 2, 1) := by decide +kernel
theorem dX11_meets_85 : decode cX11_meets 85 = .ok (.invokevirtual 117, 3) := by decide +kernel
theorem dX11_meets_88 : decode cX11_meets 88 = .ok (.return_, 1) := by decide +kernel
theorem dX11_here_0 : decode cX11_here 0 = .ok (.aload_n 0, 1) := by decide +kernel
theorem dX11_here_1 : decode cX11_here 1 = .ok (.getfield 121, 3) := by decide +kernel
theorem dX11_here_4 : decode cX11_here 4 = .ok (.aload_n 0, 1) := by decide +kernel
theorem dX11_here_5 : decode cX11_here 5 = .ok (.getfield 124, 3) := by decide +kernel
theorem dX11_here_8 : decode cX11_here 8 = .ok (.if_icmp .ge 20, 3) := by decide +kernel
theorem dX11_here_11 : decode cX11_here 11 = .ok (.aload_n 0, 1) := by decide +kernel
theorem dX11_here_12 : decode cX11_here 12 = .ok (.getfield 31, 3) := by decide +kernel
theorem dX11_here_15 : decode cX11_here 15 = .ok (.aload_n 0, 1) := by decide +kernel
theorem dX11_here_16 : decode cX11_here 16 = .ok (.getfield 127, 3) := by decide +kernel
theorem dX11_here_19 : decode cX11_here 19 = .ok (.aload_n 0, 1) := by decide +kernel
theorem dX11_here_20 : decode cX11_here 20 = .ok (.getfield 121, 3) := by decide +kernel
theorem dX11_here_23 : decode cX11_here 23 = .ok (.iadd, 1) := by decide +kernel
theorem dX11_here_24 : decode cX11_here 24 = .ok (.iaload, 1) := by decide +kernel
theorem dX11_here_25 : decode cX11_here 25 = .ok (.goto 6, 3) := by decide +kernel
theorem dX11_here_28 : decode cX11_here 28 = .ok (.sipush (-1000), 3) := by decide +kernel
theorem dX11_here_31 : decode cX11_here 31 = .ok (.ireturn, 1) := by decide +kernel
theorem dX11_readsDigits_0 : decode cX11_readsDigits 0 = .ok (.iconst 0, 1) := by decide +kernel
theorem dX11_readsDigits_1 : decode cX11_readsDigits 1 = .ok (.istore_n 2, 1) := by decide +kernel
theorem dX11_readsDigits_2 : decode cX11_readsDigits 2 = .ok (.iload_n 2, 1) := by decide +kernel
theorem dX11_readsDigits_3 : decode cX11_readsDigits 3 = .ok (.iload_n 1, 1) := by decide +kernel
theorem dX11_readsDigits_4 : decode cX11_readsDigits 4 = .ok (.if_icmp .ge 51, 3) := by decide +kernel
theorem dX11_readsDigits_7 : decode cX11_readsDigits 7 = .ok (.aload_n 0, 1) := by decide +kernel
theorem dX11_readsDigits_8 : decode cX11_readsDigits 8 = .ok (.invokevirtual 130, 3) := by decide +kernel
theorem dX11_readsDigits_11 : decode cX11_readsDigits 11 = .ok (.i2l, 1) := by decide +kernel
theorem dX11_readsDigits_12 : decode cX11_readsDigits 12 = .ok (.ldc2_w 134, 3) := by decide +kernel
theorem dX11_readsDigits_15 : decode cX11_readsDigits 15 = .ok (.ldc2_w 136, 3) := by decide +kernel
theorem dX11_readsDigits_18 : decode cX11_readsDigits 18 = .ok (.invokestatic 59, 3) := by decide +kernel
theorem dX11_readsDigits_21 : decode cX11_readsDigits 21 = .ok (.ifCond .ne 5, 3) := by decide +kernel
theorem dX11_readsDigits_24 : decode cX11_readsDigits 24 = .ok (.iconst 0, 1) := by decide +kernel
theorem dX11_readsDigits_25 : decode cX11_readsDigits 25 = .ok (.ireturn, 1) := by decide +kernel
theorem dX11_readsDigits_26 : decode cX11_readsDigits 26 = .ok (.aload_n 0, 1) := by decide +kernel
theorem dX11_readsDigits_27 : decode cX11_readsDigits 27 = .ok (.getfield 40, 3) := by decide +kernel
theorem dX11_readsDigits_30 : decode cX11_readsDigits 30 = .ok (.iload_n 2, 1) := by decide +kernel
theorem dX11_readsDigits_31 : decode cX11_readsDigits 31 = .ok (.aload_n 0, 1) := by decide +kernel
theorem dX11_readsDigits_32 : decode cX11_readsDigits 32 = .ok (.invokevirtual 130, 3) := by decide +kernel
theorem dX11_readsDigits_35 : decode cX11_readsDigits 35 = .ok (.bipush 48, 2) := by decide +kernel
theorem dX11_readsDigits_37 : decode cX11_readsDigits 37 = .ok (.isub, 1) := by decide +kernel
theorem dX11_readsDigits_38 : decode cX11_readsDigits 38 = .ok (.iastore, 1) := by decide +kernel
theorem dX11_readsDigits_39 : decode cX11_readsDigits 39 = .ok (.aload_n 0, 1) := by decide +kernel
theorem dX11_readsDigits_40 : decode cX11_readsDigits 40 = .ok (.dup, 1) := by decide +kernel
theorem dX11_readsDigits_41 : decode cX11_readsDigits 41 = .ok (.getfield 121, 3) := by decide +kernel
theorem dX11_readsDigits_44 : decode cX11_readsDigits 44 = .ok (.iconst 1, 1) := by decide +kernel
theorem dX11_readsDigits_45 : decode cX11_readsDigits 45 = .ok (.iadd, 1) := by decide +kernel
theorem dX11_readsDigits_46 : decode cX11_readsDigits 46 = .ok (.putfield 121, 3) := by decide +kernel
theorem dX11_readsDigits_49 : decode cX11_readsDigits 49 = .ok (.iinc 2 1, 3) := by decide +kernel
theorem dX11_readsDigits_52 : decode cX11_readsDigits 52 = .ok (.goto (-50), 3) := by decide +kernel
theorem dX11_readsDigits_55 : decode cX11_readsDigits 55 = .ok (.iconst 1, 1) := by decide +kernel
theorem dX11_readsDigits_56 : decode cX11_readsDigits 56 = .ok (.ireturn, 1) := by decide +kernel
theorem dX11_readsStatement_0 : decode cX11_readsStatement 0 = .ok (.aload_n 0, 1) := by decide +kernel
theorem dX11_readsStatement_1 : decode cX11_readsStatement 1 = .ok (.invokevirtual 130, 3) := by decide +kernel
theorem dX11_readsStatement_4 : decode cX11_readsStatement 4 = .ok (.istore_n 1, 1) := by decide +kernel
theorem dX11_readsStatement_5 : decode cX11_readsStatement 5 = .ok (.iload_n 1, 1) := by decide +kernel
theorem dX11_readsStatement_6 : decode cX11_readsStatement 6 = .ok (.bipush 115, 2) := by decide +kernel
theorem dX11_readsStatement_8 : decode cX11_readsStatement 8 = .ok (.if_icmp .eq 17, 3) := by decide +kernel
theorem dX11_readsStatement_11 : decode cX11_readsStatement 11 = .ok (.iload_n 1, 1) := by decide +kernel
theorem dX11_readsStatement_12 : decode cX11_readsStatement 12 = .ok (.bipush 109, 2) := by decide +kernel
theorem dX11_readsStatement_14 : decode cX11_readsStatement 14 = .ok (.if_icmp .eq 11, 3) := by decide +kernel
theorem dX11_readsStatement_17 : decode cX11_readsStatement 17 = .ok (.iload_n 1, 1) := by decide +kernel
theorem dX11_readsStatement_18 : decode cX11_readsStatement 18 = .ok (.bipush 120, 2) := by decide +kernel
theorem dX11_readsStatement_20 : decode cX11_readsStatement 20 = .ok (.if_icmp .eq 5, 3) := by decide +kernel
theorem dX11_readsStatement_23 : decode cX11_readsStatement 23 = .ok (.iconst 0, 1) := by decide +kernel
theorem dX11_readsStatement_24 : decode cX11_readsStatement 24 = .ok (.ireturn, 1) := by decide +kernel
theorem dX11_readsStatement_25 : decode cX11_readsStatement 25 = .ok (.aload_n 0, 1) := by decide +kernel
theorem dX11_readsStatement_26 : decode cX11_readsStatement 26 = .ok (.dup, 1) := by decide +kernel
theorem dX11_readsStatement_27 : decode cX11_readsStatement 27 = .ok (.getfield 121, 3) := by decide +kernel
theorem dX11_readsStatement_30 : decode cX11_readsStatement 30 = .ok (.iconst 1, 1) := by decide +kernel
theorem dX11_readsStatement_31 : decode cX11_readsStatement 31 = .ok (.iadd, 1) := by decide +kernel
theorem dX11_readsStatement_32 : decode cX11_readsStatement 32 = .ok (.putfield 121, 3) := by decide +kernel
theorem dX11_readsStatement_35 : decode cX11_readsStatement 35 = .ok (.aload_n 0, 1) := by decide +kernel
theorem dX11_readsStatement_36 : decode cX11_readsStatement 36 = .ok (.iload_n 1, 1) := by decide +kernel
theorem dX11_readsStatement_37 : decode cX11_readsStatement 37 = .ok (.bipush 109, 2) := by decide +kernel
theorem dX11_readsStatement_39 : decode cX11_readsStatement 39 = .ok (.if_icmp .ne 7, 3) := by decide +kernel
theorem dX11_readsStatement_42 : decode cX11_readsStatement 42 = .ok (.iconst 3, 1) := by decide +kernel
theorem dX11_readsStatement_43 : decode cX11_readsStatement 43 = .ok (.goto 4, 3) := by decide +kernel
theorem dX11_readsStatement_46 : decode cX11_readsStatement 46 = .ok (.iconst 2, 1) := by decide +kernel
theorem dX11_readsStatement_47 : decode cX11_readsStatement 47 = .ok (.invokevirtual 138, 3) := by decide +kernel
theorem dX11_readsStatement_50 : decode cX11_readsStatement 50 = .ok (.ifCond .eq 12, 3) := by decide +kernel
theorem dX11_readsStatement_53 : decode cX11_readsStatement 53 = .ok (.aload_n 0, 1) := by decide +kernel
theorem dX11_readsStatement_54 : decode cX11_readsStatement 54 = .ok (.invokevirtual 130, 3) := by decide +kernel
theorem dX11_readsStatement_57 : decode cX11_readsStatement 57 = .ok (.bipush 59, 2) := by decide +kernel
theorem dX11_readsStatement_59 : decode cX11_readsStatement 59 = .ok (.if_icmp .eq 5, 3) := by decide +kernel
theorem dX11_readsStatement_62 : decode cX11_readsStatement 62 = .ok (.iconst 0, 1) := by decide +kernel
theorem dX11_readsStatement_63 : decode cX11_readsStatement 63 = .ok (.ireturn, 1) := by decide +kernel
theorem dX11_readsStatement_64 : decode cX11_readsStatement 64 = .ok (.aload_n 0, 1) := by decide +kernel
theorem dX11_readsStatement_65 : decode cX11_readsStatement 65 = .ok (.dup, 1) := by decide +kernel
theorem dX11_readsStatement_66 : decode cX11_readsStatement 66 = .ok (.getfield 121, 3) := by decide +kernel
theorem dX11_readsStatement_69 : decode cX11_readsStatement 69 = .ok (.iconst 1, 1) := by decide +kernel
theorem dX11_readsStatement_70 : decode cX11_readsStatement 70 = .ok (.iadd, 1) := by decide +kernel
theorem dX11_readsStatement_71 : decode cX11_readsStatement 71 = .ok (.putfield 121, 3) := by decide +kernel
theorem dX11_readsStatement_74 : decode cX11_readsStatement 74 = .ok (.iconst 1, 1) := by decide +kernel
theorem dX11_readsStatement_75 : decode cX11_readsStatement 75 = .ok (.ireturn, 1) := by decide +kernel
theorem dX11_comes_0 : decode cX11_comes 0 = .ok (.aload_n 0, 1) := by decide +kernel
theorem dX11_comes_1 : decode cX11_comes 1 = .ok (.getfield 40, 3) := by decide +kernel
theorem dX11_comes_4 : decode cX11_comes 4 = .ok (.iconst 0, 1) := by decide +kernel
theorem dX11_comes_5 : decode cX11_comes 5 = .ok (.iaload, 1) := by decide +kernel
theorem dX11_comes_6 : decode cX11_comes 6 = .ok (.istore_n 2, 1) := by decide +kernel
theorem dX11_comes_7 : decode cX11_comes 7 = .ok (.aload_n 0, 1) := by decide +kernel
theorem dX11_comes_8 : decode cX11_comes 8 = .ok (.getfield 40, 3) := by decide +kernel
theorem dX11_comes_11 : decode cX11_comes 11 = .ok (.iconst 1, 1) := by decide +kernel
theorem dX11_comes_12 : decode cX11_comes 12 = .ok (.iaload, 1) := by decide +kernel
theorem dX11_comes_13 : decode cX11_comes 13 = .ok (.istore_n 3, 1) := by decide +kernel
theorem dX11_comes_14 : decode cX11_comes 14 = .ok (.iload_n 1, 1) := by decide +kernel
theorem dX11_comes_15 : decode cX11_comes 15 = .ok (.lookupswitch 195 #[(109, 89), (115, 25)], 25) := by decide +kernel
theorem dX11_comes_40 : decode cX11_comes 40 = .ok (.iload_n 2, 1) := by decide +kernel
theorem dX11_comes_41 : decode cX11_comes 41 = .ok (.bipush 7, 2) := by decide +kernel
theorem dX11_comes_43 : decode cX11_comes 43 = .ok (.if_icmp .gt 13, 3) := by decide +kernel
theorem dX11_comes_46 : decode cX11_comes 46 = .ok (.aload_n 0, 1) := by decide +kernel
theorem dX11_comes_47 : decode cX11_comes 47 = .ok (.getfield 9, 3) := by decide +kernel
theorem dX11_comes_50 : decode cX11_comes 50 = .ok (.iconst 0, 1) := by decide +kernel
theorem dX11_comes_51 : decode cX11_comes 51 = .ok (.iaload, 1) := by decide +kernel
theorem dX11_comes_52 : decode cX11_comes 52 = .ok (.iconst 5, 1) := by decide +kernel
theorem dX11_comes_53 : decode cX11_comes 53 = .ok (.if_icmp .ne 5, 3) := by decide +kernel
theorem dX11_comes_56 : decode cX11_comes 56 = .ok (.iconst 0, 1) := by decide +kernel
theorem dX11_comes_57 : decode cX11_comes 57 = .ok (.ireturn, 1) := by decide +kernel
theorem dX11_comes_58 : decode cX11_comes 58 = .ok (.aload_n 0, 1) := by decide +kernel
theorem dX11_comes_59 : decode cX11_comes 59 = .ok (.getfield 9, 3) := by decide +kernel
theorem dX11_comes_62 : decode cX11_comes 62 = .ok (.iconst 3, 1) := by decide +kernel
theorem dX11_comes_63 : decode cX11_comes 63 = .ok (.iconst 2, 1) := by decide +kernel
theorem dX11_comes_64 : decode cX11_comes 64 = .ok (.aload_n 0, 1) := by decide +kernel
theorem dX11_comes_65 : decode cX11_comes 65 = .ok (.getfield 9, 3) := by decide +kernel
theorem dX11_comes_68 : decode cX11_comes 68 = .ok (.iconst 0, 1) := by decide +kernel
theorem dX11_comes_69 : decode cX11_comes 69 = .ok (.iaload, 1) := by decide +kernel
theorem dX11_comes_70 : decode cX11_comes 70 = .ok (.imul, 1) := by decide +kernel
theorem dX11_comes_71 : decode cX11_comes 71 = .ok (.iadd, 1) := by decide +kernel
theorem dX11_comes_72 : decode cX11_comes 72 = .ok (.iload_n 2, 1) := by decide +kernel
theorem dX11_comes_73 : decode cX11_comes 73 = .ok (.iastore, 1) := by decide +kernel
theorem dX11_comes_74 : decode cX11_comes 74 = .ok (.aload_n 0, 1) := by decide +kernel
theorem dX11_comes_75 : decode cX11_comes 75 = .ok (.getfield 9, 3) := by decide +kernel
theorem dX11_comes_78 : decode cX11_comes 78 = .ok (.iconst 3, 1) := by decide +kernel
theorem dX11_comes_79 : decode cX11_comes 79 = .ok (.iconst 2, 1) := by decide +kernel
theorem dX11_comes_80 : decode cX11_comes 80 = .ok (.aload_n 0, 1) := by decide +kernel
theorem dX11_comes_81 : decode cX11_comes 81 = .ok (.getfield 9, 3) := by decide +kernel
theorem dX11_comes_84 : decode cX11_comes 84 = .ok (.iconst 0, 1) := by decide +kernel
theorem dX11_comes_85 : decode cX11_comes 85 = .ok (.iaload, 1) := by decide +kernel
theorem dX11_comes_86 : decode cX11_comes 86 = .ok (.imul, 1) := by decide +kernel
theorem dX11_comes_87 : decode cX11_comes 87 = .ok (.iadd, 1) := by decide +kernel
theorem dX11_comes_88 : decode cX11_comes 88 = .ok (.iconst 1, 1) := by decide +kernel
theorem dX11_comes_89 : decode cX11_comes 89 = .ok (.iadd, 1) := by decide +kernel
theorem dX11_comes_90 : decode cX11_comes 90 = .ok (.iload_n 3, 1) := by decide +kernel
theorem dX11_comes_91 : decode cX11_comes 91 = .ok (.iastore, 1) := by decide +kernel
theorem dX11_comes_92 : decode cX11_comes 92 = .ok (.aload_n 0, 1) := by decide +kernel
theorem dX11_comes_93 : decode cX11_comes 93 = .ok (.getfield 9, 3) := by decide +kernel
theorem dX11_comes_96 : decode cX11_comes 96 = .ok (.iconst 0, 1) := by decide +kernel
theorem dX11_comes_97 : decode cX11_comes 97 = .ok (.dup2, 1) := by decide +kernel
theorem dX11_comes_98 : decode cX11_comes 98 = .ok (.iaload, 1) := by decide +kernel
theorem dX11_comes_99 : decode cX11_comes 99 = .ok (.iconst 1, 1) := by decide +kernel
theorem dX11_comes_100 : decode cX11_comes 100 = .ok (.iadd, 1) := by decide +kernel
theorem dX11_comes_101 : decode cX11_comes 101 = .ok (.iastore, 1) := by decide +kernel
theorem dX11_comes_102 : decode cX11_comes 102 = .ok (.iconst 1, 1) := by decide +kernel
theorem dX11_comes_103 : decode cX11_comes 103 = .ok (.ireturn, 1) := by decide +kernel
theorem dX11_comes_104 : decode cX11_comes 104 = .ok (.aload_n 0, 1) := by decide +kernel
theorem dX11_comes_105 : decode cX11_comes 105 = .ok (.iload_n 2, 1) := by decide +kernel
theorem dX11_comes_106 : decode cX11_comes 106 = .ok (.invokevirtual 104, 3) := by decide +kernel
theorem dX11_comes_109 : decode cX11_comes 109 = .ok (.ifCond .eq 29, 3) := by decide +kernel
theorem dX11_comes_112 : decode cX11_comes 112 = .ok (.iload_n 3, 1) := by decide +kernel
theorem dX11_comes_113 : decode cX11_comes 113 = .ok (.iconst 3, 1) := by decide +kernel
theorem dX11_comes_114 : decode cX11_comes 114 = .ok (.if_icmp .gt 24, 3) := by decide +kernel
theorem dX11_comes_117 : decode cX11_comes 117 = .ok (.aload_n 0, 1) := by decide +kernel
theorem dX11_comes_118 : decode cX11_comes 118 = .ok (.getfield 40, 3) := by decide +kernel
theorem dX11_comes_121 : decode cX11_comes 121 = .ok (.iconst 2, 1) := by decide +kernel
theorem dX11_comes_122 : decode cX11_comes 122 = .ok (.iaload, 1) := by decide +kernel
theorem dX11_comes_123 : decode cX11_comes 123 = .ok (.iconst 3, 1) := by decide +kernel
theorem dX11_comes_124 : decode cX11_comes 124 = .ok (.if_icmp .gt 14, 3) := by decide +kernel
theorem dX11_comes_127 : decode cX11_comes 127 = .ok (.aload_n 0, 1) := by decide +kernel
theorem dX11_comes_128 : decode cX11_comes 128 = .ok (.getfield 9, 3) := by decide +kernel
theorem dX11_comes_131 : decode cX11_comes 131 = .ok (.iconst 1, 1) := by decide +kernel
theorem dX11_comes_132 : decode cX11_comes 132 = .ok (.iaload, 1) := by decide +kernel
theorem dX11_comes_133 : decode cX11_comes 133 = .ok (.bipush 12, 2) := by decide +kernel
theorem dX11_comes_135 : decode cX11_comes 135 = .ok (.if_icmp .ne 5, 3) := by decide +kernel
theorem dX11_comes_138 : decode cX11_comes 138 = .ok (.iconst 0, 1) := by decide +kernel
theorem dX11_comes_139 : decode cX11_comes 139 = .ok (.ireturn, 1) := by decide +kernel
theorem dX11_comes_140 : decode cX11_comes 140 = .ok (.aload_n 0, 1) := by decide +kernel
theorem dX11_comes_141 : decode cX11_comes 141 = .ok (.getfield 9, 3) := by decide +kernel
theorem dX11_comes_144 : decode cX11_comes 144 = .ok (.iconst 1, 1) := by decide +kernel
theorem dX11_comes_145 : decode cX11_comes 145 = .ok (.iaload, 1) := by decide +kernel
theorem dX11_comes_146 : decode cX11_comes 146 = .ok (.istore 4, 2) := by decide +kernel
theorem dX11_comes_148 : decode cX11_comes 148 = .ok (.aload_n 0, 1) := by decide +kernel
theorem dX11_comes_149 : decode cX11_comes 149 = .ok (.iload 4, 2) := by decide +kernel
theorem dX11_comes_151 : decode cX11_comes 151 = .ok (.iconst 0, 1) := by decide +kernel
theorem dX11_comes_152 : decode cX11_comes 152 = .ok (.iload_n 2, 1) := by decide +kernel
theorem dX11_comes_153 : decode cX11_comes 153 = .ok (.invokevirtual 100, 3) := by decide +kernel
theorem dX11_comes_156 : decode cX11_comes 156 = .ok (.aload_n 0, 1) := by decide +kernel
theorem dX11_comes_157 : decode cX11_comes 157 = .ok (.iload 4, 2) := by decide +kernel
theorem dX11_comes_159 : decode cX11_comes 159 = .ok (.iconst 1, 1) := by decide +kernel
theorem dX11_comes_160 : decode cX11_comes 160 = .ok (.iload_n 3, 1) := by decide +kernel
theorem dX11_comes_161 : decode cX11_comes 161 = .ok (.invokevirtual 100, 3) := by decide +kernel
theorem dX11_comes_164 : decode cX11_comes 164 = .ok (.aload_n 0, 1) := by decide +kernel
theorem dX11_comes_165 : decode cX11_comes 165 = .ok (.iload 4, 2) := by decide +kernel
theorem dX11_comes_167 : decode cX11_comes 167 = .ok (.iconst 2, 1) := by decide +kernel
theorem dX11_comes_168 : decode cX11_comes 168 = .ok (.aload_n 0, 1) := by decide +kernel
theorem dX11_comes_169 : decode cX11_comes 169 = .ok (.getfield 40, 3) := by decide +kernel
theorem dX11_comes_172 : decode cX11_comes 172 = .ok (.iconst 2, 1) := by decide +kernel
theorem dX11_comes_173 : decode cX11_comes 173 = .ok (.iaload, 1) := by decide +kernel
theorem dX11_comes_174 : decode cX11_comes 174 = .ok (.invokevirtual 100, 3) := by decide +kernel
theorem dX11_comes_177 : decode cX11_comes 177 = .ok (.aload_n 0, 1) := by decide +kernel
theorem dX11_comes_178 : decode cX11_comes 178 = .ok (.iload 4, 2) := by decide +kernel
theorem dX11_comes_180 : decode cX11_comes 180 = .ok (.iconst 3, 1) := by decide +kernel
theorem dX11_comes_181 : decode cX11_comes 181 = .ok (.iconst 0, 1) := by decide +kernel
theorem dX11_comes_182 : decode cX11_comes 182 = .ok (.invokevirtual 100, 3) := by decide +kernel
theorem dX11_comes_185 : decode cX11_comes 185 = .ok (.aload_n 0, 1) := by decide +kernel
theorem dX11_comes_186 : decode cX11_comes 186 = .ok (.iload 4, 2) := by decide +kernel
theorem dX11_comes_188 : decode cX11_comes 188 = .ok (.iconst 4, 1) := by decide +kernel
theorem dX11_comes_189 : decode cX11_comes 189 = .ok (.iconst 0, 1) := by decide +kernel
theorem dX11_comes_190 : decode cX11_comes 190 = .ok (.invokevirtual 100, 3) := by decide +kernel
theorem dX11_comes_193 : decode cX11_comes 193 = .ok (.aload_n 0, 1) := by decide +kernel
theorem dX11_comes_194 : decode cX11_comes 194 = .ok (.getfield 9, 3) := by decide +kernel
theorem dX11_comes_197 : decode cX11_comes 197 = .ok (.iconst 1, 1) := by decide +kernel
theorem dX11_comes_198 : decode cX11_comes 198 = .ok (.dup2, 1) := by decide +kernel
theorem dX11_comes_199 : decode cX11_comes 199 = .ok (.iaload, 1) := by decide +kernel
theorem dX11_comes_200 : decode cX11_comes 200 = .ok (.iconst 1, 1) := by decide +kernel
theorem dX11_comes_201 : decode cX11_comes 201 = .ok (.iadd, 1) := by decide +kernel
theorem dX11_comes_202 : decode cX11_comes 202 = .ok (.iastore, 1) := by decide +kernel
theorem dX11_comes_203 : decode cX11_comes 203 = .ok (.aload_n 0, 1) := by decide +kernel
theorem dX11_comes_204 : decode cX11_comes 204 = .ok (.iload_n 2, 1) := by decide +kernel
theorem dX11_comes_205 : decode cX11_comes 205 = .ok (.invokevirtual 117, 3) := by decide +kernel
theorem dX11_comes_208 : decode cX11_comes 208 = .ok (.iconst 1, 1) := by decide +kernel
theorem dX11_comes_209 : decode cX11_comes 209 = .ok (.ireturn, 1) := by decide +kernel
theorem dX11_comes_210 : decode cX11_comes 210 = .ok (.aload_n 0, 1) := by decide +kernel
theorem dX11_comes_211 : decode cX11_comes 211 = .ok (.iload_n 2, 1) := by decide +kernel
theorem dX11_comes_212 : decode cX11_comes 212 = .ok (.iload_n 3, 1) := by decide +kernel
theorem dX11_comes_213 : decode cX11_comes 213 = .ok (.invokevirtual 141, 3) := by decide +kernel
theorem dX11_comes_216 : decode cX11_comes 216 = .ok (.ifCond .ne 5, 3) := by decide +kernel
theorem dX11_comes_219 : decode cX11_comes 219 = .ok (.iconst 0, 1) := by decide +kernel
theorem dX11_comes_220 : decode cX11_comes 220 = .ok (.ireturn, 1) := by decide +kernel
theorem dX11_comes_221 : decode cX11_comes 221 = .ok (.aload_n 0, 1) := by decide +kernel
theorem dX11_comes_222 : decode cX11_comes 222 = .ok (.iload_n 2, 1) := by decide +kernel
theorem dX11_comes_223 : decode cX11_comes 223 = .ok (.iload_n 3, 1) := by decide +kernel
theorem dX11_comes_224 : decode cX11_comes 224 = .ok (.invokevirtual 145, 3) := by decide +kernel
theorem dX11_comes_227 : decode cX11_comes 227 = .ok (.iconst 1, 1) := by decide +kernel
theorem dX11_comes_228 : decode cX11_comes 228 = .ok (.ireturn, 1) := by decide +kernel
theorem dX11_wrongRow_0 : decode cX11_wrongRow 0 = .ok (.iload_n 1, 1) := by decide +kernel
theorem dX11_wrongRow_1 : decode cX11_wrongRow 1 = .ok (.invokestatic 149, 3) := by decide +kernel
theorem dX11_wrongRow_4 : decode cX11_wrongRow 4 = .ok (.ifCond .ne 7, 3) := by decide +kernel
theorem dX11_wrongRow_7 : decode cX11_wrongRow 7 = .ok (.iconst (-1), 1) := by decide +kernel
theorem dX11_wrongRow_8 : decode cX11_wrongRow 8 = .ok (.goto 47, 3) := by decide +kernel
theorem dX11_wrongRow_11 : decode cX11_wrongRow 11 = .ok (.aload_n 0, 1) := by decide +kernel
theorem dX11_wrongRow_12 : decode cX11_wrongRow 12 = .ok (.getfield 22, 3) := by decide +kernel
theorem dX11_wrongRow_15 : decode cX11_wrongRow 15 = .ok (.iload_n 1, 1) := by decide +kernel
theorem dX11_wrongRow_16 : decode cX11_wrongRow 16 = .ok (.iaload, 1) := by decide +kernel
theorem dX11_wrongRow_17 : decode cX11_wrongRow 17 = .ok (.ifCond .ne 8, 3) := by decide +kernel
theorem dX11_wrongRow_20 : decode cX11_wrongRow 20 = .ok (.bipush (-11), 2) := by decide +kernel
theorem dX11_wrongRow_22 : decode cX11_wrongRow 22 = .ok (.goto 33, 3) := by decide +kernel
theorem dX11_wrongRow_25 : decode cX11_wrongRow 25 = .ok (.aload_n 0, 1) := by decide +kernel
theorem dX11_wrongRow_26 : decode cX11_wrongRow 26 = .ok (.getfield 22, 3) := by decide +kernel
theorem dX11_wrongRow_29 : decode cX11_wrongRow 29 = .ok (.iload_n 1, 1) := by decide +kernel
theorem dX11_wrongRow_30 : decode cX11_wrongRow 30 = .ok (.iaload, 1) := by decide +kernel
theorem dX11_wrongRow_31 : decode cX11_wrongRow 31 = .ok (.iconst 2, 1) := by decide +kernel
theorem dX11_wrongRow_32 : decode cX11_wrongRow 32 = .ok (.if_icmp .ne 17, 3) := by decide +kernel
theorem dX11_wrongRow_35 : decode cX11_wrongRow 35 = .ok (.iload_n 2, 1) := by decide +kernel
theorem dX11_wrongRow_36 : decode cX11_wrongRow 36 = .ok (.ifCond .lt 18, 3) := by decide +kernel
theorem dX11_wrongRow_39 : decode cX11_wrongRow 39 = .ok (.aload_n 0, 1) := by decide +kernel
theorem dX11_wrongRow_40 : decode cX11_wrongRow 40 = .ok (.getfield 25, 3) := by decide +kernel
theorem dX11_wrongRow_43 : decode cX11_wrongRow 43 = .ok (.iload_n 1, 1) := by decide +kernel
theorem dX11_wrongRow_44 : decode cX11_wrongRow 44 = .ok (.iaload, 1) := by decide +kernel
theorem dX11_wrongRow_45 : decode cX11_wrongRow 45 = .ok (.iload_n 2, 1) := by decide +kernel
theorem dX11_wrongRow_46 : decode cX11_wrongRow 46 = .ok (.if_icmp .eq 8, 3) := by decide +kernel
theorem dX11_wrongRow_49 : decode cX11_wrongRow 49 = .ok (.bipush (-12), 2) := by decide +kernel
theorem dX11_wrongRow_51 : decode cX11_wrongRow 51 = .ok (.goto 4, 3) := by decide +kernel
theorem dX11_wrongRow_54 : decode cX11_wrongRow 54 = .ok (.iconst 0, 1) := by decide +kernel
theorem dX11_wrongRow_55 : decode cX11_wrongRow 55 = .ok (.ireturn, 1) := by decide +kernel
theorem dX11_fleet_0 : decode cX11_fleet 0 = .ok (.aload_n 0, 1) := by decide +kernel
theorem dX11_fleet_1 : decode cX11_fleet 1 = .ok (.iload_n 1, 1) := by decide +kernel
theorem dX11_fleet_2 : decode cX11_fleet 2 = .ok (.iconst 0, 1) := by decide +kernel
theorem dX11_fleet_3 : decode cX11_fleet 3 = .ok (.invokevirtual 152, 3) := by decide +kernel
theorem dX11_fleet_6 : decode cX11_fleet 6 = .ok (.istore_n 2, 1) := by decide +kernel
theorem dX11_fleet_7 : decode cX11_fleet 7 = .ok (.iload_n 2, 1) := by decide +kernel
theorem dX11_fleet_8 : decode cX11_fleet 8 = .ok (.ifCond .eq 5, 3) := by decide +kernel
theorem dX11_fleet_11 : decode cX11_fleet 11 = .ok (.iload_n 2, 1) := by decide +kernel
theorem dX11_fleet_12 : decode cX11_fleet 12 = .ok (.ireturn, 1) := by decide +kernel
theorem dX11_fleet_13 : decode cX11_fleet 13 = .ok (.aload_n 0, 1) := by decide +kernel
theorem dX11_fleet_14 : decode cX11_fleet 14 = .ok (.bipush 100, 2) := by decide +kernel
theorem dX11_fleet_16 : decode cX11_fleet 16 = .ok (.iload_n 1, 1) := by decide +kernel
theorem dX11_fleet_17 : decode cX11_fleet 17 = .ok (.imul, 1) := by decide +kernel
theorem dX11_fleet_18 : decode cX11_fleet 18 = .ok (.putfield 127, 3) := by decide +kernel
theorem dX11_fleet_21 : decode cX11_fleet 21 = .ok (.aload_n 0, 1) := by decide +kernel
theorem dX11_fleet_22 : decode cX11_fleet 22 = .ok (.aload_n 0, 1) := by decide +kernel
theorem dX11_fleet_23 : decode cX11_fleet 23 = .ok (.getfield 28, 3) := by decide +kernel
theorem dX11_fleet_26 : decode cX11_fleet 26 = .ok (.iload_n 1, 1) := by decide +kernel
theorem dX11_fleet_27 : decode cX11_fleet 27 = .ok (.iaload, 1) := by decide +kernel
theorem dX11_fleet_28 : decode cX11_fleet 28 = .ok (.putfield 124, 3) := by decide +kernel
theorem dX11_fleet_31 : decode cX11_fleet 31 = .ok (.aload_n 0, 1) := by decide +kernel
theorem dX11_fleet_32 : decode cX11_fleet 32 = .ok (.iconst 0, 1) := by decide +kernel
theorem dX11_fleet_33 : decode cX11_fleet 33 = .ok (.putfield 121, 3) := by decide +kernel
theorem dX11_fleet_36 : decode cX11_fleet 36 = .ok (.iconst 0, 1) := by decide +kernel
theorem dX11_fleet_37 : decode cX11_fleet 37 = .ok (.istore_n 3, 1) := by decide +kernel
theorem dX11_fleet_38 : decode cX11_fleet 38 = .ok (.aload_n 0, 1) := by decide +kernel
theorem dX11_fleet_39 : decode cX11_fleet 39 = .ok (.invokevirtual 155, 3) := by decide +kernel
theorem dX11_fleet_42 : decode cX11_fleet 42 = .ok (.ifCond .ne 12, 3) := by decide +kernel
theorem dX11_fleet_45 : decode cX11_fleet 45 = .ok (.sipush (-1000), 3) := by decide +kernel
theorem dX11_fleet_48 : decode cX11_fleet 48 = .ok (.aload_n 0, 1) := by decide +kernel
theorem dX11_fleet_49 : decode cX11_fleet 49 = .ok (.getfield 121, 3) := by decide +kernel
theorem dX11_fleet_52 : decode cX11_fleet 52 = .ok (.isub, 1) := by decide +kernel
theorem dX11_fleet_53 : decode cX11_fleet 53 = .ok (.ireturn, 1) := by decide +kernel
theorem dX11_fleet_54 : decode cX11_fleet 54 = .ok (.iinc 3 1, 3) := by decide +kernel
theorem dX11_fleet_57 : decode cX11_fleet 57 = .ok (.aload_n 0, 1) := by decide +kernel
theorem dX11_fleet_58 : decode cX11_fleet 58 = .ok (.getfield 121, 3) := by decide +kernel
theorem dX11_fleet_61 : decode cX11_fleet 61 = .ok (.aload_n 0, 1) := by decide +kernel
theorem dX11_fleet_62 : decode cX11_fleet 62 = .ok (.getfield 124, 3) := by decide +kernel
theorem dX11_fleet_65 : decode cX11_fleet 65 = .ok (.if_icmp .lt (-27), 3) := by decide +kernel
theorem dX11_fleet_68 : decode cX11_fleet 68 = .ok (.aload_n 0, 1) := by decide +kernel
theorem dX11_fleet_69 : decode cX11_fleet 69 = .ok (.getfield 9, 3) := by decide +kernel
theorem dX11_fleet_72 : decode cX11_fleet 72 = .ok (.aload_n 0, 1) := by decide +kernel
theorem dX11_fleet_73 : decode cX11_fleet 73 = .ok (.getfield 16, 3) := by decide +kernel
theorem dX11_fleet_76 : decode cX11_fleet 76 = .ok (.invokestatic 159, 3) := by decide +kernel
theorem dX11_fleet_79 : decode cX11_fleet 79 = .ok (.aload_n 0, 1) := by decide +kernel
theorem dX11_fleet_80 : decode cX11_fleet 80 = .ok (.iconst 0, 1) := by decide +kernel
theorem dX11_fleet_81 : decode cX11_fleet 81 = .ok (.putfield 121, 3) := by decide +kernel
theorem dX11_fleet_84 : decode cX11_fleet 84 = .ok (.aload_n 0, 1) := by decide +kernel
theorem dX11_fleet_85 : decode cX11_fleet 85 = .ok (.getfield 121, 3) := by decide +kernel
theorem dX11_fleet_88 : decode cX11_fleet 88 = .ok (.aload_n 0, 1) := by decide +kernel
theorem dX11_fleet_89 : decode cX11_fleet 89 = .ok (.getfield 124, 3) := by decide +kernel
theorem dX11_fleet_92 : decode cX11_fleet 92 = .ok (.if_icmp .ge 51, 3) := by decide +kernel
theorem dX11_fleet_95 : decode cX11_fleet 95 = .ok (.aload_n 0, 1) := by decide +kernel
theorem dX11_fleet_96 : decode cX11_fleet 96 = .ok (.getfield 121, 3) := by decide +kernel
theorem dX11_fleet_99 : decode cX11_fleet 99 = .ok (.istore 4, 2) := by decide +kernel
theorem dX11_fleet_101 : decode cX11_fleet 101 = .ok (.aload_n 0, 1) := by decide +kernel
theorem dX11_fleet_102 : decode cX11_fleet 102 = .ok (.invokevirtual 130, 3) := by decide +kernel
theorem dX11_fleet_105 : decode cX11_fleet 105 = .ok (.istore 5, 2) := by decide +kernel
theorem dX11_fleet_107 : decode cX11_fleet 107 = .ok (.aload_n 0, 1) := by decide +kernel
theorem dX11_fleet_108 : decode cX11_fleet 108 = .ok (.invokevirtual 155, 3) := by decide +kernel
theorem dX11_fleet_111 : decode cX11_fleet 111 = .ok (.istore 6, 2) := by decide +kernel
theorem dX11_fleet_113 : decode cX11_fleet 113 = .ok (.aload_n 0, 1) := by decide +kernel
theorem dX11_fleet_114 : decode cX11_fleet 114 = .ok (.iload 5, 2) := by decide +kernel
theorem dX11_fleet_116 : decode cX11_fleet 116 = .ok (.invokevirtual 163, 3) := by decide +kernel
theorem dX11_fleet_119 : decode cX11_fleet 119 = .ok (.ifCond .ne 21, 3) := by decide +kernel
theorem dX11_fleet_122 : decode cX11_fleet 122 = .ok (.aload_n 0, 1) := by decide +kernel
theorem dX11_fleet_123 : decode cX11_fleet 123 = .ok (.getfield 16, 3) := by decide +kernel
theorem dX11_fleet_126 : decode cX11_fleet 126 = .ok (.aload_n 0, 1) := by decide +kernel
theorem dX11_fleet_127 : decode cX11_fleet 127 = .ok (.getfield 9, 3) := by decide +kernel
theorem dX11_fleet_130 : decode cX11_fleet 130 = .ok (.invokestatic 159, 3) := by decide +kernel
theorem dX11_fleet_133 : decode cX11_fleet 133 = .ok (.sipush (-2000), 3) := by decide +kernel
theorem dX11_fleet_136 : decode cX11_fleet 136 = .ok (.iload 4, 2) := by decide +kernel
theorem dX11_fleet_138 : decode cX11_fleet 138 = .ok (.isub, 1) := by decide +kernel
theorem dX11_fleet_139 : decode cX11_fleet 139 = .ok (.ireturn, 1) := by decide +kernel
theorem dX11_fleet_140 : decode cX11_fleet 140 = .ok (.goto (-56), 3) := by decide +kernel
theorem dX11_fleet_143 : decode cX11_fleet 143 = .ok (.iload_n 3, 1) := by decide +kernel
theorem dX11_fleet_144 : decode cX11_fleet 144 = .ok (.ireturn, 1) := by decide +kernel
theorem dX11_ship_0 : decode cX11_ship 0 = .ok (.aload_n 0, 1) := by decide +kernel
theorem dX11_ship_1 : decode cX11_ship 1 = .ok (.iload_n 1, 1) := by decide +kernel
theorem dX11_ship_2 : decode cX11_ship 2 = .ok (.invokevirtual 104, 3) := by decide +kernel
theorem dX11_ship_5 : decode cX11_ship 5 = .ok (.ifCond .ne 5, 3) := by decide +kernel
theorem dX11_ship_8 : decode cX11_ship 8 = .ok (.iconst (-1), 1) := by decide +kernel
theorem dX11_ship_9 : decode cX11_ship 9 = .ok (.ireturn, 1) := by decide +kernel
theorem dX11_ship_10 : decode cX11_ship 10 = .ok (.iload_n 2, 1) := by decide +kernel
theorem dX11_ship_11 : decode cX11_ship 11 = .ok (.tableswitch 66 0 4 #[33, 39, 45, 54, 60], 33) := by decide +kernel
theorem dX11_ship_44 : decode cX11_ship 44 = .ok (.aload_n 0, 1) := by decide +kernel
theorem dX11_ship_45 : decode cX11_ship 45 = .ok (.iload_n 1, 1) := by decide +kernel
theorem dX11_ship_46 : decode cX11_ship 46 = .ok (.invokevirtual 81, 3) := by decide +kernel
theorem dX11_ship_49 : decode cX11_ship 49 = .ok (.ireturn, 1) := by decide +kernel
theorem dX11_ship_50 : decode cX11_ship 50 = .ok (.aload_n 0, 1) := by decide +kernel
theorem dX11_ship_51 : decode cX11_ship 51 = .ok (.iload_n 1, 1) := by decide +kernel
theorem dX11_ship_52 : decode cX11_ship 52 = .ok (.invokevirtual 78, 3) := by decide +kernel
theorem dX11_ship_55 : decode cX11_ship 55 = .ok (.ireturn, 1) := by decide +kernel
theorem dX11_ship_56 : decode cX11_ship 56 = .ok (.aload_n 0, 1) := by decide +kernel
theorem dX11_ship_57 : decode cX11_ship 57 = .ok (.iload_n 1, 1) := by decide +kernel
theorem dX11_ship_58 : decode cX11_ship 58 = .ok (.invokevirtual 74, 3) := by decide +kernel
theorem dX11_ship_61 : decode cX11_ship 61 = .ok (.invokestatic 84, 3) := by decide +kernel
theorem dX11_ship_64 : decode cX11_ship 64 = .ok (.ireturn, 1) := by decide +kernel
theorem dX11_ship_65 : decode cX11_ship 65 = .ok (.aload_n 0, 1) := by decide +kernel
theorem dX11_ship_66 : decode cX11_ship 66 = .ok (.iload_n 1, 1) := by decide +kernel
theorem dX11_ship_67 : decode cX11_ship 67 = .ok (.invokevirtual 74, 3) := by decide +kernel
theorem dX11_ship_70 : decode cX11_ship 70 = .ok (.ireturn, 1) := by decide +kernel
theorem dX11_ship_71 : decode cX11_ship 71 = .ok (.aload_n 0, 1) := by decide +kernel
theorem dX11_ship_72 : decode cX11_ship 72 = .ok (.iload_n 1, 1) := by decide +kernel
theorem dX11_ship_73 : decode cX11_ship 73 = .ok (.invokevirtual 108, 3) := by decide +kernel
theorem dX11_ship_76 : decode cX11_ship 76 = .ok (.ireturn, 1) := by decide +kernel
theorem dX11_ship_77 : decode cX11_ship 77 = .ok (.iconst (-1), 1) := by decide +kernel
theorem dX11_ship_78 : decode cX11_ship 78 = .ok (.ireturn, 1) := by decide +kernel
theorem dX11_man_0 : decode cX11_man 0 = .ok (.aload_n 0, 1) := by decide +kernel
theorem dX11_man_1 : decode cX11_man 1 = .ok (.iload_n 1, 1) := by decide +kernel
theorem dX11_man_2 : decode cX11_man 2 = .ok (.invokevirtual 166, 3) := by decide +kernel
theorem dX11_man_5 : decode cX11_man 5 = .ok (.ifCond .eq 24, 3) := by decide +kernel
theorem dX11_man_8 : decode cX11_man 8 = .ok (.iload_n 2, 1) := by decide +kernel
theorem dX11_man_9 : decode cX11_man 9 = .ok (.i2l, 1) := by decide +kernel
theorem dX11_man_10 : decode cX11_man 10 = .ok (.lconst 0, 1) := by decide +kernel
theorem dX11_man_11 : decode cX11_man 11 = .ok (.ldc2_w 169, 3) := by decide +kernel
theorem dX11_man_14 : decode cX11_man 14 = .ok (.invokestatic 59, 3) := by decide +kernel
theorem dX11_man_17 : decode cX11_man 17 = .ok (.ifCond .eq 12, 3) := by decide +kernel
theorem dX11_man_20 : decode cX11_man 20 = .ok (.aload_n 0, 1) := by decide +kernel
theorem dX11_man_21 : decode cX11_man 21 = .ok (.iload_n 1, 1) := by decide +kernel
theorem dX11_man_22 : decode cX11_man 22 = .ok (.iload_n 2, 1) := by decide +kernel
theorem dX11_man_23 : decode cX11_man 23 = .ok (.invokevirtual 67, 3) := by decide +kernel
theorem dX11_man_26 : decode cX11_man 26 = .ok (.goto 4, 3) := by decide +kernel
theorem dX11_man_29 : decode cX11_man 29 = .ok (.iconst (-1), 1) := by decide +kernel
theorem dX11_man_30 : decode cX11_man 30 = .ok (.ireturn, 1) := by decide +kernel
theorem dX11_wrongKept_0 : decode cX11_wrongKept 0 = .ok (.iload_n 1, 1) := by decide +kernel
theorem dX11_wrongKept_1 : decode cX11_wrongKept 1 = .ok (.invokestatic 149, 3) := by decide +kernel
theorem dX11_wrongKept_4 : decode cX11_wrongKept 4 = .ok (.ifCond .ne 7, 3) := by decide +kernel
theorem dX11_wrongKept_7 : decode cX11_wrongKept 7 = .ok (.iconst (-1), 1) := by decide +kernel
theorem dX11_wrongKept_8 : decode cX11_wrongKept 8 = .ok (.goto 33, 3) := by decide +kernel
theorem dX11_wrongKept_11 : decode cX11_wrongKept 11 = .ok (.aload_n 0, 1) := by decide +kernel
theorem dX11_wrongKept_12 : decode cX11_wrongKept 12 = .ok (.getfield 22, 3) := by decide +kernel
theorem dX11_wrongKept_15 : decode cX11_wrongKept 15 = .ok (.iload_n 1, 1) := by decide +kernel
theorem dX11_wrongKept_16 : decode cX11_wrongKept 16 = .ok (.iaload, 1) := by decide +kernel
theorem dX11_wrongKept_17 : decode cX11_wrongKept 17 = .ok (.ifCond .ne 8, 3) := by decide +kernel
theorem dX11_wrongKept_20 : decode cX11_wrongKept 20 = .ok (.bipush (-11), 2) := by decide +kernel
theorem dX11_wrongKept_22 : decode cX11_wrongKept 22 = .ok (.goto 19, 3) := by decide +kernel
theorem dX11_wrongKept_25 : decode cX11_wrongKept 25 = .ok (.aload_n 0, 1) := by decide +kernel
theorem dX11_wrongKept_26 : decode cX11_wrongKept 26 = .ok (.getfield 22, 3) := by decide +kernel
theorem dX11_wrongKept_29 : decode cX11_wrongKept 29 = .ok (.iload_n 1, 1) := by decide +kernel
theorem dX11_wrongKept_30 : decode cX11_wrongKept 30 = .ok (.iaload, 1) := by decide +kernel
theorem dX11_wrongKept_31 : decode cX11_wrongKept 31 = .ok (.iconst 1, 1) := by decide +kernel
theorem dX11_wrongKept_32 : decode cX11_wrongKept 32 = .ok (.if_icmp .ne 7, 3) := by decide +kernel
theorem dX11_wrongKept_35 : decode cX11_wrongKept 35 = .ok (.iconst 0, 1) := by decide +kernel
theorem dX11_wrongKept_36 : decode cX11_wrongKept 36 = .ok (.goto 5, 3) := by decide +kernel
theorem dX11_wrongKept_39 : decode cX11_wrongKept 39 = .ok (.bipush (-12), 2) := by decide +kernel
theorem dX11_wrongKept_41 : decode cX11_wrongKept 41 = .ok (.ireturn, 1) := by decide +kernel
theorem dX11_commands_0 : decode cX11_commands 0 = .ok (.aload_n 0, 1) := by decide +kernel
theorem dX11_commands_1 : decode cX11_commands 1 = .ok (.iload_n 2, 1) := by decide +kernel
theorem dX11_commands_2 : decode cX11_commands 2 = .ok (.invokevirtual 104, 3) := by decide +kernel
theorem dX11_commands_5 : decode cX11_commands 5 = .ok (.ifCond .ne 7, 3) := by decide +kernel
theorem dX11_commands_8 : decode cX11_commands 8 = .ok (.iconst (-1), 1) := by decide +kernel
theorem dX11_commands_9 : decode cX11_commands 9 = .ok (.goto 8, 3) := by decide +kernel
theorem dX11_commands_12 : decode cX11_commands 12 = .ok (.aload_n 0, 1) := by decide +kernel
theorem dX11_commands_13 : decode cX11_commands 13 = .ok (.iload_n 1, 1) := by decide +kernel
theorem dX11_commands_14 : decode cX11_commands 14 = .ok (.invokevirtual 171, 3) := by decide +kernel
theorem dX11_commands_17 : decode cX11_commands 17 = .ok (.istore_n 3, 1) := by decide +kernel
theorem dX11_commands_18 : decode cX11_commands 18 = .ok (.iload_n 3, 1) := by decide +kernel
theorem dX11_commands_19 : decode cX11_commands 19 = .ok (.ifCond .eq 5, 3) := by decide +kernel
theorem dX11_commands_22 : decode cX11_commands 22 = .ok (.iload_n 3, 1) := by decide +kernel
theorem dX11_commands_23 : decode cX11_commands 23 = .ok (.ireturn, 1) := by decide +kernel
