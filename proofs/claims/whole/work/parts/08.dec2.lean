theorem dX11_commands_24 : decode cX11_commands 24 = .ok (.aload_n 0, 1) := by decide +kernel
theorem dX11_commands_25 : decode cX11_commands 25 = .ok (.getfield 9, 3) := by decide +kernel
theorem dX11_commands_28 : decode cX11_commands 28 = .ok (.iconst 3, 1) := by decide +kernel
theorem dX11_commands_29 : decode cX11_commands 29 = .ok (.iconst 2, 1) := by decide +kernel
theorem dX11_commands_30 : decode cX11_commands 30 = .ok (.iload_n 2, 1) := by decide +kernel
theorem dX11_commands_31 : decode cX11_commands 31 = .ok (.imul, 1) := by decide +kernel
theorem dX11_commands_32 : decode cX11_commands 32 = .ok (.iadd, 1) := by decide +kernel
theorem dX11_commands_33 : decode cX11_commands 33 = .ok (.aload_n 0, 1) := by decide +kernel
theorem dX11_commands_34 : decode cX11_commands 34 = .ok (.getfield 34, 3) := by decide +kernel
theorem dX11_commands_37 : decode cX11_commands 37 = .ok (.iload_n 1, 1) := by decide +kernel
theorem dX11_commands_38 : decode cX11_commands 38 = .ok (.iaload, 1) := by decide +kernel
theorem dX11_commands_39 : decode cX11_commands 39 = .ok (.iastore, 1) := by decide +kernel
theorem dX11_commands_40 : decode cX11_commands 40 = .ok (.aload_n 0, 1) := by decide +kernel
theorem dX11_commands_41 : decode cX11_commands 41 = .ok (.getfield 9, 3) := by decide +kernel
theorem dX11_commands_44 : decode cX11_commands 44 = .ok (.iconst 3, 1) := by decide +kernel
theorem dX11_commands_45 : decode cX11_commands 45 = .ok (.iconst 2, 1) := by decide +kernel
theorem dX11_commands_46 : decode cX11_commands 46 = .ok (.iload_n 2, 1) := by decide +kernel
theorem dX11_commands_47 : decode cX11_commands 47 = .ok (.imul, 1) := by decide +kernel
theorem dX11_commands_48 : decode cX11_commands 48 = .ok (.iadd, 1) := by decide +kernel
theorem dX11_commands_49 : decode cX11_commands 49 = .ok (.iconst 1, 1) := by decide +kernel
theorem dX11_commands_50 : decode cX11_commands 50 = .ok (.iadd, 1) := by decide +kernel
theorem dX11_commands_51 : decode cX11_commands 51 = .ok (.aload_n 0, 1) := by decide +kernel
theorem dX11_commands_52 : decode cX11_commands 52 = .ok (.getfield 37, 3) := by decide +kernel
theorem dX11_commands_55 : decode cX11_commands 55 = .ok (.iload_n 1, 1) := by decide +kernel
theorem dX11_commands_56 : decode cX11_commands 56 = .ok (.iaload, 1) := by decide +kernel
theorem dX11_commands_57 : decode cX11_commands 57 = .ok (.iastore, 1) := by decide +kernel
theorem dX11_commands_58 : decode cX11_commands 58 = .ok (.iconst 0, 1) := by decide +kernel
theorem dX11_commands_59 : decode cX11_commands 59 = .ok (.ireturn, 1) := by decide +kernel
theorem dX11_meet_0 : decode cX11_meet 0 = .ok (.aload_n 0, 1) := by decide +kernel
theorem dX11_meet_1 : decode cX11_meet 1 = .ok (.iload_n 1, 1) := by decide +kernel
theorem dX11_meet_2 : decode cX11_meet 2 = .ok (.invokevirtual 104, 3) := by decide +kernel
theorem dX11_meet_5 : decode cX11_meet 5 = .ok (.ifCond .eq 16, 3) := by decide +kernel
theorem dX11_meet_8 : decode cX11_meet 8 = .ok (.aload_n 0, 1) := by decide +kernel
theorem dX11_meet_9 : decode cX11_meet 9 = .ok (.iload_n 2, 1) := by decide +kernel
theorem dX11_meet_10 : decode cX11_meet 10 = .ok (.invokevirtual 104, 3) := by decide +kernel
theorem dX11_meet_13 : decode cX11_meet 13 = .ok (.ifCond .eq 8, 3) := by decide +kernel
theorem dX11_meet_16 : decode cX11_meet 16 = .ok (.iload_n 1, 1) := by decide +kernel
theorem dX11_meet_17 : decode cX11_meet 17 = .ok (.iload_n 2, 1) := by decide +kernel
theorem dX11_meet_18 : decode cX11_meet 18 = .ok (.if_icmp .ne 5, 3) := by decide +kernel
theorem dX11_meet_21 : decode cX11_meet 21 = .ok (.iconst (-1), 1) := by decide +kernel
theorem dX11_meet_22 : decode cX11_meet 22 = .ok (.ireturn, 1) := by decide +kernel
theorem dX11_meet_23 : decode cX11_meet 23 = .ok (.aload_n 0, 1) := by decide +kernel
theorem dX11_meet_24 : decode cX11_meet 24 = .ok (.iload_n 1, 1) := by decide +kernel
theorem dX11_meet_25 : decode cX11_meet 25 = .ok (.iload_n 2, 1) := by decide +kernel
theorem dX11_meet_26 : decode cX11_meet 26 = .ok (.invokevirtual 141, 3) := by decide +kernel
theorem dX11_meet_29 : decode cX11_meet 29 = .ok (.ifCond .ne 6, 3) := by decide +kernel
theorem dX11_meet_32 : decode cX11_meet 32 = .ok (.bipush (-3), 2) := by decide +kernel
theorem dX11_meet_34 : decode cX11_meet 34 = .ok (.ireturn, 1) := by decide +kernel
theorem dX11_meet_35 : decode cX11_meet 35 = .ok (.aload_n 0, 1) := by decide +kernel
theorem dX11_meet_36 : decode cX11_meet 36 = .ok (.iload_n 1, 1) := by decide +kernel
theorem dX11_meet_37 : decode cX11_meet 37 = .ok (.iload_n 2, 1) := by decide +kernel
theorem dX11_meet_38 : decode cX11_meet 38 = .ok (.invokevirtual 145, 3) := by decide +kernel
theorem dX11_meet_41 : decode cX11_meet 41 = .ok (.bipush 100, 2) := by decide +kernel
theorem dX11_meet_43 : decode cX11_meet 43 = .ok (.aload_n 0, 1) := by decide +kernel
theorem dX11_meet_44 : decode cX11_meet 44 = .ok (.getfield 111, 3) := by decide +kernel
theorem dX11_meet_47 : decode cX11_meet 47 = .ok (.imul, 1) := by decide +kernel
theorem dX11_meet_48 : decode cX11_meet 48 = .ok (.aload_n 0, 1) := by decide +kernel
theorem dX11_meet_49 : decode cX11_meet 49 = .ok (.getfield 114, 3) := by decide +kernel
theorem dX11_meet_52 : decode cX11_meet 52 = .ok (.iadd, 1) := by decide +kernel
theorem dX11_meet_53 : decode cX11_meet 53 = .ok (.ireturn, 1) := by decide +kernel
theorem dX11_wrongMeetings_0 : decode cX11_wrongMeetings 0 = .ok (.aload_n 0, 1) := by decide +kernel
theorem dX11_wrongMeetings_1 : decode cX11_wrongMeetings 1 = .ok (.iload_n 1, 1) := by decide +kernel
theorem dX11_wrongMeetings_2 : decode cX11_wrongMeetings 2 = .ok (.iconst 0, 1) := by decide +kernel
theorem dX11_wrongMeetings_3 : decode cX11_wrongMeetings 3 = .ok (.invokevirtual 152, 3) := by decide +kernel
theorem dX11_wrongMeetings_6 : decode cX11_wrongMeetings 6 = .ok (.istore_n 2, 1) := by decide +kernel
theorem dX11_wrongMeetings_7 : decode cX11_wrongMeetings 7 = .ok (.iload_n 2, 1) := by decide +kernel
theorem dX11_wrongMeetings_8 : decode cX11_wrongMeetings 8 = .ok (.ifCond .eq 5, 3) := by decide +kernel
theorem dX11_wrongMeetings_11 : decode cX11_wrongMeetings 11 = .ok (.iload_n 2, 1) := by decide +kernel
theorem dX11_wrongMeetings_12 : decode cX11_wrongMeetings 12 = .ok (.ireturn, 1) := by decide +kernel
theorem dX11_wrongMeetings_13 : decode cX11_wrongMeetings 13 = .ok (.aload_n 0, 1) := by decide +kernel
theorem dX11_wrongMeetings_14 : decode cX11_wrongMeetings 14 = .ok (.getfield 28, 3) := by decide +kernel
theorem dX11_wrongMeetings_17 : decode cX11_wrongMeetings 17 = .ok (.iload_n 1, 1) := by decide +kernel
theorem dX11_wrongMeetings_18 : decode cX11_wrongMeetings 18 = .ok (.iaload, 1) := by decide +kernel
theorem dX11_wrongMeetings_19 : decode cX11_wrongMeetings 19 = .ok (.iconst 2, 1) := by decide +kernel
theorem dX11_wrongMeetings_20 : decode cX11_wrongMeetings 20 = .ok (.irem, 1) := by decide +kernel
theorem dX11_wrongMeetings_21 : decode cX11_wrongMeetings 21 = .ok (.ifCond .ne 14, 3) := by decide +kernel
theorem dX11_wrongMeetings_24 : decode cX11_wrongMeetings 24 = .ok (.aload_n 0, 1) := by decide +kernel
theorem dX11_wrongMeetings_25 : decode cX11_wrongMeetings 25 = .ok (.getfield 28, 3) := by decide +kernel
theorem dX11_wrongMeetings_28 : decode cX11_wrongMeetings 28 = .ok (.iload_n 1, 1) := by decide +kernel
theorem dX11_wrongMeetings_29 : decode cX11_wrongMeetings 29 = .ok (.iaload, 1) := by decide +kernel
theorem dX11_wrongMeetings_30 : decode cX11_wrongMeetings 30 = .ok (.bipush 24, 2) := by decide +kernel
theorem dX11_wrongMeetings_32 : decode cX11_wrongMeetings 32 = .ok (.if_icmp .le 6, 3) := by decide +kernel
theorem dX11_wrongMeetings_35 : decode cX11_wrongMeetings 35 = .ok (.bipush (-13), 2) := by decide +kernel
theorem dX11_wrongMeetings_37 : decode cX11_wrongMeetings 37 = .ok (.ireturn, 1) := by decide +kernel
theorem dX11_wrongMeetings_38 : decode cX11_wrongMeetings 38 = .ok (.iconst 0, 1) := by decide +kernel
theorem dX11_wrongMeetings_39 : decode cX11_wrongMeetings 39 = .ok (.istore_n 3, 1) := by decide +kernel
theorem dX11_wrongMeetings_40 : decode cX11_wrongMeetings 40 = .ok (.iload_n 3, 1) := by decide +kernel
theorem dX11_wrongMeetings_41 : decode cX11_wrongMeetings 41 = .ok (.aload_n 0, 1) := by decide +kernel
theorem dX11_wrongMeetings_42 : decode cX11_wrongMeetings 42 = .ok (.getfield 28, 3) := by decide +kernel
theorem dX11_wrongMeetings_45 : decode cX11_wrongMeetings 45 = .ok (.iload_n 1, 1) := by decide +kernel
theorem dX11_wrongMeetings_46 : decode cX11_wrongMeetings 46 = .ok (.iaload, 1) := by decide +kernel
theorem dX11_wrongMeetings_47 : decode cX11_wrongMeetings 47 = .ok (.if_icmp .ge 65, 3) := by decide +kernel
theorem dX11_wrongMeetings_50 : decode cX11_wrongMeetings 50 = .ok (.aload_n 0, 1) := by decide +kernel
theorem dX11_wrongMeetings_51 : decode cX11_wrongMeetings 51 = .ok (.getfield 31, 3) := by decide +kernel
theorem dX11_wrongMeetings_54 : decode cX11_wrongMeetings 54 = .ok (.bipush 100, 2) := by decide +kernel
theorem dX11_wrongMeetings_56 : decode cX11_wrongMeetings 56 = .ok (.iload_n 1, 1) := by decide +kernel
theorem dX11_wrongMeetings_57 : decode cX11_wrongMeetings 57 = .ok (.imul, 1) := by decide +kernel
theorem dX11_wrongMeetings_58 : decode cX11_wrongMeetings 58 = .ok (.iload_n 3, 1) := by decide +kernel
theorem dX11_wrongMeetings_59 : decode cX11_wrongMeetings 59 = .ok (.iadd, 1) := by decide +kernel
theorem dX11_wrongMeetings_60 : decode cX11_wrongMeetings 60 = .ok (.iaload, 1) := by decide +kernel
theorem dX11_wrongMeetings_61 : decode cX11_wrongMeetings 61 = .ok (.istore 4, 2) := by decide +kernel
theorem dX11_wrongMeetings_63 : decode cX11_wrongMeetings 63 = .ok (.aload_n 0, 1) := by decide +kernel
theorem dX11_wrongMeetings_64 : decode cX11_wrongMeetings 64 = .ok (.getfield 31, 3) := by decide +kernel
theorem dX11_wrongMeetings_67 : decode cX11_wrongMeetings 67 = .ok (.bipush 100, 2) := by decide +kernel
theorem dX11_wrongMeetings_69 : decode cX11_wrongMeetings 69 = .ok (.iload_n 1, 1) := by decide +kernel
theorem dX11_wrongMeetings_70 : decode cX11_wrongMeetings 70 = .ok (.imul, 1) := by decide +kernel
theorem dX11_wrongMeetings_71 : decode cX11_wrongMeetings 71 = .ok (.iload_n 3, 1) := by decide +kernel
theorem dX11_wrongMeetings_72 : decode cX11_wrongMeetings 72 = .ok (.iadd, 1) := by decide +kernel
theorem dX11_wrongMeetings_73 : decode cX11_wrongMeetings 73 = .ok (.iconst 1, 1) := by decide +kernel
theorem dX11_wrongMeetings_74 : decode cX11_wrongMeetings 74 = .ok (.iadd, 1) := by decide +kernel
theorem dX11_wrongMeetings_75 : decode cX11_wrongMeetings 75 = .ok (.iaload, 1) := by decide +kernel
theorem dX11_wrongMeetings_76 : decode cX11_wrongMeetings 76 = .ok (.istore 5, 2) := by decide +kernel
theorem dX11_wrongMeetings_78 : decode cX11_wrongMeetings 78 = .ok (.aload_n 0, 1) := by decide +kernel
theorem dX11_wrongMeetings_79 : decode cX11_wrongMeetings 79 = .ok (.iload 4, 2) := by decide +kernel
theorem dX11_wrongMeetings_81 : decode cX11_wrongMeetings 81 = .ok (.invokevirtual 104, 3) := by decide +kernel
theorem dX11_wrongMeetings_84 : decode cX11_wrongMeetings 84 = .ok (.ifCond .eq 19, 3) := by decide +kernel
theorem dX11_wrongMeetings_87 : decode cX11_wrongMeetings 87 = .ok (.aload_n 0, 1) := by decide +kernel
theorem dX11_wrongMeetings_88 : decode cX11_wrongMeetings 88 = .ok (.iload 5, 2) := by decide +kernel
theorem dX11_wrongMeetings_90 : decode cX11_wrongMeetings 90 = .ok (.invokevirtual 104, 3) := by decide +kernel
theorem dX11_wrongMeetings_93 : decode cX11_wrongMeetings 93 = .ok (.ifCond .eq 10, 3) := by decide +kernel
theorem dX11_wrongMeetings_96 : decode cX11_wrongMeetings 96 = .ok (.iload 4, 2) := by decide +kernel
theorem dX11_wrongMeetings_98 : decode cX11_wrongMeetings 98 = .ok (.iload 5, 2) := by decide +kernel
theorem dX11_wrongMeetings_100 : decode cX11_wrongMeetings 100 = .ok (.if_icmp .ne 6, 3) := by decide +kernel
theorem dX11_wrongMeetings_103 : decode cX11_wrongMeetings 103 = .ok (.bipush (-13), 2) := by decide +kernel
theorem dX11_wrongMeetings_105 : decode cX11_wrongMeetings 105 = .ok (.ireturn, 1) := by decide +kernel
theorem dX11_wrongMeetings_106 : decode cX11_wrongMeetings 106 = .ok (.iinc 3 2, 3) := by decide +kernel
theorem dX11_wrongMeetings_109 : decode cX11_wrongMeetings 109 = .ok (.goto (-69), 3) := by decide +kernel
theorem dX11_wrongMeetings_112 : decode cX11_wrongMeetings 112 = .ok (.iconst 0, 1) := by decide +kernel
theorem dX11_wrongMeetings_113 : decode cX11_wrongMeetings 113 = .ok (.ireturn, 1) := by decide +kernel
theorem dX11_first_0 : decode cX11_first 0 = .ok (.aload_n 0, 1) := by decide +kernel
theorem dX11_first_1 : decode cX11_first 1 = .ok (.getfield 31, 3) := by decide +kernel
theorem dX11_first_4 : decode cX11_first 4 = .ok (.bipush 100, 2) := by decide +kernel
theorem dX11_first_6 : decode cX11_first 6 = .ok (.iload_n 1, 1) := by decide +kernel
theorem dX11_first_7 : decode cX11_first 7 = .ok (.imul, 1) := by decide +kernel
theorem dX11_first_8 : decode cX11_first 8 = .ok (.iconst 2, 1) := by decide +kernel
theorem dX11_first_9 : decode cX11_first 9 = .ok (.iload_n 2, 1) := by decide +kernel
theorem dX11_first_10 : decode cX11_first 10 = .ok (.imul, 1) := by decide +kernel
theorem dX11_first_11 : decode cX11_first 11 = .ok (.iadd, 1) := by decide +kernel
theorem dX11_first_12 : decode cX11_first 12 = .ok (.iaload, 1) := by decide +kernel
theorem dX11_first_13 : decode cX11_first 13 = .ok (.ireturn, 1) := by decide +kernel
theorem dX11_second_0 : decode cX11_second 0 = .ok (.aload_n 0, 1) := by decide +kernel
theorem dX11_second_1 : decode cX11_second 1 = .ok (.getfield 31, 3) := by decide +kernel
theorem dX11_second_4 : decode cX11_second 4 = .ok (.bipush 100, 2) := by decide +kernel
theorem dX11_second_6 : decode cX11_second 6 = .ok (.iload_n 1, 1) := by decide +kernel
theorem dX11_second_7 : decode cX11_second 7 = .ok (.imul, 1) := by decide +kernel
theorem dX11_second_8 : decode cX11_second 8 = .ok (.iconst 2, 1) := by decide +kernel
theorem dX11_second_9 : decode cX11_second 9 = .ok (.iload_n 2, 1) := by decide +kernel
theorem dX11_second_10 : decode cX11_second 10 = .ok (.imul, 1) := by decide +kernel
theorem dX11_second_11 : decode cX11_second 11 = .ok (.iadd, 1) := by decide +kernel
theorem dX11_second_12 : decode cX11_second 12 = .ok (.iconst 1, 1) := by decide +kernel
theorem dX11_second_13 : decode cX11_second 13 = .ok (.iadd, 1) := by decide +kernel
theorem dX11_second_14 : decode cX11_second 14 = .ok (.iaload, 1) := by decide +kernel
theorem dX11_second_15 : decode cX11_second 15 = .ok (.ireturn, 1) := by decide +kernel
theorem dX11_meetings_0 : decode cX11_meetings 0 = .ok (.aload_n 0, 1) := by decide +kernel
theorem dX11_meetings_1 : decode cX11_meetings 1 = .ok (.getfield 28, 3) := by decide +kernel
theorem dX11_meetings_4 : decode cX11_meetings 4 = .ok (.iload_n 1, 1) := by decide +kernel
theorem dX11_meetings_5 : decode cX11_meetings 5 = .ok (.iaload, 1) := by decide +kernel
theorem dX11_meetings_6 : decode cX11_meetings 6 = .ok (.iconst 2, 1) := by decide +kernel
theorem dX11_meetings_7 : decode cX11_meetings 7 = .ok (.idiv, 1) := by decide +kernel
theorem dX11_meetings_8 : decode cX11_meetings 8 = .ok (.ireturn, 1) := by decide +kernel
theorem dX11_meetsTold_0 : decode cX11_meetsTold 0 = .ok (.aload_n 0, 1) := by decide +kernel
theorem dX11_meetsTold_1 : decode cX11_meetsTold 1 = .ok (.aload_n 0, 1) := by decide +kernel
theorem dX11_meetsTold_2 : decode cX11_meetsTold 2 = .ok (.iload_n 1, 1) := by decide +kernel
theorem dX11_meetsTold_3 : decode cX11_meetsTold 3 = .ok (.iload_n 2, 1) := by decide +kernel
theorem dX11_meetsTold_4 : decode cX11_meetsTold 4 = .ok (.invokevirtual 174, 3) := by decide +kernel
theorem dX11_meetsTold_7 : decode cX11_meetsTold 7 = .ok (.aload_n 0, 1) := by decide +kernel
theorem dX11_meetsTold_8 : decode cX11_meetsTold 8 = .ok (.iload_n 1, 1) := by decide +kernel
theorem dX11_meetsTold_9 : decode cX11_meetsTold 9 = .ok (.iload_n 2, 1) := by decide +kernel
theorem dX11_meetsTold_10 : decode cX11_meetsTold 10 = .ok (.invokevirtual 177, 3) := by decide +kernel
theorem dX11_meetsTold_13 : decode cX11_meetsTold 13 = .ok (.invokevirtual 141, 3) := by decide +kernel
theorem dX11_meetsTold_16 : decode cX11_meetsTold 16 = .ok (.ifCond .ne 5, 3) := by decide +kernel
theorem dX11_meetsTold_19 : decode cX11_meetsTold 19 = .ok (.iconst 0, 1) := by decide +kernel
theorem dX11_meetsTold_20 : decode cX11_meetsTold 20 = .ok (.ireturn, 1) := by decide +kernel
theorem dX11_meetsTold_21 : decode cX11_meetsTold 21 = .ok (.aload_n 0, 1) := by decide +kernel
theorem dX11_meetsTold_22 : decode cX11_meetsTold 22 = .ok (.aload_n 0, 1) := by decide +kernel
theorem dX11_meetsTold_23 : decode cX11_meetsTold 23 = .ok (.iload_n 1, 1) := by decide +kernel
theorem dX11_meetsTold_24 : decode cX11_meetsTold 24 = .ok (.iload_n 2, 1) := by decide +kernel
theorem dX11_meetsTold_25 : decode cX11_meetsTold 25 = .ok (.invokevirtual 174, 3) := by decide +kernel
theorem dX11_meetsTold_28 : decode cX11_meetsTold 28 = .ok (.aload_n 0, 1) := by decide +kernel
theorem dX11_meetsTold_29 : decode cX11_meetsTold 29 = .ok (.iload_n 1, 1) := by decide +kernel
theorem dX11_meetsTold_30 : decode cX11_meetsTold 30 = .ok (.iload_n 2, 1) := by decide +kernel
theorem dX11_meetsTold_31 : decode cX11_meetsTold 31 = .ok (.invokevirtual 177, 3) := by decide +kernel
theorem dX11_meetsTold_34 : decode cX11_meetsTold 34 = .ok (.invokevirtual 145, 3) := by decide +kernel
theorem dX11_meetsTold_37 : decode cX11_meetsTold 37 = .ok (.iconst 1, 1) := by decide +kernel
theorem dX11_meetsTold_38 : decode cX11_meetsTold 38 = .ok (.ireturn, 1) := by decide +kernel
theorem dX11_begins_0 : decode cX11_begins 0 = .ok (.aload_n 0, 1) := by decide +kernel
theorem dX11_begins_1 : decode cX11_begins 1 = .ok (.getfield 9, 3) := by decide +kernel
theorem dX11_begins_4 : decode cX11_begins 4 = .ok (.aload_n 0, 1) := by decide +kernel
theorem dX11_begins_5 : decode cX11_begins 5 = .ok (.getfield 19, 3) := by decide +kernel
theorem dX11_begins_8 : decode cX11_begins 8 = .ok (.invokestatic 159, 3) := by decide +kernel
theorem dX11_begins_11 : decode cX11_begins 11 = .ok (.return_, 1) := by decide +kernel
theorem dX11_ends_0 : decode cX11_ends 0 = .ok (.aload_n 0, 1) := by decide +kernel
theorem dX11_ends_1 : decode cX11_ends 1 = .ok (.getfield 19, 3) := by decide +kernel
theorem dX11_ends_4 : decode cX11_ends 4 = .ok (.aload_n 0, 1) := by decide +kernel
theorem dX11_ends_5 : decode cX11_ends 5 = .ok (.getfield 9, 3) := by decide +kernel
theorem dX11_ends_8 : decode cX11_ends 8 = .ok (.invokestatic 159, 3) := by decide +kernel
theorem dX11_ends_11 : decode cX11_ends 11 = .ok (.return_, 1) := by decide +kernel
theorem dX11_where_0 : decode cX11_where 0 = .ok (.aload_n 0, 1) := by decide +kernel
theorem dX11_where_1 : decode cX11_where 1 = .ok (.iload_n 1, 1) := by decide +kernel
theorem dX11_where_2 : decode cX11_where 2 = .ok (.invokevirtual 166, 3) := by decide +kernel
theorem dX11_where_5 : decode cX11_where 5 = .ok (.ifCond .eq 11, 3) := by decide +kernel
theorem dX11_where_8 : decode cX11_where 8 = .ok (.aload_n 0, 1) := by decide +kernel
theorem dX11_where_9 : decode cX11_where 9 = .ok (.iload_n 2, 1) := by decide +kernel
theorem dX11_where_10 : decode cX11_where 10 = .ok (.invokevirtual 180, 3) := by decide +kernel
theorem dX11_where_13 : decode cX11_where 13 = .ok (.goto 4, 3) := by decide +kernel
theorem dX11_where_16 : decode cX11_where 16 = .ok (.iconst (-1), 1) := by decide +kernel
theorem dX11_where_17 : decode cX11_where 17 = .ok (.istore_n 3, 1) := by decide +kernel
theorem dX11_where_18 : decode cX11_where 18 = .ok (.iload_n 3, 1) := by decide +kernel
theorem dX11_where_19 : decode cX11_where 19 = .ok (.ifCond .eq 5, 3) := by decide +kernel
theorem dX11_where_22 : decode cX11_where 22 = .ok (.iload_n 3, 1) := by decide +kernel
theorem dX11_where_23 : decode cX11_where 23 = .ok (.ireturn, 1) := by decide +kernel
theorem dX11_where_24 : decode cX11_where 24 = .ok (.aload_n 0, 1) := by decide +kernel
theorem dX11_where_25 : decode cX11_where 25 = .ok (.invokevirtual 183, 3) := by decide +kernel
theorem dX11_where_28 : decode cX11_where 28 = .ok (.iconst 0, 1) := by decide +kernel
theorem dX11_where_29 : decode cX11_where 29 = .ok (.istore 4, 2) := by decide +kernel
theorem dX11_where_31 : decode cX11_where 31 = .ok (.iload 4, 2) := by decide +kernel
theorem dX11_where_33 : decode cX11_where 33 = .ok (.aload_n 0, 1) := by decide +kernel
theorem dX11_where_34 : decode cX11_where 34 = .ok (.iload_n 2, 1) := by decide +kernel
theorem dX11_where_35 : decode cX11_where 35 = .ok (.invokevirtual 186, 3) := by decide +kernel
theorem dX11_where_38 : decode cX11_where 38 = .ok (.if_icmp .ge 18, 3) := by decide +kernel
theorem dX11_where_41 : decode cX11_where 41 = .ok (.aload_n 0, 1) := by decide +kernel
theorem dX11_where_42 : decode cX11_where 42 = .ok (.iload_n 2, 1) := by decide +kernel
theorem dX11_where_43 : decode cX11_where 43 = .ok (.iload 4, 2) := by decide +kernel
theorem dX11_where_45 : decode cX11_where 45 = .ok (.invokevirtual 189, 3) := by decide +kernel
theorem dX11_where_48 : decode cX11_where 48 = .ok (.istore 5, 2) := by decide +kernel
theorem dX11_where_50 : decode cX11_where 50 = .ok (.iinc 4 1, 3) := by decide +kernel
theorem dX11_where_53 : decode cX11_where 53 = .ok (.goto (-22), 3) := by decide +kernel
theorem dX11_where_56 : decode cX11_where 56 = .ok (.aload_n 0, 1) := by decide +kernel
theorem dX11_where_57 : decode cX11_where 57 = .ok (.iload_n 1, 1) := by decide +kernel
theorem dX11_where_58 : decode cX11_where 58 = .ok (.iconst 0, 1) := by decide +kernel
theorem dX11_where_59 : decode cX11_where 59 = .ok (.invokevirtual 67, 3) := by decide +kernel
theorem dX11_where_62 : decode cX11_where 62 = .ok (.istore 4, 2) := by decide +kernel
theorem dX11_where_64 : decode cX11_where 64 = .ok (.aload_n 0, 1) := by decide +kernel
theorem dX11_where_65 : decode cX11_where 65 = .ok (.invokevirtual 192, 3) := by decide +kernel
theorem dX11_where_68 : decode cX11_where 68 = .ok (.iload 4, 2) := by decide +kernel
theorem dX11_where_70 : decode cX11_where 70 = .ok (.ireturn, 1) := by decide +kernel
theorem dX11_mayBe_0 : decode cX11_mayBe 0 = .ok (.aload_n 0, 1) := by decide +kernel
theorem dX11_mayBe_1 : decode cX11_mayBe 1 = .ok (.iload_n 2, 1) := by decide +kernel
theorem dX11_mayBe_2 : decode cX11_mayBe 2 = .ok (.iload_n 3, 1) := by decide +kernel
theorem dX11_mayBe_3 : decode cX11_mayBe 3 = .ok (.invokevirtual 141, 3) := by decide +kernel
theorem dX11_mayBe_6 : decode cX11_mayBe 6 = .ok (.ifCond .ne 5, 3) := by decide +kernel
theorem dX11_mayBe_9 : decode cX11_mayBe 9 = .ok (.iload_n 1, 1) := by decide +kernel
theorem dX11_mayBe_10 : decode cX11_mayBe 10 = .ok (.ireturn, 1) := by decide +kernel
theorem dX11_mayBe_11 : decode cX11_mayBe 11 = .ok (.iload_n 1, 1) := by decide +kernel
theorem dX11_mayBe_12 : decode cX11_mayBe 12 = .ok (.iconst 1, 1) := by decide +kernel
theorem dX11_mayBe_13 : decode cX11_mayBe 13 = .ok (.iload_n 2, 1) := by decide +kernel
theorem dX11_mayBe_14 : decode cX11_mayBe 14 = .ok (.ishl, 1) := by decide +kernel
theorem dX11_mayBe_15 : decode cX11_mayBe 15 = .ok (.iconst (-1), 1) := by decide +kernel
theorem dX11_mayBe_16 : decode cX11_mayBe 16 = .ok (.ixor, 1) := by decide +kernel
theorem dX11_mayBe_17 : decode cX11_mayBe 17 = .ok (.iand, 1) := by decide +kernel
theorem dX11_mayBe_18 : decode cX11_mayBe 18 = .ok (.iconst 1, 1) := by decide +kernel
theorem dX11_mayBe_19 : decode cX11_mayBe 19 = .ok (.iload_n 3, 1) := by decide +kernel
theorem dX11_mayBe_20 : decode cX11_mayBe 20 = .ok (.ishl, 1) := by decide +kernel
theorem dX11_mayBe_21 : decode cX11_mayBe 21 = .ok (.iconst (-1), 1) := by decide +kernel
theorem dX11_mayBe_22 : decode cX11_mayBe 22 = .ok (.ixor, 1) := by decide +kernel
theorem dX11_mayBe_23 : decode cX11_mayBe 23 = .ok (.iand, 1) := by decide +kernel
theorem dX11_mayBe_24 : decode cX11_mayBe 24 = .ok (.istore 4, 2) := by decide +kernel
theorem dX11_mayBe_26 : decode cX11_mayBe 26 = .ok (.iload_n 1, 1) := by decide +kernel
theorem dX11_mayBe_27 : decode cX11_mayBe 27 = .ok (.iload_n 2, 1) := by decide +kernel
theorem dX11_mayBe_28 : decode cX11_mayBe 28 = .ok (.ishr, 1) := by decide +kernel
theorem dX11_mayBe_29 : decode cX11_mayBe 29 = .ok (.iconst 1, 1) := by decide +kernel
theorem dX11_mayBe_30 : decode cX11_mayBe 30 = .ok (.iand, 1) := by decide +kernel
theorem dX11_mayBe_31 : decode cX11_mayBe 31 = .ok (.iconst 1, 1) := by decide +kernel
theorem dX11_mayBe_32 : decode cX11_mayBe 32 = .ok (.if_icmp .ne 31, 3) := by decide +kernel
theorem dX11_mayBe_35 : decode cX11_mayBe 35 = .ok (.iload 4, 2) := by decide +kernel
theorem dX11_mayBe_37 : decode cX11_mayBe 37 = .ok (.iconst 1, 1) := by decide +kernel
theorem dX11_mayBe_38 : decode cX11_mayBe 38 = .ok (.iload_n 3, 1) := by decide +kernel
theorem dX11_mayBe_39 : decode cX11_mayBe 39 = .ok (.ishl, 1) := by decide +kernel
theorem dX11_mayBe_40 : decode cX11_mayBe 40 = .ok (.aload_n 0, 1) := by decide +kernel
theorem dX11_mayBe_41 : decode cX11_mayBe 41 = .ok (.iload_n 2, 1) := by decide +kernel
theorem dX11_mayBe_42 : decode cX11_mayBe 42 = .ok (.invokevirtual 74, 3) := by decide +kernel
theorem dX11_mayBe_45 : decode cX11_mayBe 45 = .ok (.invokestatic 84, 3) := by decide +kernel
theorem dX11_mayBe_48 : decode cX11_mayBe 48 = .ok (.iconst 1, 1) := by decide +kernel
theorem dX11_mayBe_49 : decode cX11_mayBe 49 = .ok (.if_icmp .le 9, 3) := by decide +kernel
theorem dX11_mayBe_52 : decode cX11_mayBe 52 = .ok (.iconst 1, 1) := by decide +kernel
theorem dX11_mayBe_53 : decode cX11_mayBe 53 = .ok (.iload_n 2, 1) := by decide +kernel
theorem dX11_mayBe_54 : decode cX11_mayBe 54 = .ok (.ishl, 1) := by decide +kernel
theorem dX11_mayBe_55 : decode cX11_mayBe 55 = .ok (.goto 4, 3) := by decide +kernel
theorem dX11_mayBe_58 : decode cX11_mayBe 58 = .ok (.iconst 0, 1) := by decide +kernel
theorem dX11_mayBe_59 : decode cX11_mayBe 59 = .ok (.ior, 1) := by decide +kernel
theorem dX11_mayBe_60 : decode cX11_mayBe 60 = .ok (.ior, 1) := by decide +kernel
theorem dX11_mayBe_61 : decode cX11_mayBe 61 = .ok (.istore 4, 2) := by decide +kernel
theorem dX11_mayBe_63 : decode cX11_mayBe 63 = .ok (.iload_n 1, 1) := by decide +kernel
theorem dX11_mayBe_64 : decode cX11_mayBe 64 = .ok (.iload_n 3, 1) := by decide +kernel
theorem dX11_mayBe_65 : decode cX11_mayBe 65 = .ok (.ishr, 1) := by decide +kernel
theorem dX11_mayBe_66 : decode cX11_mayBe 66 = .ok (.iconst 1, 1) := by decide +kernel
theorem dX11_mayBe_67 : decode cX11_mayBe 67 = .ok (.iand, 1) := by decide +kernel
theorem dX11_mayBe_68 : decode cX11_mayBe 68 = .ok (.iconst 1, 1) := by decide +kernel
theorem dX11_mayBe_69 : decode cX11_mayBe 69 = .ok (.if_icmp .ne 31, 3) := by decide +kernel
theorem dX11_mayBe_72 : decode cX11_mayBe 72 = .ok (.iload 4, 2) := by decide +kernel
theorem dX11_mayBe_74 : decode cX11_mayBe 74 = .ok (.iconst 1, 1) := by decide +kernel
theorem dX11_mayBe_75 : decode cX11_mayBe 75 = .ok (.iload_n 2, 1) := by decide +kernel
theorem dX11_mayBe_76 : decode cX11_mayBe 76 = .ok (.ishl, 1) := by decide +kernel
theorem dX11_mayBe_77 : decode cX11_mayBe 77 = .ok (.aload_n 0, 1) := by decide +kernel
theorem dX11_mayBe_78 : decode cX11_mayBe 78 = .ok (.iload_n 3, 1) := by decide +kernel
theorem dX11_mayBe_79 : decode cX11_mayBe 79 = .ok (.invokevirtual 74, 3) := by decide +kernel
theorem dX11_mayBe_82 : decode cX11_mayBe 82 = .ok (.invokestatic 84, 3) := by decide +kernel
theorem dX11_mayBe_85 : decode cX11_mayBe 85 = .ok (.iconst 1, 1) := by decide +kernel
theorem dX11_mayBe_86 : decode cX11_mayBe 86 = .ok (.if_icmp .le 9, 3) := by decide +kernel
theorem dX11_mayBe_89 : decode cX11_mayBe 89 = .ok (.iconst 1, 1) := by decide +kernel
theorem dX11_mayBe_90 : decode cX11_mayBe 90 = .ok (.iload_n 3, 1) := by decide +kernel
theorem dX11_mayBe_91 : decode cX11_mayBe 91 = .ok (.ishl, 1) := by decide +kernel
theorem dX11_mayBe_92 : decode cX11_mayBe 92 = .ok (.goto 4, 3) := by decide +kernel
theorem dX11_mayBe_95 : decode cX11_mayBe 95 = .ok (.iconst 0, 1) := by decide +kernel
theorem dX11_mayBe_96 : decode cX11_mayBe 96 = .ok (.ior, 1) := by decide +kernel
theorem dX11_mayBe_97 : decode cX11_mayBe 97 = .ok (.ior, 1) := by decide +kernel
theorem dX11_mayBe_98 : decode cX11_mayBe 98 = .ok (.istore 4, 2) := by decide +kernel
theorem dX11_mayBe_100 : decode cX11_mayBe 100 = .ok (.iload 4, 2) := by decide +kernel
theorem dX11_mayBe_102 : decode cX11_mayBe 102 = .ok (.ireturn, 1) := by decide +kernel
theorem dX11_can_0 : decode cX11_can 0 = .ok (.aload_n 0, 1) := by decide +kernel
theorem dX11_can_1 : decode cX11_can 1 = .ok (.iload_n 1, 1) := by decide +kernel
theorem dX11_can_2 : decode cX11_can 2 = .ok (.invokevirtual 166, 3) := by decide +kernel
theorem dX11_can_5 : decode cX11_can 5 = .ok (.ifCond .eq 11, 3) := by decide +kernel
theorem dX11_can_8 : decode cX11_can 8 = .ok (.aload_n 0, 1) := by decide +kernel
theorem dX11_can_9 : decode cX11_can 9 = .ok (.iload_n 2, 1) := by decide +kernel
theorem dX11_can_10 : decode cX11_can 10 = .ok (.invokevirtual 180, 3) := by decide +kernel
theorem dX11_can_13 : decode cX11_can 13 = .ok (.goto 4, 3) := by decide +kernel
theorem dX11_can_16 : decode cX11_can 16 = .ok (.iconst (-1), 1) := by decide +kernel
theorem dX11_can_17 : decode cX11_can 17 = .ok (.istore_n 3, 1) := by decide +kernel
theorem dX11_can_18 : decode cX11_can 18 = .ok (.iload_n 3, 1) := by decide +kernel
theorem dX11_can_19 : decode cX11_can 19 = .ok (.ifCond .eq 5, 3) := by decide +kernel
theorem dX11_can_22 : decode cX11_can 22 = .ok (.iload_n 3, 1) := by decide +kernel
theorem dX11_can_23 : decode cX11_can 23 = .ok (.ireturn, 1) := by decide +kernel
theorem dX11_can_24 : decode cX11_can 24 = .ok (.iconst 1, 1) := by decide +kernel
theorem dX11_can_25 : decode cX11_can 25 = .ok (.aload_n 0, 1) := by decide +kernel
theorem dX11_can_26 : decode cX11_can 26 = .ok (.iload_n 1, 1) := by decide +kernel
theorem dX11_can_27 : decode cX11_can 27 = .ok (.iconst 0, 1) := by decide +kernel
theorem dX11_can_28 : decode cX11_can 28 = .ok (.invokevirtual 67, 3) := by decide +kernel
theorem dX11_can_31 : decode cX11_can 31 = .ok (.ishl, 1) := by decide +kernel
theorem dX11_can_32 : decode cX11_can 32 = .ok (.istore 4, 2) := by decide +kernel
theorem dX11_can_34 : decode cX11_can 34 = .ok (.iconst 0, 1) := by decide +kernel
theorem dX11_can_35 : decode cX11_can 35 = .ok (.istore 5, 2) := by decide +kernel
theorem dX11_can_37 : decode cX11_can 37 = .ok (.iload 5, 2) := by decide +kernel
theorem dX11_can_39 : decode cX11_can 39 = .ok (.aload_n 0, 1) := by decide +kernel
theorem dX11_can_40 : decode cX11_can 40 = .ok (.iload_n 2, 1) := by decide +kernel
theorem dX11_can_41 : decode cX11_can 41 = .ok (.invokevirtual 186, 3) := by decide +kernel
theorem dX11_can_44 : decode cX11_can 44 = .ok (.if_icmp .ge 31, 3) := by decide +kernel
theorem dX11_can_47 : decode cX11_can 47 = .ok (.aload_n 0, 1) := by decide +kernel
theorem dX11_can_48 : decode cX11_can 48 = .ok (.iload 4, 2) := by decide +kernel
theorem dX11_can_50 : decode cX11_can 50 = .ok (.aload_n 0, 1) := by decide +kernel
theorem dX11_can_51 : decode cX11_can 51 = .ok (.iload_n 2, 1) := by decide +kernel
theorem dX11_can_52 : decode cX11_can 52 = .ok (.iload 5, 2) := by decide +kernel
theorem dX11_can_54 : decode cX11_can 54 = .ok (.invokevirtual 174, 3) := by decide +kernel
theorem dX11_can_57 : decode cX11_can 57 = .ok (.aload_n 0, 1) := by decide +kernel
theorem dX11_can_58 : decode cX11_can 58 = .ok (.iload_n 2, 1) := by decide +kernel
theorem dX11_can_59 : decode cX11_can 59 = .ok (.iload 5, 2) := by decide +kernel
theorem dX11_can_61 : decode cX11_can 61 = .ok (.invokevirtual 177, 3) := by decide +kernel
theorem dX11_can_64 : decode cX11_can 64 = .ok (.invokevirtual 195, 3) := by decide +kernel
theorem dX11_can_67 : decode cX11_can 67 = .ok (.istore 4, 2) := by decide +kernel
theorem dX11_can_69 : decode cX11_can 69 = .ok (.iinc 5 1, 3) := by decide +kernel
theorem dX11_can_72 : decode cX11_can 72 = .ok (.goto (-35), 3) := by decide +kernel
theorem dX11_can_75 : decode cX11_can 75 = .ok (.iload 4, 2) := by decide +kernel
theorem dX11_can_77 : decode cX11_can 77 = .ok (.ireturn, 1) := by decide +kernel
theorem dX11_soonest_0 : decode cX11_soonest 0 = .ok (.aload_n 0, 1) := by decide +kernel
theorem dX11_soonest_1 : decode cX11_soonest 1 = .ok (.iload_n 1, 1) := by decide +kernel
theorem dX11_soonest_2 : decode cX11_soonest 2 = .ok (.invokevirtual 166, 3) := by decide +kernel
theorem dX11_soonest_5 : decode cX11_soonest 5 = .ok (.ifCond .eq 19, 3) := by decide +kernel
theorem dX11_soonest_8 : decode cX11_soonest 8 = .ok (.aload_n 0, 1) := by decide +kernel
theorem dX11_soonest_9 : decode cX11_soonest 9 = .ok (.iload_n 2, 1) := by decide +kernel
theorem dX11_soonest_10 : decode cX11_soonest 10 = .ok (.invokevirtual 104, 3) := by decide +kernel
theorem dX11_soonest_13 : decode cX11_soonest 13 = .ok (.ifCond .eq 11, 3) := by decide +kernel
theorem dX11_soonest_16 : decode cX11_soonest 16 = .ok (.aload_n 0, 1) := by decide +kernel
theorem dX11_soonest_17 : decode cX11_soonest 17 = .ok (.iload_n 3, 1) := by decide +kernel
theorem dX11_soonest_18 : decode cX11_soonest 18 = .ok (.invokevirtual 180, 3) := by decide +kernel
theorem dX11_soonest_21 : decode cX11_soonest 21 = .ok (.goto 4, 3) := by decide +kernel
theorem dX11_soonest_24 : decode cX11_soonest 24 = .ok (.iconst (-1), 1) := by decide +kernel
theorem dX11_soonest_25 : decode cX11_soonest 25 = .ok (.istore 4, 2) := by decide +kernel
theorem dX11_soonest_27 : decode cX11_soonest 27 = .ok (.iload 4, 2) := by decide +kernel
theorem dX11_soonest_29 : decode cX11_soonest 29 = .ok (.ifCond .eq 6, 3) := by decide +kernel
theorem dX11_soonest_32 : decode cX11_soonest 32 = .ok (.iload 4, 2) := by decide +kernel
theorem dX11_soonest_34 : decode cX11_soonest 34 = .ok (.ireturn, 1) := by decide +kernel
theorem dX11_soonest_35 : decode cX11_soonest 35 = .ok (.iconst 1, 1) := by decide +kernel
theorem dX11_soonest_36 : decode cX11_soonest 36 = .ok (.aload_n 0, 1) := by decide +kernel
theorem dX11_soonest_37 : decode cX11_soonest 37 = .ok (.iload_n 1, 1) := by decide +kernel
theorem dX11_soonest_38 : decode cX11_soonest 38 = .ok (.iconst 0, 1) := by decide +kernel
theorem dX11_soonest_39 : decode cX11_soonest 39 = .ok (.invokevirtual 67, 3) := by decide +kernel
theorem dX11_soonest_42 : decode cX11_soonest 42 = .ok (.ishl, 1) := by decide +kernel
theorem dX11_soonest_43 : decode cX11_soonest 43 = .ok (.istore 5, 2) := by decide +kernel
theorem dX11_soonest_45 : decode cX11_soonest 45 = .ok (.iconst 0, 1) := by decide +kernel
theorem dX11_soonest_46 : decode cX11_soonest 46 = .ok (.istore 6, 2) := by decide +kernel
theorem dX11_soonest_48 : decode cX11_soonest 48 = .ok (.iload 6, 2) := by decide +kernel
theorem dX11_soonest_50 : decode cX11_soonest 50 = .ok (.aload_n 0, 1) := by decide +kernel
theorem dX11_soonest_51 : decode cX11_soonest 51 = .ok (.iload_n 3, 1) := by decide +kernel
theorem dX11_soonest_52 : decode cX11_soonest 52 = .ok (.invokevirtual 186, 3) := by decide +kernel
theorem dX11_soonest_55 : decode cX11_soonest 55 = .ok (.if_icmp .gt 54, 3) := by decide +kernel
theorem dX11_soonest_58 : decode cX11_soonest 58 = .ok (.iload 5, 2) := by decide +kernel
theorem dX11_soonest_60 : decode cX11_soonest 60 = .ok (.iload_n 2, 1) := by decide +kernel
theorem dX11_soonest_61 : decode cX11_soonest 61 = .ok (.ishr, 1) := by decide +kernel
theorem dX11_soonest_62 : decode cX11_soonest 62 = .ok (.iconst 1, 1) := by decide +kernel
theorem dX11_soonest_63 : decode cX11_soonest 63 = .ok (.iand, 1) := by decide +kernel
theorem dX11_soonest_64 : decode cX11_soonest 64 = .ok (.iconst 1, 1) := by decide +kernel
theorem dX11_soonest_65 : decode cX11_soonest 65 = .ok (.if_icmp .ne 6, 3) := by decide +kernel
theorem dX11_soonest_68 : decode cX11_soonest 68 = .ok (.iload 6, 2) := by decide +kernel
theorem dX11_soonest_70 : decode cX11_soonest 70 = .ok (.ireturn, 1) := by decide +kernel
theorem dX11_soonest_71 : decode cX11_soonest 71 = .ok (.iload 6, 2) := by decide +kernel
theorem dX11_soonest_73 : decode cX11_soonest 73 = .ok (.aload_n 0, 1) := by decide +kernel
theorem dX11_soonest_74 : decode cX11_soonest 74 = .ok (.iload_n 3, 1) := by decide +kernel
theorem dX11_soonest_75 : decode cX11_soonest 75 = .ok (.invokevirtual 186, 3) := by decide +kernel
theorem dX11_soonest_78 : decode cX11_soonest 78 = .ok (.if_icmp .ge 25, 3) := by decide +kernel
theorem dX11_soonest_81 : decode cX11_soonest 81 = .ok (.aload_n 0, 1) := by decide +kernel
theorem dX11_soonest_82 : decode cX11_soonest 82 = .ok (.iload 5, 2) := by decide +kernel
theorem dX11_soonest_84 : decode cX11_soonest 84 = .ok (.aload_n 0, 1) := by decide +kernel
theorem dX11_soonest_85 : decode cX11_soonest 85 = .ok (.iload_n 3, 1) := by decide +kernel
theorem dX11_soonest_86 : decode cX11_soonest 86 = .ok (.iload 6, 2) := by decide +kernel
theorem dX11_soonest_88 : decode cX11_soonest 88 = .ok (.invokevirtual 174, 3) := by decide +kernel
theorem dX11_soonest_91 : decode cX11_soonest 91 = .ok (.aload_n 0, 1) := by decide +kernel
theorem dX11_soonest_92 : decode cX11_soonest 92 = .ok (.iload_n 3, 1) := by decide +kernel
theorem dX11_soonest_93 : decode cX11_soonest 93 = .ok (.iload 6, 2) := by decide +kernel
theorem dX11_soonest_95 : decode cX11_soonest 95 = .ok (.invokevirtual 177, 3) := by decide +kernel
theorem dX11_soonest_98 : decode cX11_soonest 98 = .ok (.invokevirtual 195, 3) := by decide +kernel
theorem dX11_soonest_101 : decode cX11_soonest 101 = .ok (.istore 5, 2) := by decide +kernel
theorem dX11_soonest_103 : decode cX11_soonest 103 = .ok (.iinc 6 1, 3) := by decide +kernel
theorem dX11_soonest_106 : decode cX11_soonest 106 = .ok (.goto (-58), 3) := by decide +kernel
theorem dX11_soonest_109 : decode cX11_soonest 109 = .ok (.bipush (-4), 2) := by decide +kernel
theorem dX11_soonest_111 : decode cX11_soonest 111 = .ok (.ireturn, 1) := by decide +kernel
theorem dX11_likely_0 : decode cX11_likely 0 = .ok (.aload_n 0, 1) := by decide +kernel
theorem dX11_likely_1 : decode cX11_likely 1 = .ok (.iload_n 1, 1) := by decide +kernel
theorem dX11_likely_2 : decode cX11_likely 2 = .ok (.invokevirtual 166, 3) := by decide +kernel
theorem dX11_likely_5 : decode cX11_likely 5 = .ok (.ifCond .eq 30, 3) := by decide +kernel
theorem dX11_likely_8 : decode cX11_likely 8 = .ok (.aload_n 0, 1) := by decide +kernel
theorem dX11_likely_9 : decode cX11_likely 9 = .ok (.iload_n 2, 1) := by decide +kernel
theorem dX11_likely_10 : decode cX11_likely 10 = .ok (.invokevirtual 104, 3) := by decide +kernel
theorem dX11_likely_13 : decode cX11_likely 13 = .ok (.ifCond .eq 22, 3) := by decide +kernel
theorem dX11_likely_16 : decode cX11_likely 16 = .ok (.iload 4, 2) := by decide +kernel
theorem dX11_likely_18 : decode cX11_likely 18 = .ok (.i2l, 1) := by decide +kernel
theorem dX11_likely_19 : decode cX11_likely 19 = .ok (.lconst 0, 1) := by decide +kernel
theorem dX11_likely_20 : decode cX11_likely 20 = .ok (.lconst 1, 1) := by decide +kernel
theorem dX11_likely_21 : decode cX11_likely 21 = .ok (.invokestatic 59, 3) := by decide +kernel
theorem dX11_likely_24 : decode cX11_likely 24 = .ok (.ifCond .eq 11, 3) := by decide +kernel
theorem dX11_likely_27 : decode cX11_likely 27 = .ok (.aload_n 0, 1) := by decide +kernel
theorem dX11_likely_28 : decode cX11_likely 28 = .ok (.iload_n 3, 1) := by decide +kernel
theorem dX11_likely_29 : decode cX11_likely 29 = .ok (.invokevirtual 180, 3) := by decide +kernel
theorem dX11_likely_32 : decode cX11_likely 32 = .ok (.goto 4, 3) := by decide +kernel
theorem dX11_likely_35 : decode cX11_likely 35 = .ok (.iconst (-1), 1) := by decide +kernel
theorem dX11_likely_36 : decode cX11_likely 36 = .ok (.istore 5, 2) := by decide +kernel
theorem dX11_likely_38 : decode cX11_likely 38 = .ok (.iload 5, 2) := by decide +kernel
theorem dX11_likely_40 : decode cX11_likely 40 = .ok (.ifCond .eq 10, 3) := by decide +kernel
theorem dX11_likely_43 : decode cX11_likely 43 = .ok (.ldc 199, 2) := by decide +kernel
theorem dX11_likely_45 : decode cX11_likely 45 = .ok (.iload 5, 2) := by decide +kernel
theorem dX11_likely_47 : decode cX11_likely 47 = .ok (.iadd, 1) := by decide +kernel
theorem dX11_likely_48 : decode cX11_likely 48 = .ok (.i2l, 1) := by decide +kernel
theorem dX11_likely_49 : decode cX11_likely 49 = .ok (.lreturn, 1) := by decide +kernel
theorem dX11_likely_50 : decode cX11_likely 50 = .ok (.iconst 0, 1) := by decide +kernel
theorem dX11_likely_51 : decode cX11_likely 51 = .ok (.istore 6, 2) := by decide +kernel
theorem dX11_likely_53 : decode cX11_likely 53 = .ok (.iload 6, 2) := by decide +kernel
theorem dX11_likely_55 : decode cX11_likely 55 = .ok (.iconst 5, 1) := by decide +kernel
theorem dX11_likely_56 : decode cX11_likely 56 = .ok (.if_icmp .ge 32, 3) := by decide +kernel
theorem dX11_likely_59 : decode cX11_likely 59 = .ok (.aload_n 0, 1) := by decide +kernel
theorem dX11_likely_60 : decode cX11_likely 60 = .ok (.getfield 43, 3) := by decide +kernel
theorem dX11_likely_63 : decode cX11_likely 63 = .ok (.iload 6, 2) := by decide +kernel
theorem dX11_likely_65 : decode cX11_likely 65 = .ok (.iload 6, 2) := by decide +kernel
theorem dX11_likely_67 : decode cX11_likely 67 = .ok (.aload_n 0, 1) := by decide +kernel
theorem dX11_likely_68 : decode cX11_likely 68 = .ok (.iload_n 1, 1) := by decide +kernel
theorem dX11_likely_69 : decode cX11_likely 69 = .ok (.iconst 0, 1) := by decide +kernel
theorem dX11_likely_70 : decode cX11_likely 70 = .ok (.invokevirtual 67, 3) := by decide +kernel
theorem dX11_likely_73 : decode cX11_likely 73 = .ok (.if_icmp .ne 7, 3) := by decide +kernel
theorem dX11_likely_76 : decode cX11_likely 76 = .ok (.lconst 1, 1) := by decide +kernel
theorem dX11_likely_77 : decode cX11_likely 77 = .ok (.goto 4, 3) := by decide +kernel
theorem dX11_likely_80 : decode cX11_likely 80 = .ok (.lconst 0, 1) := by decide +kernel
theorem dX11_likely_81 : decode cX11_likely 81 = .ok (.lastore, 1) := by decide +kernel
theorem dX11_likely_82 : decode cX11_likely 82 = .ok (.iinc 6 1, 3) := by decide +kernel
theorem dX11_likely_85 : decode cX11_likely 85 = .ok (.goto (-32), 3) := by decide +kernel
theorem dX11_likely_88 : decode cX11_likely 88 = .ok (.lconst 1, 1) := by decide +kernel
theorem dX11_likely_89 : decode cX11_likely 89 = .ok (.lstore 6, 2) := by decide +kernel
theorem dX11_likely_91 : decode cX11_likely 91 = .ok (.iconst 0, 1) := by decide +kernel
theorem dX11_likely_92 : decode cX11_likely 92 = .ok (.istore 8, 2) := by decide +kernel
theorem dX11_likely_94 : decode cX11_likely 94 = .ok (.iload 8, 2) := by decide +kernel
theorem dX11_likely_96 : decode cX11_likely 96 = .ok (.aload_n 0, 1) := by decide +kernel
theorem dX11_likely_97 : decode cX11_likely 97 = .ok (.iload_n 3, 1) := by decide +kernel
theorem dX11_likely_98 : decode cX11_likely 98 = .ok (.invokevirtual 186, 3) := by decide +kernel
theorem dX11_likely_101 : decode cX11_likely 101 = .ok (.if_icmp .ge 194, 3) := by decide +kernel
theorem dX11_likely_104 : decode cX11_likely 104 = .ok (.iload 8, 2) := by decide +kernel
theorem dX11_likely_106 : decode cX11_likely 106 = .ok (.bipush 8, 2) := by decide +kernel
theorem dX11_likely_108 : decode cX11_likely 108 = .ok (.if_icmp .ge 187, 3) := by decide +kernel
theorem dX11_likely_111 : decode cX11_likely 111 = .ok (.aload_n 0, 1) := by decide +kernel
theorem dX11_likely_112 : decode cX11_likely 112 = .ok (.iload_n 3, 1) := by decide +kernel
theorem dX11_likely_113 : decode cX11_likely 113 = .ok (.iload 8, 2) := by decide +kernel
theorem dX11_likely_115 : decode cX11_likely 115 = .ok (.invokevirtual 174, 3) := by decide +kernel
theorem dX11_likely_118 : decode cX11_likely 118 = .ok (.istore 9, 2) := by decide +kernel
theorem dX11_likely_120 : decode cX11_likely 120 = .ok (.aload_n 0, 1) := by decide +kernel
theorem dX11_likely_121 : decode cX11_likely 121 = .ok (.iload_n 3, 1) := by decide +kernel
theorem dX11_likely_122 : decode cX11_likely 122 = .ok (.iload 8, 2) := by decide +kernel
theorem dX11_likely_124 : decode cX11_likely 124 = .ok (.invokevirtual 177, 3) := by decide +kernel
theorem dX11_likely_127 : decode cX11_likely 127 = .ok (.istore 10, 2) := by decide +kernel
theorem dX11_likely_129 : decode cX11_likely 129 = .ok (.aload_n 0, 1) := by decide +kernel
theorem dX11_likely_130 : decode cX11_likely 130 = .ok (.iload 9, 2) := by decide +kernel
theorem dX11_likely_132 : decode cX11_likely 132 = .ok (.iload 10, 2) := by decide +kernel
theorem dX11_likely_134 : decode cX11_likely 134 = .ok (.invokevirtual 141, 3) := by decide +kernel
theorem dX11_likely_137 : decode cX11_likely 137 = .ok (.ifCond .ne 6, 3) := by decide +kernel
theorem dX11_likely_140 : decode cX11_likely 140 = .ok (.goto 149, 3) := by decide +kernel
theorem dX11_likely_143 : decode cX11_likely 143 = .ok (.aload_n 0, 1) := by decide +kernel
theorem dX11_likely_144 : decode cX11_likely 144 = .ok (.iload 9, 2) := by decide +kernel
theorem dX11_likely_146 : decode cX11_likely 146 = .ok (.invokevirtual 74, 3) := by decide +kernel
theorem dX11_likely_149 : decode cX11_likely 149 = .ok (.invokestatic 84, 3) := by decide +kernel
theorem dX11_likely_152 : decode cX11_likely 152 = .ok (.istore 11, 2) := by decide +kernel
theorem dX11_likely_154 : decode cX11_likely 154 = .ok (.aload_n 0, 1) := by decide +kernel
theorem dX11_likely_155 : decode cX11_likely 155 = .ok (.iload 10, 2) := by decide +kernel
theorem dX11_likely_157 : decode cX11_likely 157 = .ok (.invokevirtual 74, 3) := by decide +kernel
theorem dX11_likely_160 : decode cX11_likely 160 = .ok (.invokestatic 84, 3) := by decide +kernel
theorem dX11_likely_163 : decode cX11_likely 163 = .ok (.istore 12, 2) := by decide +kernel
theorem dX11_likely_165 : decode cX11_likely 165 = .ok (.aload_n 0, 1) := by decide +kernel
theorem dX11_likely_166 : decode cX11_likely 166 = .ok (.getfield 43, 3) := by decide +kernel
theorem dX11_likely_169 : decode cX11_likely 169 = .ok (.iload 9, 2) := by decide +kernel
theorem dX11_likely_171 : decode cX11_likely 171 = .ok (.laload, 1) := by decide +kernel
theorem dX11_likely_172 : decode cX11_likely 172 = .ok (.iload 11, 2) := by decide +kernel
theorem dX11_likely_174 : decode cX11_likely 174 = .ok (.iconst 1, 1) := by decide +kernel
theorem dX11_likely_175 : decode cX11_likely 175 = .ok (.isub, 1) := by decide +kernel
theorem dX11_likely_176 : decode cX11_likely 176 = .ok (.i2l, 1) := by decide +kernel
theorem dX11_likely_177 : decode cX11_likely 177 = .ok (.lmul, 1) := by decide +kernel
theorem dX11_likely_178 : decode cX11_likely 178 = .ok (.iload 12, 2) := by decide +kernel
theorem dX11_likely_180 : decode cX11_likely 180 = .ok (.i2l, 1) := by decide +kernel
theorem dX11_likely_181 : decode cX11_likely 181 = .ok (.lmul, 1) := by decide +kernel
theorem dX11_likely_182 : decode cX11_likely 182 = .ok (.aload_n 0, 1) := by decide +kernel
theorem dX11_likely_183 : decode cX11_likely 183 = .ok (.getfield 43, 3) := by decide +kernel
theorem dX11_likely_186 : decode cX11_likely 186 = .ok (.iload 10, 2) := by decide +kernel
theorem dX11_likely_188 : decode cX11_likely 188 = .ok (.laload, 1) := by decide +kernel
theorem dX11_likely_189 : decode cX11_likely 189 = .ok (.iload 11, 2) := by decide +kernel
theorem dX11_likely_191 : decode cX11_likely 191 = .ok (.i2l, 1) := by decide +kernel
theorem dX11_likely_192 : decode cX11_likely 192 = .ok (.lmul, 1) := by decide +kernel
theorem dX11_likely_193 : decode cX11_likely 193 = .ok (.ladd, 1) := by decide +kernel
theorem dX11_likely_194 : decode cX11_likely 194 = .ok (.lstore 13, 2) := by decide +kernel
theorem dX11_likely_196 : decode cX11_likely 196 = .ok (.aload_n 0, 1) := by decide +kernel
theorem dX11_likely_197 : decode cX11_likely 197 = .ok (.getfield 43, 3) := by decide +kernel
theorem dX11_likely_200 : decode cX11_likely 200 = .ok (.iload 10, 2) := by decide +kernel
theorem dX11_likely_202 : decode cX11_likely 202 = .ok (.laload, 1) := by decide +kernel
theorem dX11_likely_203 : decode cX11_likely 203 = .ok (.iload 12, 2) := by decide +kernel
theorem dX11_likely_205 : decode cX11_likely 205 = .ok (.iconst 1, 1) := by decide +kernel
theorem dX11_likely_206 : decode cX11_likely 206 = .ok (.isub, 1) := by decide +kernel
theorem dX11_likely_207 : decode cX11_likely 207 = .ok (.i2l, 1) := by decide +kernel
theorem dX11_likely_208 : decode cX11_likely 208 = .ok (.lmul, 1) := by decide +kernel
theorem dX11_likely_209 : decode cX11_likely 209 = .ok (.iload 11, 2) := by decide +kernel
theorem dX11_likely_211 : decode cX11_likely 211 = .ok (.i2l, 1) := by decide +kernel
theorem dX11_likely_212 : decode cX11_likely 212 = .ok (.lmul, 1) := by decide +kernel
theorem dX11_likely_213 : decode cX11_likely 213 = .ok (.aload_n 0, 1) := by decide +kernel
theorem dX11_likely_214 : decode cX11_likely 214 = .ok (.getfield 43, 3) := by decide +kernel
theorem dX11_likely_217 : decode cX11_likely 217 = .ok (.iload 9, 2) := by decide +kernel
theorem dX11_likely_219 : decode cX11_likely 219 = .ok (.laload, 1) := by decide +kernel
theorem dX11_likely_220 : decode cX11_likely 220 = .ok (.iload 12, 2) := by decide +kernel
theorem dX11_likely_222 : decode cX11_likely 222 = .ok (.i2l, 1) := by decide +kernel
theorem dX11_likely_223 : decode cX11_likely 223 = .ok (.lmul, 1) := by decide +kernel
theorem dX11_likely_224 : decode cX11_likely 224 = .ok (.ladd, 1) := by decide +kernel
theorem dX11_likely_225 : decode cX11_likely 225 = .ok (.lstore 15, 2) := by decide +kernel
theorem dX11_likely_227 : decode cX11_likely 227 = .ok (.iconst 0, 1) := by decide +kernel
theorem dX11_likely_228 : decode cX11_likely 228 = .ok (.istore 17, 2) := by decide +kernel
theorem dX11_likely_230 : decode cX11_likely 230 = .ok (.iload 17, 2) := by decide +kernel
theorem dX11_likely_232 : decode cX11_likely 232 = .ok (.iconst 5, 1) := by decide +kernel
theorem dX11_likely_233 : decode cX11_likely 233 = .ok (.if_icmp .ge 26, 3) := by decide +kernel
theorem dX11_likely_236 : decode cX11_likely 236 = .ok (.aload_n 0, 1) := by decide +kernel
theorem dX11_likely_237 : decode cX11_likely 237 = .ok (.getfield 43, 3) := by decide +kernel
theorem dX11_likely_240 : decode cX11_likely 240 = .ok (.iload 17, 2) := by decide +kernel
theorem dX11_likely_242 : decode cX11_likely 242 = .ok (.dup2, 1) := by decide +kernel
theorem dX11_likely_243 : decode cX11_likely 243 = .ok (.laload, 1) := by decide +kernel
theorem dX11_likely_244 : decode cX11_likely 244 = .ok (.iload 11, 2) := by decide +kernel
theorem dX11_likely_246 : decode cX11_likely 246 = .ok (.i2l, 1) := by decide +kernel
theorem dX11_likely_247 : decode cX11_likely 247 = .ok (.iload 12, 2) := by decide +kernel
theorem dX11_likely_249 : decode cX11_likely 249 = .ok (.i2l, 1) := by decide +kernel
theorem dX11_likely_250 : decode cX11_likely 250 = .ok (.lmul, 1) := by decide +kernel
theorem dX11_likely_251 : decode cX11_likely 251 = .ok (.lmul, 1) := by decide +kernel
theorem dX11_likely_252 : decode cX11_likely 252 = .ok (.lastore, 1) := by decide +kernel
theorem dX11_likely_253 : decode cX11_likely 253 = .ok (.iinc 17 1, 3) := by decide +kernel
theorem dX11_likely_256 : decode cX11_likely 256 = .ok (.goto (-26), 3) := by decide +kernel
theorem dX11_likely_259 : decode cX11_likely 259 = .ok (.aload_n 0, 1) := by decide +kernel
theorem dX11_likely_260 : decode cX11_likely 260 = .ok (.getfield 43, 3) := by decide +kernel
theorem dX11_likely_263 : decode cX11_likely 263 = .ok (.iload 9, 2) := by decide +kernel
theorem dX11_likely_265 : decode cX11_likely 265 = .ok (.lload 13, 2) := by decide +kernel
theorem dX11_likely_267 : decode cX11_likely 267 = .ok (.lastore, 1) := by decide +kernel
theorem dX11_likely_268 : decode cX11_likely 268 = .ok (.aload_n 0, 1) := by decide +kernel
theorem dX11_likely_269 : decode cX11_likely 269 = .ok (.getfield 43, 3) := by decide +kernel
theorem dX11_likely_272 : decode cX11_likely 272 = .ok (.iload 10, 2) := by decide +kernel
theorem dX11_likely_274 : decode cX11_likely 274 = .ok (.lload 15, 2) := by decide +kernel
theorem dX11_likely_276 : decode cX11_likely 276 = .ok (.lastore, 1) := by decide +kernel
theorem dX11_likely_277 : decode cX11_likely 277 = .ok (.lload 6, 2) := by decide +kernel
theorem dX11_likely_279 : decode cX11_likely 279 = .ok (.iload 11, 2) := by decide +kernel
theorem dX11_likely_281 : decode cX11_likely 281 = .ok (.i2l, 1) := by decide +kernel
theorem dX11_likely_282 : decode cX11_likely 282 = .ok (.iload 12, 2) := by decide +kernel
theorem dX11_likely_284 : decode cX11_likely 284 = .ok (.i2l, 1) := by decide +kernel
theorem dX11_likely_285 : decode cX11_likely 285 = .ok (.lmul, 1) := by decide +kernel
theorem dX11_likely_286 : decode cX11_likely 286 = .ok (.lmul, 1) := by decide +kernel
theorem dX11_likely_287 : decode cX11_likely 287 = .ok (.lstore 6, 2) := by decide +kernel
theorem dX11_likely_289 : decode cX11_likely 289 = .ok (.iinc 8 1, 3) := by decide +kernel
theorem dX11_likely_292 : decode cX11_likely 292 = .ok (.goto (-198), 3) := by decide +kernel
theorem dX11_likely_295 : decode cX11_likely 295 = .ok (.lload 6, 2) := by decide +kernel
theorem dX11_likely_297 : decode cX11_likely 297 = .ok (.aload_n 0, 1) := by decide +kernel
theorem dX11_likely_298 : decode cX11_likely 298 = .ok (.getfield 43, 3) := by decide +kernel
theorem dX11_likely_301 : decode cX11_likely 301 = .ok (.iload_n 2, 1) := by decide +kernel
theorem dX11_likely_302 : decode cX11_likely 302 = .ok (.laload, 1) := by decide +kernel
theorem dX11_likely_303 : decode cX11_likely 303 = .ok (.invokestatic 63, 3) := by decide +kernel
theorem dX11_likely_306 : decode cX11_likely 306 = .ok (.lstore 8, 2) := by decide +kernel
theorem dX11_likely_308 : decode cX11_likely 308 = .ok (.iload 4, 2) := by decide +kernel
theorem dX11_likely_310 : decode cX11_likely 310 = .ok (.ifCond .ne 15, 3) := by decide +kernel
theorem dX11_likely_313 : decode cX11_likely 313 = .ok (.aload_n 0, 1) := by decide +kernel
theorem dX11_likely_314 : decode cX11_likely 314 = .ok (.getfield 43, 3) := by decide +kernel
theorem dX11_likely_317 : decode cX11_likely 317 = .ok (.iload_n 2, 1) := by decide +kernel
theorem dX11_likely_318 : decode cX11_likely 318 = .ok (.laload, 1) := by decide +kernel
theorem dX11_likely_319 : decode cX11_likely 319 = .ok (.lload 8, 2) := by decide +kernel
theorem dX11_likely_321 : decode cX11_likely 321 = .ok (.ldiv, 1) := by decide +kernel
theorem dX11_likely_322 : decode cX11_likely 322 = .ok (.goto 8, 3) := by decide +kernel
theorem dX11_likely_325 : decode cX11_likely 325 = .ok (.lload 6, 2) := by decide +kernel
theorem dX11_likely_327 : decode cX11_likely 327 = .ok (.lload 8, 2) := by decide +kernel
theorem dX11_likely_329 : decode cX11_likely 329 = .ok (.ldiv, 1) := by decide +kernel
theorem dX11_likely_330 : decode cX11_likely 330 = .ok (.lreturn, 1) := by decide +kernel
theorem dX11_keeps_0 : decode cX11_keeps 0 = .ok (.iconst 0, 1) := by decide +kernel
theorem dX11_keeps_1 : decode cX11_keeps 1 = .ok (.istore_n 2, 1) := by decide +kernel
theorem dX11_keeps_2 : decode cX11_keeps 2 = .ok (.iload_n 2, 1) := by decide +kernel
theorem dX11_keeps_3 : decode cX11_keeps 3 = .ok (.bipush 73, 2) := by decide +kernel
theorem dX11_keeps_5 : decode cX11_keeps 5 = .ok (.if_icmp .ge 26, 3) := by decide +kernel
theorem dX11_keeps_8 : decode cX11_keeps 8 = .ok (.aload_n 0, 1) := by decide +kernel
theorem dX11_keeps_9 : decode cX11_keeps 9 = .ok (.getfield 47, 3) := by decide +kernel
theorem dX11_keeps_12 : decode cX11_keeps 12 = .ok (.bipush 73, 2) := by decide +kernel
theorem dX11_keeps_14 : decode cX11_keeps 14 = .ok (.iload_n 1, 1) := by decide +kernel
theorem dX11_keeps_15 : decode cX11_keeps 15 = .ok (.imul, 1) := by decide +kernel
theorem dX11_keeps_16 : decode cX11_keeps 16 = .ok (.iload_n 2, 1) := by decide +kernel
theorem dX11_keeps_17 : decode cX11_keeps 17 = .ok (.iadd, 1) := by decide +kernel
theorem dX11_keeps_18 : decode cX11_keeps 18 = .ok (.aload_n 0, 1) := by decide +kernel
theorem dX11_keeps_19 : decode cX11_keeps 19 = .ok (.getfield 9, 3) := by decide +kernel
theorem dX11_keeps_22 : decode cX11_keeps 22 = .ok (.iload_n 2, 1) := by decide +kernel
theorem dX11_keeps_23 : decode cX11_keeps 23 = .ok (.iaload, 1) := by decide +kernel
theorem dX11_keeps_24 : decode cX11_keeps 24 = .ok (.iastore, 1) := by decide +kernel
theorem dX11_keeps_25 : decode cX11_keeps 25 = .ok (.iinc 2 1, 3) := by decide +kernel
theorem dX11_keeps_28 : decode cX11_keeps 28 = .ok (.goto (-26), 3) := by decide +kernel
theorem dX11_keeps_31 : decode cX11_keeps 31 = .ok (.return_, 1) := by decide +kernel
theorem dX11_back_0 : decode cX11_back 0 = .ok (.iconst 0, 1) := by decide +kernel
theorem dX11_back_1 : decode cX11_back 1 = .ok (.istore_n 2, 1) := by decide +kernel
theorem dX11_back_2 : decode cX11_back 2 = .ok (.iload_n 2, 1) := by decide +kernel
theorem dX11_back_3 : decode cX11_back 3 = .ok (.bipush 73, 2) := by decide +kernel
theorem dX11_back_5 : decode cX11_back 5 = .ok (.if_icmp .ge 26, 3) := by decide +kernel
theorem dX11_back_8 : decode cX11_back 8 = .ok (.aload_n 0, 1) := by decide +kernel
theorem dX11_back_9 : decode cX11_back 9 = .ok (.getfield 9, 3) := by decide +kernel
theorem dX11_back_12 : decode cX11_back 12 = .ok (.iload_n 2, 1) := by decide +kernel
theorem dX11_back_13 : decode cX11_back 13 = .ok (.aload_n 0, 1) := by decide +kernel
theorem dX11_back_14 : decode cX11_back 14 = .ok (.getfield 47, 3) := by decide +kernel
theorem dX11_back_17 : decode cX11_back 17 = .ok (.bipush 73, 2) := by decide +kernel
theorem dX11_back_19 : decode cX11_back 19 = .ok (.iload_n 1, 1) := by decide +kernel
theorem dX11_back_20 : decode cX11_back 20 = .ok (.imul, 1) := by decide +kernel
theorem dX11_back_21 : decode cX11_back 21 = .ok (.iload_n 2, 1) := by decide +kernel
theorem dX11_back_22 : decode cX11_back 22 = .ok (.iadd, 1) := by decide +kernel
theorem dX11_back_23 : decode cX11_back 23 = .ok (.iaload, 1) := by decide +kernel
theorem dX11_back_24 : decode cX11_back 24 = .ok (.iastore, 1) := by decide +kernel
theorem dX11_back_25 : decode cX11_back 25 = .ok (.iinc 2 1, 3) := by decide +kernel
theorem dX11_back_28 : decode cX11_back 28 = .ok (.goto (-26), 3) := by decide +kernel
theorem dX11_back_31 : decode cX11_back 31 = .ok (.return_, 1) := by decide +kernel
theorem dX11_isWanted_0 : decode cX11_isWanted 0 = .ok (.iconst 0, 1) := by decide +kernel
theorem dX11_isWanted_1 : decode cX11_isWanted 1 = .ok (.istore_n 1, 1) := by decide +kernel
theorem dX11_isWanted_2 : decode cX11_isWanted 2 = .ok (.iload_n 1, 1) := by decide +kernel
theorem dX11_isWanted_3 : decode cX11_isWanted 3 = .ok (.aload_n 0, 1) := by decide +kernel
theorem dX11_isWanted_4 : decode cX11_isWanted 4 = .ok (.getfield 9, 3) := by decide +kernel
theorem dX11_isWanted_7 : decode cX11_isWanted 7 = .ok (.iconst 1, 1) := by decide +kernel
theorem dX11_isWanted_8 : decode cX11_isWanted 8 = .ok (.iaload, 1) := by decide +kernel
theorem dX11_isWanted_9 : decode cX11_isWanted 9 = .ok (.if_icmp .ge 35, 3) := by decide +kernel
theorem dX11_isWanted_12 : decode cX11_isWanted 12 = .ok (.aload_n 0, 1) := by decide +kernel
theorem dX11_isWanted_13 : decode cX11_isWanted 13 = .ok (.getfield 50, 3) := by decide +kernel
theorem dX11_isWanted_16 : decode cX11_isWanted 16 = .ok (.iload_n 1, 1) := by decide +kernel
theorem dX11_isWanted_17 : decode cX11_isWanted 17 = .ok (.iaload, 1) := by decide +kernel
theorem dX11_isWanted_18 : decode cX11_isWanted 18 = .ok (.ifCond .lt 20, 3) := by decide +kernel
theorem dX11_isWanted_21 : decode cX11_isWanted 21 = .ok (.aload_n 0, 1) := by decide +kernel
theorem dX11_isWanted_22 : decode cX11_isWanted 22 = .ok (.iload_n 1, 1) := by decide +kernel
theorem dX11_isWanted_23 : decode cX11_isWanted 23 = .ok (.iconst 0, 1) := by decide +kernel
theorem dX11_isWanted_24 : decode cX11_isWanted 24 = .ok (.invokevirtual 67, 3) := by decide +kernel
theorem dX11_isWanted_27 : decode cX11_isWanted 27 = .ok (.aload_n 0, 1) := by decide +kernel
theorem dX11_isWanted_28 : decode cX11_isWanted 28 = .ok (.getfield 50, 3) := by decide +kernel
theorem dX11_isWanted_31 : decode cX11_isWanted 31 = .ok (.iload_n 1, 1) := by decide +kernel
theorem dX11_isWanted_32 : decode cX11_isWanted 32 = .ok (.iaload, 1) := by decide +kernel
theorem dX11_isWanted_33 : decode cX11_isWanted 33 = .ok (.if_icmp .eq 5, 3) := by decide +kernel
theorem dX11_isWanted_36 : decode cX11_isWanted 36 = .ok (.iconst 0, 1) := by decide +kernel
theorem dX11_isWanted_37 : decode cX11_isWanted 37 = .ok (.ireturn, 1) := by decide +kernel
theorem dX11_isWanted_38 : decode cX11_isWanted 38 = .ok (.iinc 1 1, 3) := by decide +kernel
theorem dX11_isWanted_41 : decode cX11_isWanted 41 = .ok (.goto (-39), 3) := by decide +kernel
theorem dX11_isWanted_44 : decode cX11_isWanted 44 = .ok (.iconst 1, 1) := by decide +kernel
theorem dX11_isWanted_45 : decode cX11_isWanted 45 = .ok (.ireturn, 1) := by decide +kernel
theorem dX11_comesBy_0 : decode cX11_comesBy 0 = .ok (.iload_n 2, 1) := by decide +kernel
theorem dX11_comesBy_1 : decode cX11_comesBy 1 = .ok (.ifCond .ne 8, 3) := by decide +kernel
theorem dX11_comesBy_4 : decode cX11_comesBy 4 = .ok (.aload_n 0, 1) := by decide +kernel
theorem dX11_comesBy_5 : decode cX11_comesBy 5 = .ok (.invokevirtual 200, 3) := by decide +kernel
theorem dX11_comesBy_8 : decode cX11_comesBy 8 = .ok (.ireturn, 1) := by decide +kernel
theorem dX11_comesBy_9 : decode cX11_comesBy 9 = .ok (.aload_n 0, 1) := by decide +kernel
theorem dX11_comesBy_10 : decode cX11_comesBy 10 = .ok (.iload_n 1, 1) := by decide +kernel
theorem dX11_comesBy_11 : decode cX11_comesBy 11 = .ok (.invokevirtual 203, 3) := by decide +kernel
theorem dX11_comesBy_14 : decode cX11_comesBy 14 = .ok (.iconst 0, 1) := by decide +kernel
theorem dX11_comesBy_15 : decode cX11_comesBy 15 = .ok (.istore_n 3, 1) := by decide +kernel
theorem dX11_comesBy_16 : decode cX11_comesBy 16 = .ok (.iconst 0, 1) := by decide +kernel
theorem dX11_comesBy_17 : decode cX11_comesBy 17 = .ok (.istore 4, 2) := by decide +kernel
theorem dX11_comesBy_19 : decode cX11_comesBy 19 = .ok (.iload 4, 2) := by decide +kernel
theorem dX11_comesBy_21 : decode cX11_comesBy 21 = .ok (.aload_n 0, 1) := by decide +kernel
theorem dX11_comesBy_22 : decode cX11_comesBy 22 = .ok (.getfield 9, 3) := by decide +kernel
theorem dX11_comesBy_25 : decode cX11_comesBy 25 = .ok (.iconst 0, 1) := by decide +kernel
theorem dX11_comesBy_26 : decode cX11_comesBy 26 = .ok (.iaload, 1) := by decide +kernel
theorem dX11_comesBy_27 : decode cX11_comesBy 27 = .ok (.if_icmp .ge 98, 3) := by decide +kernel
theorem dX11_comesBy_30 : decode cX11_comesBy 30 = .ok (.iload_n 3, 1) := by decide +kernel
theorem dX11_comesBy_31 : decode cX11_comesBy 31 = .ok (.ifCond .ne 94, 3) := by decide +kernel
theorem dX11_comesBy_34 : decode cX11_comesBy 34 = .ok (.iload 4, 2) := by decide +kernel
theorem dX11_comesBy_36 : decode cX11_comesBy 36 = .ok (.iconst 1, 1) := by decide +kernel
theorem dX11_comesBy_37 : decode cX11_comesBy 37 = .ok (.iadd, 1) := by decide +kernel
theorem dX11_comesBy_38 : decode cX11_comesBy 38 = .ok (.istore 5, 2) := by decide +kernel
theorem dX11_comesBy_40 : decode cX11_comesBy 40 = .ok (.iload 5, 2) := by decide +kernel
theorem dX11_comesBy_42 : decode cX11_comesBy 42 = .ok (.aload_n 0, 1) := by decide +kernel
theorem dX11_comesBy_43 : decode cX11_comesBy 43 = .ok (.getfield 9, 3) := by decide +kernel
theorem dX11_comesBy_46 : decode cX11_comesBy 46 = .ok (.iconst 0, 1) := by decide +kernel
theorem dX11_comesBy_47 : decode cX11_comesBy 47 = .ok (.iaload, 1) := by decide +kernel
theorem dX11_comesBy_48 : decode cX11_comesBy 48 = .ok (.if_icmp .ge 71, 3) := by decide +kernel
theorem dX11_comesBy_51 : decode cX11_comesBy 51 = .ok (.iload_n 3, 1) := by decide +kernel
theorem dX11_comesBy_52 : decode cX11_comesBy 52 = .ok (.ifCond .ne 67, 3) := by decide +kernel
theorem dX11_comesBy_55 : decode cX11_comesBy 55 = .ok (.aload_n 0, 1) := by decide +kernel
theorem dX11_comesBy_56 : decode cX11_comesBy 56 = .ok (.iload 4, 2) := by decide +kernel
theorem dX11_comesBy_58 : decode cX11_comesBy 58 = .ok (.iload 5, 2) := by decide +kernel
theorem dX11_comesBy_60 : decode cX11_comesBy 60 = .ok (.invokevirtual 141, 3) := by decide +kernel
theorem dX11_comesBy_63 : decode cX11_comesBy 63 = .ok (.ifCond .ne 6, 3) := by decide +kernel
theorem dX11_comesBy_66 : decode cX11_comesBy 66 = .ok (.goto 47, 3) := by decide +kernel
theorem dX11_comesBy_69 : decode cX11_comesBy 69 = .ok (.aload_n 0, 1) := by decide +kernel
theorem dX11_comesBy_70 : decode cX11_comesBy 70 = .ok (.iload 4, 2) := by decide +kernel
theorem dX11_comesBy_72 : decode cX11_comesBy 72 = .ok (.iload 5, 2) := by decide +kernel
theorem dX11_comesBy_74 : decode cX11_comesBy 74 = .ok (.invokevirtual 145, 3) := by decide +kernel
theorem dX11_comesBy_77 : decode cX11_comesBy 77 = .ok (.aload_n 0, 1) := by decide +kernel
theorem dX11_comesBy_78 : decode cX11_comesBy 78 = .ok (.iload_n 1, 1) := by decide +kernel
theorem dX11_comesBy_79 : decode cX11_comesBy 79 = .ok (.iconst 1, 1) := by decide +kernel
theorem dX11_comesBy_80 : decode cX11_comesBy 80 = .ok (.iadd, 1) := by decide +kernel
theorem dX11_comesBy_81 : decode cX11_comesBy 81 = .ok (.iload_n 2, 1) := by decide +kernel
theorem dX11_comesBy_82 : decode cX11_comesBy 82 = .ok (.iconst 1, 1) := by decide +kernel
theorem dX11_comesBy_83 : decode cX11_comesBy 83 = .ok (.isub, 1) := by decide +kernel
theorem dX11_comesBy_84 : decode cX11_comesBy 84 = .ok (.invokevirtual 206, 3) := by decide +kernel
theorem dX11_comesBy_87 : decode cX11_comesBy 87 = .ok (.istore_n 3, 1) := by decide +kernel
theorem dX11_comesBy_88 : decode cX11_comesBy 88 = .ok (.aload_n 0, 1) := by decide +kernel
theorem dX11_comesBy_89 : decode cX11_comesBy 89 = .ok (.iload_n 1, 1) := by decide +kernel
theorem dX11_comesBy_90 : decode cX11_comesBy 90 = .ok (.invokevirtual 209, 3) := by decide +kernel
theorem dX11_comesBy_93 : decode cX11_comesBy 93 = .ok (.iload_n 3, 1) := by decide +kernel
theorem dX11_comesBy_94 : decode cX11_comesBy 94 = .ok (.ifCond .eq 19, 3) := by decide +kernel
theorem dX11_comesBy_97 : decode cX11_comesBy 97 = .ok (.iload_n 1, 1) := by decide +kernel
theorem dX11_comesBy_98 : decode cX11_comesBy 98 = .ok (.ifCond .ne 15, 3) := by decide +kernel
theorem dX11_comesBy_101 : decode cX11_comesBy 101 = .ok (.aload_n 0, 1) := by decide +kernel
theorem dX11_comesBy_102 : decode cX11_comesBy 102 = .ok (.bipush 10, 2) := by decide +kernel
theorem dX11_comesBy_104 : decode cX11_comesBy 104 = .ok (.iload 4, 2) := by decide +kernel
theorem dX11_comesBy_106 : decode cX11_comesBy 106 = .ok (.imul, 1) := by decide +kernel
theorem dX11_comesBy_107 : decode cX11_comesBy 107 = .ok (.iload 5, 2) := by decide +kernel
theorem dX11_comesBy_109 : decode cX11_comesBy 109 = .ok (.iadd, 1) := by decide +kernel
theorem dX11_comesBy_110 : decode cX11_comesBy 110 = .ok (.putfield 212, 3) := by decide +kernel
theorem dX11_comesBy_113 : decode cX11_comesBy 113 = .ok (.iinc 5 1, 3) := by decide +kernel
theorem dX11_comesBy_116 : decode cX11_comesBy 116 = .ok (.goto (-76), 3) := by decide +kernel
theorem dX11_comesBy_119 : decode cX11_comesBy 119 = .ok (.iinc 4 1, 3) := by decide +kernel
theorem dX11_comesBy_122 : decode cX11_comesBy 122 = .ok (.goto (-103), 3) := by decide +kernel
theorem dX11_comesBy_125 : decode cX11_comesBy 125 = .ok (.iload_n 3, 1) := by decide +kernel
theorem dX11_comesBy_126 : decode cX11_comesBy 126 = .ok (.ireturn, 1) := by decide +kernel
theorem dX11_fewestBy_0 : decode cX11_fewestBy 0 = .ok (.aload_n 0, 1) := by decide +kernel
theorem dX11_fewestBy_1 : decode cX11_fewestBy 1 = .ok (.bipush (-4), 2) := by decide +kernel
theorem dX11_fewestBy_3 : decode cX11_fewestBy 3 = .ok (.putfield 212, 3) := by decide +kernel
theorem dX11_fewestBy_6 : decode cX11_fewestBy 6 = .ok (.iconst 0, 1) := by decide +kernel
theorem dX11_fewestBy_7 : decode cX11_fewestBy 7 = .ok (.istore_n 2, 1) := by decide +kernel
theorem dX11_fewestBy_8 : decode cX11_fewestBy 8 = .ok (.iload_n 2, 1) := by decide +kernel
theorem dX11_fewestBy_9 : decode cX11_fewestBy 9 = .ok (.iload_n 1, 1) := by decide +kernel
theorem dX11_fewestBy_10 : decode cX11_fewestBy 10 = .ok (.if_icmp .gt 20, 3) := by decide +kernel
theorem dX11_fewestBy_13 : decode cX11_fewestBy 13 = .ok (.aload_n 0, 1) := by decide +kernel
theorem dX11_fewestBy_14 : decode cX11_fewestBy 14 = .ok (.iconst 0, 1) := by decide +kernel
theorem dX11_fewestBy_15 : decode cX11_fewestBy 15 = .ok (.iload_n 2, 1) := by decide +kernel
theorem dX11_fewestBy_16 : decode cX11_fewestBy 16 = .ok (.invokevirtual 206, 3) := by decide +kernel
theorem dX11_fewestBy_19 : decode cX11_fewestBy 19 = .ok (.ifCond .eq 5, 3) := by decide +kernel
theorem dX11_fewestBy_22 : decode cX11_fewestBy 22 = .ok (.iload_n 2, 1) := by decide +kernel
theorem dX11_fewestBy_23 : decode cX11_fewestBy 23 = .ok (.ireturn, 1) := by decide +kernel
theorem dX11_fewestBy_24 : decode cX11_fewestBy 24 = .ok (.iinc 2 1, 3) := by decide +kernel
theorem dX11_fewestBy_27 : decode cX11_fewestBy 27 = .ok (.goto (-19), 3) := by decide +kernel
theorem dX11_fewestBy_30 : decode cX11_fewestBy 30 = .ok (.bipush (-4), 2) := by decide +kernel
theorem dX11_fewestBy_32 : decode cX11_fewestBy 32 = .ok (.ireturn, 1) := by decide +kernel
theorem dX11_fewest_0 : decode cX11_fewest 0 = .ok (.aload_n 0, 1) := by decide +kernel
theorem dX11_fewest_1 : decode cX11_fewest 1 = .ok (.iload_n 1, 1) := by decide +kernel
theorem dX11_fewest_2 : decode cX11_fewest 2 = .ok (.invokevirtual 166, 3) := by decide +kernel
theorem dX11_fewest_5 : decode cX11_fewest 5 = .ok (.ifCond .eq 21, 3) := by decide +kernel
theorem dX11_fewest_8 : decode cX11_fewest 8 = .ok (.aload_n 0, 1) := by decide +kernel
theorem dX11_fewest_9 : decode cX11_fewest 9 = .ok (.iload_n 2, 1) := by decide +kernel
theorem dX11_fewest_10 : decode cX11_fewest 10 = .ok (.invokevirtual 104, 3) := by decide +kernel
theorem dX11_fewest_13 : decode cX11_fewest 13 = .ok (.ifCond .eq 13, 3) := by decide +kernel
theorem dX11_fewest_16 : decode cX11_fewest 16 = .ok (.iload_n 3, 1) := by decide +kernel
theorem dX11_fewest_17 : decode cX11_fewest 17 = .ok (.i2l, 1) := by decide +kernel
theorem dX11_fewest_18 : decode cX11_fewest 18 = .ok (.lconst 0, 1) := by decide +kernel
theorem dX11_fewest_19 : decode cX11_fewest 19 = .ok (.lconst 1, 1) := by decide +kernel
theorem dX11_fewest_20 : decode cX11_fewest 20 = .ok (.invokestatic 59, 3) := by decide +kernel
theorem dX11_fewest_23 : decode cX11_fewest 23 = .ok (.ifCond .ne 5, 3) := by decide +kernel
theorem dX11_fewest_26 : decode cX11_fewest 26 = .ok (.iconst (-1), 1) := by decide +kernel
theorem dX11_fewest_27 : decode cX11_fewest 27 = .ok (.ireturn, 1) := by decide +kernel
theorem dX11_fewest_28 : decode cX11_fewest 28 = .ok (.iconst 0, 1) := by decide +kernel
theorem dX11_fewest_29 : decode cX11_fewest 29 = .ok (.istore 4, 2) := by decide +kernel
theorem dX11_fewest_31 : decode cX11_fewest 31 = .ok (.iload 4, 2) := by decide +kernel
theorem dX11_fewest_33 : decode cX11_fewest 33 = .ok (.bipush 12, 2) := by decide +kernel
theorem dX11_fewest_35 : decode cX11_fewest 35 = .ok (.if_icmp .ge 28, 3) := by decide +kernel
theorem dX11_fewest_38 : decode cX11_fewest 38 = .ok (.aload_n 0, 1) := by decide +kernel
theorem dX11_fewest_39 : decode cX11_fewest 39 = .ok (.getfield 50, 3) := by decide +kernel
theorem dX11_fewest_42 : decode cX11_fewest 42 = .ok (.iload 4, 2) := by decide +kernel
theorem dX11_fewest_44 : decode cX11_fewest 44 = .ok (.iload 4, 2) := by decide +kernel
theorem dX11_fewest_46 : decode cX11_fewest 46 = .ok (.iload_n 1, 1) := by decide +kernel
theorem dX11_fewest_47 : decode cX11_fewest 47 = .ok (.if_icmp .ne 7, 3) := by decide +kernel
theorem dX11_fewest_50 : decode cX11_fewest 50 = .ok (.iload_n 2, 1) := by decide +kernel
theorem dX11_fewest_51 : decode cX11_fewest 51 = .ok (.goto 5, 3) := by decide +kernel
theorem dX11_fewest_54 : decode cX11_fewest 54 = .ok (.bipush (-4), 2) := by decide +kernel
theorem dX11_fewest_56 : decode cX11_fewest 56 = .ok (.iastore, 1) := by decide +kernel
theorem dX11_fewest_57 : decode cX11_fewest 57 = .ok (.iinc 4 1, 3) := by decide +kernel
theorem dX11_fewest_60 : decode cX11_fewest 60 = .ok (.goto (-29), 3) := by decide +kernel
theorem dX11_fewest_63 : decode cX11_fewest 63 = .ok (.aload_n 0, 1) := by decide +kernel
theorem dX11_fewest_64 : decode cX11_fewest 64 = .ok (.iconst 4, 1) := by decide +kernel
theorem dX11_fewest_65 : decode cX11_fewest 65 = .ok (.invokevirtual 215, 3) := by decide +kernel
theorem dX11_fewest_68 : decode cX11_fewest 68 = .ok (.istore 4, 2) := by decide +kernel
theorem dX11_fewest_70 : decode cX11_fewest 70 = .ok (.iload_n 3, 1) := by decide +kernel
theorem dX11_fewest_71 : decode cX11_fewest 71 = .ok (.ifCond .ne 8, 3) := by decide +kernel
theorem dX11_fewest_74 : decode cX11_fewest 74 = .ok (.iload 4, 2) := by decide +kernel
theorem dX11_fewest_76 : decode cX11_fewest 76 = .ok (.goto 7, 3) := by decide +kernel
theorem dX11_fewest_79 : decode cX11_fewest 79 = .ok (.aload_n 0, 1) := by decide +kernel
theorem dX11_fewest_80 : decode cX11_fewest 80 = .ok (.getfield 212, 3) := by decide +kernel
theorem dX11_fewest_83 : decode cX11_fewest 83 = .ok (.ireturn, 1) := by decide +kernel
theorem dX11_crews_0 : decode cX11_crews 0 = .ok (.aload_n 0, 1) := by decide +kernel
theorem dX11_crews_1 : decode cX11_crews 1 = .ok (.iload_n 1, 1) := by decide +kernel
theorem dX11_crews_2 : decode cX11_crews 2 = .ok (.iconst 0, 1) := by decide +kernel
theorem dX11_crews_3 : decode cX11_crews 3 = .ok (.invokevirtual 152, 3) := by decide +kernel
theorem dX11_crews_6 : decode cX11_crews 6 = .ok (.istore_n 2, 1) := by decide +kernel
theorem dX11_crews_7 : decode cX11_crews 7 = .ok (.iload_n 2, 1) := by decide +kernel
theorem dX11_crews_8 : decode cX11_crews 8 = .ok (.ifCond .eq 5, 3) := by decide +kernel
theorem dX11_crews_11 : decode cX11_crews 11 = .ok (.iload_n 2, 1) := by decide +kernel
theorem dX11_crews_12 : decode cX11_crews 12 = .ok (.ireturn, 1) := by decide +kernel
theorem dX11_crews_13 : decode cX11_crews 13 = .ok (.aload_n 0, 1) := by decide +kernel
theorem dX11_crews_14 : decode cX11_crews 14 = .ok (.getfield 28, 3) := by decide +kernel
theorem dX11_crews_17 : decode cX11_crews 17 = .ok (.iload_n 1, 1) := by decide +kernel
theorem dX11_crews_18 : decode cX11_crews 18 = .ok (.iaload, 1) := by decide +kernel
theorem dX11_crews_19 : decode cX11_crews 19 = .ok (.aload_n 0, 1) := by decide +kernel
theorem dX11_crews_20 : decode cX11_crews 20 = .ok (.getfield 9, 3) := by decide +kernel
theorem dX11_crews_23 : decode cX11_crews 23 = .ok (.iconst 1, 1) := by decide +kernel
theorem dX11_crews_24 : decode cX11_crews 24 = .ok (.iaload, 1) := by decide +kernel
theorem dX11_crews_25 : decode cX11_crews 25 = .ok (.if_icmp .eq 6, 3) := by decide +kernel
theorem dX11_crews_28 : decode cX11_crews 28 = .ok (.bipush (-13), 2) := by decide +kernel
theorem dX11_crews_30 : decode cX11_crews 30 = .ok (.ireturn, 1) := by decide +kernel
theorem dX11_crews_31 : decode cX11_crews 31 = .ok (.iconst 0, 1) := by decide +kernel
theorem dX11_crews_32 : decode cX11_crews 32 = .ok (.istore_n 3, 1) := by decide +kernel
theorem dX11_crews_33 : decode cX11_crews 33 = .ok (.iload_n 3, 1) := by decide +kernel
theorem dX11_crews_34 : decode cX11_crews 34 = .ok (.aload_n 0, 1) := by decide +kernel
theorem dX11_crews_35 : decode cX11_crews 35 = .ok (.getfield 28, 3) := by decide +kernel
theorem dX11_crews_38 : decode cX11_crews 38 = .ok (.iload_n 1, 1) := by decide +kernel
theorem dX11_crews_39 : decode cX11_crews 39 = .ok (.iaload, 1) := by decide +kernel
theorem dX11_crews_40 : decode cX11_crews 40 = .ok (.if_icmp .ge 47, 3) := by decide +kernel
theorem dX11_crews_43 : decode cX11_crews 43 = .ok (.aload_n 0, 1) := by decide +kernel
theorem dX11_crews_44 : decode cX11_crews 44 = .ok (.aload_n 0, 1) := by decide +kernel
theorem dX11_crews_45 : decode cX11_crews 45 = .ok (.getfield 31, 3) := by decide +kernel
theorem dX11_crews_48 : decode cX11_crews 48 = .ok (.bipush 100, 2) := by decide +kernel
theorem dX11_crews_50 : decode cX11_crews 50 = .ok (.iload_n 1, 1) := by decide +kernel
theorem dX11_crews_51 : decode cX11_crews 51 = .ok (.imul, 1) := by decide +kernel
theorem dX11_crews_52 : decode cX11_crews 52 = .ok (.iload_n 3, 1) := by decide +kernel
theorem dX11_crews_53 : decode cX11_crews 53 = .ok (.iadd, 1) := by decide +kernel
theorem dX11_crews_54 : decode cX11_crews 54 = .ok (.iaload, 1) := by decide +kernel
theorem dX11_crews_55 : decode cX11_crews 55 = .ok (.invokevirtual 104, 3) := by decide +kernel
theorem dX11_crews_58 : decode cX11_crews 58 = .ok (.ifCond .ne 6, 3) := by decide +kernel
theorem dX11_crews_61 : decode cX11_crews 61 = .ok (.bipush (-13), 2) := by decide +kernel
theorem dX11_crews_63 : decode cX11_crews 63 = .ok (.ireturn, 1) := by decide +kernel
theorem dX11_crews_64 : decode cX11_crews 64 = .ok (.aload_n 0, 1) := by decide +kernel
theorem dX11_crews_65 : decode cX11_crews 65 = .ok (.getfield 50, 3) := by decide +kernel
theorem dX11_crews_68 : decode cX11_crews 68 = .ok (.iload_n 3, 1) := by decide +kernel
theorem dX11_crews_69 : decode cX11_crews 69 = .ok (.aload_n 0, 1) := by decide +kernel
theorem dX11_crews_70 : decode cX11_crews 70 = .ok (.getfield 31, 3) := by decide +kernel
theorem dX11_crews_73 : decode cX11_crews 73 = .ok (.bipush 100, 2) := by decide +kernel
theorem dX11_crews_75 : decode cX11_crews 75 = .ok (.iload_n 1, 1) := by decide +kernel
theorem dX11_crews_76 : decode cX11_crews 76 = .ok (.imul, 1) := by decide +kernel
theorem dX11_crews_77 : decode cX11_crews 77 = .ok (.iload_n 3, 1) := by decide +kernel
theorem dX11_crews_78 : decode cX11_crews 78 = .ok (.iadd, 1) := by decide +kernel
theorem dX11_crews_79 : decode cX11_crews 79 = .ok (.iaload, 1) := by decide +kernel
theorem dX11_crews_80 : decode cX11_crews 80 = .ok (.iastore, 1) := by decide +kernel
theorem dX11_crews_81 : decode cX11_crews 81 = .ok (.iinc 3 1, 3) := by decide +kernel
theorem dX11_crews_84 : decode cX11_crews 84 = .ok (.goto (-51), 3) := by decide +kernel
theorem dX11_crews_87 : decode cX11_crews 87 = .ok (.aload_n 0, 1) := by decide +kernel
theorem dX11_crews_88 : decode cX11_crews 88 = .ok (.iconst 3, 1) := by decide +kernel
theorem dX11_crews_89 : decode cX11_crews 89 = .ok (.invokevirtual 215, 3) := by decide +kernel
theorem dX11_crews_92 : decode cX11_crews 92 = .ok (.ireturn, 1) := by decide +kernel
theorem dX11_sailed_0 : decode cX11_sailed 0 = .ok (.aload_n 0, 1) := by decide +kernel
theorem dX11_sailed_1 : decode cX11_sailed 1 = .ok (.iload_n 1, 1) := by decide +kernel
theorem dX11_sailed_2 : decode cX11_sailed 2 = .ok (.invokevirtual 166, 3) := by decide +kernel
theorem dX11_sailed_5 : decode cX11_sailed 5 = .ok (.ifCond .eq 12, 3) := by decide +kernel
theorem dX11_sailed_8 : decode cX11_sailed 8 = .ok (.aload_n 0, 1) := by decide +kernel
theorem dX11_sailed_9 : decode cX11_sailed 9 = .ok (.iload_n 1, 1) := by decide +kernel
theorem dX11_sailed_10 : decode cX11_sailed 10 = .ok (.iconst 4, 1) := by decide +kernel
theorem dX11_sailed_11 : decode cX11_sailed 11 = .ok (.invokevirtual 67, 3) := by decide +kernel
theorem dX11_sailed_14 : decode cX11_sailed 14 = .ok (.goto 4, 3) := by decide +kernel
theorem dX11_sailed_17 : decode cX11_sailed 17 = .ok (.iconst (-1), 1) := by decide +kernel
theorem dX11_sailed_18 : decode cX11_sailed 18 = .ok (.ireturn, 1) := by decide +kernel
theorem dX11_never_0 : decode cX11_never 0 = .ok (.iconst 0, 1) := by decide +kernel
theorem dX11_never_1 : decode cX11_never 1 = .ok (.istore_n 1, 1) := by decide +kernel
theorem dX11_never_2 : decode cX11_never 2 = .ok (.iconst 0, 1) := by decide +kernel
theorem dX11_never_3 : decode cX11_never 3 = .ok (.istore_n 2, 1) := by decide +kernel
theorem dX11_never_4 : decode cX11_never 4 = .ok (.iload_n 2, 1) := by decide +kernel
theorem dX11_never_5 : decode cX11_never 5 = .ok (.aload_n 0, 1) := by decide +kernel
theorem dX11_never_6 : decode cX11_never 6 = .ok (.getfield 9, 3) := by decide +kernel
theorem dX11_never_9 : decode cX11_never 9 = .ok (.iconst 1, 1) := by decide +kernel
theorem dX11_never_10 : decode cX11_never 10 = .ok (.iaload, 1) := by decide +kernel
theorem dX11_never_11 : decode cX11_never 11 = .ok (.if_icmp .ge 44, 3) := by decide +kernel
theorem dX11_never_14 : decode cX11_never 14 = .ok (.iload_n 2, 1) := by decide +kernel
theorem dX11_never_15 : decode cX11_never 15 = .ok (.iconst 1, 1) := by decide +kernel
theorem dX11_never_16 : decode cX11_never 16 = .ok (.iadd, 1) := by decide +kernel
theorem dX11_never_17 : decode cX11_never 17 = .ok (.istore_n 3, 1) := by decide +kernel
theorem dX11_never_18 : decode cX11_never 18 = .ok (.iload_n 3, 1) := by decide +kernel
theorem dX11_never_19 : decode cX11_never 19 = .ok (.aload_n 0, 1) := by decide +kernel
theorem dX11_never_20 : decode cX11_never 20 = .ok (.getfield 9, 3) := by decide +kernel
theorem dX11_never_23 : decode cX11_never 23 = .ok (.iconst 1, 1) := by decide +kernel
theorem dX11_never_24 : decode cX11_never 24 = .ok (.iaload, 1) := by decide +kernel
theorem dX11_never_25 : decode cX11_never 25 = .ok (.if_icmp .ge 24, 3) := by decide +kernel
theorem dX11_never_28 : decode cX11_never 28 = .ok (.iload_n 1, 1) := by decide +kernel
theorem dX11_never_29 : decode cX11_never 29 = .ok (.iconst 1, 1) := by decide +kernel
theorem dX11_never_30 : decode cX11_never 30 = .ok (.aload_n 0, 1) := by decide +kernel
theorem dX11_never_31 : decode cX11_never 31 = .ok (.iload_n 2, 1) := by decide +kernel
theorem dX11_never_32 : decode cX11_never 32 = .ok (.iconst 4, 1) := by decide +kernel
theorem dX11_never_33 : decode cX11_never 33 = .ok (.invokevirtual 67, 3) := by decide +kernel
theorem dX11_never_36 : decode cX11_never 36 = .ok (.iload_n 3, 1) := by decide +kernel
theorem dX11_never_37 : decode cX11_never 37 = .ok (.ishr, 1) := by decide +kernel
theorem dX11_never_38 : decode cX11_never 38 = .ok (.iconst 1, 1) := by decide +kernel
theorem dX11_never_39 : decode cX11_never 39 = .ok (.iand, 1) := by decide +kernel
theorem dX11_never_40 : decode cX11_never 40 = .ok (.isub, 1) := by decide +kernel
theorem dX11_never_41 : decode cX11_never 41 = .ok (.iadd, 1) := by decide +kernel
theorem dX11_never_42 : decode cX11_never 42 = .ok (.istore_n 1, 1) := by decide +kernel
theorem dX11_never_43 : decode cX11_never 43 = .ok (.iinc 3 1, 3) := by decide +kernel
theorem dX11_never_46 : decode cX11_never 46 = .ok (.goto (-28), 3) := by decide +kernel
theorem dX11_never_49 : decode cX11_never 49 = .ok (.iinc 2 1, 3) := by decide +kernel
theorem dX11_never_52 : decode cX11_never 52 = .ok (.goto (-48), 3) := by decide +kernel
theorem dX11_never_55 : decode cX11_never 55 = .ok (.iload_n 1, 1) := by decide +kernel
theorem dX11_never_56 : decode cX11_never 56 = .ok (.ireturn, 1) := by decide +kernel
theorem dX11_mixedNow_0 : decode cX11_mixedNow 0 = .ok (.iconst 0, 1) := by decide +kernel
theorem dX11_mixedNow_1 : decode cX11_mixedNow 1 = .ok (.istore_n 1, 1) := by decide +kernel
theorem dX11_mixedNow_2 : decode cX11_mixedNow 2 = .ok (.iconst 0, 1) := by decide +kernel
theorem dX11_mixedNow_3 : decode cX11_mixedNow 3 = .ok (.istore_n 2, 1) := by decide +kernel
theorem dX11_mixedNow_4 : decode cX11_mixedNow 4 = .ok (.iload_n 2, 1) := by decide +kernel
theorem dX11_mixedNow_5 : decode cX11_mixedNow 5 = .ok (.aload_n 0, 1) := by decide +kernel
theorem dX11_mixedNow_6 : decode cX11_mixedNow 6 = .ok (.getfield 9, 3) := by decide +kernel
theorem dX11_mixedNow_9 : decode cX11_mixedNow 9 = .ok (.iconst 1, 1) := by decide +kernel
theorem dX11_mixedNow_10 : decode cX11_mixedNow 10 = .ok (.iaload, 1) := by decide +kernel
theorem dX11_mixedNow_11 : decode cX11_mixedNow 11 = .ok (.if_icmp .ge 67, 3) := by decide +kernel
theorem dX11_mixedNow_14 : decode cX11_mixedNow 14 = .ok (.iload_n 2, 1) := by decide +kernel
theorem dX11_mixedNow_15 : decode cX11_mixedNow 15 = .ok (.iconst 1, 1) := by decide +kernel
theorem dX11_mixedNow_16 : decode cX11_mixedNow 16 = .ok (.iadd, 1) := by decide +kernel
theorem dX11_mixedNow_17 : decode cX11_mixedNow 17 = .ok (.istore_n 3, 1) := by decide +kernel
theorem dX11_mixedNow_18 : decode cX11_mixedNow 18 = .ok (.iload_n 3, 1) := by decide +kernel
theorem dX11_mixedNow_19 : decode cX11_mixedNow 19 = .ok (.aload_n 0, 1) := by decide +kernel
theorem dX11_mixedNow_20 : decode cX11_mixedNow 20 = .ok (.getfield 9, 3) := by decide +kernel
theorem dX11_mixedNow_23 : decode cX11_mixedNow 23 = .ok (.iconst 1, 1) := by decide +kernel
theorem dX11_mixedNow_24 : decode cX11_mixedNow 24 = .ok (.iaload, 1) := by decide +kernel
theorem dX11_mixedNow_25 : decode cX11_mixedNow 25 = .ok (.if_icmp .ge 47, 3) := by decide +kernel
theorem dX11_mixedNow_28 : decode cX11_mixedNow 28 = .ok (.iload_n 1, 1) := by decide +kernel
theorem dX11_mixedNow_29 : decode cX11_mixedNow 29 = .ok (.aload_n 0, 1) := by decide +kernel
theorem dX11_mixedNow_30 : decode cX11_mixedNow 30 = .ok (.iload_n 2, 1) := by decide +kernel
theorem dX11_mixedNow_31 : decode cX11_mixedNow 31 = .ok (.iconst 0, 1) := by decide +kernel
theorem dX11_mixedNow_32 : decode cX11_mixedNow 32 = .ok (.invokevirtual 67, 3) := by decide +kernel
theorem dX11_mixedNow_35 : decode cX11_mixedNow 35 = .ok (.aload_n 0, 1) := by decide +kernel
theorem dX11_mixedNow_36 : decode cX11_mixedNow 36 = .ok (.iload_n 3, 1) := by decide +kernel
theorem dX11_mixedNow_37 : decode cX11_mixedNow 37 = .ok (.iconst 0, 1) := by decide +kernel
theorem dX11_mixedNow_38 : decode cX11_mixedNow 38 = .ok (.invokevirtual 67, 3) := by decide +kernel
theorem dX11_mixedNow_41 : decode cX11_mixedNow 41 = .ok (.if_icmp .ne 22, 3) := by decide +kernel
theorem dX11_mixedNow_44 : decode cX11_mixedNow 44 = .ok (.aload_n 0, 1) := by decide +kernel
theorem dX11_mixedNow_45 : decode cX11_mixedNow 45 = .ok (.iload_n 2, 1) := by decide +kernel
theorem dX11_mixedNow_46 : decode cX11_mixedNow 46 = .ok (.iconst 2, 1) := by decide +kernel
theorem dX11_mixedNow_47 : decode cX11_mixedNow 47 = .ok (.invokevirtual 67, 3) := by decide +kernel
theorem dX11_mixedNow_50 : decode cX11_mixedNow 50 = .ok (.aload_n 0, 1) := by decide +kernel
theorem dX11_mixedNow_51 : decode cX11_mixedNow 51 = .ok (.iload_n 3, 1) := by decide +kernel
theorem dX11_mixedNow_52 : decode cX11_mixedNow 52 = .ok (.iconst 2, 1) := by decide +kernel
theorem dX11_mixedNow_53 : decode cX11_mixedNow 53 = .ok (.invokevirtual 67, 3) := by decide +kernel
theorem dX11_mixedNow_56 : decode cX11_mixedNow 56 = .ok (.if_icmp .eq 7, 3) := by decide +kernel
theorem dX11_mixedNow_59 : decode cX11_mixedNow 59 = .ok (.iconst 1, 1) := by decide +kernel
theorem dX11_mixedNow_60 : decode cX11_mixedNow 60 = .ok (.goto 4, 3) := by decide +kernel
theorem dX11_mixedNow_63 : decode cX11_mixedNow 63 = .ok (.iconst 0, 1) := by decide +kernel
theorem dX11_mixedNow_64 : decode cX11_mixedNow 64 = .ok (.iadd, 1) := by decide +kernel
theorem dX11_mixedNow_65 : decode cX11_mixedNow 65 = .ok (.istore_n 1, 1) := by decide +kernel
theorem dX11_mixedNow_66 : decode cX11_mixedNow 66 = .ok (.iinc 3 1, 3) := by decide +kernel
theorem dX11_mixedNow_69 : decode cX11_mixedNow 69 = .ok (.goto (-51), 3) := by decide +kernel
theorem dX11_mixedNow_72 : decode cX11_mixedNow 72 = .ok (.iinc 2 1, 3) := by decide +kernel
theorem dX11_mixedNow_75 : decode cX11_mixedNow 75 = .ok (.goto (-71), 3) := by decide +kernel
theorem dX11_mixedNow_78 : decode cX11_mixedNow 78 = .ok (.iload_n 1, 1) := by decide +kernel
theorem dX11_mixedNow_79 : decode cX11_mixedNow 79 = .ok (.ireturn, 1) := by decide +kernel
theorem dX11_mixed_0 : decode cX11_mixed 0 = .ok (.aload_n 0, 1) := by decide +kernel
theorem dX11_mixed_1 : decode cX11_mixed 1 = .ok (.invokevirtual 218, 3) := by decide +kernel
theorem dX11_mixed_4 : decode cX11_mixed 4 = .ok (.ireturn, 1) := by decide +kernel
theorem dX11_mixesMost_0 : decode cX11_mixesMost 0 = .ok (.bipush (-4), 2) := by decide +kernel
theorem dX11_mixesMost_2 : decode cX11_mixesMost 2 = .ok (.istore_n 1, 1) := by decide +kernel
theorem dX11_mixesMost_3 : decode cX11_mixesMost 3 = .ok (.iconst 0, 1) := by decide +kernel
theorem dX11_mixesMost_4 : decode cX11_mixesMost 4 = .ok (.istore_n 2, 1) := by decide +kernel
theorem dX11_mixesMost_5 : decode cX11_mixesMost 5 = .ok (.aload_n 0, 1) := by decide +kernel
theorem dX11_mixesMost_6 : decode cX11_mixesMost 6 = .ok (.invokevirtual 183, 3) := by decide +kernel
theorem dX11_mixesMost_9 : decode cX11_mixesMost 9 = .ok (.iconst 0, 1) := by decide +kernel
theorem dX11_mixesMost_10 : decode cX11_mixesMost 10 = .ok (.istore_n 3, 1) := by decide +kernel
theorem dX11_mixesMost_11 : decode cX11_mixesMost 11 = .ok (.iload_n 3, 1) := by decide +kernel
theorem dX11_mixesMost_12 : decode cX11_mixesMost 12 = .ok (.aload_n 0, 1) := by decide +kernel
theorem dX11_mixesMost_13 : decode cX11_mixesMost 13 = .ok (.getfield 9, 3) := by decide +kernel
theorem dX11_mixesMost_16 : decode cX11_mixesMost 16 = .ok (.iconst 0, 1) := by decide +kernel
theorem dX11_mixesMost_17 : decode cX11_mixesMost 17 = .ok (.iaload, 1) := by decide +kernel
theorem dX11_mixesMost_18 : decode cX11_mixesMost 18 = .ok (.if_icmp .ge 85, 3) := by decide +kernel
theorem dX11_mixesMost_21 : decode cX11_mixesMost 21 = .ok (.iload_n 3, 1) := by decide +kernel
theorem dX11_mixesMost_22 : decode cX11_mixesMost 22 = .ok (.iconst 1, 1) := by decide +kernel
theorem dX11_mixesMost_23 : decode cX11_mixesMost 23 = .ok (.iadd, 1) := by decide +kernel
theorem dX11_mixesMost_24 : decode cX11_mixesMost 24 = .ok (.istore 4, 2) := by decide +kernel
theorem dX11_mixesMost_26 : decode cX11_mixesMost 26 = .ok (.iload 4, 2) := by decide +kernel
theorem dX11_mixesMost_28 : decode cX11_mixesMost 28 = .ok (.aload_n 0, 1) := by decide +kernel
theorem dX11_mixesMost_29 : decode cX11_mixesMost 29 = .ok (.getfield 9, 3) := by decide +kernel
theorem dX11_mixesMost_32 : decode cX11_mixesMost 32 = .ok (.iconst 0, 1) := by decide +kernel
theorem dX11_mixesMost_33 : decode cX11_mixesMost 33 = .ok (.iaload, 1) := by decide +kernel
theorem dX11_mixesMost_34 : decode cX11_mixesMost 34 = .ok (.if_icmp .ge 63, 3) := by decide +kernel
theorem dX11_mixesMost_37 : decode cX11_mixesMost 37 = .ok (.aload_n 0, 1) := by decide +kernel
theorem dX11_mixesMost_38 : decode cX11_mixesMost 38 = .ok (.iload_n 3, 1) := by decide +kernel
theorem dX11_mixesMost_39 : decode cX11_mixesMost 39 = .ok (.iload 4, 2) := by decide +kernel
theorem dX11_mixesMost_41 : decode cX11_mixesMost 41 = .ok (.invokevirtual 141, 3) := by decide +kernel
theorem dX11_mixesMost_44 : decode cX11_mixesMost 44 = .ok (.ifCond .ne 6, 3) := by decide +kernel
theorem dX11_mixesMost_47 : decode cX11_mixesMost 47 = .ok (.goto 44, 3) := by decide +kernel
theorem dX11_mixesMost_50 : decode cX11_mixesMost 50 = .ok (.aload_n 0, 1) := by decide +kernel
theorem dX11_mixesMost_51 : decode cX11_mixesMost 51 = .ok (.iload_n 3, 1) := by decide +kernel
theorem dX11_mixesMost_52 : decode cX11_mixesMost 52 = .ok (.iload 4, 2) := by decide +kernel
theorem dX11_mixesMost_54 : decode cX11_mixesMost 54 = .ok (.invokevirtual 145, 3) := by decide +kernel
theorem dX11_mixesMost_57 : decode cX11_mixesMost 57 = .ok (.aload_n 0, 1) := by decide +kernel
theorem dX11_mixesMost_58 : decode cX11_mixesMost 58 = .ok (.invokevirtual 218, 3) := by decide +kernel
theorem dX11_mixesMost_61 : decode cX11_mixesMost 61 = .ok (.istore 5, 2) := by decide +kernel
theorem dX11_mixesMost_63 : decode cX11_mixesMost 63 = .ok (.aload_n 0, 1) := by decide +kernel
theorem dX11_mixesMost_64 : decode cX11_mixesMost 64 = .ok (.invokevirtual 192, 3) := by decide +kernel
theorem dX11_mixesMost_67 : decode cX11_mixesMost 67 = .ok (.iload_n 1, 1) := by decide +kernel
theorem dX11_mixesMost_68 : decode cX11_mixesMost 68 = .ok (.ifCond .lt 12, 3) := by decide +kernel
theorem dX11_mixesMost_71 : decode cX11_mixesMost 71 = .ok (.iload 5, 2) := by decide +kernel
theorem dX11_mixesMost_73 : decode cX11_mixesMost 73 = .ok (.iload_n 2, 1) := by decide +kernel
theorem dX11_mixesMost_74 : decode cX11_mixesMost 74 = .ok (.if_icmp .gt 6, 3) := by decide +kernel
theorem dX11_mixesMost_77 : decode cX11_mixesMost 77 = .ok (.goto 14, 3) := by decide +kernel
theorem dX11_mixesMost_80 : decode cX11_mixesMost 80 = .ok (.bipush 10, 2) := by decide +kernel
theorem dX11_mixesMost_82 : decode cX11_mixesMost 82 = .ok (.iload_n 3, 1) := by decide +kernel
theorem dX11_mixesMost_83 : decode cX11_mixesMost 83 = .ok (.imul, 1) := by decide +kernel
theorem dX11_mixesMost_84 : decode cX11_mixesMost 84 = .ok (.iload 4, 2) := by decide +kernel
theorem dX11_mixesMost_86 : decode cX11_mixesMost 86 = .ok (.iadd, 1) := by decide +kernel
theorem dX11_mixesMost_87 : decode cX11_mixesMost 87 = .ok (.istore_n 1, 1) := by decide +kernel
theorem dX11_mixesMost_88 : decode cX11_mixesMost 88 = .ok (.iload 5, 2) := by decide +kernel
theorem dX11_mixesMost_90 : decode cX11_mixesMost 90 = .ok (.istore_n 2, 1) := by decide +kernel
theorem dX11_mixesMost_91 : decode cX11_mixesMost 91 = .ok (.iinc 4 1, 3) := by decide +kernel
theorem dX11_mixesMost_94 : decode cX11_mixesMost 94 = .ok (.goto (-68), 3) := by decide +kernel
theorem dX11_mixesMost_97 : decode cX11_mixesMost 97 = .ok (.iinc 3 1, 3) := by decide +kernel
theorem dX11_mixesMost_100 : decode cX11_mixesMost 100 = .ok (.goto (-89), 3) := by decide +kernel
theorem dX11_mixesMost_103 : decode cX11_mixesMost 103 = .ok (.iload_n 1, 1) := by decide +kernel
theorem dX11_mixesMost_104 : decode cX11_mixesMost 104 = .ok (.ireturn, 1) := by decide +kernel
theorem dX11_lacks_0 : decode cX11_lacks 0 = .ok (.iload_n 1, 1) := by decide +kernel
theorem dX11_lacks_1 : decode cX11_lacks 1 = .ok (.i2l, 1) := by decide +kernel
theorem dX11_lacks_2 : decode cX11_lacks 2 = .ok (.lconst 0, 1) := by decide +kernel
theorem dX11_lacks_3 : decode cX11_lacks 3 = .ok (.ldc2_w 169, 3) := by decide +kernel
theorem dX11_lacks_6 : decode cX11_lacks 6 = .ok (.invokestatic 59, 3) := by decide +kernel
theorem dX11_lacks_9 : decode cX11_lacks 9 = .ok (.ifCond .ne 5, 3) := by decide +kernel
theorem dX11_lacks_12 : decode cX11_lacks 12 = .ok (.iconst (-1), 1) := by decide +kernel
theorem dX11_lacks_13 : decode cX11_lacks 13 = .ok (.ireturn, 1) := by decide +kernel
theorem dX11_lacks_14 : decode cX11_lacks 14 = .ok (.iconst 1, 1) := by decide +kernel
theorem dX11_lacks_15 : decode cX11_lacks 15 = .ok (.aload_n 0, 1) := by decide +kernel
theorem dX11_lacks_16 : decode cX11_lacks 16 = .ok (.getfield 9, 3) := by decide +kernel
theorem dX11_lacks_19 : decode cX11_lacks 19 = .ok (.iconst 0, 1) := by decide +kernel
theorem dX11_lacks_20 : decode cX11_lacks 20 = .ok (.iaload, 1) := by decide +kernel
theorem dX11_lacks_21 : decode cX11_lacks 21 = .ok (.ishl, 1) := by decide +kernel
theorem dX11_lacks_22 : decode cX11_lacks 22 = .ok (.iconst 1, 1) := by decide +kernel
theorem dX11_lacks_23 : decode cX11_lacks 23 = .ok (.isub, 1) := by decide +kernel
theorem dX11_lacks_24 : decode cX11_lacks 24 = .ok (.istore_n 2, 1) := by decide +kernel
theorem dX11_lacks_25 : decode cX11_lacks 25 = .ok (.iconst 0, 1) := by decide +kernel
theorem dX11_lacks_26 : decode cX11_lacks 26 = .ok (.istore_n 3, 1) := by decide +kernel
theorem dX11_lacks_27 : decode cX11_lacks 27 = .ok (.iload_n 3, 1) := by decide +kernel
theorem dX11_lacks_28 : decode cX11_lacks 28 = .ok (.aload_n 0, 1) := by decide +kernel
theorem dX11_lacks_29 : decode cX11_lacks 29 = .ok (.getfield 9, 3) := by decide +kernel
theorem dX11_lacks_32 : decode cX11_lacks 32 = .ok (.iconst 1, 1) := by decide +kernel
theorem dX11_lacks_33 : decode cX11_lacks 33 = .ok (.iaload, 1) := by decide +kernel
theorem dX11_lacks_34 : decode cX11_lacks 34 = .ok (.if_icmp .ge 32, 3) := by decide +kernel
theorem dX11_lacks_37 : decode cX11_lacks 37 = .ok (.aload_n 0, 1) := by decide +kernel
theorem dX11_lacks_38 : decode cX11_lacks 38 = .ok (.iload_n 3, 1) := by decide +kernel
theorem dX11_lacks_39 : decode cX11_lacks 39 = .ok (.iconst 1, 1) := by decide +kernel
theorem dX11_lacks_40 : decode cX11_lacks 40 = .ok (.invokevirtual 67, 3) := by decide +kernel
theorem dX11_lacks_43 : decode cX11_lacks 43 = .ok (.iload_n 1, 1) := by decide +kernel
theorem dX11_lacks_44 : decode cX11_lacks 44 = .ok (.if_icmp .ne 16, 3) := by decide +kernel
theorem dX11_lacks_47 : decode cX11_lacks 47 = .ok (.iload_n 2, 1) := by decide +kernel
theorem dX11_lacks_48 : decode cX11_lacks 48 = .ok (.iconst 1, 1) := by decide +kernel
theorem dX11_lacks_49 : decode cX11_lacks 49 = .ok (.aload_n 0, 1) := by decide +kernel
theorem dX11_lacks_50 : decode cX11_lacks 50 = .ok (.iload_n 3, 1) := by decide +kernel
theorem dX11_lacks_51 : decode cX11_lacks 51 = .ok (.iconst 0, 1) := by decide +kernel
theorem dX11_lacks_52 : decode cX11_lacks 52 = .ok (.invokevirtual 67, 3) := by decide +kernel
theorem dX11_lacks_55 : decode cX11_lacks 55 = .ok (.ishl, 1) := by decide +kernel
theorem dX11_lacks_56 : decode cX11_lacks 56 = .ok (.iconst (-1), 1) := by decide +kernel
theorem dX11_lacks_57 : decode cX11_lacks 57 = .ok (.ixor, 1) := by decide +kernel
theorem dX11_lacks_58 : decode cX11_lacks 58 = .ok (.iand, 1) := by decide +kernel
theorem dX11_lacks_59 : decode cX11_lacks 59 = .ok (.istore_n 2, 1) := by decide +kernel
theorem dX11_lacks_60 : decode cX11_lacks 60 = .ok (.iinc 3 1, 3) := by decide +kernel
theorem dX11_lacks_63 : decode cX11_lacks 63 = .ok (.goto (-36), 3) := by decide +kernel
theorem dX11_lacks_66 : decode cX11_lacks 66 = .ok (.iload_n 2, 1) := by decide +kernel
theorem dX11_lacks_67 : decode cX11_lacks 67 = .ok (.ireturn, 1) := by decide +kernel
theorem dX11_spreads_0 : decode cX11_spreads 0 = .ok (.iload_n 1, 1) := by decide +kernel
theorem dX11_spreads_1 : decode cX11_spreads 1 = .ok (.istore_n 2, 1) := by decide +kernel
theorem dX11_spreads_2 : decode cX11_spreads 2 = .ok (.iconst 0, 1) := by decide +kernel
theorem dX11_spreads_3 : decode cX11_spreads 3 = .ok (.istore_n 3, 1) := by decide +kernel
theorem dX11_spreads_4 : decode cX11_spreads 4 = .ok (.iload_n 3, 1) := by decide +kernel
theorem dX11_spreads_5 : decode cX11_spreads 5 = .ok (.aload_n 0, 1) := by decide +kernel
theorem dX11_spreads_6 : decode cX11_spreads 6 = .ok (.getfield 9, 3) := by decide +kernel
theorem dX11_spreads_9 : decode cX11_spreads 9 = .ok (.iconst 0, 1) := by decide +kernel
theorem dX11_spreads_10 : decode cX11_spreads 10 = .ok (.iaload, 1) := by decide +kernel
theorem dX11_spreads_11 : decode cX11_spreads 11 = .ok (.if_icmp .ge 27, 3) := by decide +kernel
theorem dX11_spreads_14 : decode cX11_spreads 14 = .ok (.aload_n 0, 1) := by decide +kernel
theorem dX11_spreads_15 : decode cX11_spreads 15 = .ok (.iload_n 3, 1) := by decide +kernel
theorem dX11_spreads_16 : decode cX11_spreads 16 = .ok (.invokevirtual 74, 3) := by decide +kernel
theorem dX11_spreads_19 : decode cX11_spreads 19 = .ok (.iload_n 1, 1) := by decide +kernel
theorem dX11_spreads_20 : decode cX11_spreads 20 = .ok (.iand, 1) := by decide +kernel
theorem dX11_spreads_21 : decode cX11_spreads 21 = .ok (.ifCond .eq 11, 3) := by decide +kernel
theorem dX11_spreads_24 : decode cX11_spreads 24 = .ok (.iload_n 2, 1) := by decide +kernel
theorem dX11_spreads_25 : decode cX11_spreads 25 = .ok (.aload_n 0, 1) := by decide +kernel
theorem dX11_spreads_26 : decode cX11_spreads 26 = .ok (.iload_n 3, 1) := by decide +kernel
theorem dX11_spreads_27 : decode cX11_spreads 27 = .ok (.invokevirtual 74, 3) := by decide +kernel
theorem dX11_spreads_30 : decode cX11_spreads 30 = .ok (.ior, 1) := by decide +kernel
theorem dX11_spreads_31 : decode cX11_spreads 31 = .ok (.istore_n 2, 1) := by decide +kernel
theorem dX11_spreads_32 : decode cX11_spreads 32 = .ok (.iinc 3 1, 3) := by decide +kernel
theorem dX11_spreads_35 : decode cX11_spreads 35 = .ok (.goto (-31), 3) := by decide +kernel
theorem dX11_spreads_38 : decode cX11_spreads 38 = .ok (.iload_n 2, 1) := by decide +kernel
theorem dX11_spreads_39 : decode cX11_spreads 39 = .ok (.ireturn, 1) := by decide +kernel
theorem dX11_letter_0 : decode cX11_letter 0 = .ok (.aload_n 0, 1) := by decide +kernel
theorem dX11_letter_1 : decode cX11_letter 1 = .ok (.iload_n 1, 1) := by decide +kernel
theorem dX11_letter_2 : decode cX11_letter 2 = .ok (.invokevirtual 166, 3) := by decide +kernel
theorem dX11_letter_5 : decode cX11_letter 5 = .ok (.ifCond .eq 11, 3) := by decide +kernel
theorem dX11_letter_8 : decode cX11_letter 8 = .ok (.aload_n 0, 1) := by decide +kernel
theorem dX11_letter_9 : decode cX11_letter 9 = .ok (.iload_n 2, 1) := by decide +kernel
theorem dX11_letter_10 : decode cX11_letter 10 = .ok (.invokevirtual 180, 3) := by decide +kernel
theorem dX11_letter_13 : decode cX11_letter 13 = .ok (.goto 4, 3) := by decide +kernel
theorem dX11_letter_16 : decode cX11_letter 16 = .ok (.iconst (-1), 1) := by decide +kernel
theorem dX11_letter_17 : decode cX11_letter 17 = .ok (.istore_n 3, 1) := by decide +kernel
theorem dX11_letter_18 : decode cX11_letter 18 = .ok (.iload_n 3, 1) := by decide +kernel
theorem dX11_letter_19 : decode cX11_letter 19 = .ok (.ifCond .eq 5, 3) := by decide +kernel
theorem dX11_letter_22 : decode cX11_letter 22 = .ok (.iload_n 3, 1) := by decide +kernel
theorem dX11_letter_23 : decode cX11_letter 23 = .ok (.ireturn, 1) := by decide +kernel
theorem dX11_letter_24 : decode cX11_letter 24 = .ok (.aload_n 0, 1) := by decide +kernel
theorem dX11_letter_25 : decode cX11_letter 25 = .ok (.invokevirtual 183, 3) := by decide +kernel
theorem dX11_letter_28 : decode cX11_letter 28 = .ok (.aload_n 0, 1) := by decide +kernel
theorem dX11_letter_29 : decode cX11_letter 29 = .ok (.iconst 1, 1) := by decide +kernel
theorem dX11_letter_30 : decode cX11_letter 30 = .ok (.iload_n 1, 1) := by decide +kernel
theorem dX11_letter_31 : decode cX11_letter 31 = .ok (.ishl, 1) := by decide +kernel
theorem dX11_letter_32 : decode cX11_letter 32 = .ok (.invokevirtual 221, 3) := by decide +kernel
theorem dX11_letter_35 : decode cX11_letter 35 = .ok (.istore 4, 2) := by decide +kernel
theorem dX11_letter_37 : decode cX11_letter 37 = .ok (.iconst 0, 1) := by decide +kernel
theorem dX11_letter_38 : decode cX11_letter 38 = .ok (.istore 5, 2) := by decide +kernel
theorem dX11_letter_40 : decode cX11_letter 40 = .ok (.iload 5, 2) := by decide +kernel
theorem dX11_letter_42 : decode cX11_letter 42 = .ok (.aload_n 0, 1) := by decide +kernel
theorem dX11_letter_43 : decode cX11_letter 43 = .ok (.iload_n 2, 1) := by decide +kernel
theorem dX11_letter_44 : decode cX11_letter 44 = .ok (.invokevirtual 186, 3) := by decide +kernel
theorem dX11_letter_47 : decode cX11_letter 47 = .ok (.if_icmp .ge 26, 3) := by decide +kernel
theorem dX11_letter_50 : decode cX11_letter 50 = .ok (.aload_n 0, 1) := by decide +kernel
theorem dX11_letter_51 : decode cX11_letter 51 = .ok (.iload_n 2, 1) := by decide +kernel
theorem dX11_letter_52 : decode cX11_letter 52 = .ok (.iload 5, 2) := by decide +kernel
theorem dX11_letter_54 : decode cX11_letter 54 = .ok (.invokevirtual 189, 3) := by decide +kernel
theorem dX11_letter_57 : decode cX11_letter 57 = .ok (.istore 6, 2) := by decide +kernel
theorem dX11_letter_59 : decode cX11_letter 59 = .ok (.aload_n 0, 1) := by decide +kernel
theorem dX11_letter_60 : decode cX11_letter 60 = .ok (.iload 4, 2) := by decide +kernel
theorem dX11_letter_62 : decode cX11_letter 62 = .ok (.invokevirtual 221, 3) := by decide +kernel
theorem dX11_letter_65 : decode cX11_letter 65 = .ok (.istore 4, 2) := by decide +kernel
theorem dX11_letter_67 : decode cX11_letter 67 = .ok (.iinc 5 1, 3) := by decide +kernel
theorem dX11_letter_70 : decode cX11_letter 70 = .ok (.goto (-30), 3) := by decide +kernel
theorem dX11_letter_73 : decode cX11_letter 73 = .ok (.aload_n 0, 1) := by decide +kernel
theorem dX11_letter_74 : decode cX11_letter 74 = .ok (.invokevirtual 192, 3) := by decide +kernel
theorem dX11_letter_77 : decode cX11_letter 77 = .ok (.iload 4, 2) := by decide +kernel
theorem dX11_letter_79 : decode cX11_letter 79 = .ok (.ireturn, 1) := by decide +kernel
theorem dX11_law_0 : decode cX11_law 0 = .ok (.aload_n 0, 1) := by decide +kernel
theorem dX11_law_1 : decode cX11_law 1 = .ok (.iload_n 1, 1) := by decide +kernel
theorem dX11_law_2 : decode cX11_law 2 = .ok (.invokevirtual 166, 3) := by decide +kernel
theorem dX11_law_5 : decode cX11_law 5 = .ok (.ifCond .eq 36, 3) := by decide +kernel
theorem dX11_law_8 : decode cX11_law 8 = .ok (.iload_n 3, 1) := by decide +kernel
theorem dX11_law_9 : decode cX11_law 9 = .ok (.i2l, 1) := by decide +kernel
theorem dX11_law_10 : decode cX11_law 10 = .ok (.lconst 0, 1) := by decide +kernel
theorem dX11_law_11 : decode cX11_law 11 = .ok (.ldc2_w 57, 3) := by decide +kernel
theorem dX11_law_14 : decode cX11_law 14 = .ok (.invokestatic 59, 3) := by decide +kernel
theorem dX11_law_17 : decode cX11_law 17 = .ok (.ifCond .eq 24, 3) := by decide +kernel
theorem dX11_law_20 : decode cX11_law 20 = .ok (.iload 4, 2) := by decide +kernel
theorem dX11_law_22 : decode cX11_law 22 = .ok (.i2l, 1) := by decide +kernel
theorem dX11_law_23 : decode cX11_law 23 = .ok (.lconst 0, 1) := by decide +kernel
theorem dX11_law_24 : decode cX11_law 24 = .ok (.ldc2_w 224, 3) := by decide +kernel
theorem dX11_law_27 : decode cX11_law 27 = .ok (.invokestatic 59, 3) := by decide +kernel
theorem dX11_law_30 : decode cX11_law 30 = .ok (.ifCond .eq 11, 3) := by decide +kernel
theorem dX11_law_33 : decode cX11_law 33 = .ok (.aload_n 0, 1) := by decide +kernel
theorem dX11_law_34 : decode cX11_law 34 = .ok (.iload_n 2, 1) := by decide +kernel
theorem dX11_law_35 : decode cX11_law 35 = .ok (.invokevirtual 180, 3) := by decide +kernel
theorem dX11_law_38 : decode cX11_law 38 = .ok (.goto 4, 3) := by decide +kernel
theorem dX11_law_41 : decode cX11_law 41 = .ok (.iconst (-1), 1) := by decide +kernel
theorem dX11_law_42 : decode cX11_law 42 = .ok (.istore 5, 2) := by decide +kernel
theorem dX11_law_44 : decode cX11_law 44 = .ok (.iload 5, 2) := by decide +kernel
theorem dX11_law_46 : decode cX11_law 46 = .ok (.ifCond .eq 6, 3) := by decide +kernel
theorem dX11_law_49 : decode cX11_law 49 = .ok (.iload 5, 2) := by decide +kernel
theorem dX11_law_51 : decode cX11_law 51 = .ok (.ireturn, 1) := by decide +kernel
theorem dX11_law_52 : decode cX11_law 52 = .ok (.aload_n 0, 1) := by decide +kernel
theorem dX11_law_53 : decode cX11_law 53 = .ok (.invokevirtual 183, 3) := by decide +kernel
theorem dX11_law_56 : decode cX11_law 56 = .ok (.iconst 0, 1) := by decide +kernel
theorem dX11_law_57 : decode cX11_law 57 = .ok (.istore 6, 2) := by decide +kernel
theorem dX11_law_59 : decode cX11_law 59 = .ok (.iload 6, 2) := by decide +kernel
theorem dX11_law_61 : decode cX11_law 61 = .ok (.aload_n 0, 1) := by decide +kernel
theorem dX11_law_62 : decode cX11_law 62 = .ok (.getfield 9, 3) := by decide +kernel
theorem dX11_law_65 : decode cX11_law 65 = .ok (.iconst 0, 1) := by decide +kernel
theorem dX11_law_66 : decode cX11_law 66 = .ok (.iaload, 1) := by decide +kernel
theorem dX11_law_67 : decode cX11_law 67 = .ok (.if_icmp .ge 36, 3) := by decide +kernel
theorem dX11_law_70 : decode cX11_law 70 = .ok (.aload_n 0, 1) := by decide +kernel
theorem dX11_law_71 : decode cX11_law 71 = .ok (.getfield 9, 3) := by decide +kernel
theorem dX11_law_74 : decode cX11_law 74 = .ok (.iconst 3, 1) := by decide +kernel
theorem dX11_law_75 : decode cX11_law 75 = .ok (.iconst 2, 1) := by decide +kernel
theorem dX11_law_76 : decode cX11_law 76 = .ok (.iload 6, 2) := by decide +kernel
theorem dX11_law_78 : decode cX11_law 78 = .ok (.imul, 1) := by decide +kernel
theorem dX11_law_79 : decode cX11_law 79 = .ok (.iadd, 1) := by decide +kernel
theorem dX11_law_80 : decode cX11_law 80 = .ok (.iload_n 3, 1) := by decide +kernel
theorem dX11_law_81 : decode cX11_law 81 = .ok (.iastore, 1) := by decide +kernel
theorem dX11_law_82 : decode cX11_law 82 = .ok (.aload_n 0, 1) := by decide +kernel
theorem dX11_law_83 : decode cX11_law 83 = .ok (.getfield 9, 3) := by decide +kernel
theorem dX11_law_86 : decode cX11_law 86 = .ok (.iconst 3, 1) := by decide +kernel
theorem dX11_law_87 : decode cX11_law 87 = .ok (.iconst 2, 1) := by decide +kernel
theorem dX11_law_88 : decode cX11_law 88 = .ok (.iload 6, 2) := by decide +kernel
theorem dX11_law_90 : decode cX11_law 90 = .ok (.imul, 1) := by decide +kernel
theorem dX11_law_91 : decode cX11_law 91 = .ok (.iadd, 1) := by decide +kernel
theorem dX11_law_92 : decode cX11_law 92 = .ok (.iconst 1, 1) := by decide +kernel
theorem dX11_law_93 : decode cX11_law 93 = .ok (.iadd, 1) := by decide +kernel
theorem dX11_law_94 : decode cX11_law 94 = .ok (.iload 4, 2) := by decide +kernel
theorem dX11_law_96 : decode cX11_law 96 = .ok (.iastore, 1) := by decide +kernel
theorem dX11_law_97 : decode cX11_law 97 = .ok (.iinc 6 1, 3) := by decide +kernel
theorem dX11_law_100 : decode cX11_law 100 = .ok (.goto (-41), 3) := by decide +kernel
theorem dX11_law_103 : decode cX11_law 103 = .ok (.aload_n 0, 1) := by decide +kernel
theorem dX11_law_104 : decode cX11_law 104 = .ok (.iload_n 1, 1) := by decide +kernel
theorem dX11_law_105 : decode cX11_law 105 = .ok (.iconst 0, 1) := by decide +kernel
theorem dX11_law_106 : decode cX11_law 106 = .ok (.invokevirtual 67, 3) := by decide +kernel
theorem dX11_law_109 : decode cX11_law 109 = .ok (.istore 6, 2) := by decide +kernel
theorem dX11_law_111 : decode cX11_law 111 = .ok (.iconst 0, 1) := by decide +kernel
theorem dX11_law_112 : decode cX11_law 112 = .ok (.istore 7, 2) := by decide +kernel
theorem dX11_law_114 : decode cX11_law 114 = .ok (.iconst 0, 1) := by decide +kernel
theorem dX11_law_115 : decode cX11_law 115 = .ok (.istore 8, 2) := by decide +kernel
theorem dX11_law_117 : decode cX11_law 117 = .ok (.iload 8, 2) := by decide +kernel
theorem dX11_law_119 : decode cX11_law 119 = .ok (.aload_n 0, 1) := by decide +kernel
theorem dX11_law_120 : decode cX11_law 120 = .ok (.iload_n 2, 1) := by decide +kernel
theorem dX11_law_121 : decode cX11_law 121 = .ok (.invokevirtual 186, 3) := by decide +kernel
theorem dX11_law_124 : decode cX11_law 124 = .ok (.if_icmp .ge 39, 3) := by decide +kernel
theorem dX11_law_127 : decode cX11_law 127 = .ok (.aload_n 0, 1) := by decide +kernel
theorem dX11_law_128 : decode cX11_law 128 = .ok (.iload_n 2, 1) := by decide +kernel
theorem dX11_law_129 : decode cX11_law 129 = .ok (.iload 8, 2) := by decide +kernel
theorem dX11_law_131 : decode cX11_law 131 = .ok (.invokevirtual 189, 3) := by decide +kernel
theorem dX11_law_134 : decode cX11_law 134 = .ok (.istore 9, 2) := by decide +kernel
theorem dX11_law_136 : decode cX11_law 136 = .ok (.iload 7, 2) := by decide +kernel
theorem dX11_law_138 : decode cX11_law 138 = .ok (.aload_n 0, 1) := by decide +kernel
theorem dX11_law_139 : decode cX11_law 139 = .ok (.iload_n 1, 1) := by decide +kernel
theorem dX11_law_140 : decode cX11_law 140 = .ok (.iconst 0, 1) := by decide +kernel
theorem dX11_law_141 : decode cX11_law 141 = .ok (.invokevirtual 67, 3) := by decide +kernel
theorem dX11_law_144 : decode cX11_law 144 = .ok (.iload 6, 2) := by decide +kernel
theorem dX11_law_146 : decode cX11_law 146 = .ok (.if_icmp .eq 7, 3) := by decide +kernel
theorem dX11_law_149 : decode cX11_law 149 = .ok (.iconst 1, 1) := by decide +kernel
theorem dX11_law_150 : decode cX11_law 150 = .ok (.goto 4, 3) := by decide +kernel
theorem dX11_law_153 : decode cX11_law 153 = .ok (.iconst 0, 1) := by decide +kernel
theorem dX11_law_154 : decode cX11_law 154 = .ok (.iadd, 1) := by decide +kernel
theorem dX11_law_155 : decode cX11_law 155 = .ok (.istore 7, 2) := by decide +kernel
theorem dX11_law_157 : decode cX11_law 157 = .ok (.iinc 8 1, 3) := by decide +kernel
theorem dX11_law_160 : decode cX11_law 160 = .ok (.goto (-43), 3) := by decide +kernel
theorem dX11_law_163 : decode cX11_law 163 = .ok (.aload_n 0, 1) := by decide +kernel
theorem dX11_law_164 : decode cX11_law 164 = .ok (.invokevirtual 192, 3) := by decide +kernel
theorem dX11_law_167 : decode cX11_law 167 = .ok (.iload 7, 2) := by decide +kernel
theorem dX11_law_169 : decode cX11_law 169 = .ok (.ireturn, 1) := by decide +kernel
theorem dX11_together_0 : decode cX11_together 0 = .ok (.aload_n 0, 1) := by decide +kernel
theorem dX11_together_1 : decode cX11_together 1 = .ok (.iload_n 1, 1) := by decide +kernel
theorem dX11_together_2 : decode cX11_together 2 = .ok (.invokevirtual 166, 3) := by decide +kernel
theorem dX11_together_5 : decode cX11_together 5 = .ok (.ifCond .eq 23, 3) := by decide +kernel
theorem dX11_together_8 : decode cX11_together 8 = .ok (.aload_n 0, 1) := by decide +kernel
theorem dX11_together_9 : decode cX11_together 9 = .ok (.iload_n 2, 1) := by decide +kernel
theorem dX11_together_10 : decode cX11_together 10 = .ok (.invokevirtual 166, 3) := by decide +kernel
theorem dX11_together_13 : decode cX11_together 13 = .ok (.ifCond .eq 15, 3) := by decide +kernel
theorem dX11_together_16 : decode cX11_together 16 = .ok (.iload_n 1, 1) := by decide +kernel
theorem dX11_together_17 : decode cX11_together 17 = .ok (.iload_n 2, 1) := by decide +kernel
theorem dX11_together_18 : decode cX11_together 18 = .ok (.if_icmp .eq 10, 3) := by decide +kernel
theorem dX11_together_21 : decode cX11_together 21 = .ok (.iload_n 3, 1) := by decide +kernel
theorem dX11_together_22 : decode cX11_together 22 = .ok (.invokestatic 149, 3) := by decide +kernel
theorem dX11_together_25 : decode cX11_together 25 = .ok (.ifCond .ne 5, 3) := by decide +kernel
theorem dX11_together_28 : decode cX11_together 28 = .ok (.iconst (-1), 1) := by decide +kernel
theorem dX11_together_29 : decode cX11_together 29 = .ok (.ireturn, 1) := by decide +kernel
theorem dX11_together_30 : decode cX11_together 30 = .ok (.aload_n 0, 1) := by decide +kernel
theorem dX11_together_31 : decode cX11_together 31 = .ok (.iload_n 1, 1) := by decide +kernel
theorem dX11_together_32 : decode cX11_together 32 = .ok (.iconst 0, 1) := by decide +kernel
theorem dX11_together_33 : decode cX11_together 33 = .ok (.invokevirtual 67, 3) := by decide +kernel
theorem dX11_together_36 : decode cX11_together 36 = .ok (.aload_n 0, 1) := by decide +kernel
theorem dX11_together_37 : decode cX11_together 37 = .ok (.iload_n 2, 1) := by decide +kernel
theorem dX11_together_38 : decode cX11_together 38 = .ok (.iconst 0, 1) := by decide +kernel
theorem dX11_together_39 : decode cX11_together 39 = .ok (.invokevirtual 67, 3) := by decide +kernel
theorem dX11_together_42 : decode cX11_together 42 = .ok (.if_icmp .eq 6, 3) := by decide +kernel
theorem dX11_together_45 : decode cX11_together 45 = .ok (.bipush (-3), 2) := by decide +kernel
theorem dX11_together_47 : decode cX11_together 47 = .ok (.ireturn, 1) := by decide +kernel
theorem dX11_together_48 : decode cX11_together 48 = .ok (.aload_n 0, 1) := by decide +kernel
theorem dX11_together_49 : decode cX11_together 49 = .ok (.iload_n 3, 1) := by decide +kernel
theorem dX11_together_50 : decode cX11_together 50 = .ok (.invokevirtual 180, 3) := by decide +kernel
theorem dX11_together_53 : decode cX11_together 53 = .ok (.istore 4, 2) := by decide +kernel
theorem dX11_together_55 : decode cX11_together 55 = .ok (.iload 4, 2) := by decide +kernel
theorem dX11_together_57 : decode cX11_together 57 = .ok (.ifCond .eq 6, 3) := by decide +kernel
theorem dX11_together_60 : decode cX11_together 60 = .ok (.iload 4, 2) := by decide +kernel
theorem dX11_together_62 : decode cX11_together 62 = .ok (.ireturn, 1) := by decide +kernel
theorem dX11_together_63 : decode cX11_together 63 = .ok (.aload_n 0, 1) := by decide +kernel
theorem dX11_together_64 : decode cX11_together 64 = .ok (.invokevirtual 183, 3) := by decide +kernel
theorem dX11_together_67 : decode cX11_together 67 = .ok (.iconst 0, 1) := by decide +kernel
theorem dX11_together_68 : decode cX11_together 68 = .ok (.istore 5, 2) := by decide +kernel
theorem dX11_together_70 : decode cX11_together 70 = .ok (.iconst 0, 1) := by decide +kernel
theorem dX11_together_71 : decode cX11_together 71 = .ok (.istore 6, 2) := by decide +kernel
theorem dX11_together_73 : decode cX11_together 73 = .ok (.iload 6, 2) := by decide +kernel
theorem dX11_together_75 : decode cX11_together 75 = .ok (.aload_n 0, 1) := by decide +kernel
theorem dX11_together_76 : decode cX11_together 76 = .ok (.iload_n 3, 1) := by decide +kernel
theorem dX11_together_77 : decode cX11_together 77 = .ok (.invokevirtual 186, 3) := by decide +kernel
theorem dX11_together_80 : decode cX11_together 80 = .ok (.if_icmp .ge 50, 3) := by decide +kernel
theorem dX11_together_83 : decode cX11_together 83 = .ok (.iload 5, 2) := by decide +kernel
theorem dX11_together_85 : decode cX11_together 85 = .ok (.iload 6, 2) := by decide +kernel
theorem dX11_together_87 : decode cX11_together 87 = .ok (.if_icmp .ne 43, 3) := by decide +kernel
theorem dX11_together_90 : decode cX11_together 90 = .ok (.aload_n 0, 1) := by decide +kernel
theorem dX11_together_91 : decode cX11_together 91 = .ok (.iload_n 3, 1) := by decide +kernel
theorem dX11_together_92 : decode cX11_together 92 = .ok (.iload 6, 2) := by decide +kernel
theorem dX11_together_94 : decode cX11_together 94 = .ok (.invokevirtual 189, 3) := by decide +kernel
theorem dX11_together_97 : decode cX11_together 97 = .ok (.istore 7, 2) := by decide +kernel
theorem dX11_together_99 : decode cX11_together 99 = .ok (.iload 5, 2) := by decide +kernel
theorem dX11_together_101 : decode cX11_together 101 = .ok (.aload_n 0, 1) := by decide +kernel
theorem dX11_together_102 : decode cX11_together 102 = .ok (.iload_n 1, 1) := by decide +kernel
theorem dX11_together_103 : decode cX11_together 103 = .ok (.iconst 0, 1) := by decide +kernel
theorem dX11_together_104 : decode cX11_together 104 = .ok (.invokevirtual 67, 3) := by decide +kernel
theorem dX11_together_107 : decode cX11_together 107 = .ok (.aload_n 0, 1) := by decide +kernel
theorem dX11_together_108 : decode cX11_together 108 = .ok (.iload_n 2, 1) := by decide +kernel
theorem dX11_together_109 : decode cX11_together 109 = .ok (.iconst 0, 1) := by decide +kernel
theorem dX11_together_110 : decode cX11_together 110 = .ok (.invokevirtual 67, 3) := by decide +kernel
theorem dX11_together_113 : decode cX11_together 113 = .ok (.if_icmp .ne 7, 3) := by decide +kernel
theorem dX11_together_116 : decode cX11_together 116 = .ok (.iconst 1, 1) := by decide +kernel
theorem dX11_together_117 : decode cX11_together 117 = .ok (.goto 4, 3) := by decide +kernel
theorem dX11_together_120 : decode cX11_together 120 = .ok (.iconst 0, 1) := by decide +kernel
theorem dX11_together_121 : decode cX11_together 121 = .ok (.iadd, 1) := by decide +kernel
theorem dX11_together_122 : decode cX11_together 122 = .ok (.istore 5, 2) := by decide +kernel
theorem dX11_together_124 : decode cX11_together 124 = .ok (.iinc 6 1, 3) := by decide +kernel
theorem dX11_together_127 : decode cX11_together 127 = .ok (.goto (-54), 3) := by decide +kernel
theorem dX11_together_130 : decode cX11_together 130 = .ok (.aload_n 0, 1) := by decide +kernel
theorem dX11_together_131 : decode cX11_together 131 = .ok (.invokevirtual 192, 3) := by decide +kernel
theorem dX11_together_134 : decode cX11_together 134 = .ok (.iload 5, 2) := by decide +kernel
theorem dX11_together_136 : decode cX11_together 136 = .ok (.ireturn, 1) := by decide +kernel
theorem dX11_moved_0 : decode cX11_moved 0 = .ok (.aload_n 0, 1) := by decide +kernel
theorem dX11_moved_1 : decode cX11_moved 1 = .ok (.iload_n 1, 1) := by decide +kernel
theorem dX11_moved_2 : decode cX11_moved 2 = .ok (.invokevirtual 166, 3) := by decide +kernel
theorem dX11_moved_5 : decode cX11_moved 5 = .ok (.ifCond .eq 11, 3) := by decide +kernel
theorem dX11_moved_8 : decode cX11_moved 8 = .ok (.aload_n 0, 1) := by decide +kernel
theorem dX11_moved_9 : decode cX11_moved 9 = .ok (.iload_n 2, 1) := by decide +kernel
theorem dX11_moved_10 : decode cX11_moved 10 = .ok (.invokevirtual 180, 3) := by decide +kernel
theorem dX11_moved_13 : decode cX11_moved 13 = .ok (.goto 4, 3) := by decide +kernel
theorem dX11_moved_16 : decode cX11_moved 16 = .ok (.iconst (-1), 1) := by decide +kernel
theorem dX11_moved_17 : decode cX11_moved 17 = .ok (.istore_n 3, 1) := by decide +kernel
theorem dX11_moved_18 : decode cX11_moved 18 = .ok (.iload_n 3, 1) := by decide +kernel
theorem dX11_moved_19 : decode cX11_moved 19 = .ok (.ifCond .eq 5, 3) := by decide +kernel
theorem dX11_moved_22 : decode cX11_moved 22 = .ok (.iload_n 3, 1) := by decide +kernel
theorem dX11_moved_23 : decode cX11_moved 23 = .ok (.ireturn, 1) := by decide +kernel
theorem dX11_moved_24 : decode cX11_moved 24 = .ok (.aload_n 0, 1) := by decide +kernel
theorem dX11_moved_25 : decode cX11_moved 25 = .ok (.invokevirtual 183, 3) := by decide +kernel
theorem dX11_moved_28 : decode cX11_moved 28 = .ok (.iconst 0, 1) := by decide +kernel
theorem dX11_moved_29 : decode cX11_moved 29 = .ok (.istore 4, 2) := by decide +kernel
theorem dX11_moved_31 : decode cX11_moved 31 = .ok (.iconst 0, 1) := by decide +kernel
theorem dX11_moved_32 : decode cX11_moved 32 = .ok (.istore 5, 2) := by decide +kernel
theorem dX11_moved_34 : decode cX11_moved 34 = .ok (.iload 5, 2) := by decide +kernel
theorem dX11_moved_36 : decode cX11_moved 36 = .ok (.aload_n 0, 1) := by decide +kernel
theorem dX11_moved_37 : decode cX11_moved 37 = .ok (.iload_n 2, 1) := by decide +kernel
theorem dX11_moved_38 : decode cX11_moved 38 = .ok (.invokevirtual 186, 3) := by decide +kernel
theorem dX11_moved_41 : decode cX11_moved 41 = .ok (.if_icmp .ge 45, 3) := by decide +kernel
theorem dX11_moved_44 : decode cX11_moved 44 = .ok (.iload 4, 2) := by decide +kernel
theorem dX11_moved_46 : decode cX11_moved 46 = .ok (.aload_n 0, 1) := by decide +kernel
theorem dX11_moved_47 : decode cX11_moved 47 = .ok (.iload_n 2, 1) := by decide +kernel
theorem dX11_moved_48 : decode cX11_moved 48 = .ok (.iload 5, 2) := by decide +kernel
theorem dX11_moved_50 : decode cX11_moved 50 = .ok (.invokevirtual 189, 3) := by decide +kernel
theorem dX11_moved_53 : decode cX11_moved 53 = .ok (.ifCond .eq 23, 3) := by decide +kernel
theorem dX11_moved_56 : decode cX11_moved 56 = .ok (.aload_n 0, 1) := by decide +kernel
theorem dX11_moved_57 : decode cX11_moved 57 = .ok (.getfield 111, 3) := by decide +kernel
theorem dX11_moved_60 : decode cX11_moved 60 = .ok (.iload_n 1, 1) := by decide +kernel
theorem dX11_moved_61 : decode cX11_moved 61 = .ok (.if_icmp .eq 11, 3) := by decide +kernel
theorem dX11_moved_64 : decode cX11_moved 64 = .ok (.aload_n 0, 1) := by decide +kernel
theorem dX11_moved_65 : decode cX11_moved 65 = .ok (.getfield 114, 3) := by decide +kernel
theorem dX11_moved_68 : decode cX11_moved 68 = .ok (.iload_n 1, 1) := by decide +kernel
theorem dX11_moved_69 : decode cX11_moved 69 = .ok (.if_icmp .ne 7, 3) := by decide +kernel
theorem dX11_moved_72 : decode cX11_moved 72 = .ok (.iconst 1, 1) := by decide +kernel
theorem dX11_moved_73 : decode cX11_moved 73 = .ok (.goto 4, 3) := by decide +kernel
theorem dX11_moved_76 : decode cX11_moved 76 = .ok (.iconst 0, 1) := by decide +kernel
theorem dX11_moved_77 : decode cX11_moved 77 = .ok (.iadd, 1) := by decide +kernel
theorem dX11_moved_78 : decode cX11_moved 78 = .ok (.istore 4, 2) := by decide +kernel
theorem dX11_moved_80 : decode cX11_moved 80 = .ok (.iinc 5 1, 3) := by decide +kernel
theorem dX11_moved_83 : decode cX11_moved 83 = .ok (.goto (-49), 3) := by decide +kernel
theorem dX11_moved_86 : decode cX11_moved 86 = .ok (.aload_n 0, 1) := by decide +kernel
theorem dX11_moved_87 : decode cX11_moved 87 = .ok (.invokevirtual 192, 3) := by decide +kernel
theorem dX11_moved_90 : decode cX11_moved 90 = .ok (.iload 4, 2) := by decide +kernel
theorem dX11_moved_92 : decode cX11_moved 92 = .ok (.ireturn, 1) := by decide +kernel
theorem dX11_drawn_0 : decode cX11_drawn 0 = .ok (.aload_n 0, 1) := by decide +kernel
theorem dX11_drawn_1 : decode cX11_drawn 1 = .ok (.aload_n 0, 1) := by decide +kernel
theorem dX11_drawn_2 : decode cX11_drawn 2 = .ok (.getfield 226, 3) := by decide +kernel
theorem dX11_drawn_5 : decode cX11_drawn 5 = .ok (.ldc 229, 2) := by decide +kernel
theorem dX11_drawn_7 : decode cX11_drawn 7 = .ok (.imul, 1) := by decide +kernel
theorem dX11_drawn_8 : decode cX11_drawn 8 = .ok (.sipush 12345, 3) := by decide +kernel
theorem dX11_drawn_11 : decode cX11_drawn 11 = .ok (.iadd, 1) := by decide +kernel
theorem dX11_drawn_12 : decode cX11_drawn 12 = .ok (.putfield 226, 3) := by decide +kernel
theorem dX11_drawn_15 : decode cX11_drawn 15 = .ok (.aload_n 0, 1) := by decide +kernel
theorem dX11_drawn_16 : decode cX11_drawn 16 = .ok (.getfield 226, 3) := by decide +kernel
theorem dX11_drawn_19 : decode cX11_drawn 19 = .ok (.ldc 230, 2) := by decide +kernel
theorem dX11_drawn_21 : decode cX11_drawn 21 = .ok (.iand, 1) := by decide +kernel
theorem dX11_drawn_22 : decode cX11_drawn 22 = .ok (.ldc 231, 2) := by decide +kernel
theorem dX11_drawn_24 : decode cX11_drawn 24 = .ok (.idiv, 1) := by decide +kernel
theorem dX11_drawn_25 : decode cX11_drawn 25 = .ok (.iload_n 1, 1) := by decide +kernel
theorem dX11_drawn_26 : decode cX11_drawn 26 = .ok (.irem, 1) := by decide +kernel
theorem dX11_drawn_27 : decode cX11_drawn 27 = .ok (.ireturn, 1) := by decide +kernel
theorem dX11_seeded_0 : decode cX11_seeded 0 = .ok (.aload_n 0, 1) := by decide +kernel
theorem dX11_seeded_1 : decode cX11_seeded 1 = .ok (.iload_n 1, 1) := by decide +kernel
theorem dX11_seeded_2 : decode cX11_seeded 2 = .ok (.invokevirtual 166, 3) := by decide +kernel
theorem dX11_seeded_5 : decode cX11_seeded 5 = .ok (.ifCond .eq 15, 3) := by decide +kernel
theorem dX11_seeded_8 : decode cX11_seeded 8 = .ok (.iload_n 2, 1) := by decide +kernel
theorem dX11_seeded_9 : decode cX11_seeded 9 = .ok (.i2l, 1) := by decide +kernel
theorem dX11_seeded_10 : decode cX11_seeded 10 = .ok (.lconst 1, 1) := by decide +kernel
theorem dX11_seeded_11 : decode cX11_seeded 11 = .ok (.ldc2_w 232, 3) := by decide +kernel
theorem dX11_seeded_14 : decode cX11_seeded 14 = .ok (.invokestatic 59, 3) := by decide +kernel
theorem dX11_seeded_17 : decode cX11_seeded 17 = .ok (.ifCond .ne 5, 3) := by decide +kernel
theorem dX11_seeded_20 : decode cX11_seeded 20 = .ok (.iconst (-1), 1) := by decide +kernel
theorem dX11_seeded_21 : decode cX11_seeded 21 = .ok (.ireturn, 1) := by decide +kernel
theorem dX11_seeded_22 : decode cX11_seeded 22 = .ok (.aload_n 0, 1) := by decide +kernel
theorem dX11_seeded_23 : decode cX11_seeded 23 = .ok (.invokevirtual 183, 3) := by decide +kernel
theorem dX11_seeded_26 : decode cX11_seeded 26 = .ok (.aload_n 0, 1) := by decide +kernel
theorem dX11_seeded_27 : decode cX11_seeded 27 = .ok (.iload_n 3, 1) := by decide +kernel
theorem dX11_seeded_28 : decode cX11_seeded 28 = .ok (.putfield 226, 3) := by decide +kernel
theorem dX11_seeded_31 : decode cX11_seeded 31 = .ok (.iconst 0, 1) := by decide +kernel
theorem dX11_seeded_32 : decode cX11_seeded 32 = .ok (.istore 4, 2) := by decide +kernel
theorem dX11_seeded_34 : decode cX11_seeded 34 = .ok (.iload 4, 2) := by decide +kernel
theorem dX11_seeded_36 : decode cX11_seeded 36 = .ok (.iload_n 2, 1) := by decide +kernel
theorem dX11_seeded_37 : decode cX11_seeded 37 = .ok (.if_icmp .ge 52, 3) := by decide +kernel
theorem dX11_seeded_40 : decode cX11_seeded 40 = .ok (.aload_n 0, 1) := by decide +kernel
theorem dX11_seeded_41 : decode cX11_seeded 41 = .ok (.aload_n 0, 1) := by decide +kernel
theorem dX11_seeded_42 : decode cX11_seeded 42 = .ok (.getfield 9, 3) := by decide +kernel
theorem dX11_seeded_45 : decode cX11_seeded 45 = .ok (.iconst 0, 1) := by decide +kernel
theorem dX11_seeded_46 : decode cX11_seeded 46 = .ok (.iaload, 1) := by decide +kernel
theorem dX11_seeded_47 : decode cX11_seeded 47 = .ok (.invokevirtual 234, 3) := by decide +kernel
theorem dX11_seeded_50 : decode cX11_seeded 50 = .ok (.istore 5, 2) := by decide +kernel
theorem dX11_seeded_52 : decode cX11_seeded 52 = .ok (.aload_n 0, 1) := by decide +kernel
theorem dX11_seeded_53 : decode cX11_seeded 53 = .ok (.aload_n 0, 1) := by decide +kernel
theorem dX11_seeded_54 : decode cX11_seeded 54 = .ok (.getfield 9, 3) := by decide +kernel
theorem dX11_seeded_57 : decode cX11_seeded 57 = .ok (.iconst 0, 1) := by decide +kernel
theorem dX11_seeded_58 : decode cX11_seeded 58 = .ok (.iaload, 1) := by decide +kernel
theorem dX11_seeded_59 : decode cX11_seeded 59 = .ok (.invokevirtual 234, 3) := by decide +kernel
theorem dX11_seeded_62 : decode cX11_seeded 62 = .ok (.istore 6, 2) := by decide +kernel
theorem dX11_seeded_64 : decode cX11_seeded 64 = .ok (.aload_n 0, 1) := by decide +kernel
theorem dX11_seeded_65 : decode cX11_seeded 65 = .ok (.iload 5, 2) := by decide +kernel
theorem dX11_seeded_67 : decode cX11_seeded 67 = .ok (.iload 6, 2) := by decide +kernel
theorem dX11_seeded_69 : decode cX11_seeded 69 = .ok (.invokevirtual 141, 3) := by decide +kernel
theorem dX11_seeded_72 : decode cX11_seeded 72 = .ok (.ifCond .eq 11, 3) := by decide +kernel
theorem dX11_seeded_75 : decode cX11_seeded 75 = .ok (.aload_n 0, 1) := by decide +kernel
theorem dX11_seeded_76 : decode cX11_seeded 76 = .ok (.iload 5, 2) := by decide +kernel
theorem dX11_seeded_78 : decode cX11_seeded 78 = .ok (.iload 6, 2) := by decide +kernel
theorem dX11_seeded_80 : decode cX11_seeded 80 = .ok (.invokevirtual 145, 3) := by decide +kernel
theorem dX11_seeded_83 : decode cX11_seeded 83 = .ok (.iinc 4 1, 3) := by decide +kernel
theorem dX11_seeded_86 : decode cX11_seeded 86 = .ok (.goto (-52), 3) := by decide +kernel
theorem dX11_seeded_89 : decode cX11_seeded 89 = .ok (.aload_n 0, 1) := by decide +kernel
theorem dX11_seeded_90 : decode cX11_seeded 90 = .ok (.iload_n 1, 1) := by decide +kernel
theorem dX11_seeded_91 : decode cX11_seeded 91 = .ok (.iconst 0, 1) := by decide +kernel
theorem dX11_seeded_92 : decode cX11_seeded 92 = .ok (.invokevirtual 67, 3) := by decide +kernel
theorem dX11_seeded_95 : decode cX11_seeded 95 = .ok (.istore 4, 2) := by decide +kernel
theorem dX11_seeded_97 : decode cX11_seeded 97 = .ok (.aload_n 0, 1) := by decide +kernel
theorem dX11_seeded_98 : decode cX11_seeded 98 = .ok (.invokevirtual 192, 3) := by decide +kernel
theorem dX11_seeded_101 : decode cX11_seeded 101 = .ok (.iload 4, 2) := by decide +kernel
theorem dX11_seeded_103 : decode cX11_seeded 103 = .ok (.ireturn, 1) := by decide +kernel
theorem dX11_wrongFour_0 : decode cX11_wrongFour 0 = .ok (.aload_n 0, 1) := by decide +kernel
theorem dX11_wrongFour_1 : decode cX11_wrongFour 1 = .ok (.getfield 31, 3) := by decide +kernel
theorem dX11_wrongFour_4 : decode cX11_wrongFour 4 = .ok (.bipush 100, 2) := by decide +kernel
theorem dX11_wrongFour_6 : decode cX11_wrongFour 6 = .ok (.iload_n 1, 1) := by decide +kernel
theorem dX11_wrongFour_7 : decode cX11_wrongFour 7 = .ok (.imul, 1) := by decide +kernel
theorem dX11_wrongFour_8 : decode cX11_wrongFour 8 = .ok (.iload_n 2, 1) := by decide +kernel
theorem dX11_wrongFour_9 : decode cX11_wrongFour 9 = .ok (.iadd, 1) := by decide +kernel
theorem dX11_wrongFour_10 : decode cX11_wrongFour 10 = .ok (.iaload, 1) := by decide +kernel
theorem dX11_wrongFour_11 : decode cX11_wrongFour 11 = .ok (.istore_n 3, 1) := by decide +kernel
theorem dX11_wrongFour_12 : decode cX11_wrongFour 12 = .ok (.aload_n 0, 1) := by decide +kernel
theorem dX11_wrongFour_13 : decode cX11_wrongFour 13 = .ok (.getfield 31, 3) := by decide +kernel
theorem dX11_wrongFour_16 : decode cX11_wrongFour 16 = .ok (.bipush 100, 2) := by decide +kernel
theorem dX11_wrongFour_18 : decode cX11_wrongFour 18 = .ok (.iload_n 1, 1) := by decide +kernel
theorem dX11_wrongFour_19 : decode cX11_wrongFour 19 = .ok (.imul, 1) := by decide +kernel
theorem dX11_wrongFour_20 : decode cX11_wrongFour 20 = .ok (.iload_n 2, 1) := by decide +kernel
theorem dX11_wrongFour_21 : decode cX11_wrongFour 21 = .ok (.iadd, 1) := by decide +kernel
theorem dX11_wrongFour_22 : decode cX11_wrongFour 22 = .ok (.iconst 1, 1) := by decide +kernel
theorem dX11_wrongFour_23 : decode cX11_wrongFour 23 = .ok (.iadd, 1) := by decide +kernel
theorem dX11_wrongFour_24 : decode cX11_wrongFour 24 = .ok (.iaload, 1) := by decide +kernel
theorem dX11_wrongFour_25 : decode cX11_wrongFour 25 = .ok (.istore 4, 2) := by decide +kernel
theorem dX11_wrongFour_27 : decode cX11_wrongFour 27 = .ok (.aload_n 0, 1) := by decide +kernel
theorem dX11_wrongFour_28 : decode cX11_wrongFour 28 = .ok (.iload_n 3, 1) := by decide +kernel
theorem dX11_wrongFour_29 : decode cX11_wrongFour 29 = .ok (.iload 4, 2) := by decide +kernel
theorem dX11_wrongFour_31 : decode cX11_wrongFour 31 = .ok (.invokevirtual 141, 3) := by decide +kernel
theorem dX11_wrongFour_34 : decode cX11_wrongFour 34 = .ok (.ifCond .ne 5, 3) := by decide +kernel
theorem dX11_wrongFour_37 : decode cX11_wrongFour 37 = .ok (.iload_n 2, 1) := by decide +kernel
theorem dX11_wrongFour_38 : decode cX11_wrongFour 38 = .ok (.ireturn, 1) := by decide +kernel
theorem dX11_wrongFour_39 : decode cX11_wrongFour 39 = .ok (.aload_n 0, 1) := by decide +kernel
theorem dX11_wrongFour_40 : decode cX11_wrongFour 40 = .ok (.iload_n 3, 1) := by decide +kernel
theorem dX11_wrongFour_41 : decode cX11_wrongFour 41 = .ok (.iload 4, 2) := by decide +kernel
theorem dX11_wrongFour_43 : decode cX11_wrongFour 43 = .ok (.invokevirtual 145, 3) := by decide +kernel
theorem dX11_wrongFour_46 : decode cX11_wrongFour 46 = .ok (.aload_n 0, 1) := by decide +kernel
theorem dX11_wrongFour_47 : decode cX11_wrongFour 47 = .ok (.getfield 111, 3) := by decide +kernel
theorem dX11_wrongFour_50 : decode cX11_wrongFour 50 = .ok (.aload_n 0, 1) := by decide +kernel
theorem dX11_wrongFour_51 : decode cX11_wrongFour 51 = .ok (.getfield 31, 3) := by decide +kernel
theorem dX11_wrongFour_54 : decode cX11_wrongFour 54 = .ok (.bipush 100, 2) := by decide +kernel
theorem dX11_wrongFour_56 : decode cX11_wrongFour 56 = .ok (.iload_n 1, 1) := by decide +kernel
theorem dX11_wrongFour_57 : decode cX11_wrongFour 57 = .ok (.imul, 1) := by decide +kernel
theorem dX11_wrongFour_58 : decode cX11_wrongFour 58 = .ok (.iload_n 2, 1) := by decide +kernel
theorem dX11_wrongFour_59 : decode cX11_wrongFour 59 = .ok (.iadd, 1) := by decide +kernel
theorem dX11_wrongFour_60 : decode cX11_wrongFour 60 = .ok (.iconst 2, 1) := by decide +kernel
theorem dX11_wrongFour_61 : decode cX11_wrongFour 61 = .ok (.iadd, 1) := by decide +kernel
theorem dX11_wrongFour_62 : decode cX11_wrongFour 62 = .ok (.iaload, 1) := by decide +kernel
theorem dX11_wrongFour_63 : decode cX11_wrongFour 63 = .ok (.if_icmp .eq 9, 3) := by decide +kernel
theorem dX11_wrongFour_66 : decode cX11_wrongFour 66 = .ok (.iload_n 2, 1) := by decide +kernel
theorem dX11_wrongFour_67 : decode cX11_wrongFour 67 = .ok (.iconst 2, 1) := by decide +kernel
theorem dX11_wrongFour_68 : decode cX11_wrongFour 68 = .ok (.iadd, 1) := by decide +kernel
theorem dX11_wrongFour_69 : decode cX11_wrongFour 69 = .ok (.goto 31, 3) := by decide +kernel
theorem dX11_wrongFour_72 : decode cX11_wrongFour 72 = .ok (.aload_n 0, 1) := by decide +kernel
theorem dX11_wrongFour_73 : decode cX11_wrongFour 73 = .ok (.getfield 114, 3) := by decide +kernel
theorem dX11_wrongFour_76 : decode cX11_wrongFour 76 = .ok (.aload_n 0, 1) := by decide +kernel
theorem dX11_wrongFour_77 : decode cX11_wrongFour 77 = .ok (.getfield 31, 3) := by decide +kernel
theorem dX11_wrongFour_80 : decode cX11_wrongFour 80 = .ok (.bipush 100, 2) := by decide +kernel
theorem dX11_wrongFour_82 : decode cX11_wrongFour 82 = .ok (.iload_n 1, 1) := by decide +kernel
theorem dX11_wrongFour_83 : decode cX11_wrongFour 83 = .ok (.imul, 1) := by decide +kernel
theorem dX11_wrongFour_84 : decode cX11_wrongFour 84 = .ok (.iload_n 2, 1) := by decide +kernel
theorem dX11_wrongFour_85 : decode cX11_wrongFour 85 = .ok (.iadd, 1) := by decide +kernel
theorem dX11_wrongFour_86 : decode cX11_wrongFour 86 = .ok (.iconst 3, 1) := by decide +kernel
theorem dX11_wrongFour_87 : decode cX11_wrongFour 87 = .ok (.iadd, 1) := by decide +kernel
theorem dX11_wrongFour_88 : decode cX11_wrongFour 88 = .ok (.iaload, 1) := by decide +kernel
theorem dX11_wrongFour_89 : decode cX11_wrongFour 89 = .ok (.if_icmp .eq 9, 3) := by decide +kernel
theorem dX11_wrongFour_92 : decode cX11_wrongFour 92 = .ok (.iload_n 2, 1) := by decide +kernel
theorem dX11_wrongFour_93 : decode cX11_wrongFour 93 = .ok (.iconst 3, 1) := by decide +kernel
theorem dX11_wrongFour_94 : decode cX11_wrongFour 94 = .ok (.iadd, 1) := by decide +kernel
theorem dX11_wrongFour_95 : decode cX11_wrongFour 95 = .ok (.goto 5, 3) := by decide +kernel
theorem dX11_wrongFour_98 : decode cX11_wrongFour 98 = .ok (.bipush (-4), 2) := by decide +kernel
theorem dX11_wrongFour_100 : decode cX11_wrongFour 100 = .ok (.ireturn, 1) := by decide +kernel
theorem dX11_judge_0 : decode cX11_judge 0 = .ok (.aload_n 0, 1) := by decide +kernel
theorem dX11_judge_1 : decode cX11_judge 1 = .ok (.iload_n 1, 1) := by decide +kernel
theorem dX11_judge_2 : decode cX11_judge 2 = .ok (.iconst (-1), 1) := by decide +kernel
theorem dX11_judge_3 : decode cX11_judge 3 = .ok (.invokevirtual 152, 3) := by decide +kernel
theorem dX11_judge_6 : decode cX11_judge 6 = .ok (.istore_n 2, 1) := by decide +kernel
theorem dX11_judge_7 : decode cX11_judge 7 = .ok (.iload_n 2, 1) := by decide +kernel
theorem dX11_judge_8 : decode cX11_judge 8 = .ok (.ifCond .eq 5, 3) := by decide +kernel
theorem dX11_judge_11 : decode cX11_judge 11 = .ok (.iload_n 2, 1) := by decide +kernel
theorem dX11_judge_12 : decode cX11_judge 12 = .ok (.ireturn, 1) := by decide +kernel
theorem dX11_judge_13 : decode cX11_judge 13 = .ok (.aload_n 0, 1) := by decide +kernel
theorem dX11_judge_14 : decode cX11_judge 14 = .ok (.invokevirtual 183, 3) := by decide +kernel
theorem dX11_judge_17 : decode cX11_judge 17 = .ok (.bipush (-4), 2) := by decide +kernel
theorem dX11_judge_19 : decode cX11_judge 19 = .ok (.istore_n 3, 1) := by decide +kernel
theorem dX11_judge_20 : decode cX11_judge 20 = .ok (.iconst 0, 1) := by decide +kernel
theorem dX11_judge_21 : decode cX11_judge 21 = .ok (.istore 4, 2) := by decide +kernel
theorem dX11_judge_23 : decode cX11_judge 23 = .ok (.iload 4, 2) := by decide +kernel
theorem dX11_judge_25 : decode cX11_judge 25 = .ok (.iconst 3, 1) := by decide +kernel
theorem dX11_judge_26 : decode cX11_judge 26 = .ok (.iadd, 1) := by decide +kernel
theorem dX11_judge_27 : decode cX11_judge 27 = .ok (.aload_n 0, 1) := by decide +kernel
theorem dX11_judge_28 : decode cX11_judge 28 = .ok (.getfield 28, 3) := by decide +kernel
theorem dX11_judge_31 : decode cX11_judge 31 = .ok (.iload_n 1, 1) := by decide +kernel
theorem dX11_judge_32 : decode cX11_judge 32 = .ok (.iaload, 1) := by decide +kernel
theorem dX11_judge_33 : decode cX11_judge 33 = .ok (.if_icmp .ge 21, 3) := by decide +kernel
theorem dX11_judge_36 : decode cX11_judge 36 = .ok (.iload_n 3, 1) := by decide +kernel
theorem dX11_judge_37 : decode cX11_judge 37 = .ok (.ifCond .ge 17, 3) := by decide +kernel
theorem dX11_judge_40 : decode cX11_judge 40 = .ok (.aload_n 0, 1) := by decide +kernel
theorem dX11_judge_41 : decode cX11_judge 41 = .ok (.iload_n 1, 1) := by decide +kernel
theorem dX11_judge_42 : decode cX11_judge 42 = .ok (.iload 4, 2) := by decide +kernel
theorem dX11_judge_44 : decode cX11_judge 44 = .ok (.invokevirtual 237, 3) := by decide +kernel
theorem dX11_judge_47 : decode cX11_judge 47 = .ok (.istore_n 3, 1) := by decide +kernel
theorem dX11_judge_48 : decode cX11_judge 48 = .ok (.iinc 4 4, 3) := by decide +kernel
theorem dX11_judge_51 : decode cX11_judge 51 = .ok (.goto (-28), 3) := by decide +kernel
theorem dX11_judge_54 : decode cX11_judge 54 = .ok (.aload_n 0, 1) := by decide +kernel
theorem dX11_judge_55 : decode cX11_judge 55 = .ok (.invokevirtual 192, 3) := by decide +kernel
theorem dX11_judge_58 : decode cX11_judge 58 = .ok (.iload_n 3, 1) := by decide +kernel
theorem dX11_judge_59 : decode cX11_judge 59 = .ok (.ifCond .ge 14, 3) := by decide +kernel
theorem dX11_judge_62 : decode cX11_judge 62 = .ok (.aload_n 0, 1) := by decide +kernel
theorem dX11_judge_63 : decode cX11_judge 63 = .ok (.getfield 28, 3) := by decide +kernel
theorem dX11_judge_66 : decode cX11_judge 66 = .ok (.iload_n 1, 1) := by decide +kernel
theorem dX11_judge_67 : decode cX11_judge 67 = .ok (.iaload, 1) := by decide +kernel
theorem dX11_judge_68 : decode cX11_judge 68 = .ok (.iconst 4, 1) := by decide +kernel
theorem dX11_judge_69 : decode cX11_judge 69 = .ok (.irem, 1) := by decide +kernel
theorem dX11_judge_70 : decode cX11_judge 70 = .ok (.ifCond .ne 7, 3) := by decide +kernel
theorem dX11_judge_73 : decode cX11_judge 73 = .ok (.iload_n 3, 1) := by decide +kernel
theorem dX11_judge_74 : decode cX11_judge 74 = .ok (.goto 5, 3) := by decide +kernel
theorem dX11_judge_77 : decode cX11_judge 77 = .ok (.iload 4, 2) := by decide +kernel
theorem dX11_judge_79 : decode cX11_judge 79 = .ok (.ireturn, 1) := by decide +kernel
theorem dX11_image_0 : decode cX11_image 0 = .ok (.aload_n 0, 1) := by decide +kernel
theorem dX11_image_1 : decode cX11_image 1 = .ok (.getfield 9, 3) := by decide +kernel
theorem dX11_image_4 : decode cX11_image 4 = .ok (.aload_n 0, 1) := by decide +kernel
theorem dX11_image_5 : decode cX11_image 5 = .ok (.getfield 13, 3) := by decide +kernel
theorem dX11_image_8 : decode cX11_image 8 = .ok (.invokestatic 159, 3) := by decide +kernel
theorem dX11_image_11 : decode cX11_image 11 = .ok (.aload_n 0, 1) := by decide +kernel
theorem dX11_image_12 : decode cX11_image 12 = .ok (.iconst 1, 1) := by decide +kernel
theorem dX11_image_13 : decode cX11_image 13 = .ok (.putfield 240, 3) := by decide +kernel
theorem dX11_image_16 : decode cX11_image 16 = .ok (.aload_n 0, 1) := by decide +kernel
theorem dX11_image_17 : decode cX11_image 17 = .ok (.getfield 9, 3) := by decide +kernel
theorem dX11_image_20 : decode cX11_image 20 = .ok (.iconst 2, 1) := by decide +kernel
theorem dX11_image_21 : decode cX11_image 21 = .ok (.iaload, 1) := by decide +kernel
theorem dX11_image_22 : decode cX11_image 22 = .ok (.ireturn, 1) := by decide +kernel
theorem dX11_restore_0 : decode cX11_restore 0 = .ok (.aload_n 0, 1) := by decide +kernel
theorem dX11_restore_1 : decode cX11_restore 1 = .ok (.getfield 240, 3) := by decide +kernel
theorem dX11_restore_4 : decode cX11_restore 4 = .ok (.ifCond .ne 6, 3) := by decide +kernel
theorem dX11_restore_7 : decode cX11_restore 7 = .ok (.bipush (-3), 2) := by decide +kernel
theorem dX11_restore_9 : decode cX11_restore 9 = .ok (.ireturn, 1) := by decide +kernel
theorem dX11_restore_10 : decode cX11_restore 10 = .ok (.aload_n 0, 1) := by decide +kernel
theorem dX11_restore_11 : decode cX11_restore 11 = .ok (.getfield 13, 3) := by decide +kernel
theorem dX11_restore_14 : decode cX11_restore 14 = .ok (.aload_n 0, 1) := by decide +kernel
theorem dX11_restore_15 : decode cX11_restore 15 = .ok (.getfield 9, 3) := by decide +kernel
theorem dX11_restore_18 : decode cX11_restore 18 = .ok (.invokestatic 159, 3) := by decide +kernel
theorem dX11_restore_21 : decode cX11_restore 21 = .ok (.aload_n 0, 1) := by decide +kernel
theorem dX11_restore_22 : decode cX11_restore 22 = .ok (.getfield 9, 3) := by decide +kernel
theorem dX11_restore_25 : decode cX11_restore 25 = .ok (.iconst 2, 1) := by decide +kernel
theorem dX11_restore_26 : decode cX11_restore 26 = .ok (.iaload, 1) := by decide +kernel
theorem dX11_restore_27 : decode cX11_restore 27 = .ok (.ireturn, 1) := by decide +kernel
theorem dX11_count_0 : decode cX11_count 0 = .ok (.iconst 0, 1) := by decide +kernel
theorem dX11_count_1 : decode cX11_count 1 = .ok (.istore_n 2, 1) := by decide +kernel
theorem dX11_count_2 : decode cX11_count 2 = .ok (.iload_n 1, 1) := by decide +kernel
theorem dX11_count_3 : decode cX11_count 3 = .ok (.tableswitch 103 0 4 #[33, 33, 33, 40, 40], 33) := by decide +kernel
theorem dX11_count_36 : decode cX11_count 36 = .ok (.aload_n 0, 1) := by decide +kernel
theorem dX11_count_37 : decode cX11_count 37 = .ok (.getfield 9, 3) := by decide +kernel
theorem dX11_count_40 : decode cX11_count 40 = .ok (.iload_n 1, 1) := by decide +kernel
theorem dX11_count_41 : decode cX11_count 41 = .ok (.iaload, 1) := by decide +kernel
theorem dX11_count_42 : decode cX11_count 42 = .ok (.ireturn, 1) := by decide +kernel
theorem dX11_count_43 : decode cX11_count 43 = .ok (.iconst 0, 1) := by decide +kernel
theorem dX11_count_44 : decode cX11_count 44 = .ok (.istore_n 3, 1) := by decide +kernel
theorem dX11_count_45 : decode cX11_count 45 = .ok (.iload_n 3, 1) := by decide +kernel
theorem dX11_count_46 : decode cX11_count 46 = .ok (.aload_n 0, 1) := by decide +kernel
theorem dX11_count_47 : decode cX11_count 47 = .ok (.getfield 9, 3) := by decide +kernel
theorem dX11_count_50 : decode cX11_count 50 = .ok (.iconst 0, 1) := by decide +kernel
theorem dX11_count_51 : decode cX11_count 51 = .ok (.iaload, 1) := by decide +kernel
theorem dX11_count_52 : decode cX11_count 52 = .ok (.if_icmp .ge 52, 3) := by decide +kernel
theorem dX11_count_55 : decode cX11_count 55 = .ok (.aload_n 0, 1) := by decide +kernel
theorem dX11_count_56 : decode cX11_count 56 = .ok (.iload_n 3, 1) := by decide +kernel
theorem dX11_count_57 : decode cX11_count 57 = .ok (.invokevirtual 74, 3) := by decide +kernel
theorem dX11_count_60 : decode cX11_count 60 = .ok (.invokestatic 84, 3) := by decide +kernel
theorem dX11_count_63 : decode cX11_count 63 = .ok (.istore 4, 2) := by decide +kernel
theorem dX11_count_65 : decode cX11_count 65 = .ok (.iload_n 1, 1) := by decide +kernel
theorem dX11_count_66 : decode cX11_count 66 = .ok (.iconst 3, 1) := by decide +kernel
theorem dX11_count_67 : decode cX11_count 67 = .ok (.if_icmp .ne 18, 3) := by decide +kernel
theorem dX11_count_70 : decode cX11_count 70 = .ok (.iload_n 2, 1) := by decide +kernel
theorem dX11_count_71 : decode cX11_count 71 = .ok (.iload 4, 2) := by decide +kernel
theorem dX11_count_73 : decode cX11_count 73 = .ok (.ifCond .ne 7, 3) := by decide +kernel
theorem dX11_count_76 : decode cX11_count 76 = .ok (.iconst 1, 1) := by decide +kernel
theorem dX11_count_77 : decode cX11_count 77 = .ok (.goto 4, 3) := by decide +kernel
theorem dX11_count_80 : decode cX11_count 80 = .ok (.iconst 0, 1) := by decide +kernel
theorem dX11_count_81 : decode cX11_count 81 = .ok (.iadd, 1) := by decide +kernel
theorem dX11_count_82 : decode cX11_count 82 = .ok (.goto 15, 3) := by decide +kernel
theorem dX11_count_85 : decode cX11_count 85 = .ok (.iload 4, 2) := by decide +kernel
theorem dX11_count_87 : decode cX11_count 87 = .ok (.iload_n 2, 1) := by decide +kernel
theorem dX11_count_88 : decode cX11_count 88 = .ok (.if_icmp .le 8, 3) := by decide +kernel
theorem dX11_count_91 : decode cX11_count 91 = .ok (.iload 4, 2) := by decide +kernel
theorem dX11_count_93 : decode cX11_count 93 = .ok (.goto 4, 3) := by decide +kernel
theorem dX11_count_96 : decode cX11_count 96 = .ok (.iload_n 2, 1) := by decide +kernel
theorem dX11_count_97 : decode cX11_count 97 = .ok (.istore_n 2, 1) := by decide +kernel
theorem dX11_count_98 : decode cX11_count 98 = .ok (.iinc 3 1, 3) := by decide +kernel
theorem dX11_count_101 : decode cX11_count 101 = .ok (.goto (-56), 3) := by decide +kernel
theorem dX11_count_104 : decode cX11_count 104 = .ok (.iload_n 2, 1) := by decide +kernel
theorem dX11_count_105 : decode cX11_count 105 = .ok (.ireturn, 1) := by decide +kernel
theorem dX11_count_106 : decode cX11_count 106 = .ok (.iconst (-1), 1) := by decide +kernel
theorem dX11_count_107 : decode cX11_count 107 = .ok (.ireturn, 1) := by decide +kernel
theorem dX11_payBy_0 : decode cX11_payBy 0 = .ok (.iload_n 0, 1) := by decide +kernel
theorem dX11_payBy_1 : decode cX11_payBy 1 = .ok (.tableswitch 79 1 7 #[43, 48, 50, 53, 60, 69, 74], 43) := by decide +kernel
theorem dX11_payBy_44 : decode cX11_payBy 44 = .ok (.bipush 6, 2) := by decide +kernel
theorem dX11_payBy_46 : decode cX11_payBy 46 = .ok (.iload_n 1, 1) := by decide +kernel
theorem dX11_payBy_47 : decode cX11_payBy 47 = .ok (.iadd, 1) := by decide +kernel
theorem dX11_payBy_48 : decode cX11_payBy 48 = .ok (.ireturn, 1) := by decide +kernel
theorem dX11_payBy_49 : decode cX11_payBy 49 = .ok (.iconst 5, 1) := by decide +kernel
theorem dX11_payBy_50 : decode cX11_payBy 50 = .ok (.ireturn, 1) := by decide +kernel
theorem dX11_payBy_51 : decode cX11_payBy 51 = .ok (.bipush 10, 2) := by decide +kernel
theorem dX11_payBy_53 : decode cX11_payBy 53 = .ok (.ireturn, 1) := by decide +kernel
theorem dX11_payBy_54 : decode cX11_payBy 54 = .ok (.bipush 6, 2) := by decide +kernel
theorem dX11_payBy_56 : decode cX11_payBy 56 = .ok (.iload_n 1, 1) := by decide +kernel
theorem dX11_payBy_57 : decode cX11_payBy 57 = .ok (.iconst 1, 1) := by decide +kernel
theorem dX11_payBy_58 : decode cX11_payBy 58 = .ok (.iadd, 1) := by decide +kernel
theorem dX11_payBy_59 : decode cX11_payBy 59 = .ok (.imul, 1) := by decide +kernel
theorem dX11_payBy_60 : decode cX11_payBy 60 = .ok (.ireturn, 1) := by decide +kernel
theorem dX11_payBy_61 : decode cX11_payBy 61 = .ok (.bipush 6, 2) := by decide +kernel
theorem dX11_payBy_63 : decode cX11_payBy 63 = .ok (.iload_n 1, 1) := by decide +kernel
theorem dX11_payBy_64 : decode cX11_payBy 64 = .ok (.iconst 1, 1) := by decide +kernel
theorem dX11_payBy_65 : decode cX11_payBy 65 = .ok (.iadd, 1) := by decide +kernel
theorem dX11_payBy_66 : decode cX11_payBy 66 = .ok (.imul, 1) := by decide +kernel
theorem dX11_payBy_67 : decode cX11_payBy 67 = .ok (.iconst 3, 1) := by decide +kernel
theorem dX11_payBy_68 : decode cX11_payBy 68 = .ok (.iadd, 1) := by decide +kernel
theorem dX11_payBy_69 : decode cX11_payBy 69 = .ok (.ireturn, 1) := by decide +kernel
theorem dX11_payBy_70 : decode cX11_payBy 70 = .ok (.bipush 6, 2) := by decide +kernel
theorem dX11_payBy_72 : decode cX11_payBy 72 = .ok (.iload_n 1, 1) := by decide +kernel
theorem dX11_payBy_73 : decode cX11_payBy 73 = .ok (.isub, 1) := by decide +kernel
theorem dX11_payBy_74 : decode cX11_payBy 74 = .ok (.ireturn, 1) := by decide +kernel
theorem dX11_payBy_75 : decode cX11_payBy 75 = .ok (.bipush 10, 2) := by decide +kernel
theorem dX11_payBy_77 : decode cX11_payBy 77 = .ok (.iload_n 1, 1) := by decide +kernel
theorem dX11_payBy_78 : decode cX11_payBy 78 = .ok (.iadd, 1) := by decide +kernel
theorem dX11_payBy_79 : decode cX11_payBy 79 = .ok (.ireturn, 1) := by decide +kernel
theorem dX11_payBy_80 : decode cX11_payBy 80 = .ok (.bipush 6, 2) := by decide +kernel
theorem dX11_payBy_82 : decode cX11_payBy 82 = .ok (.ireturn, 1) := by decide +kernel
theorem dX11_keep_0 : decode cX11_keep 0 = .ok (.iload_n 1, 1) := by decide +kernel
theorem dX11_keep_1 : decode cX11_keep 1 = .ok (.invokestatic 149, 3) := by decide +kernel
theorem dX11_keep_4 : decode cX11_keep 4 = .ok (.ifCond .eq 43, 3) := by decide +kernel
theorem dX11_keep_7 : decode cX11_keep 7 = .ok (.iload_n 2, 1) := by decide +kernel
theorem dX11_keep_8 : decode cX11_keep 8 = .ok (.i2l, 1) := by decide +kernel
theorem dX11_keep_9 : decode cX11_keep 9 = .ok (.lconst 0, 1) := by decide +kernel
theorem dX11_keep_10 : decode cX11_keep 10 = .ok (.lconst 1, 1) := by decide +kernel
theorem dX11_keep_11 : decode cX11_keep 11 = .ok (.invokestatic 59, 3) := by decide +kernel
theorem dX11_keep_14 : decode cX11_keep 14 = .ok (.ifCond .eq 33, 3) := by decide +kernel
theorem dX11_keep_17 : decode cX11_keep 17 = .ok (.iload_n 2, 1) := by decide +kernel
theorem dX11_keep_18 : decode cX11_keep 18 = .ok (.iconst 1, 1) := by decide +kernel
theorem dX11_keep_19 : decode cX11_keep 19 = .ok (.if_icmp .ne 30, 3) := by decide +kernel
theorem dX11_keep_22 : decode cX11_keep 22 = .ok (.iload_n 3, 1) := by decide +kernel
theorem dX11_keep_23 : decode cX11_keep 23 = .ok (.i2l, 1) := by decide +kernel
theorem dX11_keep_24 : decode cX11_keep 24 = .ok (.lconst 0, 1) := by decide +kernel
theorem dX11_keep_25 : decode cX11_keep 25 = .ok (.ldc2_w 57, 3) := by decide +kernel
theorem dX11_keep_28 : decode cX11_keep 28 = .ok (.invokestatic 59, 3) := by decide +kernel
theorem dX11_keep_31 : decode cX11_keep 31 = .ok (.ifCond .eq 16, 3) := by decide +kernel
theorem dX11_keep_34 : decode cX11_keep 34 = .ok (.iload 4, 2) := by decide +kernel
theorem dX11_keep_36 : decode cX11_keep 36 = .ok (.i2l, 1) := by decide +kernel
theorem dX11_keep_37 : decode cX11_keep 37 = .ok (.lconst 0, 1) := by decide +kernel
theorem dX11_keep_38 : decode cX11_keep 38 = .ok (.ldc2_w 224, 3) := by decide +kernel
theorem dX11_keep_41 : decode cX11_keep 41 = .ok (.invokestatic 59, 3) := by decide +kernel
theorem dX11_keep_44 : decode cX11_keep 44 = .ok (.ifCond .ne 5, 3) := by decide +kernel
theorem dX11_keep_47 : decode cX11_keep 47 = .ok (.iconst (-1), 1) := by decide +kernel
theorem dX11_keep_48 : decode cX11_keep 48 = .ok (.ireturn, 1) := by decide +kernel
theorem dX11_keep_49 : decode cX11_keep 49 = .ok (.aload_n 0, 1) := by decide +kernel
theorem dX11_keep_50 : decode cX11_keep 50 = .ok (.getfield 22, 3) := by decide +kernel
theorem dX11_keep_53 : decode cX11_keep 53 = .ok (.iload_n 1, 1) := by decide +kernel
theorem dX11_keep_54 : decode cX11_keep 54 = .ok (.iload_n 2, 1) := by decide +kernel
theorem dX11_keep_55 : decode cX11_keep 55 = .ok (.iastore, 1) := by decide +kernel
theorem dX11_keep_56 : decode cX11_keep 56 = .ok (.aload_n 0, 1) := by decide +kernel
theorem dX11_keep_57 : decode cX11_keep 57 = .ok (.getfield 34, 3) := by decide +kernel
theorem dX11_keep_60 : decode cX11_keep 60 = .ok (.iload_n 1, 1) := by decide +kernel
theorem dX11_keep_61 : decode cX11_keep 61 = .ok (.iload_n 3, 1) := by decide +kernel
theorem dX11_keep_62 : decode cX11_keep 62 = .ok (.iastore, 1) := by decide +kernel
theorem dX11_keep_63 : decode cX11_keep 63 = .ok (.aload_n 0, 1) := by decide +kernel
theorem dX11_keep_64 : decode cX11_keep 64 = .ok (.getfield 37, 3) := by decide +kernel
theorem dX11_keep_67 : decode cX11_keep 67 = .ok (.iload_n 1, 1) := by decide +kernel
theorem dX11_keep_68 : decode cX11_keep 68 = .ok (.iload 4, 2) := by decide +kernel
theorem dX11_keep_70 : decode cX11_keep 70 = .ok (.iastore, 1) := by decide +kernel
theorem dX11_keep_71 : decode cX11_keep 71 = .ok (.iconst 0, 1) := by decide +kernel
theorem dX11_keep_72 : decode cX11_keep 72 = .ok (.ireturn, 1) := by decide +kernel
theorem dX11_row_0 : decode cX11_row 0 = .ok (.iload_n 1, 1) := by decide +kernel
theorem dX11_row_1 : decode cX11_row 1 = .ok (.invokestatic 149, 3) := by decide +kernel
theorem dX11_row_4 : decode cX11_row 4 = .ok (.ifCond .eq 21, 3) := by decide +kernel
theorem dX11_row_7 : decode cX11_row 7 = .ok (.iload_n 2, 1) := by decide +kernel
theorem dX11_row_8 : decode cX11_row 8 = .ok (.i2l, 1) := by decide +kernel
theorem dX11_row_9 : decode cX11_row 9 = .ok (.lconst 0, 1) := by decide +kernel
theorem dX11_row_10 : decode cX11_row 10 = .ok (.ldc2_w 244, 3) := by decide +kernel
theorem dX11_row_13 : decode cX11_row 13 = .ok (.invokestatic 59, 3) := by decide +kernel
theorem dX11_row_16 : decode cX11_row 16 = .ok (.ifCond .eq 9, 3) := by decide +kernel
theorem dX11_row_19 : decode cX11_row 19 = .ok (.iload_n 3, 1) := by decide +kernel
theorem dX11_row_20 : decode cX11_row 20 = .ok (.bipush 100, 2) := by decide +kernel
theorem dX11_row_22 : decode cX11_row 22 = .ok (.if_icmp .le 5, 3) := by decide +kernel
theorem dX11_row_25 : decode cX11_row 25 = .ok (.iconst (-1), 1) := by decide +kernel
theorem dX11_row_26 : decode cX11_row 26 = .ok (.ireturn, 1) := by decide +kernel
theorem dX11_row_27 : decode cX11_row 27 = .ok (.iload_n 3, 1) := by decide +kernel
theorem dX11_row_28 : decode cX11_row 28 = .ok (.ifCond .ge 6, 3) := by decide +kernel
theorem dX11_row_31 : decode cX11_row 31 = .ok (.bipush (-14), 2) := by decide +kernel
theorem dX11_row_33 : decode cX11_row 33 = .ok (.ireturn, 1) := by decide +kernel
theorem dX11_row_34 : decode cX11_row 34 = .ok (.aload_n 0, 1) := by decide +kernel
theorem dX11_row_35 : decode cX11_row 35 = .ok (.getfield 22, 3) := by decide +kernel
theorem dX11_row_38 : decode cX11_row 38 = .ok (.iload_n 1, 1) := by decide +kernel
theorem dX11_row_39 : decode cX11_row 39 = .ok (.iconst 2, 1) := by decide +kernel
theorem dX11_row_40 : decode cX11_row 40 = .ok (.iastore, 1) := by decide +kernel
theorem dX11_row_41 : decode cX11_row 41 = .ok (.aload_n 0, 1) := by decide +kernel
theorem dX11_row_42 : decode cX11_row 42 = .ok (.getfield 25, 3) := by decide +kernel
theorem dX11_row_45 : decode cX11_row 45 = .ok (.iload_n 1, 1) := by decide +kernel
theorem dX11_row_46 : decode cX11_row 46 = .ok (.iload_n 2, 1) := by decide +kernel
theorem dX11_row_47 : decode cX11_row 47 = .ok (.iastore, 1) := by decide +kernel
theorem dX11_row_48 : decode cX11_row 48 = .ok (.aload_n 0, 1) := by decide +kernel
theorem dX11_row_49 : decode cX11_row 49 = .ok (.getfield 28, 3) := by decide +kernel
theorem dX11_row_52 : decode cX11_row 52 = .ok (.iload_n 1, 1) := by decide +kernel
theorem dX11_row_53 : decode cX11_row 53 = .ok (.iload_n 3, 1) := by decide +kernel
theorem dX11_row_54 : decode cX11_row 54 = .ok (.iastore, 1) := by decide +kernel
theorem dX11_row_55 : decode cX11_row 55 = .ok (.iconst 0, 1) := by decide +kernel
theorem dX11_row_56 : decode cX11_row 56 = .ok (.istore 4, 2) := by decide +kernel
theorem dX11_row_58 : decode cX11_row 58 = .ok (.iload 4, 2) := by decide +kernel
theorem dX11_row_60 : decode cX11_row 60 = .ok (.bipush 100, 2) := by decide +kernel
theorem dX11_row_62 : decode cX11_row 62 = .ok (.if_icmp .ge 22, 3) := by decide +kernel
theorem dX11_row_65 : decode cX11_row 65 = .ok (.aload_n 0, 1) := by decide +kernel
theorem dX11_row_66 : decode cX11_row 66 = .ok (.getfield 31, 3) := by decide +kernel
theorem dX11_row_69 : decode cX11_row 69 = .ok (.bipush 100, 2) := by decide +kernel
theorem dX11_row_71 : decode cX11_row 71 = .ok (.iload_n 1, 1) := by decide +kernel
theorem dX11_row_72 : decode cX11_row 72 = .ok (.imul, 1) := by decide +kernel
theorem dX11_row_73 : decode cX11_row 73 = .ok (.iload 4, 2) := by decide +kernel
theorem dX11_row_75 : decode cX11_row 75 = .ok (.iadd, 1) := by decide +kernel
theorem dX11_row_76 : decode cX11_row 76 = .ok (.iconst 0, 1) := by decide +kernel
theorem dX11_row_77 : decode cX11_row 77 = .ok (.iastore, 1) := by decide +kernel
theorem dX11_row_78 : decode cX11_row 78 = .ok (.iinc 4 1, 3) := by decide +kernel
theorem dX11_row_81 : decode cX11_row 81 = .ok (.goto (-23), 3) := by decide +kernel
theorem dX11_row_84 : decode cX11_row 84 = .ok (.iconst 0, 1) := by decide +kernel
theorem dX11_row_85 : decode cX11_row 85 = .ok (.ireturn, 1) := by decide +kernel
theorem dX11_put_0 : decode cX11_put 0 = .ok (.aload_n 0, 1) := by decide +kernel
theorem dX11_put_1 : decode cX11_put 1 = .ok (.iload_n 1, 1) := by decide +kernel
theorem dX11_put_2 : decode cX11_put 2 = .ok (.iconst (-1), 1) := by decide +kernel
theorem dX11_put_3 : decode cX11_put 3 = .ok (.invokevirtual 152, 3) := by decide +kernel
theorem dX11_put_6 : decode cX11_put 6 = .ok (.istore 4, 2) := by decide +kernel
theorem dX11_put_8 : decode cX11_put 8 = .ok (.iload 4, 2) := by decide +kernel
theorem dX11_put_10 : decode cX11_put 10 = .ok (.ifCond .eq 6, 3) := by decide +kernel
theorem dX11_put_13 : decode cX11_put 13 = .ok (.iload 4, 2) := by decide +kernel
theorem dX11_put_15 : decode cX11_put 15 = .ok (.ireturn, 1) := by decide +kernel
theorem dX11_put_16 : decode cX11_put 16 = .ok (.iload_n 2, 1) := by decide +kernel
theorem dX11_put_17 : decode cX11_put 17 = .ok (.i2l, 1) := by decide +kernel
theorem dX11_put_18 : decode cX11_put 18 = .ok (.lconst 0, 1) := by decide +kernel
theorem dX11_put_19 : decode cX11_put 19 = .ok (.aload_n 0, 1) := by decide +kernel
theorem dX11_put_20 : decode cX11_put 20 = .ok (.getfield 28, 3) := by decide +kernel
theorem dX11_put_23 : decode cX11_put 23 = .ok (.iload_n 1, 1) := by decide +kernel
theorem dX11_put_24 : decode cX11_put 24 = .ok (.iaload, 1) := by decide +kernel
theorem dX11_put_25 : decode cX11_put 25 = .ok (.iconst 1, 1) := by decide +kernel
theorem dX11_put_26 : decode cX11_put 26 = .ok (.isub, 1) := by decide +kernel
theorem dX11_put_27 : decode cX11_put 27 = .ok (.i2l, 1) := by decide +kernel
theorem dX11_put_28 : decode cX11_put 28 = .ok (.invokestatic 59, 3) := by decide +kernel
theorem dX11_put_31 : decode cX11_put 31 = .ok (.ifCond .ne 6, 3) := by decide +kernel
theorem dX11_put_34 : decode cX11_put 34 = .ok (.bipush (-13), 2) := by decide +kernel
theorem dX11_put_36 : decode cX11_put 36 = .ok (.ireturn, 1) := by decide +kernel
theorem dX11_put_37 : decode cX11_put 37 = .ok (.aload_n 0, 1) := by decide +kernel
theorem dX11_put_38 : decode cX11_put 38 = .ok (.getfield 31, 3) := by decide +kernel
theorem dX11_put_41 : decode cX11_put 41 = .ok (.bipush 100, 2) := by decide +kernel
theorem dX11_put_43 : decode cX11_put 43 = .ok (.iload_n 1, 1) := by decide +kernel
theorem dX11_put_44 : decode cX11_put 44 = .ok (.imul, 1) := by decide +kernel
theorem dX11_put_45 : decode cX11_put 45 = .ok (.iload_n 2, 1) := by decide +kernel
theorem dX11_put_46 : decode cX11_put 46 = .ok (.iadd, 1) := by decide +kernel
theorem dX11_put_47 : decode cX11_put 47 = .ok (.aload_n 0, 1) := by decide +kernel
theorem dX11_put_48 : decode cX11_put 48 = .ok (.getfield 25, 3) := by decide +kernel
theorem dX11_put_51 : decode cX11_put 51 = .ok (.iload_n 1, 1) := by decide +kernel
theorem dX11_put_52 : decode cX11_put 52 = .ok (.iaload, 1) := by decide +kernel
theorem dX11_put_53 : decode cX11_put 53 = .ok (.ifCond .ne 8, 3) := by decide +kernel
theorem dX11_put_56 : decode cX11_put 56 = .ok (.iload_n 3, 1) := by decide +kernel
theorem dX11_put_57 : decode cX11_put 57 = .ok (.i2b, 1) := by decide +kernel
theorem dX11_put_58 : decode cX11_put 58 = .ok (.goto 19, 3) := by decide +kernel
theorem dX11_put_61 : decode cX11_put 61 = .ok (.aload_n 0, 1) := by decide +kernel
theorem dX11_put_62 : decode cX11_put 62 = .ok (.getfield 25, 3) := by decide +kernel
theorem dX11_put_65 : decode cX11_put 65 = .ok (.iload_n 1, 1) := by decide +kernel
theorem dX11_put_66 : decode cX11_put 66 = .ok (.iaload, 1) := by decide +kernel
theorem dX11_put_67 : decode cX11_put 67 = .ok (.iconst 1, 1) := by decide +kernel
theorem dX11_put_68 : decode cX11_put 68 = .ok (.if_icmp .ne 8, 3) := by decide +kernel
theorem dX11_put_71 : decode cX11_put 71 = .ok (.iload_n 3, 1) := by decide +kernel
theorem dX11_put_72 : decode cX11_put 72 = .ok (.i2s, 1) := by decide +kernel
theorem dX11_put_73 : decode cX11_put 73 = .ok (.goto 4, 3) := by decide +kernel
theorem dX11_put_76 : decode cX11_put 76 = .ok (.iload_n 3, 1) := by decide +kernel
theorem dX11_put_77 : decode cX11_put 77 = .ok (.iastore, 1) := by decide +kernel
theorem dX11_put_78 : decode cX11_put 78 = .ok (.iconst 0, 1) := by decide +kernel
theorem dX11_put_79 : decode cX11_put 79 = .ok (.ireturn, 1) := by decide +kernel
theorem dX11_element_0 : decode cX11_element 0 = .ok (.aload_n 0, 1) := by decide +kernel
theorem dX11_element_1 : decode cX11_element 1 = .ok (.iload_n 1, 1) := by decide +kernel
theorem dX11_element_2 : decode cX11_element 2 = .ok (.invokestatic 149, 3) := by decide +kernel
theorem dX11_element_5 : decode cX11_element 5 = .ok (.ifCond .ne 7, 3) := by decide +kernel
theorem dX11_element_8 : decode cX11_element 8 = .ok (.iconst 1, 1) := by decide +kernel
theorem dX11_element_9 : decode cX11_element 9 = .ok (.goto 36, 3) := by decide +kernel
theorem dX11_element_12 : decode cX11_element 12 = .ok (.aload_n 0, 1) := by decide +kernel
theorem dX11_element_13 : decode cX11_element 13 = .ok (.getfield 22, 3) := by decide +kernel
theorem dX11_element_16 : decode cX11_element 16 = .ok (.iload_n 1, 1) := by decide +kernel
theorem dX11_element_17 : decode cX11_element 17 = .ok (.iaload, 1) := by decide +kernel
theorem dX11_element_18 : decode cX11_element 18 = .ok (.iconst 2, 1) := by decide +kernel
theorem dX11_element_19 : decode cX11_element 19 = .ok (.if_icmp .ne 21, 3) := by decide +kernel
theorem dX11_element_22 : decode cX11_element 22 = .ok (.iload_n 2, 1) := by decide +kernel
theorem dX11_element_23 : decode cX11_element 23 = .ok (.i2l, 1) := by decide +kernel
theorem dX11_element_24 : decode cX11_element 24 = .ok (.lconst 0, 1) := by decide +kernel
theorem dX11_element_25 : decode cX11_element 25 = .ok (.aload_n 0, 1) := by decide +kernel
theorem dX11_element_26 : decode cX11_element 26 = .ok (.getfield 28, 3) := by decide +kernel
theorem dX11_element_29 : decode cX11_element 29 = .ok (.iload_n 1, 1) := by decide +kernel
theorem dX11_element_30 : decode cX11_element 30 = .ok (.iaload, 1) := by decide +kernel
theorem dX11_element_31 : decode cX11_element 31 = .ok (.iconst 1, 1) := by decide +kernel
theorem dX11_element_32 : decode cX11_element 32 = .ok (.isub, 1) := by decide +kernel
theorem dX11_element_33 : decode cX11_element 33 = .ok (.i2l, 1) := by decide +kernel
theorem dX11_element_34 : decode cX11_element 34 = .ok (.invokestatic 59, 3) := by decide +kernel
theorem dX11_element_37 : decode cX11_element 37 = .ok (.ifCond .ne 7, 3) := by decide +kernel
theorem dX11_element_40 : decode cX11_element 40 = .ok (.iconst 2, 1) := by decide +kernel
theorem dX11_element_41 : decode cX11_element 41 = .ok (.goto 4, 3) := by decide +kernel
theorem dX11_element_44 : decode cX11_element 44 = .ok (.iconst 0, 1) := by decide +kernel
theorem dX11_element_45 : decode cX11_element 45 = .ok (.putfield 53, 3) := by decide +kernel
theorem dX11_element_48 : decode cX11_element 48 = .ok (.aload_n 0, 1) := by decide +kernel
theorem dX11_element_49 : decode cX11_element 49 = .ok (.getfield 53, 3) := by decide +kernel
theorem dX11_element_52 : decode cX11_element 52 = .ok (.ifCond .ne 18, 3) := by decide +kernel
theorem dX11_element_55 : decode cX11_element 55 = .ok (.aload_n 0, 1) := by decide +kernel
theorem dX11_element_56 : decode cX11_element 56 = .ok (.getfield 31, 3) := by decide +kernel
theorem dX11_element_59 : decode cX11_element 59 = .ok (.bipush 100, 2) := by decide +kernel
theorem dX11_element_61 : decode cX11_element 61 = .ok (.iload_n 1, 1) := by decide +kernel
theorem dX11_element_62 : decode cX11_element 62 = .ok (.imul, 1) := by decide +kernel
theorem dX11_element_63 : decode cX11_element 63 = .ok (.iload_n 2, 1) := by decide +kernel
theorem dX11_element_64 : decode cX11_element 64 = .ok (.iadd, 1) := by decide +kernel
theorem dX11_element_65 : decode cX11_element 65 = .ok (.iaload, 1) := by decide +kernel
theorem dX11_element_66 : decode cX11_element 66 = .ok (.i2l, 1) := by decide +kernel
theorem dX11_element_67 : decode cX11_element 67 = .ok (.goto 4, 3) := by decide +kernel
theorem dX11_element_70 : decode cX11_element 70 = .ok (.lconst 0, 1) := by decide +kernel
theorem dX11_element_71 : decode cX11_element 71 = .ok (.lreturn, 1) := by decide +kernel
theorem dX11_copy_0 : decode cX11_copy 0 = .ok (.iload_n 1, 1) := by decide +kernel
theorem dX11_copy_1 : decode cX11_copy 1 = .ok (.invokestatic 149, 3) := by decide +kernel
theorem dX11_copy_4 : decode cX11_copy 4 = .ok (.ifCond .eq 10, 3) := by decide +kernel
theorem dX11_copy_7 : decode cX11_copy 7 = .ok (.iload_n 3, 1) := by decide +kernel
theorem dX11_copy_8 : decode cX11_copy 8 = .ok (.invokestatic 149, 3) := by decide +kernel
theorem dX11_copy_11 : decode cX11_copy 11 = .ok (.ifCond .ne 5, 3) := by decide +kernel
theorem dX11_copy_14 : decode cX11_copy 14 = .ok (.iconst (-1), 1) := by decide +kernel
theorem dX11_copy_15 : decode cX11_copy 15 = .ok (.ireturn, 1) := by decide +kernel
theorem dX11_copy_16 : decode cX11_copy 16 = .ok (.aload_n 0, 1) := by decide +kernel
theorem dX11_copy_17 : decode cX11_copy 17 = .ok (.getfield 22, 3) := by decide +kernel
theorem dX11_copy_20 : decode cX11_copy 20 = .ok (.iload_n 1, 1) := by decide +kernel
theorem dX11_copy_21 : decode cX11_copy 21 = .ok (.iaload, 1) := by decide +kernel
theorem dX11_copy_22 : decode cX11_copy 22 = .ok (.ifCond .eq 12, 3) := by decide +kernel
theorem dX11_copy_25 : decode cX11_copy 25 = .ok (.aload_n 0, 1) := by decide +kernel
theorem dX11_copy_26 : decode cX11_copy 26 = .ok (.getfield 22, 3) := by decide +kernel
theorem dX11_copy_29 : decode cX11_copy 29 = .ok (.iload_n 3, 1) := by decide +kernel
theorem dX11_copy_30 : decode cX11_copy 30 = .ok (.iaload, 1) := by decide +kernel
theorem dX11_copy_31 : decode cX11_copy 31 = .ok (.ifCond .ne 6, 3) := by decide +kernel
theorem dX11_copy_34 : decode cX11_copy 34 = .ok (.bipush (-11), 2) := by decide +kernel
theorem dX11_copy_36 : decode cX11_copy 36 = .ok (.ireturn, 1) := by decide +kernel
theorem dX11_copy_37 : decode cX11_copy 37 = .ok (.aload_n 0, 1) := by decide +kernel
theorem dX11_copy_38 : decode cX11_copy 38 = .ok (.getfield 22, 3) := by decide +kernel
theorem dX11_copy_41 : decode cX11_copy 41 = .ok (.iload_n 1, 1) := by decide +kernel
theorem dX11_copy_42 : decode cX11_copy 42 = .ok (.iaload, 1) := by decide +kernel
theorem dX11_copy_43 : decode cX11_copy 43 = .ok (.iconst 2, 1) := by decide +kernel
theorem dX11_copy_44 : decode cX11_copy 44 = .ok (.if_icmp .ne 28, 3) := by decide +kernel
theorem dX11_copy_47 : decode cX11_copy 47 = .ok (.aload_n 0, 1) := by decide +kernel
theorem dX11_copy_48 : decode cX11_copy 48 = .ok (.getfield 22, 3) := by decide +kernel
theorem dX11_copy_51 : decode cX11_copy 51 = .ok (.iload_n 3, 1) := by decide +kernel
theorem dX11_copy_52 : decode cX11_copy 52 = .ok (.iaload, 1) := by decide +kernel
theorem dX11_copy_53 : decode cX11_copy 53 = .ok (.iconst 2, 1) := by decide +kernel
theorem dX11_copy_54 : decode cX11_copy 54 = .ok (.if_icmp .ne 18, 3) := by decide +kernel
theorem dX11_copy_57 : decode cX11_copy 57 = .ok (.aload_n 0, 1) := by decide +kernel
theorem dX11_copy_58 : decode cX11_copy 58 = .ok (.getfield 25, 3) := by decide +kernel
theorem dX11_copy_61 : decode cX11_copy 61 = .ok (.iload_n 1, 1) := by decide +kernel
theorem dX11_copy_62 : decode cX11_copy 62 = .ok (.iaload, 1) := by decide +kernel
theorem dX11_copy_63 : decode cX11_copy 63 = .ok (.aload_n 0, 1) := by decide +kernel
theorem dX11_copy_64 : decode cX11_copy 64 = .ok (.getfield 25, 3) := by decide +kernel
theorem dX11_copy_67 : decode cX11_copy 67 = .ok (.iload_n 3, 1) := by decide +kernel
theorem dX11_copy_68 : decode cX11_copy 68 = .ok (.iaload, 1) := by decide +kernel
theorem dX11_copy_69 : decode cX11_copy 69 = .ok (.if_icmp .eq 6, 3) := by decide +kernel
theorem dX11_copy_72 : decode cX11_copy 72 = .ok (.bipush (-12), 2) := by decide +kernel
theorem dX11_copy_74 : decode cX11_copy 74 = .ok (.ireturn, 1) := by decide +kernel
theorem dX11_copy_75 : decode cX11_copy 75 = .ok (.iload 5, 2) := by decide +kernel
theorem dX11_copy_77 : decode cX11_copy 77 = .ok (.ifCond .lt 39, 3) := by decide +kernel
theorem dX11_copy_80 : decode cX11_copy 80 = .ok (.iload_n 2, 1) := by decide +kernel
theorem dX11_copy_81 : decode cX11_copy 81 = .ok (.ifCond .lt 35, 3) := by decide +kernel
theorem dX11_copy_84 : decode cX11_copy 84 = .ok (.iload 4, 2) := by decide +kernel
theorem dX11_copy_86 : decode cX11_copy 86 = .ok (.ifCond .lt 30, 3) := by decide +kernel
theorem dX11_copy_89 : decode cX11_copy 89 = .ok (.iload 5, 2) := by decide +kernel
theorem dX11_copy_91 : decode cX11_copy 91 = .ok (.aload_n 0, 1) := by decide +kernel
theorem dX11_copy_92 : decode cX11_copy 92 = .ok (.getfield 28, 3) := by decide +kernel
theorem dX11_copy_95 : decode cX11_copy 95 = .ok (.iload_n 1, 1) := by decide +kernel
theorem dX11_copy_96 : decode cX11_copy 96 = .ok (.iaload, 1) := by decide +kernel
theorem dX11_copy_97 : decode cX11_copy 97 = .ok (.iload_n 2, 1) := by decide +kernel
theorem dX11_copy_98 : decode cX11_copy 98 = .ok (.isub, 1) := by decide +kernel
theorem dX11_copy_99 : decode cX11_copy 99 = .ok (.if_icmp .gt 17, 3) := by decide +kernel
theorem dX11_copy_102 : decode cX11_copy 102 = .ok (.iload 5, 2) := by decide +kernel
theorem dX11_copy_104 : decode cX11_copy 104 = .ok (.aload_n 0, 1) := by decide +kernel
theorem dX11_copy_105 : decode cX11_copy 105 = .ok (.getfield 28, 3) := by decide +kernel
theorem dX11_copy_108 : decode cX11_copy 108 = .ok (.iload_n 3, 1) := by decide +kernel
theorem dX11_copy_109 : decode cX11_copy 109 = .ok (.iaload, 1) := by decide +kernel
theorem dX11_copy_110 : decode cX11_copy 110 = .ok (.iload 4, 2) := by decide +kernel
theorem dX11_copy_112 : decode cX11_copy 112 = .ok (.isub, 1) := by decide +kernel
theorem dX11_copy_113 : decode cX11_copy 113 = .ok (.if_icmp .le 6, 3) := by decide +kernel
theorem dX11_copy_116 : decode cX11_copy 116 = .ok (.bipush (-13), 2) := by decide +kernel
theorem dX11_copy_118 : decode cX11_copy 118 = .ok (.ireturn, 1) := by decide +kernel
theorem dX11_copy_119 : decode cX11_copy 119 = .ok (.iconst 0, 1) := by decide +kernel
theorem dX11_copy_120 : decode cX11_copy 120 = .ok (.istore 6, 2) := by decide +kernel
theorem dX11_copy_122 : decode cX11_copy 122 = .ok (.iload 6, 2) := by decide +kernel
theorem dX11_copy_124 : decode cX11_copy 124 = .ok (.iload 5, 2) := by decide +kernel
theorem dX11_copy_126 : decode cX11_copy 126 = .ok (.if_icmp .ge 58, 3) := by decide +kernel
theorem dX11_copy_129 : decode cX11_copy 129 = .ok (.iload_n 2, 1) := by decide +kernel
theorem dX11_copy_130 : decode cX11_copy 130 = .ok (.iload 4, 2) := by decide +kernel
theorem dX11_copy_132 : decode cX11_copy 132 = .ok (.if_icmp .le 8, 3) := by decide +kernel
theorem dX11_copy_135 : decode cX11_copy 135 = .ok (.iload 6, 2) := by decide +kernel
theorem dX11_copy_137 : decode cX11_copy 137 = .ok (.goto 10, 3) := by decide +kernel
theorem dX11_copy_140 : decode cX11_copy 140 = .ok (.iload 5, 2) := by decide +kernel
theorem dX11_copy_142 : decode cX11_copy 142 = .ok (.iconst 1, 1) := by decide +kernel
theorem dX11_copy_143 : decode cX11_copy 143 = .ok (.isub, 1) := by decide +kernel
theorem dX11_copy_144 : decode cX11_copy 144 = .ok (.iload 6, 2) := by decide +kernel
theorem dX11_copy_146 : decode cX11_copy 146 = .ok (.isub, 1) := by decide +kernel
theorem dX11_copy_147 : decode cX11_copy 147 = .ok (.istore 7, 2) := by decide +kernel
theorem dX11_copy_149 : decode cX11_copy 149 = .ok (.aload_n 0, 1) := by decide +kernel
theorem dX11_copy_150 : decode cX11_copy 150 = .ok (.getfield 31, 3) := by decide +kernel
theorem dX11_copy_153 : decode cX11_copy 153 = .ok (.bipush 100, 2) := by decide +kernel
theorem dX11_copy_155 : decode cX11_copy 155 = .ok (.iload_n 3, 1) := by decide +kernel
theorem dX11_copy_156 : decode cX11_copy 156 = .ok (.imul, 1) := by decide +kernel
theorem dX11_copy_157 : decode cX11_copy 157 = .ok (.iload 4, 2) := by decide +kernel
theorem dX11_copy_159 : decode cX11_copy 159 = .ok (.iadd, 1) := by decide +kernel
theorem dX11_copy_160 : decode cX11_copy 160 = .ok (.iload 7, 2) := by decide +kernel
theorem dX11_copy_162 : decode cX11_copy 162 = .ok (.iadd, 1) := by decide +kernel
theorem dX11_copy_163 : decode cX11_copy 163 = .ok (.aload_n 0, 1) := by decide +kernel
theorem dX11_copy_164 : decode cX11_copy 164 = .ok (.getfield 31, 3) := by decide +kernel
theorem dX11_copy_167 : decode cX11_copy 167 = .ok (.bipush 100, 2) := by decide +kernel
theorem dX11_copy_169 : decode cX11_copy 169 = .ok (.iload_n 1, 1) := by decide +kernel
theorem dX11_copy_170 : decode cX11_copy 170 = .ok (.imul, 1) := by decide +kernel
theorem dX11_copy_171 : decode cX11_copy 171 = .ok (.iload_n 2, 1) := by decide +kernel
theorem dX11_copy_172 : decode cX11_copy 172 = .ok (.iadd, 1) := by decide +kernel
theorem dX11_copy_173 : decode cX11_copy 173 = .ok (.iload 7, 2) := by decide +kernel
theorem dX11_copy_175 : decode cX11_copy 175 = .ok (.iadd, 1) := by decide +kernel
theorem dX11_copy_176 : decode cX11_copy 176 = .ok (.iaload, 1) := by decide +kernel
theorem dX11_copy_177 : decode cX11_copy 177 = .ok (.iastore, 1) := by decide +kernel
theorem dX11_copy_178 : decode cX11_copy 178 = .ok (.iinc 6 1, 3) := by decide +kernel
theorem dX11_copy_181 : decode cX11_copy 181 = .ok (.goto (-59), 3) := by decide +kernel
theorem dX11_copy_184 : decode cX11_copy 184 = .ok (.iload 5, 2) := by decide +kernel
theorem dX11_copy_186 : decode cX11_copy 186 = .ok (.ireturn, 1) := by decide +kernel
theorem dX11_pay_0 : decode cX11_pay 0 = .ok (.aload_n 0, 1) := by decide +kernel
theorem dX11_pay_1 : decode cX11_pay 1 = .ok (.iload_n 1, 1) := by decide +kernel
theorem dX11_pay_2 : decode cX11_pay 2 = .ok (.invokevirtual 171, 3) := by decide +kernel
theorem dX11_pay_5 : decode cX11_pay 5 = .ok (.istore_n 2, 1) := by decide +kernel
theorem dX11_pay_6 : decode cX11_pay 6 = .ok (.iload_n 2, 1) := by decide +kernel
theorem dX11_pay_7 : decode cX11_pay 7 = .ok (.ifCond .eq 7, 3) := by decide +kernel
theorem dX11_pay_10 : decode cX11_pay 10 = .ok (.iload_n 2, 1) := by decide +kernel
theorem dX11_pay_11 : decode cX11_pay 11 = .ok (.goto 18, 3) := by decide +kernel
theorem dX11_pay_14 : decode cX11_pay 14 = .ok (.aload_n 0, 1) := by decide +kernel
theorem dX11_pay_15 : decode cX11_pay 15 = .ok (.getfield 34, 3) := by decide +kernel
theorem dX11_pay_18 : decode cX11_pay 18 = .ok (.iload_n 1, 1) := by decide +kernel
theorem dX11_pay_19 : decode cX11_pay 19 = .ok (.iaload, 1) := by decide +kernel
theorem dX11_pay_20 : decode cX11_pay 20 = .ok (.aload_n 0, 1) := by decide +kernel
theorem dX11_pay_21 : decode cX11_pay 21 = .ok (.getfield 37, 3) := by decide +kernel
theorem dX11_pay_24 : decode cX11_pay 24 = .ok (.iload_n 1, 1) := by decide +kernel
theorem dX11_pay_25 : decode cX11_pay 25 = .ok (.iaload, 1) := by decide +kernel
theorem dX11_pay_26 : decode cX11_pay 26 = .ok (.invokestatic 246, 3) := by decide +kernel
theorem dX11_pay_29 : decode cX11_pay 29 = .ok (.ireturn, 1) := by decide +kernel
theorem dX11_toss_0 : decode cX11_toss 0 = .ok (.aload_n 0, 1) := by decide +kernel
theorem dX11_toss_1 : decode cX11_toss 1 = .ok (.iload_n 1, 1) := by decide +kernel
theorem dX11_toss_2 : decode cX11_toss 2 = .ok (.invokevirtual 171, 3) := by decide +kernel
theorem dX11_toss_5 : decode cX11_toss 5 = .ok (.istore_n 2, 1) := by decide +kernel
theorem dX11_toss_6 : decode cX11_toss 6 = .ok (.iload_n 2, 1) := by decide +kernel
theorem dX11_toss_7 : decode cX11_toss 7 = .ok (.ifCond .eq 5, 3) := by decide +kernel
theorem dX11_toss_10 : decode cX11_toss 10 = .ok (.iload_n 2, 1) := by decide +kernel
theorem dX11_toss_11 : decode cX11_toss 11 = .ok (.ireturn, 1) := by decide +kernel
theorem dX11_toss_12 : decode cX11_toss 12 = .ok (.aload_n 0, 1) := by decide +kernel
theorem dX11_toss_13 : decode cX11_toss 13 = .ok (.getfield 34, 3) := by decide +kernel
theorem dX11_toss_16 : decode cX11_toss 16 = .ok (.iload_n 1, 1) := by decide +kernel
theorem dX11_toss_17 : decode cX11_toss 17 = .ok (.iaload, 1) := by decide +kernel
theorem dX11_toss_18 : decode cX11_toss 18 = .ok (.istore_n 3, 1) := by decide +kernel
theorem dX11_toss_19 : decode cX11_toss 19 = .ok (.aload_n 0, 1) := by decide +kernel
theorem dX11_toss_20 : decode cX11_toss 20 = .ok (.getfield 37, 3) := by decide +kernel
theorem dX11_toss_23 : decode cX11_toss 23 = .ok (.iload_n 1, 1) := by decide +kernel
theorem dX11_toss_24 : decode cX11_toss 24 = .ok (.iaload, 1) := by decide +kernel
theorem dX11_toss_25 : decode cX11_toss 25 = .ok (.istore 4, 2) := by decide +kernel
theorem dX11_toss_27 : decode cX11_toss 27 = .ok (.iload_n 3, 1) := by decide +kernel
theorem dX11_toss_28 : decode cX11_toss 28 = .ok (.bipush 6, 2) := by decide +kernel
theorem dX11_toss_30 : decode cX11_toss 30 = .ok (.if_icmp .eq 8, 3) := by decide +kernel
theorem dX11_toss_33 : decode cX11_toss 33 = .ok (.iload 4, 2) := by decide +kernel
theorem dX11_toss_35 : decode cX11_toss 35 = .ok (.ifCond .ne 8, 3) := by decide +kernel
theorem dX11_toss_38 : decode cX11_toss 38 = .ok (.bipush (-15), 2) := by decide +kernel
theorem dX11_toss_40 : decode cX11_toss 40 = .ok (.goto 37, 3) := by decide +kernel
theorem dX11_toss_43 : decode cX11_toss 43 = .ok (.iload_n 3, 1) := by decide +kernel
theorem dX11_toss_44 : decode cX11_toss 44 = .ok (.iconst 5, 1) := by decide +kernel
theorem dX11_toss_45 : decode cX11_toss 45 = .ok (.if_icmp .ne 11, 3) := by decide +kernel
theorem dX11_toss_48 : decode cX11_toss 48 = .ok (.bipush 100, 2) := by decide +kernel
theorem dX11_toss_50 : decode cX11_toss 50 = .ok (.iload 4, 2) := by decide +kernel
theorem dX11_toss_52 : decode cX11_toss 52 = .ok (.iadd, 1) := by decide +kernel
theorem dX11_toss_53 : decode cX11_toss 53 = .ok (.goto 24, 3) := by decide +kernel
theorem dX11_toss_56 : decode cX11_toss 56 = .ok (.iload_n 3, 1) := by decide +kernel
theorem dX11_toss_57 : decode cX11_toss 57 = .ok (.bipush 7, 2) := by decide +kernel
theorem dX11_toss_59 : decode cX11_toss 59 = .ok (.if_icmp .ne 16, 3) := by decide +kernel
theorem dX11_toss_62 : decode cX11_toss 62 = .ok (.sipush 200, 3) := by decide +kernel
theorem dX11_toss_65 : decode cX11_toss 65 = .ok (.iload_n 3, 1) := by decide +kernel
theorem dX11_toss_66 : decode cX11_toss 66 = .ok (.iload 4, 2) := by decide +kernel
theorem dX11_toss_68 : decode cX11_toss 68 = .ok (.invokestatic 246, 3) := by decide +kernel
theorem dX11_toss_71 : decode cX11_toss 71 = .ok (.iadd, 1) := by decide +kernel
theorem dX11_toss_72 : decode cX11_toss 72 = .ok (.goto 5, 3) := by decide +kernel
theorem dX11_toss_75 : decode cX11_toss 75 = .ok (.iload 4, 2) := by decide +kernel
theorem dX11_toss_77 : decode cX11_toss 77 = .ok (.ireturn, 1) := by decide +kernel
theorem dJ6_bitCount_0f7a4_0 : decode cJ6_bitCount_0f7a4 0 = .ok (.iload_n 0, 1) := by decide +kernel
theorem dJ6_bitCount_0f7a4_1 : decode cJ6_bitCount_0f7a4 1 = .ok (.iload_n 0, 1) := by decide +kernel
theorem dJ6_bitCount_0f7a4_2 : decode cJ6_bitCount_0f7a4 2 = .ok (.iconst 1, 1) := by decide +kernel
theorem dJ6_bitCount_0f7a4_3 : decode cJ6_bitCount_0f7a4 3 = .ok (.iushr, 1) := by decide +kernel
theorem dJ6_bitCount_0f7a4_4 : decode cJ6_bitCount_0f7a4 4 = .ok (.ldc_w 265, 3) := by decide +kernel
theorem dJ6_bitCount_0f7a4_7 : decode cJ6_bitCount_0f7a4 7 = .ok (.iand, 1) := by decide +kernel
theorem dJ6_bitCount_0f7a4_8 : decode cJ6_bitCount_0f7a4 8 = .ok (.isub, 1) := by decide +kernel
theorem dJ6_bitCount_0f7a4_9 : decode cJ6_bitCount_0f7a4 9 = .ok (.istore_n 0, 1) := by decide +kernel
theorem dJ6_bitCount_0f7a4_10 : decode cJ6_bitCount_0f7a4 10 = .ok (.iload_n 0, 1) := by decide +kernel
theorem dJ6_bitCount_0f7a4_11 : decode cJ6_bitCount_0f7a4 11 = .ok (.ldc_w 266, 3) := by decide +kernel
theorem dJ6_bitCount_0f7a4_14 : decode cJ6_bitCount_0f7a4 14 = .ok (.iand, 1) := by decide +kernel
theorem dJ6_bitCount_0f7a4_15 : decode cJ6_bitCount_0f7a4 15 = .ok (.iload_n 0, 1) := by decide +kernel
theorem dJ6_bitCount_0f7a4_16 : decode cJ6_bitCount_0f7a4 16 = .ok (.iconst 2, 1) := by decide +kernel
theorem dJ6_bitCount_0f7a4_17 : decode cJ6_bitCount_0f7a4 17 = .ok (.iushr, 1) := by decide +kernel
theorem dJ6_bitCount_0f7a4_18 : decode cJ6_bitCount_0f7a4 18 = .ok (.ldc_w 266, 3) := by decide +kernel
theorem dJ6_bitCount_0f7a4_21 : decode cJ6_bitCount_0f7a4 21 = .ok (.iand, 1) := by decide +kernel
theorem dJ6_bitCount_0f7a4_22 : decode cJ6_bitCount_0f7a4 22 = .ok (.iadd, 1) := by decide +kernel
theorem dJ6_bitCount_0f7a4_23 : decode cJ6_bitCount_0f7a4 23 = .ok (.istore_n 0, 1) := by decide +kernel
theorem dJ6_bitCount_0f7a4_24 : decode cJ6_bitCount_0f7a4 24 = .ok (.iload_n 0, 1) := by decide +kernel
theorem dJ6_bitCount_0f7a4_25 : decode cJ6_bitCount_0f7a4 25 = .ok (.iload_n 0, 1) := by decide +kernel
theorem dJ6_bitCount_0f7a4_26 : decode cJ6_bitCount_0f7a4 26 = .ok (.iconst 4, 1) := by decide +kernel
theorem dJ6_bitCount_0f7a4_27 : decode cJ6_bitCount_0f7a4 27 = .ok (.iushr, 1) := by decide +kernel
theorem dJ6_bitCount_0f7a4_28 : decode cJ6_bitCount_0f7a4 28 = .ok (.iadd, 1) := by decide +kernel
theorem dJ6_bitCount_0f7a4_29 : decode cJ6_bitCount_0f7a4 29 = .ok (.ldc_w 267, 3) := by decide +kernel
theorem dJ6_bitCount_0f7a4_32 : decode cJ6_bitCount_0f7a4 32 = .ok (.iand, 1) := by decide +kernel
theorem dJ6_bitCount_0f7a4_33 : decode cJ6_bitCount_0f7a4 33 = .ok (.istore_n 0, 1) := by decide +kernel
theorem dJ6_bitCount_0f7a4_34 : decode cJ6_bitCount_0f7a4 34 = .ok (.iload_n 0, 1) := by decide +kernel
theorem dJ6_bitCount_0f7a4_35 : decode cJ6_bitCount_0f7a4 35 = .ok (.iload_n 0, 1) := by decide +kernel
theorem dJ6_bitCount_0f7a4_36 : decode cJ6_bitCount_0f7a4 36 = .ok (.bipush 8, 2) := by decide +kernel
theorem dJ6_bitCount_0f7a4_38 : decode cJ6_bitCount_0f7a4 38 = .ok (.iushr, 1) := by decide +kernel
theorem dJ6_bitCount_0f7a4_39 : decode cJ6_bitCount_0f7a4 39 = .ok (.iadd, 1) := by decide +kernel
theorem dJ6_bitCount_0f7a4_40 : decode cJ6_bitCount_0f7a4 40 = .ok (.istore_n 0, 1) := by decide +kernel
theorem dJ6_bitCount_0f7a4_41 : decode cJ6_bitCount_0f7a4 41 = .ok (.iload_n 0, 1) := by decide +kernel
theorem dJ6_bitCount_0f7a4_42 : decode cJ6_bitCount_0f7a4 42 = .ok (.iload_n 0, 1) := by decide +kernel
theorem dJ6_bitCount_0f7a4_43 : decode cJ6_bitCount_0f7a4 43 = .ok (.bipush 16, 2) := by decide +kernel
theorem dJ6_bitCount_0f7a4_45 : decode cJ6_bitCount_0f7a4 45 = .ok (.iushr, 1) := by decide +kernel
theorem dJ6_bitCount_0f7a4_46 : decode cJ6_bitCount_0f7a4 46 = .ok (.iadd, 1) := by decide +kernel
theorem dJ6_bitCount_0f7a4_47 : decode cJ6_bitCount_0f7a4 47 = .ok (.istore_n 0, 1) := by decide +kernel
theorem dJ6_bitCount_0f7a4_48 : decode cJ6_bitCount_0f7a4 48 = .ok (.iload_n 0, 1) := by decide +kernel
theorem dJ6_bitCount_0f7a4_49 : decode cJ6_bitCount_0f7a4 49 = .ok (.bipush 63, 2) := by decide +kernel
theorem dJ6_bitCount_0f7a4_51 : decode cJ6_bitCount_0f7a4 51 = .ok (.iand, 1) := by decide +kernel
theorem dJ6_bitCount_0f7a4_52 : decode cJ6_bitCount_0f7a4 52 = .ok (.ireturn, 1) := by decide +kernel
theorem dL_element_0 : decode cL_element 0 = .ok (.aload_n 3, 1) := by decide +kernel
theorem dL_element_1 : decode cL_element 1 = .ok (.iconst 0, 1) := by decide +kernel
theorem dL_element_2 : decode cL_element 2 = .ok (.aload_n 0, 1) := by decide +kernel
theorem dL_element_3 : decode cL_element 3 = .ok (.iload_n 1, 1) := by decide +kernel
theorem dL_element_4 : decode cL_element 4 = .ok (.iload_n 2, 1) := by decide +kernel
theorem dL_element_5 : decode cL_element 5 = .ok (.invokevirtual 7, 3) := by decide +kernel
theorem dL_element_8 : decode cL_element 8 = .ok (.lastore, 1) := by decide +kernel
theorem dL_element_9 : decode cL_element 9 = .ok (.goto 11, 3) := by decide +kernel
theorem dL_element_12 : decode cL_element 12 = .ok (.astore 4, 2) := by decide +kernel
theorem dL_element_14 : decode cL_element 14 = .ok (.iconst 1, 1) := by decide +kernel
theorem dL_element_15 : decode cL_element 15 = .ok (.ireturn, 1) := by decide +kernel
theorem dL_element_16 : decode cL_element 16 = .ok (.astore 4, 2) := by decide +kernel
theorem dL_element_18 : decode cL_element 18 = .ok (.iconst 2, 1) := by decide +kernel
theorem dL_element_19 : decode cL_element 19 = .ok (.ireturn, 1) := by decide +kernel
theorem dL_element_20 : decode cL_element 20 = .ok (.iconst 0, 1) := by decide +kernel
theorem dL_element_21 : decode cL_element 21 = .ok (.ireturn, 1) := by decide +kernel
