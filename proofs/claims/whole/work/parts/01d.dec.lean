theorem dX7_dab_107 : decode cX7_dab 107 = .ok (.aload_n 0, 1) := by decide +kernel
theorem dX7_dab_108 : decode cX7_dab 108 = .ok (.getfield 7, 3) := by decide +kernel
theorem dX7_dab_111 : decode cX7_dab 111 = .ok (.bipush 34, 2) := by decide +kernel
theorem dX7_dab_113 : decode cX7_dab 113 = .ok (.dup2, 1) := by decide +kernel
theorem dX7_dab_114 : decode cX7_dab 114 = .ok (.iaload, 1) := by decide +kernel
theorem dX7_dab_115 : decode cX7_dab 115 = .ok (.iconst 1, 1) := by decide +kernel
theorem dX7_dab_116 : decode cX7_dab 116 = .ok (.iadd, 1) := by decide +kernel
theorem dX7_dab_117 : decode cX7_dab 117 = .ok (.iastore, 1) := by decide +kernel
theorem dX7_dab_118 : decode cX7_dab 118 = .ok (.aload_n 0, 1) := by decide +kernel
theorem dX7_dab_119 : decode cX7_dab 119 = .ok (.getfield 7, 3) := by decide +kernel
theorem dX7_dab_122 : decode cX7_dab 122 = .ok (.bipush 34, 2) := by decide +kernel
theorem dX7_dab_124 : decode cX7_dab 124 = .ok (.iaload, 1) := by decide +kernel
theorem dX7_dab_125 : decode cX7_dab 125 = .ok (.ireturn, 1) := by decide +kernel
theorem dX7_lift_0 : decode cX7_lift 0 = .ok (.aload_n 0, 1) := by decide +kernel
theorem dX7_lift_1 : decode cX7_lift 1 = .ok (.iload_n 1, 1) := by decide +kernel
theorem dX7_lift_2 : decode cX7_lift 2 = .ok (.invokevirtual 207, 3) := by decide +kernel
theorem dX7_lift_5 : decode cX7_lift 5 = .ok (.ifCond .eq 10, 3) := by decide +kernel
theorem dX7_lift_8 : decode cX7_lift 8 = .ok (.iload_n 2, 1) := by decide +kernel
theorem dX7_lift_9 : decode cX7_lift 9 = .ok (.invokestatic 221, 3) := by decide +kernel
theorem dX7_lift_12 : decode cX7_lift 12 = .ok (.ifCond .ne 5, 3) := by decide +kernel
theorem dX7_lift_15 : decode cX7_lift 15 = .ok (.iconst (-1), 1) := by decide +kernel
theorem dX7_lift_16 : decode cX7_lift 16 = .ok (.ireturn, 1) := by decide +kernel
theorem dX7_lift_17 : decode cX7_lift 17 = .ok (.iconst 4, 1) := by decide +kernel
theorem dX7_lift_18 : decode cX7_lift 18 = .ok (.iconst 5, 1) := by decide +kernel
theorem dX7_lift_19 : decode cX7_lift 19 = .ok (.iload_n 1, 1) := by decide +kernel
theorem dX7_lift_20 : decode cX7_lift 20 = .ok (.imul, 1) := by decide +kernel
theorem dX7_lift_21 : decode cX7_lift 21 = .ok (.iadd, 1) := by decide +kernel
theorem dX7_lift_22 : decode cX7_lift 22 = .ok (.istore_n 3, 1) := by decide +kernel
theorem dX7_lift_23 : decode cX7_lift 23 = .ok (.aload_n 0, 1) := by decide +kernel
theorem dX7_lift_24 : decode cX7_lift 24 = .ok (.getfield 7, 3) := by decide +kernel
theorem dX7_lift_27 : decode cX7_lift 27 = .ok (.iload_n 3, 1) := by decide +kernel
theorem dX7_lift_28 : decode cX7_lift 28 = .ok (.iconst 4, 1) := by decide +kernel
theorem dX7_lift_29 : decode cX7_lift 29 = .ok (.iadd, 1) := by decide +kernel
theorem dX7_lift_30 : decode cX7_lift 30 = .ok (.iaload, 1) := by decide +kernel
theorem dX7_lift_31 : decode cX7_lift 31 = .ok (.bipush (-4), 2) := by decide +kernel
theorem dX7_lift_33 : decode cX7_lift 33 = .ok (.if_icmp .ne 6, 3) := by decide +kernel
theorem dX7_lift_36 : decode cX7_lift 36 = .ok (.bipush (-2), 2) := by decide +kernel
theorem dX7_lift_38 : decode cX7_lift 38 = .ok (.ireturn, 1) := by decide +kernel
theorem dX7_lift_39 : decode cX7_lift 39 = .ok (.aload_n 0, 1) := by decide +kernel
theorem dX7_lift_40 : decode cX7_lift 40 = .ok (.getfield 7, 3) := by decide +kernel
theorem dX7_lift_43 : decode cX7_lift 43 = .ok (.iload_n 3, 1) := by decide +kernel
theorem dX7_lift_44 : decode cX7_lift 44 = .ok (.iconst 3, 1) := by decide +kernel
theorem dX7_lift_45 : decode cX7_lift 45 = .ok (.iadd, 1) := by decide +kernel
theorem dX7_lift_46 : decode cX7_lift 46 = .ok (.iload_n 2, 1) := by decide +kernel
theorem dX7_lift_47 : decode cX7_lift 47 = .ok (.iastore, 1) := by decide +kernel
theorem dX7_lift_48 : decode cX7_lift 48 = .ok (.aload_n 0, 1) := by decide +kernel
theorem dX7_lift_49 : decode cX7_lift 49 = .ok (.iload_n 3, 1) := by decide +kernel
theorem dX7_lift_50 : decode cX7_lift 50 = .ok (.iconst 4, 1) := by decide +kernel
theorem dX7_lift_51 : decode cX7_lift 51 = .ok (.iadd, 1) := by decide +kernel
theorem dX7_lift_52 : decode cX7_lift 52 = .ok (.bipush (-4), 2) := by decide +kernel
theorem dX7_lift_54 : decode cX7_lift 54 = .ok (.invokevirtual 218, 3) := by decide +kernel
theorem dX7_lift_57 : decode cX7_lift 57 = .ok (.ireturn, 1) := by decide +kernel
theorem dX7_days_0 : decode cX7_days 0 = .ok (.iload_n 1, 1) := by decide +kernel
theorem dX7_days_1 : decode cX7_days 1 = .ok (.i2l, 1) := by decide +kernel
theorem dX7_days_2 : decode cX7_days 2 = .ok (.lconst 0, 1) := by decide +kernel
theorem dX7_days_3 : decode cX7_days 3 = .ok (.ldc2_w 224, 3) := by decide +kernel
theorem dX7_days_6 : decode cX7_days 6 = .ok (.invokestatic 65, 3) := by decide +kernel
theorem dX7_days_9 : decode cX7_days 9 = .ok (.ifCond .ne 5, 3) := by decide +kernel
theorem dX7_days_12 : decode cX7_days 12 = .ok (.iconst (-1), 1) := by decide +kernel
theorem dX7_days_13 : decode cX7_days 13 = .ok (.ireturn, 1) := by decide +kernel
theorem dX7_days_14 : decode cX7_days 14 = .ok (.aload_n 0, 1) := by decide +kernel
theorem dX7_days_15 : decode cX7_days 15 = .ok (.getfield 7, 3) := by decide +kernel
theorem dX7_days_18 : decode cX7_days 18 = .ok (.bipush 41, 2) := by decide +kernel
theorem dX7_days_20 : decode cX7_days 20 = .ok (.iaload, 1) := by decide +kernel
theorem dX7_days_21 : decode cX7_days 21 = .ok (.iload_n 1, 1) := by decide +kernel
theorem dX7_days_22 : decode cX7_days 22 = .ok (.iadd, 1) := by decide +kernel
theorem dX7_days_23 : decode cX7_days 23 = .ok (.sipush 999, 3) := by decide +kernel
theorem dX7_days_26 : decode cX7_days 26 = .ok (.if_icmp .le 6, 3) := by decide +kernel
theorem dX7_days_29 : decode cX7_days 29 = .ok (.bipush (-3), 2) := by decide +kernel
theorem dX7_days_31 : decode cX7_days 31 = .ok (.ireturn, 1) := by decide +kernel
theorem dX7_days_32 : decode cX7_days 32 = .ok (.aload_n 0, 1) := by decide +kernel
theorem dX7_days_33 : decode cX7_days 33 = .ok (.invokevirtual 191, 3) := by decide +kernel
theorem dX7_days_36 : decode cX7_days 36 = .ok (.aload_n 0, 1) := by decide +kernel
theorem dX7_days_37 : decode cX7_days 37 = .ok (.iload_n 1, 1) := by decide +kernel
theorem dX7_days_38 : decode cX7_days 38 = .ok (.invokevirtual 226, 3) := by decide +kernel
theorem dX7_days_41 : decode cX7_days 41 = .ok (.aload_n 0, 1) := by decide +kernel
theorem dX7_days_42 : decode cX7_days 42 = .ok (.invokevirtual 229, 3) := by decide +kernel
theorem dX7_days_45 : decode cX7_days 45 = .ok (.aload_n 0, 1) := by decide +kernel
theorem dX7_days_46 : decode cX7_days 46 = .ok (.getfield 171, 3) := by decide +kernel
theorem dX7_days_49 : decode cX7_days 49 = .ok (.ireturn, 1) := by decide +kernel
theorem dX7_isFar_0 : decode cX7_isFar 0 = .ok (.iload_n 0, 1) := by decide +kernel
theorem dX7_isFar_1 : decode cX7_isFar 1 = .ok (.i2l, 1) := by decide +kernel
theorem dX7_isFar_2 : decode cX7_isFar 2 = .ok (.lconst 0, 1) := by decide +kernel
theorem dX7_isFar_3 : decode cX7_isFar 3 = .ok (.ldc2_w 232, 3) := by decide +kernel
theorem dX7_isFar_6 : decode cX7_isFar 6 = .ok (.invokestatic 65, 3) := by decide +kernel
theorem dX7_isFar_9 : decode cX7_isFar 9 = .ok (.ireturn, 1) := by decide +kernel
theorem dX7_runs_0 : decode cX7_runs 0 = .ok (.iload_n 1, 1) := by decide +kernel
theorem dX7_runs_1 : decode cX7_runs 1 = .ok (.invokestatic 234, 3) := by decide +kernel
theorem dX7_runs_4 : decode cX7_runs 4 = .ok (.ifCond .eq 15, 3) := by decide +kernel
theorem dX7_runs_7 : decode cX7_runs 7 = .ok (.iload_n 2, 1) := by decide +kernel
theorem dX7_runs_8 : decode cX7_runs 8 = .ok (.i2l, 1) := by decide +kernel
theorem dX7_runs_9 : decode cX7_runs 9 = .ok (.lconst 0, 1) := by decide +kernel
theorem dX7_runs_10 : decode cX7_runs 10 = .ok (.ldc2_w 212, 3) := by decide +kernel
theorem dX7_runs_13 : decode cX7_runs 13 = .ok (.invokestatic 65, 3) := by decide +kernel
theorem dX7_runs_16 : decode cX7_runs 16 = .ok (.ifCond .ne 5, 3) := by decide +kernel
theorem dX7_runs_19 : decode cX7_runs 19 = .ok (.iconst (-1), 1) := by decide +kernel
theorem dX7_runs_20 : decode cX7_runs 20 = .ok (.ireturn, 1) := by decide +kernel
theorem dX7_runs_21 : decode cX7_runs 21 = .ok (.bipush (-4), 2) := by decide +kernel
theorem dX7_runs_23 : decode cX7_runs 23 = .ok (.istore_n 3, 1) := by decide +kernel
theorem dX7_runs_24 : decode cX7_runs 24 = .ok (.aload_n 0, 1) := by decide +kernel
theorem dX7_runs_25 : decode cX7_runs 25 = .ok (.invokevirtual 191, 3) := by decide +kernel
theorem dX7_runs_28 : decode cX7_runs 28 = .ok (.aload_n 0, 1) := by decide +kernel
theorem dX7_runs_29 : decode cX7_runs 29 = .ok (.iconst 0, 1) := by decide +kernel
theorem dX7_runs_30 : decode cX7_runs 30 = .ok (.putfield 162, 3) := by decide +kernel
theorem dX7_runs_33 : decode cX7_runs 33 = .ok (.iconst 0, 1) := by decide +kernel
theorem dX7_runs_34 : decode cX7_runs 34 = .ok (.istore 4, 2) := by decide +kernel
theorem dX7_runs_36 : decode cX7_runs 36 = .ok (.iload 4, 2) := by decide +kernel
theorem dX7_runs_38 : decode cX7_runs 38 = .ok (.iload_n 1, 1) := by decide +kernel
theorem dX7_runs_39 : decode cX7_runs 39 = .ok (.if_icmp .gt 50, 3) := by decide +kernel
theorem dX7_runs_42 : decode cX7_runs 42 = .ok (.iload_n 3, 1) := by decide +kernel
theorem dX7_runs_43 : decode cX7_runs 43 = .ok (.bipush (-4), 2) := by decide +kernel
theorem dX7_runs_45 : decode cX7_runs 45 = .ok (.if_icmp .ne 22, 3) := by decide +kernel
theorem dX7_runs_48 : decode cX7_runs 48 = .ok (.aload_n 0, 1) := by decide +kernel
theorem dX7_runs_49 : decode cX7_runs 49 = .ok (.invokevirtual 194, 3) := by decide +kernel
theorem dX7_runs_52 : decode cX7_runs 52 = .ok (.aload_n 0, 1) := by decide +kernel
theorem dX7_runs_53 : decode cX7_runs 53 = .ok (.getfield 13, 3) := by decide +kernel
theorem dX7_runs_56 : decode cX7_runs 56 = .ok (.bipush 34, 2) := by decide +kernel
theorem dX7_runs_58 : decode cX7_runs 58 = .ok (.iaload, 1) := by decide +kernel
theorem dX7_runs_59 : decode cX7_runs 59 = .ok (.if_icmp .ne 8, 3) := by decide +kernel
theorem dX7_runs_62 : decode cX7_runs 62 = .ok (.iload 4, 2) := by decide +kernel
theorem dX7_runs_64 : decode cX7_runs 64 = .ok (.goto 4, 3) := by decide +kernel
theorem dX7_runs_67 : decode cX7_runs 67 = .ok (.iload_n 3, 1) := by decide +kernel
theorem dX7_runs_68 : decode cX7_runs 68 = .ok (.istore_n 3, 1) := by decide +kernel
theorem dX7_runs_69 : decode cX7_runs 69 = .ok (.iload 4, 2) := by decide +kernel
theorem dX7_runs_71 : decode cX7_runs 71 = .ok (.iload_n 1, 1) := by decide +kernel
theorem dX7_runs_72 : decode cX7_runs 72 = .ok (.if_icmp .ge 11, 3) := by decide +kernel
theorem dX7_runs_75 : decode cX7_runs 75 = .ok (.aload_n 0, 1) := by decide +kernel
theorem dX7_runs_76 : decode cX7_runs 76 = .ok (.aload_n 0, 1) := by decide +kernel
theorem dX7_runs_77 : decode cX7_runs 77 = .ok (.invokevirtual 181, 3) := by decide +kernel
theorem dX7_runs_80 : decode cX7_runs 80 = .ok (.invokevirtual 184, 3) := by decide +kernel
theorem dX7_runs_83 : decode cX7_runs 83 = .ok (.iinc 4 1, 3) := by decide +kernel
theorem dX7_runs_86 : decode cX7_runs 86 = .ok (.goto (-50), 3) := by decide +kernel
theorem dX7_runs_89 : decode cX7_runs 89 = .ok (.iload_n 2, 1) := by decide +kernel
theorem dX7_runs_90 : decode cX7_runs 90 = .ok (.ifCond .ne 10, 3) := by decide +kernel
theorem dX7_runs_93 : decode cX7_runs 93 = .ok (.aload_n 0, 1) := by decide +kernel
theorem dX7_runs_94 : decode cX7_runs 94 = .ok (.invokevirtual 194, 3) := by decide +kernel
theorem dX7_runs_97 : decode cX7_runs 97 = .ok (.goto 28, 3) := by decide +kernel
theorem dX7_runs_100 : decode cX7_runs 100 = .ok (.iload_n 2, 1) := by decide +kernel
theorem dX7_runs_101 : decode cX7_runs 101 = .ok (.iconst 1, 1) := by decide +kernel
theorem dX7_runs_102 : decode cX7_runs 102 = .ok (.if_icmp .ne 10, 3) := by decide +kernel
theorem dX7_runs_105 : decode cX7_runs 105 = .ok (.aload_n 0, 1) := by decide +kernel
theorem dX7_runs_106 : decode cX7_runs 106 = .ok (.invokevirtual 197, 3) := by decide +kernel
theorem dX7_runs_109 : decode cX7_runs 109 = .ok (.goto 16, 3) := by decide +kernel
theorem dX7_runs_112 : decode cX7_runs 112 = .ok (.iload_n 2, 1) := by decide +kernel
theorem dX7_runs_113 : decode cX7_runs 113 = .ok (.iconst 2, 1) := by decide +kernel
theorem dX7_runs_114 : decode cX7_runs 114 = .ok (.if_icmp .ne 10, 3) := by decide +kernel
theorem dX7_runs_117 : decode cX7_runs 117 = .ok (.aload_n 0, 1) := by decide +kernel
theorem dX7_runs_118 : decode cX7_runs 118 = .ok (.getfield 162, 3) := by decide +kernel
theorem dX7_runs_121 : decode cX7_runs 121 = .ok (.goto 4, 3) := by decide +kernel
theorem dX7_runs_124 : decode cX7_runs 124 = .ok (.iload_n 3, 1) := by decide +kernel
theorem dX7_runs_125 : decode cX7_runs 125 = .ok (.ireturn, 1) := by decide +kernel
theorem dX7_ahead_0 : decode cX7_ahead 0 = .ok (.aload_n 0, 1) := by decide +kernel
theorem dX7_ahead_1 : decode cX7_ahead 1 = .ok (.iload_n 1, 1) := by decide +kernel
theorem dX7_ahead_2 : decode cX7_ahead 2 = .ok (.invokevirtual 203, 3) := by decide +kernel
theorem dX7_ahead_5 : decode cX7_ahead 5 = .ok (.ifCond .eq 10, 3) := by decide +kernel
theorem dX7_ahead_8 : decode cX7_ahead 8 = .ok (.iload_n 2, 1) := by decide +kernel
theorem dX7_ahead_9 : decode cX7_ahead 9 = .ok (.invokestatic 234, 3) := by decide +kernel
theorem dX7_ahead_12 : decode cX7_ahead 12 = .ok (.ifCond .ne 5, 3) := by decide +kernel
theorem dX7_ahead_15 : decode cX7_ahead 15 = .ok (.iconst (-1), 1) := by decide +kernel
theorem dX7_ahead_16 : decode cX7_ahead 16 = .ok (.ireturn, 1) := by decide +kernel
theorem dX7_ahead_17 : decode cX7_ahead 17 = .ok (.aload_n 0, 1) := by decide +kernel
theorem dX7_ahead_18 : decode cX7_ahead 18 = .ok (.invokevirtual 191, 3) := by decide +kernel
theorem dX7_ahead_21 : decode cX7_ahead 21 = .ok (.aload_n 0, 1) := by decide +kernel
theorem dX7_ahead_22 : decode cX7_ahead 22 = .ok (.iload_n 2, 1) := by decide +kernel
theorem dX7_ahead_23 : decode cX7_ahead 23 = .ok (.invokevirtual 226, 3) := by decide +kernel
theorem dX7_ahead_26 : decode cX7_ahead 26 = .ok (.aload_n 0, 1) := by decide +kernel
theorem dX7_ahead_27 : decode cX7_ahead 27 = .ok (.iload_n 1, 1) := by decide +kernel
theorem dX7_ahead_28 : decode cX7_ahead 28 = .ok (.invokevirtual 149, 3) := by decide +kernel
theorem dX7_ahead_31 : decode cX7_ahead 31 = .ok (.ireturn, 1) := by decide +kernel
theorem dX7_where_0 : decode cX7_where 0 = .ok (.aload_n 0, 1) := by decide +kernel
theorem dX7_where_1 : decode cX7_where 1 = .ok (.iload_n 1, 1) := by decide +kernel
theorem dX7_where_2 : decode cX7_where 2 = .ok (.invokevirtual 207, 3) := by decide +kernel
theorem dX7_where_5 : decode cX7_where 5 = .ok (.ifCond .eq 10, 3) := by decide +kernel
theorem dX7_where_8 : decode cX7_where 8 = .ok (.iload_n 2, 1) := by decide +kernel
theorem dX7_where_9 : decode cX7_where 9 = .ok (.invokestatic 234, 3) := by decide +kernel
theorem dX7_where_12 : decode cX7_where 12 = .ok (.ifCond .ne 5, 3) := by decide +kernel
theorem dX7_where_15 : decode cX7_where 15 = .ok (.iconst (-1), 1) := by decide +kernel
theorem dX7_where_16 : decode cX7_where 16 = .ok (.ireturn, 1) := by decide +kernel
theorem dX7_where_17 : decode cX7_where 17 = .ok (.aload_n 0, 1) := by decide +kernel
theorem dX7_where_18 : decode cX7_where 18 = .ok (.invokevirtual 191, 3) := by decide +kernel
theorem dX7_where_21 : decode cX7_where 21 = .ok (.aload_n 0, 1) := by decide +kernel
theorem dX7_where_22 : decode cX7_where 22 = .ok (.iload_n 2, 1) := by decide +kernel
theorem dX7_where_23 : decode cX7_where 23 = .ok (.invokevirtual 226, 3) := by decide +kernel
theorem dX7_where_26 : decode cX7_where 26 = .ok (.aload_n 0, 1) := by decide +kernel
theorem dX7_where_27 : decode cX7_where 27 = .ok (.iload_n 1, 1) := by decide +kernel
theorem dX7_where_28 : decode cX7_where 28 = .ok (.iconst 4, 1) := by decide +kernel
theorem dX7_where_29 : decode cX7_where 29 = .ok (.invokevirtual 143, 3) := by decide +kernel
theorem dX7_where_32 : decode cX7_where 32 = .ok (.bipush (-4), 2) := by decide +kernel
theorem dX7_where_34 : decode cX7_where 34 = .ok (.if_icmp .eq 12, 3) := by decide +kernel
theorem dX7_where_37 : decode cX7_where 37 = .ok (.aload_n 0, 1) := by decide +kernel
theorem dX7_where_38 : decode cX7_where 38 = .ok (.iload_n 1, 1) := by decide +kernel
theorem dX7_where_39 : decode cX7_where 39 = .ok (.iconst 4, 1) := by decide +kernel
theorem dX7_where_40 : decode cX7_where 40 = .ok (.invokevirtual 143, 3) := by decide +kernel
theorem dX7_where_43 : decode cX7_where 43 = .ok (.goto 12, 3) := by decide +kernel
theorem dX7_where_46 : decode cX7_where 46 = .ok (.bipush (-10), 2) := by decide +kernel
theorem dX7_where_48 : decode cX7_where 48 = .ok (.aload_n 0, 1) := by decide +kernel
theorem dX7_where_49 : decode cX7_where 49 = .ok (.iload_n 1, 1) := by decide +kernel
theorem dX7_where_50 : decode cX7_where 50 = .ok (.iconst 3, 1) := by decide +kernel
theorem dX7_where_51 : decode cX7_where 51 = .ok (.invokevirtual 143, 3) := by decide +kernel
theorem dX7_where_54 : decode cX7_where 54 = .ok (.isub, 1) := by decide +kernel
theorem dX7_where_55 : decode cX7_where 55 = .ok (.ireturn, 1) := by decide +kernel
theorem dX7_daysTo_0 : decode cX7_daysTo 0 = .ok (.iconst 0, 1) := by decide +kernel
theorem dX7_daysTo_1 : decode cX7_daysTo 1 = .ok (.istore_n 2, 1) := by decide +kernel
theorem dX7_daysTo_2 : decode cX7_daysTo 2 = .ok (.iload_n 2, 1) := by decide +kernel
theorem dX7_daysTo_3 : decode cX7_daysTo 3 = .ok (.bipush 60, 2) := by decide +kernel
theorem dX7_daysTo_5 : decode cX7_daysTo 5 = .ok (.if_icmp .gt 30, 3) := by decide +kernel
theorem dX7_daysTo_8 : decode cX7_daysTo 8 = .ok (.aload_n 0, 1) := by decide +kernel
theorem dX7_daysTo_9 : decode cX7_daysTo 9 = .ok (.iload_n 1, 1) := by decide +kernel
theorem dX7_daysTo_10 : decode cX7_daysTo 10 = .ok (.iconst 4, 1) := by decide +kernel
theorem dX7_daysTo_11 : decode cX7_daysTo 11 = .ok (.invokevirtual 143, 3) := by decide +kernel
theorem dX7_daysTo_14 : decode cX7_daysTo 14 = .ok (.bipush (-4), 2) := by decide +kernel
theorem dX7_daysTo_16 : decode cX7_daysTo 16 = .ok (.if_icmp .eq 5, 3) := by decide +kernel
theorem dX7_daysTo_19 : decode cX7_daysTo 19 = .ok (.iload_n 2, 1) := by decide +kernel
theorem dX7_daysTo_20 : decode cX7_daysTo 20 = .ok (.ireturn, 1) := by decide +kernel
theorem dX7_daysTo_21 : decode cX7_daysTo 21 = .ok (.aload_n 0, 1) := by decide +kernel
theorem dX7_daysTo_22 : decode cX7_daysTo 22 = .ok (.aload_n 0, 1) := by decide +kernel
theorem dX7_daysTo_23 : decode cX7_daysTo 23 = .ok (.invokevirtual 181, 3) := by decide +kernel
theorem dX7_daysTo_26 : decode cX7_daysTo 26 = .ok (.invokevirtual 184, 3) := by decide +kernel
theorem dX7_daysTo_29 : decode cX7_daysTo 29 = .ok (.iinc 2 1, 3) := by decide +kernel
theorem dX7_daysTo_32 : decode cX7_daysTo 32 = .ok (.goto (-30), 3) := by decide +kernel
theorem dX7_daysTo_35 : decode cX7_daysTo 35 = .ok (.bipush (-4), 2) := by decide +kernel
theorem dX7_daysTo_37 : decode cX7_daysTo 37 = .ok (.ireturn, 1) := by decide +kernel
theorem dX7_home_0 : decode cX7_home 0 = .ok (.aload_n 0, 1) := by decide +kernel
theorem dX7_home_1 : decode cX7_home 1 = .ok (.iload_n 1, 1) := by decide +kernel
theorem dX7_home_2 : decode cX7_home 2 = .ok (.invokevirtual 207, 3) := by decide +kernel
theorem dX7_home_5 : decode cX7_home 5 = .ok (.ifCond .ne 5, 3) := by decide +kernel
theorem dX7_home_8 : decode cX7_home 8 = .ok (.iconst (-1), 1) := by decide +kernel
theorem dX7_home_9 : decode cX7_home 9 = .ok (.ireturn, 1) := by decide +kernel
theorem dX7_home_10 : decode cX7_home 10 = .ok (.aload_n 0, 1) := by decide +kernel
theorem dX7_home_11 : decode cX7_home 11 = .ok (.invokevirtual 191, 3) := by decide +kernel
theorem dX7_home_14 : decode cX7_home 14 = .ok (.aload_n 0, 1) := by decide +kernel
theorem dX7_home_15 : decode cX7_home 15 = .ok (.iload_n 1, 1) := by decide +kernel
theorem dX7_home_16 : decode cX7_home 16 = .ok (.invokevirtual 237, 3) := by decide +kernel
theorem dX7_home_19 : decode cX7_home 19 = .ok (.ireturn, 1) := by decide +kernel
theorem dX7_shed_0 : decode cX7_shed 0 = .ok (.aload_n 0, 1) := by decide +kernel
theorem dX7_shed_1 : decode cX7_shed 1 = .ok (.iload_n 1, 1) := by decide +kernel
theorem dX7_shed_2 : decode cX7_shed 2 = .ok (.invokevirtual 203, 3) := by decide +kernel
theorem dX7_shed_5 : decode cX7_shed 5 = .ok (.ifCond .eq 17, 3) := by decide +kernel
theorem dX7_shed_8 : decode cX7_shed 8 = .ok (.iload_n 2, 1) := by decide +kernel
theorem dX7_shed_9 : decode cX7_shed 9 = .ok (.invokestatic 234, 3) := by decide +kernel
theorem dX7_shed_12 : decode cX7_shed 12 = .ok (.ifCond .eq 10, 3) := by decide +kernel
theorem dX7_shed_15 : decode cX7_shed 15 = .ok (.iload_n 3, 1) := by decide +kernel
theorem dX7_shed_16 : decode cX7_shed 16 = .ok (.invokestatic 240, 3) := by decide +kernel
theorem dX7_shed_19 : decode cX7_shed 19 = .ok (.ifCond .ne 5, 3) := by decide +kernel
theorem dX7_shed_22 : decode cX7_shed 22 = .ok (.iconst (-1), 1) := by decide +kernel
theorem dX7_shed_23 : decode cX7_shed 23 = .ok (.ireturn, 1) := by decide +kernel
theorem dX7_shed_24 : decode cX7_shed 24 = .ok (.ldc 243, 2) := by decide +kernel
theorem dX7_shed_26 : decode cX7_shed 26 = .ok (.istore 4, 2) := by decide +kernel
theorem dX7_shed_28 : decode cX7_shed 28 = .ok (.iconst 0, 1) := by decide +kernel
theorem dX7_shed_29 : decode cX7_shed 29 = .ok (.istore 5, 2) := by decide +kernel
theorem dX7_shed_31 : decode cX7_shed 31 = .ok (.iconst 0, 1) := by decide +kernel
theorem dX7_shed_32 : decode cX7_shed 32 = .ok (.istore 6, 2) := by decide +kernel
theorem dX7_shed_34 : decode cX7_shed 34 = .ok (.iload 6, 2) := by decide +kernel
theorem dX7_shed_36 : decode cX7_shed 36 = .ok (.bipush 10, 2) := by decide +kernel
theorem dX7_shed_38 : decode cX7_shed 38 = .ok (.if_icmp .ge 58, 3) := by decide +kernel
theorem dX7_shed_41 : decode cX7_shed 41 = .ok (.aload_n 0, 1) := by decide +kernel
theorem dX7_shed_42 : decode cX7_shed 42 = .ok (.invokevirtual 191, 3) := by decide +kernel
theorem dX7_shed_45 : decode cX7_shed 45 = .ok (.aload_n 0, 1) := by decide +kernel
theorem dX7_shed_46 : decode cX7_shed 46 = .ok (.getfield 13, 3) := by decide +kernel
theorem dX7_shed_49 : decode cX7_shed 49 = .ok (.iload_n 1, 1) := by decide +kernel
theorem dX7_shed_50 : decode cX7_shed 50 = .ok (.iload 6, 2) := by decide +kernel
theorem dX7_shed_52 : decode cX7_shed 52 = .ok (.iastore, 1) := by decide +kernel
theorem dX7_shed_53 : decode cX7_shed 53 = .ok (.aload_n 0, 1) := by decide +kernel
theorem dX7_shed_54 : decode cX7_shed 54 = .ok (.iload_n 2, 1) := by decide +kernel
theorem dX7_shed_55 : decode cX7_shed 55 = .ok (.invokevirtual 226, 3) := by decide +kernel
theorem dX7_shed_58 : decode cX7_shed 58 = .ok (.aload_n 0, 1) := by decide +kernel
theorem dX7_shed_59 : decode cX7_shed 59 = .ok (.iload_n 1, 1) := by decide +kernel
theorem dX7_shed_60 : decode cX7_shed 60 = .ok (.invokevirtual 149, 3) := by decide +kernel
theorem dX7_shed_63 : decode cX7_shed 63 = .ok (.istore 7, 2) := by decide +kernel
theorem dX7_shed_65 : decode cX7_shed 65 = .ok (.iload 7, 2) := by decide +kernel
theorem dX7_shed_67 : decode cX7_shed 67 = .ok (.iload 4, 2) := by decide +kernel
theorem dX7_shed_69 : decode cX7_shed 69 = .ok (.if_icmp .ge 8, 3) := by decide +kernel
theorem dX7_shed_72 : decode cX7_shed 72 = .ok (.iload 6, 2) := by decide +kernel
theorem dX7_shed_74 : decode cX7_shed 74 = .ok (.goto 5, 3) := by decide +kernel
theorem dX7_shed_77 : decode cX7_shed 77 = .ok (.iload 5, 2) := by decide +kernel
theorem dX7_shed_79 : decode cX7_shed 79 = .ok (.istore 5, 2) := by decide +kernel
theorem dX7_shed_81 : decode cX7_shed 81 = .ok (.iload 7, 2) := by decide +kernel
theorem dX7_shed_83 : decode cX7_shed 83 = .ok (.iload 4, 2) := by decide +kernel
theorem dX7_shed_85 : decode cX7_shed 85 = .ok (.invokestatic 244, 3) := by decide +kernel
theorem dX7_shed_88 : decode cX7_shed 88 = .ok (.istore 4, 2) := by decide +kernel
theorem dX7_shed_90 : decode cX7_shed 90 = .ok (.iinc 6 1, 3) := by decide +kernel
theorem dX7_shed_93 : decode cX7_shed 93 = .ok (.goto (-59), 3) := by decide +kernel
theorem dX7_shed_96 : decode cX7_shed 96 = .ok (.iload_n 3, 1) := by decide +kernel
theorem dX7_shed_97 : decode cX7_shed 97 = .ok (.ifCond .ne 8, 3) := by decide +kernel
theorem dX7_shed_100 : decode cX7_shed 100 = .ok (.iload 5, 2) := by decide +kernel
theorem dX7_shed_102 : decode cX7_shed 102 = .ok (.goto 5, 3) := by decide +kernel
theorem dX7_shed_105 : decode cX7_shed 105 = .ok (.iload 4, 2) := by decide +kernel
theorem dX7_shed_107 : decode cX7_shed 107 = .ok (.ireturn, 1) := by decide +kernel
theorem dX7_calm_0 : decode cX7_calm 0 = .ok (.iload_n 1, 1) := by decide +kernel
theorem dX7_calm_1 : decode cX7_calm 1 = .ok (.invokestatic 234, 3) := by decide +kernel
theorem dX7_calm_4 : decode cX7_calm 4 = .ok (.ifCond .eq 10, 3) := by decide +kernel
theorem dX7_calm_7 : decode cX7_calm 7 = .ok (.iload_n 2, 1) := by decide +kernel
theorem dX7_calm_8 : decode cX7_calm 8 = .ok (.invokestatic 240, 3) := by decide +kernel
theorem dX7_calm_11 : decode cX7_calm 11 = .ok (.ifCond .ne 5, 3) := by decide +kernel
theorem dX7_calm_14 : decode cX7_calm 14 = .ok (.iconst (-1), 1) := by decide +kernel
theorem dX7_calm_15 : decode cX7_calm 15 = .ok (.ireturn, 1) := by decide +kernel
theorem dX7_calm_16 : decode cX7_calm 16 = .ok (.aload_n 0, 1) := by decide +kernel
theorem dX7_calm_17 : decode cX7_calm 17 = .ok (.invokevirtual 191, 3) := by decide +kernel
theorem dX7_calm_20 : decode cX7_calm 20 = .ok (.aload_n 0, 1) := by decide +kernel
theorem dX7_calm_21 : decode cX7_calm 21 = .ok (.iload_n 1, 1) := by decide +kernel
theorem dX7_calm_22 : decode cX7_calm 22 = .ok (.invokevirtual 226, 3) := by decide +kernel
theorem dX7_calm_25 : decode cX7_calm 25 = .ok (.aload_n 0, 1) := by decide +kernel
theorem dX7_calm_26 : decode cX7_calm 26 = .ok (.invokevirtual 194, 3) := by decide +kernel
theorem dX7_calm_29 : decode cX7_calm 29 = .ok (.istore_n 3, 1) := by decide +kernel
theorem dX7_calm_30 : decode cX7_calm 30 = .ok (.bipush (-4), 2) := by decide +kernel
theorem dX7_calm_32 : decode cX7_calm 32 = .ok (.istore 4, 2) := by decide +kernel
theorem dX7_calm_34 : decode cX7_calm 34 = .ok (.iconst 0, 1) := by decide +kernel
theorem dX7_calm_35 : decode cX7_calm 35 = .ok (.istore 5, 2) := by decide +kernel
theorem dX7_calm_37 : decode cX7_calm 37 = .ok (.iload 5, 2) := by decide +kernel
theorem dX7_calm_39 : decode cX7_calm 39 = .ok (.bipush 6, 2) := by decide +kernel
theorem dX7_calm_41 : decode cX7_calm 41 = .ok (.if_icmp .ge 63, 3) := by decide +kernel
theorem dX7_calm_44 : decode cX7_calm 44 = .ok (.aload_n 0, 1) := by decide +kernel
theorem dX7_calm_45 : decode cX7_calm 45 = .ok (.invokevirtual 191, 3) := by decide +kernel
theorem dX7_calm_48 : decode cX7_calm 48 = .ok (.aload_n 0, 1) := by decide +kernel
theorem dX7_calm_49 : decode cX7_calm 49 = .ok (.getfield 13, 3) := by decide +kernel
theorem dX7_calm_52 : decode cX7_calm 52 = .ok (.bipush 35, 2) := by decide +kernel
theorem dX7_calm_54 : decode cX7_calm 54 = .ok (.iload 5, 2) := by decide +kernel
theorem dX7_calm_56 : decode cX7_calm 56 = .ok (.iadd, 1) := by decide +kernel
theorem dX7_calm_57 : decode cX7_calm 57 = .ok (.iconst 0, 1) := by decide +kernel
theorem dX7_calm_58 : decode cX7_calm 58 = .ok (.iastore, 1) := by decide +kernel
theorem dX7_calm_59 : decode cX7_calm 59 = .ok (.aload_n 0, 1) := by decide +kernel
theorem dX7_calm_60 : decode cX7_calm 60 = .ok (.iload_n 1, 1) := by decide +kernel
theorem dX7_calm_61 : decode cX7_calm 61 = .ok (.invokevirtual 226, 3) := by decide +kernel
theorem dX7_calm_64 : decode cX7_calm 64 = .ok (.aload_n 0, 1) := by decide +kernel
theorem dX7_calm_65 : decode cX7_calm 65 = .ok (.invokevirtual 194, 3) := by decide +kernel
theorem dX7_calm_68 : decode cX7_calm 68 = .ok (.istore 6, 2) := by decide +kernel
theorem dX7_calm_70 : decode cX7_calm 70 = .ok (.iload 6, 2) := by decide +kernel
theorem dX7_calm_72 : decode cX7_calm 72 = .ok (.iload_n 3, 1) := by decide +kernel
theorem dX7_calm_73 : decode cX7_calm 73 = .ok (.if_icmp .le 8, 3) := by decide +kernel
theorem dX7_calm_76 : decode cX7_calm 76 = .ok (.iload 5, 2) := by decide +kernel
theorem dX7_calm_78 : decode cX7_calm 78 = .ok (.goto 5, 3) := by decide +kernel
theorem dX7_calm_81 : decode cX7_calm 81 = .ok (.iload 4, 2) := by decide +kernel
theorem dX7_calm_83 : decode cX7_calm 83 = .ok (.istore 4, 2) := by decide +kernel
theorem dX7_calm_85 : decode cX7_calm 85 = .ok (.iload 6, 2) := by decide +kernel
theorem dX7_calm_87 : decode cX7_calm 87 = .ok (.iload_n 3, 1) := by decide +kernel
theorem dX7_calm_88 : decode cX7_calm 88 = .ok (.if_icmp .le 8, 3) := by decide +kernel
theorem dX7_calm_91 : decode cX7_calm 91 = .ok (.iload 6, 2) := by decide +kernel
theorem dX7_calm_93 : decode cX7_calm 93 = .ok (.goto 4, 3) := by decide +kernel
theorem dX7_calm_96 : decode cX7_calm 96 = .ok (.iload_n 3, 1) := by decide +kernel
theorem dX7_calm_97 : decode cX7_calm 97 = .ok (.istore_n 3, 1) := by decide +kernel
theorem dX7_calm_98 : decode cX7_calm 98 = .ok (.iinc 5 1, 3) := by decide +kernel
theorem dX7_calm_101 : decode cX7_calm 101 = .ok (.goto (-64), 3) := by decide +kernel
theorem dX7_calm_104 : decode cX7_calm 104 = .ok (.iload 4, 2) := by decide +kernel
theorem dX7_calm_106 : decode cX7_calm 106 = .ok (.bipush (-4), 2) := by decide +kernel
theorem dX7_calm_108 : decode cX7_calm 108 = .ok (.if_icmp .ne 8, 3) := by decide +kernel
theorem dX7_calm_111 : decode cX7_calm 111 = .ok (.bipush (-4), 2) := by decide +kernel
theorem dX7_calm_113 : decode cX7_calm 113 = .ok (.goto 13, 3) := by decide +kernel
theorem dX7_calm_116 : decode cX7_calm 116 = .ok (.iload_n 2, 1) := by decide +kernel
theorem dX7_calm_117 : decode cX7_calm 117 = .ok (.ifCond .ne 8, 3) := by decide +kernel
theorem dX7_calm_120 : decode cX7_calm 120 = .ok (.iload 4, 2) := by decide +kernel
theorem dX7_calm_122 : decode cX7_calm 122 = .ok (.goto 4, 3) := by decide +kernel
theorem dX7_calm_125 : decode cX7_calm 125 = .ok (.iload_n 3, 1) := by decide +kernel
theorem dX7_calm_126 : decode cX7_calm 126 = .ok (.ireturn, 1) := by decide +kernel
theorem dX7_kind_0 : decode cX7_kind 0 = .ok (.aload_n 0, 1) := by decide +kernel
theorem dX7_kind_1 : decode cX7_kind 1 = .ok (.iload_n 1, 1) := by decide +kernel
theorem dX7_kind_2 : decode cX7_kind 2 = .ok (.invokevirtual 207, 3) := by decide +kernel
theorem dX7_kind_5 : decode cX7_kind 5 = .ok (.ifCond .eq 10, 3) := by decide +kernel
theorem dX7_kind_8 : decode cX7_kind 8 = .ok (.iload_n 2, 1) := by decide +kernel
theorem dX7_kind_9 : decode cX7_kind 9 = .ok (.invokestatic 240, 3) := by decide +kernel
theorem dX7_kind_12 : decode cX7_kind 12 = .ok (.ifCond .ne 5, 3) := by decide +kernel
theorem dX7_kind_15 : decode cX7_kind 15 = .ok (.iconst (-1), 1) := by decide +kernel
theorem dX7_kind_16 : decode cX7_kind 16 = .ok (.ireturn, 1) := by decide +kernel
theorem dX7_kind_17 : decode cX7_kind 17 = .ok (.ldc 243, 2) := by decide +kernel
theorem dX7_kind_19 : decode cX7_kind 19 = .ok (.istore_n 3, 1) := by decide +kernel
theorem dX7_kind_20 : decode cX7_kind 20 = .ok (.bipush (-4), 2) := by decide +kernel
theorem dX7_kind_22 : decode cX7_kind 22 = .ok (.istore 4, 2) := by decide +kernel
theorem dX7_kind_24 : decode cX7_kind 24 = .ok (.iconst 0, 1) := by decide +kernel
theorem dX7_kind_25 : decode cX7_kind 25 = .ok (.istore 5, 2) := by decide +kernel
theorem dX7_kind_27 : decode cX7_kind 27 = .ok (.iload 5, 2) := by decide +kernel
theorem dX7_kind_29 : decode cX7_kind 29 = .ok (.iconst 4, 1) := by decide +kernel
theorem dX7_kind_30 : decode cX7_kind 30 = .ok (.if_icmp .ge 74, 3) := by decide +kernel
theorem dX7_kind_33 : decode cX7_kind 33 = .ok (.aload_n 0, 1) := by decide +kernel
theorem dX7_kind_34 : decode cX7_kind 34 = .ok (.invokevirtual 191, 3) := by decide +kernel
theorem dX7_kind_37 : decode cX7_kind 37 = .ok (.aload_n 0, 1) := by decide +kernel
theorem dX7_kind_38 : decode cX7_kind 38 = .ok (.iload_n 1, 1) := by decide +kernel
theorem dX7_kind_39 : decode cX7_kind 39 = .ok (.iconst 0, 1) := by decide +kernel
theorem dX7_kind_40 : decode cX7_kind 40 = .ok (.iload 5, 2) := by decide +kernel
theorem dX7_kind_42 : decode cX7_kind 42 = .ok (.invokevirtual 158, 3) := by decide +kernel
theorem dX7_kind_45 : decode cX7_kind 45 = .ok (.aload_n 0, 1) := by decide +kernel
theorem dX7_kind_46 : decode cX7_kind 46 = .ok (.iload_n 1, 1) := by decide +kernel
theorem dX7_kind_47 : decode cX7_kind 47 = .ok (.invokevirtual 237, 3) := by decide +kernel
theorem dX7_kind_50 : decode cX7_kind 50 = .ok (.istore 6, 2) := by decide +kernel
theorem dX7_kind_52 : decode cX7_kind 52 = .ok (.iload 6, 2) := by decide +kernel
theorem dX7_kind_54 : decode cX7_kind 54 = .ok (.bipush (-4), 2) := by decide +kernel
theorem dX7_kind_56 : decode cX7_kind 56 = .ok (.if_icmp .eq 13, 3) := by decide +kernel
theorem dX7_kind_59 : decode cX7_kind 59 = .ok (.iload 6, 2) := by decide +kernel
theorem dX7_kind_61 : decode cX7_kind 61 = .ok (.iload_n 3, 1) := by decide +kernel
theorem dX7_kind_62 : decode cX7_kind 62 = .ok (.if_icmp .ge 7, 3) := by decide +kernel
theorem dX7_kind_65 : decode cX7_kind 65 = .ok (.iconst 1, 1) := by decide +kernel
theorem dX7_kind_66 : decode cX7_kind 66 = .ok (.goto 4, 3) := by decide +kernel
theorem dX7_kind_69 : decode cX7_kind 69 = .ok (.iconst 0, 1) := by decide +kernel
theorem dX7_kind_70 : decode cX7_kind 70 = .ok (.istore 7, 2) := by decide +kernel
theorem dX7_kind_72 : decode cX7_kind 72 = .ok (.iload 7, 2) := by decide +kernel
theorem dX7_kind_74 : decode cX7_kind 74 = .ok (.ifCond .eq 8, 3) := by decide +kernel
theorem dX7_kind_77 : decode cX7_kind 77 = .ok (.iload 5, 2) := by decide +kernel
theorem dX7_kind_79 : decode cX7_kind 79 = .ok (.goto 5, 3) := by decide +kernel
theorem dX7_kind_82 : decode cX7_kind 82 = .ok (.iload 4, 2) := by decide +kernel
theorem dX7_kind_84 : decode cX7_kind 84 = .ok (.istore 4, 2) := by decide +kernel
theorem dX7_kind_86 : decode cX7_kind 86 = .ok (.iload 7, 2) := by decide +kernel
theorem dX7_kind_88 : decode cX7_kind 88 = .ok (.ifCond .eq 8, 3) := by decide +kernel
theorem dX7_kind_91 : decode cX7_kind 91 = .ok (.iload 6, 2) := by decide +kernel
theorem dX7_kind_93 : decode cX7_kind 93 = .ok (.goto 4, 3) := by decide +kernel
theorem dX7_kind_96 : decode cX7_kind 96 = .ok (.iload_n 3, 1) := by decide +kernel
theorem dX7_kind_97 : decode cX7_kind 97 = .ok (.istore_n 3, 1) := by decide +kernel
theorem dX7_kind_98 : decode cX7_kind 98 = .ok (.iinc 5 1, 3) := by decide +kernel
theorem dX7_kind_101 : decode cX7_kind 101 = .ok (.goto (-74), 3) := by decide +kernel
theorem dX7_kind_104 : decode cX7_kind 104 = .ok (.iload 4, 2) := by decide +kernel
theorem dX7_kind_106 : decode cX7_kind 106 = .ok (.bipush (-4), 2) := by decide +kernel
theorem dX7_kind_108 : decode cX7_kind 108 = .ok (.if_icmp .ne 8, 3) := by decide +kernel
theorem dX7_kind_111 : decode cX7_kind 111 = .ok (.bipush (-4), 2) := by decide +kernel
theorem dX7_kind_113 : decode cX7_kind 113 = .ok (.goto 13, 3) := by decide +kernel
theorem dX7_kind_116 : decode cX7_kind 116 = .ok (.iload_n 2, 1) := by decide +kernel
theorem dX7_kind_117 : decode cX7_kind 117 = .ok (.ifCond .ne 8, 3) := by decide +kernel
theorem dX7_kind_120 : decode cX7_kind 120 = .ok (.iload 4, 2) := by decide +kernel
theorem dX7_kind_122 : decode cX7_kind 122 = .ok (.goto 4, 3) := by decide +kernel
theorem dX7_kind_125 : decode cX7_kind 125 = .ok (.iload_n 3, 1) := by decide +kernel
theorem dX7_kind_126 : decode cX7_kind 126 = .ok (.ireturn, 1) := by decide +kernel
theorem dX7_swap_0 : decode cX7_swap 0 = .ok (.iload_n 1, 1) := by decide +kernel
theorem dX7_swap_1 : decode cX7_swap 1 = .ok (.invokestatic 234, 3) := by decide +kernel
theorem dX7_swap_4 : decode cX7_swap 4 = .ok (.ifCond .eq 10, 3) := by decide +kernel
theorem dX7_swap_7 : decode cX7_swap 7 = .ok (.iload_n 2, 1) := by decide +kernel
theorem dX7_swap_8 : decode cX7_swap 8 = .ok (.invokestatic 240, 3) := by decide +kernel
theorem dX7_swap_11 : decode cX7_swap 11 = .ok (.ifCond .ne 5, 3) := by decide +kernel
theorem dX7_swap_14 : decode cX7_swap 14 = .ok (.iconst (-1), 1) := by decide +kernel
theorem dX7_swap_15 : decode cX7_swap 15 = .ok (.ireturn, 1) := by decide +kernel
theorem dX7_swap_16 : decode cX7_swap 16 = .ok (.aload_n 0, 1) := by decide +kernel
theorem dX7_swap_17 : decode cX7_swap 17 = .ok (.invokevirtual 191, 3) := by decide +kernel
theorem dX7_swap_20 : decode cX7_swap 20 = .ok (.aload_n 0, 1) := by decide +kernel
theorem dX7_swap_21 : decode cX7_swap 21 = .ok (.iload_n 1, 1) := by decide +kernel
theorem dX7_swap_22 : decode cX7_swap 22 = .ok (.invokevirtual 226, 3) := by decide +kernel
theorem dX7_swap_25 : decode cX7_swap 25 = .ok (.aload_n 0, 1) := by decide +kernel
theorem dX7_swap_26 : decode cX7_swap 26 = .ok (.invokevirtual 197, 3) := by decide +kernel
theorem dX7_swap_29 : decode cX7_swap 29 = .ok (.istore_n 3, 1) := by decide +kernel
theorem dX7_swap_30 : decode cX7_swap 30 = .ok (.bipush (-4), 2) := by decide +kernel
theorem dX7_swap_32 : decode cX7_swap 32 = .ok (.istore 4, 2) := by decide +kernel
theorem dX7_swap_34 : decode cX7_swap 34 = .ok (.iconst 0, 1) := by decide +kernel
theorem dX7_swap_35 : decode cX7_swap 35 = .ok (.istore 5, 2) := by decide +kernel
theorem dX7_swap_37 : decode cX7_swap 37 = .ok (.iload 5, 2) := by decide +kernel
theorem dX7_swap_39 : decode cX7_swap 39 = .ok (.aload_n 0, 1) := by decide +kernel
theorem dX7_swap_40 : decode cX7_swap 40 = .ok (.getfield 60, 3) := by decide +kernel
theorem dX7_swap_43 : decode cX7_swap 43 = .ok (.if_icmp .ge 107, 3) := by decide +kernel
theorem dX7_swap_46 : decode cX7_swap 46 = .ok (.iload 5, 2) := by decide +kernel
theorem dX7_swap_48 : decode cX7_swap 48 = .ok (.iconst 1, 1) := by decide +kernel
theorem dX7_swap_49 : decode cX7_swap 49 = .ok (.iadd, 1) := by decide +kernel
theorem dX7_swap_50 : decode cX7_swap 50 = .ok (.istore 6, 2) := by decide +kernel
theorem dX7_swap_52 : decode cX7_swap 52 = .ok (.iload 6, 2) := by decide +kernel
theorem dX7_swap_54 : decode cX7_swap 54 = .ok (.aload_n 0, 1) := by decide +kernel
theorem dX7_swap_55 : decode cX7_swap 55 = .ok (.getfield 60, 3) := by decide +kernel
theorem dX7_swap_58 : decode cX7_swap 58 = .ok (.if_icmp .ge 86, 3) := by decide +kernel
theorem dX7_swap_61 : decode cX7_swap 61 = .ok (.aload_n 0, 1) := by decide +kernel
theorem dX7_swap_62 : decode cX7_swap 62 = .ok (.invokevirtual 191, 3) := by decide +kernel
theorem dX7_swap_65 : decode cX7_swap 65 = .ok (.aload_n 0, 1) := by decide +kernel
theorem dX7_swap_66 : decode cX7_swap 66 = .ok (.getfield 13, 3) := by decide +kernel
theorem dX7_swap_69 : decode cX7_swap 69 = .ok (.iload 5, 2) := by decide +kernel
theorem dX7_swap_71 : decode cX7_swap 71 = .ok (.aload_n 0, 1) := by decide +kernel
theorem dX7_swap_72 : decode cX7_swap 72 = .ok (.getfield 7, 3) := by decide +kernel
theorem dX7_swap_75 : decode cX7_swap 75 = .ok (.iload 6, 2) := by decide +kernel
theorem dX7_swap_77 : decode cX7_swap 77 = .ok (.iaload, 1) := by decide +kernel
theorem dX7_swap_78 : decode cX7_swap 78 = .ok (.iastore, 1) := by decide +kernel
theorem dX7_swap_79 : decode cX7_swap 79 = .ok (.aload_n 0, 1) := by decide +kernel
theorem dX7_swap_80 : decode cX7_swap 80 = .ok (.getfield 13, 3) := by decide +kernel
theorem dX7_swap_83 : decode cX7_swap 83 = .ok (.iload 6, 2) := by decide +kernel
theorem dX7_swap_85 : decode cX7_swap 85 = .ok (.aload_n 0, 1) := by decide +kernel
theorem dX7_swap_86 : decode cX7_swap 86 = .ok (.getfield 7, 3) := by decide +kernel
theorem dX7_swap_89 : decode cX7_swap 89 = .ok (.iload 5, 2) := by decide +kernel
theorem dX7_swap_91 : decode cX7_swap 91 = .ok (.iaload, 1) := by decide +kernel
theorem dX7_swap_92 : decode cX7_swap 92 = .ok (.iastore, 1) := by decide +kernel
theorem dX7_swap_93 : decode cX7_swap 93 = .ok (.aload_n 0, 1) := by decide +kernel
theorem dX7_swap_94 : decode cX7_swap 94 = .ok (.iload_n 1, 1) := by decide +kernel
theorem dX7_swap_95 : decode cX7_swap 95 = .ok (.invokevirtual 226, 3) := by decide +kernel
theorem dX7_swap_98 : decode cX7_swap 98 = .ok (.aload_n 0, 1) := by decide +kernel
theorem dX7_swap_99 : decode cX7_swap 99 = .ok (.invokevirtual 197, 3) := by decide +kernel
theorem dX7_swap_102 : decode cX7_swap 102 = .ok (.istore 7, 2) := by decide +kernel
theorem dX7_swap_104 : decode cX7_swap 104 = .ok (.iload 7, 2) := by decide +kernel
theorem dX7_swap_106 : decode cX7_swap 106 = .ok (.iload_n 3, 1) := by decide +kernel
theorem dX7_swap_107 : decode cX7_swap 107 = .ok (.if_icmp .le 14, 3) := by decide +kernel
theorem dX7_swap_110 : decode cX7_swap 110 = .ok (.bipush 10, 2) := by decide +kernel
theorem dX7_swap_112 : decode cX7_swap 112 = .ok (.iload 5, 2) := by decide +kernel
theorem dX7_swap_114 : decode cX7_swap 114 = .ok (.imul, 1) := by decide +kernel
theorem dX7_swap_115 : decode cX7_swap 115 = .ok (.iload 6, 2) := by decide +kernel
theorem dX7_swap_117 : decode cX7_swap 117 = .ok (.iadd, 1) := by decide +kernel
theorem dX7_swap_118 : decode cX7_swap 118 = .ok (.goto 5, 3) := by decide +kernel
theorem dX7_swap_121 : decode cX7_swap 121 = .ok (.iload 4, 2) := by decide +kernel
theorem dX7_swap_123 : decode cX7_swap 123 = .ok (.istore 4, 2) := by decide +kernel
theorem dX7_swap_125 : decode cX7_swap 125 = .ok (.iload 7, 2) := by decide +kernel
theorem dX7_swap_127 : decode cX7_swap 127 = .ok (.iload_n 3, 1) := by decide +kernel
theorem dX7_swap_128 : decode cX7_swap 128 = .ok (.if_icmp .le 8, 3) := by decide +kernel
theorem dX7_swap_131 : decode cX7_swap 131 = .ok (.iload 7, 2) := by decide +kernel
theorem dX7_swap_133 : decode cX7_swap 133 = .ok (.goto 4, 3) := by decide +kernel
theorem dX7_swap_136 : decode cX7_swap 136 = .ok (.iload_n 3, 1) := by decide +kernel
theorem dX7_swap_137 : decode cX7_swap 137 = .ok (.istore_n 3, 1) := by decide +kernel
theorem dX7_swap_138 : decode cX7_swap 138 = .ok (.iinc 6 1, 3) := by decide +kernel
theorem dX7_swap_141 : decode cX7_swap 141 = .ok (.goto (-89), 3) := by decide +kernel
theorem dX7_swap_144 : decode cX7_swap 144 = .ok (.iinc 5 1, 3) := by decide +kernel
theorem dX7_swap_147 : decode cX7_swap 147 = .ok (.goto (-110), 3) := by decide +kernel
theorem dX7_swap_150 : decode cX7_swap 150 = .ok (.iload 4, 2) := by decide +kernel
theorem dX7_swap_152 : decode cX7_swap 152 = .ok (.bipush (-4), 2) := by decide +kernel
theorem dX7_swap_154 : decode cX7_swap 154 = .ok (.if_icmp .ne 8, 3) := by decide +kernel
theorem dX7_swap_157 : decode cX7_swap 157 = .ok (.bipush (-4), 2) := by decide +kernel
theorem dX7_swap_159 : decode cX7_swap 159 = .ok (.goto 13, 3) := by decide +kernel
theorem dX7_swap_162 : decode cX7_swap 162 = .ok (.iload_n 2, 1) := by decide +kernel
theorem dX7_swap_163 : decode cX7_swap 163 = .ok (.ifCond .ne 8, 3) := by decide +kernel
theorem dX7_swap_166 : decode cX7_swap 166 = .ok (.iload 4, 2) := by decide +kernel
theorem dX7_swap_168 : decode cX7_swap 168 = .ok (.goto 4, 3) := by decide +kernel
theorem dX7_swap_171 : decode cX7_swap 171 = .ok (.iload_n 3, 1) := by decide +kernel
theorem dX7_swap_172 : decode cX7_swap 172 = .ok (.ireturn, 1) := by decide +kernel
theorem dX7_isMadeWayFor_0 : decode cX7_isMadeWayFor 0 = .ok (.iconst 1, 1) := by decide +kernel
theorem dX7_isMadeWayFor_1 : decode cX7_isMadeWayFor 1 = .ok (.istore_n 2, 1) := by decide +kernel
theorem dX7_isMadeWayFor_2 : decode cX7_isMadeWayFor 2 = .ok (.iconst 0, 1) := by decide +kernel
theorem dX7_isMadeWayFor_3 : decode cX7_isMadeWayFor 3 = .ok (.istore_n 3, 1) := by decide +kernel
theorem dX7_isMadeWayFor_4 : decode cX7_isMadeWayFor 4 = .ok (.iload_n 3, 1) := by decide +kernel
theorem dX7_isMadeWayFor_5 : decode cX7_isMadeWayFor 5 = .ok (.aload_n 0, 1) := by decide +kernel
theorem dX7_isMadeWayFor_6 : decode cX7_isMadeWayFor 6 = .ok (.getfield 60, 3) := by decide +kernel
theorem dX7_isMadeWayFor_9 : decode cX7_isMadeWayFor 9 = .ok (.if_icmp .ge 37, 3) := by decide +kernel
theorem dX7_isMadeWayFor_12 : decode cX7_isMadeWayFor 12 = .ok (.iload_n 2, 1) := by decide +kernel
theorem dX7_isMadeWayFor_13 : decode cX7_isMadeWayFor 13 = .ok (.ifCond .eq 25, 3) := by decide +kernel
theorem dX7_isMadeWayFor_16 : decode cX7_isMadeWayFor 16 = .ok (.iload_n 3, 1) := by decide +kernel
theorem dX7_isMadeWayFor_17 : decode cX7_isMadeWayFor 17 = .ok (.iload_n 1, 1) := by decide +kernel
theorem dX7_isMadeWayFor_18 : decode cX7_isMadeWayFor 18 = .ok (.if_icmp .eq 16, 3) := by decide +kernel
theorem dX7_isMadeWayFor_21 : decode cX7_isMadeWayFor 21 = .ok (.aload_n 0, 1) := by decide +kernel
theorem dX7_isMadeWayFor_22 : decode cX7_isMadeWayFor 22 = .ok (.iload_n 3, 1) := by decide +kernel
theorem dX7_isMadeWayFor_23 : decode cX7_isMadeWayFor 23 = .ok (.invokevirtual 149, 3) := by decide +kernel
theorem dX7_isMadeWayFor_26 : decode cX7_isMadeWayFor 26 = .ok (.aload_n 0, 1) := by decide +kernel
theorem dX7_isMadeWayFor_27 : decode cX7_isMadeWayFor 27 = .ok (.iload_n 1, 1) := by decide +kernel
theorem dX7_isMadeWayFor_28 : decode cX7_isMadeWayFor 28 = .ok (.invokevirtual 149, 3) := by decide +kernel
theorem dX7_isMadeWayFor_31 : decode cX7_isMadeWayFor 31 = .ok (.if_icmp .ge 7, 3) := by decide +kernel
theorem dX7_isMadeWayFor_34 : decode cX7_isMadeWayFor 34 = .ok (.iconst 1, 1) := by decide +kernel
theorem dX7_isMadeWayFor_35 : decode cX7_isMadeWayFor 35 = .ok (.goto 4, 3) := by decide +kernel
theorem dX7_isMadeWayFor_38 : decode cX7_isMadeWayFor 38 = .ok (.iconst 0, 1) := by decide +kernel
theorem dX7_isMadeWayFor_39 : decode cX7_isMadeWayFor 39 = .ok (.istore_n 2, 1) := by decide +kernel
theorem dX7_isMadeWayFor_40 : decode cX7_isMadeWayFor 40 = .ok (.iinc 3 1, 3) := by decide +kernel
theorem dX7_isMadeWayFor_43 : decode cX7_isMadeWayFor 43 = .ok (.goto (-39), 3) := by decide +kernel
theorem dX7_isMadeWayFor_46 : decode cX7_isMadeWayFor 46 = .ok (.iload_n 2, 1) := by decide +kernel
theorem dX7_isMadeWayFor_47 : decode cX7_isMadeWayFor 47 = .ok (.ireturn, 1) := by decide +kernel
theorem dX7_need_0 : decode cX7_need 0 = .ok (.aload_n 0, 1) := by decide +kernel
theorem dX7_need_1 : decode cX7_need 1 = .ok (.iload_n 1, 1) := by decide +kernel
theorem dX7_need_2 : decode cX7_need 2 = .ok (.invokevirtual 207, 3) := by decide +kernel
theorem dX7_need_5 : decode cX7_need 5 = .ok (.ifCond .eq 18, 3) := by decide +kernel
theorem dX7_need_8 : decode cX7_need 8 = .ok (.aload_n 0, 1) := by decide +kernel
theorem dX7_need_9 : decode cX7_need 9 = .ok (.iload_n 2, 1) := by decide +kernel
theorem dX7_need_10 : decode cX7_need 10 = .ok (.invokevirtual 203, 3) := by decide +kernel
theorem dX7_need_13 : decode cX7_need 13 = .ok (.ifCond .eq 10, 3) := by decide +kernel
theorem dX7_need_16 : decode cX7_need 16 = .ok (.iload_n 3, 1) := by decide +kernel
theorem dX7_need_17 : decode cX7_need 17 = .ok (.invokestatic 234, 3) := by decide +kernel
theorem dX7_need_20 : decode cX7_need 20 = .ok (.ifCond .ne 5, 3) := by decide +kernel
theorem dX7_need_23 : decode cX7_need 23 = .ok (.iconst (-1), 1) := by decide +kernel
theorem dX7_need_24 : decode cX7_need 24 = .ok (.ireturn, 1) := by decide +kernel
theorem dX7_need_25 : decode cX7_need 25 = .ok (.iconst 1, 1) := by decide +kernel
theorem dX7_need_26 : decode cX7_need 26 = .ok (.istore 4, 2) := by decide +kernel
theorem dX7_need_28 : decode cX7_need 28 = .ok (.iload 4, 2) := by decide +kernel
theorem dX7_need_30 : decode cX7_need 30 = .ok (.bipush 9, 2) := by decide +kernel
theorem dX7_need_32 : decode cX7_need 32 = .ok (.if_icmp .gt 37, 3) := by decide +kernel
theorem dX7_need_35 : decode cX7_need 35 = .ok (.aload_n 0, 1) := by decide +kernel
theorem dX7_need_36 : decode cX7_need 36 = .ok (.invokevirtual 191, 3) := by decide +kernel
theorem dX7_need_39 : decode cX7_need 39 = .ok (.aload_n 0, 1) := by decide +kernel
theorem dX7_need_40 : decode cX7_need 40 = .ok (.iload_n 1, 1) := by decide +kernel
theorem dX7_need_41 : decode cX7_need 41 = .ok (.iconst 1, 1) := by decide +kernel
theorem dX7_need_42 : decode cX7_need 42 = .ok (.iload 4, 2) := by decide +kernel
theorem dX7_need_44 : decode cX7_need 44 = .ok (.invokevirtual 158, 3) := by decide +kernel
theorem dX7_need_47 : decode cX7_need 47 = .ok (.aload_n 0, 1) := by decide +kernel
theorem dX7_need_48 : decode cX7_need 48 = .ok (.iload_n 3, 1) := by decide +kernel
theorem dX7_need_49 : decode cX7_need 49 = .ok (.invokevirtual 226, 3) := by decide +kernel
theorem dX7_need_52 : decode cX7_need 52 = .ok (.aload_n 0, 1) := by decide +kernel
theorem dX7_need_53 : decode cX7_need 53 = .ok (.iload_n 2, 1) := by decide +kernel
theorem dX7_need_54 : decode cX7_need 54 = .ok (.invokevirtual 247, 3) := by decide +kernel
theorem dX7_need_57 : decode cX7_need 57 = .ok (.ifCond .eq 6, 3) := by decide +kernel
theorem dX7_need_60 : decode cX7_need 60 = .ok (.iload 4, 2) := by decide +kernel
theorem dX7_need_62 : decode cX7_need 62 = .ok (.ireturn, 1) := by decide +kernel
theorem dX7_need_63 : decode cX7_need 63 = .ok (.iinc 4 1, 3) := by decide +kernel
theorem dX7_need_66 : decode cX7_need 66 = .ok (.goto (-38), 3) := by decide +kernel
theorem dX7_need_69 : decode cX7_need 69 = .ok (.bipush (-4), 2) := by decide +kernel
theorem dX7_need_71 : decode cX7_need 71 = .ok (.ireturn, 1) := by decide +kernel
theorem dX7_off_0 : decode cX7_off 0 = .ok (.aload_n 0, 1) := by decide +kernel
theorem dX7_off_1 : decode cX7_off 1 = .ok (.iload_n 1, 1) := by decide +kernel
theorem dX7_off_2 : decode cX7_off 2 = .ok (.invokevirtual 203, 3) := by decide +kernel
theorem dX7_off_5 : decode cX7_off 5 = .ok (.ifCond .eq 17, 3) := by decide +kernel
theorem dX7_off_8 : decode cX7_off 8 = .ok (.iload_n 2, 1) := by decide +kernel
theorem dX7_off_9 : decode cX7_off 9 = .ok (.invokestatic 234, 3) := by decide +kernel
theorem dX7_off_12 : decode cX7_off 12 = .ok (.ifCond .eq 10, 3) := by decide +kernel
theorem dX7_off_15 : decode cX7_off 15 = .ok (.iload_n 3, 1) := by decide +kernel
theorem dX7_off_16 : decode cX7_off 16 = .ok (.invokestatic 240, 3) := by decide +kernel
theorem dX7_off_19 : decode cX7_off 19 = .ok (.ifCond .ne 5, 3) := by decide +kernel
theorem dX7_off_22 : decode cX7_off 22 = .ok (.iconst (-1), 1) := by decide +kernel
theorem dX7_off_23 : decode cX7_off 23 = .ok (.ireturn, 1) := by decide +kernel
theorem dX7_off_24 : decode cX7_off 24 = .ok (.aload_n 0, 1) := by decide +kernel
theorem dX7_off_25 : decode cX7_off 25 = .ok (.invokevirtual 191, 3) := by decide +kernel
theorem dX7_off_28 : decode cX7_off 28 = .ok (.aload_n 0, 1) := by decide +kernel
theorem dX7_off_29 : decode cX7_off 29 = .ok (.iload_n 2, 1) := by decide +kernel
theorem dX7_off_30 : decode cX7_off 30 = .ok (.invokevirtual 226, 3) := by decide +kernel
theorem dX7_off_33 : decode cX7_off 33 = .ok (.aload_n 0, 1) := by decide +kernel
theorem dX7_off_34 : decode cX7_off 34 = .ok (.iload_n 1, 1) := by decide +kernel
theorem dX7_off_35 : decode cX7_off 35 = .ok (.invokevirtual 149, 3) := by decide +kernel
theorem dX7_off_38 : decode cX7_off 38 = .ok (.istore 4, 2) := by decide +kernel
theorem dX7_off_40 : decode cX7_off 40 = .ok (.bipush (-4), 2) := by decide +kernel
theorem dX7_off_42 : decode cX7_off 42 = .ok (.istore 5, 2) := by decide +kernel
theorem dX7_off_44 : decode cX7_off 44 = .ok (.iconst 0, 1) := by decide +kernel
theorem dX7_off_45 : decode cX7_off 45 = .ok (.istore 6, 2) := by decide +kernel
theorem dX7_off_47 : decode cX7_off 47 = .ok (.iload 6, 2) := by decide +kernel
theorem dX7_off_49 : decode cX7_off 49 = .ok (.aload_n 0, 1) := by decide +kernel
theorem dX7_off_50 : decode cX7_off 50 = .ok (.getfield 7, 3) := by decide +kernel
theorem dX7_off_53 : decode cX7_off 53 = .ok (.bipush 34, 2) := by decide +kernel
theorem dX7_off_55 : decode cX7_off 55 = .ok (.iaload, 1) := by decide +kernel
theorem dX7_off_56 : decode cX7_off 56 = .ok (.if_icmp .ge 56, 3) := by decide +kernel
theorem dX7_off_59 : decode cX7_off 59 = .ok (.aload_n 0, 1) := by decide +kernel
theorem dX7_off_60 : decode cX7_off 60 = .ok (.invokevirtual 191, 3) := by decide +kernel
theorem dX7_off_63 : decode cX7_off 63 = .ok (.aload_n 0, 1) := by decide +kernel
theorem dX7_off_64 : decode cX7_off 64 = .ok (.iload 6, 2) := by decide +kernel
theorem dX7_off_66 : decode cX7_off 66 = .ok (.putfield 140, 3) := by decide +kernel
theorem dX7_off_69 : decode cX7_off 69 = .ok (.aload_n 0, 1) := by decide +kernel
theorem dX7_off_70 : decode cX7_off 70 = .ok (.iload_n 2, 1) := by decide +kernel
theorem dX7_off_71 : decode cX7_off 71 = .ok (.invokevirtual 226, 3) := by decide +kernel
theorem dX7_off_74 : decode cX7_off 74 = .ok (.aload_n 0, 1) := by decide +kernel
theorem dX7_off_75 : decode cX7_off 75 = .ok (.iload_n 1, 1) := by decide +kernel
theorem dX7_off_76 : decode cX7_off 76 = .ok (.invokevirtual 149, 3) := by decide +kernel
theorem dX7_off_79 : decode cX7_off 79 = .ok (.istore 7, 2) := by decide +kernel
theorem dX7_off_81 : decode cX7_off 81 = .ok (.iload 7, 2) := by decide +kernel
theorem dX7_off_83 : decode cX7_off 83 = .ok (.iload 4, 2) := by decide +kernel
theorem dX7_off_85 : decode cX7_off 85 = .ok (.if_icmp .ge 8, 3) := by decide +kernel
theorem dX7_off_88 : decode cX7_off 88 = .ok (.iload 6, 2) := by decide +kernel
theorem dX7_off_90 : decode cX7_off 90 = .ok (.goto 5, 3) := by decide +kernel
theorem dX7_off_93 : decode cX7_off 93 = .ok (.iload 5, 2) := by decide +kernel
theorem dX7_off_95 : decode cX7_off 95 = .ok (.istore 5, 2) := by decide +kernel
theorem dX7_off_97 : decode cX7_off 97 = .ok (.iload 7, 2) := by decide +kernel
theorem dX7_off_99 : decode cX7_off 99 = .ok (.iload 4, 2) := by decide +kernel
theorem dX7_off_101 : decode cX7_off 101 = .ok (.invokestatic 244, 3) := by decide +kernel
theorem dX7_off_104 : decode cX7_off 104 = .ok (.istore 4, 2) := by decide +kernel
theorem dX7_off_106 : decode cX7_off 106 = .ok (.iinc 6 1, 3) := by decide +kernel
theorem dX7_off_109 : decode cX7_off 109 = .ok (.goto (-62), 3) := by decide +kernel
theorem dX7_off_112 : decode cX7_off 112 = .ok (.iload 5, 2) := by decide +kernel
theorem dX7_off_114 : decode cX7_off 114 = .ok (.bipush (-4), 2) := by decide +kernel
theorem dX7_off_116 : decode cX7_off 116 = .ok (.if_icmp .ne 8, 3) := by decide +kernel
theorem dX7_off_119 : decode cX7_off 119 = .ok (.bipush (-4), 2) := by decide +kernel
theorem dX7_off_121 : decode cX7_off 121 = .ok (.goto 14, 3) := by decide +kernel
theorem dX7_off_124 : decode cX7_off 124 = .ok (.iload_n 3, 1) := by decide +kernel
theorem dX7_off_125 : decode cX7_off 125 = .ok (.ifCond .ne 8, 3) := by decide +kernel
theorem dX7_off_128 : decode cX7_off 128 = .ok (.iload 5, 2) := by decide +kernel
theorem dX7_off_130 : decode cX7_off 130 = .ok (.goto 5, 3) := by decide +kernel
theorem dX7_off_133 : decode cX7_off 133 = .ok (.iload 4, 2) := by decide +kernel
theorem dX7_off_135 : decode cX7_off 135 = .ok (.ireturn, 1) := by decide +kernel
theorem dX7_common_0 : decode cX7_common 0 = .ok (.lload_n 0, 1) := by decide +kernel
theorem dX7_common_1 : decode cX7_common 1 = .ok (.lstore 4, 2) := by decide +kernel
theorem dX7_common_3 : decode cX7_common 3 = .ok (.lload_n 2, 1) := by decide +kernel
theorem dX7_common_4 : decode cX7_common 4 = .ok (.lstore 6, 2) := by decide +kernel
theorem dX7_common_6 : decode cX7_common 6 = .ok (.lload 6, 2) := by decide +kernel
theorem dX7_common_8 : decode cX7_common 8 = .ok (.lconst 0, 1) := by decide +kernel
theorem dX7_common_9 : decode cX7_common 9 = .ok (.lcmp, 1) := by decide +kernel
theorem dX7_common_10 : decode cX7_common 10 = .ok (.ifCond .eq 21, 3) := by decide +kernel
theorem dX7_common_13 : decode cX7_common 13 = .ok (.lload 4, 2) := by decide +kernel
theorem dX7_common_15 : decode cX7_common 15 = .ok (.lload 6, 2) := by decide +kernel
theorem dX7_common_17 : decode cX7_common 17 = .ok (.lrem, 1) := by decide +kernel
theorem dX7_common_18 : decode cX7_common 18 = .ok (.lstore 8, 2) := by decide +kernel
theorem dX7_common_20 : decode cX7_common 20 = .ok (.lload 6, 2) := by decide +kernel
theorem dX7_common_22 : decode cX7_common 22 = .ok (.lstore 4, 2) := by decide +kernel
theorem dX7_common_24 : decode cX7_common 24 = .ok (.lload 8, 2) := by decide +kernel
theorem dX7_common_26 : decode cX7_common 26 = .ok (.lstore 6, 2) := by decide +kernel
theorem dX7_common_28 : decode cX7_common 28 = .ok (.goto (-22), 3) := by decide +kernel
theorem dX7_common_31 : decode cX7_common 31 = .ok (.lload 4, 2) := by decide +kernel
theorem dX7_common_33 : decode cX7_common 33 = .ok (.lreturn, 1) := by decide +kernel
theorem dX7_told_0 : decode cX7_told 0 = .ok (.lload_n 2, 1) := by decide +kernel
theorem dX7_told_1 : decode cX7_told 1 = .ok (.lload_n 0, 1) := by decide +kernel
theorem dX7_told_2 : decode cX7_told 2 = .ok (.invokestatic 250, 3) := by decide +kernel
theorem dX7_told_5 : decode cX7_told 5 = .ok (.lstore 5, 2) := by decide +kernel
theorem dX7_told_7 : decode cX7_told 7 = .ok (.iload 4, 2) := by decide +kernel
theorem dX7_told_9 : decode cX7_told 9 = .ok (.ifCond .ne 10, 3) := by decide +kernel
theorem dX7_told_12 : decode cX7_told 12 = .ok (.lload_n 0, 1) := by decide +kernel
theorem dX7_told_13 : decode cX7_told 13 = .ok (.lload 5, 2) := by decide +kernel
theorem dX7_told_15 : decode cX7_told 15 = .ok (.ldiv, 1) := by decide +kernel
theorem dX7_told_16 : decode cX7_told 16 = .ok (.goto 7, 3) := by decide +kernel
theorem dX7_told_19 : decode cX7_told 19 = .ok (.lload_n 2, 1) := by decide +kernel
theorem dX7_told_20 : decode cX7_told 20 = .ok (.lload 5, 2) := by decide +kernel
theorem dX7_told_22 : decode cX7_told 22 = .ok (.ldiv, 1) := by decide +kernel
theorem dX7_told_23 : decode cX7_told 23 = .ok (.lreturn, 1) := by decide +kernel
theorem dX7_findOdds_0 : decode cX7_findOdds 0 = .ok (.aload_n 0, 1) := by decide +kernel
theorem dX7_findOdds_1 : decode cX7_findOdds 1 = .ok (.lconst 0, 1) := by decide +kernel
theorem dX7_findOdds_2 : decode cX7_findOdds 2 = .ok (.putfield 254, 3) := by decide +kernel
theorem dX7_findOdds_5 : decode cX7_findOdds 5 = .ok (.aload_n 0, 1) := by decide +kernel
theorem dX7_findOdds_6 : decode cX7_findOdds 6 = .ok (.lconst 0, 1) := by decide +kernel
theorem dX7_findOdds_7 : decode cX7_findOdds 7 = .ok (.putfield 258, 3) := by decide +kernel
theorem dX7_findOdds_10 : decode cX7_findOdds 10 = .ok (.aload_n 0, 1) := by decide +kernel
theorem dX7_findOdds_11 : decode cX7_findOdds 11 = .ok (.lconst 1, 1) := by decide +kernel
theorem dX7_findOdds_12 : decode cX7_findOdds 12 = .ok (.putfield 261, 3) := by decide +kernel
theorem dX7_findOdds_15 : decode cX7_findOdds 15 = .ok (.iconst 0, 1) := by decide +kernel
theorem dX7_findOdds_16 : decode cX7_findOdds 16 = .ok (.istore 5, 2) := by decide +kernel
theorem dX7_findOdds_18 : decode cX7_findOdds 18 = .ok (.iload 5, 2) := by decide +kernel
theorem dX7_findOdds_20 : decode cX7_findOdds 20 = .ok (.iload 4, 2) := by decide +kernel
theorem dX7_findOdds_22 : decode cX7_findOdds 22 = .ok (.if_icmp .ge 21, 3) := by decide +kernel
theorem dX7_findOdds_25 : decode cX7_findOdds 25 = .ok (.aload_n 0, 1) := by decide +kernel
theorem dX7_findOdds_26 : decode cX7_findOdds 26 = .ok (.dup, 1) := by decide +kernel
theorem dX7_findOdds_27 : decode cX7_findOdds 27 = .ok (.getfield 261, 3) := by decide +kernel
theorem dX7_findOdds_30 : decode cX7_findOdds 30 = .ok (.ldc2_w 264, 3) := by decide +kernel
theorem dX7_findOdds_33 : decode cX7_findOdds 33 = .ok (.lmul, 1) := by decide +kernel
theorem dX7_findOdds_34 : decode cX7_findOdds 34 = .ok (.putfield 261, 3) := by decide +kernel
theorem dX7_findOdds_37 : decode cX7_findOdds 37 = .ok (.iinc 5 1, 3) := by decide +kernel
theorem dX7_findOdds_40 : decode cX7_findOdds 40 = .ok (.goto (-22), 3) := by decide +kernel
theorem dX7_findOdds_43 : decode cX7_findOdds 43 = .ok (.iconst 0, 1) := by decide +kernel
theorem dX7_findOdds_44 : decode cX7_findOdds 44 = .ok (.istore 5, 2) := by decide +kernel
theorem dX7_findOdds_46 : decode cX7_findOdds 46 = .ok (.iload 5, 2) := by decide +kernel
theorem dX7_findOdds_48 : decode cX7_findOdds 48 = .ok (.iconst 1, 1) := by decide +kernel
theorem dX7_findOdds_49 : decode cX7_findOdds 49 = .ok (.iload 4, 2) := by decide +kernel
theorem dX7_findOdds_51 : decode cX7_findOdds 51 = .ok (.ishl, 1) := by decide +kernel
theorem dX7_findOdds_52 : decode cX7_findOdds 52 = .ok (.if_icmp .ge 147, 3) := by decide +kernel
theorem dX7_findOdds_55 : decode cX7_findOdds 55 = .ok (.lconst 1, 1) := by decide +kernel
theorem dX7_findOdds_56 : decode cX7_findOdds 56 = .ok (.lstore 6, 2) := by decide +kernel
theorem dX7_findOdds_58 : decode cX7_findOdds 58 = .ok (.aload_n 0, 1) := by decide +kernel
theorem dX7_findOdds_59 : decode cX7_findOdds 59 = .ok (.invokevirtual 191, 3) := by decide +kernel
theorem dX7_findOdds_62 : decode cX7_findOdds 62 = .ok (.iconst 0, 1) := by decide +kernel
theorem dX7_findOdds_63 : decode cX7_findOdds 63 = .ok (.istore 8, 2) := by decide +kernel
theorem dX7_findOdds_65 : decode cX7_findOdds 65 = .ok (.iload 8, 2) := by decide +kernel
theorem dX7_findOdds_67 : decode cX7_findOdds 67 = .ok (.iload 4, 2) := by decide +kernel
theorem dX7_findOdds_69 : decode cX7_findOdds 69 = .ok (.if_icmp .ge 64, 3) := by decide +kernel
theorem dX7_findOdds_72 : decode cX7_findOdds 72 = .ok (.iload 5, 2) := by decide +kernel
theorem dX7_findOdds_74 : decode cX7_findOdds 74 = .ok (.iload 8, 2) := by decide +kernel
theorem dX7_findOdds_76 : decode cX7_findOdds 76 = .ok (.ishr, 1) := by decide +kernel
theorem dX7_findOdds_77 : decode cX7_findOdds 77 = .ok (.iconst 1, 1) := by decide +kernel
theorem dX7_findOdds_78 : decode cX7_findOdds 78 = .ok (.iand, 1) := by decide +kernel
theorem dX7_findOdds_79 : decode cX7_findOdds 79 = .ok (.iconst 1, 1) := by decide +kernel
theorem dX7_findOdds_80 : decode cX7_findOdds 80 = .ok (.if_icmp .ne 7, 3) := by decide +kernel
theorem dX7_findOdds_83 : decode cX7_findOdds 83 = .ok (.iconst 1, 1) := by decide +kernel
theorem dX7_findOdds_84 : decode cX7_findOdds 84 = .ok (.goto 4, 3) := by decide +kernel
theorem dX7_findOdds_87 : decode cX7_findOdds 87 = .ok (.iconst 0, 1) := by decide +kernel
theorem dX7_findOdds_88 : decode cX7_findOdds 88 = .ok (.istore 9, 2) := by decide +kernel
theorem dX7_findOdds_90 : decode cX7_findOdds 90 = .ok (.lload 6, 2) := by decide +kernel
theorem dX7_findOdds_92 : decode cX7_findOdds 92 = .ok (.iload 9, 2) := by decide +kernel
theorem dX7_findOdds_94 : decode cX7_findOdds 94 = .ok (.ifCond .eq 8, 3) := by decide +kernel
theorem dX7_findOdds_97 : decode cX7_findOdds 97 = .ok (.iload_n 1, 1) := by decide +kernel
theorem dX7_findOdds_98 : decode cX7_findOdds 98 = .ok (.i2l, 1) := by decide +kernel
theorem dX7_findOdds_99 : decode cX7_findOdds 99 = .ok (.goto 8, 3) := by decide +kernel
theorem dX7_findOdds_102 : decode cX7_findOdds 102 = .ok (.bipush 10, 2) := by decide +kernel
theorem dX7_findOdds_104 : decode cX7_findOdds 104 = .ok (.iload_n 1, 1) := by decide +kernel
theorem dX7_findOdds_105 : decode cX7_findOdds 105 = .ok (.isub, 1) := by decide +kernel
theorem dX7_findOdds_106 : decode cX7_findOdds 106 = .ok (.i2l, 1) := by decide +kernel
theorem dX7_findOdds_107 : decode cX7_findOdds 107 = .ok (.lmul, 1) := by decide +kernel
theorem dX7_findOdds_108 : decode cX7_findOdds 108 = .ok (.lstore 6, 2) := by decide +kernel
theorem dX7_findOdds_110 : decode cX7_findOdds 110 = .ok (.aload_n 0, 1) := by decide +kernel
theorem dX7_findOdds_111 : decode cX7_findOdds 111 = .ok (.iload 9, 2) := by decide +kernel
theorem dX7_findOdds_113 : decode cX7_findOdds 113 = .ok (.ifCond .eq 7, 3) := by decide +kernel
theorem dX7_findOdds_116 : decode cX7_findOdds 116 = .ok (.iconst 0, 1) := by decide +kernel
theorem dX7_findOdds_117 : decode cX7_findOdds 117 = .ok (.goto 7, 3) := by decide +kernel
theorem dX7_findOdds_120 : decode cX7_findOdds 120 = .ok (.aload_n 0, 1) := by decide +kernel
theorem dX7_findOdds_121 : decode cX7_findOdds 121 = .ok (.invokevirtual 181, 3) := by decide +kernel
theorem dX7_findOdds_124 : decode cX7_findOdds 124 = .ok (.invokevirtual 184, 3) := by decide +kernel
theorem dX7_findOdds_127 : decode cX7_findOdds 127 = .ok (.iinc 8 1, 3) := by decide +kernel
theorem dX7_findOdds_130 : decode cX7_findOdds 130 = .ok (.goto (-65), 3) := by decide +kernel
theorem dX7_findOdds_133 : decode cX7_findOdds 133 = .ok (.aload_n 0, 1) := by decide +kernel
theorem dX7_findOdds_134 : decode cX7_findOdds 134 = .ok (.dup, 1) := by decide +kernel
theorem dX7_findOdds_135 : decode cX7_findOdds 135 = .ok (.getfield 254, 3) := by decide +kernel
theorem dX7_findOdds_138 : decode cX7_findOdds 138 = .ok (.iload_n 2, 1) := by decide +kernel
theorem dX7_findOdds_139 : decode cX7_findOdds 139 = .ok (.bipush (-4), 2) := by decide +kernel
theorem dX7_findOdds_141 : decode cX7_findOdds 141 = .ok (.if_icmp .eq 19, 3) := by decide +kernel
theorem dX7_findOdds_144 : decode cX7_findOdds 144 = .ok (.aload_n 0, 1) := by decide +kernel
theorem dX7_findOdds_145 : decode cX7_findOdds 145 = .ok (.iload_n 2, 1) := by decide +kernel
theorem dX7_findOdds_146 : decode cX7_findOdds 146 = .ok (.iconst 4, 1) := by decide +kernel
theorem dX7_findOdds_147 : decode cX7_findOdds 147 = .ok (.invokevirtual 143, 3) := by decide +kernel
theorem dX7_findOdds_150 : decode cX7_findOdds 150 = .ok (.bipush (-4), 2) := by decide +kernel
theorem dX7_findOdds_152 : decode cX7_findOdds 152 = .ok (.if_icmp .eq 8, 3) := by decide +kernel
theorem dX7_findOdds_155 : decode cX7_findOdds 155 = .ok (.lload 6, 2) := by decide +kernel
theorem dX7_findOdds_157 : decode cX7_findOdds 157 = .ok (.goto 4, 3) := by decide +kernel
theorem dX7_findOdds_160 : decode cX7_findOdds 160 = .ok (.lconst 0, 1) := by decide +kernel
theorem dX7_findOdds_161 : decode cX7_findOdds 161 = .ok (.ladd, 1) := by decide +kernel
theorem dX7_findOdds_162 : decode cX7_findOdds 162 = .ok (.putfield 254, 3) := by decide +kernel
theorem dX7_findOdds_165 : decode cX7_findOdds 165 = .ok (.aload_n 0, 1) := by decide +kernel
theorem dX7_findOdds_166 : decode cX7_findOdds 166 = .ok (.dup, 1) := by decide +kernel
theorem dX7_findOdds_167 : decode cX7_findOdds 167 = .ok (.getfield 258, 3) := by decide +kernel
theorem dX7_findOdds_170 : decode cX7_findOdds 170 = .ok (.iload_n 3, 1) := by decide +kernel
theorem dX7_findOdds_171 : decode cX7_findOdds 171 = .ok (.bipush (-4), 2) := by decide +kernel
theorem dX7_findOdds_173 : decode cX7_findOdds 173 = .ok (.if_icmp .eq 15, 3) := by decide +kernel
theorem dX7_findOdds_176 : decode cX7_findOdds 176 = .ok (.lload 6, 2) := by decide +kernel
theorem dX7_findOdds_178 : decode cX7_findOdds 178 = .ok (.aload_n 0, 1) := by decide +kernel
theorem dX7_findOdds_179 : decode cX7_findOdds 179 = .ok (.iload_n 3, 1) := by decide +kernel
theorem dX7_findOdds_180 : decode cX7_findOdds 180 = .ok (.invokevirtual 149, 3) := by decide +kernel
theorem dX7_findOdds_183 : decode cX7_findOdds 183 = .ok (.i2l, 1) := by decide +kernel
theorem dX7_findOdds_184 : decode cX7_findOdds 184 = .ok (.lmul, 1) := by decide +kernel
theorem dX7_findOdds_185 : decode cX7_findOdds 185 = .ok (.goto 4, 3) := by decide +kernel
theorem dX7_findOdds_188 : decode cX7_findOdds 188 = .ok (.lconst 0, 1) := by decide +kernel
theorem dX7_findOdds_189 : decode cX7_findOdds 189 = .ok (.ladd, 1) := by decide +kernel
theorem dX7_findOdds_190 : decode cX7_findOdds 190 = .ok (.putfield 258, 3) := by decide +kernel
theorem dX7_findOdds_193 : decode cX7_findOdds 193 = .ok (.iinc 5 1, 3) := by decide +kernel
theorem dX7_findOdds_196 : decode cX7_findOdds 196 = .ok (.goto (-150), 3) := by decide +kernel
theorem dX7_findOdds_199 : decode cX7_findOdds 199 = .ok (.return_, 1) := by decide +kernel
theorem dX7_luck_0 : decode cX7_luck 0 = .ok (.iload_n 1, 1) := by decide +kernel
theorem dX7_luck_1 : decode cX7_luck 1 = .ok (.i2l, 1) := by decide +kernel
theorem dX7_luck_2 : decode cX7_luck 2 = .ok (.lconst 0, 1) := by decide +kernel
theorem dX7_luck_3 : decode cX7_luck 3 = .ok (.ldc2_w 264, 3) := by decide +kernel
theorem dX7_luck_6 : decode cX7_luck 6 = .ok (.invokestatic 65, 3) := by decide +kernel
theorem dX7_luck_9 : decode cX7_luck 9 = .ok (.ifCond .eq 31, 3) := by decide +kernel
theorem dX7_luck_12 : decode cX7_luck 12 = .ok (.aload_n 0, 1) := by decide +kernel
theorem dX7_luck_13 : decode cX7_luck 13 = .ok (.iload_n 2, 1) := by decide +kernel
theorem dX7_luck_14 : decode cX7_luck 14 = .ok (.invokevirtual 207, 3) := by decide +kernel
theorem dX7_luck_17 : decode cX7_luck 17 = .ok (.ifCond .eq 23, 3) := by decide +kernel
theorem dX7_luck_20 : decode cX7_luck 20 = .ok (.iload_n 3, 1) := by decide +kernel
theorem dX7_luck_21 : decode cX7_luck 21 = .ok (.i2l, 1) := by decide +kernel
theorem dX7_luck_22 : decode cX7_luck 22 = .ok (.lconst 0, 1) := by decide +kernel
theorem dX7_luck_23 : decode cX7_luck 23 = .ok (.ldc2_w 266, 3) := by decide +kernel
theorem dX7_luck_26 : decode cX7_luck 26 = .ok (.invokestatic 65, 3) := by decide +kernel
theorem dX7_luck_29 : decode cX7_luck 29 = .ok (.ifCond .eq 11, 3) := by decide +kernel
theorem dX7_luck_32 : decode cX7_luck 32 = .ok (.iload 4, 2) := by decide +kernel
theorem dX7_luck_34 : decode cX7_luck 34 = .ok (.invokestatic 240, 3) := by decide +kernel
theorem dX7_luck_37 : decode cX7_luck 37 = .ok (.ifCond .ne 7, 3) := by decide +kernel
theorem dX7_luck_40 : decode cX7_luck 40 = .ok (.ldc2_w 268, 3) := by decide +kernel
theorem dX7_luck_43 : decode cX7_luck 43 = .ok (.lreturn, 1) := by decide +kernel
theorem dX7_luck_44 : decode cX7_luck 44 = .ok (.aload_n 0, 1) := by decide +kernel
theorem dX7_luck_45 : decode cX7_luck 45 = .ok (.iload_n 1, 1) := by decide +kernel
theorem dX7_luck_46 : decode cX7_luck 46 = .ok (.iload_n 2, 1) := by decide +kernel
theorem dX7_luck_47 : decode cX7_luck 47 = .ok (.bipush (-4), 2) := by decide +kernel
theorem dX7_luck_49 : decode cX7_luck 49 = .ok (.iload_n 3, 1) := by decide +kernel
theorem dX7_luck_50 : decode cX7_luck 50 = .ok (.invokevirtual 270, 3) := by decide +kernel
theorem dX7_luck_53 : decode cX7_luck 53 = .ok (.aload_n 0, 1) := by decide +kernel
theorem dX7_luck_54 : decode cX7_luck 54 = .ok (.getfield 254, 3) := by decide +kernel
theorem dX7_luck_57 : decode cX7_luck 57 = .ok (.aload_n 0, 1) := by decide +kernel
theorem dX7_luck_58 : decode cX7_luck 58 = .ok (.getfield 261, 3) := by decide +kernel
theorem dX7_luck_61 : decode cX7_luck 61 = .ok (.iload 4, 2) := by decide +kernel
theorem dX7_luck_63 : decode cX7_luck 63 = .ok (.invokestatic 274, 3) := by decide +kernel
theorem dX7_luck_66 : decode cX7_luck 66 = .ok (.lreturn, 1) := by decide +kernel
theorem dX7_mean_0 : decode cX7_mean 0 = .ok (.iload_n 1, 1) := by decide +kernel
theorem dX7_mean_1 : decode cX7_mean 1 = .ok (.i2l, 1) := by decide +kernel
theorem dX7_mean_2 : decode cX7_mean 2 = .ok (.lconst 0, 1) := by decide +kernel
theorem dX7_mean_3 : decode cX7_mean 3 = .ok (.ldc2_w 264, 3) := by decide +kernel
theorem dX7_mean_6 : decode cX7_mean 6 = .ok (.invokestatic 65, 3) := by decide +kernel
theorem dX7_mean_9 : decode cX7_mean 9 = .ok (.ifCond .eq 31, 3) := by decide +kernel
theorem dX7_mean_12 : decode cX7_mean 12 = .ok (.aload_n 0, 1) := by decide +kernel
theorem dX7_mean_13 : decode cX7_mean 13 = .ok (.iload_n 2, 1) := by decide +kernel
theorem dX7_mean_14 : decode cX7_mean 14 = .ok (.invokevirtual 203, 3) := by decide +kernel
theorem dX7_mean_17 : decode cX7_mean 17 = .ok (.ifCond .eq 23, 3) := by decide +kernel
theorem dX7_mean_20 : decode cX7_mean 20 = .ok (.iload_n 3, 1) := by decide +kernel
theorem dX7_mean_21 : decode cX7_mean 21 = .ok (.i2l, 1) := by decide +kernel
theorem dX7_mean_22 : decode cX7_mean 22 = .ok (.lconst 0, 1) := by decide +kernel
theorem dX7_mean_23 : decode cX7_mean 23 = .ok (.ldc2_w 266, 3) := by decide +kernel
theorem dX7_mean_26 : decode cX7_mean 26 = .ok (.invokestatic 65, 3) := by decide +kernel
theorem dX7_mean_29 : decode cX7_mean 29 = .ok (.ifCond .eq 11, 3) := by decide +kernel
theorem dX7_mean_32 : decode cX7_mean 32 = .ok (.iload 4, 2) := by decide +kernel
theorem dX7_mean_34 : decode cX7_mean 34 = .ok (.invokestatic 240, 3) := by decide +kernel
theorem dX7_mean_37 : decode cX7_mean 37 = .ok (.ifCond .ne 7, 3) := by decide +kernel
theorem dX7_mean_40 : decode cX7_mean 40 = .ok (.ldc2_w 268, 3) := by decide +kernel
theorem dX7_mean_43 : decode cX7_mean 43 = .ok (.lreturn, 1) := by decide +kernel
theorem dX7_mean_44 : decode cX7_mean 44 = .ok (.aload_n 0, 1) := by decide +kernel
theorem dX7_mean_45 : decode cX7_mean 45 = .ok (.iload_n 1, 1) := by decide +kernel
theorem dX7_mean_46 : decode cX7_mean 46 = .ok (.bipush (-4), 2) := by decide +kernel
theorem dX7_mean_48 : decode cX7_mean 48 = .ok (.iload_n 2, 1) := by decide +kernel
theorem dX7_mean_49 : decode cX7_mean 49 = .ok (.iload_n 3, 1) := by decide +kernel
theorem dX7_mean_50 : decode cX7_mean 50 = .ok (.invokevirtual 270, 3) := by decide +kernel
theorem dX7_mean_53 : decode cX7_mean 53 = .ok (.aload_n 0, 1) := by decide +kernel
theorem dX7_mean_54 : decode cX7_mean 54 = .ok (.getfield 258, 3) := by decide +kernel
theorem dX7_mean_57 : decode cX7_mean 57 = .ok (.aload_n 0, 1) := by decide +kernel
theorem dX7_mean_58 : decode cX7_mean 58 = .ok (.getfield 261, 3) := by decide +kernel
theorem dX7_mean_61 : decode cX7_mean 61 = .ok (.iload 4, 2) := by decide +kernel
theorem dX7_mean_63 : decode cX7_mean 63 = .ok (.invokestatic 274, 3) := by decide +kernel
theorem dX7_mean_66 : decode cX7_mean 66 = .ok (.lreturn, 1) := by decide +kernel
theorem dX7_see_0 : decode cX7_see 0 = .ok (.iload_n 1, 1) := by decide +kernel
theorem dX7_see_1 : decode cX7_see 1 = .ok (.i2l, 1) := by decide +kernel
theorem dX7_see_2 : decode cX7_see 2 = .ok (.lconst 0, 1) := by decide +kernel
theorem dX7_see_3 : decode cX7_see 3 = .ok (.ldc2_w 278, 3) := by decide +kernel
theorem dX7_see_6 : decode cX7_see 6 = .ok (.invokestatic 65, 3) := by decide +kernel
theorem dX7_see_9 : decode cX7_see 9 = .ok (.ifCond .eq 23, 3) := by decide +kernel
theorem dX7_see_12 : decode cX7_see 12 = .ok (.aload_n 0, 1) := by decide +kernel
theorem dX7_see_13 : decode cX7_see 13 = .ok (.iload_n 2, 1) := by decide +kernel
theorem dX7_see_14 : decode cX7_see 14 = .ok (.invokevirtual 203, 3) := by decide +kernel
theorem dX7_see_17 : decode cX7_see 17 = .ok (.ifCond .eq 15, 3) := by decide +kernel
theorem dX7_see_20 : decode cX7_see 20 = .ok (.iload_n 3, 1) := by decide +kernel
theorem dX7_see_21 : decode cX7_see 21 = .ok (.i2l, 1) := by decide +kernel
theorem dX7_see_22 : decode cX7_see 22 = .ok (.lconst 0, 1) := by decide +kernel
theorem dX7_see_23 : decode cX7_see 23 = .ok (.ldc2_w 280, 3) := by decide +kernel
theorem dX7_see_26 : decode cX7_see 26 = .ok (.invokestatic 65, 3) := by decide +kernel
theorem dX7_see_29 : decode cX7_see 29 = .ok (.ifCond .ne 5, 3) := by decide +kernel
theorem dX7_see_32 : decode cX7_see 32 = .ok (.iconst (-1), 1) := by decide +kernel
theorem dX7_see_33 : decode cX7_see 33 = .ok (.ireturn, 1) := by decide +kernel
theorem dX7_see_34 : decode cX7_see 34 = .ok (.aload_n 0, 1) := by decide +kernel
theorem dX7_see_35 : decode cX7_see 35 = .ok (.getfield 7, 3) := by decide +kernel
theorem dX7_see_38 : decode cX7_see 38 = .ok (.bipush 42, 2) := by decide +kernel
theorem dX7_see_40 : decode cX7_see 40 = .ok (.iaload, 1) := by decide +kernel
theorem dX7_see_41 : decode cX7_see 41 = .ok (.bipush 6, 2) := by decide +kernel
theorem dX7_see_43 : decode cX7_see 43 = .ok (.if_icmp .ne 6, 3) := by decide +kernel
theorem dX7_see_46 : decode cX7_see 46 = .ok (.bipush (-3), 2) := by decide +kernel
theorem dX7_see_48 : decode cX7_see 48 = .ok (.ireturn, 1) := by decide +kernel
theorem dX7_see_49 : decode cX7_see 49 = .ok (.bipush 43, 2) := by decide +kernel
theorem dX7_see_51 : decode cX7_see 51 = .ok (.iconst 3, 1) := by decide +kernel
theorem dX7_see_52 : decode cX7_see 52 = .ok (.aload_n 0, 1) := by decide +kernel
theorem dX7_see_53 : decode cX7_see 53 = .ok (.getfield 7, 3) := by decide +kernel
theorem dX7_see_56 : decode cX7_see 56 = .ok (.bipush 42, 2) := by decide +kernel
theorem dX7_see_58 : decode cX7_see 58 = .ok (.iaload, 1) := by decide +kernel
theorem dX7_see_59 : decode cX7_see 59 = .ok (.imul, 1) := by decide +kernel
theorem dX7_see_60 : decode cX7_see 60 = .ok (.iadd, 1) := by decide +kernel
theorem dX7_see_61 : decode cX7_see 61 = .ok (.istore 4, 2) := by decide +kernel
theorem dX7_see_63 : decode cX7_see 63 = .ok (.aload_n 0, 1) := by decide +kernel
theorem dX7_see_64 : decode cX7_see 64 = .ok (.getfield 7, 3) := by decide +kernel
theorem dX7_see_67 : decode cX7_see 67 = .ok (.iload 4, 2) := by decide +kernel
theorem dX7_see_69 : decode cX7_see 69 = .ok (.iload_n 1, 1) := by decide +kernel
theorem dX7_see_70 : decode cX7_see 70 = .ok (.iastore, 1) := by decide +kernel
theorem dX7_see_71 : decode cX7_see 71 = .ok (.aload_n 0, 1) := by decide +kernel
theorem dX7_see_72 : decode cX7_see 72 = .ok (.getfield 7, 3) := by decide +kernel
theorem dX7_see_75 : decode cX7_see 75 = .ok (.iload 4, 2) := by decide +kernel
theorem dX7_see_77 : decode cX7_see 77 = .ok (.iconst 1, 1) := by decide +kernel
theorem dX7_see_78 : decode cX7_see 78 = .ok (.iadd, 1) := by decide +kernel
theorem dX7_see_79 : decode cX7_see 79 = .ok (.iload_n 2, 1) := by decide +kernel
theorem dX7_see_80 : decode cX7_see 80 = .ok (.iastore, 1) := by decide +kernel
theorem dX7_see_81 : decode cX7_see 81 = .ok (.aload_n 0, 1) := by decide +kernel
theorem dX7_see_82 : decode cX7_see 82 = .ok (.getfield 7, 3) := by decide +kernel
theorem dX7_see_85 : decode cX7_see 85 = .ok (.iload 4, 2) := by decide +kernel
theorem dX7_see_87 : decode cX7_see 87 = .ok (.iconst 2, 1) := by decide +kernel
theorem dX7_see_88 : decode cX7_see 88 = .ok (.iadd, 1) := by decide +kernel
theorem dX7_see_89 : decode cX7_see 89 = .ok (.iload_n 3, 1) := by decide +kernel
theorem dX7_see_90 : decode cX7_see 90 = .ok (.iastore, 1) := by decide +kernel
theorem dX7_see_91 : decode cX7_see 91 = .ok (.aload_n 0, 1) := by decide +kernel
theorem dX7_see_92 : decode cX7_see 92 = .ok (.getfield 7, 3) := by decide +kernel
theorem dX7_see_95 : decode cX7_see 95 = .ok (.bipush 42, 2) := by decide +kernel
theorem dX7_see_97 : decode cX7_see 97 = .ok (.dup2, 1) := by decide +kernel
theorem dX7_see_98 : decode cX7_see 98 = .ok (.iaload, 1) := by decide +kernel
theorem dX7_see_99 : decode cX7_see 99 = .ok (.iconst 1, 1) := by decide +kernel
theorem dX7_see_100 : decode cX7_see 100 = .ok (.iadd, 1) := by decide +kernel
theorem dX7_see_101 : decode cX7_see 101 = .ok (.iastore, 1) := by decide +kernel
theorem dX7_see_102 : decode cX7_see 102 = .ok (.aload_n 0, 1) := by decide +kernel
theorem dX7_see_103 : decode cX7_see 103 = .ok (.getfield 7, 3) := by decide +kernel
theorem dX7_see_106 : decode cX7_see 106 = .ok (.bipush 42, 2) := by decide +kernel
theorem dX7_see_108 : decode cX7_see 108 = .ok (.iaload, 1) := by decide +kernel
theorem dX7_see_109 : decode cX7_see 109 = .ok (.ireturn, 1) := by decide +kernel
theorem dX7_forget_0 : decode cX7_forget 0 = .ok (.iload_n 1, 1) := by decide +kernel
theorem dX7_forget_1 : decode cX7_forget 1 = .ok (.i2l, 1) := by decide +kernel
theorem dX7_forget_2 : decode cX7_forget 2 = .ok (.lconst 0, 1) := by decide +kernel
theorem dX7_forget_3 : decode cX7_forget 3 = .ok (.aload_n 0, 1) := by decide +kernel
theorem dX7_forget_4 : decode cX7_forget 4 = .ok (.getfield 7, 3) := by decide +kernel
theorem dX7_forget_7 : decode cX7_forget 7 = .ok (.bipush 42, 2) := by decide +kernel
theorem dX7_forget_9 : decode cX7_forget 9 = .ok (.iaload, 1) := by decide +kernel
theorem dX7_forget_10 : decode cX7_forget 10 = .ok (.i2l, 1) := by decide +kernel
theorem dX7_forget_11 : decode cX7_forget 11 = .ok (.invokestatic 65, 3) := by decide +kernel
theorem dX7_forget_14 : decode cX7_forget 14 = .ok (.ifCond .eq 13, 3) := by decide +kernel
theorem dX7_forget_17 : decode cX7_forget 17 = .ok (.aload_n 0, 1) := by decide +kernel
theorem dX7_forget_18 : decode cX7_forget 18 = .ok (.bipush 42, 2) := by decide +kernel
theorem dX7_forget_20 : decode cX7_forget 20 = .ok (.iload_n 1, 1) := by decide +kernel
theorem dX7_forget_21 : decode cX7_forget 21 = .ok (.invokevirtual 218, 3) := by decide +kernel
theorem dX7_forget_24 : decode cX7_forget 24 = .ok (.goto 4, 3) := by decide +kernel
theorem dX7_forget_27 : decode cX7_forget 27 = .ok (.iconst (-1), 1) := by decide +kernel
theorem dX7_forget_28 : decode cX7_forget 28 = .ok (.ireturn, 1) := by decide +kernel
theorem dX7_isSoWith_0 : decode cX7_isSoWith 0 = .ok (.aload_n 0, 1) := by decide +kernel
theorem dX7_isSoWith_1 : decode cX7_isSoWith 1 = .ok (.invokevirtual 191, 3) := by decide +kernel
theorem dX7_isSoWith_4 : decode cX7_isSoWith 4 = .ok (.aload_n 0, 1) := by decide +kernel
theorem dX7_isSoWith_5 : decode cX7_isSoWith 5 = .ok (.iload_n 1, 1) := by decide +kernel
theorem dX7_isSoWith_6 : decode cX7_isSoWith 6 = .ok (.iload_n 2, 1) := by decide +kernel
theorem dX7_isSoWith_7 : decode cX7_isSoWith 7 = .ok (.iload_n 3, 1) := by decide +kernel
theorem dX7_isSoWith_8 : decode cX7_isSoWith 8 = .ok (.invokevirtual 158, 3) := by decide +kernel
theorem dX7_isSoWith_11 : decode cX7_isSoWith 11 = .ok (.iconst 0, 1) := by decide +kernel
theorem dX7_isSoWith_12 : decode cX7_isSoWith 12 = .ok (.istore 4, 2) := by decide +kernel
theorem dX7_isSoWith_14 : decode cX7_isSoWith 14 = .ok (.iload 4, 2) := by decide +kernel
theorem dX7_isSoWith_16 : decode cX7_isSoWith 16 = .ok (.bipush 20, 2) := by decide +kernel
theorem dX7_isSoWith_18 : decode cX7_isSoWith 18 = .ok (.if_icmp .gt 53, 3) := by decide +kernel
theorem dX7_isSoWith_21 : decode cX7_isSoWith 21 = .ok (.iconst 0, 1) := by decide +kernel
theorem dX7_isSoWith_22 : decode cX7_isSoWith 22 = .ok (.istore 5, 2) := by decide +kernel
theorem dX7_isSoWith_24 : decode cX7_isSoWith 24 = .ok (.iload 5, 2) := by decide +kernel
theorem dX7_isSoWith_26 : decode cX7_isSoWith 26 = .ok (.aload_n 0, 1) := by decide +kernel
theorem dX7_isSoWith_27 : decode cX7_isSoWith 27 = .ok (.getfield 60, 3) := by decide +kernel
theorem dX7_isSoWith_30 : decode cX7_isSoWith 30 = .ok (.if_icmp .ge 27, 3) := by decide +kernel
theorem dX7_isSoWith_33 : decode cX7_isSoWith 33 = .ok (.aload_n 0, 1) := by decide +kernel
theorem dX7_isSoWith_34 : decode cX7_isSoWith 34 = .ok (.getfield 26, 3) := by decide +kernel
theorem dX7_isSoWith_37 : decode cX7_isSoWith 37 = .ok (.iconst 4, 1) := by decide +kernel
theorem dX7_isSoWith_38 : decode cX7_isSoWith 38 = .ok (.iload 4, 2) := by decide +kernel
theorem dX7_isSoWith_40 : decode cX7_isSoWith 40 = .ok (.imul, 1) := by decide +kernel
theorem dX7_isSoWith_41 : decode cX7_isSoWith 41 = .ok (.iload 5, 2) := by decide +kernel
theorem dX7_isSoWith_43 : decode cX7_isSoWith 43 = .ok (.iadd, 1) := by decide +kernel
theorem dX7_isSoWith_44 : decode cX7_isSoWith 44 = .ok (.aload_n 0, 1) := by decide +kernel
theorem dX7_isSoWith_45 : decode cX7_isSoWith 45 = .ok (.iload 5, 2) := by decide +kernel
theorem dX7_isSoWith_47 : decode cX7_isSoWith 47 = .ok (.invokevirtual 149, 3) := by decide +kernel
theorem dX7_isSoWith_50 : decode cX7_isSoWith 50 = .ok (.iastore, 1) := by decide +kernel
theorem dX7_isSoWith_51 : decode cX7_isSoWith 51 = .ok (.iinc 5 1, 3) := by decide +kernel
theorem dX7_isSoWith_54 : decode cX7_isSoWith 54 = .ok (.goto (-30), 3) := by decide +kernel
theorem dX7_isSoWith_57 : decode cX7_isSoWith 57 = .ok (.aload_n 0, 1) := by decide +kernel
theorem dX7_isSoWith_58 : decode cX7_isSoWith 58 = .ok (.aload_n 0, 1) := by decide +kernel
theorem dX7_isSoWith_59 : decode cX7_isSoWith 59 = .ok (.invokevirtual 181, 3) := by decide +kernel
theorem dX7_isSoWith_62 : decode cX7_isSoWith 62 = .ok (.invokevirtual 184, 3) := by decide +kernel
theorem dX7_isSoWith_65 : decode cX7_isSoWith 65 = .ok (.iinc 4 1, 3) := by decide +kernel
theorem dX7_isSoWith_68 : decode cX7_isSoWith 68 = .ok (.goto (-54), 3) := by decide +kernel
theorem dX7_isSoWith_71 : decode cX7_isSoWith 71 = .ok (.iconst 1, 1) := by decide +kernel
theorem dX7_isSoWith_72 : decode cX7_isSoWith 72 = .ok (.istore 4, 2) := by decide +kernel
theorem dX7_isSoWith_74 : decode cX7_isSoWith 74 = .ok (.iconst 0, 1) := by decide +kernel
theorem dX7_isSoWith_75 : decode cX7_isSoWith 75 = .ok (.istore 5, 2) := by decide +kernel
theorem dX7_isSoWith_77 : decode cX7_isSoWith 77 = .ok (.iload 5, 2) := by decide +kernel
theorem dX7_isSoWith_79 : decode cX7_isSoWith 79 = .ok (.aload_n 0, 1) := by decide +kernel
theorem dX7_isSoWith_80 : decode cX7_isSoWith 80 = .ok (.getfield 7, 3) := by decide +kernel
theorem dX7_isSoWith_83 : decode cX7_isSoWith 83 = .ok (.bipush 42, 2) := by decide +kernel
theorem dX7_isSoWith_85 : decode cX7_isSoWith 85 = .ok (.iaload, 1) := by decide +kernel
theorem dX7_isSoWith_86 : decode cX7_isSoWith 86 = .ok (.if_icmp .ge 66, 3) := by decide +kernel
theorem dX7_isSoWith_89 : decode cX7_isSoWith 89 = .ok (.bipush 43, 2) := by decide +kernel
theorem dX7_isSoWith_91 : decode cX7_isSoWith 91 = .ok (.iconst 3, 1) := by decide +kernel
theorem dX7_isSoWith_92 : decode cX7_isSoWith 92 = .ok (.iload 5, 2) := by decide +kernel
theorem dX7_isSoWith_94 : decode cX7_isSoWith 94 = .ok (.imul, 1) := by decide +kernel
theorem dX7_isSoWith_95 : decode cX7_isSoWith 95 = .ok (.iadd, 1) := by decide +kernel
theorem dX7_isSoWith_96 : decode cX7_isSoWith 96 = .ok (.istore 6, 2) := by decide +kernel
theorem dX7_isSoWith_98 : decode cX7_isSoWith 98 = .ok (.iload 4, 2) := by decide +kernel
theorem dX7_isSoWith_100 : decode cX7_isSoWith 100 = .ok (.ifCond .eq 43, 3) := by decide +kernel
theorem dX7_isSoWith_103 : decode cX7_isSoWith 103 = .ok (.aload_n 0, 1) := by decide +kernel
theorem dX7_isSoWith_104 : decode cX7_isSoWith 104 = .ok (.getfield 26, 3) := by decide +kernel
theorem dX7_isSoWith_107 : decode cX7_isSoWith 107 = .ok (.iconst 4, 1) := by decide +kernel
theorem dX7_isSoWith_108 : decode cX7_isSoWith 108 = .ok (.aload_n 0, 1) := by decide +kernel
theorem dX7_isSoWith_109 : decode cX7_isSoWith 109 = .ok (.getfield 7, 3) := by decide +kernel
theorem dX7_isSoWith_112 : decode cX7_isSoWith 112 = .ok (.iload 6, 2) := by decide +kernel
theorem dX7_isSoWith_114 : decode cX7_isSoWith 114 = .ok (.iaload, 1) := by decide +kernel
theorem dX7_isSoWith_115 : decode cX7_isSoWith 115 = .ok (.imul, 1) := by decide +kernel
theorem dX7_isSoWith_116 : decode cX7_isSoWith 116 = .ok (.aload_n 0, 1) := by decide +kernel
theorem dX7_isSoWith_117 : decode cX7_isSoWith 117 = .ok (.getfield 7, 3) := by decide +kernel
theorem dX7_isSoWith_120 : decode cX7_isSoWith 120 = .ok (.iload 6, 2) := by decide +kernel
theorem dX7_isSoWith_122 : decode cX7_isSoWith 122 = .ok (.iconst 1, 1) := by decide +kernel
theorem dX7_isSoWith_123 : decode cX7_isSoWith 123 = .ok (.iadd, 1) := by decide +kernel
theorem dX7_isSoWith_124 : decode cX7_isSoWith 124 = .ok (.iaload, 1) := by decide +kernel
theorem dX7_isSoWith_125 : decode cX7_isSoWith 125 = .ok (.iadd, 1) := by decide +kernel
theorem dX7_isSoWith_126 : decode cX7_isSoWith 126 = .ok (.iaload, 1) := by decide +kernel
theorem dX7_isSoWith_127 : decode cX7_isSoWith 127 = .ok (.aload_n 0, 1) := by decide +kernel
theorem dX7_isSoWith_128 : decode cX7_isSoWith 128 = .ok (.getfield 7, 3) := by decide +kernel
theorem dX7_isSoWith_131 : decode cX7_isSoWith 131 = .ok (.iload 6, 2) := by decide +kernel
theorem dX7_isSoWith_133 : decode cX7_isSoWith 133 = .ok (.iconst 2, 1) := by decide +kernel
theorem dX7_isSoWith_134 : decode cX7_isSoWith 134 = .ok (.iadd, 1) := by decide +kernel
theorem dX7_isSoWith_135 : decode cX7_isSoWith 135 = .ok (.iaload, 1) := by decide +kernel
theorem dX7_isSoWith_136 : decode cX7_isSoWith 136 = .ok (.if_icmp .ne 7, 3) := by decide +kernel
theorem dX7_isSoWith_139 : decode cX7_isSoWith 139 = .ok (.iconst 1, 1) := by decide +kernel
theorem dX7_isSoWith_140 : decode cX7_isSoWith 140 = .ok (.goto 4, 3) := by decide +kernel
theorem dX7_isSoWith_143 : decode cX7_isSoWith 143 = .ok (.iconst 0, 1) := by decide +kernel
theorem dX7_isSoWith_144 : decode cX7_isSoWith 144 = .ok (.istore 4, 2) := by decide +kernel
theorem dX7_isSoWith_146 : decode cX7_isSoWith 146 = .ok (.iinc 5 1, 3) := by decide +kernel
theorem dX7_isSoWith_149 : decode cX7_isSoWith 149 = .ok (.goto (-72), 3) := by decide +kernel
theorem dX7_isSoWith_152 : decode cX7_isSoWith 152 = .ok (.iload 4, 2) := by decide +kernel
theorem dX7_isSoWith_154 : decode cX7_isSoWith 154 = .ok (.ireturn, 1) := by decide +kernel
theorem dX7_owners_0 : decode cX7_owners 0 = .ok (.aload_n 0, 1) := by decide +kernel
theorem dX7_owners_1 : decode cX7_owners 1 = .ok (.iload_n 1, 1) := by decide +kernel
theorem dX7_owners_2 : decode cX7_owners 2 = .ok (.invokevirtual 207, 3) := by decide +kernel
theorem dX7_owners_5 : decode cX7_owners 5 = .ok (.ifCond .ne 5, 3) := by decide +kernel
theorem dX7_owners_8 : decode cX7_owners 8 = .ok (.iconst (-1), 1) := by decide +kernel
theorem dX7_owners_9 : decode cX7_owners 9 = .ok (.ireturn, 1) := by decide +kernel
theorem dX7_owners_10 : decode cX7_owners 10 = .ok (.iconst 0, 1) := by decide +kernel
theorem dX7_owners_11 : decode cX7_owners 11 = .ok (.istore_n 2, 1) := by decide +kernel
theorem dX7_owners_12 : decode cX7_owners 12 = .ok (.iconst 0, 1) := by decide +kernel
theorem dX7_owners_13 : decode cX7_owners 13 = .ok (.istore_n 3, 1) := by decide +kernel
theorem dX7_owners_14 : decode cX7_owners 14 = .ok (.iload_n 3, 1) := by decide +kernel
theorem dX7_owners_15 : decode cX7_owners 15 = .ok (.aload_n 0, 1) := by decide +kernel
theorem dX7_owners_16 : decode cX7_owners 16 = .ok (.getfield 60, 3) := by decide +kernel
theorem dX7_owners_19 : decode cX7_owners 19 = .ok (.if_icmp .ge 24, 3) := by decide +kernel
theorem dX7_owners_22 : decode cX7_owners 22 = .ok (.iload_n 2, 1) := by decide +kernel
theorem dX7_owners_23 : decode cX7_owners 23 = .ok (.aload_n 0, 1) := by decide +kernel
theorem dX7_owners_24 : decode cX7_owners 24 = .ok (.iload_n 1, 1) := by decide +kernel
theorem dX7_owners_25 : decode cX7_owners 25 = .ok (.iconst 2, 1) := by decide +kernel
theorem dX7_owners_26 : decode cX7_owners 26 = .ok (.iload_n 3, 1) := by decide +kernel
theorem dX7_owners_27 : decode cX7_owners 27 = .ok (.invokevirtual 282, 3) := by decide +kernel
theorem dX7_owners_30 : decode cX7_owners 30 = .ok (.invokestatic 187, 3) := by decide +kernel
theorem dX7_owners_33 : decode cX7_owners 33 = .ok (.iload_n 3, 1) := by decide +kernel
theorem dX7_owners_34 : decode cX7_owners 34 = .ok (.ishl, 1) := by decide +kernel
theorem dX7_owners_35 : decode cX7_owners 35 = .ok (.ior, 1) := by decide +kernel
theorem dX7_owners_36 : decode cX7_owners 36 = .ok (.istore_n 2, 1) := by decide +kernel
theorem dX7_owners_37 : decode cX7_owners 37 = .ok (.iinc 3 1, 3) := by decide +kernel
theorem dX7_owners_40 : decode cX7_owners 40 = .ok (.goto (-26), 3) := by decide +kernel
theorem dX7_owners_43 : decode cX7_owners 43 = .ok (.iload_n 2, 1) := by decide +kernel
theorem dX7_owners_44 : decode cX7_owners 44 = .ok (.ireturn, 1) := by decide +kernel
theorem dX7_kinds_0 : decode cX7_kinds 0 = .ok (.aload_n 0, 1) := by decide +kernel
theorem dX7_kinds_1 : decode cX7_kinds 1 = .ok (.iload_n 1, 1) := by decide +kernel
theorem dX7_kinds_2 : decode cX7_kinds 2 = .ok (.invokevirtual 207, 3) := by decide +kernel
theorem dX7_kinds_5 : decode cX7_kinds 5 = .ok (.ifCond .ne 5, 3) := by decide +kernel
theorem dX7_kinds_8 : decode cX7_kinds 8 = .ok (.iconst (-1), 1) := by decide +kernel
theorem dX7_kinds_9 : decode cX7_kinds 9 = .ok (.ireturn, 1) := by decide +kernel
theorem dX7_kinds_10 : decode cX7_kinds 10 = .ok (.iconst 0, 1) := by decide +kernel
theorem dX7_kinds_11 : decode cX7_kinds 11 = .ok (.istore_n 2, 1) := by decide +kernel
theorem dX7_kinds_12 : decode cX7_kinds 12 = .ok (.iconst 0, 1) := by decide +kernel
theorem dX7_kinds_13 : decode cX7_kinds 13 = .ok (.istore_n 3, 1) := by decide +kernel
theorem dX7_kinds_14 : decode cX7_kinds 14 = .ok (.iload_n 3, 1) := by decide +kernel
theorem dX7_kinds_15 : decode cX7_kinds 15 = .ok (.iconst 4, 1) := by decide +kernel
theorem dX7_kinds_16 : decode cX7_kinds 16 = .ok (.if_icmp .ge 24, 3) := by decide +kernel
theorem dX7_kinds_19 : decode cX7_kinds 19 = .ok (.iload_n 2, 1) := by decide +kernel
theorem dX7_kinds_20 : decode cX7_kinds 20 = .ok (.aload_n 0, 1) := by decide +kernel
theorem dX7_kinds_21 : decode cX7_kinds 21 = .ok (.iload_n 1, 1) := by decide +kernel
theorem dX7_kinds_22 : decode cX7_kinds 22 = .ok (.iconst 0, 1) := by decide +kernel
theorem dX7_kinds_23 : decode cX7_kinds 23 = .ok (.iload_n 3, 1) := by decide +kernel
theorem dX7_kinds_24 : decode cX7_kinds 24 = .ok (.invokevirtual 282, 3) := by decide +kernel
theorem dX7_kinds_27 : decode cX7_kinds 27 = .ok (.invokestatic 187, 3) := by decide +kernel
theorem dX7_kinds_30 : decode cX7_kinds 30 = .ok (.iload_n 3, 1) := by decide +kernel
theorem dX7_kinds_31 : decode cX7_kinds 31 = .ok (.ishl, 1) := by decide +kernel
theorem dX7_kinds_32 : decode cX7_kinds 32 = .ok (.ior, 1) := by decide +kernel
theorem dX7_kinds_33 : decode cX7_kinds 33 = .ok (.istore_n 2, 1) := by decide +kernel
theorem dX7_kinds_34 : decode cX7_kinds 34 = .ok (.iinc 3 1, 3) := by decide +kernel
theorem dX7_kinds_37 : decode cX7_kinds 37 = .ok (.goto (-23), 3) := by decide +kernel
theorem dX7_kinds_40 : decode cX7_kinds 40 = .ok (.iload_n 2, 1) := by decide +kernel
theorem dX7_kinds_41 : decode cX7_kinds 41 = .ok (.ireturn, 1) := by decide +kernel
theorem dX7_ask_0 : decode cX7_ask 0 = .ok (.aload_n 0, 1) := by decide +kernel
theorem dX7_ask_1 : decode cX7_ask 1 = .ok (.iload_n 1, 1) := by decide +kernel
theorem dX7_ask_2 : decode cX7_ask 2 = .ok (.invokevirtual 207, 3) := by decide +kernel
theorem dX7_ask_5 : decode cX7_ask 5 = .ok (.ifCond .eq 10, 3) := by decide +kernel
theorem dX7_ask_8 : decode cX7_ask 8 = .ok (.iload_n 2, 1) := by decide +kernel
theorem dX7_ask_9 : decode cX7_ask 9 = .ok (.invokestatic 240, 3) := by decide +kernel
theorem dX7_ask_12 : decode cX7_ask 12 = .ok (.ifCond .ne 5, 3) := by decide +kernel
theorem dX7_ask_15 : decode cX7_ask 15 = .ok (.iconst (-1), 1) := by decide +kernel
theorem dX7_ask_16 : decode cX7_ask 16 = .ok (.ireturn, 1) := by decide +kernel
theorem dX7_ask_17 : decode cX7_ask 17 = .ok (.iconst 0, 1) := by decide +kernel
theorem dX7_ask_18 : decode cX7_ask 18 = .ok (.istore_n 3, 1) := by decide +kernel
theorem dX7_ask_19 : decode cX7_ask 19 = .ok (.iconst 0, 1) := by decide +kernel
theorem dX7_ask_20 : decode cX7_ask 20 = .ok (.istore 4, 2) := by decide +kernel
theorem dX7_ask_22 : decode cX7_ask 22 = .ok (.iload 4, 2) := by decide +kernel
theorem dX7_ask_24 : decode cX7_ask 24 = .ok (.aload_n 0, 1) := by decide +kernel
theorem dX7_ask_25 : decode cX7_ask 25 = .ok (.getfield 60, 3) := by decide +kernel
theorem dX7_ask_28 : decode cX7_ask 28 = .ok (.if_icmp .ge 58, 3) := by decide +kernel
theorem dX7_ask_31 : decode cX7_ask 31 = .ok (.aload_n 0, 1) := by decide +kernel
theorem dX7_ask_32 : decode cX7_ask 32 = .ok (.iload_n 1, 1) := by decide +kernel
theorem dX7_ask_33 : decode cX7_ask 33 = .ok (.iconst 2, 1) := by decide +kernel
theorem dX7_ask_34 : decode cX7_ask 34 = .ok (.iload 4, 2) := by decide +kernel
theorem dX7_ask_36 : decode cX7_ask 36 = .ok (.invokevirtual 282, 3) := by decide +kernel
theorem dX7_ask_39 : decode cX7_ask 39 = .ok (.ifCond .eq 41, 3) := by decide +kernel
theorem dX7_ask_42 : decode cX7_ask 42 = .ok (.iconst 0, 1) := by decide +kernel
theorem dX7_ask_43 : decode cX7_ask 43 = .ok (.istore 5, 2) := by decide +kernel
theorem dX7_ask_45 : decode cX7_ask 45 = .ok (.iload 5, 2) := by decide +kernel
theorem dX7_ask_47 : decode cX7_ask 47 = .ok (.bipush 84, 2) := by decide +kernel
theorem dX7_ask_49 : decode cX7_ask 49 = .ok (.if_icmp .ge 28, 3) := by decide +kernel
theorem dX7_ask_52 : decode cX7_ask 52 = .ok (.aload_n 0, 1) := by decide +kernel
theorem dX7_ask_53 : decode cX7_ask 53 = .ok (.getfield 29, 3) := by decide +kernel
theorem dX7_ask_56 : decode cX7_ask 56 = .ok (.bipush 84, 2) := by decide +kernel
theorem dX7_ask_58 : decode cX7_ask 58 = .ok (.iload_n 3, 1) := by decide +kernel
theorem dX7_ask_59 : decode cX7_ask 59 = .ok (.imul, 1) := by decide +kernel
theorem dX7_ask_60 : decode cX7_ask 60 = .ok (.iload 5, 2) := by decide +kernel
theorem dX7_ask_62 : decode cX7_ask 62 = .ok (.iadd, 1) := by decide +kernel
theorem dX7_ask_63 : decode cX7_ask 63 = .ok (.aload_n 0, 1) := by decide +kernel
theorem dX7_ask_64 : decode cX7_ask 64 = .ok (.getfield 26, 3) := by decide +kernel
theorem dX7_ask_67 : decode cX7_ask 67 = .ok (.iload 5, 2) := by decide +kernel
theorem dX7_ask_69 : decode cX7_ask 69 = .ok (.iaload, 1) := by decide +kernel
theorem dX7_ask_70 : decode cX7_ask 70 = .ok (.iastore, 1) := by decide +kernel
theorem dX7_ask_71 : decode cX7_ask 71 = .ok (.iinc 5 1, 3) := by decide +kernel
theorem dX7_ask_74 : decode cX7_ask 74 = .ok (.goto (-29), 3) := by decide +kernel
theorem dX7_ask_77 : decode cX7_ask 77 = .ok (.iinc 3 1, 3) := by decide +kernel
theorem dX7_ask_80 : decode cX7_ask 80 = .ok (.iinc 4 1, 3) := by decide +kernel
theorem dX7_ask_83 : decode cX7_ask 83 = .ok (.goto (-61), 3) := by decide +kernel
theorem dX7_ask_86 : decode cX7_ask 86 = .ok (.iload_n 3, 1) := by decide +kernel
theorem dX7_ask_87 : decode cX7_ask 87 = .ok (.istore 4, 2) := by decide +kernel
theorem dX7_ask_89 : decode cX7_ask 89 = .ok (.bipush (-4), 2) := by decide +kernel
theorem dX7_ask_91 : decode cX7_ask 91 = .ok (.istore 5, 2) := by decide +kernel
theorem dX7_ask_93 : decode cX7_ask 93 = .ok (.iconst 0, 1) := by decide +kernel
theorem dX7_ask_94 : decode cX7_ask 94 = .ok (.istore 6, 2) := by decide +kernel
theorem dX7_ask_96 : decode cX7_ask 96 = .ok (.iload 6, 2) := by decide +kernel
theorem dX7_ask_98 : decode cX7_ask 98 = .ok (.bipush 84, 2) := by decide +kernel
theorem dX7_ask_100 : decode cX7_ask 100 = .ok (.if_icmp .ge 129, 3) := by decide +kernel
theorem dX7_ask_103 : decode cX7_ask 103 = .ok (.iconst 0, 1) := by decide +kernel
theorem dX7_ask_104 : decode cX7_ask 104 = .ok (.istore 7, 2) := by decide +kernel
theorem dX7_ask_106 : decode cX7_ask 106 = .ok (.iconst 0, 1) := by decide +kernel
theorem dX7_ask_107 : decode cX7_ask 107 = .ok (.istore 8, 2) := by decide +kernel
theorem dX7_ask_109 : decode cX7_ask 109 = .ok (.iload 8, 2) := by decide +kernel
theorem dX7_ask_111 : decode cX7_ask 111 = .ok (.iload_n 3, 1) := by decide +kernel
theorem dX7_ask_112 : decode cX7_ask 112 = .ok (.if_icmp .ge 85, 3) := by decide +kernel
theorem dX7_ask_115 : decode cX7_ask 115 = .ok (.iconst 0, 1) := by decide +kernel
theorem dX7_ask_116 : decode cX7_ask 116 = .ok (.istore 9, 2) := by decide +kernel
theorem dX7_ask_118 : decode cX7_ask 118 = .ok (.iconst 0, 1) := by decide +kernel
theorem dX7_ask_119 : decode cX7_ask 119 = .ok (.istore 10, 2) := by decide +kernel
theorem dX7_ask_121 : decode cX7_ask 121 = .ok (.iload 10, 2) := by decide +kernel
theorem dX7_ask_123 : decode cX7_ask 123 = .ok (.iload_n 3, 1) := by decide +kernel
theorem dX7_ask_124 : decode cX7_ask 124 = .ok (.if_icmp .ge 51, 3) := by decide +kernel
theorem dX7_ask_127 : decode cX7_ask 127 = .ok (.iload 9, 2) := by decide +kernel
theorem dX7_ask_129 : decode cX7_ask 129 = .ok (.aload_n 0, 1) := by decide +kernel
theorem dX7_ask_130 : decode cX7_ask 130 = .ok (.getfield 29, 3) := by decide +kernel
theorem dX7_ask_133 : decode cX7_ask 133 = .ok (.bipush 84, 2) := by decide +kernel
theorem dX7_ask_135 : decode cX7_ask 135 = .ok (.iload 8, 2) := by decide +kernel
theorem dX7_ask_137 : decode cX7_ask 137 = .ok (.imul, 1) := by decide +kernel
theorem dX7_ask_138 : decode cX7_ask 138 = .ok (.iload 6, 2) := by decide +kernel
theorem dX7_ask_140 : decode cX7_ask 140 = .ok (.iadd, 1) := by decide +kernel
theorem dX7_ask_141 : decode cX7_ask 141 = .ok (.iaload, 1) := by decide +kernel
theorem dX7_ask_142 : decode cX7_ask 142 = .ok (.aload_n 0, 1) := by decide +kernel
theorem dX7_ask_143 : decode cX7_ask 143 = .ok (.getfield 29, 3) := by decide +kernel
theorem dX7_ask_146 : decode cX7_ask 146 = .ok (.bipush 84, 2) := by decide +kernel
theorem dX7_ask_148 : decode cX7_ask 148 = .ok (.iload 10, 2) := by decide +kernel
theorem dX7_ask_150 : decode cX7_ask 150 = .ok (.imul, 1) := by decide +kernel
theorem dX7_ask_151 : decode cX7_ask 151 = .ok (.iload 6, 2) := by decide +kernel
theorem dX7_ask_153 : decode cX7_ask 153 = .ok (.iadd, 1) := by decide +kernel
theorem dX7_ask_154 : decode cX7_ask 154 = .ok (.iaload, 1) := by decide +kernel
theorem dX7_ask_155 : decode cX7_ask 155 = .ok (.if_icmp .ne 7, 3) := by decide +kernel
theorem dX7_ask_158 : decode cX7_ask 158 = .ok (.iconst 1, 1) := by decide +kernel
theorem dX7_ask_159 : decode cX7_ask 159 = .ok (.goto 4, 3) := by decide +kernel
theorem dX7_ask_162 : decode cX7_ask 162 = .ok (.iconst 0, 1) := by decide +kernel
theorem dX7_ask_163 : decode cX7_ask 163 = .ok (.invokestatic 187, 3) := by decide +kernel
theorem dX7_ask_166 : decode cX7_ask 166 = .ok (.iadd, 1) := by decide +kernel
theorem dX7_ask_167 : decode cX7_ask 167 = .ok (.istore 9, 2) := by decide +kernel
theorem dX7_ask_169 : decode cX7_ask 169 = .ok (.iinc 10 1, 3) := by decide +kernel
theorem dX7_ask_172 : decode cX7_ask 172 = .ok (.goto (-51), 3) := by decide +kernel
theorem dX7_ask_175 : decode cX7_ask 175 = .ok (.iload 9, 2) := by decide +kernel
theorem dX7_ask_177 : decode cX7_ask 177 = .ok (.iload 7, 2) := by decide +kernel
theorem dX7_ask_179 : decode cX7_ask 179 = .ok (.if_icmp .le 8, 3) := by decide +kernel
theorem dX7_ask_182 : decode cX7_ask 182 = .ok (.iload 9, 2) := by decide +kernel
theorem dX7_ask_184 : decode cX7_ask 184 = .ok (.goto 5, 3) := by decide +kernel
theorem dX7_ask_187 : decode cX7_ask 187 = .ok (.iload 7, 2) := by decide +kernel
theorem dX7_ask_189 : decode cX7_ask 189 = .ok (.istore 7, 2) := by decide +kernel
theorem dX7_ask_191 : decode cX7_ask 191 = .ok (.iinc 8 1, 3) := by decide +kernel
theorem dX7_ask_194 : decode cX7_ask 194 = .ok (.goto (-85), 3) := by decide +kernel
theorem dX7_ask_197 : decode cX7_ask 197 = .ok (.iload 6, 2) := by decide +kernel
theorem dX7_ask_199 : decode cX7_ask 199 = .ok (.iconst 4, 1) := by decide +kernel
theorem dX7_ask_200 : decode cX7_ask 200 = .ok (.irem, 1) := by decide +kernel
theorem dX7_ask_201 : decode cX7_ask 201 = .ok (.aload_n 0, 1) := by decide +kernel
theorem dX7_ask_202 : decode cX7_ask 202 = .ok (.getfield 60, 3) := by decide +kernel
theorem dX7_ask_205 : decode cX7_ask 205 = .ok (.if_icmp .ge 18, 3) := by decide +kernel
theorem dX7_ask_208 : decode cX7_ask 208 = .ok (.iload 7, 2) := by decide +kernel
theorem dX7_ask_210 : decode cX7_ask 210 = .ok (.iload 4, 2) := by decide +kernel
theorem dX7_ask_212 : decode cX7_ask 212 = .ok (.if_icmp .ge 11, 3) := by decide +kernel
theorem dX7_ask_215 : decode cX7_ask 215 = .ok (.iload 7, 2) := by decide +kernel
theorem dX7_ask_217 : decode cX7_ask 217 = .ok (.istore 4, 2) := by decide +kernel
theorem dX7_ask_219 : decode cX7_ask 219 = .ok (.iload 6, 2) := by decide +kernel
theorem dX7_ask_221 : decode cX7_ask 221 = .ok (.istore 5, 2) := by decide +kernel
theorem dX7_ask_223 : decode cX7_ask 223 = .ok (.iinc 6 1, 3) := by decide +kernel
theorem dX7_ask_226 : decode cX7_ask 226 = .ok (.goto (-130), 3) := by decide +kernel
theorem dX7_ask_229 : decode cX7_ask 229 = .ok (.iload 5, 2) := by decide +kernel
theorem dX7_ask_231 : decode cX7_ask 231 = .ok (.bipush (-4), 2) := by decide +kernel
theorem dX7_ask_233 : decode cX7_ask 233 = .ok (.if_icmp .ne 8, 3) := by decide +kernel
theorem dX7_ask_236 : decode cX7_ask 236 = .ok (.bipush (-4), 2) := by decide +kernel
theorem dX7_ask_238 : decode cX7_ask 238 = .ok (.goto 24, 3) := by decide +kernel
theorem dX7_ask_241 : decode cX7_ask 241 = .ok (.iload_n 2, 1) := by decide +kernel
theorem dX7_ask_242 : decode cX7_ask 242 = .ok (.ifCond .ne 18, 3) := by decide +kernel
theorem dX7_ask_245 : decode cX7_ask 245 = .ok (.bipush 10, 2) := by decide +kernel
theorem dX7_ask_247 : decode cX7_ask 247 = .ok (.iload 5, 2) := by decide +kernel
theorem dX7_ask_249 : decode cX7_ask 249 = .ok (.iconst 4, 1) := by decide +kernel
theorem dX7_ask_250 : decode cX7_ask 250 = .ok (.idiv, 1) := by decide +kernel
theorem dX7_ask_251 : decode cX7_ask 251 = .ok (.imul, 1) := by decide +kernel
theorem dX7_ask_252 : decode cX7_ask 252 = .ok (.iload 5, 2) := by decide +kernel
theorem dX7_ask_254 : decode cX7_ask 254 = .ok (.iconst 4, 1) := by decide +kernel
theorem dX7_ask_255 : decode cX7_ask 255 = .ok (.irem, 1) := by decide +kernel
theorem dX7_ask_256 : decode cX7_ask 256 = .ok (.iadd, 1) := by decide +kernel
theorem dX7_ask_257 : decode cX7_ask 257 = .ok (.goto 5, 3) := by decide +kernel
theorem dX7_ask_260 : decode cX7_ask 260 = .ok (.iload 4, 2) := by decide +kernel
theorem dX7_ask_262 : decode cX7_ask 262 = .ok (.ireturn, 1) := by decide +kernel
theorem dX7_drift_0 : decode cX7_drift 0 = .ok (.iload_n 2, 1) := by decide +kernel
theorem dX7_drift_1 : decode cX7_drift 1 = .ok (.i2l, 1) := by decide +kernel
theorem dX7_drift_2 : decode cX7_drift 2 = .ok (.lconst 1, 1) := by decide +kernel
theorem dX7_drift_3 : decode cX7_drift 3 = .ok (.ldc2_w 232, 3) := by decide +kernel
theorem dX7_drift_6 : decode cX7_drift 6 = .ok (.invokestatic 65, 3) := by decide +kernel
theorem dX7_drift_9 : decode cX7_drift 9 = .ok (.ifCond .eq 10, 3) := by decide +kernel
theorem dX7_drift_12 : decode cX7_drift 12 = .ok (.iload_n 3, 1) := by decide +kernel
theorem dX7_drift_13 : decode cX7_drift 13 = .ok (.invokestatic 240, 3) := by decide +kernel
theorem dX7_drift_16 : decode cX7_drift 16 = .ok (.ifCond .ne 5, 3) := by decide +kernel
theorem dX7_drift_19 : decode cX7_drift 19 = .ok (.iconst (-1), 1) := by decide +kernel
theorem dX7_drift_20 : decode cX7_drift 20 = .ok (.ireturn, 1) := by decide +kernel
theorem dX7_drift_21 : decode cX7_drift 21 = .ok (.aload_n 0, 1) := by decide +kernel
theorem dX7_drift_22 : decode cX7_drift 22 = .ok (.getfield 7, 3) := by decide +kernel
theorem dX7_drift_25 : decode cX7_drift 25 = .ok (.bipush 34, 2) := by decide +kernel
theorem dX7_drift_27 : decode cX7_drift 27 = .ok (.iaload, 1) := by decide +kernel
theorem dX7_drift_28 : decode cX7_drift 28 = .ok (.ifCond .ne 6, 3) := by decide +kernel
theorem dX7_drift_31 : decode cX7_drift 31 = .ok (.bipush (-2), 2) := by decide +kernel
theorem dX7_drift_33 : decode cX7_drift 33 = .ok (.ireturn, 1) := by decide +kernel
theorem dX7_drift_34 : decode cX7_drift 34 = .ok (.iload_n 1, 1) := by decide +kernel
theorem dX7_drift_35 : decode cX7_drift 35 = .ok (.istore 4, 2) := by decide +kernel
theorem dX7_drift_37 : decode cX7_drift 37 = .ok (.aload_n 0, 1) := by decide +kernel
theorem dX7_drift_38 : decode cX7_drift 38 = .ok (.invokevirtual 191, 3) := by decide +kernel
theorem dX7_drift_41 : decode cX7_drift 41 = .ok (.aload_n 0, 1) := by decide +kernel
theorem dX7_drift_42 : decode cX7_drift 42 = .ok (.iconst 0, 1) := by decide +kernel
theorem dX7_drift_43 : decode cX7_drift 43 = .ok (.putfield 171, 3) := by decide +kernel
theorem dX7_drift_46 : decode cX7_drift 46 = .ok (.iconst 0, 1) := by decide +kernel
theorem dX7_drift_47 : decode cX7_drift 47 = .ok (.istore 5, 2) := by decide +kernel
theorem dX7_drift_49 : decode cX7_drift 49 = .ok (.iload 5, 2) := by decide +kernel
theorem dX7_drift_51 : decode cX7_drift 51 = .ok (.iload_n 2, 1) := by decide +kernel
theorem dX7_drift_52 : decode cX7_drift 52 = .ok (.if_icmp .ge 37, 3) := by decide +kernel
theorem dX7_drift_55 : decode cX7_drift 55 = .ok (.iload 4, 2) := by decide +kernel
theorem dX7_drift_57 : decode cX7_drift 57 = .ok (.ldc_w 285, 3) := by decide +kernel
theorem dX7_drift_60 : decode cX7_drift 60 = .ok (.imul, 1) := by decide +kernel
theorem dX7_drift_61 : decode cX7_drift 61 = .ok (.sipush 12345, 3) := by decide +kernel
theorem dX7_drift_64 : decode cX7_drift 64 = .ok (.iadd, 1) := by decide +kernel
theorem dX7_drift_65 : decode cX7_drift 65 = .ok (.istore 4, 2) := by decide +kernel
theorem dX7_drift_67 : decode cX7_drift 67 = .ok (.aload_n 0, 1) := by decide +kernel
theorem dX7_drift_68 : decode cX7_drift 68 = .ok (.iload 4, 2) := by decide +kernel
theorem dX7_drift_70 : decode cX7_drift 70 = .ok (.bipush 16, 2) := by decide +kernel
theorem dX7_drift_72 : decode cX7_drift 72 = .ok (.ishr, 1) := by decide +kernel
theorem dX7_drift_73 : decode cX7_drift 73 = .ok (.sipush 32767, 3) := by decide +kernel
theorem dX7_drift_76 : decode cX7_drift 76 = .ok (.iand, 1) := by decide +kernel
theorem dX7_drift_77 : decode cX7_drift 77 = .ok (.bipush 10, 2) := by decide +kernel
theorem dX7_drift_79 : decode cX7_drift 79 = .ok (.irem, 1) := by decide +kernel
theorem dX7_drift_80 : decode cX7_drift 80 = .ok (.invokevirtual 184, 3) := by decide +kernel
theorem dX7_drift_83 : decode cX7_drift 83 = .ok (.iinc 5 1, 3) := by decide +kernel
theorem dX7_drift_86 : decode cX7_drift 86 = .ok (.goto (-37), 3) := by decide +kernel
theorem dX7_drift_89 : decode cX7_drift 89 = .ok (.iload_n 3, 1) := by decide +kernel
theorem dX7_drift_90 : decode cX7_drift 90 = .ok (.ifCond .ne 10, 3) := by decide +kernel
theorem dX7_drift_93 : decode cX7_drift 93 = .ok (.aload_n 0, 1) := by decide +kernel
theorem dX7_drift_94 : decode cX7_drift 94 = .ok (.getfield 171, 3) := by decide +kernel
theorem dX7_drift_97 : decode cX7_drift 97 = .ok (.goto 7, 3) := by decide +kernel
theorem dX7_drift_100 : decode cX7_drift 100 = .ok (.aload_n 0, 1) := by decide +kernel
theorem dX7_drift_101 : decode cX7_drift 101 = .ok (.invokevirtual 197, 3) := by decide +kernel
theorem dX7_drift_104 : decode cX7_drift 104 = .ok (.ireturn, 1) := by decide +kernel
theorem dX7_copies_0 : decode cX7_copies 0 = .ok (.iconst 0, 1) := by decide +kernel
theorem dX7_copies_1 : decode cX7_copies 1 = .ok (.istore_n 3, 1) := by decide +kernel
theorem dX7_copies_2 : decode cX7_copies 2 = .ok (.iload_n 3, 1) := by decide +kernel
theorem dX7_copies_3 : decode cX7_copies 3 = .ok (.bipush 61, 2) := by decide +kernel
theorem dX7_copies_5 : decode cX7_copies 5 = .ok (.if_icmp .ge 25, 3) := by decide +kernel
theorem dX7_copies_8 : decode cX7_copies 8 = .ok (.aload_n 0, 1) := by decide +kernel
theorem dX7_copies_9 : decode cX7_copies 9 = .ok (.getfield 7, 3) := by decide +kernel
theorem dX7_copies_12 : decode cX7_copies 12 = .ok (.iload_n 1, 1) := by decide +kernel
theorem dX7_copies_13 : decode cX7_copies 13 = .ok (.iload_n 3, 1) := by decide +kernel
theorem dX7_copies_14 : decode cX7_copies 14 = .ok (.iadd, 1) := by decide +kernel
theorem dX7_copies_15 : decode cX7_copies 15 = .ok (.aload_n 0, 1) := by decide +kernel
theorem dX7_copies_16 : decode cX7_copies 16 = .ok (.getfield 7, 3) := by decide +kernel
theorem dX7_copies_19 : decode cX7_copies 19 = .ok (.iload_n 2, 1) := by decide +kernel
theorem dX7_copies_20 : decode cX7_copies 20 = .ok (.iload_n 3, 1) := by decide +kernel
theorem dX7_copies_21 : decode cX7_copies 21 = .ok (.iadd, 1) := by decide +kernel
theorem dX7_copies_22 : decode cX7_copies 22 = .ok (.iaload, 1) := by decide +kernel
theorem dX7_copies_23 : decode cX7_copies 23 = .ok (.iastore, 1) := by decide +kernel
theorem dX7_copies_24 : decode cX7_copies 24 = .ok (.iinc 3 1, 3) := by decide +kernel
theorem dX7_copies_27 : decode cX7_copies 27 = .ok (.goto (-25), 3) := by decide +kernel
theorem dX7_copies_30 : decode cX7_copies 30 = .ok (.return_, 1) := by decide +kernel
theorem dX7_keep_0 : decode cX7_keep 0 = .ok (.iload_n 1, 1) := by decide +kernel
theorem dX7_keep_1 : decode cX7_keep 1 = .ok (.i2l, 1) := by decide +kernel
theorem dX7_keep_2 : decode cX7_keep 2 = .ok (.lconst 0, 1) := by decide +kernel
theorem dX7_keep_3 : decode cX7_keep 3 = .ok (.lconst 1, 1) := by decide +kernel
theorem dX7_keep_4 : decode cX7_keep 4 = .ok (.invokestatic 65, 3) := by decide +kernel
theorem dX7_keep_7 : decode cX7_keep 7 = .ok (.ifCond .ne 5, 3) := by decide +kernel
theorem dX7_keep_10 : decode cX7_keep 10 = .ok (.iconst (-1), 1) := by decide +kernel
theorem dX7_keep_11 : decode cX7_keep 11 = .ok (.ireturn, 1) := by decide +kernel
theorem dX7_keep_12 : decode cX7_keep 12 = .ok (.aload_n 0, 1) := by decide +kernel
theorem dX7_keep_13 : decode cX7_keep 13 = .ok (.getfield 16, 3) := by decide +kernel
theorem dX7_keep_16 : decode cX7_keep 16 = .ok (.iload_n 1, 1) := by decide +kernel
theorem dX7_keep_17 : decode cX7_keep 17 = .ok (.baload, 1) := by decide +kernel
theorem dX7_keep_18 : decode cX7_keep 18 = .ok (.invokestatic 187, 3) := by decide +kernel
theorem dX7_keep_21 : decode cX7_keep 21 = .ok (.istore_n 2, 1) := by decide +kernel
theorem dX7_keep_22 : decode cX7_keep 22 = .ok (.aload_n 0, 1) := by decide +kernel
theorem dX7_keep_23 : decode cX7_keep 23 = .ok (.getfield 16, 3) := by decide +kernel
theorem dX7_keep_26 : decode cX7_keep 26 = .ok (.iload_n 1, 1) := by decide +kernel
theorem dX7_keep_27 : decode cX7_keep 27 = .ok (.iconst 1, 1) := by decide +kernel
theorem dX7_keep_28 : decode cX7_keep 28 = .ok (.bastore, 1) := by decide +kernel
theorem dX7_keep_29 : decode cX7_keep 29 = .ok (.aload_n 0, 1) := by decide +kernel
theorem dX7_keep_30 : decode cX7_keep 30 = .ok (.bipush 61, 2) := by decide +kernel
theorem dX7_keep_32 : decode cX7_keep 32 = .ok (.iload_n 1, 1) := by decide +kernel
theorem dX7_keep_33 : decode cX7_keep 33 = .ok (.iconst 1, 1) := by decide +kernel
theorem dX7_keep_34 : decode cX7_keep 34 = .ok (.iadd, 1) := by decide +kernel
theorem dX7_keep_35 : decode cX7_keep 35 = .ok (.imul, 1) := by decide +kernel
theorem dX7_keep_36 : decode cX7_keep 36 = .ok (.iconst 0, 1) := by decide +kernel
theorem dX7_keep_37 : decode cX7_keep 37 = .ok (.invokevirtual 286, 3) := by decide +kernel
theorem dX7_keep_40 : decode cX7_keep 40 = .ok (.iload_n 2, 1) := by decide +kernel
theorem dX7_keep_41 : decode cX7_keep 41 = .ok (.ireturn, 1) := by decide +kernel
theorem dX7_back_0 : decode cX7_back 0 = .ok (.iload_n 1, 1) := by decide +kernel
theorem dX7_back_1 : decode cX7_back 1 = .ok (.i2l, 1) := by decide +kernel
theorem dX7_back_2 : decode cX7_back 2 = .ok (.lconst 0, 1) := by decide +kernel
theorem dX7_back_3 : decode cX7_back 3 = .ok (.lconst 1, 1) := by decide +kernel
theorem dX7_back_4 : decode cX7_back 4 = .ok (.invokestatic 65, 3) := by decide +kernel
theorem dX7_back_7 : decode cX7_back 7 = .ok (.ifCond .ne 5, 3) := by decide +kernel
theorem dX7_back_10 : decode cX7_back 10 = .ok (.iconst (-1), 1) := by decide +kernel
theorem dX7_back_11 : decode cX7_back 11 = .ok (.ireturn, 1) := by decide +kernel
theorem dX7_back_12 : decode cX7_back 12 = .ok (.aload_n 0, 1) := by decide +kernel
theorem dX7_back_13 : decode cX7_back 13 = .ok (.getfield 16, 3) := by decide +kernel
theorem dX7_back_16 : decode cX7_back 16 = .ok (.iload_n 1, 1) := by decide +kernel
theorem dX7_back_17 : decode cX7_back 17 = .ok (.baload, 1) := by decide +kernel
theorem dX7_back_18 : decode cX7_back 18 = .ok (.ifCond .ne 6, 3) := by decide +kernel
theorem dX7_back_21 : decode cX7_back 21 = .ok (.bipush (-2), 2) := by decide +kernel
theorem dX7_back_23 : decode cX7_back 23 = .ok (.ireturn, 1) := by decide +kernel
theorem dX7_back_24 : decode cX7_back 24 = .ok (.aload_n 0, 1) := by decide +kernel
theorem dX7_back_25 : decode cX7_back 25 = .ok (.iconst 0, 1) := by decide +kernel
theorem dX7_back_26 : decode cX7_back 26 = .ok (.bipush 61, 2) := by decide +kernel
theorem dX7_back_28 : decode cX7_back 28 = .ok (.iload_n 1, 1) := by decide +kernel
theorem dX7_back_29 : decode cX7_back 29 = .ok (.iconst 1, 1) := by decide +kernel
theorem dX7_back_30 : decode cX7_back 30 = .ok (.iadd, 1) := by decide +kernel
theorem dX7_back_31 : decode cX7_back 31 = .ok (.imul, 1) := by decide +kernel
theorem dX7_back_32 : decode cX7_back 32 = .ok (.invokevirtual 286, 3) := by decide +kernel
theorem dX7_back_35 : decode cX7_back 35 = .ok (.aload_n 0, 1) := by decide +kernel
theorem dX7_back_36 : decode cX7_back 36 = .ok (.getfield 7, 3) := by decide +kernel
theorem dX7_back_39 : decode cX7_back 39 = .ok (.bipush 41, 2) := by decide +kernel
theorem dX7_back_41 : decode cX7_back 41 = .ok (.iaload, 1) := by decide +kernel
theorem dX7_back_42 : decode cX7_back 42 = .ok (.ireturn, 1) := by decide +kernel
theorem dX7_isSheet_0 : decode cX7_isSheet 0 = .ok (.iload_n 0, 1) := by decide +kernel
theorem dX7_isSheet_1 : decode cX7_isSheet 1 = .ok (.i2l, 1) := by decide +kernel
theorem dX7_isSheet_2 : decode cX7_isSheet 2 = .ok (.lconst 0, 1) := by decide +kernel
theorem dX7_isSheet_3 : decode cX7_isSheet 3 = .ok (.ldc2_w 212, 3) := by decide +kernel
theorem dX7_isSheet_6 : decode cX7_isSheet 6 = .ok (.invokestatic 65, 3) := by decide +kernel
theorem dX7_isSheet_9 : decode cX7_isSheet 9 = .ok (.ifCond .eq 19, 3) := by decide +kernel
theorem dX7_isSheet_12 : decode cX7_isSheet 12 = .ok (.iload_n 1, 1) := by decide +kernel
theorem dX7_isSheet_13 : decode cX7_isSheet 13 = .ok (.i2l, 1) := by decide +kernel
theorem dX7_isSheet_14 : decode cX7_isSheet 14 = .ok (.lconst 0, 1) := by decide +kernel
theorem dX7_isSheet_15 : decode cX7_isSheet 15 = .ok (.ldc2_w 289, 3) := by decide +kernel
theorem dX7_isSheet_18 : decode cX7_isSheet 18 = .ok (.invokestatic 65, 3) := by decide +kernel
theorem dX7_isSheet_21 : decode cX7_isSheet 21 = .ok (.ifCond .eq 7, 3) := by decide +kernel
theorem dX7_isSheet_24 : decode cX7_isSheet 24 = .ok (.iconst 1, 1) := by decide +kernel
theorem dX7_isSheet_25 : decode cX7_isSheet 25 = .ok (.goto 4, 3) := by decide +kernel
theorem dX7_isSheet_28 : decode cX7_isSheet 28 = .ok (.iconst 0, 1) := by decide +kernel
theorem dX7_isSheet_29 : decode cX7_isSheet 29 = .ok (.ireturn, 1) := by decide +kernel
theorem dX7_sheet_0 : decode cX7_sheet 0 = .ok (.iload_n 1, 1) := by decide +kernel
theorem dX7_sheet_1 : decode cX7_sheet 1 = .ok (.iload_n 2, 1) := by decide +kernel
theorem dX7_sheet_2 : decode cX7_sheet 2 = .ok (.invokestatic 291, 3) := by decide +kernel
theorem dX7_sheet_5 : decode cX7_sheet 5 = .ok (.ifCond .eq 9, 3) := by decide +kernel
theorem dX7_sheet_8 : decode cX7_sheet 8 = .ok (.iload_n 3, 1) := by decide +kernel
theorem dX7_sheet_9 : decode cX7_sheet 9 = .ok (.bipush 40, 2) := by decide +kernel
theorem dX7_sheet_11 : decode cX7_sheet 11 = .ok (.if_icmp .le 5, 3) := by decide +kernel
theorem dX7_sheet_14 : decode cX7_sheet 14 = .ok (.iconst (-1), 1) := by decide +kernel
theorem dX7_sheet_15 : decode cX7_sheet 15 = .ok (.ireturn, 1) := by decide +kernel
theorem dX7_sheet_16 : decode cX7_sheet 16 = .ok (.iload_n 3, 1) := by decide +kernel
theorem dX7_sheet_17 : decode cX7_sheet 17 = .ok (.ifCond .ge 6, 3) := by decide +kernel
theorem dX7_sheet_20 : decode cX7_sheet 20 = .ok (.bipush (-14), 2) := by decide +kernel
theorem dX7_sheet_22 : decode cX7_sheet 22 = .ok (.ireturn, 1) := by decide +kernel
theorem dX7_sheet_23 : decode cX7_sheet 23 = .ok (.aload_n 0, 1) := by decide +kernel
theorem dX7_sheet_24 : decode cX7_sheet 24 = .ok (.getfield 32, 3) := by decide +kernel
theorem dX7_sheet_27 : decode cX7_sheet 27 = .ok (.iload_n 1, 1) := by decide +kernel
theorem dX7_sheet_28 : decode cX7_sheet 28 = .ok (.iload_n 2, 1) := by decide +kernel
theorem dX7_sheet_29 : decode cX7_sheet 29 = .ok (.iastore, 1) := by decide +kernel
theorem dX7_sheet_30 : decode cX7_sheet 30 = .ok (.aload_n 0, 1) := by decide +kernel
theorem dX7_sheet_31 : decode cX7_sheet 31 = .ok (.getfield 35, 3) := by decide +kernel
theorem dX7_sheet_34 : decode cX7_sheet 34 = .ok (.iload_n 1, 1) := by decide +kernel
theorem dX7_sheet_35 : decode cX7_sheet 35 = .ok (.iload_n 3, 1) := by decide +kernel
theorem dX7_sheet_36 : decode cX7_sheet 36 = .ok (.iastore, 1) := by decide +kernel
theorem dX7_sheet_37 : decode cX7_sheet 37 = .ok (.iconst 0, 1) := by decide +kernel
theorem dX7_sheet_38 : decode cX7_sheet 38 = .ok (.istore 4, 2) := by decide +kernel
theorem dX7_sheet_40 : decode cX7_sheet 40 = .ok (.iload 4, 2) := by decide +kernel
theorem dX7_sheet_42 : decode cX7_sheet 42 = .ok (.bipush 40, 2) := by decide +kernel
theorem dX7_sheet_44 : decode cX7_sheet 44 = .ok (.if_icmp .ge 22, 3) := by decide +kernel
theorem dX7_sheet_47 : decode cX7_sheet 47 = .ok (.aload_n 0, 1) := by decide +kernel
theorem dX7_sheet_48 : decode cX7_sheet 48 = .ok (.getfield 38, 3) := by decide +kernel
theorem dX7_sheet_51 : decode cX7_sheet 51 = .ok (.bipush 40, 2) := by decide +kernel
theorem dX7_sheet_53 : decode cX7_sheet 53 = .ok (.iload_n 1, 1) := by decide +kernel
theorem dX7_sheet_54 : decode cX7_sheet 54 = .ok (.imul, 1) := by decide +kernel
theorem dX7_sheet_55 : decode cX7_sheet 55 = .ok (.iload 4, 2) := by decide +kernel
theorem dX7_sheet_57 : decode cX7_sheet 57 = .ok (.iadd, 1) := by decide +kernel
theorem dX7_sheet_58 : decode cX7_sheet 58 = .ok (.iconst 0, 1) := by decide +kernel
theorem dX7_sheet_59 : decode cX7_sheet 59 = .ok (.iastore, 1) := by decide +kernel
theorem dX7_sheet_60 : decode cX7_sheet 60 = .ok (.iinc 4 1, 3) := by decide +kernel
theorem dX7_sheet_63 : decode cX7_sheet 63 = .ok (.goto (-23), 3) := by decide +kernel
theorem dX7_sheet_66 : decode cX7_sheet 66 = .ok (.iconst 1, 1) := by decide +kernel
theorem dX7_sheet_67 : decode cX7_sheet 67 = .ok (.ireturn, 1) := by decide +kernel
theorem dX7_lay_0 : decode cX7_lay 0 = .ok (.iload_n 1, 1) := by decide +kernel
theorem dX7_lay_1 : decode cX7_lay 1 = .ok (.iconst 0, 1) := by decide +kernel
theorem dX7_lay_2 : decode cX7_lay 2 = .ok (.invokestatic 291, 3) := by decide +kernel
theorem dX7_lay_5 : decode cX7_lay 5 = .ok (.ifCond .ne 5, 3) := by decide +kernel
theorem dX7_lay_8 : decode cX7_lay 8 = .ok (.iconst (-1), 1) := by decide +kernel
theorem dX7_lay_9 : decode cX7_lay 9 = .ok (.ireturn, 1) := by decide +kernel
theorem dX7_lay_10 : decode cX7_lay 10 = .ok (.aload_n 0, 1) := by decide +kernel
theorem dX7_lay_11 : decode cX7_lay 11 = .ok (.getfield 32, 3) := by decide +kernel
theorem dX7_lay_14 : decode cX7_lay 14 = .ok (.iload_n 1, 1) := by decide +kernel
theorem dX7_lay_15 : decode cX7_lay 15 = .ok (.iaload, 1) := by decide +kernel
theorem dX7_lay_16 : decode cX7_lay 16 = .ok (.bipush (-4), 2) := by decide +kernel
theorem dX7_lay_18 : decode cX7_lay 18 = .ok (.if_icmp .ne 6, 3) := by decide +kernel
theorem dX7_lay_21 : decode cX7_lay 21 = .ok (.bipush (-11), 2) := by decide +kernel
theorem dX7_lay_23 : decode cX7_lay 23 = .ok (.ireturn, 1) := by decide +kernel
theorem dX7_lay_24 : decode cX7_lay 24 = .ok (.iload_n 2, 1) := by decide +kernel
theorem dX7_lay_25 : decode cX7_lay 25 = .ok (.i2l, 1) := by decide +kernel
theorem dX7_lay_26 : decode cX7_lay 26 = .ok (.lconst 0, 1) := by decide +kernel
theorem dX7_lay_27 : decode cX7_lay 27 = .ok (.aload_n 0, 1) := by decide +kernel
theorem dX7_lay_28 : decode cX7_lay 28 = .ok (.getfield 35, 3) := by decide +kernel
theorem dX7_lay_31 : decode cX7_lay 31 = .ok (.iload_n 1, 1) := by decide +kernel
theorem dX7_lay_32 : decode cX7_lay 32 = .ok (.iaload, 1) := by decide +kernel
theorem dX7_lay_33 : decode cX7_lay 33 = .ok (.iconst 1, 1) := by decide +kernel
theorem dX7_lay_34 : decode cX7_lay 34 = .ok (.isub, 1) := by decide +kernel
theorem dX7_lay_35 : decode cX7_lay 35 = .ok (.i2l, 1) := by decide +kernel
theorem dX7_lay_36 : decode cX7_lay 36 = .ok (.invokestatic 65, 3) := by decide +kernel
theorem dX7_lay_39 : decode cX7_lay 39 = .ok (.ifCond .ne 6, 3) := by decide +kernel
theorem dX7_lay_42 : decode cX7_lay 42 = .ok (.bipush (-12), 2) := by decide +kernel
theorem dX7_lay_44 : decode cX7_lay 44 = .ok (.ireturn, 1) := by decide +kernel
theorem dX7_lay_45 : decode cX7_lay 45 = .ok (.aload_n 0, 1) := by decide +kernel
theorem dX7_lay_46 : decode cX7_lay 46 = .ok (.getfield 38, 3) := by decide +kernel
theorem dX7_lay_49 : decode cX7_lay 49 = .ok (.bipush 40, 2) := by decide +kernel
theorem dX7_lay_51 : decode cX7_lay 51 = .ok (.iload_n 1, 1) := by decide +kernel
theorem dX7_lay_52 : decode cX7_lay 52 = .ok (.imul, 1) := by decide +kernel
theorem dX7_lay_53 : decode cX7_lay 53 = .ok (.iload_n 2, 1) := by decide +kernel
theorem dX7_lay_54 : decode cX7_lay 54 = .ok (.iadd, 1) := by decide +kernel
theorem dX7_lay_55 : decode cX7_lay 55 = .ok (.aload_n 0, 1) := by decide +kernel
theorem dX7_lay_56 : decode cX7_lay 56 = .ok (.getfield 32, 3) := by decide +kernel
theorem dX7_lay_59 : decode cX7_lay 59 = .ok (.iload_n 1, 1) := by decide +kernel
theorem dX7_lay_60 : decode cX7_lay 60 = .ok (.iaload, 1) := by decide +kernel
theorem dX7_lay_61 : decode cX7_lay 61 = .ok (.ifCond .ne 8, 3) := by decide +kernel
theorem dX7_lay_64 : decode cX7_lay 64 = .ok (.iload_n 3, 1) := by decide +kernel
theorem dX7_lay_65 : decode cX7_lay 65 = .ok (.i2b, 1) := by decide +kernel
theorem dX7_lay_66 : decode cX7_lay 66 = .ok (.goto 19, 3) := by decide +kernel
theorem dX7_lay_69 : decode cX7_lay 69 = .ok (.aload_n 0, 1) := by decide +kernel
theorem dX7_lay_70 : decode cX7_lay 70 = .ok (.getfield 32, 3) := by decide +kernel
theorem dX7_lay_73 : decode cX7_lay 73 = .ok (.iload_n 1, 1) := by decide +kernel
theorem dX7_lay_74 : decode cX7_lay 74 = .ok (.iaload, 1) := by decide +kernel
theorem dX7_lay_75 : decode cX7_lay 75 = .ok (.iconst 1, 1) := by decide +kernel
theorem dX7_lay_76 : decode cX7_lay 76 = .ok (.if_icmp .ne 8, 3) := by decide +kernel
theorem dX7_lay_79 : decode cX7_lay 79 = .ok (.iload_n 3, 1) := by decide +kernel
theorem dX7_lay_80 : decode cX7_lay 80 = .ok (.i2s, 1) := by decide +kernel
theorem dX7_lay_81 : decode cX7_lay 81 = .ok (.goto 4, 3) := by decide +kernel
theorem dX7_lay_84 : decode cX7_lay 84 = .ok (.iload_n 3, 1) := by decide +kernel
theorem dX7_lay_85 : decode cX7_lay 85 = .ok (.iastore, 1) := by decide +kernel
theorem dX7_lay_86 : decode cX7_lay 86 = .ok (.iconst 1, 1) := by decide +kernel
theorem dX7_lay_87 : decode cX7_lay 87 = .ok (.ireturn, 1) := by decide +kernel
theorem dX7_read_0 : decode cX7_read 0 = .ok (.iload_n 1, 1) := by decide +kernel
theorem dX7_read_1 : decode cX7_read 1 = .ok (.iload_n 2, 1) := by decide +kernel
theorem dX7_read_2 : decode cX7_read 2 = .ok (.invokestatic 291, 3) := by decide +kernel
theorem dX7_read_5 : decode cX7_read 5 = .ok (.ifCond .eq 16, 3) := by decide +kernel
theorem dX7_read_8 : decode cX7_read 8 = .ok (.iload 4, 2) := by decide +kernel
theorem dX7_read_10 : decode cX7_read 10 = .ok (.i2l, 1) := by decide +kernel
theorem dX7_read_11 : decode cX7_read 11 = .ok (.lconst 0, 1) := by decide +kernel
theorem dX7_read_12 : decode cX7_read 12 = .ok (.ldc2_w 294, 3) := by decide +kernel
theorem dX7_read_15 : decode cX7_read 15 = .ok (.invokestatic 65, 3) := by decide +kernel
theorem dX7_read_18 : decode cX7_read 18 = .ok (.ifCond .ne 5, 3) := by decide +kernel
theorem dX7_read_21 : decode cX7_read 21 = .ok (.iconst (-1), 1) := by decide +kernel
theorem dX7_read_22 : decode cX7_read 22 = .ok (.ireturn, 1) := by decide +kernel
theorem dX7_read_23 : decode cX7_read 23 = .ok (.iconst 0, 1) := by decide +kernel
theorem dX7_read_24 : decode cX7_read 24 = .ok (.istore 5, 2) := by decide +kernel
theorem dX7_read_26 : decode cX7_read 26 = .ok (.iload 5, 2) := by decide +kernel
theorem dX7_read_28 : decode cX7_read 28 = .ok (.bipush 61, 2) := by decide +kernel
theorem dX7_read_30 : decode cX7_read 30 = .ok (.if_icmp .ge 23, 3) := by decide +kernel
theorem dX7_read_33 : decode cX7_read 33 = .ok (.aload_n 0, 1) := by decide +kernel
theorem dX7_read_34 : decode cX7_read 34 = .ok (.getfield 41, 3) := by decide +kernel
theorem dX7_read_37 : decode cX7_read 37 = .ok (.iload 5, 2) := by decide +kernel
theorem dX7_read_39 : decode cX7_read 39 = .ok (.aload_n 0, 1) := by decide +kernel
theorem dX7_read_40 : decode cX7_read 40 = .ok (.getfield 7, 3) := by decide +kernel
theorem dX7_read_43 : decode cX7_read 43 = .ok (.iload 5, 2) := by decide +kernel
theorem dX7_read_45 : decode cX7_read 45 = .ok (.iaload, 1) := by decide +kernel
theorem dX7_read_46 : decode cX7_read 46 = .ok (.iastore, 1) := by decide +kernel
theorem dX7_read_47 : decode cX7_read 47 = .ok (.iinc 5 1, 3) := by decide +kernel
theorem dX7_read_50 : decode cX7_read 50 = .ok (.goto (-24), 3) := by decide +kernel
theorem dX7_read_53 : decode cX7_read 53 = .ok (.iconst 0, 1) := by decide +kernel
theorem dX7_read_54 : decode cX7_read 54 = .ok (.istore 5, 2) := by decide +kernel
theorem dX7_read_56 : decode cX7_read 56 = .ok (.iconst 0, 1) := by decide +kernel
theorem dX7_read_57 : decode cX7_read 57 = .ok (.istore 6, 2) := by decide +kernel
theorem dX7_read_59 : decode cX7_read 59 = .ok (.iconst 0, 1) := by decide +kernel
theorem dX7_read_60 : decode cX7_read 60 = .ok (.istore 7, 2) := by decide +kernel
theorem dX7_read_62 : decode cX7_read 62 = .ok (.iload 7, 2) := by decide +kernel
theorem dX7_read_64 : decode cX7_read 64 = .ok (.iload 4, 2) := by decide +kernel
theorem dX7_read_66 : decode cX7_read 66 = .ok (.if_icmp .ge 193, 3) := by decide +kernel
theorem dX7_read_69 : decode cX7_read 69 = .ok (.iload 5, 2) := by decide +kernel
theorem dX7_read_71 : decode cX7_read 71 = .ok (.ifCond .ne 188, 3) := by decide +kernel
theorem dX7_read_74 : decode cX7_read 74 = .ok (.iconst 0, 1) := by decide +kernel
theorem dX7_read_75 : decode cX7_read 75 = .ok (.istore 8, 2) := by decide +kernel
theorem dX7_read_77 : decode cX7_read 77 = .ok (.iload 8, 2) := by decide +kernel
theorem dX7_read_79 : decode cX7_read 79 = .ok (.iconst 3, 1) := by decide +kernel
theorem dX7_read_80 : decode cX7_read 80 = .ok (.if_icmp .ge 84, 3) := by decide +kernel
theorem dX7_read_83 : decode cX7_read 83 = .ok (.iload 5, 2) := by decide +kernel
theorem dX7_read_85 : decode cX7_read 85 = .ok (.ifCond .ne 79, 3) := by decide +kernel
theorem dX7_read_88 : decode cX7_read 88 = .ok (.iload_n 3, 1) := by decide +kernel
theorem dX7_read_89 : decode cX7_read 89 = .ok (.i2l, 1) := by decide +kernel
theorem dX7_read_90 : decode cX7_read 90 = .ok (.iconst 3, 1) := by decide +kernel
theorem dX7_read_91 : decode cX7_read 91 = .ok (.iload 7, 2) := by decide +kernel
theorem dX7_read_93 : decode cX7_read 93 = .ok (.imul, 1) := by decide +kernel
theorem dX7_read_94 : decode cX7_read 94 = .ok (.i2l, 1) := by decide +kernel
theorem dX7_read_95 : decode cX7_read 95 = .ok (.ladd, 1) := by decide +kernel
theorem dX7_read_96 : decode cX7_read 96 = .ok (.iload 8, 2) := by decide +kernel
theorem dX7_read_98 : decode cX7_read 98 = .ok (.i2l, 1) := by decide +kernel
theorem dX7_read_99 : decode cX7_read 99 = .ok (.ladd, 1) := by decide +kernel
theorem dX7_read_100 : decode cX7_read 100 = .ok (.lstore 9, 2) := by decide +kernel
theorem dX7_read_102 : decode cX7_read 102 = .ok (.aload_n 0, 1) := by decide +kernel
theorem dX7_read_103 : decode cX7_read 103 = .ok (.getfield 32, 3) := by decide +kernel
theorem dX7_read_106 : decode cX7_read 106 = .ok (.iload_n 1, 1) := by decide +kernel
theorem dX7_read_107 : decode cX7_read 107 = .ok (.iaload, 1) := by decide +kernel
theorem dX7_read_108 : decode cX7_read 108 = .ok (.bipush (-4), 2) := by decide +kernel
theorem dX7_read_110 : decode cX7_read 110 = .ok (.if_icmp .ne 7, 3) := by decide +kernel
theorem dX7_read_113 : decode cX7_read 113 = .ok (.iconst 1, 1) := by decide +kernel
theorem dX7_read_114 : decode cX7_read 114 = .ok (.goto 42, 3) := by decide +kernel
theorem dX7_read_117 : decode cX7_read 117 = .ok (.aload_n 0, 1) := by decide +kernel
theorem dX7_read_118 : decode cX7_read 118 = .ok (.getfield 32, 3) := by decide +kernel
theorem dX7_read_121 : decode cX7_read 121 = .ok (.iload_n 1, 1) := by decide +kernel
theorem dX7_read_122 : decode cX7_read 122 = .ok (.iaload, 1) := by decide +kernel
theorem dX7_read_123 : decode cX7_read 123 = .ok (.iload_n 2, 1) := by decide +kernel
theorem dX7_read_124 : decode cX7_read 124 = .ok (.if_icmp .eq 7, 3) := by decide +kernel
theorem dX7_read_127 : decode cX7_read 127 = .ok (.iconst 3, 1) := by decide +kernel
theorem dX7_read_128 : decode cX7_read 128 = .ok (.goto 28, 3) := by decide +kernel
theorem dX7_read_131 : decode cX7_read 131 = .ok (.lload 9, 2) := by decide +kernel
theorem dX7_read_133 : decode cX7_read 133 = .ok (.lconst 0, 1) := by decide +kernel
theorem dX7_read_134 : decode cX7_read 134 = .ok (.lcmp, 1) := by decide +kernel
theorem dX7_read_135 : decode cX7_read 135 = .ok (.ifCond .lt 16, 3) := by decide +kernel
theorem dX7_read_138 : decode cX7_read 138 = .ok (.lload 9, 2) := by decide +kernel
theorem dX7_read_140 : decode cX7_read 140 = .ok (.aload_n 0, 1) := by decide +kernel
theorem dX7_read_141 : decode cX7_read 141 = .ok (.getfield 35, 3) := by decide +kernel
theorem dX7_read_144 : decode cX7_read 144 = .ok (.iload_n 1, 1) := by decide +kernel
theorem dX7_read_145 : decode cX7_read 145 = .ok (.iaload, 1) := by decide +kernel
theorem dX7_read_146 : decode cX7_read 146 = .ok (.i2l, 1) := by decide +kernel
theorem dX7_read_147 : decode cX7_read 147 = .ok (.lcmp, 1) := by decide +kernel
theorem dX7_read_148 : decode cX7_read 148 = .ok (.ifCond .lt 7, 3) := by decide +kernel
theorem dX7_read_151 : decode cX7_read 151 = .ok (.iconst 2, 1) := by decide +kernel
theorem dX7_read_152 : decode cX7_read 152 = .ok (.goto 4, 3) := by decide +kernel
theorem dX7_read_155 : decode cX7_read 155 = .ok (.iconst 0, 1) := by decide +kernel
theorem dX7_read_156 : decode cX7_read 156 = .ok (.istore 5, 2) := by decide +kernel
theorem dX7_read_158 : decode cX7_read 158 = .ok (.iinc 8 1, 3) := by decide +kernel
theorem dX7_read_161 : decode cX7_read 161 = .ok (.goto (-84), 3) := by decide +kernel
theorem dX7_read_164 : decode cX7_read 164 = .ok (.iload 5, 2) := by decide +kernel
theorem dX7_read_166 : decode cX7_read 166 = .ok (.ifCond .ne 87, 3) := by decide +kernel
theorem dX7_read_169 : decode cX7_read 169 = .ok (.bipush 40, 2) := by decide +kernel
theorem dX7_read_171 : decode cX7_read 171 = .ok (.iload_n 1, 1) := by decide +kernel
theorem dX7_read_172 : decode cX7_read 172 = .ok (.imul, 1) := by decide +kernel
theorem dX7_read_173 : decode cX7_read 173 = .ok (.iload_n 3, 1) := by decide +kernel
theorem dX7_read_174 : decode cX7_read 174 = .ok (.iadd, 1) := by decide +kernel
theorem dX7_read_175 : decode cX7_read 175 = .ok (.iconst 3, 1) := by decide +kernel
theorem dX7_read_176 : decode cX7_read 176 = .ok (.iload 7, 2) := by decide +kernel
theorem dX7_read_178 : decode cX7_read 178 = .ok (.imul, 1) := by decide +kernel
theorem dX7_read_179 : decode cX7_read 179 = .ok (.iadd, 1) := by decide +kernel
theorem dX7_read_180 : decode cX7_read 180 = .ok (.istore 8, 2) := by decide +kernel
theorem dX7_read_182 : decode cX7_read 182 = .ok (.aload_n 0, 1) := by decide +kernel
theorem dX7_read_183 : decode cX7_read 183 = .ok (.aload_n 0, 1) := by decide +kernel
theorem dX7_read_184 : decode cX7_read 184 = .ok (.getfield 38, 3) := by decide +kernel
theorem dX7_read_187 : decode cX7_read 187 = .ok (.iload 8, 2) := by decide +kernel
theorem dX7_read_189 : decode cX7_read 189 = .ok (.iaload, 1) := by decide +kernel
theorem dX7_read_190 : decode cX7_read 190 = .ok (.aload_n 0, 1) := by decide +kernel
theorem dX7_read_191 : decode cX7_read 191 = .ok (.getfield 38, 3) := by decide +kernel
theorem dX7_read_194 : decode cX7_read 194 = .ok (.iload 8, 2) := by decide +kernel
theorem dX7_read_196 : decode cX7_read 196 = .ok (.iconst 1, 1) := by decide +kernel
theorem dX7_read_197 : decode cX7_read 197 = .ok (.iadd, 1) := by decide +kernel
theorem dX7_read_198 : decode cX7_read 198 = .ok (.iaload, 1) := by decide +kernel
theorem dX7_read_199 : decode cX7_read 199 = .ok (.aload_n 0, 1) := by decide +kernel
theorem dX7_read_200 : decode cX7_read 200 = .ok (.getfield 38, 3) := by decide +kernel
theorem dX7_read_203 : decode cX7_read 203 = .ok (.iload 8, 2) := by decide +kernel
theorem dX7_read_205 : decode cX7_read 205 = .ok (.iconst 2, 1) := by decide +kernel
theorem dX7_read_206 : decode cX7_read 206 = .ok (.iadd, 1) := by decide +kernel
theorem dX7_read_207 : decode cX7_read 207 = .ok (.iaload, 1) := by decide +kernel
theorem dX7_read_208 : decode cX7_read 208 = .ok (.invokevirtual 296, 3) := by decide +kernel
theorem dX7_read_211 : decode cX7_read 211 = .ok (.ifCond .ge 39, 3) := by decide +kernel
theorem dX7_read_214 : decode cX7_read 214 = .ok (.iconst 0, 1) := by decide +kernel
theorem dX7_read_215 : decode cX7_read 215 = .ok (.istore 9, 2) := by decide +kernel
theorem dX7_read_217 : decode cX7_read 217 = .ok (.iload 9, 2) := by decide +kernel
theorem dX7_read_219 : decode cX7_read 219 = .ok (.bipush 61, 2) := by decide +kernel
theorem dX7_read_221 : decode cX7_read 221 = .ok (.if_icmp .ge 23, 3) := by decide +kernel
theorem dX7_read_224 : decode cX7_read 224 = .ok (.aload_n 0, 1) := by decide +kernel
theorem dX7_read_225 : decode cX7_read 225 = .ok (.getfield 7, 3) := by decide +kernel
theorem dX7_read_228 : decode cX7_read 228 = .ok (.iload 9, 2) := by decide +kernel
theorem dX7_read_230 : decode cX7_read 230 = .ok (.aload_n 0, 1) := by decide +kernel
theorem dX7_read_231 : decode cX7_read 231 = .ok (.getfield 41, 3) := by decide +kernel
theorem dX7_read_234 : decode cX7_read 234 = .ok (.iload 9, 2) := by decide +kernel
theorem dX7_read_236 : decode cX7_read 236 = .ok (.iaload, 1) := by decide +kernel
theorem dX7_read_237 : decode cX7_read 237 = .ok (.iastore, 1) := by decide +kernel
theorem dX7_read_238 : decode cX7_read 238 = .ok (.iinc 9 1, 3) := by decide +kernel
theorem dX7_read_241 : decode cX7_read 241 = .ok (.goto (-24), 3) := by decide +kernel
theorem dX7_read_244 : decode cX7_read 244 = .ok (.bipush (-20), 2) := by decide +kernel
theorem dX7_read_246 : decode cX7_read 246 = .ok (.iload 7, 2) := by decide +kernel
theorem dX7_read_248 : decode cX7_read 248 = .ok (.isub, 1) := by decide +kernel
theorem dX7_read_249 : decode cX7_read 249 = .ok (.ireturn, 1) := by decide +kernel
theorem dX7_read_250 : decode cX7_read 250 = .ok (.iinc 6 1, 3) := by decide +kernel
theorem dX7_read_253 : decode cX7_read 253 = .ok (.iinc 7 1, 3) := by decide +kernel
theorem dX7_read_256 : decode cX7_read 256 = .ok (.goto (-194), 3) := by decide +kernel
theorem dX7_read_259 : decode cX7_read 259 = .ok (.aload_n 0, 1) := by decide +kernel
theorem dX7_read_260 : decode cX7_read 260 = .ok (.iload 5, 2) := by decide +kernel
theorem dX7_read_262 : decode cX7_read 262 = .ok (.putfield 300, 3) := by decide +kernel
theorem dX7_read_265 : decode cX7_read 265 = .ok (.iload 6, 2) := by decide +kernel
theorem dX7_read_267 : decode cX7_read 267 = .ok (.ireturn, 1) := by decide +kernel
theorem dX7_torn_0 : decode cX7_torn 0 = .ok (.aload_n 0, 1) := by decide +kernel
theorem dX7_torn_1 : decode cX7_torn 1 = .ok (.getfield 300, 3) := by decide +kernel
theorem dX7_torn_4 : decode cX7_torn 4 = .ok (.ireturn, 1) := by decide +kernel
theorem dX7_count_0 : decode cX7_count 0 = .ok (.aload_n 0, 1) := by decide +kernel
theorem dX7_count_1 : decode cX7_count 1 = .ok (.invokevirtual 191, 3) := by decide +kernel
theorem dX7_count_4 : decode cX7_count 4 = .ok (.iconst 0, 1) := by decide +kernel
theorem dX7_count_5 : decode cX7_count 5 = .ok (.istore_n 2, 1) := by decide +kernel
theorem dX7_count_6 : decode cX7_count 6 = .ok (.iconst 0, 1) := by decide +kernel
theorem dX7_count_7 : decode cX7_count 7 = .ok (.istore_n 3, 1) := by decide +kernel
theorem dX7_count_8 : decode cX7_count 8 = .ok (.iconst 0, 1) := by decide +kernel
theorem dX7_count_9 : decode cX7_count 9 = .ok (.istore 4, 2) := by decide +kernel
theorem dX7_count_11 : decode cX7_count 11 = .ok (.iload 4, 2) := by decide +kernel
theorem dX7_count_13 : decode cX7_count 13 = .ok (.aload_n 0, 1) := by decide +kernel
theorem dX7_count_14 : decode cX7_count 14 = .ok (.getfield 7, 3) := by decide +kernel
theorem dX7_count_17 : decode cX7_count 17 = .ok (.bipush 34, 2) := by decide +kernel
theorem dX7_count_19 : decode cX7_count 19 = .ok (.iaload, 1) := by decide +kernel
theorem dX7_count_20 : decode cX7_count 20 = .ok (.if_icmp .ge 19, 3) := by decide +kernel
theorem dX7_count_23 : decode cX7_count 23 = .ok (.iload_n 2, 1) := by decide +kernel
theorem dX7_count_24 : decode cX7_count 24 = .ok (.aload_n 0, 1) := by decide +kernel
theorem dX7_count_25 : decode cX7_count 25 = .ok (.iload 4, 2) := by decide +kernel
theorem dX7_count_27 : decode cX7_count 27 = .ok (.iconst 1, 1) := by decide +kernel
theorem dX7_count_28 : decode cX7_count 28 = .ok (.invokevirtual 143, 3) := by decide +kernel
theorem dX7_count_31 : decode cX7_count 31 = .ok (.iadd, 1) := by decide +kernel
theorem dX7_count_32 : decode cX7_count 32 = .ok (.istore_n 2, 1) := by decide +kernel
theorem dX7_count_33 : decode cX7_count 33 = .ok (.iinc 4 1, 3) := by decide +kernel
theorem dX7_count_36 : decode cX7_count 36 = .ok (.goto (-25), 3) := by decide +kernel
theorem dX7_count_39 : decode cX7_count 39 = .ok (.iconst 0, 1) := by decide +kernel
theorem dX7_count_40 : decode cX7_count 40 = .ok (.istore 4, 2) := by decide +kernel
theorem dX7_count_42 : decode cX7_count 42 = .ok (.iload 4, 2) := by decide +kernel
theorem dX7_count_44 : decode cX7_count 44 = .ok (.bipush 6, 2) := by decide +kernel
theorem dX7_count_46 : decode cX7_count 46 = .ok (.if_icmp .ge 22, 3) := by decide +kernel
theorem dX7_count_49 : decode cX7_count 49 = .ok (.iload_n 3, 1) := by decide +kernel
theorem dX7_count_50 : decode cX7_count 50 = .ok (.aload_n 0, 1) := by decide +kernel
theorem dX7_count_51 : decode cX7_count 51 = .ok (.getfield 7, 3) := by decide +kernel
theorem dX7_count_54 : decode cX7_count 54 = .ok (.bipush 35, 2) := by decide +kernel
theorem dX7_count_56 : decode cX7_count 56 = .ok (.iload 4, 2) := by decide +kernel
theorem dX7_count_58 : decode cX7_count 58 = .ok (.iadd, 1) := by decide +kernel
theorem dX7_count_59 : decode cX7_count 59 = .ok (.iaload, 1) := by decide +kernel
theorem dX7_count_60 : decode cX7_count 60 = .ok (.iadd, 1) := by decide +kernel
theorem dX7_count_61 : decode cX7_count 61 = .ok (.istore_n 3, 1) := by decide +kernel
theorem dX7_count_62 : decode cX7_count 62 = .ok (.iinc 4 1, 3) := by decide +kernel
theorem dX7_count_65 : decode cX7_count 65 = .ok (.goto (-23), 3) := by decide +kernel
theorem dX7_count_68 : decode cX7_count 68 = .ok (.iload_n 1, 1) := by decide +kernel
theorem dX7_count_69 : decode cX7_count 69 = .ok (.tableswitch 99 0 5 #[39, 47, 67, 72, 95, 97], 39) := by decide +kernel
theorem dX7_count_108 : decode cX7_count 108 = .ok (.aload_n 0, 1) := by decide +kernel
theorem dX7_count_109 : decode cX7_count 109 = .ok (.getfield 7, 3) := by decide +kernel
theorem dX7_count_112 : decode cX7_count 112 = .ok (.bipush 42, 2) := by decide +kernel
theorem dX7_count_114 : decode cX7_count 114 = .ok (.iaload, 1) := by decide +kernel
theorem dX7_count_115 : decode cX7_count 115 = .ok (.ireturn, 1) := by decide +kernel
theorem dX7_count_116 : decode cX7_count 116 = .ok (.aload_n 0, 1) := by decide +kernel
theorem dX7_count_117 : decode cX7_count 117 = .ok (.getfield 16, 3) := by decide +kernel
theorem dX7_count_120 : decode cX7_count 120 = .ok (.iconst 0, 1) := by decide +kernel
theorem dX7_count_121 : decode cX7_count 121 = .ok (.baload, 1) := by decide +kernel
theorem dX7_count_122 : decode cX7_count 122 = .ok (.invokestatic 187, 3) := by decide +kernel
theorem dX7_count_125 : decode cX7_count 125 = .ok (.aload_n 0, 1) := by decide +kernel
theorem dX7_count_126 : decode cX7_count 126 = .ok (.getfield 16, 3) := by decide +kernel
theorem dX7_count_129 : decode cX7_count 129 = .ok (.iconst 1, 1) := by decide +kernel
theorem dX7_count_130 : decode cX7_count 130 = .ok (.baload, 1) := by decide +kernel
theorem dX7_count_131 : decode cX7_count 131 = .ok (.invokestatic 187, 3) := by decide +kernel
theorem dX7_count_134 : decode cX7_count 134 = .ok (.iadd, 1) := by decide +kernel
theorem dX7_count_135 : decode cX7_count 135 = .ok (.ireturn, 1) := by decide +kernel
theorem dX7_count_136 : decode cX7_count 136 = .ok (.aload_n 0, 1) := by decide +kernel
theorem dX7_count_137 : decode cX7_count 137 = .ok (.getfield 69, 3) := by decide +kernel
theorem dX7_count_140 : decode cX7_count 140 = .ok (.ireturn, 1) := by decide +kernel
theorem dX7_count_141 : decode cX7_count 141 = .ok (.aload_n 0, 1) := by decide +kernel
theorem dX7_count_142 : decode cX7_count 142 = .ok (.getfield 32, 3) := by decide +kernel
theorem dX7_count_145 : decode cX7_count 145 = .ok (.iconst 0, 1) := by decide +kernel
theorem dX7_count_146 : decode cX7_count 146 = .ok (.iaload, 1) := by decide +kernel
theorem dX7_count_147 : decode cX7_count 147 = .ok (.bipush (-4), 2) := by decide +kernel
theorem dX7_count_149 : decode cX7_count 149 = .ok (.if_icmp .ne 8, 3) := by decide +kernel
theorem dX7_count_152 : decode cX7_count 152 = .ok (.bipush (-4), 2) := by decide +kernel
theorem dX7_count_154 : decode cX7_count 154 = .ok (.goto 9, 3) := by decide +kernel
theorem dX7_count_157 : decode cX7_count 157 = .ok (.aload_n 0, 1) := by decide +kernel
theorem dX7_count_158 : decode cX7_count 158 = .ok (.getfield 35, 3) := by decide +kernel
theorem dX7_count_161 : decode cX7_count 161 = .ok (.iconst 0, 1) := by decide +kernel
theorem dX7_count_162 : decode cX7_count 162 = .ok (.iaload, 1) := by decide +kernel
theorem dX7_count_163 : decode cX7_count 163 = .ok (.ireturn, 1) := by decide +kernel
theorem dX7_count_164 : decode cX7_count 164 = .ok (.iload_n 2, 1) := by decide +kernel
theorem dX7_count_165 : decode cX7_count 165 = .ok (.ireturn, 1) := by decide +kernel
theorem dX7_count_166 : decode cX7_count 166 = .ok (.iload_n 3, 1) := by decide +kernel
theorem dX7_count_167 : decode cX7_count 167 = .ok (.ireturn, 1) := by decide +kernel
theorem dX7_count_168 : decode cX7_count 168 = .ok (.iconst (-1), 1) := by decide +kernel
theorem dX7_count_169 : decode cX7_count 169 = .ok (.ireturn, 1) := by decide +kernel
theorem dJ6_bitCount_0f7a4_0 : decode cJ6_bitCount_0f7a4 0 = .ok (.iload_n 0, 1) := by decide +kernel
theorem dJ6_bitCount_0f7a4_1 : decode cJ6_bitCount_0f7a4 1 = .ok (.iload_n 0, 1) := by decide +kernel
theorem dJ6_bitCount_0f7a4_2 : decode cJ6_bitCount_0f7a4 2 = .ok (.iconst 1, 1) := by decide +kernel
theorem dJ6_bitCount_0f7a4_3 : decode cJ6_bitCount_0f7a4 3 = .ok (.iushr, 1) := by decide +kernel
theorem dJ6_bitCount_0f7a4_4 : decode cJ6_bitCount_0f7a4 4 = .ok (.ldc_w 265, 3) := by decide +kernel
theorem dJ6_bitCount_0f7a4_7 : decode cJ6_bitCount_0f7a4 7 = .ok (.iand, 1) := by decide +kernel
theorem dJ6_bitCount_0f7a4_8 : decode cJ6_bitCount_0f7a4 8 = .ok (.isub, 1) := by decide +kernel
theorem dJ6_bitCount_0f7a4_9 : decode cJ6_bitCount_0f7a4 9 = .ok (.istore_n 0, 1) := by decide +kernel
theorem dJ6_bitCount_0f7a4_10 : decode cJ6_bitCount_0f7a4 10 = .ok (.iload_n 0, 1) := by decide +kernel
theorem dJ6_bitCount_0f7a4_11 : decode cJ6_bitCount_0f7a4 11 = .ok (.ldc_w 266, 3) := by decide +kernel
theorem dJ6_bitCount_0f7a4_14 : decode cJ6_bitCount_0f7a4 14 = .ok (.iand, 1) := by decide +kernel
theorem dJ6_bitCount_0f7a4_15 : decode cJ6_bitCount_0f7a4 15 = .ok (.iload_n 0, 1) := by decide +kernel
theorem dJ6_bitCount_0f7a4_16 : decode cJ6_bitCount_0f7a4 16 = .ok (.iconst 2, 1) := by decide +kernel
theorem dJ6_bitCount_0f7a4_17 : decode cJ6_bitCount_0f7a4 17 = .ok (.iushr, 1) := by decide +kernel
theorem dJ6_bitCount_0f7a4_18 : decode cJ6_bitCount_0f7a4 18 = .ok (.ldc_w 266, 3) := by decide +kernel
theorem dJ6_bitCount_0f7a4_21 : decode cJ6_bitCount_0f7a4 21 = .ok (.iand, 1) := by decide +kernel
theorem dJ6_bitCount_0f7a4_22 : decode cJ6_bitCount_0f7a4 22 = .ok (.iadd, 1) := by decide +kernel
theorem dJ6_bitCount_0f7a4_23 : decode cJ6_bitCount_0f7a4 23 = .ok (.istore_n 0, 1) := by decide +kernel
theorem dJ6_bitCount_0f7a4_24 : decode cJ6_bitCount_0f7a4 24 = .ok (.iload_n 0, 1) := by decide +kernel
theorem dJ6_bitCount_0f7a4_25 : decode cJ6_bitCount_0f7a4 25 = .ok (.iload_n 0, 1) := by decide +kernel
theorem dJ6_bitCount_0f7a4_26 : decode cJ6_bitCount_0f7a4 26 = .ok (.iconst 4, 1) := by decide +kernel
theorem dJ6_bitCount_0f7a4_27 : decode cJ6_bitCount_0f7a4 27 = .ok (.iushr, 1) := by decide +kernel
theorem dJ6_bitCount_0f7a4_28 : decode cJ6_bitCount_0f7a4 28 = .ok (.iadd, 1) := by decide +kernel
theorem dJ6_bitCount_0f7a4_29 : decode cJ6_bitCount_0f7a4 29 = .ok (.ldc_w 267, 3) := by decide +kernel
theorem dJ6_bitCount_0f7a4_32 : decode cJ6_bitCount_0f7a4 32 = .ok (.iand, 1) := by decide +kernel
theorem dJ6_bitCount_0f7a4_33 : decode cJ6_bitCount_0f7a4 33 = .ok (.istore_n 0, 1) := by decide +kernel
theorem dJ6_bitCount_0f7a4_34 : decode cJ6_bitCount_0f7a4 34 = .ok (.iload_n 0, 1) := by decide +kernel
theorem dJ6_bitCount_0f7a4_35 : decode cJ6_bitCount_0f7a4 35 = .ok (.iload_n 0, 1) := by decide +kernel
theorem dJ6_bitCount_0f7a4_36 : decode cJ6_bitCount_0f7a4 36 = .ok (.bipush 8, 2) := by decide +kernel
theorem dJ6_bitCount_0f7a4_38 : decode cJ6_bitCount_0f7a4 38 = .ok (.iushr, 1) := by decide +kernel
theorem dJ6_bitCount_0f7a4_39 : decode cJ6_bitCount_0f7a4 39 = .ok (.iadd, 1) := by decide +kernel
theorem dJ6_bitCount_0f7a4_40 : decode cJ6_bitCount_0f7a4 40 = .ok (.istore_n 0, 1) := by decide +kernel
theorem dJ6_bitCount_0f7a4_41 : decode cJ6_bitCount_0f7a4 41 = .ok (.iload_n 0, 1) := by decide +kernel
theorem dJ6_bitCount_0f7a4_42 : decode cJ6_bitCount_0f7a4 42 = .ok (.iload_n 0, 1) := by decide +kernel
theorem dJ6_bitCount_0f7a4_43 : decode cJ6_bitCount_0f7a4 43 = .ok (.bipush 16, 2) := by decide +kernel
theorem dJ6_bitCount_0f7a4_45 : decode cJ6_bitCount_0f7a4 45 = .ok (.iushr, 1) := by decide +kernel
theorem dJ6_bitCount_0f7a4_46 : decode cJ6_bitCount_0f7a4 46 = .ok (.iadd, 1) := by decide +kernel
theorem dJ6_bitCount_0f7a4_47 : decode cJ6_bitCount_0f7a4 47 = .ok (.istore_n 0, 1) := by decide +kernel
theorem dJ6_bitCount_0f7a4_48 : decode cJ6_bitCount_0f7a4 48 = .ok (.iload_n 0, 1) := by decide +kernel
theorem dJ6_bitCount_0f7a4_49 : decode cJ6_bitCount_0f7a4 49 = .ok (.bipush 63, 2) := by decide +kernel
theorem dJ6_bitCount_0f7a4_51 : decode cJ6_bitCount_0f7a4 51 = .ok (.iand, 1) := by decide +kernel
theorem dJ6_bitCount_0f7a4_52 : decode cJ6_bitCount_0f7a4 52 = .ok (.ireturn, 1) := by decide +kernel
theorem dJ9_max_7cf53_0 : decode cJ9_max_7cf53 0 = .ok (.iload_n 0, 1) := by decide +kernel
theorem dJ9_max_7cf53_1 : decode cJ9_max_7cf53 1 = .ok (.iload_n 1, 1) := by decide +kernel
theorem dJ9_max_7cf53_2 : decode cJ9_max_7cf53 2 = .ok (.if_icmp .lt 7, 3) := by decide +kernel
theorem dJ9_max_7cf53_5 : decode cJ9_max_7cf53 5 = .ok (.iload_n 0, 1) := by decide +kernel
theorem dJ9_max_7cf53_6 : decode cJ9_max_7cf53 6 = .ok (.goto 4, 3) := by decide +kernel
theorem dJ9_max_7cf53_9 : decode cJ9_max_7cf53 9 = .ok (.iload_n 1, 1) := by decide +kernel
theorem dJ9_max_7cf53_10 : decode cJ9_max_7cf53 10 = .ok (.ireturn, 1) := by decide +kernel
theorem dJ9_min_7cf53_0 : decode cJ9_min_7cf53 0 = .ok (.iload_n 0, 1) := by decide +kernel
theorem dJ9_min_7cf53_1 : decode cJ9_min_7cf53 1 = .ok (.iload_n 1, 1) := by decide +kernel
theorem dJ9_min_7cf53_2 : decode cJ9_min_7cf53 2 = .ok (.if_icmp .gt 7, 3) := by decide +kernel
theorem dJ9_min_7cf53_5 : decode cJ9_min_7cf53 5 = .ok (.iload_n 0, 1) := by decide +kernel
theorem dJ9_min_7cf53_6 : decode cJ9_min_7cf53 6 = .ok (.goto 4, 3) := by decide +kernel
theorem dJ9_min_7cf53_9 : decode cJ9_min_7cf53 9 = .ok (.iload_n 1, 1) := by decide +kernel
theorem dJ9_min_7cf53_10 : decode cJ9_min_7cf53 10 = .ok (.ireturn, 1) := by decide +kernel
theorem dJ0_length_8abf5_0 : decode cJ0_length_8abf5 0 = .ok (.aload_n 0, 1) := by decide +kernel
theorem dJ0_length_8abf5_1 : decode cJ0_length_8abf5 1 = .ok (.getfield 9, 3) := by decide +kernel
theorem dJ0_length_8abf5_4 : decode cJ0_length_8abf5 4 = .ok (.arraylength, 1) := by decide +kernel
theorem dJ0_length_8abf5_5 : decode cJ0_length_8abf5 5 = .ok (.aload_n 0, 1) := by decide +kernel
theorem dJ0_length_8abf5_6 : decode cJ0_length_8abf5 6 = .ok (.invokevirtual 335, 3) := by decide +kernel
theorem dJ0_length_8abf5_9 : decode cJ0_length_8abf5 9 = .ok (.ishr, 1) := by decide +kernel
theorem dJ0_length_8abf5_10 : decode cJ0_length_8abf5 10 = .ok (.ireturn, 1) := by decide +kernel
theorem dJ0_charAt_5068e_0 : decode cJ0_charAt_5068e 0 = .ok (.aload_n 0, 1) := by decide +kernel
theorem dJ0_charAt_5068e_1 : decode cJ0_charAt_5068e 1 = .ok (.invokevirtual 492, 3) := by decide +kernel
theorem dJ0_charAt_5068e_4 : decode cJ0_charAt_5068e 4 = .ok (.ifCond .eq 12, 3) := by decide +kernel
theorem dJ0_charAt_5068e_7 : decode cJ0_charAt_5068e 7 = .ok (.aload_n 0, 1) := by decide +kernel
theorem dJ0_charAt_5068e_8 : decode cJ0_charAt_5068e 8 = .ok (.getfield 9, 3) := by decide +kernel
theorem dJ0_charAt_5068e_11 : decode cJ0_charAt_5068e 11 = .ok (.iload_n 1, 1) := by decide +kernel
theorem dJ0_charAt_5068e_12 : decode cJ0_charAt_5068e 12 = .ok (.invokestatic 495, 3) := by decide +kernel
theorem dJ0_charAt_5068e_15 : decode cJ0_charAt_5068e 15 = .ok (.ireturn, 1) := by decide +kernel
theorem dJ0_charAt_5068e_16 : decode cJ0_charAt_5068e 16 = .ok (.aload_n 0, 1) := by decide +kernel
theorem dJ0_charAt_5068e_17 : decode cJ0_charAt_5068e 17 = .ok (.getfield 9, 3) := by decide +kernel
theorem dJ0_charAt_5068e_20 : decode cJ0_charAt_5068e 20 = .ok (.iload_n 1, 1) := by decide +kernel
theorem dJ0_charAt_5068e_21 : decode cJ0_charAt_5068e 21 = .ok (.invokestatic 498, 3) := by decide +kernel
theorem dJ0_charAt_5068e_24 : decode cJ0_charAt_5068e 24 = .ok (.ireturn, 1) := by decide +kernel
theorem dJ0_coder_7d493_0 : decode cJ0_coder_7d493 0 = .ok (.getstatic 38, 3) := by decide +kernel
theorem dJ0_coder_7d493_3 : decode cJ0_coder_7d493 3 = .ok (.ifCond .eq 10, 3) := by decide +kernel
theorem dJ0_coder_7d493_6 : decode cJ0_coder_7d493 6 = .ok (.aload_n 0, 1) := by decide +kernel
theorem dJ0_coder_7d493_7 : decode cJ0_coder_7d493 7 = .ok (.getfield 15, 3) := by decide +kernel
theorem dJ0_coder_7d493_10 : decode cJ0_coder_7d493 10 = .ok (.goto 4, 3) := by decide +kernel
theorem dJ0_coder_7d493_13 : decode cJ0_coder_7d493 13 = .ok (.iconst 1, 1) := by decide +kernel
theorem dJ0_coder_7d493_14 : decode cJ0_coder_7d493 14 = .ok (.ireturn, 1) := by decide +kernel
theorem dJ0_isLatin1_aae02_0 : decode cJ0_isLatin1_aae02 0 = .ok (.getstatic 38, 3) := by decide +kernel
theorem dJ0_isLatin1_aae02_3 : decode cJ0_isLatin1_aae02 3 = .ok (.ifCond .eq 14, 3) := by decide +kernel
theorem dJ0_isLatin1_aae02_6 : decode cJ0_isLatin1_aae02 6 = .ok (.aload_n 0, 1) := by decide +kernel
theorem dJ0_isLatin1_aae02_7 : decode cJ0_isLatin1_aae02 7 = .ok (.getfield 15, 3) := by decide +kernel
theorem dJ0_isLatin1_aae02_10 : decode cJ0_isLatin1_aae02 10 = .ok (.ifCond .ne 7, 3) := by decide +kernel
theorem dJ0_isLatin1_aae02_13 : decode cJ0_isLatin1_aae02 13 = .ok (.iconst 1, 1) := by decide +kernel
theorem dJ0_isLatin1_aae02_14 : decode cJ0_isLatin1_aae02 14 = .ok (.goto 4, 3) := by decide +kernel
theorem dJ0_isLatin1_aae02_17 : decode cJ0_isLatin1_aae02 17 = .ok (.iconst 0, 1) := by decide +kernel
theorem dJ0_isLatin1_aae02_18 : decode cJ0_isLatin1_aae02 18 = .ok (.ireturn, 1) := by decide +kernel
theorem dJ0_checkIndex_df160_0 : decode cJ0_checkIndex_df160 0 = .ok (.iload_n 0, 1) := by decide +kernel
theorem dJ0_checkIndex_df160_1 : decode cJ0_checkIndex_df160 1 = .ok (.iload_n 1, 1) := by decide +kernel
theorem dJ0_checkIndex_df160_2 : decode cJ0_checkIndex_df160 2 = .ok (.getstatic 1053, 3) := by decide +kernel
theorem dJ0_checkIndex_df160_5 : decode cJ0_checkIndex_df160 5 = .ok (.invokestatic 1059, 3) := by decide +kernel
theorem dJ0_checkIndex_df160_8 : decode cJ0_checkIndex_df160 8 = .ok (.pop, 1) := by decide +kernel
theorem dJ0_checkIndex_df160_9 : decode cJ0_checkIndex_df160 9 = .ok (.return_, 1) := by decide +kernel
theorem dJ1_charAt_3b067_0 : decode cJ1_charAt_3b067 0 = .ok (.iload_n 1, 1) := by decide +kernel
theorem dJ1_charAt_3b067_1 : decode cJ1_charAt_3b067 1 = .ok (.aload_n 0, 1) := by decide +kernel
theorem dJ1_charAt_3b067_2 : decode cJ1_charAt_3b067 2 = .ok (.arraylength, 1) := by decide +kernel
theorem dJ1_charAt_3b067_3 : decode cJ1_charAt_3b067 3 = .ok (.invokestatic 9, 3) := by decide +kernel
theorem dJ1_charAt_3b067_6 : decode cJ1_charAt_3b067 6 = .ok (.aload_n 0, 1) := by decide +kernel
theorem dJ1_charAt_3b067_7 : decode cJ1_charAt_3b067 7 = .ok (.iload_n 1, 1) := by decide +kernel
theorem dJ1_charAt_3b067_8 : decode cJ1_charAt_3b067 8 = .ok (.baload, 1) := by decide +kernel
theorem dJ1_charAt_3b067_9 : decode cJ1_charAt_3b067 9 = .ok (.sipush 255, 3) := by decide +kernel
theorem dJ1_charAt_3b067_12 : decode cJ1_charAt_3b067 12 = .ok (.iand, 1) := by decide +kernel
theorem dJ1_charAt_3b067_13 : decode cJ1_charAt_3b067 13 = .ok (.i2c, 1) := by decide +kernel
theorem dJ1_charAt_3b067_14 : decode cJ1_charAt_3b067 14 = .ok (.ireturn, 1) := by decide +kernel
theorem dJ2_getChar_3b067_0 : decode cJ2_getChar_3b067 0 = .ok (.getstatic 44, 3) := by decide +kernel
theorem dJ2_getChar_3b067_3 : decode cJ2_getChar_3b067 3 = .ok (.ifCond .ne 25, 3) := by decide +kernel
theorem dJ2_getChar_3b067_6 : decode cJ2_getChar_3b067 6 = .ok (.iload_n 1, 1) := by decide +kernel
theorem dJ2_getChar_3b067_7 : decode cJ2_getChar_3b067 7 = .ok (.ifCond .lt 11, 3) := by decide +kernel
