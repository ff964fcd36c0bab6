theorem dX6_init_95 : decode cX6_init 95 = .ok (.aload_n 0, 1) := by decide +kernel
theorem dX6_init_96 : decode cX6_init 96 = .ok (.iconst 0, 1) := by decide +kernel
theorem dX6_init_97 : decode cX6_init 97 = .ok (.putfield 62, 3) := by decide +kernel
theorem dX6_init_100 : decode cX6_init 100 = .ok (.iconst 0, 1) := by decide +kernel
theorem dX6_init_101 : decode cX6_init 101 = .ok (.istore_n 1, 1) := by decide +kernel
theorem dX6_init_102 : decode cX6_init 102 = .ok (.iload_n 1, 1) := by decide +kernel
theorem dX6_init_103 : decode cX6_init 103 = .ok (.aload_n 0, 1) := by decide +kernel
theorem dX6_init_104 : decode cX6_init 104 = .ok (.getfield 42, 3) := by decide +kernel
theorem dX6_init_107 : decode cX6_init 107 = .ok (.arraylength, 1) := by decide +kernel
theorem dX6_init_108 : decode cX6_init 108 = .ok (.if_icmp .ge 22, 3) := by decide +kernel
theorem dX6_init_111 : decode cX6_init 111 = .ok (.aload_n 0, 1) := by decide +kernel
theorem dX6_init_112 : decode cX6_init 112 = .ok (.getfield 42, 3) := by decide +kernel
theorem dX6_init_115 : decode cX6_init 115 = .ok (.iload_n 1, 1) := by decide +kernel
theorem dX6_init_116 : decode cX6_init 116 = .ok (.new 25, 3) := by decide +kernel
theorem dX6_init_119 : decode cX6_init 119 = .ok (.dup, 1) := by decide +kernel
theorem dX6_init_120 : decode cX6_init 120 = .ok (.invokespecial 27, 3) := by decide +kernel
theorem dX6_init_123 : decode cX6_init 123 = .ok (.aastore, 1) := by decide +kernel
theorem dX6_init_124 : decode cX6_init 124 = .ok (.iinc 1 1, 3) := by decide +kernel
theorem dX6_init_127 : decode cX6_init 127 = .ok (.goto (-25), 3) := by decide +kernel
theorem dX6_init_130 : decode cX6_init 130 = .ok (.iconst 0, 1) := by decide +kernel
theorem dX6_init_131 : decode cX6_init 131 = .ok (.istore_n 1, 1) := by decide +kernel
theorem dX6_init_132 : decode cX6_init 132 = .ok (.iload_n 1, 1) := by decide +kernel
theorem dX6_init_133 : decode cX6_init 133 = .ok (.aload_n 0, 1) := by decide +kernel
theorem dX6_init_134 : decode cX6_init 134 = .ok (.getfield 52, 3) := by decide +kernel
theorem dX6_init_137 : decode cX6_init 137 = .ok (.arraylength, 1) := by decide +kernel
theorem dX6_init_138 : decode cX6_init 138 = .ok (.if_icmp .ge 22, 3) := by decide +kernel
theorem dX6_init_141 : decode cX6_init 141 = .ok (.aload_n 0, 1) := by decide +kernel
theorem dX6_init_142 : decode cX6_init 142 = .ok (.getfield 52, 3) := by decide +kernel
theorem dX6_init_145 : decode cX6_init 145 = .ok (.iload_n 1, 1) := by decide +kernel
theorem dX6_init_146 : decode cX6_init 146 = .ok (.new 50, 3) := by decide +kernel
theorem dX6_init_149 : decode cX6_init 149 = .ok (.dup, 1) := by decide +kernel
theorem dX6_init_150 : decode cX6_init 150 = .ok (.invokespecial 66, 3) := by decide +kernel
theorem dX6_init_153 : decode cX6_init 153 = .ok (.aastore, 1) := by decide +kernel
theorem dX6_init_154 : decode cX6_init 154 = .ok (.iinc 1 1, 3) := by decide +kernel
theorem dX6_init_157 : decode cX6_init 157 = .ok (.goto (-25), 3) := by decide +kernel
theorem dX6_init_160 : decode cX6_init 160 = .ok (.iconst 0, 1) := by decide +kernel
theorem dX6_init_161 : decode cX6_init 161 = .ok (.istore_n 1, 1) := by decide +kernel
theorem dX6_init_162 : decode cX6_init 162 = .ok (.iload_n 1, 1) := by decide +kernel
theorem dX6_init_163 : decode cX6_init 163 = .ok (.aload_n 0, 1) := by decide +kernel
theorem dX6_init_164 : decode cX6_init 164 = .ok (.getfield 58, 3) := by decide +kernel
theorem dX6_init_167 : decode cX6_init 167 = .ok (.arraylength, 1) := by decide +kernel
theorem dX6_init_168 : decode cX6_init 168 = .ok (.if_icmp .ge 22, 3) := by decide +kernel
theorem dX6_init_171 : decode cX6_init 171 = .ok (.aload_n 0, 1) := by decide +kernel
theorem dX6_init_172 : decode cX6_init 172 = .ok (.getfield 58, 3) := by decide +kernel
theorem dX6_init_175 : decode cX6_init 175 = .ok (.iload_n 1, 1) := by decide +kernel
theorem dX6_init_176 : decode cX6_init 176 = .ok (.new 56, 3) := by decide +kernel
theorem dX6_init_179 : decode cX6_init 179 = .ok (.dup, 1) := by decide +kernel
theorem dX6_init_180 : decode cX6_init 180 = .ok (.invokespecial 67, 3) := by decide +kernel
theorem dX6_init_183 : decode cX6_init 183 = .ok (.aastore, 1) := by decide +kernel
theorem dX6_init_184 : decode cX6_init 184 = .ok (.iinc 1 1, 3) := by decide +kernel
theorem dX6_init_187 : decode cX6_init 187 = .ok (.goto (-25), 3) := by decide +kernel
theorem dX6_init_190 : decode cX6_init 190 = .ok (.return_, 1) := by decide +kernel
theorem dX6_feed_0 : decode cX6_feed 0 = .ok (.iload_n 1, 1) := by decide +kernel
theorem dX6_feed_1 : decode cX6_feed 1 = .ok (.iconst 0, 1) := by decide +kernel
theorem dX6_feed_2 : decode cX6_feed 2 = .ok (.bipush 127, 2) := by decide +kernel
theorem dX6_feed_4 : decode cX6_feed 4 = .ok (.invokestatic 68, 3) := by decide +kernel
theorem dX6_feed_7 : decode cX6_feed 7 = .ok (.ifCond .ne 5, 3) := by decide +kernel
theorem dX6_feed_10 : decode cX6_feed 10 = .ok (.iconst (-1), 1) := by decide +kernel
theorem dX6_feed_11 : decode cX6_feed 11 = .ok (.ireturn, 1) := by decide +kernel
theorem dX6_feed_12 : decode cX6_feed 12 = .ok (.aload_n 0, 1) := by decide +kernel
theorem dX6_feed_13 : decode cX6_feed 13 = .ok (.getfield 10, 3) := by decide +kernel
theorem dX6_feed_16 : decode cX6_feed 16 = .ok (.iload_n 1, 1) := by decide +kernel
theorem dX6_feed_17 : decode cX6_feed 17 = .ok (.invokevirtual 72, 3) := by decide +kernel
theorem dX6_feed_20 : decode cX6_feed 20 = .ok (.ifCond .eq 13, 3) := by decide +kernel
theorem dX6_feed_23 : decode cX6_feed 23 = .ok (.aload_n 0, 1) := by decide +kernel
theorem dX6_feed_24 : decode cX6_feed 24 = .ok (.getfield 10, 3) := by decide +kernel
theorem dX6_feed_27 : decode cX6_feed 27 = .ok (.getfield 76, 3) := by decide +kernel
theorem dX6_feed_30 : decode cX6_feed 30 = .ok (.goto 5, 3) := by decide +kernel
theorem dX6_feed_33 : decode cX6_feed 33 = .ok (.bipush (-3), 2) := by decide +kernel
theorem dX6_feed_35 : decode cX6_feed 35 = .ok (.ireturn, 1) := by decide +kernel
theorem dX6_end_0 : decode cX6_end 0 = .ok (.iload_n 1, 1) := by decide +kernel
theorem dX6_end_1 : decode cX6_end 1 = .ok (.iconst 0, 1) := by decide +kernel
theorem dX6_end_2 : decode cX6_end 2 = .ok (.aload_n 0, 1) := by decide +kernel
theorem dX6_end_3 : decode cX6_end 3 = .ok (.getfield 10, 3) := by decide +kernel
theorem dX6_end_6 : decode cX6_end 6 = .ok (.getfield 76, 3) := by decide +kernel
theorem dX6_end_9 : decode cX6_end 9 = .ok (.invokestatic 68, 3) := by decide +kernel
theorem dX6_end_12 : decode cX6_end 12 = .ok (.ifCond .ne 5, 3) := by decide +kernel
theorem dX6_end_15 : decode cX6_end 15 = .ok (.iconst (-1), 1) := by decide +kernel
theorem dX6_end_16 : decode cX6_end 16 = .ok (.ireturn, 1) := by decide +kernel
theorem dX6_end_17 : decode cX6_end 17 = .ok (.aload_n 0, 1) := by decide +kernel
theorem dX6_end_18 : decode cX6_end 18 = .ok (.getfield 10, 3) := by decide +kernel
theorem dX6_end_21 : decode cX6_end 21 = .ok (.getfield 76, 3) := by decide +kernel
theorem dX6_end_24 : decode cX6_end 24 = .ok (.istore_n 2, 1) := by decide +kernel
theorem dX6_end_25 : decode cX6_end 25 = .ok (.aload_n 0, 1) := by decide +kernel
theorem dX6_end_26 : decode cX6_end 26 = .ok (.getfield 10, 3) := by decide +kernel
theorem dX6_end_29 : decode cX6_end 29 = .ok (.iload_n 1, 1) := by decide +kernel
theorem dX6_end_30 : decode cX6_end 30 = .ok (.putfield 76, 3) := by decide +kernel
theorem dX6_end_33 : decode cX6_end 33 = .ok (.iload_n 2, 1) := by decide +kernel
theorem dX6_end_34 : decode cX6_end 34 = .ok (.ireturn, 1) := by decide +kernel
theorem dX6_text_0 : decode cX6_text 0 = .ok (.aload_n 0, 1) := by decide +kernel
theorem dX6_text_1 : decode cX6_text 1 = .ok (.getfield 21, 3) := by decide +kernel
theorem dX6_text_4 : decode cX6_text 4 = .ok (.invokevirtual 79, 3) := by decide +kernel
theorem dX6_text_7 : decode cX6_text 7 = .ok (.istore_n 1, 1) := by decide +kernel
theorem dX6_text_8 : decode cX6_text 8 = .ok (.aload_n 0, 1) := by decide +kernel
theorem dX6_text_9 : decode cX6_text 9 = .ok (.getfield 10, 3) := by decide +kernel
theorem dX6_text_12 : decode cX6_text 12 = .ok (.iconst 0, 1) := by decide +kernel
theorem dX6_text_13 : decode cX6_text 13 = .ok (.putfield 76, 3) := by decide +kernel
theorem dX6_text_16 : decode cX6_text 16 = .ok (.iload_n 1, 1) := by decide +kernel
theorem dX6_text_17 : decode cX6_text 17 = .ok (.ifCond .ne 14, 3) := by decide +kernel
theorem dX6_text_20 : decode cX6_text 20 = .ok (.bipush (-10), 2) := by decide +kernel
theorem dX6_text_22 : decode cX6_text 22 = .ok (.aload_n 0, 1) := by decide +kernel
theorem dX6_text_23 : decode cX6_text 23 = .ok (.getfield 21, 3) := by decide +kernel
theorem dX6_text_26 : decode cX6_text 26 = .ok (.getfield 83, 3) := by decide +kernel
theorem dX6_text_29 : decode cX6_text 29 = .ok (.isub, 1) := by decide +kernel
theorem dX6_text_30 : decode cX6_text 30 = .ok (.ireturn, 1) := by decide +kernel
theorem dX6_text_31 : decode cX6_text 31 = .ok (.aload_n 0, 1) := by decide +kernel
theorem dX6_text_32 : decode cX6_text 32 = .ok (.getfield 28, 3) := by decide +kernel
theorem dX6_text_35 : decode cX6_text 35 = .ok (.aload_n 0, 1) := by decide +kernel
theorem dX6_text_36 : decode cX6_text 36 = .ok (.getfield 21, 3) := by decide +kernel
theorem dX6_text_39 : decode cX6_text 39 = .ok (.getfield 86, 3) := by decide +kernel
theorem dX6_text_42 : decode cX6_text 42 = .ok (.invokevirtual 89, 3) := by decide +kernel
theorem dX6_text_45 : decode cX6_text 45 = .ok (.aload_n 0, 1) := by decide +kernel
theorem dX6_text_46 : decode cX6_text 46 = .ok (.getfield 35, 3) := by decide +kernel
theorem dX6_text_49 : decode cX6_text 49 = .ok (.iconst 0, 1) := by decide +kernel
theorem dX6_text_50 : decode cX6_text 50 = .ok (.putfield 93, 3) := by decide +kernel
theorem dX6_text_53 : decode cX6_text 53 = .ok (.iconst 0, 1) := by decide +kernel
theorem dX6_text_54 : decode cX6_text 54 = .ok (.istore_n 2, 1) := by decide +kernel
theorem dX6_text_55 : decode cX6_text 55 = .ok (.iload_n 2, 1) := by decide +kernel
theorem dX6_text_56 : decode cX6_text 56 = .ok (.aload_n 0, 1) := by decide +kernel
theorem dX6_text_57 : decode cX6_text 57 = .ok (.getfield 52, 3) := by decide +kernel
theorem dX6_text_60 : decode cX6_text 60 = .ok (.arraylength, 1) := by decide +kernel
theorem dX6_text_61 : decode cX6_text 61 = .ok (.if_icmp .ge 19, 3) := by decide +kernel
theorem dX6_text_64 : decode cX6_text 64 = .ok (.aload_n 0, 1) := by decide +kernel
theorem dX6_text_65 : decode cX6_text 65 = .ok (.getfield 52, 3) := by decide +kernel
theorem dX6_text_68 : decode cX6_text 68 = .ok (.iload_n 2, 1) := by decide +kernel
theorem dX6_text_69 : decode cX6_text 69 = .ok (.aaload, 1) := by decide +kernel
theorem dX6_text_70 : decode cX6_text 70 = .ok (.iconst 0, 1) := by decide +kernel
theorem dX6_text_71 : decode cX6_text 71 = .ok (.putfield 96, 3) := by decide +kernel
theorem dX6_text_74 : decode cX6_text 74 = .ok (.iinc 2 1, 3) := by decide +kernel
theorem dX6_text_77 : decode cX6_text 77 = .ok (.goto (-22), 3) := by decide +kernel
theorem dX6_text_80 : decode cX6_text 80 = .ok (.aload_n 0, 1) := by decide +kernel
theorem dX6_text_81 : decode cX6_text 81 = .ok (.getfield 21, 3) := by decide +kernel
theorem dX6_text_84 : decode cX6_text 84 = .ok (.getfield 100, 3) := by decide +kernel
theorem dX6_text_87 : decode cX6_text 87 = .ok (.ireturn, 1) := by decide +kernel
theorem dX6_fault_0 : decode cX6_fault 0 = .ok (.aload_n 0, 1) := by decide +kernel
theorem dX6_fault_1 : decode cX6_fault 1 = .ok (.getfield 21, 3) := by decide +kernel
theorem dX6_fault_4 : decode cX6_fault 4 = .ok (.getfield 103, 3) := by decide +kernel
theorem dX6_fault_7 : decode cX6_fault 7 = .ok (.ireturn, 1) := by decide +kernel
theorem dX6_rule_0 : decode cX6_rule 0 = .ok (.iload_n 1, 1) := by decide +kernel
theorem dX6_rule_1 : decode cX6_rule 1 = .ok (.tableswitch 87 0 5 #[39, 47, 55, 63, 71, 79], 39) := by decide +kernel
theorem dX6_rule_40 : decode cX6_rule 40 = .ok (.aload_n 0, 1) := by decide +kernel
theorem dX6_rule_41 : decode cX6_rule 41 = .ok (.getfield 28, 3) := by decide +kernel
theorem dX6_rule_44 : decode cX6_rule 44 = .ok (.getfield 106, 3) := by decide +kernel
theorem dX6_rule_47 : decode cX6_rule 47 = .ok (.ireturn, 1) := by decide +kernel
theorem dX6_rule_48 : decode cX6_rule 48 = .ok (.aload_n 0, 1) := by decide +kernel
theorem dX6_rule_49 : decode cX6_rule 49 = .ok (.getfield 28, 3) := by decide +kernel
theorem dX6_rule_52 : decode cX6_rule 52 = .ok (.getfield 109, 3) := by decide +kernel
theorem dX6_rule_55 : decode cX6_rule 55 = .ok (.ireturn, 1) := by decide +kernel
theorem dX6_rule_56 : decode cX6_rule 56 = .ok (.aload_n 0, 1) := by decide +kernel
theorem dX6_rule_57 : decode cX6_rule 57 = .ok (.getfield 28, 3) := by decide +kernel
theorem dX6_rule_60 : decode cX6_rule 60 = .ok (.getfield 112, 3) := by decide +kernel
theorem dX6_rule_63 : decode cX6_rule 63 = .ok (.ireturn, 1) := by decide +kernel
theorem dX6_rule_64 : decode cX6_rule 64 = .ok (.aload_n 0, 1) := by decide +kernel
theorem dX6_rule_65 : decode cX6_rule 65 = .ok (.getfield 28, 3) := by decide +kernel
theorem dX6_rule_68 : decode cX6_rule 68 = .ok (.invokevirtual 115, 3) := by decide +kernel
theorem dX6_rule_71 : decode cX6_rule 71 = .ok (.ireturn, 1) := by decide +kernel
theorem dX6_rule_72 : decode cX6_rule 72 = .ok (.aload_n 0, 1) := by decide +kernel
theorem dX6_rule_73 : decode cX6_rule 73 = .ok (.getfield 28, 3) := by decide +kernel
theorem dX6_rule_76 : decode cX6_rule 76 = .ok (.invokevirtual 119, 3) := by decide +kernel
theorem dX6_rule_79 : decode cX6_rule 79 = .ok (.ireturn, 1) := by decide +kernel
theorem dX6_rule_80 : decode cX6_rule 80 = .ok (.aload_n 0, 1) := by decide +kernel
theorem dX6_rule_81 : decode cX6_rule 81 = .ok (.getfield 28, 3) := by decide +kernel
theorem dX6_rule_84 : decode cX6_rule 84 = .ok (.invokevirtual 122, 3) := by decide +kernel
theorem dX6_rule_87 : decode cX6_rule 87 = .ok (.ireturn, 1) := by decide +kernel
theorem dX6_rule_88 : decode cX6_rule 88 = .ok (.iconst (-1), 1) := by decide +kernel
theorem dX6_rule_89 : decode cX6_rule 89 = .ok (.ireturn, 1) := by decide +kernel
theorem dX6_one_0 : decode cX6_one 0 = .ok (.aload_n 0, 1) := by decide +kernel
theorem dX6_one_1 : decode cX6_one 1 = .ok (.getfield 28, 3) := by decide +kernel
theorem dX6_one_4 : decode cX6_one 4 = .ok (.iload_n 1, 1) := by decide +kernel
theorem dX6_one_5 : decode cX6_one 5 = .ok (.invokevirtual 125, 3) := by decide +kernel
theorem dX6_one_8 : decode cX6_one 8 = .ok (.ifCond .ne 5, 3) := by decide +kernel
theorem dX6_one_11 : decode cX6_one 11 = .ok (.iconst (-1), 1) := by decide +kernel
theorem dX6_one_12 : decode cX6_one 12 = .ok (.ireturn, 1) := by decide +kernel
theorem dX6_one_13 : decode cX6_one 13 = .ok (.iload_n 2, 1) := by decide +kernel
theorem dX6_one_14 : decode cX6_one 14 = .ok (.tableswitch 67 0 3 #[30, 40, 49, 58], 30) := by decide +kernel
theorem dX6_one_44 : decode cX6_one 44 = .ok (.aload_n 0, 1) := by decide +kernel
theorem dX6_one_45 : decode cX6_one 45 = .ok (.getfield 28, 3) := by decide +kernel
theorem dX6_one_48 : decode cX6_one 48 = .ok (.getfield 128, 3) := by decide +kernel
theorem dX6_one_51 : decode cX6_one 51 = .ok (.iload_n 1, 1) := by decide +kernel
theorem dX6_one_52 : decode cX6_one 52 = .ok (.iaload, 1) := by decide +kernel
theorem dX6_one_53 : decode cX6_one 53 = .ok (.ireturn, 1) := by decide +kernel
theorem dX6_one_54 : decode cX6_one 54 = .ok (.aload_n 0, 1) := by decide +kernel
theorem dX6_one_55 : decode cX6_one 55 = .ok (.getfield 28, 3) := by decide +kernel
theorem dX6_one_58 : decode cX6_one 58 = .ok (.iload_n 1, 1) := by decide +kernel
theorem dX6_one_59 : decode cX6_one 59 = .ok (.invokevirtual 131, 3) := by decide +kernel
theorem dX6_one_62 : decode cX6_one 62 = .ok (.ireturn, 1) := by decide +kernel
theorem dX6_one_63 : decode cX6_one 63 = .ok (.aload_n 0, 1) := by decide +kernel
theorem dX6_one_64 : decode cX6_one 64 = .ok (.getfield 28, 3) := by decide +kernel
theorem dX6_one_67 : decode cX6_one 67 = .ok (.iload_n 1, 1) := by decide +kernel
theorem dX6_one_68 : decode cX6_one 68 = .ok (.invokevirtual 135, 3) := by decide +kernel
theorem dX6_one_71 : decode cX6_one 71 = .ok (.ireturn, 1) := by decide +kernel
theorem dX6_one_72 : decode cX6_one 72 = .ok (.aload_n 0, 1) := by decide +kernel
theorem dX6_one_73 : decode cX6_one 73 = .ok (.getfield 28, 3) := by decide +kernel
theorem dX6_one_76 : decode cX6_one 76 = .ok (.iload_n 1, 1) := by decide +kernel
theorem dX6_one_77 : decode cX6_one 77 = .ok (.invokevirtual 138, 3) := by decide +kernel
theorem dX6_one_80 : decode cX6_one 80 = .ok (.ireturn, 1) := by decide +kernel
theorem dX6_one_81 : decode cX6_one 81 = .ok (.iconst (-1), 1) := by decide +kernel
theorem dX6_one_82 : decode cX6_one 82 = .ok (.ireturn, 1) := by decide +kernel
theorem dX6_beetle_0 : decode cX6_beetle 0 = .ok (.aload_n 0, 1) := by decide +kernel
theorem dX6_beetle_1 : decode cX6_beetle 1 = .ok (.getfield 28, 3) := by decide +kernel
theorem dX6_beetle_4 : decode cX6_beetle 4 = .ok (.iload_n 1, 1) := by decide +kernel
theorem dX6_beetle_5 : decode cX6_beetle 5 = .ok (.invokevirtual 141, 3) := by decide +kernel
theorem dX6_beetle_8 : decode cX6_beetle 8 = .ok (.ifCond .ne 5, 3) := by decide +kernel
theorem dX6_beetle_11 : decode cX6_beetle 11 = .ok (.iconst (-1), 1) := by decide +kernel
theorem dX6_beetle_12 : decode cX6_beetle 12 = .ok (.ireturn, 1) := by decide +kernel
theorem dX6_beetle_13 : decode cX6_beetle 13 = .ok (.iload_n 2, 1) := by decide +kernel
theorem dX6_beetle_14 : decode cX6_beetle 14 = .ok (.tableswitch 109 0 6 #[42, 52, 62, 72, 81, 91, 100], 42) := by decide +kernel
theorem dX6_beetle_56 : decode cX6_beetle 56 = .ok (.aload_n 0, 1) := by decide +kernel
theorem dX6_beetle_57 : decode cX6_beetle 57 = .ok (.getfield 28, 3) := by decide +kernel
theorem dX6_beetle_60 : decode cX6_beetle 60 = .ok (.getfield 144, 3) := by decide +kernel
theorem dX6_beetle_63 : decode cX6_beetle 63 = .ok (.iload_n 1, 1) := by decide +kernel
theorem dX6_beetle_64 : decode cX6_beetle 64 = .ok (.iaload, 1) := by decide +kernel
theorem dX6_beetle_65 : decode cX6_beetle 65 = .ok (.ireturn, 1) := by decide +kernel
theorem dX6_beetle_66 : decode cX6_beetle 66 = .ok (.aload_n 0, 1) := by decide +kernel
theorem dX6_beetle_67 : decode cX6_beetle 67 = .ok (.getfield 28, 3) := by decide +kernel
theorem dX6_beetle_70 : decode cX6_beetle 70 = .ok (.getfield 147, 3) := by decide +kernel
theorem dX6_beetle_73 : decode cX6_beetle 73 = .ok (.iload_n 1, 1) := by decide +kernel
theorem dX6_beetle_74 : decode cX6_beetle 74 = .ok (.iaload, 1) := by decide +kernel
theorem dX6_beetle_75 : decode cX6_beetle 75 = .ok (.ireturn, 1) := by decide +kernel
theorem dX6_beetle_76 : decode cX6_beetle 76 = .ok (.aload_n 0, 1) := by decide +kernel
theorem dX6_beetle_77 : decode cX6_beetle 77 = .ok (.getfield 28, 3) := by decide +kernel
theorem dX6_beetle_80 : decode cX6_beetle 80 = .ok (.getfield 150, 3) := by decide +kernel
theorem dX6_beetle_83 : decode cX6_beetle 83 = .ok (.iload_n 1, 1) := by decide +kernel
theorem dX6_beetle_84 : decode cX6_beetle 84 = .ok (.iaload, 1) := by decide +kernel
theorem dX6_beetle_85 : decode cX6_beetle 85 = .ok (.ireturn, 1) := by decide +kernel
theorem dX6_beetle_86 : decode cX6_beetle 86 = .ok (.aload_n 0, 1) := by decide +kernel
theorem dX6_beetle_87 : decode cX6_beetle 87 = .ok (.getfield 28, 3) := by decide +kernel
theorem dX6_beetle_90 : decode cX6_beetle 90 = .ok (.iload_n 1, 1) := by decide +kernel
theorem dX6_beetle_91 : decode cX6_beetle 91 = .ok (.invokevirtual 153, 3) := by decide +kernel
theorem dX6_beetle_94 : decode cX6_beetle 94 = .ok (.ireturn, 1) := by decide +kernel
theorem dX6_beetle_95 : decode cX6_beetle 95 = .ok (.aload_n 0, 1) := by decide +kernel
theorem dX6_beetle_96 : decode cX6_beetle 96 = .ok (.getfield 28, 3) := by decide +kernel
theorem dX6_beetle_99 : decode cX6_beetle 99 = .ok (.getfield 156, 3) := by decide +kernel
theorem dX6_beetle_102 : decode cX6_beetle 102 = .ok (.iload_n 1, 1) := by decide +kernel
theorem dX6_beetle_103 : decode cX6_beetle 103 = .ok (.iaload, 1) := by decide +kernel
theorem dX6_beetle_104 : decode cX6_beetle 104 = .ok (.ireturn, 1) := by decide +kernel
theorem dX6_beetle_105 : decode cX6_beetle 105 = .ok (.aload_n 0, 1) := by decide +kernel
theorem dX6_beetle_106 : decode cX6_beetle 106 = .ok (.getfield 28, 3) := by decide +kernel
theorem dX6_beetle_109 : decode cX6_beetle 109 = .ok (.iload_n 1, 1) := by decide +kernel
theorem dX6_beetle_110 : decode cX6_beetle 110 = .ok (.invokevirtual 159, 3) := by decide +kernel
theorem dX6_beetle_113 : decode cX6_beetle 113 = .ok (.ireturn, 1) := by decide +kernel
theorem dX6_beetle_114 : decode cX6_beetle 114 = .ok (.aload_n 0, 1) := by decide +kernel
theorem dX6_beetle_115 : decode cX6_beetle 115 = .ok (.getfield 28, 3) := by decide +kernel
theorem dX6_beetle_118 : decode cX6_beetle 118 = .ok (.iload_n 1, 1) := by decide +kernel
theorem dX6_beetle_119 : decode cX6_beetle 119 = .ok (.invokevirtual 162, 3) := by decide +kernel
theorem dX6_beetle_122 : decode cX6_beetle 122 = .ok (.ireturn, 1) := by decide +kernel
theorem dX6_beetle_123 : decode cX6_beetle 123 = .ok (.iconst (-1), 1) := by decide +kernel
theorem dX6_beetle_124 : decode cX6_beetle 124 = .ok (.ireturn, 1) := by decide +kernel
theorem dX6_wind_0 : decode cX6_wind 0 = .ok (.iload_n 1, 1) := by decide +kernel
theorem dX6_wind_1 : decode cX6_wind 1 = .ok (.iconst 0, 1) := by decide +kernel
theorem dX6_wind_2 : decode cX6_wind 2 = .ok (.iconst 5, 1) := by decide +kernel
theorem dX6_wind_3 : decode cX6_wind 3 = .ok (.invokestatic 68, 3) := by decide +kernel
theorem dX6_wind_6 : decode cX6_wind 6 = .ok (.ifCond .eq 15, 3) := by decide +kernel
theorem dX6_wind_9 : decode cX6_wind 9 = .ok (.aload_n 0, 1) := by decide +kernel
theorem dX6_wind_10 : decode cX6_wind 10 = .ok (.getfield 28, 3) := by decide +kernel
theorem dX6_wind_13 : decode cX6_wind 13 = .ok (.getfield 165, 3) := by decide +kernel
theorem dX6_wind_16 : decode cX6_wind 16 = .ok (.iload_n 1, 1) := by decide +kernel
theorem dX6_wind_17 : decode cX6_wind 17 = .ok (.iaload, 1) := by decide +kernel
theorem dX6_wind_18 : decode cX6_wind 18 = .ok (.goto 4, 3) := by decide +kernel
theorem dX6_wind_21 : decode cX6_wind 21 = .ok (.iconst (-1), 1) := by decide +kernel
theorem dX6_wind_22 : decode cX6_wind 22 = .ok (.ireturn, 1) := by decide +kernel
theorem dX6_meet_0 : decode cX6_meet 0 = .ok (.aload_n 0, 1) := by decide +kernel
theorem dX6_meet_1 : decode cX6_meet 1 = .ok (.getfield 28, 3) := by decide +kernel
theorem dX6_meet_4 : decode cX6_meet 4 = .ok (.iload_n 1, 1) := by decide +kernel
theorem dX6_meet_5 : decode cX6_meet 5 = .ok (.invokevirtual 125, 3) := by decide +kernel
theorem dX6_meet_8 : decode cX6_meet 8 = .ok (.ifCond .eq 19, 3) := by decide +kernel
theorem dX6_meet_11 : decode cX6_meet 11 = .ok (.aload_n 0, 1) := by decide +kernel
theorem dX6_meet_12 : decode cX6_meet 12 = .ok (.getfield 28, 3) := by decide +kernel
theorem dX6_meet_15 : decode cX6_meet 15 = .ok (.iload_n 2, 1) := by decide +kernel
theorem dX6_meet_16 : decode cX6_meet 16 = .ok (.invokevirtual 125, 3) := by decide +kernel
theorem dX6_meet_19 : decode cX6_meet 19 = .ok (.ifCond .eq 8, 3) := by decide +kernel
theorem dX6_meet_22 : decode cX6_meet 22 = .ok (.iload_n 1, 1) := by decide +kernel
theorem dX6_meet_23 : decode cX6_meet 23 = .ok (.iload_n 2, 1) := by decide +kernel
theorem dX6_meet_24 : decode cX6_meet 24 = .ok (.if_icmp .ne 5, 3) := by decide +kernel
theorem dX6_meet_27 : decode cX6_meet 27 = .ok (.iconst (-1), 1) := by decide +kernel
theorem dX6_meet_28 : decode cX6_meet 28 = .ok (.ireturn, 1) := by decide +kernel
theorem dX6_meet_29 : decode cX6_meet 29 = .ok (.aload_n 0, 1) := by decide +kernel
theorem dX6_meet_30 : decode cX6_meet 30 = .ok (.getfield 28, 3) := by decide +kernel
theorem dX6_meet_33 : decode cX6_meet 33 = .ok (.iload_n 1, 1) := by decide +kernel
theorem dX6_meet_34 : decode cX6_meet 34 = .ok (.invokevirtual 135, 3) := by decide +kernel
theorem dX6_meet_37 : decode cX6_meet 37 = .ok (.istore_n 3, 1) := by decide +kernel
theorem dX6_meet_38 : decode cX6_meet 38 = .ok (.aload_n 0, 1) := by decide +kernel
theorem dX6_meet_39 : decode cX6_meet 39 = .ok (.getfield 28, 3) := by decide +kernel
theorem dX6_meet_42 : decode cX6_meet 42 = .ok (.iload_n 2, 1) := by decide +kernel
theorem dX6_meet_43 : decode cX6_meet 43 = .ok (.invokevirtual 135, 3) := by decide +kernel
theorem dX6_meet_46 : decode cX6_meet 46 = .ok (.istore 4, 2) := by decide +kernel
theorem dX6_meet_48 : decode cX6_meet 48 = .ok (.iload_n 3, 1) := by decide +kernel
theorem dX6_meet_49 : decode cX6_meet 49 = .ok (.iload 4, 2) := by decide +kernel
theorem dX6_meet_51 : decode cX6_meet 51 = .ok (.if_icmp .ne 6, 3) := by decide +kernel
theorem dX6_meet_54 : decode cX6_meet 54 = .ok (.bipush (-4), 2) := by decide +kernel
theorem dX6_meet_56 : decode cX6_meet 56 = .ok (.ireturn, 1) := by decide +kernel
theorem dX6_meet_57 : decode cX6_meet 57 = .ok (.iload_n 3, 1) := by decide +kernel
theorem dX6_meet_58 : decode cX6_meet 58 = .ok (.iload 4, 2) := by decide +kernel
theorem dX6_meet_60 : decode cX6_meet 60 = .ok (.if_icmp .ge 7, 3) := by decide +kernel
theorem dX6_meet_63 : decode cX6_meet 63 = .ok (.iload_n 1, 1) := by decide +kernel
theorem dX6_meet_64 : decode cX6_meet 64 = .ok (.goto 4, 3) := by decide +kernel
theorem dX6_meet_67 : decode cX6_meet 67 = .ok (.iload_n 2, 1) := by decide +kernel
theorem dX6_meet_68 : decode cX6_meet 68 = .ok (.ireturn, 1) := by decide +kernel
theorem dX6_alter_0 : decode cX6_alter 0 = .ok (.aload_n 0, 1) := by decide +kernel
theorem dX6_alter_1 : decode cX6_alter 1 = .ok (.getfield 28, 3) := by decide +kernel
theorem dX6_alter_4 : decode cX6_alter 4 = .ok (.iload_n 1, 1) := by decide +kernel
theorem dX6_alter_5 : decode cX6_alter 5 = .ok (.invokevirtual 141, 3) := by decide +kernel
theorem dX6_alter_8 : decode cX6_alter 8 = .ok (.ifCond .ne 5, 3) := by decide +kernel
theorem dX6_alter_11 : decode cX6_alter 11 = .ok (.iconst (-1), 1) := by decide +kernel
theorem dX6_alter_12 : decode cX6_alter 12 = .ok (.ireturn, 1) := by decide +kernel
theorem dX6_alter_13 : decode cX6_alter 13 = .ok (.iload_n 2, 1) := by decide +kernel
theorem dX6_alter_14 : decode cX6_alter 14 = .ok (.ifCond .ne 34, 3) := by decide +kernel
theorem dX6_alter_17 : decode cX6_alter 17 = .ok (.iload_n 3, 1) := by decide +kernel
theorem dX6_alter_18 : decode cX6_alter 18 = .ok (.invokestatic 168, 3) := by decide +kernel
theorem dX6_alter_21 : decode cX6_alter 21 = .ok (.ifCond .eq 27, 3) := by decide +kernel
theorem dX6_alter_24 : decode cX6_alter 24 = .ok (.aload_n 0, 1) := by decide +kernel
theorem dX6_alter_25 : decode cX6_alter 25 = .ok (.getfield 28, 3) := by decide +kernel
theorem dX6_alter_28 : decode cX6_alter 28 = .ok (.getfield 144, 3) := by decide +kernel
theorem dX6_alter_31 : decode cX6_alter 31 = .ok (.iload_n 1, 1) := by decide +kernel
theorem dX6_alter_32 : decode cX6_alter 32 = .ok (.iaload, 1) := by decide +kernel
theorem dX6_alter_33 : decode cX6_alter 33 = .ok (.istore 4, 2) := by decide +kernel
theorem dX6_alter_35 : decode cX6_alter 35 = .ok (.aload_n 0, 1) := by decide +kernel
theorem dX6_alter_36 : decode cX6_alter 36 = .ok (.getfield 28, 3) := by decide +kernel
theorem dX6_alter_39 : decode cX6_alter 39 = .ok (.getfield 144, 3) := by decide +kernel
theorem dX6_alter_42 : decode cX6_alter 42 = .ok (.iload_n 1, 1) := by decide +kernel
theorem dX6_alter_43 : decode cX6_alter 43 = .ok (.iload_n 3, 1) := by decide +kernel
theorem dX6_alter_44 : decode cX6_alter 44 = .ok (.iastore, 1) := by decide +kernel
theorem dX6_alter_45 : decode cX6_alter 45 = .ok (.goto 84, 3) := by decide +kernel
theorem dX6_alter_48 : decode cX6_alter 48 = .ok (.iload_n 2, 1) := by decide +kernel
theorem dX6_alter_49 : decode cX6_alter 49 = .ok (.iconst 1, 1) := by decide +kernel
theorem dX6_alter_50 : decode cX6_alter 50 = .ok (.if_icmp .ne 37, 3) := by decide +kernel
theorem dX6_alter_53 : decode cX6_alter 53 = .ok (.iload_n 3, 1) := by decide +kernel
theorem dX6_alter_54 : decode cX6_alter 54 = .ok (.iconst 1, 1) := by decide +kernel
theorem dX6_alter_55 : decode cX6_alter 55 = .ok (.bipush 9, 2) := by decide +kernel
theorem dX6_alter_57 : decode cX6_alter 57 = .ok (.invokestatic 68, 3) := by decide +kernel
theorem dX6_alter_60 : decode cX6_alter 60 = .ok (.ifCond .eq 27, 3) := by decide +kernel
theorem dX6_alter_63 : decode cX6_alter 63 = .ok (.aload_n 0, 1) := by decide +kernel
theorem dX6_alter_64 : decode cX6_alter 64 = .ok (.getfield 28, 3) := by decide +kernel
theorem dX6_alter_67 : decode cX6_alter 67 = .ok (.getfield 147, 3) := by decide +kernel
theorem dX6_alter_70 : decode cX6_alter 70 = .ok (.iload_n 1, 1) := by decide +kernel
theorem dX6_alter_71 : decode cX6_alter 71 = .ok (.iaload, 1) := by decide +kernel
theorem dX6_alter_72 : decode cX6_alter 72 = .ok (.istore 4, 2) := by decide +kernel
theorem dX6_alter_74 : decode cX6_alter 74 = .ok (.aload_n 0, 1) := by decide +kernel
theorem dX6_alter_75 : decode cX6_alter 75 = .ok (.getfield 28, 3) := by decide +kernel
theorem dX6_alter_78 : decode cX6_alter 78 = .ok (.getfield 147, 3) := by decide +kernel
theorem dX6_alter_81 : decode cX6_alter 81 = .ok (.iload_n 1, 1) := by decide +kernel
theorem dX6_alter_82 : decode cX6_alter 82 = .ok (.iload_n 3, 1) := by decide +kernel
theorem dX6_alter_83 : decode cX6_alter 83 = .ok (.iastore, 1) := by decide +kernel
theorem dX6_alter_84 : decode cX6_alter 84 = .ok (.goto 45, 3) := by decide +kernel
theorem dX6_alter_87 : decode cX6_alter 87 = .ok (.iload_n 2, 1) := by decide +kernel
theorem dX6_alter_88 : decode cX6_alter 88 = .ok (.iconst 2, 1) := by decide +kernel
theorem dX6_alter_89 : decode cX6_alter 89 = .ok (.if_icmp .ne 38, 3) := by decide +kernel
theorem dX6_alter_92 : decode cX6_alter 92 = .ok (.aload_n 0, 1) := by decide +kernel
theorem dX6_alter_93 : decode cX6_alter 93 = .ok (.getfield 28, 3) := by decide +kernel
theorem dX6_alter_96 : decode cX6_alter 96 = .ok (.iload_n 3, 1) := by decide +kernel
theorem dX6_alter_97 : decode cX6_alter 97 = .ok (.invokevirtual 125, 3) := by decide +kernel
theorem dX6_alter_100 : decode cX6_alter 100 = .ok (.ifCond .eq 27, 3) := by decide +kernel
theorem dX6_alter_103 : decode cX6_alter 103 = .ok (.aload_n 0, 1) := by decide +kernel
theorem dX6_alter_104 : decode cX6_alter 104 = .ok (.getfield 28, 3) := by decide +kernel
theorem dX6_alter_107 : decode cX6_alter 107 = .ok (.getfield 150, 3) := by decide +kernel
theorem dX6_alter_110 : decode cX6_alter 110 = .ok (.iload_n 1, 1) := by decide +kernel
theorem dX6_alter_111 : decode cX6_alter 111 = .ok (.iaload, 1) := by decide +kernel
theorem dX6_alter_112 : decode cX6_alter 112 = .ok (.istore 4, 2) := by decide +kernel
theorem dX6_alter_114 : decode cX6_alter 114 = .ok (.aload_n 0, 1) := by decide +kernel
theorem dX6_alter_115 : decode cX6_alter 115 = .ok (.getfield 28, 3) := by decide +kernel
theorem dX6_alter_118 : decode cX6_alter 118 = .ok (.getfield 150, 3) := by decide +kernel
theorem dX6_alter_121 : decode cX6_alter 121 = .ok (.iload_n 1, 1) := by decide +kernel
theorem dX6_alter_122 : decode cX6_alter 122 = .ok (.iload_n 3, 1) := by decide +kernel
theorem dX6_alter_123 : decode cX6_alter 123 = .ok (.iastore, 1) := by decide +kernel
theorem dX6_alter_124 : decode cX6_alter 124 = .ok (.goto 5, 3) := by decide +kernel
theorem dX6_alter_127 : decode cX6_alter 127 = .ok (.iconst (-1), 1) := by decide +kernel
theorem dX6_alter_128 : decode cX6_alter 128 = .ok (.ireturn, 1) := by decide +kernel
theorem dX6_alter_129 : decode cX6_alter 129 = .ok (.iload 4, 2) := by decide +kernel
theorem dX6_alter_131 : decode cX6_alter 131 = .ok (.ireturn, 1) := by decide +kernel
theorem dX6_walk_0 : decode cX6_walk 0 = .ok (.aload_n 0, 1) := by decide +kernel
theorem dX6_walk_1 : decode cX6_walk 1 = .ok (.getfield 28, 3) := by decide +kernel
theorem dX6_walk_4 : decode cX6_walk 4 = .ok (.iload_n 1, 1) := by decide +kernel
theorem dX6_walk_5 : decode cX6_walk 5 = .ok (.invokevirtual 125, 3) := by decide +kernel
theorem dX6_walk_8 : decode cX6_walk 8 = .ok (.ifCond .eq 13, 3) := by decide +kernel
theorem dX6_walk_11 : decode cX6_walk 11 = .ok (.iload_n 2, 1) := by decide +kernel
theorem dX6_walk_12 : decode cX6_walk 12 = .ok (.iconst 0, 1) := by decide +kernel
theorem dX6_walk_13 : decode cX6_walk 13 = .ok (.bipush 9, 2) := by decide +kernel
theorem dX6_walk_15 : decode cX6_walk 15 = .ok (.invokestatic 68, 3) := by decide +kernel
theorem dX6_walk_18 : decode cX6_walk 18 = .ok (.ifCond .ne 5, 3) := by decide +kernel
theorem dX6_walk_21 : decode cX6_walk 21 = .ok (.iconst (-1), 1) := by decide +kernel
theorem dX6_walk_22 : decode cX6_walk 22 = .ok (.ireturn, 1) := by decide +kernel
theorem dX6_walk_23 : decode cX6_walk 23 = .ok (.aload_n 0, 1) := by decide +kernel
theorem dX6_walk_24 : decode cX6_walk 24 = .ok (.getfield 28, 3) := by decide +kernel
theorem dX6_walk_27 : decode cX6_walk 27 = .ok (.getfield 128, 3) := by decide +kernel
theorem dX6_walk_30 : decode cX6_walk 30 = .ok (.iload_n 1, 1) := by decide +kernel
theorem dX6_walk_31 : decode cX6_walk 31 = .ok (.iaload, 1) := by decide +kernel
theorem dX6_walk_32 : decode cX6_walk 32 = .ok (.istore_n 3, 1) := by decide +kernel
theorem dX6_walk_33 : decode cX6_walk 33 = .ok (.aload_n 0, 1) := by decide +kernel
theorem dX6_walk_34 : decode cX6_walk 34 = .ok (.getfield 28, 3) := by decide +kernel
theorem dX6_walk_37 : decode cX6_walk 37 = .ok (.getfield 128, 3) := by decide +kernel
theorem dX6_walk_40 : decode cX6_walk 40 = .ok (.iload_n 1, 1) := by decide +kernel
theorem dX6_walk_41 : decode cX6_walk 41 = .ok (.iload_n 2, 1) := by decide +kernel
theorem dX6_walk_42 : decode cX6_walk 42 = .ok (.iastore, 1) := by decide +kernel
theorem dX6_walk_43 : decode cX6_walk 43 = .ok (.iload_n 3, 1) := by decide +kernel
theorem dX6_walk_44 : decode cX6_walk 44 = .ok (.ireturn, 1) := by decide +kernel
theorem dX6_blow_0 : decode cX6_blow 0 = .ok (.iload_n 1, 1) := by decide +kernel
theorem dX6_blow_1 : decode cX6_blow 1 = .ok (.iconst 0, 1) := by decide +kernel
theorem dX6_blow_2 : decode cX6_blow 2 = .ok (.iconst 5, 1) := by decide +kernel
theorem dX6_blow_3 : decode cX6_blow 3 = .ok (.invokestatic 68, 3) := by decide +kernel
theorem dX6_blow_6 : decode cX6_blow 6 = .ok (.ifCond .eq 13, 3) := by decide +kernel
theorem dX6_blow_9 : decode cX6_blow 9 = .ok (.iload_n 2, 1) := by decide +kernel
theorem dX6_blow_10 : decode cX6_blow 10 = .ok (.iconst 0, 1) := by decide +kernel
theorem dX6_blow_11 : decode cX6_blow 11 = .ok (.bipush 9, 2) := by decide +kernel
theorem dX6_blow_13 : decode cX6_blow 13 = .ok (.invokestatic 68, 3) := by decide +kernel
theorem dX6_blow_16 : decode cX6_blow 16 = .ok (.ifCond .ne 5, 3) := by decide +kernel
theorem dX6_blow_19 : decode cX6_blow 19 = .ok (.iconst (-1), 1) := by decide +kernel
theorem dX6_blow_20 : decode cX6_blow 20 = .ok (.ireturn, 1) := by decide +kernel
theorem dX6_blow_21 : decode cX6_blow 21 = .ok (.aload_n 0, 1) := by decide +kernel
theorem dX6_blow_22 : decode cX6_blow 22 = .ok (.getfield 28, 3) := by decide +kernel
theorem dX6_blow_25 : decode cX6_blow 25 = .ok (.getfield 165, 3) := by decide +kernel
theorem dX6_blow_28 : decode cX6_blow 28 = .ok (.iload_n 1, 1) := by decide +kernel
theorem dX6_blow_29 : decode cX6_blow 29 = .ok (.iaload, 1) := by decide +kernel
theorem dX6_blow_30 : decode cX6_blow 30 = .ok (.istore_n 3, 1) := by decide +kernel
theorem dX6_blow_31 : decode cX6_blow 31 = .ok (.aload_n 0, 1) := by decide +kernel
theorem dX6_blow_32 : decode cX6_blow 32 = .ok (.getfield 28, 3) := by decide +kernel
theorem dX6_blow_35 : decode cX6_blow 35 = .ok (.getfield 165, 3) := by decide +kernel
theorem dX6_blow_38 : decode cX6_blow 38 = .ok (.iload_n 1, 1) := by decide +kernel
theorem dX6_blow_39 : decode cX6_blow 39 = .ok (.iload_n 2, 1) := by decide +kernel
theorem dX6_blow_40 : decode cX6_blow 40 = .ok (.iastore, 1) := by decide +kernel
theorem dX6_blow_41 : decode cX6_blow 41 = .ok (.iload_n 3, 1) := by decide +kernel
theorem dX6_blow_42 : decode cX6_blow 42 = .ok (.ireturn, 1) := by decide +kernel
theorem dX6_dab_0 : decode cX6_dab 0 = .ok (.aload_n 0, 1) := by decide +kernel
theorem dX6_dab_1 : decode cX6_dab 1 = .ok (.getfield 28, 3) := by decide +kernel
theorem dX6_dab_4 : decode cX6_dab 4 = .ok (.iload_n 1, 1) := by decide +kernel
theorem dX6_dab_5 : decode cX6_dab 5 = .ok (.iload_n 2, 1) := by decide +kernel
theorem dX6_dab_6 : decode cX6_dab 6 = .ok (.iload_n 3, 1) := by decide +kernel
theorem dX6_dab_7 : decode cX6_dab 7 = .ok (.invokevirtual 171, 3) := by decide +kernel
theorem dX6_dab_10 : decode cX6_dab 10 = .ok (.ireturn, 1) := by decide +kernel
theorem dX6_lift_0 : decode cX6_lift 0 = .ok (.aload_n 0, 1) := by decide +kernel
theorem dX6_lift_1 : decode cX6_lift 1 = .ok (.getfield 28, 3) := by decide +kernel
theorem dX6_lift_4 : decode cX6_lift 4 = .ok (.iload_n 1, 1) := by decide +kernel
theorem dX6_lift_5 : decode cX6_lift 5 = .ok (.invokevirtual 141, 3) := by decide +kernel
theorem dX6_lift_8 : decode cX6_lift 8 = .ok (.ifCond .eq 13, 3) := by decide +kernel
theorem dX6_lift_11 : decode cX6_lift 11 = .ok (.iload_n 2, 1) := by decide +kernel
theorem dX6_lift_12 : decode cX6_lift 12 = .ok (.iconst 0, 1) := by decide +kernel
theorem dX6_lift_13 : decode cX6_lift 13 = .ok (.bipush 9, 2) := by decide +kernel
theorem dX6_lift_15 : decode cX6_lift 15 = .ok (.invokestatic 68, 3) := by decide +kernel
theorem dX6_lift_18 : decode cX6_lift 18 = .ok (.ifCond .ne 5, 3) := by decide +kernel
theorem dX6_lift_21 : decode cX6_lift 21 = .ok (.iconst (-1), 1) := by decide +kernel
theorem dX6_lift_22 : decode cX6_lift 22 = .ok (.ireturn, 1) := by decide +kernel
theorem dX6_lift_23 : decode cX6_lift 23 = .ok (.aload_n 0, 1) := by decide +kernel
theorem dX6_lift_24 : decode cX6_lift 24 = .ok (.getfield 28, 3) := by decide +kernel
theorem dX6_lift_27 : decode cX6_lift 27 = .ok (.iload_n 1, 1) := by decide +kernel
theorem dX6_lift_28 : decode cX6_lift 28 = .ok (.invokevirtual 175, 3) := by decide +kernel
theorem dX6_lift_31 : decode cX6_lift 31 = .ok (.ifCond .ne 6, 3) := by decide +kernel
theorem dX6_lift_34 : decode cX6_lift 34 = .ok (.bipush (-2), 2) := by decide +kernel
theorem dX6_lift_36 : decode cX6_lift 36 = .ok (.ireturn, 1) := by decide +kernel
theorem dX6_lift_37 : decode cX6_lift 37 = .ok (.aload_n 0, 1) := by decide +kernel
theorem dX6_lift_38 : decode cX6_lift 38 = .ok (.getfield 28, 3) := by decide +kernel
theorem dX6_lift_41 : decode cX6_lift 41 = .ok (.getfield 156, 3) := by decide +kernel
theorem dX6_lift_44 : decode cX6_lift 44 = .ok (.iload_n 1, 1) := by decide +kernel
theorem dX6_lift_45 : decode cX6_lift 45 = .ok (.iaload, 1) := by decide +kernel
theorem dX6_lift_46 : decode cX6_lift 46 = .ok (.istore_n 3, 1) := by decide +kernel
theorem dX6_lift_47 : decode cX6_lift 47 = .ok (.aload_n 0, 1) := by decide +kernel
theorem dX6_lift_48 : decode cX6_lift 48 = .ok (.getfield 28, 3) := by decide +kernel
theorem dX6_lift_51 : decode cX6_lift 51 = .ok (.iload_n 1, 1) := by decide +kernel
theorem dX6_lift_52 : decode cX6_lift 52 = .ok (.iload_n 2, 1) := by decide +kernel
theorem dX6_lift_53 : decode cX6_lift 53 = .ok (.invokevirtual 178, 3) := by decide +kernel
theorem dX6_lift_56 : decode cX6_lift 56 = .ok (.iload_n 3, 1) := by decide +kernel
theorem dX6_lift_57 : decode cX6_lift 57 = .ok (.ireturn, 1) := by decide +kernel
theorem dX6_days_0 : decode cX6_days 0 = .ok (.iload_n 1, 1) := by decide +kernel
theorem dX6_days_1 : decode cX6_days 1 = .ok (.iconst 0, 1) := by decide +kernel
theorem dX6_days_2 : decode cX6_days 2 = .ok (.bipush 30, 2) := by decide +kernel
theorem dX6_days_4 : decode cX6_days 4 = .ok (.invokestatic 68, 3) := by decide +kernel
theorem dX6_days_7 : decode cX6_days 7 = .ok (.ifCond .ne 5, 3) := by decide +kernel
theorem dX6_days_10 : decode cX6_days 10 = .ok (.iconst (-1), 1) := by decide +kernel
theorem dX6_days_11 : decode cX6_days 11 = .ok (.ireturn, 1) := by decide +kernel
theorem dX6_days_12 : decode cX6_days 12 = .ok (.aload_n 0, 1) := by decide +kernel
theorem dX6_days_13 : decode cX6_days 13 = .ok (.getfield 28, 3) := by decide +kernel
theorem dX6_days_16 : decode cX6_days 16 = .ok (.getfield 112, 3) := by decide +kernel
theorem dX6_days_19 : decode cX6_days 19 = .ok (.iload_n 1, 1) := by decide +kernel
theorem dX6_days_20 : decode cX6_days 20 = .ok (.iadd, 1) := by decide +kernel
theorem dX6_days_21 : decode cX6_days 21 = .ok (.sipush 1000, 3) := by decide +kernel
theorem dX6_days_24 : decode cX6_days 24 = .ok (.if_icmp .lt 6, 3) := by decide +kernel
theorem dX6_days_27 : decode cX6_days 27 = .ok (.bipush (-3), 2) := by decide +kernel
theorem dX6_days_29 : decode cX6_days 29 = .ok (.ireturn, 1) := by decide +kernel
theorem dX6_days_30 : decode cX6_days 30 = .ok (.aload_n 0, 1) := by decide +kernel
theorem dX6_days_31 : decode cX6_days 31 = .ok (.getfield 28, 3) := by decide +kernel
theorem dX6_days_34 : decode cX6_days 34 = .ok (.iconst 0, 1) := by decide +kernel
theorem dX6_days_35 : decode cX6_days 35 = .ok (.putfield 182, 3) := by decide +kernel
theorem dX6_days_38 : decode cX6_days 38 = .ok (.aload_n 0, 1) := by decide +kernel
theorem dX6_days_39 : decode cX6_days 39 = .ok (.getfield 28, 3) := by decide +kernel
theorem dX6_days_42 : decode cX6_days 42 = .ok (.iload_n 1, 1) := by decide +kernel
theorem dX6_days_43 : decode cX6_days 43 = .ok (.invokevirtual 185, 3) := by decide +kernel
theorem dX6_days_46 : decode cX6_days 46 = .ok (.aload_n 0, 1) := by decide +kernel
theorem dX6_days_47 : decode cX6_days 47 = .ok (.getfield 28, 3) := by decide +kernel
theorem dX6_days_50 : decode cX6_days 50 = .ok (.getfield 182, 3) := by decide +kernel
theorem dX6_days_53 : decode cX6_days 53 = .ok (.ireturn, 1) := by decide +kernel
theorem dX6_runs_0 : decode cX6_runs 0 = .ok (.iload_n 1, 1) := by decide +kernel
theorem dX6_runs_1 : decode cX6_runs 1 = .ok (.iconst 0, 1) := by decide +kernel
theorem dX6_runs_2 : decode cX6_runs 2 = .ok (.bipush 60, 2) := by decide +kernel
theorem dX6_runs_4 : decode cX6_runs 4 = .ok (.invokestatic 68, 3) := by decide +kernel
theorem dX6_runs_7 : decode cX6_runs 7 = .ok (.ifCond .eq 12, 3) := by decide +kernel
theorem dX6_runs_10 : decode cX6_runs 10 = .ok (.iload_n 2, 1) := by decide +kernel
theorem dX6_runs_11 : decode cX6_runs 11 = .ok (.iconst 0, 1) := by decide +kernel
theorem dX6_runs_12 : decode cX6_runs 12 = .ok (.iconst 3, 1) := by decide +kernel
theorem dX6_runs_13 : decode cX6_runs 13 = .ok (.invokestatic 68, 3) := by decide +kernel
theorem dX6_runs_16 : decode cX6_runs 16 = .ok (.ifCond .ne 5, 3) := by decide +kernel
theorem dX6_runs_19 : decode cX6_runs 19 = .ok (.iconst (-1), 1) := by decide +kernel
theorem dX6_runs_20 : decode cX6_runs 20 = .ok (.ireturn, 1) := by decide +kernel
theorem dX6_runs_21 : decode cX6_runs 21 = .ok (.aload_n 0, 1) := by decide +kernel
theorem dX6_runs_22 : decode cX6_runs 22 = .ok (.getfield 39, 3) := by decide +kernel
theorem dX6_runs_25 : decode cX6_runs 25 = .ok (.aload_n 0, 1) := by decide +kernel
theorem dX6_runs_26 : decode cX6_runs 26 = .ok (.getfield 28, 3) := by decide +kernel
theorem dX6_runs_29 : decode cX6_runs 29 = .ok (.invokevirtual 89, 3) := by decide +kernel
theorem dX6_runs_32 : decode cX6_runs 32 = .ok (.iload_n 2, 1) := by decide +kernel
theorem dX6_runs_33 : decode cX6_runs 33 = .ok (.iconst 3, 1) := by decide +kernel
theorem dX6_runs_34 : decode cX6_runs 34 = .ok (.if_icmp .ne 12, 3) := by decide +kernel
theorem dX6_runs_37 : decode cX6_runs 37 = .ok (.aload_n 0, 1) := by decide +kernel
theorem dX6_runs_38 : decode cX6_runs 38 = .ok (.getfield 39, 3) := by decide +kernel
theorem dX6_runs_41 : decode cX6_runs 41 = .ok (.iload_n 1, 1) := by decide +kernel
theorem dX6_runs_42 : decode cX6_runs 42 = .ok (.invokevirtual 189, 3) := by decide +kernel
theorem dX6_runs_45 : decode cX6_runs 45 = .ok (.ireturn, 1) := by decide +kernel
theorem dX6_runs_46 : decode cX6_runs 46 = .ok (.aload_n 0, 1) := by decide +kernel
theorem dX6_runs_47 : decode cX6_runs 47 = .ok (.getfield 39, 3) := by decide +kernel
theorem dX6_runs_50 : decode cX6_runs 50 = .ok (.iload_n 1, 1) := by decide +kernel
theorem dX6_runs_51 : decode cX6_runs 51 = .ok (.invokevirtual 185, 3) := by decide +kernel
theorem dX6_runs_54 : decode cX6_runs 54 = .ok (.iload_n 2, 1) := by decide +kernel
theorem dX6_runs_55 : decode cX6_runs 55 = .ok (.ifCond .ne 11, 3) := by decide +kernel
theorem dX6_runs_58 : decode cX6_runs 58 = .ok (.aload_n 0, 1) := by decide +kernel
theorem dX6_runs_59 : decode cX6_runs 59 = .ok (.getfield 39, 3) := by decide +kernel
theorem dX6_runs_62 : decode cX6_runs 62 = .ok (.invokevirtual 115, 3) := by decide +kernel
theorem dX6_runs_65 : decode cX6_runs 65 = .ok (.ireturn, 1) := by decide +kernel
theorem dX6_runs_66 : decode cX6_runs 66 = .ok (.iload_n 2, 1) := by decide +kernel
theorem dX6_runs_67 : decode cX6_runs 67 = .ok (.iconst 1, 1) := by decide +kernel
theorem dX6_runs_68 : decode cX6_runs 68 = .ok (.if_icmp .ne 13, 3) := by decide +kernel
theorem dX6_runs_71 : decode cX6_runs 71 = .ok (.aload_n 0, 1) := by decide +kernel
theorem dX6_runs_72 : decode cX6_runs 72 = .ok (.getfield 39, 3) := by decide +kernel
theorem dX6_runs_75 : decode cX6_runs 75 = .ok (.invokevirtual 119, 3) := by decide +kernel
theorem dX6_runs_78 : decode cX6_runs 78 = .ok (.goto 10, 3) := by decide +kernel
theorem dX6_runs_81 : decode cX6_runs 81 = .ok (.aload_n 0, 1) := by decide +kernel
theorem dX6_runs_82 : decode cX6_runs 82 = .ok (.getfield 39, 3) := by decide +kernel
theorem dX6_runs_85 : decode cX6_runs 85 = .ok (.getfield 192, 3) := by decide +kernel
theorem dX6_runs_88 : decode cX6_runs 88 = .ok (.ireturn, 1) := by decide +kernel
theorem dX6_ahead_0 : decode cX6_ahead 0 = .ok (.aload_n 0, 1) := by decide +kernel
theorem dX6_ahead_1 : decode cX6_ahead 1 = .ok (.getfield 28, 3) := by decide +kernel
theorem dX6_ahead_4 : decode cX6_ahead 4 = .ok (.iload_n 1, 1) := by decide +kernel
theorem dX6_ahead_5 : decode cX6_ahead 5 = .ok (.invokevirtual 125, 3) := by decide +kernel
theorem dX6_ahead_8 : decode cX6_ahead 8 = .ok (.ifCond .eq 13, 3) := by decide +kernel
theorem dX6_ahead_11 : decode cX6_ahead 11 = .ok (.iload_n 2, 1) := by decide +kernel
theorem dX6_ahead_12 : decode cX6_ahead 12 = .ok (.iconst 0, 1) := by decide +kernel
theorem dX6_ahead_13 : decode cX6_ahead 13 = .ok (.bipush 60, 2) := by decide +kernel
theorem dX6_ahead_15 : decode cX6_ahead 15 = .ok (.invokestatic 68, 3) := by decide +kernel
theorem dX6_ahead_18 : decode cX6_ahead 18 = .ok (.ifCond .ne 5, 3) := by decide +kernel
theorem dX6_ahead_21 : decode cX6_ahead 21 = .ok (.iconst (-1), 1) := by decide +kernel
theorem dX6_ahead_22 : decode cX6_ahead 22 = .ok (.ireturn, 1) := by decide +kernel
theorem dX6_ahead_23 : decode cX6_ahead 23 = .ok (.aload_n 0, 1) := by decide +kernel
theorem dX6_ahead_24 : decode cX6_ahead 24 = .ok (.getfield 39, 3) := by decide +kernel
theorem dX6_ahead_27 : decode cX6_ahead 27 = .ok (.aload_n 0, 1) := by decide +kernel
theorem dX6_ahead_28 : decode cX6_ahead 28 = .ok (.getfield 28, 3) := by decide +kernel
theorem dX6_ahead_31 : decode cX6_ahead 31 = .ok (.invokevirtual 89, 3) := by decide +kernel
theorem dX6_ahead_34 : decode cX6_ahead 34 = .ok (.aload_n 0, 1) := by decide +kernel
theorem dX6_ahead_35 : decode cX6_ahead 35 = .ok (.getfield 39, 3) := by decide +kernel
theorem dX6_ahead_38 : decode cX6_ahead 38 = .ok (.iload_n 2, 1) := by decide +kernel
theorem dX6_ahead_39 : decode cX6_ahead 39 = .ok (.invokevirtual 185, 3) := by decide +kernel
theorem dX6_ahead_42 : decode cX6_ahead 42 = .ok (.aload_n 0, 1) := by decide +kernel
theorem dX6_ahead_43 : decode cX6_ahead 43 = .ok (.getfield 39, 3) := by decide +kernel
theorem dX6_ahead_46 : decode cX6_ahead 46 = .ok (.iload_n 1, 1) := by decide +kernel
theorem dX6_ahead_47 : decode cX6_ahead 47 = .ok (.invokevirtual 135, 3) := by decide +kernel
theorem dX6_ahead_50 : decode cX6_ahead 50 = .ok (.ireturn, 1) := by decide +kernel
theorem dX6_where_0 : decode cX6_where 0 = .ok (.aload_n 0, 1) := by decide +kernel
theorem dX6_where_1 : decode cX6_where 1 = .ok (.getfield 28, 3) := by decide +kernel
theorem dX6_where_4 : decode cX6_where 4 = .ok (.iload_n 1, 1) := by decide +kernel
theorem dX6_where_5 : decode cX6_where 5 = .ok (.invokevirtual 141, 3) := by decide +kernel
theorem dX6_where_8 : decode cX6_where 8 = .ok (.ifCond .eq 13, 3) := by decide +kernel
theorem dX6_where_11 : decode cX6_where 11 = .ok (.iload_n 2, 1) := by decide +kernel
theorem dX6_where_12 : decode cX6_where 12 = .ok (.iconst 0, 1) := by decide +kernel
theorem dX6_where_13 : decode cX6_where 13 = .ok (.bipush 60, 2) := by decide +kernel
theorem dX6_where_15 : decode cX6_where 15 = .ok (.invokestatic 68, 3) := by decide +kernel
theorem dX6_where_18 : decode cX6_where 18 = .ok (.ifCond .ne 5, 3) := by decide +kernel
theorem dX6_where_21 : decode cX6_where 21 = .ok (.iconst (-1), 1) := by decide +kernel
theorem dX6_where_22 : decode cX6_where 22 = .ok (.ireturn, 1) := by decide +kernel
theorem dX6_where_23 : decode cX6_where 23 = .ok (.aload_n 0, 1) := by decide +kernel
theorem dX6_where_24 : decode cX6_where 24 = .ok (.getfield 39, 3) := by decide +kernel
theorem dX6_where_27 : decode cX6_where 27 = .ok (.aload_n 0, 1) := by decide +kernel
theorem dX6_where_28 : decode cX6_where 28 = .ok (.getfield 28, 3) := by decide +kernel
theorem dX6_where_31 : decode cX6_where 31 = .ok (.invokevirtual 89, 3) := by decide +kernel
theorem dX6_where_34 : decode cX6_where 34 = .ok (.aload_n 0, 1) := by decide +kernel
theorem dX6_where_35 : decode cX6_where 35 = .ok (.getfield 39, 3) := by decide +kernel
theorem dX6_where_38 : decode cX6_where 38 = .ok (.iload_n 2, 1) := by decide +kernel
theorem dX6_where_39 : decode cX6_where 39 = .ok (.invokevirtual 185, 3) := by decide +kernel
theorem dX6_where_42 : decode cX6_where 42 = .ok (.aload_n 0, 1) := by decide +kernel
theorem dX6_where_43 : decode cX6_where 43 = .ok (.getfield 39, 3) := by decide +kernel
theorem dX6_where_46 : decode cX6_where 46 = .ok (.iload_n 1, 1) := by decide +kernel
theorem dX6_where_47 : decode cX6_where 47 = .ok (.invokevirtual 175, 3) := by decide +kernel
theorem dX6_where_50 : decode cX6_where 50 = .ok (.ifCond .eq 15, 3) := by decide +kernel
theorem dX6_where_53 : decode cX6_where 53 = .ok (.aload_n 0, 1) := by decide +kernel
theorem dX6_where_54 : decode cX6_where 54 = .ok (.getfield 39, 3) := by decide +kernel
theorem dX6_where_57 : decode cX6_where 57 = .ok (.getfield 156, 3) := by decide +kernel
theorem dX6_where_60 : decode cX6_where 60 = .ok (.iload_n 1, 1) := by decide +kernel
theorem dX6_where_61 : decode cX6_where 61 = .ok (.iaload, 1) := by decide +kernel
theorem dX6_where_62 : decode cX6_where 62 = .ok (.goto 14, 3) := by decide +kernel
theorem dX6_where_65 : decode cX6_where 65 = .ok (.bipush (-10), 2) := by decide +kernel
theorem dX6_where_67 : decode cX6_where 67 = .ok (.aload_n 0, 1) := by decide +kernel
theorem dX6_where_68 : decode cX6_where 68 = .ok (.getfield 39, 3) := by decide +kernel
theorem dX6_where_71 : decode cX6_where 71 = .ok (.iload_n 1, 1) := by decide +kernel
theorem dX6_where_72 : decode cX6_where 72 = .ok (.invokevirtual 153, 3) := by decide +kernel
theorem dX6_where_75 : decode cX6_where 75 = .ok (.isub, 1) := by decide +kernel
theorem dX6_where_76 : decode cX6_where 76 = .ok (.ireturn, 1) := by decide +kernel
theorem dX6_home_0 : decode cX6_home 0 = .ok (.aload_n 0, 1) := by decide +kernel
theorem dX6_home_1 : decode cX6_home 1 = .ok (.getfield 28, 3) := by decide +kernel
theorem dX6_home_4 : decode cX6_home 4 = .ok (.iload_n 1, 1) := by decide +kernel
theorem dX6_home_5 : decode cX6_home 5 = .ok (.invokevirtual 141, 3) := by decide +kernel
theorem dX6_home_8 : decode cX6_home 8 = .ok (.ifCond .ne 5, 3) := by decide +kernel
theorem dX6_home_11 : decode cX6_home 11 = .ok (.iconst (-1), 1) := by decide +kernel
theorem dX6_home_12 : decode cX6_home 12 = .ok (.ireturn, 1) := by decide +kernel
theorem dX6_home_13 : decode cX6_home 13 = .ok (.aload_n 0, 1) := by decide +kernel
theorem dX6_home_14 : decode cX6_home 14 = .ok (.getfield 39, 3) := by decide +kernel
theorem dX6_home_17 : decode cX6_home 17 = .ok (.aload_n 0, 1) := by decide +kernel
theorem dX6_home_18 : decode cX6_home 18 = .ok (.getfield 28, 3) := by decide +kernel
theorem dX6_home_21 : decode cX6_home 21 = .ok (.invokevirtual 89, 3) := by decide +kernel
theorem dX6_home_24 : decode cX6_home 24 = .ok (.aload_n 0, 1) := by decide +kernel
theorem dX6_home_25 : decode cX6_home 25 = .ok (.getfield 39, 3) := by decide +kernel
theorem dX6_home_28 : decode cX6_home 28 = .ok (.iload_n 1, 1) := by decide +kernel
theorem dX6_home_29 : decode cX6_home 29 = .ok (.bipush 60, 2) := by decide +kernel
theorem dX6_home_31 : decode cX6_home 31 = .ok (.invokevirtual 195, 3) := by decide +kernel
theorem dX6_home_34 : decode cX6_home 34 = .ok (.ireturn, 1) := by decide +kernel
theorem dX6_shed_0 : decode cX6_shed 0 = .ok (.aload_n 0, 1) := by decide +kernel
theorem dX6_shed_1 : decode cX6_shed 1 = .ok (.getfield 28, 3) := by decide +kernel
theorem dX6_shed_4 : decode cX6_shed 4 = .ok (.iload_n 1, 1) := by decide +kernel
theorem dX6_shed_5 : decode cX6_shed 5 = .ok (.invokevirtual 125, 3) := by decide +kernel
theorem dX6_shed_8 : decode cX6_shed 8 = .ok (.ifCond .eq 22, 3) := by decide +kernel
theorem dX6_shed_11 : decode cX6_shed 11 = .ok (.iload_n 2, 1) := by decide +kernel
theorem dX6_shed_12 : decode cX6_shed 12 = .ok (.iconst 0, 1) := by decide +kernel
theorem dX6_shed_13 : decode cX6_shed 13 = .ok (.bipush 60, 2) := by decide +kernel
theorem dX6_shed_15 : decode cX6_shed 15 = .ok (.invokestatic 68, 3) := by decide +kernel
theorem dX6_shed_18 : decode cX6_shed 18 = .ok (.ifCond .eq 12, 3) := by decide +kernel
theorem dX6_shed_21 : decode cX6_shed 21 = .ok (.iload_n 3, 1) := by decide +kernel
theorem dX6_shed_22 : decode cX6_shed 22 = .ok (.iconst 0, 1) := by decide +kernel
theorem dX6_shed_23 : decode cX6_shed 23 = .ok (.iconst 1, 1) := by decide +kernel
theorem dX6_shed_24 : decode cX6_shed 24 = .ok (.invokestatic 68, 3) := by decide +kernel
theorem dX6_shed_27 : decode cX6_shed 27 = .ok (.ifCond .ne 5, 3) := by decide +kernel
theorem dX6_shed_30 : decode cX6_shed 30 = .ok (.iconst (-1), 1) := by decide +kernel
theorem dX6_shed_31 : decode cX6_shed 31 = .ok (.ireturn, 1) := by decide +kernel
theorem dX6_shed_32 : decode cX6_shed 32 = .ok (.bipush (-4), 2) := by decide +kernel
theorem dX6_shed_34 : decode cX6_shed 34 = .ok (.istore 4, 2) := by decide +kernel
theorem dX6_shed_36 : decode cX6_shed 36 = .ok (.iconst 0, 1) := by decide +kernel
theorem dX6_shed_37 : decode cX6_shed 37 = .ok (.istore 5, 2) := by decide +kernel
theorem dX6_shed_39 : decode cX6_shed 39 = .ok (.iconst 0, 1) := by decide +kernel
theorem dX6_shed_40 : decode cX6_shed 40 = .ok (.istore 6, 2) := by decide +kernel
theorem dX6_shed_42 : decode cX6_shed 42 = .ok (.iload 6, 2) := by decide +kernel
theorem dX6_shed_44 : decode cX6_shed 44 = .ok (.bipush 9, 2) := by decide +kernel
theorem dX6_shed_46 : decode cX6_shed 46 = .ok (.if_icmp .gt 71, 3) := by decide +kernel
theorem dX6_shed_49 : decode cX6_shed 49 = .ok (.aload_n 0, 1) := by decide +kernel
theorem dX6_shed_50 : decode cX6_shed 50 = .ok (.getfield 39, 3) := by decide +kernel
theorem dX6_shed_53 : decode cX6_shed 53 = .ok (.aload_n 0, 1) := by decide +kernel
theorem dX6_shed_54 : decode cX6_shed 54 = .ok (.getfield 28, 3) := by decide +kernel
theorem dX6_shed_57 : decode cX6_shed 57 = .ok (.invokevirtual 89, 3) := by decide +kernel
theorem dX6_shed_60 : decode cX6_shed 60 = .ok (.aload_n 0, 1) := by decide +kernel
theorem dX6_shed_61 : decode cX6_shed 61 = .ok (.getfield 39, 3) := by decide +kernel
theorem dX6_shed_64 : decode cX6_shed 64 = .ok (.getfield 128, 3) := by decide +kernel
theorem dX6_shed_67 : decode cX6_shed 67 = .ok (.iload_n 1, 1) := by decide +kernel
theorem dX6_shed_68 : decode cX6_shed 68 = .ok (.iload 6, 2) := by decide +kernel
theorem dX6_shed_70 : decode cX6_shed 70 = .ok (.iastore, 1) := by decide +kernel
theorem dX6_shed_71 : decode cX6_shed 71 = .ok (.aload_n 0, 1) := by decide +kernel
theorem dX6_shed_72 : decode cX6_shed 72 = .ok (.getfield 39, 3) := by decide +kernel
theorem dX6_shed_75 : decode cX6_shed 75 = .ok (.iload_n 2, 1) := by decide +kernel
theorem dX6_shed_76 : decode cX6_shed 76 = .ok (.invokevirtual 185, 3) := by decide +kernel
theorem dX6_shed_79 : decode cX6_shed 79 = .ok (.aload_n 0, 1) := by decide +kernel
theorem dX6_shed_80 : decode cX6_shed 80 = .ok (.getfield 39, 3) := by decide +kernel
theorem dX6_shed_83 : decode cX6_shed 83 = .ok (.iload_n 1, 1) := by decide +kernel
theorem dX6_shed_84 : decode cX6_shed 84 = .ok (.invokevirtual 135, 3) := by decide +kernel
theorem dX6_shed_87 : decode cX6_shed 87 = .ok (.istore 7, 2) := by decide +kernel
theorem dX6_shed_89 : decode cX6_shed 89 = .ok (.iload 4, 2) := by decide +kernel
theorem dX6_shed_91 : decode cX6_shed 91 = .ok (.bipush (-4), 2) := by decide +kernel
theorem dX6_shed_93 : decode cX6_shed 93 = .ok (.if_icmp .eq 10, 3) := by decide +kernel
theorem dX6_shed_96 : decode cX6_shed 96 = .ok (.iload 7, 2) := by decide +kernel
theorem dX6_shed_98 : decode cX6_shed 98 = .ok (.iload 5, 2) := by decide +kernel
theorem dX6_shed_100 : decode cX6_shed 100 = .ok (.if_icmp .ge 11, 3) := by decide +kernel
theorem dX6_shed_103 : decode cX6_shed 103 = .ok (.iload 6, 2) := by decide +kernel
theorem dX6_shed_105 : decode cX6_shed 105 = .ok (.istore 4, 2) := by decide +kernel
theorem dX6_shed_107 : decode cX6_shed 107 = .ok (.iload 7, 2) := by decide +kernel
theorem dX6_shed_109 : decode cX6_shed 109 = .ok (.istore 5, 2) := by decide +kernel
theorem dX6_shed_111 : decode cX6_shed 111 = .ok (.iinc 6 1, 3) := by decide +kernel
theorem dX6_shed_114 : decode cX6_shed 114 = .ok (.goto (-72), 3) := by decide +kernel
theorem dX6_shed_117 : decode cX6_shed 117 = .ok (.iload_n 3, 1) := by decide +kernel
theorem dX6_shed_118 : decode cX6_shed 118 = .ok (.ifCond .ne 8, 3) := by decide +kernel
theorem dX6_shed_121 : decode cX6_shed 121 = .ok (.iload 4, 2) := by decide +kernel
theorem dX6_shed_123 : decode cX6_shed 123 = .ok (.goto 5, 3) := by decide +kernel
theorem dX6_shed_126 : decode cX6_shed 126 = .ok (.iload 5, 2) := by decide +kernel
theorem dX6_shed_128 : decode cX6_shed 128 = .ok (.ireturn, 1) := by decide +kernel
theorem dX6_calm_0 : decode cX6_calm 0 = .ok (.iload_n 1, 1) := by decide +kernel
theorem dX6_calm_1 : decode cX6_calm 1 = .ok (.iconst 0, 1) := by decide +kernel
theorem dX6_calm_2 : decode cX6_calm 2 = .ok (.bipush 60, 2) := by decide +kernel
theorem dX6_calm_4 : decode cX6_calm 4 = .ok (.invokestatic 68, 3) := by decide +kernel
theorem dX6_calm_7 : decode cX6_calm 7 = .ok (.ifCond .eq 12, 3) := by decide +kernel
theorem dX6_calm_10 : decode cX6_calm 10 = .ok (.iload_n 2, 1) := by decide +kernel
theorem dX6_calm_11 : decode cX6_calm 11 = .ok (.iconst 0, 1) := by decide +kernel
theorem dX6_calm_12 : decode cX6_calm 12 = .ok (.iconst 1, 1) := by decide +kernel
theorem dX6_calm_13 : decode cX6_calm 13 = .ok (.invokestatic 68, 3) := by decide +kernel
theorem dX6_calm_16 : decode cX6_calm 16 = .ok (.ifCond .ne 5, 3) := by decide +kernel
theorem dX6_calm_19 : decode cX6_calm 19 = .ok (.iconst (-1), 1) := by decide +kernel
theorem dX6_calm_20 : decode cX6_calm 20 = .ok (.ireturn, 1) := by decide +kernel
theorem dX6_calm_21 : decode cX6_calm 21 = .ok (.aload_n 0, 1) := by decide +kernel
theorem dX6_calm_22 : decode cX6_calm 22 = .ok (.getfield 39, 3) := by decide +kernel
theorem dX6_calm_25 : decode cX6_calm 25 = .ok (.aload_n 0, 1) := by decide +kernel
theorem dX6_calm_26 : decode cX6_calm 26 = .ok (.getfield 28, 3) := by decide +kernel
theorem dX6_calm_29 : decode cX6_calm 29 = .ok (.invokevirtual 89, 3) := by decide +kernel
theorem dX6_calm_32 : decode cX6_calm 32 = .ok (.aload_n 0, 1) := by decide +kernel
theorem dX6_calm_33 : decode cX6_calm 33 = .ok (.getfield 39, 3) := by decide +kernel
theorem dX6_calm_36 : decode cX6_calm 36 = .ok (.iload_n 1, 1) := by decide +kernel
theorem dX6_calm_37 : decode cX6_calm 37 = .ok (.invokevirtual 185, 3) := by decide +kernel
theorem dX6_calm_40 : decode cX6_calm 40 = .ok (.bipush (-4), 2) := by decide +kernel
theorem dX6_calm_42 : decode cX6_calm 42 = .ok (.istore_n 3, 1) := by decide +kernel
theorem dX6_calm_43 : decode cX6_calm 43 = .ok (.aload_n 0, 1) := by decide +kernel
theorem dX6_calm_44 : decode cX6_calm 44 = .ok (.getfield 39, 3) := by decide +kernel
theorem dX6_calm_47 : decode cX6_calm 47 = .ok (.invokevirtual 115, 3) := by decide +kernel
theorem dX6_calm_50 : decode cX6_calm 50 = .ok (.istore 4, 2) := by decide +kernel
theorem dX6_calm_52 : decode cX6_calm 52 = .ok (.iconst 0, 1) := by decide +kernel
theorem dX6_calm_53 : decode cX6_calm 53 = .ok (.istore 5, 2) := by decide +kernel
theorem dX6_calm_55 : decode cX6_calm 55 = .ok (.iload 5, 2) := by decide +kernel
theorem dX6_calm_57 : decode cX6_calm 57 = .ok (.bipush 6, 2) := by decide +kernel
theorem dX6_calm_59 : decode cX6_calm 59 = .ok (.if_icmp .ge 62, 3) := by decide +kernel
theorem dX6_calm_62 : decode cX6_calm 62 = .ok (.aload_n 0, 1) := by decide +kernel
theorem dX6_calm_63 : decode cX6_calm 63 = .ok (.getfield 39, 3) := by decide +kernel
theorem dX6_calm_66 : decode cX6_calm 66 = .ok (.aload_n 0, 1) := by decide +kernel
theorem dX6_calm_67 : decode cX6_calm 67 = .ok (.getfield 28, 3) := by decide +kernel
theorem dX6_calm_70 : decode cX6_calm 70 = .ok (.invokevirtual 89, 3) := by decide +kernel
theorem dX6_calm_73 : decode cX6_calm 73 = .ok (.aload_n 0, 1) := by decide +kernel
theorem dX6_calm_74 : decode cX6_calm 74 = .ok (.getfield 39, 3) := by decide +kernel
theorem dX6_calm_77 : decode cX6_calm 77 = .ok (.getfield 165, 3) := by decide +kernel
theorem dX6_calm_80 : decode cX6_calm 80 = .ok (.iload 5, 2) := by decide +kernel
theorem dX6_calm_82 : decode cX6_calm 82 = .ok (.iconst 0, 1) := by decide +kernel
theorem dX6_calm_83 : decode cX6_calm 83 = .ok (.iastore, 1) := by decide +kernel
theorem dX6_calm_84 : decode cX6_calm 84 = .ok (.aload_n 0, 1) := by decide +kernel
theorem dX6_calm_85 : decode cX6_calm 85 = .ok (.getfield 39, 3) := by decide +kernel
theorem dX6_calm_88 : decode cX6_calm 88 = .ok (.iload_n 1, 1) := by decide +kernel
theorem dX6_calm_89 : decode cX6_calm 89 = .ok (.invokevirtual 185, 3) := by decide +kernel
theorem dX6_calm_92 : decode cX6_calm 92 = .ok (.aload_n 0, 1) := by decide +kernel
theorem dX6_calm_93 : decode cX6_calm 93 = .ok (.getfield 39, 3) := by decide +kernel
theorem dX6_calm_96 : decode cX6_calm 96 = .ok (.invokevirtual 115, 3) := by decide +kernel
theorem dX6_calm_99 : decode cX6_calm 99 = .ok (.istore 6, 2) := by decide +kernel
theorem dX6_calm_101 : decode cX6_calm 101 = .ok (.iload 6, 2) := by decide +kernel
theorem dX6_calm_103 : decode cX6_calm 103 = .ok (.iload 4, 2) := by decide +kernel
theorem dX6_calm_105 : decode cX6_calm 105 = .ok (.if_icmp .le 10, 3) := by decide +kernel
theorem dX6_calm_108 : decode cX6_calm 108 = .ok (.iload 5, 2) := by decide +kernel
theorem dX6_calm_110 : decode cX6_calm 110 = .ok (.istore_n 3, 1) := by decide +kernel
theorem dX6_calm_111 : decode cX6_calm 111 = .ok (.iload 6, 2) := by decide +kernel
theorem dX6_calm_113 : decode cX6_calm 113 = .ok (.istore 4, 2) := by decide +kernel
theorem dX6_calm_115 : decode cX6_calm 115 = .ok (.iinc 5 1, 3) := by decide +kernel
theorem dX6_calm_118 : decode cX6_calm 118 = .ok (.goto (-63), 3) := by decide +kernel
theorem dX6_calm_121 : decode cX6_calm 121 = .ok (.iload_n 2, 1) := by decide +kernel
theorem dX6_calm_122 : decode cX6_calm 122 = .ok (.ifCond .eq 9, 3) := by decide +kernel
theorem dX6_calm_125 : decode cX6_calm 125 = .ok (.iload_n 3, 1) := by decide +kernel
theorem dX6_calm_126 : decode cX6_calm 126 = .ok (.bipush (-4), 2) := by decide +kernel
theorem dX6_calm_128 : decode cX6_calm 128 = .ok (.if_icmp .ne 7, 3) := by decide +kernel
theorem dX6_calm_131 : decode cX6_calm 131 = .ok (.iload_n 3, 1) := by decide +kernel
theorem dX6_calm_132 : decode cX6_calm 132 = .ok (.goto 5, 3) := by decide +kernel
theorem dX6_calm_135 : decode cX6_calm 135 = .ok (.iload 4, 2) := by decide +kernel
theorem dX6_calm_137 : decode cX6_calm 137 = .ok (.ireturn, 1) := by decide +kernel
theorem dX6_kind_0 : decode cX6_kind 0 = .ok (.aload_n 0, 1) := by decide +kernel
theorem dX6_kind_1 : decode cX6_kind 1 = .ok (.getfield 28, 3) := by decide +kernel
theorem dX6_kind_4 : decode cX6_kind 4 = .ok (.iload_n 1, 1) := by decide +kernel
theorem dX6_kind_5 : decode cX6_kind 5 = .ok (.invokevirtual 141, 3) := by decide +kernel
theorem dX6_kind_8 : decode cX6_kind 8 = .ok (.ifCond .eq 12, 3) := by decide +kernel
theorem dX6_kind_11 : decode cX6_kind 11 = .ok (.iload_n 2, 1) := by decide +kernel
theorem dX6_kind_12 : decode cX6_kind 12 = .ok (.iconst 0, 1) := by decide +kernel
theorem dX6_kind_13 : decode cX6_kind 13 = .ok (.iconst 1, 1) := by decide +kernel
theorem dX6_kind_14 : decode cX6_kind 14 = .ok (.invokestatic 68, 3) := by decide +kernel
theorem dX6_kind_17 : decode cX6_kind 17 = .ok (.ifCond .ne 5, 3) := by decide +kernel
theorem dX6_kind_20 : decode cX6_kind 20 = .ok (.iconst (-1), 1) := by decide +kernel
theorem dX6_kind_21 : decode cX6_kind 21 = .ok (.ireturn, 1) := by decide +kernel
theorem dX6_kind_22 : decode cX6_kind 22 = .ok (.bipush (-4), 2) := by decide +kernel
theorem dX6_kind_24 : decode cX6_kind 24 = .ok (.istore_n 3, 1) := by decide +kernel
theorem dX6_kind_25 : decode cX6_kind 25 = .ok (.bipush (-4), 2) := by decide +kernel
theorem dX6_kind_27 : decode cX6_kind 27 = .ok (.istore 4, 2) := by decide +kernel
theorem dX6_kind_29 : decode cX6_kind 29 = .ok (.iconst 0, 1) := by decide +kernel
theorem dX6_kind_30 : decode cX6_kind 30 = .ok (.istore 5, 2) := by decide +kernel
theorem dX6_kind_32 : decode cX6_kind 32 = .ok (.iload 5, 2) := by decide +kernel
theorem dX6_kind_34 : decode cX6_kind 34 = .ok (.iconst 4, 1) := by decide +kernel
theorem dX6_kind_35 : decode cX6_kind 35 = .ok (.if_icmp .ge 70, 3) := by decide +kernel
theorem dX6_kind_38 : decode cX6_kind 38 = .ok (.aload_n 0, 1) := by decide +kernel
theorem dX6_kind_39 : decode cX6_kind 39 = .ok (.getfield 39, 3) := by decide +kernel
theorem dX6_kind_42 : decode cX6_kind 42 = .ok (.aload_n 0, 1) := by decide +kernel
theorem dX6_kind_43 : decode cX6_kind 43 = .ok (.getfield 28, 3) := by decide +kernel
theorem dX6_kind_46 : decode cX6_kind 46 = .ok (.invokevirtual 89, 3) := by decide +kernel
theorem dX6_kind_49 : decode cX6_kind 49 = .ok (.aload_n 0, 1) := by decide +kernel
theorem dX6_kind_50 : decode cX6_kind 50 = .ok (.getfield 39, 3) := by decide +kernel
theorem dX6_kind_53 : decode cX6_kind 53 = .ok (.getfield 144, 3) := by decide +kernel
theorem dX6_kind_56 : decode cX6_kind 56 = .ok (.iload_n 1, 1) := by decide +kernel
theorem dX6_kind_57 : decode cX6_kind 57 = .ok (.iload 5, 2) := by decide +kernel
theorem dX6_kind_59 : decode cX6_kind 59 = .ok (.iastore, 1) := by decide +kernel
theorem dX6_kind_60 : decode cX6_kind 60 = .ok (.aload_n 0, 1) := by decide +kernel
theorem dX6_kind_61 : decode cX6_kind 61 = .ok (.getfield 39, 3) := by decide +kernel
theorem dX6_kind_64 : decode cX6_kind 64 = .ok (.iload_n 1, 1) := by decide +kernel
theorem dX6_kind_65 : decode cX6_kind 65 = .ok (.bipush 60, 2) := by decide +kernel
theorem dX6_kind_67 : decode cX6_kind 67 = .ok (.invokevirtual 195, 3) := by decide +kernel
theorem dX6_kind_70 : decode cX6_kind 70 = .ok (.istore 6, 2) := by decide +kernel
theorem dX6_kind_72 : decode cX6_kind 72 = .ok (.iload 6, 2) := by decide +kernel
theorem dX6_kind_74 : decode cX6_kind 74 = .ok (.bipush (-4), 2) := by decide +kernel
theorem dX6_kind_76 : decode cX6_kind 76 = .ok (.if_icmp .eq 23, 3) := by decide +kernel
theorem dX6_kind_79 : decode cX6_kind 79 = .ok (.iload_n 3, 1) := by decide +kernel
theorem dX6_kind_80 : decode cX6_kind 80 = .ok (.bipush (-4), 2) := by decide +kernel
theorem dX6_kind_82 : decode cX6_kind 82 = .ok (.if_icmp .eq 10, 3) := by decide +kernel
theorem dX6_kind_85 : decode cX6_kind 85 = .ok (.iload 6, 2) := by decide +kernel
theorem dX6_kind_87 : decode cX6_kind 87 = .ok (.iload 4, 2) := by decide +kernel
theorem dX6_kind_89 : decode cX6_kind 89 = .ok (.if_icmp .ge 10, 3) := by decide +kernel
theorem dX6_kind_92 : decode cX6_kind 92 = .ok (.iload 5, 2) := by decide +kernel
theorem dX6_kind_94 : decode cX6_kind 94 = .ok (.istore_n 3, 1) := by decide +kernel
theorem dX6_kind_95 : decode cX6_kind 95 = .ok (.iload 6, 2) := by decide +kernel
theorem dX6_kind_97 : decode cX6_kind 97 = .ok (.istore 4, 2) := by decide +kernel
theorem dX6_kind_99 : decode cX6_kind 99 = .ok (.iinc 5 1, 3) := by decide +kernel
theorem dX6_kind_102 : decode cX6_kind 102 = .ok (.goto (-70), 3) := by decide +kernel
theorem dX6_kind_105 : decode cX6_kind 105 = .ok (.iload_n 2, 1) := by decide +kernel
theorem dX6_kind_106 : decode cX6_kind 106 = .ok (.ifCond .ne 7, 3) := by decide +kernel
theorem dX6_kind_109 : decode cX6_kind 109 = .ok (.iload_n 3, 1) := by decide +kernel
theorem dX6_kind_110 : decode cX6_kind 110 = .ok (.goto 5, 3) := by decide +kernel
theorem dX6_kind_113 : decode cX6_kind 113 = .ok (.iload 4, 2) := by decide +kernel
theorem dX6_kind_115 : decode cX6_kind 115 = .ok (.ireturn, 1) := by decide +kernel
theorem dX6_swap_0 : decode cX6_swap 0 = .ok (.iload_n 1, 1) := by decide +kernel
theorem dX6_swap_1 : decode cX6_swap 1 = .ok (.iconst 0, 1) := by decide +kernel
theorem dX6_swap_2 : decode cX6_swap 2 = .ok (.bipush 60, 2) := by decide +kernel
theorem dX6_swap_4 : decode cX6_swap 4 = .ok (.invokestatic 68, 3) := by decide +kernel
theorem dX6_swap_7 : decode cX6_swap 7 = .ok (.ifCond .eq 12, 3) := by decide +kernel
theorem dX6_swap_10 : decode cX6_swap 10 = .ok (.iload_n 2, 1) := by decide +kernel
theorem dX6_swap_11 : decode cX6_swap 11 = .ok (.iconst 0, 1) := by decide +kernel
theorem dX6_swap_12 : decode cX6_swap 12 = .ok (.iconst 1, 1) := by decide +kernel
theorem dX6_swap_13 : decode cX6_swap 13 = .ok (.invokestatic 68, 3) := by decide +kernel
theorem dX6_swap_16 : decode cX6_swap 16 = .ok (.ifCond .ne 5, 3) := by decide +kernel
theorem dX6_swap_19 : decode cX6_swap 19 = .ok (.iconst (-1), 1) := by decide +kernel
theorem dX6_swap_20 : decode cX6_swap 20 = .ok (.ireturn, 1) := by decide +kernel
theorem dX6_swap_21 : decode cX6_swap 21 = .ok (.aload_n 0, 1) := by decide +kernel
theorem dX6_swap_22 : decode cX6_swap 22 = .ok (.getfield 39, 3) := by decide +kernel
theorem dX6_swap_25 : decode cX6_swap 25 = .ok (.aload_n 0, 1) := by decide +kernel
theorem dX6_swap_26 : decode cX6_swap 26 = .ok (.getfield 28, 3) := by decide +kernel
theorem dX6_swap_29 : decode cX6_swap 29 = .ok (.invokevirtual 89, 3) := by decide +kernel
theorem dX6_swap_32 : decode cX6_swap 32 = .ok (.aload_n 0, 1) := by decide +kernel
theorem dX6_swap_33 : decode cX6_swap 33 = .ok (.getfield 39, 3) := by decide +kernel
theorem dX6_swap_36 : decode cX6_swap 36 = .ok (.iload_n 1, 1) := by decide +kernel
theorem dX6_swap_37 : decode cX6_swap 37 = .ok (.invokevirtual 185, 3) := by decide +kernel
theorem dX6_swap_40 : decode cX6_swap 40 = .ok (.bipush (-4), 2) := by decide +kernel
theorem dX6_swap_42 : decode cX6_swap 42 = .ok (.istore_n 3, 1) := by decide +kernel
theorem dX6_swap_43 : decode cX6_swap 43 = .ok (.aload_n 0, 1) := by decide +kernel
theorem dX6_swap_44 : decode cX6_swap 44 = .ok (.getfield 39, 3) := by decide +kernel
theorem dX6_swap_47 : decode cX6_swap 47 = .ok (.invokevirtual 119, 3) := by decide +kernel
theorem dX6_swap_50 : decode cX6_swap 50 = .ok (.istore 4, 2) := by decide +kernel
theorem dX6_swap_52 : decode cX6_swap 52 = .ok (.iconst 0, 1) := by decide +kernel
theorem dX6_swap_53 : decode cX6_swap 53 = .ok (.istore 5, 2) := by decide +kernel
theorem dX6_swap_55 : decode cX6_swap 55 = .ok (.iload 5, 2) := by decide +kernel
theorem dX6_swap_57 : decode cX6_swap 57 = .ok (.aload_n 0, 1) := by decide +kernel
theorem dX6_swap_58 : decode cX6_swap 58 = .ok (.getfield 28, 3) := by decide +kernel
theorem dX6_swap_61 : decode cX6_swap 61 = .ok (.getfield 106, 3) := by decide +kernel
theorem dX6_swap_64 : decode cX6_swap 64 = .ok (.if_icmp .ge 121, 3) := by decide +kernel
theorem dX6_swap_67 : decode cX6_swap 67 = .ok (.iload 5, 2) := by decide +kernel
theorem dX6_swap_69 : decode cX6_swap 69 = .ok (.iconst 1, 1) := by decide +kernel
theorem dX6_swap_70 : decode cX6_swap 70 = .ok (.iadd, 1) := by decide +kernel
theorem dX6_swap_71 : decode cX6_swap 71 = .ok (.istore 6, 2) := by decide +kernel
theorem dX6_swap_73 : decode cX6_swap 73 = .ok (.iload 6, 2) := by decide +kernel
theorem dX6_swap_75 : decode cX6_swap 75 = .ok (.aload_n 0, 1) := by decide +kernel
theorem dX6_swap_76 : decode cX6_swap 76 = .ok (.getfield 28, 3) := by decide +kernel
theorem dX6_swap_79 : decode cX6_swap 79 = .ok (.getfield 106, 3) := by decide +kernel
theorem dX6_swap_82 : decode cX6_swap 82 = .ok (.if_icmp .ge 97, 3) := by decide +kernel
theorem dX6_swap_85 : decode cX6_swap 85 = .ok (.aload_n 0, 1) := by decide +kernel
theorem dX6_swap_86 : decode cX6_swap 86 = .ok (.getfield 39, 3) := by decide +kernel
theorem dX6_swap_89 : decode cX6_swap 89 = .ok (.aload_n 0, 1) := by decide +kernel
theorem dX6_swap_90 : decode cX6_swap 90 = .ok (.getfield 28, 3) := by decide +kernel
theorem dX6_swap_93 : decode cX6_swap 93 = .ok (.invokevirtual 89, 3) := by decide +kernel
theorem dX6_swap_96 : decode cX6_swap 96 = .ok (.aload_n 0, 1) := by decide +kernel
theorem dX6_swap_97 : decode cX6_swap 97 = .ok (.getfield 39, 3) := by decide +kernel
theorem dX6_swap_100 : decode cX6_swap 100 = .ok (.getfield 128, 3) := by decide +kernel
theorem dX6_swap_103 : decode cX6_swap 103 = .ok (.iload 5, 2) := by decide +kernel
theorem dX6_swap_105 : decode cX6_swap 105 = .ok (.aload_n 0, 1) := by decide +kernel
theorem dX6_swap_106 : decode cX6_swap 106 = .ok (.getfield 28, 3) := by decide +kernel
theorem dX6_swap_109 : decode cX6_swap 109 = .ok (.getfield 128, 3) := by decide +kernel
theorem dX6_swap_112 : decode cX6_swap 112 = .ok (.iload 6, 2) := by decide +kernel
theorem dX6_swap_114 : decode cX6_swap 114 = .ok (.iaload, 1) := by decide +kernel
theorem dX6_swap_115 : decode cX6_swap 115 = .ok (.iastore, 1) := by decide +kernel
theorem dX6_swap_116 : decode cX6_swap 116 = .ok (.aload_n 0, 1) := by decide +kernel
theorem dX6_swap_117 : decode cX6_swap 117 = .ok (.getfield 39, 3) := by decide +kernel
theorem dX6_swap_120 : decode cX6_swap 120 = .ok (.getfield 128, 3) := by decide +kernel
theorem dX6_swap_123 : decode cX6_swap 123 = .ok (.iload 6, 2) := by decide +kernel
theorem dX6_swap_125 : decode cX6_swap 125 = .ok (.aload_n 0, 1) := by decide +kernel
theorem dX6_swap_126 : decode cX6_swap 126 = .ok (.getfield 28, 3) := by decide +kernel
theorem dX6_swap_129 : decode cX6_swap 129 = .ok (.getfield 128, 3) := by decide +kernel
theorem dX6_swap_132 : decode cX6_swap 132 = .ok (.iload 5, 2) := by decide +kernel
theorem dX6_swap_134 : decode cX6_swap 134 = .ok (.iaload, 1) := by decide +kernel
theorem dX6_swap_135 : decode cX6_swap 135 = .ok (.iastore, 1) := by decide +kernel
theorem dX6_swap_136 : decode cX6_swap 136 = .ok (.aload_n 0, 1) := by decide +kernel
theorem dX6_swap_137 : decode cX6_swap 137 = .ok (.getfield 39, 3) := by decide +kernel
theorem dX6_swap_140 : decode cX6_swap 140 = .ok (.iload_n 1, 1) := by decide +kernel
theorem dX6_swap_141 : decode cX6_swap 141 = .ok (.invokevirtual 185, 3) := by decide +kernel
theorem dX6_swap_144 : decode cX6_swap 144 = .ok (.aload_n 0, 1) := by decide +kernel
theorem dX6_swap_145 : decode cX6_swap 145 = .ok (.getfield 39, 3) := by decide +kernel
theorem dX6_swap_148 : decode cX6_swap 148 = .ok (.invokevirtual 119, 3) := by decide +kernel
theorem dX6_swap_151 : decode cX6_swap 151 = .ok (.istore 7, 2) := by decide +kernel
theorem dX6_swap_153 : decode cX6_swap 153 = .ok (.iload 7, 2) := by decide +kernel
theorem dX6_swap_155 : decode cX6_swap 155 = .ok (.iload 4, 2) := by decide +kernel
theorem dX6_swap_157 : decode cX6_swap 157 = .ok (.if_icmp .le 16, 3) := by decide +kernel
theorem dX6_swap_160 : decode cX6_swap 160 = .ok (.bipush 10, 2) := by decide +kernel
theorem dX6_swap_162 : decode cX6_swap 162 = .ok (.iload 5, 2) := by decide +kernel
theorem dX6_swap_164 : decode cX6_swap 164 = .ok (.imul, 1) := by decide +kernel
theorem dX6_swap_165 : decode cX6_swap 165 = .ok (.iload 6, 2) := by decide +kernel
theorem dX6_swap_167 : decode cX6_swap 167 = .ok (.iadd, 1) := by decide +kernel
theorem dX6_swap_168 : decode cX6_swap 168 = .ok (.istore_n 3, 1) := by decide +kernel
theorem dX6_swap_169 : decode cX6_swap 169 = .ok (.iload 7, 2) := by decide +kernel
theorem dX6_swap_171 : decode cX6_swap 171 = .ok (.istore 4, 2) := by decide +kernel
theorem dX6_swap_173 : decode cX6_swap 173 = .ok (.iinc 6 1, 3) := by decide +kernel
theorem dX6_swap_176 : decode cX6_swap 176 = .ok (.goto (-103), 3) := by decide +kernel
theorem dX6_swap_179 : decode cX6_swap 179 = .ok (.iinc 5 1, 3) := by decide +kernel
theorem dX6_swap_182 : decode cX6_swap 182 = .ok (.goto (-127), 3) := by decide +kernel
theorem dX6_swap_185 : decode cX6_swap 185 = .ok (.iload_n 2, 1) := by decide +kernel
theorem dX6_swap_186 : decode cX6_swap 186 = .ok (.ifCond .eq 9, 3) := by decide +kernel
theorem dX6_swap_189 : decode cX6_swap 189 = .ok (.iload_n 3, 1) := by decide +kernel
theorem dX6_swap_190 : decode cX6_swap 190 = .ok (.bipush (-4), 2) := by decide +kernel
theorem dX6_swap_192 : decode cX6_swap 192 = .ok (.if_icmp .ne 7, 3) := by decide +kernel
theorem dX6_swap_195 : decode cX6_swap 195 = .ok (.iload_n 3, 1) := by decide +kernel
theorem dX6_swap_196 : decode cX6_swap 196 = .ok (.goto 5, 3) := by decide +kernel
theorem dX6_swap_199 : decode cX6_swap 199 = .ok (.iload 4, 2) := by decide +kernel
theorem dX6_swap_201 : decode cX6_swap 201 = .ok (.ireturn, 1) := by decide +kernel
theorem dX6_need_0 : decode cX6_need 0 = .ok (.aload_n 0, 1) := by decide +kernel
theorem dX6_need_1 : decode cX6_need 1 = .ok (.getfield 28, 3) := by decide +kernel
theorem dX6_need_4 : decode cX6_need 4 = .ok (.iload_n 1, 1) := by decide +kernel
theorem dX6_need_5 : decode cX6_need 5 = .ok (.invokevirtual 141, 3) := by decide +kernel
theorem dX6_need_8 : decode cX6_need 8 = .ok (.ifCond .eq 24, 3) := by decide +kernel
theorem dX6_need_11 : decode cX6_need 11 = .ok (.aload_n 0, 1) := by decide +kernel
theorem dX6_need_12 : decode cX6_need 12 = .ok (.getfield 28, 3) := by decide +kernel
theorem dX6_need_15 : decode cX6_need 15 = .ok (.iload_n 2, 1) := by decide +kernel
theorem dX6_need_16 : decode cX6_need 16 = .ok (.invokevirtual 125, 3) := by decide +kernel
theorem dX6_need_19 : decode cX6_need 19 = .ok (.ifCond .eq 13, 3) := by decide +kernel
theorem dX6_need_22 : decode cX6_need 22 = .ok (.iload_n 3, 1) := by decide +kernel
theorem dX6_need_23 : decode cX6_need 23 = .ok (.iconst 0, 1) := by decide +kernel
theorem dX6_need_24 : decode cX6_need 24 = .ok (.bipush 60, 2) := by decide +kernel
theorem dX6_need_26 : decode cX6_need 26 = .ok (.invokestatic 68, 3) := by decide +kernel
theorem dX6_need_29 : decode cX6_need 29 = .ok (.ifCond .ne 5, 3) := by decide +kernel
theorem dX6_need_32 : decode cX6_need 32 = .ok (.iconst (-1), 1) := by decide +kernel
theorem dX6_need_33 : decode cX6_need 33 = .ok (.ireturn, 1) := by decide +kernel
theorem dX6_need_34 : decode cX6_need 34 = .ok (.iconst 1, 1) := by decide +kernel
theorem dX6_need_35 : decode cX6_need 35 = .ok (.istore 4, 2) := by decide +kernel
theorem dX6_need_37 : decode cX6_need 37 = .ok (.iload 4, 2) := by decide +kernel
theorem dX6_need_39 : decode cX6_need 39 = .ok (.bipush 9, 2) := by decide +kernel
theorem dX6_need_41 : decode cX6_need 41 = .ok (.if_icmp .gt 53, 3) := by decide +kernel
theorem dX6_need_44 : decode cX6_need 44 = .ok (.aload_n 0, 1) := by decide +kernel
theorem dX6_need_45 : decode cX6_need 45 = .ok (.getfield 39, 3) := by decide +kernel
theorem dX6_need_48 : decode cX6_need 48 = .ok (.aload_n 0, 1) := by decide +kernel
theorem dX6_need_49 : decode cX6_need 49 = .ok (.getfield 28, 3) := by decide +kernel
theorem dX6_need_52 : decode cX6_need 52 = .ok (.invokevirtual 89, 3) := by decide +kernel
theorem dX6_need_55 : decode cX6_need 55 = .ok (.aload_n 0, 1) := by decide +kernel
theorem dX6_need_56 : decode cX6_need 56 = .ok (.getfield 39, 3) := by decide +kernel
theorem dX6_need_59 : decode cX6_need 59 = .ok (.getfield 147, 3) := by decide +kernel
theorem dX6_need_62 : decode cX6_need 62 = .ok (.iload_n 1, 1) := by decide +kernel
theorem dX6_need_63 : decode cX6_need 63 = .ok (.iload 4, 2) := by decide +kernel
theorem dX6_need_65 : decode cX6_need 65 = .ok (.iastore, 1) := by decide +kernel
theorem dX6_need_66 : decode cX6_need 66 = .ok (.aload_n 0, 1) := by decide +kernel
theorem dX6_need_67 : decode cX6_need 67 = .ok (.getfield 39, 3) := by decide +kernel
theorem dX6_need_70 : decode cX6_need 70 = .ok (.iload_n 3, 1) := by decide +kernel
theorem dX6_need_71 : decode cX6_need 71 = .ok (.invokevirtual 185, 3) := by decide +kernel
theorem dX6_need_74 : decode cX6_need 74 = .ok (.aload_n 0, 1) := by decide +kernel
theorem dX6_need_75 : decode cX6_need 75 = .ok (.getfield 39, 3) := by decide +kernel
theorem dX6_need_78 : decode cX6_need 78 = .ok (.iload_n 2, 1) := by decide +kernel
theorem dX6_need_79 : decode cX6_need 79 = .ok (.invokevirtual 199, 3) := by decide +kernel
theorem dX6_need_82 : decode cX6_need 82 = .ok (.ifCond .eq 6, 3) := by decide +kernel
theorem dX6_need_85 : decode cX6_need 85 = .ok (.iload 4, 2) := by decide +kernel
theorem dX6_need_87 : decode cX6_need 87 = .ok (.ireturn, 1) := by decide +kernel
theorem dX6_need_88 : decode cX6_need 88 = .ok (.iinc 4 1, 3) := by decide +kernel
theorem dX6_need_91 : decode cX6_need 91 = .ok (.goto (-54), 3) := by decide +kernel
theorem dX6_need_94 : decode cX6_need 94 = .ok (.bipush (-4), 2) := by decide +kernel
theorem dX6_need_96 : decode cX6_need 96 = .ok (.ireturn, 1) := by decide +kernel
theorem dX6_off_0 : decode cX6_off 0 = .ok (.aload_n 0, 1) := by decide +kernel
theorem dX6_off_1 : decode cX6_off 1 = .ok (.getfield 28, 3) := by decide +kernel
theorem dX6_off_4 : decode cX6_off 4 = .ok (.iload_n 1, 1) := by decide +kernel
theorem dX6_off_5 : decode cX6_off 5 = .ok (.invokevirtual 125, 3) := by decide +kernel
theorem dX6_off_8 : decode cX6_off 8 = .ok (.ifCond .eq 22, 3) := by decide +kernel
theorem dX6_off_11 : decode cX6_off 11 = .ok (.iload_n 2, 1) := by decide +kernel
theorem dX6_off_12 : decode cX6_off 12 = .ok (.iconst 0, 1) := by decide +kernel
theorem dX6_off_13 : decode cX6_off 13 = .ok (.bipush 60, 2) := by decide +kernel
theorem dX6_off_15 : decode cX6_off 15 = .ok (.invokestatic 68, 3) := by decide +kernel
theorem dX6_off_18 : decode cX6_off 18 = .ok (.ifCond .eq 12, 3) := by decide +kernel
theorem dX6_off_21 : decode cX6_off 21 = .ok (.iload_n 3, 1) := by decide +kernel
theorem dX6_off_22 : decode cX6_off 22 = .ok (.iconst 0, 1) := by decide +kernel
theorem dX6_off_23 : decode cX6_off 23 = .ok (.iconst 1, 1) := by decide +kernel
theorem dX6_off_24 : decode cX6_off 24 = .ok (.invokestatic 68, 3) := by decide +kernel
theorem dX6_off_27 : decode cX6_off 27 = .ok (.ifCond .ne 5, 3) := by decide +kernel
theorem dX6_off_30 : decode cX6_off 30 = .ok (.iconst (-1), 1) := by decide +kernel
theorem dX6_off_31 : decode cX6_off 31 = .ok (.ireturn, 1) := by decide +kernel
theorem dX6_off_32 : decode cX6_off 32 = .ok (.aload_n 0, 1) := by decide +kernel
theorem dX6_off_33 : decode cX6_off 33 = .ok (.getfield 39, 3) := by decide +kernel
theorem dX6_off_36 : decode cX6_off 36 = .ok (.aload_n 0, 1) := by decide +kernel
theorem dX6_off_37 : decode cX6_off 37 = .ok (.getfield 28, 3) := by decide +kernel
theorem dX6_off_40 : decode cX6_off 40 = .ok (.invokevirtual 89, 3) := by decide +kernel
theorem dX6_off_43 : decode cX6_off 43 = .ok (.aload_n 0, 1) := by decide +kernel
theorem dX6_off_44 : decode cX6_off 44 = .ok (.getfield 39, 3) := by decide +kernel
theorem dX6_off_47 : decode cX6_off 47 = .ok (.iload_n 2, 1) := by decide +kernel
theorem dX6_off_48 : decode cX6_off 48 = .ok (.invokevirtual 185, 3) := by decide +kernel
theorem dX6_off_51 : decode cX6_off 51 = .ok (.bipush (-4), 2) := by decide +kernel
theorem dX6_off_53 : decode cX6_off 53 = .ok (.istore 4, 2) := by decide +kernel
theorem dX6_off_55 : decode cX6_off 55 = .ok (.aload_n 0, 1) := by decide +kernel
theorem dX6_off_56 : decode cX6_off 56 = .ok (.getfield 39, 3) := by decide +kernel
theorem dX6_off_59 : decode cX6_off 59 = .ok (.iload_n 1, 1) := by decide +kernel
theorem dX6_off_60 : decode cX6_off 60 = .ok (.invokevirtual 135, 3) := by decide +kernel
theorem dX6_off_63 : decode cX6_off 63 = .ok (.istore 5, 2) := by decide +kernel
theorem dX6_off_65 : decode cX6_off 65 = .ok (.iconst 0, 1) := by decide +kernel
theorem dX6_off_66 : decode cX6_off 66 = .ok (.istore 6, 2) := by decide +kernel
theorem dX6_off_68 : decode cX6_off 68 = .ok (.iload 6, 2) := by decide +kernel
theorem dX6_off_70 : decode cX6_off 70 = .ok (.aload_n 0, 1) := by decide +kernel
theorem dX6_off_71 : decode cX6_off 71 = .ok (.getfield 28, 3) := by decide +kernel
theorem dX6_off_74 : decode cX6_off 74 = .ok (.getfield 109, 3) := by decide +kernel
theorem dX6_off_77 : decode cX6_off 77 = .ok (.if_icmp .ge 62, 3) := by decide +kernel
theorem dX6_off_80 : decode cX6_off 80 = .ok (.aload_n 0, 1) := by decide +kernel
theorem dX6_off_81 : decode cX6_off 81 = .ok (.getfield 39, 3) := by decide +kernel
theorem dX6_off_84 : decode cX6_off 84 = .ok (.aload_n 0, 1) := by decide +kernel
theorem dX6_off_85 : decode cX6_off 85 = .ok (.getfield 28, 3) := by decide +kernel
theorem dX6_off_88 : decode cX6_off 88 = .ok (.invokevirtual 89, 3) := by decide +kernel
theorem dX6_off_91 : decode cX6_off 91 = .ok (.aload_n 0, 1) := by decide +kernel
theorem dX6_off_92 : decode cX6_off 92 = .ok (.getfield 39, 3) := by decide +kernel
theorem dX6_off_95 : decode cX6_off 95 = .ok (.iload 6, 2) := by decide +kernel
theorem dX6_off_97 : decode cX6_off 97 = .ok (.invokevirtual 202, 3) := by decide +kernel
theorem dX6_off_100 : decode cX6_off 100 = .ok (.aload_n 0, 1) := by decide +kernel
theorem dX6_off_101 : decode cX6_off 101 = .ok (.getfield 39, 3) := by decide +kernel
theorem dX6_off_104 : decode cX6_off 104 = .ok (.iload_n 2, 1) := by decide +kernel
theorem dX6_off_105 : decode cX6_off 105 = .ok (.invokevirtual 185, 3) := by decide +kernel
theorem dX6_off_108 : decode cX6_off 108 = .ok (.aload_n 0, 1) := by decide +kernel
theorem dX6_off_109 : decode cX6_off 109 = .ok (.getfield 39, 3) := by decide +kernel
theorem dX6_off_112 : decode cX6_off 112 = .ok (.iload_n 1, 1) := by decide +kernel
theorem dX6_off_113 : decode cX6_off 113 = .ok (.invokevirtual 135, 3) := by decide +kernel
theorem dX6_off_116 : decode cX6_off 116 = .ok (.istore 7, 2) := by decide +kernel
theorem dX6_off_118 : decode cX6_off 118 = .ok (.iload 7, 2) := by decide +kernel
theorem dX6_off_120 : decode cX6_off 120 = .ok (.iload 5, 2) := by decide +kernel
theorem dX6_off_122 : decode cX6_off 122 = .ok (.if_icmp .ge 11, 3) := by decide +kernel
theorem dX6_off_125 : decode cX6_off 125 = .ok (.iload 6, 2) := by decide +kernel
theorem dX6_off_127 : decode cX6_off 127 = .ok (.istore 4, 2) := by decide +kernel
theorem dX6_off_129 : decode cX6_off 129 = .ok (.iload 7, 2) := by decide +kernel
theorem dX6_off_131 : decode cX6_off 131 = .ok (.istore 5, 2) := by decide +kernel
theorem dX6_off_133 : decode cX6_off 133 = .ok (.iinc 6 1, 3) := by decide +kernel
theorem dX6_off_136 : decode cX6_off 136 = .ok (.goto (-68), 3) := by decide +kernel
theorem dX6_off_139 : decode cX6_off 139 = .ok (.iload_n 3, 1) := by decide +kernel
theorem dX6_off_140 : decode cX6_off 140 = .ok (.ifCond .eq 10, 3) := by decide +kernel
theorem dX6_off_143 : decode cX6_off 143 = .ok (.iload 4, 2) := by decide +kernel
theorem dX6_off_145 : decode cX6_off 145 = .ok (.bipush (-4), 2) := by decide +kernel
theorem dX6_off_147 : decode cX6_off 147 = .ok (.if_icmp .ne 8, 3) := by decide +kernel
theorem dX6_off_150 : decode cX6_off 150 = .ok (.iload 4, 2) := by decide +kernel
theorem dX6_off_152 : decode cX6_off 152 = .ok (.goto 5, 3) := by decide +kernel
theorem dX6_off_155 : decode cX6_off 155 = .ok (.iload 5, 2) := by decide +kernel
theorem dX6_off_157 : decode cX6_off 157 = .ok (.ireturn, 1) := by decide +kernel
theorem dX6_luck_0 : decode cX6_luck 0 = .ok (.aload_n 0, 1) := by decide +kernel
theorem dX6_luck_1 : decode cX6_luck 1 = .ok (.getfield 28, 3) := by decide +kernel
theorem dX6_luck_4 : decode cX6_luck 4 = .ok (.iload_n 2, 1) := by decide +kernel
theorem dX6_luck_5 : decode cX6_luck 5 = .ok (.invokevirtual 141, 3) := by decide +kernel
theorem dX6_luck_8 : decode cX6_luck 8 = .ok (.ifCond .eq 16, 3) := by decide +kernel
theorem dX6_luck_11 : decode cX6_luck 11 = .ok (.aload_n 0, 1) := by decide +kernel
theorem dX6_luck_12 : decode cX6_luck 12 = .ok (.iload_n 1, 1) := by decide +kernel
theorem dX6_luck_13 : decode cX6_luck 13 = .ok (.iload_n 3, 1) := by decide +kernel
theorem dX6_luck_14 : decode cX6_luck 14 = .ok (.iload 4, 2) := by decide +kernel
theorem dX6_luck_16 : decode cX6_luck 16 = .ok (.iconst 0, 1) := by decide +kernel
theorem dX6_luck_17 : decode cX6_luck 17 = .ok (.iload_n 2, 1) := by decide +kernel
theorem dX6_luck_18 : decode cX6_luck 18 = .ok (.invokevirtual 205, 3) := by decide +kernel
theorem dX6_luck_21 : decode cX6_luck 21 = .ok (.goto 6, 3) := by decide +kernel
theorem dX6_luck_24 : decode cX6_luck 24 = .ok (.ldc2_w 209, 3) := by decide +kernel
theorem dX6_luck_27 : decode cX6_luck 27 = .ok (.lreturn, 1) := by decide +kernel
theorem dX6_mean_0 : decode cX6_mean 0 = .ok (.aload_n 0, 1) := by decide +kernel
theorem dX6_mean_1 : decode cX6_mean 1 = .ok (.getfield 28, 3) := by decide +kernel
theorem dX6_mean_4 : decode cX6_mean 4 = .ok (.iload_n 2, 1) := by decide +kernel
theorem dX6_mean_5 : decode cX6_mean 5 = .ok (.invokevirtual 125, 3) := by decide +kernel
theorem dX6_mean_8 : decode cX6_mean 8 = .ok (.ifCond .eq 16, 3) := by decide +kernel
theorem dX6_mean_11 : decode cX6_mean 11 = .ok (.aload_n 0, 1) := by decide +kernel
theorem dX6_mean_12 : decode cX6_mean 12 = .ok (.iload_n 1, 1) := by decide +kernel
theorem dX6_mean_13 : decode cX6_mean 13 = .ok (.iload_n 3, 1) := by decide +kernel
theorem dX6_mean_14 : decode cX6_mean 14 = .ok (.iload 4, 2) := by decide +kernel
theorem dX6_mean_16 : decode cX6_mean 16 = .ok (.iconst 1, 1) := by decide +kernel
theorem dX6_mean_17 : decode cX6_mean 17 = .ok (.iload_n 2, 1) := by decide +kernel
theorem dX6_mean_18 : decode cX6_mean 18 = .ok (.invokevirtual 205, 3) := by decide +kernel
theorem dX6_mean_21 : decode cX6_mean 21 = .ok (.goto 6, 3) := by decide +kernel
theorem dX6_mean_24 : decode cX6_mean 24 = .ok (.ldc2_w 209, 3) := by decide +kernel
theorem dX6_mean_27 : decode cX6_mean 27 = .ok (.lreturn, 1) := by decide +kernel
theorem dX6_see_0 : decode cX6_see 0 = .ok (.iload_n 1, 1) := by decide +kernel
theorem dX6_see_1 : decode cX6_see 1 = .ok (.iconst 0, 1) := by decide +kernel
theorem dX6_see_2 : decode cX6_see 2 = .ok (.bipush 20, 2) := by decide +kernel
theorem dX6_see_4 : decode cX6_see 4 = .ok (.invokestatic 68, 3) := by decide +kernel
theorem dX6_see_7 : decode cX6_see 7 = .ok (.ifCond .eq 14, 3) := by decide +kernel
theorem dX6_see_10 : decode cX6_see 10 = .ok (.aload_n 0, 1) := by decide +kernel
theorem dX6_see_11 : decode cX6_see 11 = .ok (.getfield 28, 3) := by decide +kernel
theorem dX6_see_14 : decode cX6_see 14 = .ok (.iload_n 2, 1) := by decide +kernel
theorem dX6_see_15 : decode cX6_see 15 = .ok (.invokevirtual 125, 3) := by decide +kernel
theorem dX6_see_18 : decode cX6_see 18 = .ok (.ifCond .ne 5, 3) := by decide +kernel
theorem dX6_see_21 : decode cX6_see 21 = .ok (.iconst (-1), 1) := by decide +kernel
theorem dX6_see_22 : decode cX6_see 22 = .ok (.ireturn, 1) := by decide +kernel
theorem dX6_see_23 : decode cX6_see 23 = .ok (.iload_n 3, 1) := by decide +kernel
theorem dX6_see_24 : decode cX6_see 24 = .ok (.iconst 0, 1) := by decide +kernel
theorem dX6_see_25 : decode cX6_see 25 = .ok (.bipush 99, 2) := by decide +kernel
theorem dX6_see_27 : decode cX6_see 27 = .ok (.invokestatic 68, 3) := by decide +kernel
theorem dX6_see_30 : decode cX6_see 30 = .ok (.ifCond .ne 5, 3) := by decide +kernel
theorem dX6_see_33 : decode cX6_see 33 = .ok (.iconst (-1), 1) := by decide +kernel
theorem dX6_see_34 : decode cX6_see 34 = .ok (.ireturn, 1) := by decide +kernel
theorem dX6_see_35 : decode cX6_see 35 = .ok (.aload_n 0, 1) := by decide +kernel
theorem dX6_see_36 : decode cX6_see 36 = .ok (.getfield 35, 3) := by decide +kernel
theorem dX6_see_39 : decode cX6_see 39 = .ok (.iload_n 1, 1) := by decide +kernel
theorem dX6_see_40 : decode cX6_see 40 = .ok (.iload_n 2, 1) := by decide +kernel
theorem dX6_see_41 : decode cX6_see 41 = .ok (.iload_n 3, 1) := by decide +kernel
theorem dX6_see_42 : decode cX6_see 42 = .ok (.invokevirtual 211, 3) := by decide +kernel
theorem dX6_see_45 : decode cX6_see 45 = .ok (.ifCond .eq 13, 3) := by decide +kernel
theorem dX6_see_48 : decode cX6_see 48 = .ok (.aload_n 0, 1) := by decide +kernel
theorem dX6_see_49 : decode cX6_see 49 = .ok (.getfield 35, 3) := by decide +kernel
theorem dX6_see_52 : decode cX6_see 52 = .ok (.getfield 93, 3) := by decide +kernel
theorem dX6_see_55 : decode cX6_see 55 = .ok (.goto 5, 3) := by decide +kernel
theorem dX6_see_58 : decode cX6_see 58 = .ok (.bipush (-3), 2) := by decide +kernel
theorem dX6_see_60 : decode cX6_see 60 = .ok (.ireturn, 1) := by decide +kernel
theorem dX6_forget_0 : decode cX6_forget 0 = .ok (.iload_n 1, 1) := by decide +kernel
theorem dX6_forget_1 : decode cX6_forget 1 = .ok (.iconst 0, 1) := by decide +kernel
theorem dX6_forget_2 : decode cX6_forget 2 = .ok (.aload_n 0, 1) := by decide +kernel
theorem dX6_forget_3 : decode cX6_forget 3 = .ok (.getfield 35, 3) := by decide +kernel
theorem dX6_forget_6 : decode cX6_forget 6 = .ok (.getfield 93, 3) := by decide +kernel
theorem dX6_forget_9 : decode cX6_forget 9 = .ok (.invokestatic 68, 3) := by decide +kernel
theorem dX6_forget_12 : decode cX6_forget 12 = .ok (.ifCond .ne 5, 3) := by decide +kernel
theorem dX6_forget_15 : decode cX6_forget 15 = .ok (.iconst (-1), 1) := by decide +kernel
theorem dX6_forget_16 : decode cX6_forget 16 = .ok (.ireturn, 1) := by decide +kernel
theorem dX6_forget_17 : decode cX6_forget 17 = .ok (.aload_n 0, 1) := by decide +kernel
theorem dX6_forget_18 : decode cX6_forget 18 = .ok (.getfield 35, 3) := by decide +kernel
theorem dX6_forget_21 : decode cX6_forget 21 = .ok (.getfield 93, 3) := by decide +kernel
theorem dX6_forget_24 : decode cX6_forget 24 = .ok (.istore_n 2, 1) := by decide +kernel
theorem dX6_forget_25 : decode cX6_forget 25 = .ok (.aload_n 0, 1) := by decide +kernel
theorem dX6_forget_26 : decode cX6_forget 26 = .ok (.getfield 35, 3) := by decide +kernel
theorem dX6_forget_29 : decode cX6_forget 29 = .ok (.iload_n 1, 1) := by decide +kernel
theorem dX6_forget_30 : decode cX6_forget 30 = .ok (.putfield 93, 3) := by decide +kernel
theorem dX6_forget_33 : decode cX6_forget 33 = .ok (.iload_n 2, 1) := by decide +kernel
theorem dX6_forget_34 : decode cX6_forget 34 = .ok (.ireturn, 1) := by decide +kernel
theorem dX6_owners_0 : decode cX6_owners 0 = .ok (.aload_n 0, 1) := by decide +kernel
theorem dX6_owners_1 : decode cX6_owners 1 = .ok (.getfield 28, 3) := by decide +kernel
theorem dX6_owners_4 : decode cX6_owners 4 = .ok (.iload_n 1, 1) := by decide +kernel
theorem dX6_owners_5 : decode cX6_owners 5 = .ok (.invokevirtual 141, 3) := by decide +kernel
theorem dX6_owners_8 : decode cX6_owners 8 = .ok (.ifCond .eq 11, 3) := by decide +kernel
theorem dX6_owners_11 : decode cX6_owners 11 = .ok (.aload_n 0, 1) := by decide +kernel
theorem dX6_owners_12 : decode cX6_owners 12 = .ok (.iload_n 1, 1) := by decide +kernel
theorem dX6_owners_13 : decode cX6_owners 13 = .ok (.invokevirtual 213, 3) := by decide +kernel
theorem dX6_owners_16 : decode cX6_owners 16 = .ok (.goto 4, 3) := by decide +kernel
theorem dX6_owners_19 : decode cX6_owners 19 = .ok (.iconst (-1), 1) := by decide +kernel
theorem dX6_owners_20 : decode cX6_owners 20 = .ok (.ireturn, 1) := by decide +kernel
theorem dX6_kinds_0 : decode cX6_kinds 0 = .ok (.aload_n 0, 1) := by decide +kernel
theorem dX6_kinds_1 : decode cX6_kinds 1 = .ok (.getfield 28, 3) := by decide +kernel
theorem dX6_kinds_4 : decode cX6_kinds 4 = .ok (.iload_n 1, 1) := by decide +kernel
theorem dX6_kinds_5 : decode cX6_kinds 5 = .ok (.invokevirtual 141, 3) := by decide +kernel
theorem dX6_kinds_8 : decode cX6_kinds 8 = .ok (.ifCond .ne 5, 3) := by decide +kernel
theorem dX6_kinds_11 : decode cX6_kinds 11 = .ok (.iconst (-1), 1) := by decide +kernel
theorem dX6_kinds_12 : decode cX6_kinds 12 = .ok (.ireturn, 1) := by decide +kernel
theorem dX6_kinds_13 : decode cX6_kinds 13 = .ok (.iconst 0, 1) := by decide +kernel
theorem dX6_kinds_14 : decode cX6_kinds 14 = .ok (.istore_n 2, 1) := by decide +kernel
theorem dX6_kinds_15 : decode cX6_kinds 15 = .ok (.iconst 0, 1) := by decide +kernel
theorem dX6_kinds_16 : decode cX6_kinds 16 = .ok (.istore_n 3, 1) := by decide +kernel
theorem dX6_kinds_17 : decode cX6_kinds 17 = .ok (.iload_n 3, 1) := by decide +kernel
theorem dX6_kinds_18 : decode cX6_kinds 18 = .ok (.iconst 4, 1) := by decide +kernel
theorem dX6_kinds_19 : decode cX6_kinds 19 = .ok (.if_icmp .ge 50, 3) := by decide +kernel
theorem dX6_kinds_22 : decode cX6_kinds 22 = .ok (.aload_n 0, 1) := by decide +kernel
theorem dX6_kinds_23 : decode cX6_kinds 23 = .ok (.getfield 39, 3) := by decide +kernel
theorem dX6_kinds_26 : decode cX6_kinds 26 = .ok (.aload_n 0, 1) := by decide +kernel
theorem dX6_kinds_27 : decode cX6_kinds 27 = .ok (.getfield 28, 3) := by decide +kernel
theorem dX6_kinds_30 : decode cX6_kinds 30 = .ok (.invokevirtual 89, 3) := by decide +kernel
theorem dX6_kinds_33 : decode cX6_kinds 33 = .ok (.aload_n 0, 1) := by decide +kernel
theorem dX6_kinds_34 : decode cX6_kinds 34 = .ok (.getfield 39, 3) := by decide +kernel
theorem dX6_kinds_37 : decode cX6_kinds 37 = .ok (.getfield 144, 3) := by decide +kernel
theorem dX6_kinds_40 : decode cX6_kinds 40 = .ok (.iload_n 1, 1) := by decide +kernel
theorem dX6_kinds_41 : decode cX6_kinds 41 = .ok (.iload_n 3, 1) := by decide +kernel
theorem dX6_kinds_42 : decode cX6_kinds 42 = .ok (.iastore, 1) := by decide +kernel
theorem dX6_kinds_43 : decode cX6_kinds 43 = .ok (.aload_n 0, 1) := by decide +kernel
theorem dX6_kinds_44 : decode cX6_kinds 44 = .ok (.getfield 35, 3) := by decide +kernel
theorem dX6_kinds_47 : decode cX6_kinds 47 = .ok (.aload_n 0, 1) := by decide +kernel
theorem dX6_kinds_48 : decode cX6_kinds 48 = .ok (.getfield 39, 3) := by decide +kernel
theorem dX6_kinds_51 : decode cX6_kinds 51 = .ok (.invokevirtual 216, 3) := by decide +kernel
theorem dX6_kinds_54 : decode cX6_kinds 54 = .ok (.ifCond .eq 9, 3) := by decide +kernel
theorem dX6_kinds_57 : decode cX6_kinds 57 = .ok (.iload_n 2, 1) := by decide +kernel
theorem dX6_kinds_58 : decode cX6_kinds 58 = .ok (.iconst 1, 1) := by decide +kernel
theorem dX6_kinds_59 : decode cX6_kinds 59 = .ok (.iload_n 3, 1) := by decide +kernel
theorem dX6_kinds_60 : decode cX6_kinds 60 = .ok (.ishl, 1) := by decide +kernel
theorem dX6_kinds_61 : decode cX6_kinds 61 = .ok (.ior, 1) := by decide +kernel
theorem dX6_kinds_62 : decode cX6_kinds 62 = .ok (.istore_n 2, 1) := by decide +kernel
theorem dX6_kinds_63 : decode cX6_kinds 63 = .ok (.iinc 3 1, 3) := by decide +kernel
theorem dX6_kinds_66 : decode cX6_kinds 66 = .ok (.goto (-49), 3) := by decide +kernel
theorem dX6_kinds_69 : decode cX6_kinds 69 = .ok (.iload_n 2, 1) := by decide +kernel
theorem dX6_kinds_70 : decode cX6_kinds 70 = .ok (.ireturn, 1) := by decide +kernel
theorem dX6_ask_0 : decode cX6_ask 0 = .ok (.aload_n 0, 1) := by decide +kernel
theorem dX6_ask_1 : decode cX6_ask 1 = .ok (.getfield 28, 3) := by decide +kernel
theorem dX6_ask_4 : decode cX6_ask 4 = .ok (.iload_n 1, 1) := by decide +kernel
theorem dX6_ask_5 : decode cX6_ask 5 = .ok (.invokevirtual 141, 3) := by decide +kernel
theorem dX6_ask_8 : decode cX6_ask 8 = .ok (.ifCond .eq 12, 3) := by decide +kernel
theorem dX6_ask_11 : decode cX6_ask 11 = .ok (.iload_n 2, 1) := by decide +kernel
theorem dX6_ask_12 : decode cX6_ask 12 = .ok (.iconst 0, 1) := by decide +kernel
theorem dX6_ask_13 : decode cX6_ask 13 = .ok (.iconst 1, 1) := by decide +kernel
theorem dX6_ask_14 : decode cX6_ask 14 = .ok (.invokestatic 68, 3) := by decide +kernel
theorem dX6_ask_17 : decode cX6_ask 17 = .ok (.ifCond .ne 5, 3) := by decide +kernel
theorem dX6_ask_20 : decode cX6_ask 20 = .ok (.iconst (-1), 1) := by decide +kernel
theorem dX6_ask_21 : decode cX6_ask 21 = .ok (.ireturn, 1) := by decide +kernel
theorem dX6_ask_22 : decode cX6_ask 22 = .ok (.aload_n 0, 1) := by decide +kernel
theorem dX6_ask_23 : decode cX6_ask 23 = .ok (.iload_n 1, 1) := by decide +kernel
theorem dX6_ask_24 : decode cX6_ask 24 = .ok (.invokevirtual 213, 3) := by decide +kernel
theorem dX6_ask_27 : decode cX6_ask 27 = .ok (.istore_n 3, 1) := by decide +kernel
theorem dX6_ask_28 : decode cX6_ask 28 = .ok (.iconst 0, 1) := by decide +kernel
theorem dX6_ask_29 : decode cX6_ask 29 = .ok (.istore 4, 2) := by decide +kernel
theorem dX6_ask_31 : decode cX6_ask 31 = .ok (.iload 4, 2) := by decide +kernel
theorem dX6_ask_33 : decode cX6_ask 33 = .ok (.aload_n 0, 1) := by decide +kernel
theorem dX6_ask_34 : decode cX6_ask 34 = .ok (.getfield 28, 3) := by decide +kernel
theorem dX6_ask_37 : decode cX6_ask 37 = .ok (.getfield 106, 3) := by decide +kernel
theorem dX6_ask_40 : decode cX6_ask 40 = .ok (.if_icmp .ge 37, 3) := by decide +kernel
theorem dX6_ask_43 : decode cX6_ask 43 = .ok (.aload_n 0, 1) := by decide +kernel
theorem dX6_ask_44 : decode cX6_ask 44 = .ok (.getfield 42, 3) := by decide +kernel
theorem dX6_ask_47 : decode cX6_ask 47 = .ok (.iload 4, 2) := by decide +kernel
theorem dX6_ask_49 : decode cX6_ask 49 = .ok (.aaload, 1) := by decide +kernel
theorem dX6_ask_50 : decode cX6_ask 50 = .ok (.aload_n 0, 1) := by decide +kernel
theorem dX6_ask_51 : decode cX6_ask 51 = .ok (.getfield 28, 3) := by decide +kernel
theorem dX6_ask_54 : decode cX6_ask 54 = .ok (.invokevirtual 89, 3) := by decide +kernel
theorem dX6_ask_57 : decode cX6_ask 57 = .ok (.aload_n 0, 1) := by decide +kernel
theorem dX6_ask_58 : decode cX6_ask 58 = .ok (.getfield 42, 3) := by decide +kernel
theorem dX6_ask_61 : decode cX6_ask 61 = .ok (.iload 4, 2) := by decide +kernel
theorem dX6_ask_63 : decode cX6_ask 63 = .ok (.aaload, 1) := by decide +kernel
theorem dX6_ask_64 : decode cX6_ask 64 = .ok (.getfield 150, 3) := by decide +kernel
theorem dX6_ask_67 : decode cX6_ask 67 = .ok (.iload_n 1, 1) := by decide +kernel
theorem dX6_ask_68 : decode cX6_ask 68 = .ok (.iload 4, 2) := by decide +kernel
theorem dX6_ask_70 : decode cX6_ask 70 = .ok (.iastore, 1) := by decide +kernel
theorem dX6_ask_71 : decode cX6_ask 71 = .ok (.iinc 4 1, 3) := by decide +kernel
theorem dX6_ask_74 : decode cX6_ask 74 = .ok (.goto (-43), 3) := by decide +kernel
theorem dX6_ask_77 : decode cX6_ask 77 = .ok (.bipush (-4), 2) := by decide +kernel
theorem dX6_ask_79 : decode cX6_ask 79 = .ok (.istore 4, 2) := by decide +kernel
theorem dX6_ask_81 : decode cX6_ask 81 = .ok (.iload_n 3, 1) := by decide +kernel
theorem dX6_ask_82 : decode cX6_ask 82 = .ok (.invokestatic 220, 3) := by decide +kernel
theorem dX6_ask_85 : decode cX6_ask 85 = .ok (.istore 5, 2) := by decide +kernel
theorem dX6_ask_87 : decode cX6_ask 87 = .ok (.iconst 0, 1) := by decide +kernel
theorem dX6_ask_88 : decode cX6_ask 88 = .ok (.istore 6, 2) := by decide +kernel
theorem dX6_ask_90 : decode cX6_ask 90 = .ok (.iload 6, 2) := by decide +kernel
theorem dX6_ask_92 : decode cX6_ask 92 = .ok (.bipush 20, 2) := by decide +kernel
theorem dX6_ask_94 : decode cX6_ask 94 = .ok (.if_icmp .gt 101, 3) := by decide +kernel
theorem dX6_ask_97 : decode cX6_ask 97 = .ok (.iconst 0, 1) := by decide +kernel
theorem dX6_ask_98 : decode cX6_ask 98 = .ok (.istore 7, 2) := by decide +kernel
theorem dX6_ask_100 : decode cX6_ask 100 = .ok (.iload 7, 2) := by decide +kernel
theorem dX6_ask_102 : decode cX6_ask 102 = .ok (.aload_n 0, 1) := by decide +kernel
theorem dX6_ask_103 : decode cX6_ask 103 = .ok (.getfield 28, 3) := by decide +kernel
theorem dX6_ask_106 : decode cX6_ask 106 = .ok (.getfield 106, 3) := by decide +kernel
theorem dX6_ask_109 : decode cX6_ask 109 = .ok (.if_icmp .ge 39, 3) := by decide +kernel
theorem dX6_ask_112 : decode cX6_ask 112 = .ok (.aload_n 0, 1) := by decide +kernel
theorem dX6_ask_113 : decode cX6_ask 113 = .ok (.iload 7, 2) := by decide +kernel
theorem dX6_ask_115 : decode cX6_ask 115 = .ok (.iload_n 3, 1) := by decide +kernel
theorem dX6_ask_116 : decode cX6_ask 116 = .ok (.invokevirtual 225, 3) := by decide +kernel
theorem dX6_ask_119 : decode cX6_ask 119 = .ok (.istore 8, 2) := by decide +kernel
theorem dX6_ask_121 : decode cX6_ask 121 = .ok (.iload 8, 2) := by decide +kernel
theorem dX6_ask_123 : decode cX6_ask 123 = .ok (.iload 5, 2) := by decide +kernel
theorem dX6_ask_125 : decode cX6_ask 125 = .ok (.if_icmp .ge 17, 3) := by decide +kernel
theorem dX6_ask_128 : decode cX6_ask 128 = .ok (.bipush 10, 2) := by decide +kernel
theorem dX6_ask_130 : decode cX6_ask 130 = .ok (.iload 6, 2) := by decide +kernel
theorem dX6_ask_132 : decode cX6_ask 132 = .ok (.imul, 1) := by decide +kernel
theorem dX6_ask_133 : decode cX6_ask 133 = .ok (.iload 7, 2) := by decide +kernel
theorem dX6_ask_135 : decode cX6_ask 135 = .ok (.iadd, 1) := by decide +kernel
theorem dX6_ask_136 : decode cX6_ask 136 = .ok (.istore 4, 2) := by decide +kernel
theorem dX6_ask_138 : decode cX6_ask 138 = .ok (.iload 8, 2) := by decide +kernel
theorem dX6_ask_140 : decode cX6_ask 140 = .ok (.istore 5, 2) := by decide +kernel
theorem dX6_ask_142 : decode cX6_ask 142 = .ok (.iinc 7 1, 3) := by decide +kernel
theorem dX6_ask_145 : decode cX6_ask 145 = .ok (.goto (-45), 3) := by decide +kernel
theorem dX6_ask_148 : decode cX6_ask 148 = .ok (.iconst 0, 1) := by decide +kernel
theorem dX6_ask_149 : decode cX6_ask 149 = .ok (.istore 7, 2) := by decide +kernel
theorem dX6_ask_151 : decode cX6_ask 151 = .ok (.iload 7, 2) := by decide +kernel
theorem dX6_ask_153 : decode cX6_ask 153 = .ok (.aload_n 0, 1) := by decide +kernel
theorem dX6_ask_154 : decode cX6_ask 154 = .ok (.getfield 28, 3) := by decide +kernel
theorem dX6_ask_157 : decode cX6_ask 157 = .ok (.getfield 106, 3) := by decide +kernel
theorem dX6_ask_160 : decode cX6_ask 160 = .ok (.if_icmp .ge 29, 3) := by decide +kernel
theorem dX6_ask_163 : decode cX6_ask 163 = .ok (.aload_n 0, 1) := by decide +kernel
theorem dX6_ask_164 : decode cX6_ask 164 = .ok (.getfield 42, 3) := by decide +kernel
theorem dX6_ask_167 : decode cX6_ask 167 = .ok (.iload 7, 2) := by decide +kernel
theorem dX6_ask_169 : decode cX6_ask 169 = .ok (.aaload, 1) := by decide +kernel
theorem dX6_ask_170 : decode cX6_ask 170 = .ok (.aload_n 0, 1) := by decide +kernel
theorem dX6_ask_171 : decode cX6_ask 171 = .ok (.getfield 42, 3) := by decide +kernel
theorem dX6_ask_174 : decode cX6_ask 174 = .ok (.iload 7, 2) := by decide +kernel
theorem dX6_ask_176 : decode cX6_ask 176 = .ok (.aaload, 1) := by decide +kernel
theorem dX6_ask_177 : decode cX6_ask 177 = .ok (.invokevirtual 228, 3) := by decide +kernel
theorem dX6_ask_180 : decode cX6_ask 180 = .ok (.invokevirtual 231, 3) := by decide +kernel
theorem dX6_ask_183 : decode cX6_ask 183 = .ok (.iinc 7 1, 3) := by decide +kernel
theorem dX6_ask_186 : decode cX6_ask 186 = .ok (.goto (-35), 3) := by decide +kernel
theorem dX6_ask_189 : decode cX6_ask 189 = .ok (.iinc 6 1, 3) := by decide +kernel
theorem dX6_ask_192 : decode cX6_ask 192 = .ok (.goto (-102), 3) := by decide +kernel
theorem dX6_ask_195 : decode cX6_ask 195 = .ok (.iload_n 2, 1) := by decide +kernel
theorem dX6_ask_196 : decode cX6_ask 196 = .ok (.ifCond .eq 10, 3) := by decide +kernel
theorem dX6_ask_199 : decode cX6_ask 199 = .ok (.iload 4, 2) := by decide +kernel
theorem dX6_ask_201 : decode cX6_ask 201 = .ok (.bipush (-4), 2) := by decide +kernel
theorem dX6_ask_203 : decode cX6_ask 203 = .ok (.if_icmp .ne 8, 3) := by decide +kernel
theorem dX6_ask_206 : decode cX6_ask 206 = .ok (.iload 4, 2) := by decide +kernel
theorem dX6_ask_208 : decode cX6_ask 208 = .ok (.goto 5, 3) := by decide +kernel
theorem dX6_ask_211 : decode cX6_ask 211 = .ok (.iload 5, 2) := by decide +kernel
theorem dX6_ask_213 : decode cX6_ask 213 = .ok (.ireturn, 1) := by decide +kernel
theorem dX6_drift_0 : decode cX6_drift 0 = .ok (.iload_n 2, 1) := by decide +kernel
theorem dX6_drift_1 : decode cX6_drift 1 = .ok (.iconst 1, 1) := by decide +kernel
theorem dX6_drift_2 : decode cX6_drift 2 = .ok (.bipush 60, 2) := by decide +kernel
theorem dX6_drift_4 : decode cX6_drift 4 = .ok (.invokestatic 68, 3) := by decide +kernel
theorem dX6_drift_7 : decode cX6_drift 7 = .ok (.ifCond .eq 12, 3) := by decide +kernel
theorem dX6_drift_10 : decode cX6_drift 10 = .ok (.iload_n 3, 1) := by decide +kernel
theorem dX6_drift_11 : decode cX6_drift 11 = .ok (.iconst 0, 1) := by decide +kernel
theorem dX6_drift_12 : decode cX6_drift 12 = .ok (.iconst 1, 1) := by decide +kernel
theorem dX6_drift_13 : decode cX6_drift 13 = .ok (.invokestatic 68, 3) := by decide +kernel
theorem dX6_drift_16 : decode cX6_drift 16 = .ok (.ifCond .ne 5, 3) := by decide +kernel
theorem dX6_drift_19 : decode cX6_drift 19 = .ok (.iconst (-1), 1) := by decide +kernel
theorem dX6_drift_20 : decode cX6_drift 20 = .ok (.ireturn, 1) := by decide +kernel
theorem dX6_drift_21 : decode cX6_drift 21 = .ok (.aload_n 0, 1) := by decide +kernel
theorem dX6_drift_22 : decode cX6_drift 22 = .ok (.getfield 28, 3) := by decide +kernel
theorem dX6_drift_25 : decode cX6_drift 25 = .ok (.getfield 109, 3) := by decide +kernel
theorem dX6_drift_28 : decode cX6_drift 28 = .ok (.ifCond .ne 6, 3) := by decide +kernel
theorem dX6_drift_31 : decode cX6_drift 31 = .ok (.bipush (-2), 2) := by decide +kernel
theorem dX6_drift_33 : decode cX6_drift 33 = .ok (.ireturn, 1) := by decide +kernel
theorem dX6_drift_34 : decode cX6_drift 34 = .ok (.aload_n 0, 1) := by decide +kernel
theorem dX6_drift_35 : decode cX6_drift 35 = .ok (.getfield 39, 3) := by decide +kernel
theorem dX6_drift_38 : decode cX6_drift 38 = .ok (.aload_n 0, 1) := by decide +kernel
theorem dX6_drift_39 : decode cX6_drift 39 = .ok (.getfield 28, 3) := by decide +kernel
theorem dX6_drift_42 : decode cX6_drift 42 = .ok (.invokevirtual 89, 3) := by decide +kernel
theorem dX6_drift_45 : decode cX6_drift 45 = .ok (.iload_n 1, 1) := by decide +kernel
theorem dX6_drift_46 : decode cX6_drift 46 = .ok (.istore 4, 2) := by decide +kernel
theorem dX6_drift_48 : decode cX6_drift 48 = .ok (.iconst 0, 1) := by decide +kernel
theorem dX6_drift_49 : decode cX6_drift 49 = .ok (.istore 5, 2) := by decide +kernel
theorem dX6_drift_51 : decode cX6_drift 51 = .ok (.iload 5, 2) := by decide +kernel
theorem dX6_drift_53 : decode cX6_drift 53 = .ok (.iload_n 2, 1) := by decide +kernel
theorem dX6_drift_54 : decode cX6_drift 54 = .ok (.if_icmp .ge 39, 3) := by decide +kernel
theorem dX6_drift_57 : decode cX6_drift 57 = .ok (.iload 4, 2) := by decide +kernel
theorem dX6_drift_59 : decode cX6_drift 59 = .ok (.ldc 234, 2) := by decide +kernel
theorem dX6_drift_61 : decode cX6_drift 61 = .ok (.imul, 1) := by decide +kernel
theorem dX6_drift_62 : decode cX6_drift 62 = .ok (.sipush 12345, 3) := by decide +kernel
theorem dX6_drift_65 : decode cX6_drift 65 = .ok (.iadd, 1) := by decide +kernel
theorem dX6_drift_66 : decode cX6_drift 66 = .ok (.istore 4, 2) := by decide +kernel
theorem dX6_drift_68 : decode cX6_drift 68 = .ok (.aload_n 0, 1) := by decide +kernel
theorem dX6_drift_69 : decode cX6_drift 69 = .ok (.getfield 39, 3) := by decide +kernel
theorem dX6_drift_72 : decode cX6_drift 72 = .ok (.iload 4, 2) := by decide +kernel
theorem dX6_drift_74 : decode cX6_drift 74 = .ok (.bipush 16, 2) := by decide +kernel
theorem dX6_drift_76 : decode cX6_drift 76 = .ok (.iushr, 1) := by decide +kernel
theorem dX6_drift_77 : decode cX6_drift 77 = .ok (.sipush 32767, 3) := by decide +kernel
theorem dX6_drift_80 : decode cX6_drift 80 = .ok (.iand, 1) := by decide +kernel
theorem dX6_drift_81 : decode cX6_drift 81 = .ok (.bipush 10, 2) := by decide +kernel
theorem dX6_drift_83 : decode cX6_drift 83 = .ok (.irem, 1) := by decide +kernel
theorem dX6_drift_84 : decode cX6_drift 84 = .ok (.invokevirtual 231, 3) := by decide +kernel
theorem dX6_drift_87 : decode cX6_drift 87 = .ok (.iinc 5 1, 3) := by decide +kernel
theorem dX6_drift_90 : decode cX6_drift 90 = .ok (.goto (-39), 3) := by decide +kernel
theorem dX6_drift_93 : decode cX6_drift 93 = .ok (.iload_n 3, 1) := by decide +kernel
theorem dX6_drift_94 : decode cX6_drift 94 = .ok (.ifCond .ne 13, 3) := by decide +kernel
theorem dX6_drift_97 : decode cX6_drift 97 = .ok (.aload_n 0, 1) := by decide +kernel
theorem dX6_drift_98 : decode cX6_drift 98 = .ok (.getfield 39, 3) := by decide +kernel
theorem dX6_drift_101 : decode cX6_drift 101 = .ok (.getfield 182, 3) := by decide +kernel
theorem dX6_drift_104 : decode cX6_drift 104 = .ok (.goto 10, 3) := by decide +kernel
theorem dX6_drift_107 : decode cX6_drift 107 = .ok (.aload_n 0, 1) := by decide +kernel
theorem dX6_drift_108 : decode cX6_drift 108 = .ok (.getfield 39, 3) := by decide +kernel
theorem dX6_drift_111 : decode cX6_drift 111 = .ok (.invokevirtual 119, 3) := by decide +kernel
theorem dX6_drift_114 : decode cX6_drift 114 = .ok (.ireturn, 1) := by decide +kernel
theorem dX6_keep_0 : decode cX6_keep 0 = .ok (.iload_n 1, 1) := by decide +kernel
theorem dX6_keep_1 : decode cX6_keep 1 = .ok (.iconst 0, 1) := by decide +kernel
theorem dX6_keep_2 : decode cX6_keep 2 = .ok (.iconst 1, 1) := by decide +kernel
theorem dX6_keep_3 : decode cX6_keep 3 = .ok (.invokestatic 68, 3) := by decide +kernel
theorem dX6_keep_6 : decode cX6_keep 6 = .ok (.ifCond .ne 5, 3) := by decide +kernel
theorem dX6_keep_9 : decode cX6_keep 9 = .ok (.iconst (-1), 1) := by decide +kernel
theorem dX6_keep_10 : decode cX6_keep 10 = .ok (.ireturn, 1) := by decide +kernel
theorem dX6_keep_11 : decode cX6_keep 11 = .ok (.aload_n 0, 1) := by decide +kernel
theorem dX6_keep_12 : decode cX6_keep 12 = .ok (.getfield 52, 3) := by decide +kernel
theorem dX6_keep_15 : decode cX6_keep 15 = .ok (.iload_n 1, 1) := by decide +kernel
theorem dX6_keep_16 : decode cX6_keep 16 = .ok (.aaload, 1) := by decide +kernel
theorem dX6_keep_17 : decode cX6_keep 17 = .ok (.getfield 96, 3) := by decide +kernel
theorem dX6_keep_20 : decode cX6_keep 20 = .ok (.ifCond .eq 7, 3) := by decide +kernel
theorem dX6_keep_23 : decode cX6_keep 23 = .ok (.iconst 1, 1) := by decide +kernel
theorem dX6_keep_24 : decode cX6_keep 24 = .ok (.goto 4, 3) := by decide +kernel
theorem dX6_keep_27 : decode cX6_keep 27 = .ok (.iconst 0, 1) := by decide +kernel
theorem dX6_keep_28 : decode cX6_keep 28 = .ok (.istore_n 2, 1) := by decide +kernel
theorem dX6_keep_29 : decode cX6_keep 29 = .ok (.aload_n 0, 1) := by decide +kernel
theorem dX6_keep_30 : decode cX6_keep 30 = .ok (.getfield 52, 3) := by decide +kernel
theorem dX6_keep_33 : decode cX6_keep 33 = .ok (.iload_n 1, 1) := by decide +kernel
theorem dX6_keep_34 : decode cX6_keep 34 = .ok (.aaload, 1) := by decide +kernel
theorem dX6_keep_35 : decode cX6_keep 35 = .ok (.getfield 235, 3) := by decide +kernel
theorem dX6_keep_38 : decode cX6_keep 38 = .ok (.aload_n 0, 1) := by decide +kernel
theorem dX6_keep_39 : decode cX6_keep 39 = .ok (.getfield 28, 3) := by decide +kernel
theorem dX6_keep_42 : decode cX6_keep 42 = .ok (.invokevirtual 89, 3) := by decide +kernel
theorem dX6_keep_45 : decode cX6_keep 45 = .ok (.aload_n 0, 1) := by decide +kernel
theorem dX6_keep_46 : decode cX6_keep 46 = .ok (.getfield 52, 3) := by decide +kernel
theorem dX6_keep_49 : decode cX6_keep 49 = .ok (.iload_n 1, 1) := by decide +kernel
theorem dX6_keep_50 : decode cX6_keep 50 = .ok (.aaload, 1) := by decide +kernel
theorem dX6_keep_51 : decode cX6_keep 51 = .ok (.getfield 238, 3) := by decide +kernel
theorem dX6_keep_54 : decode cX6_keep 54 = .ok (.aload_n 0, 1) := by decide +kernel
theorem dX6_keep_55 : decode cX6_keep 55 = .ok (.getfield 35, 3) := by decide +kernel
theorem dX6_keep_58 : decode cX6_keep 58 = .ok (.invokevirtual 239, 3) := by decide +kernel
theorem dX6_keep_61 : decode cX6_keep 61 = .ok (.aload_n 0, 1) := by decide +kernel
theorem dX6_keep_62 : decode cX6_keep 62 = .ok (.getfield 52, 3) := by decide +kernel
theorem dX6_keep_65 : decode cX6_keep 65 = .ok (.iload_n 1, 1) := by decide +kernel
theorem dX6_keep_66 : decode cX6_keep 66 = .ok (.aaload, 1) := by decide +kernel
theorem dX6_keep_67 : decode cX6_keep 67 = .ok (.iconst 1, 1) := by decide +kernel
theorem dX6_keep_68 : decode cX6_keep 68 = .ok (.putfield 96, 3) := by decide +kernel
theorem dX6_keep_71 : decode cX6_keep 71 = .ok (.iload_n 2, 1) := by decide +kernel
theorem dX6_keep_72 : decode cX6_keep 72 = .ok (.ireturn, 1) := by decide +kernel
theorem dX6_back_0 : decode cX6_back 0 = .ok (.iload_n 1, 1) := by decide +kernel
theorem dX6_back_1 : decode cX6_back 1 = .ok (.iconst 0, 1) := by decide +kernel
theorem dX6_back_2 : decode cX6_back 2 = .ok (.iconst 1, 1) := by decide +kernel
theorem dX6_back_3 : decode cX6_back 3 = .ok (.invokestatic 68, 3) := by decide +kernel
theorem dX6_back_6 : decode cX6_back 6 = .ok (.ifCond .ne 5, 3) := by decide +kernel
theorem dX6_back_9 : decode cX6_back 9 = .ok (.iconst (-1), 1) := by decide +kernel
theorem dX6_back_10 : decode cX6_back 10 = .ok (.ireturn, 1) := by decide +kernel
theorem dX6_back_11 : decode cX6_back 11 = .ok (.aload_n 0, 1) := by decide +kernel
theorem dX6_back_12 : decode cX6_back 12 = .ok (.getfield 52, 3) := by decide +kernel
theorem dX6_back_15 : decode cX6_back 15 = .ok (.iload_n 1, 1) := by decide +kernel
theorem dX6_back_16 : decode cX6_back 16 = .ok (.aaload, 1) := by decide +kernel
theorem dX6_back_17 : decode cX6_back 17 = .ok (.getfield 96, 3) := by decide +kernel
theorem dX6_back_20 : decode cX6_back 20 = .ok (.ifCond .ne 6, 3) := by decide +kernel
theorem dX6_back_23 : decode cX6_back 23 = .ok (.bipush (-2), 2) := by decide +kernel
theorem dX6_back_25 : decode cX6_back 25 = .ok (.ireturn, 1) := by decide +kernel
theorem dX6_back_26 : decode cX6_back 26 = .ok (.aload_n 0, 1) := by decide +kernel
theorem dX6_back_27 : decode cX6_back 27 = .ok (.getfield 28, 3) := by decide +kernel
theorem dX6_back_30 : decode cX6_back 30 = .ok (.aload_n 0, 1) := by decide +kernel
theorem dX6_back_31 : decode cX6_back 31 = .ok (.getfield 52, 3) := by decide +kernel
theorem dX6_back_34 : decode cX6_back 34 = .ok (.iload_n 1, 1) := by decide +kernel
theorem dX6_back_35 : decode cX6_back 35 = .ok (.aaload, 1) := by decide +kernel
theorem dX6_back_36 : decode cX6_back 36 = .ok (.getfield 235, 3) := by decide +kernel
theorem dX6_back_39 : decode cX6_back 39 = .ok (.invokevirtual 89, 3) := by decide +kernel
theorem dX6_back_42 : decode cX6_back 42 = .ok (.aload_n 0, 1) := by decide +kernel
theorem dX6_back_43 : decode cX6_back 43 = .ok (.getfield 35, 3) := by decide +kernel
theorem dX6_back_46 : decode cX6_back 46 = .ok (.aload_n 0, 1) := by decide +kernel
theorem dX6_back_47 : decode cX6_back 47 = .ok (.getfield 52, 3) := by decide +kernel
theorem dX6_back_50 : decode cX6_back 50 = .ok (.iload_n 1, 1) := by decide +kernel
theorem dX6_back_51 : decode cX6_back 51 = .ok (.aaload, 1) := by decide +kernel
theorem dX6_back_52 : decode cX6_back 52 = .ok (.getfield 238, 3) := by decide +kernel
theorem dX6_back_55 : decode cX6_back 55 = .ok (.invokevirtual 239, 3) := by decide +kernel
theorem dX6_back_58 : decode cX6_back 58 = .ok (.aload_n 0, 1) := by decide +kernel
theorem dX6_back_59 : decode cX6_back 59 = .ok (.getfield 28, 3) := by decide +kernel
theorem dX6_back_62 : decode cX6_back 62 = .ok (.getfield 112, 3) := by decide +kernel
theorem dX6_back_65 : decode cX6_back 65 = .ok (.ireturn, 1) := by decide +kernel
theorem dX6_sheet_0 : decode cX6_sheet 0 = .ok (.iload_n 1, 1) := by decide +kernel
theorem dX6_sheet_1 : decode cX6_sheet 1 = .ok (.iconst 0, 1) := by decide +kernel
theorem dX6_sheet_2 : decode cX6_sheet 2 = .ok (.iconst 3, 1) := by decide +kernel
theorem dX6_sheet_3 : decode cX6_sheet 3 = .ok (.invokestatic 68, 3) := by decide +kernel
theorem dX6_sheet_6 : decode cX6_sheet 6 = .ok (.ifCond .eq 18, 3) := by decide +kernel
theorem dX6_sheet_9 : decode cX6_sheet 9 = .ok (.iload_n 2, 1) := by decide +kernel
theorem dX6_sheet_10 : decode cX6_sheet 10 = .ok (.iconst 0, 1) := by decide +kernel
theorem dX6_sheet_11 : decode cX6_sheet 11 = .ok (.iconst 2, 1) := by decide +kernel
theorem dX6_sheet_12 : decode cX6_sheet 12 = .ok (.invokestatic 68, 3) := by decide +kernel
theorem dX6_sheet_15 : decode cX6_sheet 15 = .ok (.ifCond .eq 9, 3) := by decide +kernel
theorem dX6_sheet_18 : decode cX6_sheet 18 = .ok (.iload_n 3, 1) := by decide +kernel
theorem dX6_sheet_19 : decode cX6_sheet 19 = .ok (.bipush 40, 2) := by decide +kernel
theorem dX6_sheet_21 : decode cX6_sheet 21 = .ok (.if_icmp .le 5, 3) := by decide +kernel
theorem dX6_sheet_24 : decode cX6_sheet 24 = .ok (.iconst (-1), 1) := by decide +kernel
theorem dX6_sheet_25 : decode cX6_sheet 25 = .ok (.ireturn, 1) := by decide +kernel
theorem dX6_sheet_26 : decode cX6_sheet 26 = .ok (.iload_n 3, 1) := by decide +kernel
theorem dX6_sheet_27 : decode cX6_sheet 27 = .ok (.ifCond .ge 6, 3) := by decide +kernel
theorem dX6_sheet_30 : decode cX6_sheet 30 = .ok (.bipush (-14), 2) := by decide +kernel
theorem dX6_sheet_32 : decode cX6_sheet 32 = .ok (.ireturn, 1) := by decide +kernel
theorem dX6_sheet_33 : decode cX6_sheet 33 = .ok (.aload_n 0, 1) := by decide +kernel
theorem dX6_sheet_34 : decode cX6_sheet 34 = .ok (.getfield 58, 3) := by decide +kernel
theorem dX6_sheet_37 : decode cX6_sheet 37 = .ok (.iload_n 1, 1) := by decide +kernel
theorem dX6_sheet_38 : decode cX6_sheet 38 = .ok (.aaload, 1) := by decide +kernel
theorem dX6_sheet_39 : decode cX6_sheet 39 = .ok (.iload_n 2, 1) := by decide +kernel
theorem dX6_sheet_40 : decode cX6_sheet 40 = .ok (.iload_n 3, 1) := by decide +kernel
theorem dX6_sheet_41 : decode cX6_sheet 41 = .ok (.invokevirtual 242, 3) := by decide +kernel
theorem dX6_sheet_44 : decode cX6_sheet 44 = .ok (.iconst 1, 1) := by decide +kernel
theorem dX6_sheet_45 : decode cX6_sheet 45 = .ok (.ireturn, 1) := by decide +kernel
theorem dX6_lay_0 : decode cX6_lay 0 = .ok (.iload_n 1, 1) := by decide +kernel
theorem dX6_lay_1 : decode cX6_lay 1 = .ok (.iconst 0, 1) := by decide +kernel
theorem dX6_lay_2 : decode cX6_lay 2 = .ok (.iconst 3, 1) := by decide +kernel
theorem dX6_lay_3 : decode cX6_lay 3 = .ok (.invokestatic 68, 3) := by decide +kernel
theorem dX6_lay_6 : decode cX6_lay 6 = .ok (.ifCond .ne 5, 3) := by decide +kernel
theorem dX6_lay_9 : decode cX6_lay 9 = .ok (.iconst (-1), 1) := by decide +kernel
theorem dX6_lay_10 : decode cX6_lay 10 = .ok (.ireturn, 1) := by decide +kernel
theorem dX6_lay_11 : decode cX6_lay 11 = .ok (.aload_n 0, 1) := by decide +kernel
theorem dX6_lay_12 : decode cX6_lay 12 = .ok (.getfield 58, 3) := by decide +kernel
theorem dX6_lay_15 : decode cX6_lay 15 = .ok (.iload_n 1, 1) := by decide +kernel
theorem dX6_lay_16 : decode cX6_lay 16 = .ok (.aaload, 1) := by decide +kernel
theorem dX6_lay_17 : decode cX6_lay 17 = .ok (.aload_n 0, 1) := by decide +kernel
theorem dX6_lay_18 : decode cX6_lay 18 = .ok (.getfield 58, 3) := by decide +kernel
theorem dX6_lay_21 : decode cX6_lay 21 = .ok (.iload_n 1, 1) := by decide +kernel
theorem dX6_lay_22 : decode cX6_lay 22 = .ok (.aaload, 1) := by decide +kernel
theorem dX6_lay_23 : decode cX6_lay 23 = .ok (.getfield 245, 3) := by decide +kernel
theorem dX6_lay_26 : decode cX6_lay 26 = .ok (.iload_n 2, 1) := by decide +kernel
theorem dX6_lay_27 : decode cX6_lay 27 = .ok (.invokevirtual 248, 3) := by decide +kernel
theorem dX6_lay_30 : decode cX6_lay 30 = .ok (.istore 4, 2) := by decide +kernel
theorem dX6_lay_32 : decode cX6_lay 32 = .ok (.iload 4, 2) := by decide +kernel
theorem dX6_lay_34 : decode cX6_lay 34 = .ok (.ifCond .eq 9, 3) := by decide +kernel
theorem dX6_lay_37 : decode cX6_lay 37 = .ok (.bipush (-10), 2) := by decide +kernel
theorem dX6_lay_39 : decode cX6_lay 39 = .ok (.iload 4, 2) := by decide +kernel
theorem dX6_lay_41 : decode cX6_lay 41 = .ok (.isub, 1) := by decide +kernel
theorem dX6_lay_42 : decode cX6_lay 42 = .ok (.ireturn, 1) := by decide +kernel
theorem dX6_lay_43 : decode cX6_lay 43 = .ok (.aload_n 0, 1) := by decide +kernel
theorem dX6_lay_44 : decode cX6_lay 44 = .ok (.getfield 58, 3) := by decide +kernel
theorem dX6_lay_47 : decode cX6_lay 47 = .ok (.iload_n 1, 1) := by decide +kernel
theorem dX6_lay_48 : decode cX6_lay 48 = .ok (.aaload, 1) := by decide +kernel
theorem dX6_lay_49 : decode cX6_lay 49 = .ok (.iload_n 2, 1) := by decide +kernel
theorem dX6_lay_50 : decode cX6_lay 50 = .ok (.iload_n 3, 1) := by decide +kernel
theorem dX6_lay_51 : decode cX6_lay 51 = .ok (.invokevirtual 250, 3) := by decide +kernel
theorem dX6_lay_54 : decode cX6_lay 54 = .ok (.iconst 1, 1) := by decide +kernel
theorem dX6_lay_55 : decode cX6_lay 55 = .ok (.ireturn, 1) := by decide +kernel
theorem dX6_read_0 : decode cX6_read 0 = .ok (.iload_n 1, 1) := by decide +kernel
theorem dX6_read_1 : decode cX6_read 1 = .ok (.iconst 0, 1) := by decide +kernel
theorem dX6_read_2 : decode cX6_read 2 = .ok (.iconst 3, 1) := by decide +kernel
theorem dX6_read_3 : decode cX6_read 3 = .ok (.invokestatic 68, 3) := by decide +kernel
theorem dX6_read_6 : decode cX6_read 6 = .ok (.ifCond .eq 12, 3) := by decide +kernel
theorem dX6_read_9 : decode cX6_read 9 = .ok (.iload_n 2, 1) := by decide +kernel
theorem dX6_read_10 : decode cX6_read 10 = .ok (.iconst 0, 1) := by decide +kernel
theorem dX6_read_11 : decode cX6_read 11 = .ok (.iconst 2, 1) := by decide +kernel
theorem dX6_read_12 : decode cX6_read 12 = .ok (.invokestatic 68, 3) := by decide +kernel
theorem dX6_read_15 : decode cX6_read 15 = .ok (.ifCond .ne 5, 3) := by decide +kernel
theorem dX6_read_18 : decode cX6_read 18 = .ok (.iconst (-1), 1) := by decide +kernel
theorem dX6_read_19 : decode cX6_read 19 = .ok (.ireturn, 1) := by decide +kernel
theorem dX6_read_20 : decode cX6_read 20 = .ok (.iload 4, 2) := by decide +kernel
theorem dX6_read_22 : decode cX6_read 22 = .ok (.iconst 0, 1) := by decide +kernel
theorem dX6_read_23 : decode cX6_read 23 = .ok (.bipush 13, 2) := by decide +kernel
theorem dX6_read_25 : decode cX6_read 25 = .ok (.invokestatic 68, 3) := by decide +kernel
theorem dX6_read_28 : decode cX6_read 28 = .ok (.ifCond .ne 5, 3) := by decide +kernel
theorem dX6_read_31 : decode cX6_read 31 = .ok (.iconst (-1), 1) := by decide +kernel
theorem dX6_read_32 : decode cX6_read 32 = .ok (.ireturn, 1) := by decide +kernel
theorem dX6_read_33 : decode cX6_read 33 = .ok (.aload_n 0, 1) := by decide +kernel
theorem dX6_read_34 : decode cX6_read 34 = .ok (.getfield 39, 3) := by decide +kernel
theorem dX6_read_37 : decode cX6_read 37 = .ok (.aload_n 0, 1) := by decide +kernel
theorem dX6_read_38 : decode cX6_read 38 = .ok (.getfield 28, 3) := by decide +kernel
theorem dX6_read_41 : decode cX6_read 41 = .ok (.invokevirtual 89, 3) := by decide +kernel
theorem dX6_read_44 : decode cX6_read 44 = .ok (.iconst 0, 1) := by decide +kernel
theorem dX6_read_45 : decode cX6_read 45 = .ok (.istore 5, 2) := by decide +kernel
theorem dX6_read_47 : decode cX6_read 47 = .ok (.iconst 0, 1) := by decide +kernel
theorem dX6_read_48 : decode cX6_read 48 = .ok (.istore 6, 2) := by decide +kernel
theorem dX6_read_50 : decode cX6_read 50 = .ok (.iconst 0, 1) := by decide +kernel
theorem dX6_read_51 : decode cX6_read 51 = .ok (.istore 7, 2) := by decide +kernel
theorem dX6_read_53 : decode cX6_read 53 = .ok (.iload 7, 2) := by decide +kernel
theorem dX6_read_55 : decode cX6_read 55 = .ok (.iload 4, 2) := by decide +kernel
theorem dX6_read_57 : decode cX6_read 57 = .ok (.if_icmp .ge 66, 3) := by decide +kernel
theorem dX6_read_60 : decode cX6_read 60 = .ok (.iload 6, 2) := by decide +kernel
theorem dX6_read_62 : decode cX6_read 62 = .ok (.ifCond .ne 61, 3) := by decide +kernel
theorem dX6_read_65 : decode cX6_read 65 = .ok (.aload_n 0, 1) := by decide +kernel
theorem dX6_read_66 : decode cX6_read 66 = .ok (.getfield 58, 3) := by decide +kernel
theorem dX6_read_69 : decode cX6_read 69 = .ok (.iload_n 1, 1) := by decide +kernel
theorem dX6_read_70 : decode cX6_read 70 = .ok (.aaload, 1) := by decide +kernel
theorem dX6_read_71 : decode cX6_read 71 = .ok (.iload_n 2, 1) := by decide +kernel
theorem dX6_read_72 : decode cX6_read 72 = .ok (.iload_n 3, 1) := by decide +kernel
theorem dX6_read_73 : decode cX6_read 73 = .ok (.iconst 3, 1) := by decide +kernel
theorem dX6_read_74 : decode cX6_read 74 = .ok (.iload 7, 2) := by decide +kernel
theorem dX6_read_76 : decode cX6_read 76 = .ok (.imul, 1) := by decide +kernel
theorem dX6_read_77 : decode cX6_read 77 = .ok (.iadd, 1) := by decide +kernel
theorem dX6_read_78 : decode cX6_read 78 = .ok (.iconst 3, 1) := by decide +kernel
theorem dX6_read_79 : decode cX6_read 79 = .ok (.invokevirtual 253, 3) := by decide +kernel
theorem dX6_read_82 : decode cX6_read 82 = .ok (.istore 6, 2) := by decide +kernel
theorem dX6_read_84 : decode cX6_read 84 = .ok (.iload 6, 2) := by decide +kernel
theorem dX6_read_86 : decode cX6_read 86 = .ok (.ifCond .ne 31, 3) := by decide +kernel
theorem dX6_read_89 : decode cX6_read 89 = .ok (.aload_n 0, 1) := by decide +kernel
theorem dX6_read_90 : decode cX6_read 90 = .ok (.aload_n 0, 1) := by decide +kernel
theorem dX6_read_91 : decode cX6_read 91 = .ok (.getfield 58, 3) := by decide +kernel
theorem dX6_read_94 : decode cX6_read 94 = .ok (.iload_n 1, 1) := by decide +kernel
theorem dX6_read_95 : decode cX6_read 95 = .ok (.aaload, 1) := by decide +kernel
theorem dX6_read_96 : decode cX6_read 96 = .ok (.iload_n 3, 1) := by decide +kernel
theorem dX6_read_97 : decode cX6_read 97 = .ok (.iconst 3, 1) := by decide +kernel
theorem dX6_read_98 : decode cX6_read 98 = .ok (.iload 7, 2) := by decide +kernel
theorem dX6_read_100 : decode cX6_read 100 = .ok (.imul, 1) := by decide +kernel
theorem dX6_read_101 : decode cX6_read 101 = .ok (.iadd, 1) := by decide +kernel
theorem dX6_read_102 : decode cX6_read 102 = .ok (.invokevirtual 255, 3) := by decide +kernel
theorem dX6_read_105 : decode cX6_read 105 = .ok (.ifCond .ne 9, 3) := by decide +kernel
theorem dX6_read_108 : decode cX6_read 108 = .ok (.bipush (-20), 2) := by decide +kernel
theorem dX6_read_110 : decode cX6_read 110 = .ok (.iload 7, 2) := by decide +kernel
theorem dX6_read_112 : decode cX6_read 112 = .ok (.isub, 1) := by decide +kernel
theorem dX6_read_113 : decode cX6_read 113 = .ok (.ireturn, 1) := by decide +kernel
theorem dX6_read_114 : decode cX6_read 114 = .ok (.iinc 5 1, 3) := by decide +kernel
theorem dX6_read_117 : decode cX6_read 117 = .ok (.iinc 7 1, 3) := by decide +kernel
theorem dX6_read_120 : decode cX6_read 120 = .ok (.goto (-67), 3) := by decide +kernel
theorem dX6_read_123 : decode cX6_read 123 = .ok (.aload_n 0, 1) := by decide +kernel
theorem dX6_read_124 : decode cX6_read 124 = .ok (.getfield 28, 3) := by decide +kernel
theorem dX6_read_127 : decode cX6_read 127 = .ok (.aload_n 0, 1) := by decide +kernel
theorem dX6_read_128 : decode cX6_read 128 = .ok (.getfield 39, 3) := by decide +kernel
theorem dX6_read_131 : decode cX6_read 131 = .ok (.invokevirtual 89, 3) := by decide +kernel
theorem dX6_read_134 : decode cX6_read 134 = .ok (.aload_n 0, 1) := by decide +kernel
theorem dX6_read_135 : decode cX6_read 135 = .ok (.iload 6, 2) := by decide +kernel
theorem dX6_read_137 : decode cX6_read 137 = .ok (.putfield 62, 3) := by decide +kernel
theorem dX6_read_140 : decode cX6_read 140 = .ok (.iload 5, 2) := by decide +kernel
theorem dX6_read_142 : decode cX6_read 142 = .ok (.ireturn, 1) := by decide +kernel
theorem dX6_torn_0 : decode cX6_torn 0 = .ok (.aload_n 0, 1) := by decide +kernel
theorem dX6_torn_1 : decode cX6_torn 1 = .ok (.getfield 62, 3) := by decide +kernel
theorem dX6_torn_4 : decode cX6_torn 4 = .ok (.ireturn, 1) := by decide +kernel
theorem dX6_count_0 : decode cX6_count 0 = .ok (.iload_n 1, 1) := by decide +kernel
theorem dX6_count_1 : decode cX6_count 1 = .ok (.tableswitch 86 0 5 #[39, 47, 52, 60, 70, 78], 39) := by decide +kernel
theorem dX6_count_40 : decode cX6_count 40 = .ok (.aload_n 0, 1) := by decide +kernel
theorem dX6_count_41 : decode cX6_count 41 = .ok (.getfield 35, 3) := by decide +kernel
theorem dX6_count_44 : decode cX6_count 44 = .ok (.getfield 93, 3) := by decide +kernel
theorem dX6_count_47 : decode cX6_count 47 = .ok (.ireturn, 1) := by decide +kernel
theorem dX6_count_48 : decode cX6_count 48 = .ok (.aload_n 0, 1) := by decide +kernel
theorem dX6_count_49 : decode cX6_count 49 = .ok (.invokevirtual 259, 3) := by decide +kernel
theorem dX6_count_52 : decode cX6_count 52 = .ok (.ireturn, 1) := by decide +kernel
theorem dX6_count_53 : decode cX6_count 53 = .ok (.aload_n 0, 1) := by decide +kernel
theorem dX6_count_54 : decode cX6_count 54 = .ok (.getfield 10, 3) := by decide +kernel
theorem dX6_count_57 : decode cX6_count 57 = .ok (.getfield 76, 3) := by decide +kernel
theorem dX6_count_60 : decode cX6_count 60 = .ok (.ireturn, 1) := by decide +kernel
theorem dX6_count_61 : decode cX6_count 61 = .ok (.aload_n 0, 1) := by decide +kernel
theorem dX6_count_62 : decode cX6_count 62 = .ok (.getfield 58, 3) := by decide +kernel
theorem dX6_count_65 : decode cX6_count 65 = .ok (.iconst 0, 1) := by decide +kernel
theorem dX6_count_66 : decode cX6_count 66 = .ok (.aaload, 1) := by decide +kernel
theorem dX6_count_67 : decode cX6_count 67 = .ok (.getfield 262, 3) := by decide +kernel
theorem dX6_count_70 : decode cX6_count 70 = .ok (.ireturn, 1) := by decide +kernel
theorem dX6_count_71 : decode cX6_count 71 = .ok (.aload_n 0, 1) := by decide +kernel
theorem dX6_count_72 : decode cX6_count 72 = .ok (.getfield 28, 3) := by decide +kernel
theorem dX6_count_75 : decode cX6_count 75 = .ok (.invokevirtual 265, 3) := by decide +kernel
theorem dX6_count_78 : decode cX6_count 78 = .ok (.ireturn, 1) := by decide +kernel
theorem dX6_count_79 : decode cX6_count 79 = .ok (.aload_n 0, 1) := by decide +kernel
theorem dX6_count_80 : decode cX6_count 80 = .ok (.getfield 28, 3) := by decide +kernel
theorem dX6_count_83 : decode cX6_count 83 = .ok (.invokevirtual 268, 3) := by decide +kernel
theorem dX6_count_86 : decode cX6_count 86 = .ok (.ireturn, 1) := by decide +kernel
theorem dX6_count_87 : decode cX6_count 87 = .ok (.iconst (-1), 1) := by decide +kernel
theorem dX6_count_88 : decode cX6_count 88 = .ok (.ireturn, 1) := by decide +kernel
theorem dX6_isWithin_0 : decode cX6_isWithin 0 = .ok (.iload_n 0, 1) := by decide +kernel
theorem dX6_isWithin_1 : decode cX6_isWithin 1 = .ok (.iload_n 1, 1) := by decide +kernel
theorem dX6_isWithin_2 : decode cX6_isWithin 2 = .ok (.if_icmp .lt 12, 3) := by decide +kernel
theorem dX6_isWithin_5 : decode cX6_isWithin 5 = .ok (.iload_n 0, 1) := by decide +kernel
theorem dX6_isWithin_6 : decode cX6_isWithin 6 = .ok (.iload_n 2, 1) := by decide +kernel
theorem dX6_isWithin_7 : decode cX6_isWithin 7 = .ok (.if_icmp .gt 7, 3) := by decide +kernel
theorem dX6_isWithin_10 : decode cX6_isWithin 10 = .ok (.iconst 1, 1) := by decide +kernel
theorem dX6_isWithin_11 : decode cX6_isWithin 11 = .ok (.goto 4, 3) := by decide +kernel
theorem dX6_isWithin_14 : decode cX6_isWithin 14 = .ok (.iconst 0, 1) := by decide +kernel
theorem dX6_isWithin_15 : decode cX6_isWithin 15 = .ok (.ireturn, 1) := by decide +kernel
theorem dX6_isKind_0 : decode cX6_isKind 0 = .ok (.iload_n 0, 1) := by decide +kernel
theorem dX6_isKind_1 : decode cX6_isKind 1 = .ok (.iconst 0, 1) := by decide +kernel
theorem dX6_isKind_2 : decode cX6_isKind 2 = .ok (.iconst 3, 1) := by decide +kernel
theorem dX6_isKind_3 : decode cX6_isKind 3 = .ok (.invokestatic 68, 3) := by decide +kernel
theorem dX6_isKind_6 : decode cX6_isKind 6 = .ok (.ireturn, 1) := by decide +kernel
theorem dX6_fittingOwners_0 : decode cX6_fittingOwners 0 = .ok (.iconst 0, 1) := by decide +kernel
theorem dX6_fittingOwners_1 : decode cX6_fittingOwners 1 = .ok (.istore_n 2, 1) := by decide +kernel
theorem dX6_fittingOwners_2 : decode cX6_fittingOwners 2 = .ok (.iconst 0, 1) := by decide +kernel
theorem dX6_fittingOwners_3 : decode cX6_fittingOwners 3 = .ok (.istore_n 3, 1) := by decide +kernel
theorem dX6_fittingOwners_4 : decode cX6_fittingOwners 4 = .ok (.iload_n 3, 1) := by decide +kernel
theorem dX6_fittingOwners_5 : decode cX6_fittingOwners 5 = .ok (.aload_n 0, 1) := by decide +kernel
theorem dX6_fittingOwners_6 : decode cX6_fittingOwners 6 = .ok (.getfield 28, 3) := by decide +kernel
theorem dX6_fittingOwners_9 : decode cX6_fittingOwners 9 = .ok (.getfield 106, 3) := by decide +kernel
theorem dX6_fittingOwners_12 : decode cX6_fittingOwners 12 = .ok (.if_icmp .ge 50, 3) := by decide +kernel
theorem dX6_fittingOwners_15 : decode cX6_fittingOwners 15 = .ok (.aload_n 0, 1) := by decide +kernel
theorem dX6_fittingOwners_16 : decode cX6_fittingOwners 16 = .ok (.getfield 39, 3) := by decide +kernel
theorem dX6_fittingOwners_19 : decode cX6_fittingOwners 19 = .ok (.aload_n 0, 1) := by decide +kernel
theorem dX6_fittingOwners_20 : decode cX6_fittingOwners 20 = .ok (.getfield 28, 3) := by decide +kernel
theorem dX6_fittingOwners_23 : decode cX6_fittingOwners 23 = .ok (.invokevirtual 89, 3) := by decide +kernel
theorem dX6_fittingOwners_26 : decode cX6_fittingOwners 26 = .ok (.aload_n 0, 1) := by decide +kernel
theorem dX6_fittingOwners_27 : decode cX6_fittingOwners 27 = .ok (.getfield 39, 3) := by decide +kernel
theorem dX6_fittingOwners_30 : decode cX6_fittingOwners 30 = .ok (.getfield 150, 3) := by decide +kernel
theorem dX6_fittingOwners_33 : decode cX6_fittingOwners 33 = .ok (.iload_n 1, 1) := by decide +kernel
theorem dX6_fittingOwners_34 : decode cX6_fittingOwners 34 = .ok (.iload_n 3, 1) := by decide +kernel
theorem dX6_fittingOwners_35 : decode cX6_fittingOwners 35 = .ok (.iastore, 1) := by decide +kernel
theorem dX6_fittingOwners_36 : decode cX6_fittingOwners 36 = .ok (.aload_n 0, 1) := by decide +kernel
theorem dX6_fittingOwners_37 : decode cX6_fittingOwners 37 = .ok (.getfield 35, 3) := by decide +kernel
theorem dX6_fittingOwners_40 : decode cX6_fittingOwners 40 = .ok (.aload_n 0, 1) := by decide +kernel
theorem dX6_fittingOwners_41 : decode cX6_fittingOwners 41 = .ok (.getfield 39, 3) := by decide +kernel
theorem dX6_fittingOwners_44 : decode cX6_fittingOwners 44 = .ok (.invokevirtual 216, 3) := by decide +kernel
theorem dX6_fittingOwners_47 : decode cX6_fittingOwners 47 = .ok (.ifCond .eq 9, 3) := by decide +kernel
theorem dX6_fittingOwners_50 : decode cX6_fittingOwners 50 = .ok (.iload_n 2, 1) := by decide +kernel
theorem dX6_fittingOwners_51 : decode cX6_fittingOwners 51 = .ok (.iconst 1, 1) := by decide +kernel
theorem dX6_fittingOwners_52 : decode cX6_fittingOwners 52 = .ok (.iload_n 3, 1) := by decide +kernel
theorem dX6_fittingOwners_53 : decode cX6_fittingOwners 53 = .ok (.ishl, 1) := by decide +kernel
theorem dX6_fittingOwners_54 : decode cX6_fittingOwners 54 = .ok (.ior, 1) := by decide +kernel
theorem dX6_fittingOwners_55 : decode cX6_fittingOwners 55 = .ok (.istore_n 2, 1) := by decide +kernel
theorem dX6_fittingOwners_56 : decode cX6_fittingOwners 56 = .ok (.iinc 3 1, 3) := by decide +kernel
theorem dX6_fittingOwners_59 : decode cX6_fittingOwners 59 = .ok (.goto (-55), 3) := by decide +kernel
theorem dX6_fittingOwners_62 : decode cX6_fittingOwners 62 = .ok (.iload_n 2, 1) := by decide +kernel
theorem dX6_fittingOwners_63 : decode cX6_fittingOwners 63 = .ok (.ireturn, 1) := by decide +kernel
theorem dX6_mostLeftBy_0 : decode cX6_mostLeftBy 0 = .ok (.iconst 0, 1) := by decide +kernel
theorem dX6_mostLeftBy_1 : decode cX6_mostLeftBy 1 = .ok (.istore_n 3, 1) := by decide +kernel
theorem dX6_mostLeftBy_2 : decode cX6_mostLeftBy 2 = .ok (.iload_n 3, 1) := by decide +kernel
theorem dX6_mostLeftBy_3 : decode cX6_mostLeftBy 3 = .ok (.aload_n 0, 1) := by decide +kernel
theorem dX6_mostLeftBy_4 : decode cX6_mostLeftBy 4 = .ok (.getfield 28, 3) := by decide +kernel
theorem dX6_mostLeftBy_7 : decode cX6_mostLeftBy 7 = .ok (.getfield 106, 3) := by decide +kernel
theorem dX6_mostLeftBy_10 : decode cX6_mostLeftBy 10 = .ok (.if_icmp .ge 25, 3) := by decide +kernel
theorem dX6_mostLeftBy_13 : decode cX6_mostLeftBy 13 = .ok (.aload_n 0, 1) := by decide +kernel
theorem dX6_mostLeftBy_14 : decode cX6_mostLeftBy 14 = .ok (.getfield 46, 3) := by decide +kernel
theorem dX6_mostLeftBy_17 : decode cX6_mostLeftBy 17 = .ok (.iload_n 3, 1) := by decide +kernel
theorem dX6_mostLeftBy_18 : decode cX6_mostLeftBy 18 = .ok (.aload_n 0, 1) := by decide +kernel
theorem dX6_mostLeftBy_19 : decode cX6_mostLeftBy 19 = .ok (.getfield 42, 3) := by decide +kernel
theorem dX6_mostLeftBy_22 : decode cX6_mostLeftBy 22 = .ok (.iload_n 3, 1) := by decide +kernel
theorem dX6_mostLeftBy_23 : decode cX6_mostLeftBy 23 = .ok (.aaload, 1) := by decide +kernel
theorem dX6_mostLeftBy_24 : decode cX6_mostLeftBy 24 = .ok (.iload_n 1, 1) := by decide +kernel
theorem dX6_mostLeftBy_25 : decode cX6_mostLeftBy 25 = .ok (.invokevirtual 135, 3) := by decide +kernel
theorem dX6_mostLeftBy_28 : decode cX6_mostLeftBy 28 = .ok (.iastore, 1) := by decide +kernel
theorem dX6_mostLeftBy_29 : decode cX6_mostLeftBy 29 = .ok (.iinc 3 1, 3) := by decide +kernel
theorem dX6_mostLeftBy_32 : decode cX6_mostLeftBy 32 = .ok (.goto (-30), 3) := by decide +kernel
theorem dX6_mostLeftBy_35 : decode cX6_mostLeftBy 35 = .ok (.iconst 0, 1) := by decide +kernel
theorem dX6_mostLeftBy_36 : decode cX6_mostLeftBy 36 = .ok (.istore_n 3, 1) := by decide +kernel
theorem dX6_mostLeftBy_37 : decode cX6_mostLeftBy 37 = .ok (.iconst 0, 1) := by decide +kernel
theorem dX6_mostLeftBy_38 : decode cX6_mostLeftBy 38 = .ok (.istore 4, 2) := by decide +kernel
theorem dX6_mostLeftBy_40 : decode cX6_mostLeftBy 40 = .ok (.iload 4, 2) := by decide +kernel
theorem dX6_mostLeftBy_42 : decode cX6_mostLeftBy 42 = .ok (.aload_n 0, 1) := by decide +kernel
theorem dX6_mostLeftBy_43 : decode cX6_mostLeftBy 43 = .ok (.getfield 28, 3) := by decide +kernel
theorem dX6_mostLeftBy_46 : decode cX6_mostLeftBy 46 = .ok (.getfield 106, 3) := by decide +kernel
theorem dX6_mostLeftBy_49 : decode cX6_mostLeftBy 49 = .ok (.if_icmp .ge 80, 3) := by decide +kernel
theorem dX6_mostLeftBy_52 : decode cX6_mostLeftBy 52 = .ok (.iconst 0, 1) := by decide +kernel
theorem dX6_mostLeftBy_53 : decode cX6_mostLeftBy 53 = .ok (.istore 5, 2) := by decide +kernel
theorem dX6_mostLeftBy_55 : decode cX6_mostLeftBy 55 = .ok (.iconst 0, 1) := by decide +kernel
theorem dX6_mostLeftBy_56 : decode cX6_mostLeftBy 56 = .ok (.istore 6, 2) := by decide +kernel
theorem dX6_mostLeftBy_58 : decode cX6_mostLeftBy 58 = .ok (.iload 6, 2) := by decide +kernel
theorem dX6_mostLeftBy_60 : decode cX6_mostLeftBy 60 = .ok (.aload_n 0, 1) := by decide +kernel
theorem dX6_mostLeftBy_61 : decode cX6_mostLeftBy 61 = .ok (.getfield 28, 3) := by decide +kernel
theorem dX6_mostLeftBy_64 : decode cX6_mostLeftBy 64 = .ok (.getfield 106, 3) := by decide +kernel
theorem dX6_mostLeftBy_67 : decode cX6_mostLeftBy 67 = .ok (.if_icmp .ge 39, 3) := by decide +kernel
theorem dX6_mostLeftBy_70 : decode cX6_mostLeftBy 70 = .ok (.iload_n 2, 1) := by decide +kernel
theorem dX6_mostLeftBy_71 : decode cX6_mostLeftBy 71 = .ok (.iload 6, 2) := by decide +kernel
theorem dX6_mostLeftBy_73 : decode cX6_mostLeftBy 73 = .ok (.ishr, 1) := by decide +kernel
theorem dX6_mostLeftBy_74 : decode cX6_mostLeftBy 74 = .ok (.iconst 1, 1) := by decide +kernel
theorem dX6_mostLeftBy_75 : decode cX6_mostLeftBy 75 = .ok (.iand, 1) := by decide +kernel
theorem dX6_mostLeftBy_76 : decode cX6_mostLeftBy 76 = .ok (.iconst 1, 1) := by decide +kernel
theorem dX6_mostLeftBy_77 : decode cX6_mostLeftBy 77 = .ok (.if_icmp .ne 23, 3) := by decide +kernel
theorem dX6_mostLeftBy_80 : decode cX6_mostLeftBy 80 = .ok (.aload_n 0, 1) := by decide +kernel
theorem dX6_mostLeftBy_81 : decode cX6_mostLeftBy 81 = .ok (.getfield 46, 3) := by decide +kernel
theorem dX6_mostLeftBy_84 : decode cX6_mostLeftBy 84 = .ok (.iload 6, 2) := by decide +kernel
theorem dX6_mostLeftBy_86 : decode cX6_mostLeftBy 86 = .ok (.iaload, 1) := by decide +kernel
theorem dX6_mostLeftBy_87 : decode cX6_mostLeftBy 87 = .ok (.aload_n 0, 1) := by decide +kernel
theorem dX6_mostLeftBy_88 : decode cX6_mostLeftBy 88 = .ok (.getfield 46, 3) := by decide +kernel
theorem dX6_mostLeftBy_91 : decode cX6_mostLeftBy 91 = .ok (.iload 4, 2) := by decide +kernel
theorem dX6_mostLeftBy_93 : decode cX6_mostLeftBy 93 = .ok (.iaload, 1) := by decide +kernel
theorem dX6_mostLeftBy_94 : decode cX6_mostLeftBy 94 = .ok (.if_icmp .ne 6, 3) := by decide +kernel
theorem dX6_mostLeftBy_97 : decode cX6_mostLeftBy 97 = .ok (.iinc 5 1, 3) := by decide +kernel
theorem dX6_mostLeftBy_100 : decode cX6_mostLeftBy 100 = .ok (.iinc 6 1, 3) := by decide +kernel
theorem dX6_mostLeftBy_103 : decode cX6_mostLeftBy 103 = .ok (.goto (-45), 3) := by decide +kernel
theorem dX6_mostLeftBy_106 : decode cX6_mostLeftBy 106 = .ok (.iload_n 2, 1) := by decide +kernel
theorem dX6_mostLeftBy_107 : decode cX6_mostLeftBy 107 = .ok (.iload 4, 2) := by decide +kernel
theorem dX6_mostLeftBy_109 : decode cX6_mostLeftBy 109 = .ok (.ishr, 1) := by decide +kernel
theorem dX6_mostLeftBy_110 : decode cX6_mostLeftBy 110 = .ok (.iconst 1, 1) := by decide +kernel
theorem dX6_mostLeftBy_111 : decode cX6_mostLeftBy 111 = .ok (.iand, 1) := by decide +kernel
theorem dX6_mostLeftBy_112 : decode cX6_mostLeftBy 112 = .ok (.iconst 1, 1) := by decide +kernel
theorem dX6_mostLeftBy_113 : decode cX6_mostLeftBy 113 = .ok (.if_icmp .ne 10, 3) := by decide +kernel
theorem dX6_mostLeftBy_116 : decode cX6_mostLeftBy 116 = .ok (.iload_n 3, 1) := by decide +kernel
theorem dX6_mostLeftBy_117 : decode cX6_mostLeftBy 117 = .ok (.iload 5, 2) := by decide +kernel
theorem dX6_mostLeftBy_119 : decode cX6_mostLeftBy 119 = .ok (.invokestatic 271, 3) := by decide +kernel
theorem dX6_mostLeftBy_122 : decode cX6_mostLeftBy 122 = .ok (.istore_n 3, 1) := by decide +kernel
theorem dX6_mostLeftBy_123 : decode cX6_mostLeftBy 123 = .ok (.iinc 4 1, 3) := by decide +kernel
theorem dX6_mostLeftBy_126 : decode cX6_mostLeftBy 126 = .ok (.goto (-86), 3) := by decide +kernel
theorem dX6_mostLeftBy_129 : decode cX6_mostLeftBy 129 = .ok (.iload_n 3, 1) := by decide +kernel
theorem dX6_mostLeftBy_130 : decode cX6_mostLeftBy 130 = .ok (.ireturn, 1) := by decide +kernel
theorem dX6_byOdds_0 : decode cX6_byOdds 0 = .ok (.iload_n 1, 1) := by decide +kernel
theorem dX6_byOdds_1 : decode cX6_byOdds 1 = .ok (.iconst 0, 1) := by decide +kernel
theorem dX6_byOdds_2 : decode cX6_byOdds 2 = .ok (.bipush 10, 2) := by decide +kernel
theorem dX6_byOdds_4 : decode cX6_byOdds 4 = .ok (.invokestatic 68, 3) := by decide +kernel
theorem dX6_byOdds_7 : decode cX6_byOdds 7 = .ok (.ifCond .eq 22, 3) := by decide +kernel
theorem dX6_byOdds_10 : decode cX6_byOdds 10 = .ok (.iload_n 2, 1) := by decide +kernel
theorem dX6_byOdds_11 : decode cX6_byOdds 11 = .ok (.iconst 0, 1) := by decide +kernel
theorem dX6_byOdds_12 : decode cX6_byOdds 12 = .ok (.bipush 8, 2) := by decide +kernel
theorem dX6_byOdds_14 : decode cX6_byOdds 14 = .ok (.invokestatic 68, 3) := by decide +kernel
theorem dX6_byOdds_17 : decode cX6_byOdds 17 = .ok (.ifCond .eq 12, 3) := by decide +kernel
theorem dX6_byOdds_20 : decode cX6_byOdds 20 = .ok (.iload_n 3, 1) := by decide +kernel
theorem dX6_byOdds_21 : decode cX6_byOdds 21 = .ok (.iconst 0, 1) := by decide +kernel
theorem dX6_byOdds_22 : decode cX6_byOdds 22 = .ok (.iconst 1, 1) := by decide +kernel
theorem dX6_byOdds_23 : decode cX6_byOdds 23 = .ok (.invokestatic 68, 3) := by decide +kernel
theorem dX6_byOdds_26 : decode cX6_byOdds 26 = .ok (.ifCond .ne 7, 3) := by decide +kernel
theorem dX6_byOdds_29 : decode cX6_byOdds 29 = .ok (.ldc2_w 209, 3) := by decide +kernel
theorem dX6_byOdds_32 : decode cX6_byOdds 32 = .ok (.lreturn, 1) := by decide +kernel
theorem dX6_byOdds_33 : decode cX6_byOdds 33 = .ok (.aload_n 0, 1) := by decide +kernel
theorem dX6_byOdds_34 : decode cX6_byOdds 34 = .ok (.getfield 42, 3) := by decide +kernel
theorem dX6_byOdds_37 : decode cX6_byOdds 37 = .ok (.iconst 0, 1) := by decide +kernel
theorem dX6_byOdds_38 : decode cX6_byOdds 38 = .ok (.aaload, 1) := by decide +kernel
theorem dX6_byOdds_39 : decode cX6_byOdds 39 = .ok (.aload_n 0, 1) := by decide +kernel
theorem dX6_byOdds_40 : decode cX6_byOdds 40 = .ok (.getfield 28, 3) := by decide +kernel
theorem dX6_byOdds_43 : decode cX6_byOdds 43 = .ok (.invokevirtual 89, 3) := by decide +kernel
theorem dX6_byOdds_46 : decode cX6_byOdds 46 = .ok (.aload_n 0, 1) := by decide +kernel
theorem dX6_byOdds_47 : decode cX6_byOdds 47 = .ok (.getfield 42, 3) := by decide +kernel
theorem dX6_byOdds_50 : decode cX6_byOdds 50 = .ok (.iconst 0, 1) := by decide +kernel
theorem dX6_byOdds_51 : decode cX6_byOdds 51 = .ok (.iload_n 2, 1) := by decide +kernel
theorem dX6_byOdds_52 : decode cX6_byOdds 52 = .ok (.iload_n 1, 1) := by decide +kernel
theorem dX6_byOdds_53 : decode cX6_byOdds 53 = .ok (.iload 4, 2) := by decide +kernel
theorem dX6_byOdds_55 : decode cX6_byOdds 55 = .ok (.iload 5, 2) := by decide +kernel
theorem dX6_byOdds_57 : decode cX6_byOdds 57 = .ok (.invokestatic 276, 3) := by decide +kernel
theorem dX6_byOdds_60 : decode cX6_byOdds 60 = .ok (.iload_n 2, 1) := by decide +kernel
theorem dX6_byOdds_61 : decode cX6_byOdds 61 = .ok (.iload_n 3, 1) := by decide +kernel
theorem dX6_byOdds_62 : decode cX6_byOdds 62 = .ok (.invokestatic 280, 3) := by decide +kernel
theorem dX6_byOdds_65 : decode cX6_byOdds 65 = .ok (.lreturn, 1) := by decide +kernel
theorem dX6_sumOverFutures_0 : decode cX6_sumOverFutures 0 = .ok (.aload_n 0, 1) := by decide +kernel
theorem dX6_sumOverFutures_1 : decode cX6_sumOverFutures 1 = .ok (.iload_n 1, 1) := by decide +kernel
theorem dX6_sumOverFutures_2 : decode cX6_sumOverFutures 2 = .ok (.aaload, 1) := by decide +kernel
theorem dX6_sumOverFutures_3 : decode cX6_sumOverFutures 3 = .ok (.astore 6, 2) := by decide +kernel
theorem dX6_sumOverFutures_5 : decode cX6_sumOverFutures 5 = .ok (.iload_n 1, 1) := by decide +kernel
theorem dX6_sumOverFutures_6 : decode cX6_sumOverFutures 6 = .ok (.iload_n 2, 1) := by decide +kernel
theorem dX6_sumOverFutures_7 : decode cX6_sumOverFutures 7 = .ok (.if_icmp .ge 11, 3) := by decide +kernel
theorem dX6_sumOverFutures_10 : decode cX6_sumOverFutures 10 = .ok (.iload_n 1, 1) := by decide +kernel
theorem dX6_sumOverFutures_11 : decode cX6_sumOverFutures 11 = .ok (.iconst 1, 1) := by decide +kernel
theorem dX6_sumOverFutures_12 : decode cX6_sumOverFutures 12 = .ok (.iadd, 1) := by decide +kernel
theorem dX6_sumOverFutures_13 : decode cX6_sumOverFutures 13 = .ok (.aload_n 0, 1) := by decide +kernel
theorem dX6_sumOverFutures_14 : decode cX6_sumOverFutures 14 = .ok (.arraylength, 1) := by decide +kernel
theorem dX6_sumOverFutures_15 : decode cX6_sumOverFutures 15 = .ok (.if_icmp .lt 33, 3) := by decide +kernel
theorem dX6_sumOverFutures_18 : decode cX6_sumOverFutures 18 = .ok (.iload 4, 2) := by decide +kernel
theorem dX6_sumOverFutures_20 : decode cX6_sumOverFutures 20 = .ok (.ifCond .eq 12, 3) := by decide +kernel
theorem dX6_sumOverFutures_23 : decode cX6_sumOverFutures 23 = .ok (.aload 6, 2) := by decide +kernel
theorem dX6_sumOverFutures_25 : decode cX6_sumOverFutures 25 = .ok (.iload 5, 2) := by decide +kernel
theorem dX6_sumOverFutures_27 : decode cX6_sumOverFutures 27 = .ok (.invokevirtual 135, 3) := by decide +kernel
theorem dX6_sumOverFutures_30 : decode cX6_sumOverFutures 30 = .ok (.i2l, 1) := by decide +kernel
theorem dX6_sumOverFutures_31 : decode cX6_sumOverFutures 31 = .ok (.lreturn, 1) := by decide +kernel
theorem dX6_sumOverFutures_32 : decode cX6_sumOverFutures 32 = .ok (.aload 6, 2) := by decide +kernel
theorem dX6_sumOverFutures_34 : decode cX6_sumOverFutures 34 = .ok (.iload 5, 2) := by decide +kernel
theorem dX6_sumOverFutures_36 : decode cX6_sumOverFutures 36 = .ok (.invokevirtual 175, 3) := by decide +kernel
theorem dX6_sumOverFutures_39 : decode cX6_sumOverFutures 39 = .ok (.ifCond .eq 7, 3) := by decide +kernel
theorem dX6_sumOverFutures_42 : decode cX6_sumOverFutures 42 = .ok (.lconst 1, 1) := by decide +kernel
theorem dX6_sumOverFutures_43 : decode cX6_sumOverFutures 43 = .ok (.goto 4, 3) := by decide +kernel
theorem dX6_sumOverFutures_46 : decode cX6_sumOverFutures 46 = .ok (.lconst 0, 1) := by decide +kernel
theorem dX6_sumOverFutures_47 : decode cX6_sumOverFutures 47 = .ok (.lreturn, 1) := by decide +kernel
theorem dX6_sumOverFutures_48 : decode cX6_sumOverFutures 48 = .ok (.aload_n 0, 1) := by decide +kernel
theorem dX6_sumOverFutures_49 : decode cX6_sumOverFutures 49 = .ok (.iload_n 1, 1) := by decide +kernel
theorem dX6_sumOverFutures_50 : decode cX6_sumOverFutures 50 = .ok (.iconst 1, 1) := by decide +kernel
theorem dX6_sumOverFutures_51 : decode cX6_sumOverFutures 51 = .ok (.iadd, 1) := by decide +kernel
theorem dX6_sumOverFutures_52 : decode cX6_sumOverFutures 52 = .ok (.aaload, 1) := by decide +kernel
theorem dX6_sumOverFutures_53 : decode cX6_sumOverFutures 53 = .ok (.astore 7, 2) := by decide +kernel
theorem dX6_sumOverFutures_55 : decode cX6_sumOverFutures 55 = .ok (.lconst 0, 1) := by decide +kernel
theorem dX6_sumOverFutures_56 : decode cX6_sumOverFutures 56 = .ok (.lstore 8, 2) := by decide +kernel
theorem dX6_sumOverFutures_58 : decode cX6_sumOverFutures 58 = .ok (.iload_n 3, 1) := by decide +kernel
theorem dX6_sumOverFutures_59 : decode cX6_sumOverFutures 59 = .ok (.ifCond .le 37, 3) := by decide +kernel
theorem dX6_sumOverFutures_62 : decode cX6_sumOverFutures 62 = .ok (.aload 7, 2) := by decide +kernel
theorem dX6_sumOverFutures_64 : decode cX6_sumOverFutures 64 = .ok (.aload 6, 2) := by decide +kernel
theorem dX6_sumOverFutures_66 : decode cX6_sumOverFutures 66 = .ok (.invokevirtual 89, 3) := by decide +kernel
theorem dX6_sumOverFutures_69 : decode cX6_sumOverFutures 69 = .ok (.aload 7, 2) := by decide +kernel
theorem dX6_sumOverFutures_71 : decode cX6_sumOverFutures 71 = .ok (.iconst 0, 1) := by decide +kernel
theorem dX6_sumOverFutures_72 : decode cX6_sumOverFutures 72 = .ok (.invokevirtual 231, 3) := by decide +kernel
theorem dX6_sumOverFutures_75 : decode cX6_sumOverFutures 75 = .ok (.lload 8, 2) := by decide +kernel
theorem dX6_sumOverFutures_77 : decode cX6_sumOverFutures 77 = .ok (.iload_n 3, 1) := by decide +kernel
theorem dX6_sumOverFutures_78 : decode cX6_sumOverFutures 78 = .ok (.i2l, 1) := by decide +kernel
theorem dX6_sumOverFutures_79 : decode cX6_sumOverFutures 79 = .ok (.aload_n 0, 1) := by decide +kernel
theorem dX6_sumOverFutures_80 : decode cX6_sumOverFutures 80 = .ok (.iload_n 1, 1) := by decide +kernel
theorem dX6_sumOverFutures_81 : decode cX6_sumOverFutures 81 = .ok (.iconst 1, 1) := by decide +kernel
theorem dX6_sumOverFutures_82 : decode cX6_sumOverFutures 82 = .ok (.iadd, 1) := by decide +kernel
theorem dX6_sumOverFutures_83 : decode cX6_sumOverFutures 83 = .ok (.iload_n 2, 1) := by decide +kernel
theorem dX6_sumOverFutures_84 : decode cX6_sumOverFutures 84 = .ok (.iload_n 3, 1) := by decide +kernel
theorem dX6_sumOverFutures_85 : decode cX6_sumOverFutures 85 = .ok (.iload 4, 2) := by decide +kernel
theorem dX6_sumOverFutures_87 : decode cX6_sumOverFutures 87 = .ok (.iload 5, 2) := by decide +kernel
theorem dX6_sumOverFutures_89 : decode cX6_sumOverFutures 89 = .ok (.invokestatic 276, 3) := by decide +kernel
theorem dX6_sumOverFutures_92 : decode cX6_sumOverFutures 92 = .ok (.lmul, 1) := by decide +kernel
theorem dX6_sumOverFutures_93 : decode cX6_sumOverFutures 93 = .ok (.ladd, 1) := by decide +kernel
theorem dX6_sumOverFutures_94 : decode cX6_sumOverFutures 94 = .ok (.lstore 8, 2) := by decide +kernel
theorem dX6_sumOverFutures_96 : decode cX6_sumOverFutures 96 = .ok (.iload_n 3, 1) := by decide +kernel
theorem dX6_sumOverFutures_97 : decode cX6_sumOverFutures 97 = .ok (.bipush 10, 2) := by decide +kernel
theorem dX6_sumOverFutures_99 : decode cX6_sumOverFutures 99 = .ok (.if_icmp .ge 44, 3) := by decide +kernel
theorem dX6_sumOverFutures_102 : decode cX6_sumOverFutures 102 = .ok (.aload 7, 2) := by decide +kernel
theorem dX6_sumOverFutures_104 : decode cX6_sumOverFutures 104 = .ok (.aload 6, 2) := by decide +kernel
