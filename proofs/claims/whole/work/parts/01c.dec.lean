theorem dX6_sumOverFutures_106 : decode cX6_sumOverFutures 106 = .ok (.invokevirtual 89, 3) := by decide +kernel
theorem dX6_sumOverFutures_109 : decode cX6_sumOverFutures 109 = .ok (.aload 7, 2) := by decide +kernel
theorem dX6_sumOverFutures_111 : decode cX6_sumOverFutures 111 = .ok (.aload 6, 2) := by decide +kernel
theorem dX6_sumOverFutures_113 : decode cX6_sumOverFutures 113 = .ok (.invokevirtual 228, 3) := by decide +kernel
theorem dX6_sumOverFutures_116 : decode cX6_sumOverFutures 116 = .ok (.invokevirtual 231, 3) := by decide +kernel
theorem dX6_sumOverFutures_119 : decode cX6_sumOverFutures 119 = .ok (.lload 8, 2) := by decide +kernel
theorem dX6_sumOverFutures_121 : decode cX6_sumOverFutures 121 = .ok (.bipush 10, 2) := by decide +kernel
theorem dX6_sumOverFutures_123 : decode cX6_sumOverFutures 123 = .ok (.iload_n 3, 1) := by decide +kernel
theorem dX6_sumOverFutures_124 : decode cX6_sumOverFutures 124 = .ok (.isub, 1) := by decide +kernel
theorem dX6_sumOverFutures_125 : decode cX6_sumOverFutures 125 = .ok (.i2l, 1) := by decide +kernel
theorem dX6_sumOverFutures_126 : decode cX6_sumOverFutures 126 = .ok (.aload_n 0, 1) := by decide +kernel
theorem dX6_sumOverFutures_127 : decode cX6_sumOverFutures 127 = .ok (.iload_n 1, 1) := by decide +kernel
theorem dX6_sumOverFutures_128 : decode cX6_sumOverFutures 128 = .ok (.iconst 1, 1) := by decide +kernel
theorem dX6_sumOverFutures_129 : decode cX6_sumOverFutures 129 = .ok (.iadd, 1) := by decide +kernel
theorem dX6_sumOverFutures_130 : decode cX6_sumOverFutures 130 = .ok (.iload_n 2, 1) := by decide +kernel
theorem dX6_sumOverFutures_131 : decode cX6_sumOverFutures 131 = .ok (.iload_n 3, 1) := by decide +kernel
theorem dX6_sumOverFutures_132 : decode cX6_sumOverFutures 132 = .ok (.iload 4, 2) := by decide +kernel
theorem dX6_sumOverFutures_134 : decode cX6_sumOverFutures 134 = .ok (.iload 5, 2) := by decide +kernel
theorem dX6_sumOverFutures_136 : decode cX6_sumOverFutures 136 = .ok (.invokestatic 276, 3) := by decide +kernel
theorem dX6_sumOverFutures_139 : decode cX6_sumOverFutures 139 = .ok (.lmul, 1) := by decide +kernel
theorem dX6_sumOverFutures_140 : decode cX6_sumOverFutures 140 = .ok (.ladd, 1) := by decide +kernel
theorem dX6_sumOverFutures_141 : decode cX6_sumOverFutures 141 = .ok (.lstore 8, 2) := by decide +kernel
theorem dX6_sumOverFutures_143 : decode cX6_sumOverFutures 143 = .ok (.lload 8, 2) := by decide +kernel
theorem dX6_sumOverFutures_145 : decode cX6_sumOverFutures 145 = .ok (.lreturn, 1) := by decide +kernel
theorem dX6_fractionOfTens_0 : decode cX6_fractionOfTens 0 = .ok (.lload_n 0, 1) := by decide +kernel
theorem dX6_fractionOfTens_1 : decode cX6_fractionOfTens 1 = .ok (.lstore 4, 2) := by decide +kernel
theorem dX6_fractionOfTens_3 : decode cX6_fractionOfTens 3 = .ok (.lconst 1, 1) := by decide +kernel
theorem dX6_fractionOfTens_4 : decode cX6_fractionOfTens 4 = .ok (.lstore 6, 2) := by decide +kernel
theorem dX6_fractionOfTens_6 : decode cX6_fractionOfTens 6 = .ok (.iconst 0, 1) := by decide +kernel
theorem dX6_fractionOfTens_7 : decode cX6_fractionOfTens 7 = .ok (.istore 8, 2) := by decide +kernel
theorem dX6_fractionOfTens_9 : decode cX6_fractionOfTens 9 = .ok (.iload 8, 2) := by decide +kernel
theorem dX6_fractionOfTens_11 : decode cX6_fractionOfTens 11 = .ok (.iload_n 2, 1) := by decide +kernel
theorem dX6_fractionOfTens_12 : decode cX6_fractionOfTens 12 = .ok (.if_icmp .ge 17, 3) := by decide +kernel
theorem dX6_fractionOfTens_15 : decode cX6_fractionOfTens 15 = .ok (.lload 6, 2) := by decide +kernel
theorem dX6_fractionOfTens_17 : decode cX6_fractionOfTens 17 = .ok (.ldc2_w 284, 3) := by decide +kernel
theorem dX6_fractionOfTens_20 : decode cX6_fractionOfTens 20 = .ok (.lmul, 1) := by decide +kernel
theorem dX6_fractionOfTens_21 : decode cX6_fractionOfTens 21 = .ok (.lstore 6, 2) := by decide +kernel
theorem dX6_fractionOfTens_23 : decode cX6_fractionOfTens 23 = .ok (.iinc 8 1, 3) := by decide +kernel
theorem dX6_fractionOfTens_26 : decode cX6_fractionOfTens 26 = .ok (.goto (-17), 3) := by decide +kernel
theorem dX6_fractionOfTens_29 : decode cX6_fractionOfTens 29 = .ok (.iconst 0, 1) := by decide +kernel
theorem dX6_fractionOfTens_30 : decode cX6_fractionOfTens 30 = .ok (.istore 8, 2) := by decide +kernel
theorem dX6_fractionOfTens_32 : decode cX6_fractionOfTens 32 = .ok (.iload 8, 2) := by decide +kernel
theorem dX6_fractionOfTens_34 : decode cX6_fractionOfTens 34 = .ok (.iload_n 2, 1) := by decide +kernel
theorem dX6_fractionOfTens_35 : decode cX6_fractionOfTens 35 = .ok (.if_icmp .ge 85, 3) := by decide +kernel
theorem dX6_fractionOfTens_38 : decode cX6_fractionOfTens 38 = .ok (.lload 4, 2) := by decide +kernel
theorem dX6_fractionOfTens_40 : decode cX6_fractionOfTens 40 = .ok (.ldc2_w 286, 3) := by decide +kernel
theorem dX6_fractionOfTens_43 : decode cX6_fractionOfTens 43 = .ok (.lrem, 1) := by decide +kernel
theorem dX6_fractionOfTens_44 : decode cX6_fractionOfTens 44 = .ok (.lconst 0, 1) := by decide +kernel
theorem dX6_fractionOfTens_45 : decode cX6_fractionOfTens 45 = .ok (.lcmp, 1) := by decide +kernel
theorem dX6_fractionOfTens_46 : decode cX6_fractionOfTens 46 = .ok (.ifCond .ne 30, 3) := by decide +kernel
theorem dX6_fractionOfTens_49 : decode cX6_fractionOfTens 49 = .ok (.lload 6, 2) := by decide +kernel
theorem dX6_fractionOfTens_51 : decode cX6_fractionOfTens 51 = .ok (.ldc2_w 286, 3) := by decide +kernel
theorem dX6_fractionOfTens_54 : decode cX6_fractionOfTens 54 = .ok (.lrem, 1) := by decide +kernel
theorem dX6_fractionOfTens_55 : decode cX6_fractionOfTens 55 = .ok (.lconst 0, 1) := by decide +kernel
theorem dX6_fractionOfTens_56 : decode cX6_fractionOfTens 56 = .ok (.lcmp, 1) := by decide +kernel
theorem dX6_fractionOfTens_57 : decode cX6_fractionOfTens 57 = .ok (.ifCond .ne 19, 3) := by decide +kernel
theorem dX6_fractionOfTens_60 : decode cX6_fractionOfTens 60 = .ok (.lload 4, 2) := by decide +kernel
theorem dX6_fractionOfTens_62 : decode cX6_fractionOfTens 62 = .ok (.ldc2_w 286, 3) := by decide +kernel
theorem dX6_fractionOfTens_65 : decode cX6_fractionOfTens 65 = .ok (.ldiv, 1) := by decide +kernel
theorem dX6_fractionOfTens_66 : decode cX6_fractionOfTens 66 = .ok (.lstore 4, 2) := by decide +kernel
theorem dX6_fractionOfTens_68 : decode cX6_fractionOfTens 68 = .ok (.lload 6, 2) := by decide +kernel
theorem dX6_fractionOfTens_70 : decode cX6_fractionOfTens 70 = .ok (.ldc2_w 286, 3) := by decide +kernel
theorem dX6_fractionOfTens_73 : decode cX6_fractionOfTens 73 = .ok (.ldiv, 1) := by decide +kernel
theorem dX6_fractionOfTens_74 : decode cX6_fractionOfTens 74 = .ok (.lstore 6, 2) := by decide +kernel
theorem dX6_fractionOfTens_76 : decode cX6_fractionOfTens 76 = .ok (.lload 4, 2) := by decide +kernel
theorem dX6_fractionOfTens_78 : decode cX6_fractionOfTens 78 = .ok (.ldc2_w 288, 3) := by decide +kernel
theorem dX6_fractionOfTens_81 : decode cX6_fractionOfTens 81 = .ok (.lrem, 1) := by decide +kernel
theorem dX6_fractionOfTens_82 : decode cX6_fractionOfTens 82 = .ok (.lconst 0, 1) := by decide +kernel
theorem dX6_fractionOfTens_83 : decode cX6_fractionOfTens 83 = .ok (.lcmp, 1) := by decide +kernel
theorem dX6_fractionOfTens_84 : decode cX6_fractionOfTens 84 = .ok (.ifCond .ne 30, 3) := by decide +kernel
theorem dX6_fractionOfTens_87 : decode cX6_fractionOfTens 87 = .ok (.lload 6, 2) := by decide +kernel
theorem dX6_fractionOfTens_89 : decode cX6_fractionOfTens 89 = .ok (.ldc2_w 288, 3) := by decide +kernel
theorem dX6_fractionOfTens_92 : decode cX6_fractionOfTens 92 = .ok (.lrem, 1) := by decide +kernel
theorem dX6_fractionOfTens_93 : decode cX6_fractionOfTens 93 = .ok (.lconst 0, 1) := by decide +kernel
theorem dX6_fractionOfTens_94 : decode cX6_fractionOfTens 94 = .ok (.lcmp, 1) := by decide +kernel
theorem dX6_fractionOfTens_95 : decode cX6_fractionOfTens 95 = .ok (.ifCond .ne 19, 3) := by decide +kernel
theorem dX6_fractionOfTens_98 : decode cX6_fractionOfTens 98 = .ok (.lload 4, 2) := by decide +kernel
theorem dX6_fractionOfTens_100 : decode cX6_fractionOfTens 100 = .ok (.ldc2_w 288, 3) := by decide +kernel
theorem dX6_fractionOfTens_103 : decode cX6_fractionOfTens 103 = .ok (.ldiv, 1) := by decide +kernel
theorem dX6_fractionOfTens_104 : decode cX6_fractionOfTens 104 = .ok (.lstore 4, 2) := by decide +kernel
theorem dX6_fractionOfTens_106 : decode cX6_fractionOfTens 106 = .ok (.lload 6, 2) := by decide +kernel
theorem dX6_fractionOfTens_108 : decode cX6_fractionOfTens 108 = .ok (.ldc2_w 288, 3) := by decide +kernel
theorem dX6_fractionOfTens_111 : decode cX6_fractionOfTens 111 = .ok (.ldiv, 1) := by decide +kernel
theorem dX6_fractionOfTens_112 : decode cX6_fractionOfTens 112 = .ok (.lstore 6, 2) := by decide +kernel
theorem dX6_fractionOfTens_114 : decode cX6_fractionOfTens 114 = .ok (.iinc 8 1, 3) := by decide +kernel
theorem dX6_fractionOfTens_117 : decode cX6_fractionOfTens 117 = .ok (.goto (-85), 3) := by decide +kernel
theorem dX6_fractionOfTens_120 : decode cX6_fractionOfTens 120 = .ok (.iload_n 3, 1) := by decide +kernel
theorem dX6_fractionOfTens_121 : decode cX6_fractionOfTens 121 = .ok (.ifCond .ne 8, 3) := by decide +kernel
theorem dX6_fractionOfTens_124 : decode cX6_fractionOfTens 124 = .ok (.lload 4, 2) := by decide +kernel
theorem dX6_fractionOfTens_126 : decode cX6_fractionOfTens 126 = .ok (.goto 5, 3) := by decide +kernel
theorem dX6_fractionOfTens_129 : decode cX6_fractionOfTens 129 = .ok (.lload 6, 2) := by decide +kernel
theorem dX6_fractionOfTens_131 : decode cX6_fractionOfTens 131 = .ok (.lreturn, 1) := by decide +kernel
theorem dX6_dabFromSheet_0 : decode cX6_dabFromSheet 0 = .ok (.aload_n 0, 1) := by decide +kernel
theorem dX6_dabFromSheet_1 : decode cX6_dabFromSheet 1 = .ok (.getfield 39, 3) := by decide +kernel
theorem dX6_dabFromSheet_4 : decode cX6_dabFromSheet 4 = .ok (.aload_n 1, 1) := by decide +kernel
theorem dX6_dabFromSheet_5 : decode cX6_dabFromSheet 5 = .ok (.getfield 290, 3) := by decide +kernel
theorem dX6_dabFromSheet_8 : decode cX6_dabFromSheet 8 = .ok (.iload_n 2, 1) := by decide +kernel
theorem dX6_dabFromSheet_9 : decode cX6_dabFromSheet 9 = .ok (.iaload, 1) := by decide +kernel
theorem dX6_dabFromSheet_10 : decode cX6_dabFromSheet 10 = .ok (.aload_n 1, 1) := by decide +kernel
theorem dX6_dabFromSheet_11 : decode cX6_dabFromSheet 11 = .ok (.getfield 290, 3) := by decide +kernel
theorem dX6_dabFromSheet_14 : decode cX6_dabFromSheet 14 = .ok (.iload_n 2, 1) := by decide +kernel
theorem dX6_dabFromSheet_15 : decode cX6_dabFromSheet 15 = .ok (.iconst 1, 1) := by decide +kernel
theorem dX6_dabFromSheet_16 : decode cX6_dabFromSheet 16 = .ok (.iadd, 1) := by decide +kernel
theorem dX6_dabFromSheet_17 : decode cX6_dabFromSheet 17 = .ok (.iaload, 1) := by decide +kernel
theorem dX6_dabFromSheet_18 : decode cX6_dabFromSheet 18 = .ok (.aload_n 1, 1) := by decide +kernel
theorem dX6_dabFromSheet_19 : decode cX6_dabFromSheet 19 = .ok (.getfield 290, 3) := by decide +kernel
theorem dX6_dabFromSheet_22 : decode cX6_dabFromSheet 22 = .ok (.iload_n 2, 1) := by decide +kernel
theorem dX6_dabFromSheet_23 : decode cX6_dabFromSheet 23 = .ok (.iconst 2, 1) := by decide +kernel
theorem dX6_dabFromSheet_24 : decode cX6_dabFromSheet 24 = .ok (.iadd, 1) := by decide +kernel
theorem dX6_dabFromSheet_25 : decode cX6_dabFromSheet 25 = .ok (.iaload, 1) := by decide +kernel
theorem dX6_dabFromSheet_26 : decode cX6_dabFromSheet 26 = .ok (.invokevirtual 171, 3) := by decide +kernel
theorem dX6_dabFromSheet_29 : decode cX6_dabFromSheet 29 = .ok (.ifCond .lt 7, 3) := by decide +kernel
theorem dX6_dabFromSheet_32 : decode cX6_dabFromSheet 32 = .ok (.iconst 1, 1) := by decide +kernel
theorem dX6_dabFromSheet_33 : decode cX6_dabFromSheet 33 = .ok (.goto 4, 3) := by decide +kernel
theorem dX6_dabFromSheet_36 : decode cX6_dabFromSheet 36 = .ok (.iconst 0, 1) := by decide +kernel
theorem dX6_dabFromSheet_37 : decode cX6_dabFromSheet 37 = .ok (.ireturn, 1) := by decide +kernel
theorem dX6_imagesKept_0 : decode cX6_imagesKept 0 = .ok (.iconst 0, 1) := by decide +kernel
theorem dX6_imagesKept_1 : decode cX6_imagesKept 1 = .ok (.istore_n 1, 1) := by decide +kernel
theorem dX6_imagesKept_2 : decode cX6_imagesKept 2 = .ok (.iconst 0, 1) := by decide +kernel
theorem dX6_imagesKept_3 : decode cX6_imagesKept 3 = .ok (.istore_n 2, 1) := by decide +kernel
theorem dX6_imagesKept_4 : decode cX6_imagesKept 4 = .ok (.iload_n 2, 1) := by decide +kernel
theorem dX6_imagesKept_5 : decode cX6_imagesKept 5 = .ok (.aload_n 0, 1) := by decide +kernel
theorem dX6_imagesKept_6 : decode cX6_imagesKept 6 = .ok (.getfield 52, 3) := by decide +kernel
theorem dX6_imagesKept_9 : decode cX6_imagesKept 9 = .ok (.arraylength, 1) := by decide +kernel
theorem dX6_imagesKept_10 : decode cX6_imagesKept 10 = .ok (.if_icmp .ge 24, 3) := by decide +kernel
theorem dX6_imagesKept_13 : decode cX6_imagesKept 13 = .ok (.aload_n 0, 1) := by decide +kernel
theorem dX6_imagesKept_14 : decode cX6_imagesKept 14 = .ok (.getfield 52, 3) := by decide +kernel
theorem dX6_imagesKept_17 : decode cX6_imagesKept 17 = .ok (.iload_n 2, 1) := by decide +kernel
theorem dX6_imagesKept_18 : decode cX6_imagesKept 18 = .ok (.aaload, 1) := by decide +kernel
theorem dX6_imagesKept_19 : decode cX6_imagesKept 19 = .ok (.getfield 96, 3) := by decide +kernel
theorem dX6_imagesKept_22 : decode cX6_imagesKept 22 = .ok (.ifCond .eq 6, 3) := by decide +kernel
theorem dX6_imagesKept_25 : decode cX6_imagesKept 25 = .ok (.iinc 1 1, 3) := by decide +kernel
theorem dX6_imagesKept_28 : decode cX6_imagesKept 28 = .ok (.iinc 2 1, 3) := by decide +kernel
theorem dX6_imagesKept_31 : decode cX6_imagesKept 31 = .ok (.goto (-27), 3) := by decide +kernel
theorem dX6_imagesKept_34 : decode cX6_imagesKept 34 = .ok (.iload_n 1, 1) := by decide +kernel
theorem dX6_imagesKept_35 : decode cX6_imagesKept 35 = .ok (.ireturn, 1) := by decide +kernel
theorem dX7_init_0 : decode cX7_init 0 = .ok (.aload_n 0, 1) := by decide +kernel
theorem dX7_init_1 : decode cX7_init 1 = .ok (.invokespecial 1, 3) := by decide +kernel
theorem dX7_init_4 : decode cX7_init 4 = .ok (.aload_n 0, 1) := by decide +kernel
theorem dX7_init_5 : decode cX7_init 5 = .ok (.sipush 183, 3) := by decide +kernel
theorem dX7_init_8 : decode cX7_init 8 = .ok (.newarray .int, 2) := by decide +kernel
theorem dX7_init_10 : decode cX7_init 10 = .ok (.putfield 7, 3) := by decide +kernel
theorem dX7_init_13 : decode cX7_init 13 = .ok (.aload_n 0, 1) := by decide +kernel
theorem dX7_init_14 : decode cX7_init 14 = .ok (.bipush 61, 2) := by decide +kernel
theorem dX7_init_16 : decode cX7_init 16 = .ok (.newarray .int, 2) := by decide +kernel
theorem dX7_init_18 : decode cX7_init 18 = .ok (.putfield 13, 3) := by decide +kernel
theorem dX7_init_21 : decode cX7_init 21 = .ok (.aload_n 0, 1) := by decide +kernel
theorem dX7_init_22 : decode cX7_init 22 = .ok (.iconst 2, 1) := by decide +kernel
theorem dX7_init_23 : decode cX7_init 23 = .ok (.newarray .boolean, 2) := by decide +kernel
theorem dX7_init_25 : decode cX7_init 25 = .ok (.putfield 16, 3) := by decide +kernel
theorem dX7_init_28 : decode cX7_init 28 = .ok (.aload_n 0, 1) := by decide +kernel
theorem dX7_init_29 : decode cX7_init 29 = .ok (.bipush 61, 2) := by decide +kernel
theorem dX7_init_31 : decode cX7_init 31 = .ok (.newarray .int, 2) := by decide +kernel
theorem dX7_init_33 : decode cX7_init 33 = .ok (.putfield 20, 3) := by decide +kernel
theorem dX7_init_36 : decode cX7_init 36 = .ok (.aload_n 0, 1) := by decide +kernel
theorem dX7_init_37 : decode cX7_init 37 = .ok (.sipush 160, 3) := by decide +kernel
theorem dX7_init_40 : decode cX7_init 40 = .ok (.newarray .int, 2) := by decide +kernel
theorem dX7_init_42 : decode cX7_init 42 = .ok (.putfield 23, 3) := by decide +kernel
theorem dX7_init_45 : decode cX7_init 45 = .ok (.aload_n 0, 1) := by decide +kernel
theorem dX7_init_46 : decode cX7_init 46 = .ok (.bipush 84, 2) := by decide +kernel
theorem dX7_init_48 : decode cX7_init 48 = .ok (.newarray .int, 2) := by decide +kernel
theorem dX7_init_50 : decode cX7_init 50 = .ok (.putfield 26, 3) := by decide +kernel
theorem dX7_init_53 : decode cX7_init 53 = .ok (.aload_n 0, 1) := by decide +kernel
theorem dX7_init_54 : decode cX7_init 54 = .ok (.sipush 336, 3) := by decide +kernel
theorem dX7_init_57 : decode cX7_init 57 = .ok (.newarray .int, 2) := by decide +kernel
theorem dX7_init_59 : decode cX7_init 59 = .ok (.putfield 29, 3) := by decide +kernel
theorem dX7_init_62 : decode cX7_init 62 = .ok (.aload_n 0, 1) := by decide +kernel
theorem dX7_init_63 : decode cX7_init 63 = .ok (.iconst 4, 1) := by decide +kernel
theorem dX7_init_64 : decode cX7_init 64 = .ok (.newarray .int, 2) := by decide +kernel
theorem dX7_init_66 : decode cX7_init 66 = .ok (.putfield 32, 3) := by decide +kernel
theorem dX7_init_69 : decode cX7_init 69 = .ok (.aload_n 0, 1) := by decide +kernel
theorem dX7_init_70 : decode cX7_init 70 = .ok (.iconst 4, 1) := by decide +kernel
theorem dX7_init_71 : decode cX7_init 71 = .ok (.newarray .int, 2) := by decide +kernel
theorem dX7_init_73 : decode cX7_init 73 = .ok (.putfield 35, 3) := by decide +kernel
theorem dX7_init_76 : decode cX7_init 76 = .ok (.aload_n 0, 1) := by decide +kernel
theorem dX7_init_77 : decode cX7_init 77 = .ok (.sipush 160, 3) := by decide +kernel
theorem dX7_init_80 : decode cX7_init 80 = .ok (.newarray .int, 2) := by decide +kernel
theorem dX7_init_82 : decode cX7_init 82 = .ok (.putfield 38, 3) := by decide +kernel
theorem dX7_init_85 : decode cX7_init 85 = .ok (.aload_n 0, 1) := by decide +kernel
theorem dX7_init_86 : decode cX7_init 86 = .ok (.bipush 61, 2) := by decide +kernel
theorem dX7_init_88 : decode cX7_init 88 = .ok (.newarray .int, 2) := by decide +kernel
theorem dX7_init_90 : decode cX7_init 90 = .ok (.putfield 41, 3) := by decide +kernel
theorem dX7_init_93 : decode cX7_init 93 = .ok (.iconst 0, 1) := by decide +kernel
theorem dX7_init_94 : decode cX7_init 94 = .ok (.istore_n 1, 1) := by decide +kernel
theorem dX7_init_95 : decode cX7_init 95 = .ok (.iload_n 1, 1) := by decide +kernel
theorem dX7_init_96 : decode cX7_init 96 = .ok (.iconst 4, 1) := by decide +kernel
theorem dX7_init_97 : decode cX7_init 97 = .ok (.if_icmp .ge 17, 3) := by decide +kernel
theorem dX7_init_100 : decode cX7_init 100 = .ok (.aload_n 0, 1) := by decide +kernel
theorem dX7_init_101 : decode cX7_init 101 = .ok (.getfield 32, 3) := by decide +kernel
theorem dX7_init_104 : decode cX7_init 104 = .ok (.iload_n 1, 1) := by decide +kernel
theorem dX7_init_105 : decode cX7_init 105 = .ok (.bipush (-4), 2) := by decide +kernel
theorem dX7_init_107 : decode cX7_init 107 = .ok (.iastore, 1) := by decide +kernel
theorem dX7_init_108 : decode cX7_init 108 = .ok (.iinc 1 1, 3) := by decide +kernel
theorem dX7_init_111 : decode cX7_init 111 = .ok (.goto (-16), 3) := by decide +kernel
theorem dX7_init_114 : decode cX7_init 114 = .ok (.aload_n 0, 1) := by decide +kernel
theorem dX7_init_115 : decode cX7_init 115 = .ok (.invokevirtual 44, 3) := by decide +kernel
theorem dX7_init_118 : decode cX7_init 118 = .ok (.aload_n 0, 1) := by decide +kernel
theorem dX7_init_119 : decode cX7_init 119 = .ok (.invokevirtual 47, 3) := by decide +kernel
theorem dX7_init_122 : decode cX7_init 122 = .ok (.return_, 1) := by decide +kernel
theorem dX7_in_0 : decode cX7_in 0 = .ok (.lload_n 0, 1) := by decide +kernel
theorem dX7_in_1 : decode cX7_in 1 = .ok (.lload_n 2, 1) := by decide +kernel
theorem dX7_in_2 : decode cX7_in 2 = .ok (.lcmp, 1) := by decide +kernel
theorem dX7_in_3 : decode cX7_in 3 = .ok (.ifCond .lt 14, 3) := by decide +kernel
theorem dX7_in_6 : decode cX7_in 6 = .ok (.lload_n 0, 1) := by decide +kernel
theorem dX7_in_7 : decode cX7_in 7 = .ok (.lload 4, 2) := by decide +kernel
theorem dX7_in_9 : decode cX7_in 9 = .ok (.lcmp, 1) := by decide +kernel
theorem dX7_in_10 : decode cX7_in 10 = .ok (.ifCond .gt 7, 3) := by decide +kernel
theorem dX7_in_13 : decode cX7_in 13 = .ok (.iconst 1, 1) := by decide +kernel
theorem dX7_in_14 : decode cX7_in 14 = .ok (.goto 4, 3) := by decide +kernel
theorem dX7_in_17 : decode cX7_in 17 = .ok (.iconst 0, 1) := by decide +kernel
theorem dX7_in_18 : decode cX7_in 18 = .ok (.ireturn, 1) := by decide +kernel
theorem dX7_flag_0 : decode cX7_flag 0 = .ok (.iload_n 0, 1) := by decide +kernel
theorem dX7_flag_1 : decode cX7_flag 1 = .ok (.ifCond .eq 7, 3) := by decide +kernel
theorem dX7_flag_4 : decode cX7_flag 4 = .ok (.iconst 1, 1) := by decide +kernel
theorem dX7_flag_5 : decode cX7_flag 5 = .ok (.goto 4, 3) := by decide +kernel
theorem dX7_flag_8 : decode cX7_flag 8 = .ok (.iconst 0, 1) := by decide +kernel
theorem dX7_flag_9 : decode cX7_flag 9 = .ok (.ireturn, 1) := by decide +kernel
theorem dX7_lesser_0 : decode cX7_lesser 0 = .ok (.iload_n 0, 1) := by decide +kernel
theorem dX7_lesser_1 : decode cX7_lesser 1 = .ok (.iload_n 1, 1) := by decide +kernel
theorem dX7_lesser_2 : decode cX7_lesser 2 = .ok (.if_icmp .ge 7, 3) := by decide +kernel
theorem dX7_lesser_5 : decode cX7_lesser 5 = .ok (.iload_n 0, 1) := by decide +kernel
theorem dX7_lesser_6 : decode cX7_lesser 6 = .ok (.goto 4, 3) := by decide +kernel
theorem dX7_lesser_9 : decode cX7_lesser 9 = .ok (.iload_n 1, 1) := by decide +kernel
theorem dX7_lesser_10 : decode cX7_lesser 10 = .ok (.ireturn, 1) := by decide +kernel
theorem dX7_firstDraft_0 : decode cX7_firstDraft 0 = .ok (.iconst 0, 1) := by decide +kernel
theorem dX7_firstDraft_1 : decode cX7_firstDraft 1 = .ok (.istore_n 1, 1) := by decide +kernel
theorem dX7_firstDraft_2 : decode cX7_firstDraft 2 = .ok (.iload_n 1, 1) := by decide +kernel
theorem dX7_firstDraft_3 : decode cX7_firstDraft 3 = .ok (.bipush 61, 2) := by decide +kernel
theorem dX7_firstDraft_5 : decode cX7_firstDraft 5 = .ok (.if_icmp .ge 16, 3) := by decide +kernel
theorem dX7_firstDraft_8 : decode cX7_firstDraft 8 = .ok (.aload_n 0, 1) := by decide +kernel
theorem dX7_firstDraft_9 : decode cX7_firstDraft 9 = .ok (.getfield 20, 3) := by decide +kernel
theorem dX7_firstDraft_12 : decode cX7_firstDraft 12 = .ok (.iload_n 1, 1) := by decide +kernel
theorem dX7_firstDraft_13 : decode cX7_firstDraft 13 = .ok (.iconst 0, 1) := by decide +kernel
theorem dX7_firstDraft_14 : decode cX7_firstDraft 14 = .ok (.iastore, 1) := by decide +kernel
theorem dX7_firstDraft_15 : decode cX7_firstDraft 15 = .ok (.iinc 1 1, 3) := by decide +kernel
theorem dX7_firstDraft_18 : decode cX7_firstDraft 18 = .ok (.goto (-16), 3) := by decide +kernel
theorem dX7_firstDraft_21 : decode cX7_firstDraft 21 = .ok (.aload_n 0, 1) := by decide +kernel
theorem dX7_firstDraft_22 : decode cX7_firstDraft 22 = .ok (.iconst 0, 1) := by decide +kernel
theorem dX7_firstDraft_23 : decode cX7_firstDraft 23 = .ok (.putfield 50, 3) := by decide +kernel
theorem dX7_firstDraft_26 : decode cX7_firstDraft 26 = .ok (.aload_n 0, 1) := by decide +kernel
theorem dX7_firstDraft_27 : decode cX7_firstDraft 27 = .ok (.iconst 0, 1) := by decide +kernel
theorem dX7_firstDraft_28 : decode cX7_firstDraft 28 = .ok (.putfield 54, 3) := by decide +kernel
theorem dX7_firstDraft_31 : decode cX7_firstDraft 31 = .ok (.aload_n 0, 1) := by decide +kernel
theorem dX7_firstDraft_32 : decode cX7_firstDraft 32 = .ok (.bipush (-4), 2) := by decide +kernel
theorem dX7_firstDraft_34 : decode cX7_firstDraft 34 = .ok (.putfield 57, 3) := by decide +kernel
theorem dX7_firstDraft_37 : decode cX7_firstDraft 37 = .ok (.return_, 1) := by decide +kernel
theorem dX7_keepDraft_0 : decode cX7_keepDraft 0 = .ok (.iconst 0, 1) := by decide +kernel
theorem dX7_keepDraft_1 : decode cX7_keepDraft 1 = .ok (.istore_n 1, 1) := by decide +kernel
theorem dX7_keepDraft_2 : decode cX7_keepDraft 2 = .ok (.iload_n 1, 1) := by decide +kernel
theorem dX7_keepDraft_3 : decode cX7_keepDraft 3 = .ok (.bipush 61, 2) := by decide +kernel
theorem dX7_keepDraft_5 : decode cX7_keepDraft 5 = .ok (.if_icmp .ge 21, 3) := by decide +kernel
theorem dX7_keepDraft_8 : decode cX7_keepDraft 8 = .ok (.aload_n 0, 1) := by decide +kernel
theorem dX7_keepDraft_9 : decode cX7_keepDraft 9 = .ok (.getfield 7, 3) := by decide +kernel
theorem dX7_keepDraft_12 : decode cX7_keepDraft 12 = .ok (.iload_n 1, 1) := by decide +kernel
theorem dX7_keepDraft_13 : decode cX7_keepDraft 13 = .ok (.aload_n 0, 1) := by decide +kernel
theorem dX7_keepDraft_14 : decode cX7_keepDraft 14 = .ok (.getfield 20, 3) := by decide +kernel
theorem dX7_keepDraft_17 : decode cX7_keepDraft 17 = .ok (.iload_n 1, 1) := by decide +kernel
theorem dX7_keepDraft_18 : decode cX7_keepDraft 18 = .ok (.iaload, 1) := by decide +kernel
theorem dX7_keepDraft_19 : decode cX7_keepDraft 19 = .ok (.iastore, 1) := by decide +kernel
theorem dX7_keepDraft_20 : decode cX7_keepDraft 20 = .ok (.iinc 1 1, 3) := by decide +kernel
theorem dX7_keepDraft_23 : decode cX7_keepDraft 23 = .ok (.goto (-21), 3) := by decide +kernel
theorem dX7_keepDraft_26 : decode cX7_keepDraft 26 = .ok (.aload_n 0, 1) := by decide +kernel
theorem dX7_keepDraft_27 : decode cX7_keepDraft 27 = .ok (.aload_n 0, 1) := by decide +kernel
theorem dX7_keepDraft_28 : decode cX7_keepDraft 28 = .ok (.getfield 50, 3) := by decide +kernel
theorem dX7_keepDraft_31 : decode cX7_keepDraft 31 = .ok (.putfield 60, 3) := by decide +kernel
theorem dX7_keepDraft_34 : decode cX7_keepDraft 34 = .ok (.aload_n 0, 1) := by decide +kernel
theorem dX7_keepDraft_35 : decode cX7_keepDraft 35 = .ok (.getfield 16, 3) := by decide +kernel
theorem dX7_keepDraft_38 : decode cX7_keepDraft 38 = .ok (.iconst 0, 1) := by decide +kernel
theorem dX7_keepDraft_39 : decode cX7_keepDraft 39 = .ok (.iconst 0, 1) := by decide +kernel
theorem dX7_keepDraft_40 : decode cX7_keepDraft 40 = .ok (.bastore, 1) := by decide +kernel
theorem dX7_keepDraft_41 : decode cX7_keepDraft 41 = .ok (.aload_n 0, 1) := by decide +kernel
theorem dX7_keepDraft_42 : decode cX7_keepDraft 42 = .ok (.getfield 16, 3) := by decide +kernel
theorem dX7_keepDraft_45 : decode cX7_keepDraft 45 = .ok (.iconst 1, 1) := by decide +kernel
theorem dX7_keepDraft_46 : decode cX7_keepDraft 46 = .ok (.iconst 0, 1) := by decide +kernel
theorem dX7_keepDraft_47 : decode cX7_keepDraft 47 = .ok (.bastore, 1) := by decide +kernel
theorem dX7_keepDraft_48 : decode cX7_keepDraft 48 = .ok (.return_, 1) := by decide +kernel
theorem dX7_feed_0 : decode cX7_feed 0 = .ok (.iload_n 1, 1) := by decide +kernel
theorem dX7_feed_1 : decode cX7_feed 1 = .ok (.i2l, 1) := by decide +kernel
theorem dX7_feed_2 : decode cX7_feed 2 = .ok (.lconst 0, 1) := by decide +kernel
theorem dX7_feed_3 : decode cX7_feed 3 = .ok (.ldc2_w 63, 3) := by decide +kernel
theorem dX7_feed_6 : decode cX7_feed 6 = .ok (.invokestatic 65, 3) := by decide +kernel
theorem dX7_feed_9 : decode cX7_feed 9 = .ok (.ifCond .ne 5, 3) := by decide +kernel
theorem dX7_feed_12 : decode cX7_feed 12 = .ok (.iconst (-1), 1) := by decide +kernel
theorem dX7_feed_13 : decode cX7_feed 13 = .ok (.ireturn, 1) := by decide +kernel
theorem dX7_feed_14 : decode cX7_feed 14 = .ok (.aload_n 0, 1) := by decide +kernel
theorem dX7_feed_15 : decode cX7_feed 15 = .ok (.getfield 69, 3) := by decide +kernel
theorem dX7_feed_18 : decode cX7_feed 18 = .ok (.sipush 160, 3) := by decide +kernel
theorem dX7_feed_21 : decode cX7_feed 21 = .ok (.if_icmp .ne 6, 3) := by decide +kernel
theorem dX7_feed_24 : decode cX7_feed 24 = .ok (.bipush (-3), 2) := by decide +kernel
theorem dX7_feed_26 : decode cX7_feed 26 = .ok (.ireturn, 1) := by decide +kernel
theorem dX7_feed_27 : decode cX7_feed 27 = .ok (.aload_n 0, 1) := by decide +kernel
theorem dX7_feed_28 : decode cX7_feed 28 = .ok (.getfield 23, 3) := by decide +kernel
theorem dX7_feed_31 : decode cX7_feed 31 = .ok (.aload_n 0, 1) := by decide +kernel
theorem dX7_feed_32 : decode cX7_feed 32 = .ok (.getfield 69, 3) := by decide +kernel
theorem dX7_feed_35 : decode cX7_feed 35 = .ok (.iload_n 1, 1) := by decide +kernel
theorem dX7_feed_36 : decode cX7_feed 36 = .ok (.iastore, 1) := by decide +kernel
theorem dX7_feed_37 : decode cX7_feed 37 = .ok (.aload_n 0, 1) := by decide +kernel
theorem dX7_feed_38 : decode cX7_feed 38 = .ok (.dup, 1) := by decide +kernel
theorem dX7_feed_39 : decode cX7_feed 39 = .ok (.getfield 69, 3) := by decide +kernel
theorem dX7_feed_42 : decode cX7_feed 42 = .ok (.iconst 1, 1) := by decide +kernel
theorem dX7_feed_43 : decode cX7_feed 43 = .ok (.iadd, 1) := by decide +kernel
theorem dX7_feed_44 : decode cX7_feed 44 = .ok (.putfield 69, 3) := by decide +kernel
theorem dX7_feed_47 : decode cX7_feed 47 = .ok (.aload_n 0, 1) := by decide +kernel
theorem dX7_feed_48 : decode cX7_feed 48 = .ok (.getfield 69, 3) := by decide +kernel
theorem dX7_feed_51 : decode cX7_feed 51 = .ok (.ireturn, 1) := by decide +kernel
theorem dX7_end_0 : decode cX7_end 0 = .ok (.iload_n 1, 1) := by decide +kernel
theorem dX7_end_1 : decode cX7_end 1 = .ok (.i2l, 1) := by decide +kernel
theorem dX7_end_2 : decode cX7_end 2 = .ok (.lconst 0, 1) := by decide +kernel
theorem dX7_end_3 : decode cX7_end 3 = .ok (.aload_n 0, 1) := by decide +kernel
theorem dX7_end_4 : decode cX7_end 4 = .ok (.getfield 69, 3) := by decide +kernel
theorem dX7_end_7 : decode cX7_end 7 = .ok (.i2l, 1) := by decide +kernel
theorem dX7_end_8 : decode cX7_end 8 = .ok (.invokestatic 65, 3) := by decide +kernel
theorem dX7_end_11 : decode cX7_end 11 = .ok (.ifCond .ne 5, 3) := by decide +kernel
theorem dX7_end_14 : decode cX7_end 14 = .ok (.iconst (-1), 1) := by decide +kernel
theorem dX7_end_15 : decode cX7_end 15 = .ok (.ireturn, 1) := by decide +kernel
theorem dX7_end_16 : decode cX7_end 16 = .ok (.aload_n 0, 1) := by decide +kernel
theorem dX7_end_17 : decode cX7_end 17 = .ok (.getfield 69, 3) := by decide +kernel
theorem dX7_end_20 : decode cX7_end 20 = .ok (.istore_n 2, 1) := by decide +kernel
theorem dX7_end_21 : decode cX7_end 21 = .ok (.aload_n 0, 1) := by decide +kernel
theorem dX7_end_22 : decode cX7_end 22 = .ok (.iload_n 1, 1) := by decide +kernel
theorem dX7_end_23 : decode cX7_end 23 = .ok (.putfield 69, 3) := by decide +kernel
theorem dX7_end_26 : decode cX7_end 26 = .ok (.iload_n 2, 1) := by decide +kernel
theorem dX7_end_27 : decode cX7_end 27 = .ok (.ireturn, 1) := by decide +kernel
theorem dX7_needs_0 : decode cX7_needs 0 = .ok (.iload_n 1, 1) := by decide +kernel
theorem dX7_needs_1 : decode cX7_needs 1 = .ok (.ifCond .ne 23, 3) := by decide +kernel
theorem dX7_needs_4 : decode cX7_needs 4 = .ok (.aload_n 0, 1) := by decide +kernel
theorem dX7_needs_5 : decode cX7_needs 5 = .ok (.getfield 72, 3) := by decide +kernel
theorem dX7_needs_8 : decode cX7_needs 8 = .ok (.ifCond .ne 16, 3) := by decide +kernel
theorem dX7_needs_11 : decode cX7_needs 11 = .ok (.aload_n 0, 1) := by decide +kernel
theorem dX7_needs_12 : decode cX7_needs 12 = .ok (.iload_n 2, 1) := by decide +kernel
theorem dX7_needs_13 : decode cX7_needs 13 = .ok (.putfield 72, 3) := by decide +kernel
theorem dX7_needs_16 : decode cX7_needs 16 = .ok (.aload_n 0, 1) := by decide +kernel
theorem dX7_needs_17 : decode cX7_needs 17 = .ok (.aload_n 0, 1) := by decide +kernel
theorem dX7_needs_18 : decode cX7_needs 18 = .ok (.getfield 75, 3) := by decide +kernel
theorem dX7_needs_21 : decode cX7_needs 21 = .ok (.putfield 78, 3) := by decide +kernel
theorem dX7_needs_24 : decode cX7_needs 24 = .ok (.return_, 1) := by decide +kernel
theorem dX7_byteAt_0 : decode cX7_byteAt 0 = .ok (.iload_n 1, 1) := by decide +kernel
theorem dX7_byteAt_1 : decode cX7_byteAt 1 = .ok (.aload_n 0, 1) := by decide +kernel
theorem dX7_byteAt_2 : decode cX7_byteAt 2 = .ok (.getfield 69, 3) := by decide +kernel
theorem dX7_byteAt_5 : decode cX7_byteAt 5 = .ok (.if_icmp .ge 12, 3) := by decide +kernel
theorem dX7_byteAt_8 : decode cX7_byteAt 8 = .ok (.aload_n 0, 1) := by decide +kernel
theorem dX7_byteAt_9 : decode cX7_byteAt 9 = .ok (.getfield 23, 3) := by decide +kernel
theorem dX7_byteAt_12 : decode cX7_byteAt 12 = .ok (.iload_n 1, 1) := by decide +kernel
theorem dX7_byteAt_13 : decode cX7_byteAt 13 = .ok (.iaload, 1) := by decide +kernel
theorem dX7_byteAt_14 : decode cX7_byteAt 14 = .ok (.goto 4, 3) := by decide +kernel
theorem dX7_byteAt_17 : decode cX7_byteAt 17 = .ok (.iconst (-1), 1) := by decide +kernel
theorem dX7_byteAt_18 : decode cX7_byteAt 18 = .ok (.ireturn, 1) := by decide +kernel
theorem dX7_is_0 : decode cX7_is 0 = .ok (.aload_n 0, 1) := by decide +kernel
theorem dX7_is_1 : decode cX7_is 1 = .ok (.getfield 81, 3) := by decide +kernel
theorem dX7_is_4 : decode cX7_is 4 = .ok (.aload_n 0, 1) := by decide +kernel
theorem dX7_is_5 : decode cX7_is 5 = .ok (.getfield 75, 3) := by decide +kernel
theorem dX7_is_8 : decode cX7_is 8 = .ok (.isub, 1) := by decide +kernel
theorem dX7_is_9 : decode cX7_is 9 = .ok (.iload_n 1, 1) := by decide +kernel
theorem dX7_is_10 : decode cX7_is 10 = .ok (.if_icmp .ne 48, 3) := by decide +kernel
theorem dX7_is_13 : decode cX7_is 13 = .ok (.aload_n 0, 1) := by decide +kernel
theorem dX7_is_14 : decode cX7_is 14 = .ok (.aload_n 0, 1) := by decide +kernel
theorem dX7_is_15 : decode cX7_is 15 = .ok (.getfield 75, 3) := by decide +kernel
theorem dX7_is_18 : decode cX7_is 18 = .ok (.invokevirtual 84, 3) := by decide +kernel
theorem dX7_is_21 : decode cX7_is 21 = .ok (.iload_n 2, 1) := by decide +kernel
theorem dX7_is_22 : decode cX7_is 22 = .ok (.if_icmp .ne 36, 3) := by decide +kernel
theorem dX7_is_25 : decode cX7_is 25 = .ok (.aload_n 0, 1) := by decide +kernel
theorem dX7_is_26 : decode cX7_is 26 = .ok (.aload_n 0, 1) := by decide +kernel
theorem dX7_is_27 : decode cX7_is 27 = .ok (.getfield 75, 3) := by decide +kernel
theorem dX7_is_30 : decode cX7_is 30 = .ok (.iconst 1, 1) := by decide +kernel
theorem dX7_is_31 : decode cX7_is 31 = .ok (.iadd, 1) := by decide +kernel
theorem dX7_is_32 : decode cX7_is 32 = .ok (.invokevirtual 84, 3) := by decide +kernel
theorem dX7_is_35 : decode cX7_is 35 = .ok (.iload_n 3, 1) := by decide +kernel
theorem dX7_is_36 : decode cX7_is 36 = .ok (.if_icmp .ne 22, 3) := by decide +kernel
theorem dX7_is_39 : decode cX7_is 39 = .ok (.aload_n 0, 1) := by decide +kernel
theorem dX7_is_40 : decode cX7_is 40 = .ok (.aload_n 0, 1) := by decide +kernel
theorem dX7_is_41 : decode cX7_is 41 = .ok (.getfield 75, 3) := by decide +kernel
theorem dX7_is_44 : decode cX7_is 44 = .ok (.iconst 2, 1) := by decide +kernel
theorem dX7_is_45 : decode cX7_is 45 = .ok (.iadd, 1) := by decide +kernel
theorem dX7_is_46 : decode cX7_is 46 = .ok (.invokevirtual 84, 3) := by decide +kernel
theorem dX7_is_49 : decode cX7_is 49 = .ok (.iload 4, 2) := by decide +kernel
theorem dX7_is_51 : decode cX7_is 51 = .ok (.if_icmp .ne 7, 3) := by decide +kernel
theorem dX7_is_54 : decode cX7_is 54 = .ok (.iconst 1, 1) := by decide +kernel
theorem dX7_is_55 : decode cX7_is 55 = .ok (.goto 4, 3) := by decide +kernel
theorem dX7_is_58 : decode cX7_is 58 = .ok (.iconst 0, 1) := by decide +kernel
theorem dX7_is_59 : decode cX7_is 59 = .ok (.ireturn, 1) := by decide +kernel
theorem dX7_ends_0 : decode cX7_ends 0 = .ok (.aload_n 0, 1) := by decide +kernel
theorem dX7_ends_1 : decode cX7_ends 1 = .ok (.aload_n 0, 1) := by decide +kernel
theorem dX7_ends_2 : decode cX7_ends 2 = .ok (.getfield 75, 3) := by decide +kernel
theorem dX7_ends_5 : decode cX7_ends 5 = .ok (.iconst 3, 1) := by decide +kernel
theorem dX7_ends_6 : decode cX7_ends 6 = .ok (.iadd, 1) := by decide +kernel
theorem dX7_ends_7 : decode cX7_ends 7 = .ok (.invokevirtual 84, 3) := by decide +kernel
theorem dX7_ends_10 : decode cX7_ends 10 = .ok (.iload_n 1, 1) := by decide +kernel
theorem dX7_ends_11 : decode cX7_ends 11 = .ok (.if_icmp .ne 43, 3) := by decide +kernel
theorem dX7_ends_14 : decode cX7_ends 14 = .ok (.iload_n 2, 1) := by decide +kernel
theorem dX7_ends_15 : decode cX7_ends 15 = .ok (.ifCond .eq 17, 3) := by decide +kernel
theorem dX7_ends_18 : decode cX7_ends 18 = .ok (.aload_n 0, 1) := by decide +kernel
theorem dX7_ends_19 : decode cX7_ends 19 = .ok (.aload_n 0, 1) := by decide +kernel
theorem dX7_ends_20 : decode cX7_ends 20 = .ok (.getfield 75, 3) := by decide +kernel
theorem dX7_ends_23 : decode cX7_ends 23 = .ok (.iconst 4, 1) := by decide +kernel
theorem dX7_ends_24 : decode cX7_ends 24 = .ok (.iadd, 1) := by decide +kernel
theorem dX7_ends_25 : decode cX7_ends 25 = .ok (.invokevirtual 84, 3) := by decide +kernel
theorem dX7_ends_28 : decode cX7_ends 28 = .ok (.iload_n 2, 1) := by decide +kernel
theorem dX7_ends_29 : decode cX7_ends 29 = .ok (.if_icmp .ne 25, 3) := by decide +kernel
theorem dX7_ends_32 : decode cX7_ends 32 = .ok (.iload_n 3, 1) := by decide +kernel
theorem dX7_ends_33 : decode cX7_ends 33 = .ok (.ifCond .eq 17, 3) := by decide +kernel
theorem dX7_ends_36 : decode cX7_ends 36 = .ok (.aload_n 0, 1) := by decide +kernel
theorem dX7_ends_37 : decode cX7_ends 37 = .ok (.aload_n 0, 1) := by decide +kernel
theorem dX7_ends_38 : decode cX7_ends 38 = .ok (.getfield 75, 3) := by decide +kernel
theorem dX7_ends_41 : decode cX7_ends 41 = .ok (.iconst 5, 1) := by decide +kernel
theorem dX7_ends_42 : decode cX7_ends 42 = .ok (.iadd, 1) := by decide +kernel
theorem dX7_ends_43 : decode cX7_ends 43 = .ok (.invokevirtual 84, 3) := by decide +kernel
theorem dX7_ends_46 : decode cX7_ends 46 = .ok (.iload_n 3, 1) := by decide +kernel
theorem dX7_ends_47 : decode cX7_ends 47 = .ok (.if_icmp .ne 7, 3) := by decide +kernel
theorem dX7_ends_50 : decode cX7_ends 50 = .ok (.iconst 1, 1) := by decide +kernel
theorem dX7_ends_51 : decode cX7_ends 51 = .ok (.goto 4, 3) := by decide +kernel
theorem dX7_ends_54 : decode cX7_ends 54 = .ok (.iconst 0, 1) := by decide +kernel
theorem dX7_ends_55 : decode cX7_ends 55 = .ok (.ireturn, 1) := by decide +kernel
theorem dX7_lineNow_0 : decode cX7_lineNow 0 = .ok (.aload_n 0, 1) := by decide +kernel
theorem dX7_lineNow_1 : decode cX7_lineNow 1 = .ok (.iconst 3, 1) := by decide +kernel
theorem dX7_lineNow_2 : decode cX7_lineNow 2 = .ok (.bipush 114, 2) := by decide +kernel
theorem dX7_lineNow_4 : decode cX7_lineNow 4 = .ok (.bipush 101, 2) := by decide +kernel
theorem dX7_lineNow_6 : decode cX7_lineNow 6 = .ok (.bipush 100, 2) := by decide +kernel
theorem dX7_lineNow_8 : decode cX7_lineNow 8 = .ok (.invokevirtual 88, 3) := by decide +kernel
theorem dX7_lineNow_11 : decode cX7_lineNow 11 = .ok (.ifCond .eq 5, 3) := by decide +kernel
theorem dX7_lineNow_14 : decode cX7_lineNow 14 = .ok (.iconst 0, 1) := by decide +kernel
theorem dX7_lineNow_15 : decode cX7_lineNow 15 = .ok (.ireturn, 1) := by decide +kernel
theorem dX7_lineNow_16 : decode cX7_lineNow 16 = .ok (.aload_n 0, 1) := by decide +kernel
theorem dX7_lineNow_17 : decode cX7_lineNow 17 = .ok (.bipush 6, 2) := by decide +kernel
theorem dX7_lineNow_19 : decode cX7_lineNow 19 = .ok (.bipush 121, 2) := by decide +kernel
theorem dX7_lineNow_21 : decode cX7_lineNow 21 = .ok (.bipush 101, 2) := by decide +kernel
theorem dX7_lineNow_23 : decode cX7_lineNow 23 = .ok (.bipush 108, 2) := by decide +kernel
theorem dX7_lineNow_25 : decode cX7_lineNow 25 = .ok (.invokevirtual 88, 3) := by decide +kernel
theorem dX7_lineNow_28 : decode cX7_lineNow 28 = .ok (.ifCond .eq 18, 3) := by decide +kernel
theorem dX7_lineNow_31 : decode cX7_lineNow 31 = .ok (.aload_n 0, 1) := by decide +kernel
theorem dX7_lineNow_32 : decode cX7_lineNow 32 = .ok (.bipush 108, 2) := by decide +kernel
theorem dX7_lineNow_34 : decode cX7_lineNow 34 = .ok (.bipush 111, 2) := by decide +kernel
theorem dX7_lineNow_36 : decode cX7_lineNow 36 = .ok (.bipush 119, 2) := by decide +kernel
theorem dX7_lineNow_38 : decode cX7_lineNow 38 = .ok (.invokevirtual 92, 3) := by decide +kernel
theorem dX7_lineNow_41 : decode cX7_lineNow 41 = .ok (.ifCond .eq 5, 3) := by decide +kernel
theorem dX7_lineNow_44 : decode cX7_lineNow 44 = .ok (.iconst 1, 1) := by decide +kernel
theorem dX7_lineNow_45 : decode cX7_lineNow 45 = .ok (.ireturn, 1) := by decide +kernel
theorem dX7_lineNow_46 : decode cX7_lineNow 46 = .ok (.aload_n 0, 1) := by decide +kernel
theorem dX7_lineNow_47 : decode cX7_lineNow 47 = .ok (.bipush 6, 2) := by decide +kernel
theorem dX7_lineNow_49 : decode cX7_lineNow 49 = .ok (.bipush 111, 2) := by decide +kernel
theorem dX7_lineNow_51 : decode cX7_lineNow 51 = .ok (.bipush 114, 2) := by decide +kernel
theorem dX7_lineNow_53 : decode cX7_lineNow 53 = .ok (.bipush 112, 2) := by decide +kernel
theorem dX7_lineNow_55 : decode cX7_lineNow 55 = .ok (.invokevirtual 88, 3) := by decide +kernel
theorem dX7_lineNow_58 : decode cX7_lineNow 58 = .ok (.ifCond .eq 18, 3) := by decide +kernel
theorem dX7_lineNow_61 : decode cX7_lineNow 61 = .ok (.aload_n 0, 1) := by decide +kernel
theorem dX7_lineNow_62 : decode cX7_lineNow 62 = .ok (.bipush 104, 2) := by decide +kernel
theorem dX7_lineNow_64 : decode cX7_lineNow 64 = .ok (.bipush 97, 2) := by decide +kernel
theorem dX7_lineNow_66 : decode cX7_lineNow 66 = .ok (.bipush 110, 2) := by decide +kernel
theorem dX7_lineNow_68 : decode cX7_lineNow 68 = .ok (.invokevirtual 92, 3) := by decide +kernel
theorem dX7_lineNow_71 : decode cX7_lineNow 71 = .ok (.ifCond .eq 5, 3) := by decide +kernel
theorem dX7_lineNow_74 : decode cX7_lineNow 74 = .ok (.iconst 2, 1) := by decide +kernel
theorem dX7_lineNow_75 : decode cX7_lineNow 75 = .ok (.ireturn, 1) := by decide +kernel
theorem dX7_lineNow_76 : decode cX7_lineNow 76 = .ok (.aload_n 0, 1) := by decide +kernel
theorem dX7_lineNow_77 : decode cX7_lineNow 77 = .ok (.iconst 3, 1) := by decide +kernel
theorem dX7_lineNow_78 : decode cX7_lineNow 78 = .ok (.bipush 112, 2) := by decide +kernel
theorem dX7_lineNow_80 : decode cX7_lineNow 80 = .ok (.bipush 105, 2) := by decide +kernel
theorem dX7_lineNow_82 : decode cX7_lineNow 82 = .ok (.bipush 110, 2) := by decide +kernel
theorem dX7_lineNow_84 : decode cX7_lineNow 84 = .ok (.invokevirtual 88, 3) := by decide +kernel
theorem dX7_lineNow_87 : decode cX7_lineNow 87 = .ok (.ifCond .eq 5, 3) := by decide +kernel
theorem dX7_lineNow_90 : decode cX7_lineNow 90 = .ok (.iconst 3, 1) := by decide +kernel
theorem dX7_lineNow_91 : decode cX7_lineNow 91 = .ok (.ireturn, 1) := by decide +kernel
theorem dX7_lineNow_92 : decode cX7_lineNow 92 = .ok (.aload_n 0, 1) := by decide +kernel
theorem dX7_lineNow_93 : decode cX7_lineNow 93 = .ok (.iconst 3, 1) := by decide +kernel
theorem dX7_lineNow_94 : decode cX7_lineNow 94 = .ok (.bipush 111, 2) := by decide +kernel
theorem dX7_lineNow_96 : decode cX7_lineNow 96 = .ok (.bipush 110, 2) := by decide +kernel
theorem dX7_lineNow_98 : decode cX7_lineNow 98 = .ok (.bipush 101, 2) := by decide +kernel
theorem dX7_lineNow_100 : decode cX7_lineNow 100 = .ok (.invokevirtual 88, 3) := by decide +kernel
theorem dX7_lineNow_103 : decode cX7_lineNow 103 = .ok (.ifCond .eq 7, 3) := by decide +kernel
theorem dX7_lineNow_106 : decode cX7_lineNow 106 = .ok (.iconst 4, 1) := by decide +kernel
theorem dX7_lineNow_107 : decode cX7_lineNow 107 = .ok (.goto 34, 3) := by decide +kernel
theorem dX7_lineNow_110 : decode cX7_lineNow 110 = .ok (.aload_n 0, 1) := by decide +kernel
theorem dX7_lineNow_111 : decode cX7_lineNow 111 = .ok (.iconst 4, 1) := by decide +kernel
theorem dX7_lineNow_112 : decode cX7_lineNow 112 = .ok (.bipush 119, 2) := by decide +kernel
theorem dX7_lineNow_114 : decode cX7_lineNow 114 = .ok (.bipush 105, 2) := by decide +kernel
theorem dX7_lineNow_116 : decode cX7_lineNow 116 = .ok (.bipush 110, 2) := by decide +kernel
theorem dX7_lineNow_118 : decode cX7_lineNow 118 = .ok (.invokevirtual 88, 3) := by decide +kernel
theorem dX7_lineNow_121 : decode cX7_lineNow 121 = .ok (.ifCond .eq 18, 3) := by decide +kernel
theorem dX7_lineNow_124 : decode cX7_lineNow 124 = .ok (.aload_n 0, 1) := by decide +kernel
theorem dX7_lineNow_125 : decode cX7_lineNow 125 = .ok (.bipush 100, 2) := by decide +kernel
theorem dX7_lineNow_127 : decode cX7_lineNow 127 = .ok (.iconst 0, 1) := by decide +kernel
theorem dX7_lineNow_128 : decode cX7_lineNow 128 = .ok (.iconst 0, 1) := by decide +kernel
theorem dX7_lineNow_129 : decode cX7_lineNow 129 = .ok (.invokevirtual 92, 3) := by decide +kernel
theorem dX7_lineNow_132 : decode cX7_lineNow 132 = .ok (.ifCond .eq 7, 3) := by decide +kernel
theorem dX7_lineNow_135 : decode cX7_lineNow 135 = .ok (.iconst 5, 1) := by decide +kernel
theorem dX7_lineNow_136 : decode cX7_lineNow 136 = .ok (.goto 5, 3) := by decide +kernel
theorem dX7_lineNow_139 : decode cX7_lineNow 139 = .ok (.bipush (-4), 2) := by decide +kernel
theorem dX7_lineNow_141 : decode cX7_lineNow 141 = .ok (.ireturn, 1) := by decide +kernel
theorem dX7_takes_0 : decode cX7_takes 0 = .ok (.aload_n 0, 1) := by decide +kernel
theorem dX7_takes_1 : decode cX7_takes 1 = .ok (.getfield 72, 3) := by decide +kernel
theorem dX7_takes_4 : decode cX7_takes 4 = .ok (.ifCond .le 4, 3) := by decide +kernel
theorem dX7_takes_7 : decode cX7_takes 7 = .ok (.return_, 1) := by decide +kernel
theorem dX7_takes_8 : decode cX7_takes 8 = .ok (.aload_n 0, 1) := by decide +kernel
theorem dX7_takes_9 : decode cX7_takes 9 = .ok (.aload_n 0, 1) := by decide +kernel
theorem dX7_takes_10 : decode cX7_takes 10 = .ok (.getfield 81, 3) := by decide +kernel
theorem dX7_takes_13 : decode cX7_takes 13 = .ok (.invokevirtual 84, 3) := by decide +kernel
theorem dX7_takes_16 : decode cX7_takes 16 = .ok (.bipush 32, 2) := by decide +kernel
theorem dX7_takes_18 : decode cX7_takes 18 = .ok (.if_icmp .ne 16, 3) := by decide +kernel
theorem dX7_takes_21 : decode cX7_takes 21 = .ok (.aload_n 0, 1) := by decide +kernel
theorem dX7_takes_22 : decode cX7_takes 22 = .ok (.dup, 1) := by decide +kernel
theorem dX7_takes_23 : decode cX7_takes 23 = .ok (.getfield 81, 3) := by decide +kernel
theorem dX7_takes_26 : decode cX7_takes 26 = .ok (.iconst 1, 1) := by decide +kernel
theorem dX7_takes_27 : decode cX7_takes 27 = .ok (.iadd, 1) := by decide +kernel
theorem dX7_takes_28 : decode cX7_takes 28 = .ok (.putfield 81, 3) := by decide +kernel
theorem dX7_takes_31 : decode cX7_takes 31 = .ok (.goto (-23), 3) := by decide +kernel
theorem dX7_takes_34 : decode cX7_takes 34 = .ok (.aload_n 0, 1) := by decide +kernel
theorem dX7_takes_35 : decode cX7_takes 35 = .ok (.aload_n 0, 1) := by decide +kernel
theorem dX7_takes_36 : decode cX7_takes 36 = .ok (.getfield 81, 3) := by decide +kernel
theorem dX7_takes_39 : decode cX7_takes 39 = .ok (.putfield 75, 3) := by decide +kernel
theorem dX7_takes_42 : decode cX7_takes 42 = .ok (.aload_n 0, 1) := by decide +kernel
theorem dX7_takes_43 : decode cX7_takes 43 = .ok (.aload_n 0, 1) := by decide +kernel
theorem dX7_takes_44 : decode cX7_takes 44 = .ok (.getfield 81, 3) := by decide +kernel
theorem dX7_takes_47 : decode cX7_takes 47 = .ok (.invokevirtual 84, 3) := by decide +kernel
theorem dX7_takes_50 : decode cX7_takes 50 = .ok (.istore_n 1, 1) := by decide +kernel
theorem dX7_takes_51 : decode cX7_takes 51 = .ok (.iload_n 1, 1) := by decide +kernel
theorem dX7_takes_52 : decode cX7_takes 52 = .ok (.ifCond .ge 11, 3) := by decide +kernel
theorem dX7_takes_55 : decode cX7_takes 55 = .ok (.aload_n 0, 1) := by decide +kernel
theorem dX7_takes_56 : decode cX7_takes 56 = .ok (.iconst 0, 1) := by decide +kernel
theorem dX7_takes_57 : decode cX7_takes 57 = .ok (.putfield 96, 3) := by decide +kernel
theorem dX7_takes_60 : decode cX7_takes 60 = .ok (.goto 214, 3) := by decide +kernel
theorem dX7_takes_63 : decode cX7_takes 63 = .ok (.iload_n 1, 1) := by decide +kernel
theorem dX7_takes_64 : decode cX7_takes 64 = .ok (.i2l, 1) := by decide +kernel
theorem dX7_takes_65 : decode cX7_takes 65 = .ok (.ldc2_w 99, 3) := by decide +kernel
theorem dX7_takes_68 : decode cX7_takes 68 = .ok (.ldc2_w 101, 3) := by decide +kernel
theorem dX7_takes_71 : decode cX7_takes 71 = .ok (.invokestatic 65, 3) := by decide +kernel
theorem dX7_takes_74 : decode cX7_takes 74 = .ok (.ifCond .eq 42, 3) := by decide +kernel
theorem dX7_takes_77 : decode cX7_takes 77 = .ok (.aload_n 0, 1) := by decide +kernel
theorem dX7_takes_78 : decode cX7_takes 78 = .ok (.iconst 1, 1) := by decide +kernel
theorem dX7_takes_79 : decode cX7_takes 79 = .ok (.putfield 96, 3) := by decide +kernel
theorem dX7_takes_82 : decode cX7_takes 82 = .ok (.aload_n 0, 1) := by decide +kernel
theorem dX7_takes_83 : decode cX7_takes 83 = .ok (.aload_n 0, 1) := by decide +kernel
theorem dX7_takes_84 : decode cX7_takes 84 = .ok (.getfield 81, 3) := by decide +kernel
theorem dX7_takes_87 : decode cX7_takes 87 = .ok (.invokevirtual 84, 3) := by decide +kernel
theorem dX7_takes_90 : decode cX7_takes 90 = .ok (.i2l, 1) := by decide +kernel
theorem dX7_takes_91 : decode cX7_takes 91 = .ok (.ldc2_w 99, 3) := by decide +kernel
theorem dX7_takes_94 : decode cX7_takes 94 = .ok (.ldc2_w 101, 3) := by decide +kernel
theorem dX7_takes_97 : decode cX7_takes 97 = .ok (.invokestatic 65, 3) := by decide +kernel
theorem dX7_takes_100 : decode cX7_takes 100 = .ok (.ifCond .eq 174, 3) := by decide +kernel
theorem dX7_takes_103 : decode cX7_takes 103 = .ok (.aload_n 0, 1) := by decide +kernel
theorem dX7_takes_104 : decode cX7_takes 104 = .ok (.dup, 1) := by decide +kernel
theorem dX7_takes_105 : decode cX7_takes 105 = .ok (.getfield 81, 3) := by decide +kernel
theorem dX7_takes_108 : decode cX7_takes 108 = .ok (.iconst 1, 1) := by decide +kernel
theorem dX7_takes_109 : decode cX7_takes 109 = .ok (.iadd, 1) := by decide +kernel
theorem dX7_takes_110 : decode cX7_takes 110 = .ok (.putfield 81, 3) := by decide +kernel
theorem dX7_takes_113 : decode cX7_takes 113 = .ok (.goto (-31), 3) := by decide +kernel
theorem dX7_takes_116 : decode cX7_takes 116 = .ok (.iload_n 1, 1) := by decide +kernel
theorem dX7_takes_117 : decode cX7_takes 117 = .ok (.i2l, 1) := by decide +kernel
theorem dX7_takes_118 : decode cX7_takes 118 = .ok (.ldc2_w 103, 3) := by decide +kernel
theorem dX7_takes_121 : decode cX7_takes 121 = .ok (.ldc2_w 105, 3) := by decide +kernel
theorem dX7_takes_124 : decode cX7_takes 124 = .ok (.invokestatic 65, 3) := by decide +kernel
theorem dX7_takes_127 : decode cX7_takes 127 = .ok (.ifCond .eq 116, 3) := by decide +kernel
theorem dX7_takes_130 : decode cX7_takes 130 = .ok (.aload_n 0, 1) := by decide +kernel
theorem dX7_takes_131 : decode cX7_takes 131 = .ok (.iconst 2, 1) := by decide +kernel
theorem dX7_takes_132 : decode cX7_takes 132 = .ok (.putfield 96, 3) := by decide +kernel
theorem dX7_takes_135 : decode cX7_takes 135 = .ok (.aload_n 0, 1) := by decide +kernel
theorem dX7_takes_136 : decode cX7_takes 136 = .ok (.iconst 0, 1) := by decide +kernel
theorem dX7_takes_137 : decode cX7_takes 137 = .ok (.putfield 107, 3) := by decide +kernel
theorem dX7_takes_140 : decode cX7_takes 140 = .ok (.aload_n 0, 1) := by decide +kernel
theorem dX7_takes_141 : decode cX7_takes 141 = .ok (.aload_n 0, 1) := by decide +kernel
theorem dX7_takes_142 : decode cX7_takes 142 = .ok (.getfield 81, 3) := by decide +kernel
theorem dX7_takes_145 : decode cX7_takes 145 = .ok (.invokevirtual 84, 3) := by decide +kernel
theorem dX7_takes_148 : decode cX7_takes 148 = .ok (.i2l, 1) := by decide +kernel
theorem dX7_takes_149 : decode cX7_takes 149 = .ok (.ldc2_w 103, 3) := by decide +kernel
theorem dX7_takes_152 : decode cX7_takes 152 = .ok (.ldc2_w 105, 3) := by decide +kernel
theorem dX7_takes_155 : decode cX7_takes 155 = .ok (.invokestatic 65, 3) := by decide +kernel
theorem dX7_takes_158 : decode cX7_takes 158 = .ok (.ifCond .eq 59, 3) := by decide +kernel
theorem dX7_takes_161 : decode cX7_takes 161 = .ok (.aload_n 0, 1) := by decide +kernel
theorem dX7_takes_162 : decode cX7_takes 162 = .ok (.aload_n 0, 1) := by decide +kernel
theorem dX7_takes_163 : decode cX7_takes 163 = .ok (.getfield 81, 3) := by decide +kernel
theorem dX7_takes_166 : decode cX7_takes 166 = .ok (.aload_n 0, 1) := by decide +kernel
theorem dX7_takes_167 : decode cX7_takes 167 = .ok (.getfield 75, 3) := by decide +kernel
theorem dX7_takes_170 : decode cX7_takes 170 = .ok (.isub, 1) := by decide +kernel
theorem dX7_takes_171 : decode cX7_takes 171 = .ok (.iconst 2, 1) := by decide +kernel
theorem dX7_takes_172 : decode cX7_takes 172 = .ok (.if_icmp .ge 25, 3) := by decide +kernel
theorem dX7_takes_175 : decode cX7_takes 175 = .ok (.bipush 10, 2) := by decide +kernel
theorem dX7_takes_177 : decode cX7_takes 177 = .ok (.aload_n 0, 1) := by decide +kernel
theorem dX7_takes_178 : decode cX7_takes 178 = .ok (.getfield 107, 3) := by decide +kernel
theorem dX7_takes_181 : decode cX7_takes 181 = .ok (.imul, 1) := by decide +kernel
theorem dX7_takes_182 : decode cX7_takes 182 = .ok (.aload_n 0, 1) := by decide +kernel
theorem dX7_takes_183 : decode cX7_takes 183 = .ok (.aload_n 0, 1) := by decide +kernel
theorem dX7_takes_184 : decode cX7_takes 184 = .ok (.getfield 81, 3) := by decide +kernel
theorem dX7_takes_187 : decode cX7_takes 187 = .ok (.invokevirtual 84, 3) := by decide +kernel
theorem dX7_takes_190 : decode cX7_takes 190 = .ok (.iadd, 1) := by decide +kernel
theorem dX7_takes_191 : decode cX7_takes 191 = .ok (.bipush 48, 2) := by decide +kernel
theorem dX7_takes_193 : decode cX7_takes 193 = .ok (.isub, 1) := by decide +kernel
theorem dX7_takes_194 : decode cX7_takes 194 = .ok (.goto 7, 3) := by decide +kernel
theorem dX7_takes_197 : decode cX7_takes 197 = .ok (.aload_n 0, 1) := by decide +kernel
theorem dX7_takes_198 : decode cX7_takes 198 = .ok (.getfield 107, 3) := by decide +kernel
theorem dX7_takes_201 : decode cX7_takes 201 = .ok (.putfield 107, 3) := by decide +kernel
theorem dX7_takes_204 : decode cX7_takes 204 = .ok (.aload_n 0, 1) := by decide +kernel
theorem dX7_takes_205 : decode cX7_takes 205 = .ok (.dup, 1) := by decide +kernel
theorem dX7_takes_206 : decode cX7_takes 206 = .ok (.getfield 81, 3) := by decide +kernel
theorem dX7_takes_209 : decode cX7_takes 209 = .ok (.iconst 1, 1) := by decide +kernel
theorem dX7_takes_210 : decode cX7_takes 210 = .ok (.iadd, 1) := by decide +kernel
theorem dX7_takes_211 : decode cX7_takes 211 = .ok (.putfield 81, 3) := by decide +kernel
theorem dX7_takes_214 : decode cX7_takes 214 = .ok (.goto (-74), 3) := by decide +kernel
theorem dX7_takes_217 : decode cX7_takes 217 = .ok (.aload_n 0, 1) := by decide +kernel
theorem dX7_takes_218 : decode cX7_takes 218 = .ok (.aload_n 0, 1) := by decide +kernel
theorem dX7_takes_219 : decode cX7_takes 219 = .ok (.getfield 81, 3) := by decide +kernel
theorem dX7_takes_222 : decode cX7_takes 222 = .ok (.aload_n 0, 1) := by decide +kernel
theorem dX7_takes_223 : decode cX7_takes 223 = .ok (.getfield 75, 3) := by decide +kernel
theorem dX7_takes_226 : decode cX7_takes 226 = .ok (.isub, 1) := by decide +kernel
theorem dX7_takes_227 : decode cX7_takes 227 = .ok (.iconst 2, 1) := by decide +kernel
theorem dX7_takes_228 : decode cX7_takes 228 = .ok (.if_icmp .gt 7, 3) := by decide +kernel
theorem dX7_takes_231 : decode cX7_takes 231 = .ok (.iconst 1, 1) := by decide +kernel
theorem dX7_takes_232 : decode cX7_takes 232 = .ok (.goto 4, 3) := by decide +kernel
theorem dX7_takes_235 : decode cX7_takes 235 = .ok (.iconst 0, 1) := by decide +kernel
theorem dX7_takes_236 : decode cX7_takes 236 = .ok (.iconst 1, 1) := by decide +kernel
theorem dX7_takes_237 : decode cX7_takes 237 = .ok (.invokevirtual 110, 3) := by decide +kernel
theorem dX7_takes_240 : decode cX7_takes 240 = .ok (.goto 34, 3) := by decide +kernel
theorem dX7_takes_243 : decode cX7_takes 243 = .ok (.aload_n 0, 1) := by decide +kernel
theorem dX7_takes_244 : decode cX7_takes 244 = .ok (.iconst 3, 1) := by decide +kernel
theorem dX7_takes_245 : decode cX7_takes 245 = .ok (.putfield 96, 3) := by decide +kernel
theorem dX7_takes_248 : decode cX7_takes 248 = .ok (.aload_n 0, 1) := by decide +kernel
theorem dX7_takes_249 : decode cX7_takes 249 = .ok (.iload_n 1, 1) := by decide +kernel
theorem dX7_takes_250 : decode cX7_takes 250 = .ok (.bipush 59, 2) := by decide +kernel
theorem dX7_takes_252 : decode cX7_takes 252 = .ok (.if_icmp .ne 7, 3) := by decide +kernel
theorem dX7_takes_255 : decode cX7_takes 255 = .ok (.iconst 1, 1) := by decide +kernel
theorem dX7_takes_256 : decode cX7_takes 256 = .ok (.goto 4, 3) := by decide +kernel
theorem dX7_takes_259 : decode cX7_takes 259 = .ok (.iconst 0, 1) := by decide +kernel
theorem dX7_takes_260 : decode cX7_takes 260 = .ok (.iconst 1, 1) := by decide +kernel
theorem dX7_takes_261 : decode cX7_takes 261 = .ok (.invokevirtual 110, 3) := by decide +kernel
theorem dX7_takes_264 : decode cX7_takes 264 = .ok (.aload_n 0, 1) := by decide +kernel
theorem dX7_takes_265 : decode cX7_takes 265 = .ok (.dup, 1) := by decide +kernel
theorem dX7_takes_266 : decode cX7_takes 266 = .ok (.getfield 81, 3) := by decide +kernel
theorem dX7_takes_269 : decode cX7_takes 269 = .ok (.iconst 1, 1) := by decide +kernel
theorem dX7_takes_270 : decode cX7_takes 270 = .ok (.iadd, 1) := by decide +kernel
theorem dX7_takes_271 : decode cX7_takes 271 = .ok (.putfield 81, 3) := by decide +kernel
theorem dX7_takes_274 : decode cX7_takes 274 = .ok (.return_, 1) := by decide +kernel
theorem dX7_looked_0 : decode cX7_looked 0 = .ok (.aload_n 0, 1) := by decide +kernel
theorem dX7_looked_1 : decode cX7_looked 1 = .ok (.getfield 72, 3) := by decide +kernel
theorem dX7_looked_4 : decode cX7_looked 4 = .ok (.ifCond .ne 21, 3) := by decide +kernel
theorem dX7_looked_7 : decode cX7_looked 7 = .ok (.aload_n 0, 1) := by decide +kernel
theorem dX7_looked_8 : decode cX7_looked 8 = .ok (.aload_n 0, 1) := by decide +kernel
theorem dX7_looked_9 : decode cX7_looked 9 = .ok (.getfield 96, 3) := by decide +kernel
theorem dX7_looked_12 : decode cX7_looked 12 = .ok (.iconst 2, 1) := by decide +kernel
theorem dX7_looked_13 : decode cX7_looked 13 = .ok (.if_icmp .ne 7, 3) := by decide +kernel
theorem dX7_looked_16 : decode cX7_looked 16 = .ok (.iconst 1, 1) := by decide +kernel
theorem dX7_looked_17 : decode cX7_looked 17 = .ok (.goto 4, 3) := by decide +kernel
theorem dX7_looked_20 : decode cX7_looked 20 = .ok (.iconst 0, 1) := by decide +kernel
theorem dX7_looked_21 : decode cX7_looked 21 = .ok (.iconst 2, 1) := by decide +kernel
theorem dX7_looked_22 : decode cX7_looked 22 = .ok (.invokevirtual 110, 3) := by decide +kernel
theorem dX7_looked_25 : decode cX7_looked 25 = .ok (.aload_n 0, 1) := by decide +kernel
theorem dX7_looked_26 : decode cX7_looked 26 = .ok (.getfield 72, 3) := by decide +kernel
theorem dX7_looked_29 : decode cX7_looked 29 = .ok (.ifCond .ne 20, 3) := by decide +kernel
theorem dX7_looked_32 : decode cX7_looked 32 = .ok (.aload_n 0, 1) := by decide +kernel
theorem dX7_looked_33 : decode cX7_looked 33 = .ok (.aload_n 0, 1) := by decide +kernel
theorem dX7_looked_34 : decode cX7_looked 34 = .ok (.getfield 107, 3) := by decide +kernel
theorem dX7_looked_37 : decode cX7_looked 37 = .ok (.i2l, 1) := by decide +kernel
theorem dX7_looked_38 : decode cX7_looked 38 = .ok (.iload_n 1, 1) := by decide +kernel
theorem dX7_looked_39 : decode cX7_looked 39 = .ok (.i2l, 1) := by decide +kernel
theorem dX7_looked_40 : decode cX7_looked 40 = .ok (.iload_n 2, 1) := by decide +kernel
theorem dX7_looked_41 : decode cX7_looked 41 = .ok (.i2l, 1) := by decide +kernel
theorem dX7_looked_42 : decode cX7_looked 42 = .ok (.invokestatic 65, 3) := by decide +kernel
theorem dX7_looked_45 : decode cX7_looked 45 = .ok (.iconst 3, 1) := by decide +kernel
theorem dX7_looked_46 : decode cX7_looked 46 = .ok (.invokevirtual 110, 3) := by decide +kernel
theorem dX7_looked_49 : decode cX7_looked 49 = .ok (.aload_n 0, 1) := by decide +kernel
theorem dX7_looked_50 : decode cX7_looked 50 = .ok (.getfield 72, 3) := by decide +kernel
theorem dX7_looked_53 : decode cX7_looked 53 = .ok (.ifCond .ne 10, 3) := by decide +kernel
theorem dX7_looked_56 : decode cX7_looked 56 = .ok (.aload_n 0, 1) := by decide +kernel
theorem dX7_looked_57 : decode cX7_looked 57 = .ok (.getfield 107, 3) := by decide +kernel
theorem dX7_looked_60 : decode cX7_looked 60 = .ok (.goto 4, 3) := by decide +kernel
theorem dX7_looked_63 : decode cX7_looked 63 = .ok (.iconst 0, 1) := by decide +kernel
theorem dX7_looked_64 : decode cX7_looked 64 = .ok (.ireturn, 1) := by decide +kernel
theorem dX7_readNumber_0 : decode cX7_readNumber 0 = .ok (.aload_n 0, 1) := by decide +kernel
theorem dX7_readNumber_1 : decode cX7_readNumber 1 = .ok (.iload_n 1, 1) := by decide +kernel
theorem dX7_readNumber_2 : decode cX7_readNumber 2 = .ok (.iload_n 2, 1) := by decide +kernel
theorem dX7_readNumber_3 : decode cX7_readNumber 3 = .ok (.invokevirtual 114, 3) := by decide +kernel
theorem dX7_readNumber_6 : decode cX7_readNumber 6 = .ok (.istore_n 3, 1) := by decide +kernel
theorem dX7_readNumber_7 : decode cX7_readNumber 7 = .ok (.aload_n 0, 1) := by decide +kernel
theorem dX7_readNumber_8 : decode cX7_readNumber 8 = .ok (.invokevirtual 118, 3) := by decide +kernel
theorem dX7_readNumber_11 : decode cX7_readNumber 11 = .ok (.iload_n 3, 1) := by decide +kernel
theorem dX7_readNumber_12 : decode cX7_readNumber 12 = .ok (.ireturn, 1) := by decide +kernel
theorem dX7_readBeetle_0 : decode cX7_readBeetle 0 = .ok (.iconst 4, 1) := by decide +kernel
theorem dX7_readBeetle_1 : decode cX7_readBeetle 1 = .ok (.iconst 5, 1) := by decide +kernel
theorem dX7_readBeetle_2 : decode cX7_readBeetle 2 = .ok (.aload_n 0, 1) := by decide +kernel
theorem dX7_readBeetle_3 : decode cX7_readBeetle 3 = .ok (.getfield 20, 3) := by decide +kernel
theorem dX7_readBeetle_6 : decode cX7_readBeetle 6 = .ok (.bipush 34, 2) := by decide +kernel
theorem dX7_readBeetle_8 : decode cX7_readBeetle 8 = .ok (.iaload, 1) := by decide +kernel
theorem dX7_readBeetle_9 : decode cX7_readBeetle 9 = .ok (.imul, 1) := by decide +kernel
theorem dX7_readBeetle_10 : decode cX7_readBeetle 10 = .ok (.iadd, 1) := by decide +kernel
theorem dX7_readBeetle_11 : decode cX7_readBeetle 11 = .ok (.istore_n 2, 1) := by decide +kernel
theorem dX7_readBeetle_12 : decode cX7_readBeetle 12 = .ok (.aload_n 0, 1) := by decide +kernel
theorem dX7_readBeetle_13 : decode cX7_readBeetle 13 = .ok (.getfield 20, 3) := by decide +kernel
theorem dX7_readBeetle_16 : decode cX7_readBeetle 16 = .ok (.iload_n 2, 1) := by decide +kernel
theorem dX7_readBeetle_17 : decode cX7_readBeetle 17 = .ok (.iconst 0, 1) := by decide +kernel
theorem dX7_readBeetle_18 : decode cX7_readBeetle 18 = .ok (.iadd, 1) := by decide +kernel
theorem dX7_readBeetle_19 : decode cX7_readBeetle 19 = .ok (.iload_n 1, 1) := by decide +kernel
theorem dX7_readBeetle_20 : decode cX7_readBeetle 20 = .ok (.iastore, 1) := by decide +kernel
theorem dX7_readBeetle_21 : decode cX7_readBeetle 21 = .ok (.aload_n 0, 1) := by decide +kernel
theorem dX7_readBeetle_22 : decode cX7_readBeetle 22 = .ok (.getfield 20, 3) := by decide +kernel
theorem dX7_readBeetle_25 : decode cX7_readBeetle 25 = .ok (.iload_n 2, 1) := by decide +kernel
theorem dX7_readBeetle_26 : decode cX7_readBeetle 26 = .ok (.iconst 1, 1) := by decide +kernel
theorem dX7_readBeetle_27 : decode cX7_readBeetle 27 = .ok (.iadd, 1) := by decide +kernel
theorem dX7_readBeetle_28 : decode cX7_readBeetle 28 = .ok (.aload_n 0, 1) := by decide +kernel
theorem dX7_readBeetle_29 : decode cX7_readBeetle 29 = .ok (.iconst 1, 1) := by decide +kernel
theorem dX7_readBeetle_30 : decode cX7_readBeetle 30 = .ok (.bipush 9, 2) := by decide +kernel
theorem dX7_readBeetle_32 : decode cX7_readBeetle 32 = .ok (.invokevirtual 121, 3) := by decide +kernel
theorem dX7_readBeetle_35 : decode cX7_readBeetle 35 = .ok (.iastore, 1) := by decide +kernel
theorem dX7_readBeetle_36 : decode cX7_readBeetle 36 = .ok (.aload_n 0, 1) := by decide +kernel
theorem dX7_readBeetle_37 : decode cX7_readBeetle 37 = .ok (.getfield 20, 3) := by decide +kernel
theorem dX7_readBeetle_40 : decode cX7_readBeetle 40 = .ok (.iload_n 2, 1) := by decide +kernel
theorem dX7_readBeetle_41 : decode cX7_readBeetle 41 = .ok (.iconst 2, 1) := by decide +kernel
theorem dX7_readBeetle_42 : decode cX7_readBeetle 42 = .ok (.iadd, 1) := by decide +kernel
theorem dX7_readBeetle_43 : decode cX7_readBeetle 43 = .ok (.aload_n 0, 1) := by decide +kernel
theorem dX7_readBeetle_44 : decode cX7_readBeetle 44 = .ok (.iconst 0, 1) := by decide +kernel
theorem dX7_readBeetle_45 : decode cX7_readBeetle 45 = .ok (.iconst 3, 1) := by decide +kernel
theorem dX7_readBeetle_46 : decode cX7_readBeetle 46 = .ok (.invokevirtual 121, 3) := by decide +kernel
theorem dX7_readBeetle_49 : decode cX7_readBeetle 49 = .ok (.iastore, 1) := by decide +kernel
theorem dX7_readBeetle_50 : decode cX7_readBeetle 50 = .ok (.aload_n 0, 1) := by decide +kernel
theorem dX7_readBeetle_51 : decode cX7_readBeetle 51 = .ok (.aload_n 0, 1) := by decide +kernel
theorem dX7_readBeetle_52 : decode cX7_readBeetle 52 = .ok (.getfield 20, 3) := by decide +kernel
theorem dX7_readBeetle_55 : decode cX7_readBeetle 55 = .ok (.iload_n 2, 1) := by decide +kernel
theorem dX7_readBeetle_56 : decode cX7_readBeetle 56 = .ok (.iconst 2, 1) := by decide +kernel
theorem dX7_readBeetle_57 : decode cX7_readBeetle 57 = .ok (.iadd, 1) := by decide +kernel
theorem dX7_readBeetle_58 : decode cX7_readBeetle 58 = .ok (.iaload, 1) := by decide +kernel
theorem dX7_readBeetle_59 : decode cX7_readBeetle 59 = .ok (.aload_n 0, 1) := by decide +kernel
theorem dX7_readBeetle_60 : decode cX7_readBeetle 60 = .ok (.getfield 57, 3) := by decide +kernel
theorem dX7_readBeetle_63 : decode cX7_readBeetle 63 = .ok (.if_icmp .le 14, 3) := by decide +kernel
theorem dX7_readBeetle_66 : decode cX7_readBeetle 66 = .ok (.aload_n 0, 1) := by decide +kernel
theorem dX7_readBeetle_67 : decode cX7_readBeetle 67 = .ok (.getfield 20, 3) := by decide +kernel
theorem dX7_readBeetle_70 : decode cX7_readBeetle 70 = .ok (.iload_n 2, 1) := by decide +kernel
theorem dX7_readBeetle_71 : decode cX7_readBeetle 71 = .ok (.iconst 2, 1) := by decide +kernel
theorem dX7_readBeetle_72 : decode cX7_readBeetle 72 = .ok (.iadd, 1) := by decide +kernel
theorem dX7_readBeetle_73 : decode cX7_readBeetle 73 = .ok (.iaload, 1) := by decide +kernel
theorem dX7_readBeetle_74 : decode cX7_readBeetle 74 = .ok (.goto 7, 3) := by decide +kernel
theorem dX7_readBeetle_77 : decode cX7_readBeetle 77 = .ok (.aload_n 0, 1) := by decide +kernel
theorem dX7_readBeetle_78 : decode cX7_readBeetle 78 = .ok (.getfield 57, 3) := by decide +kernel
theorem dX7_readBeetle_81 : decode cX7_readBeetle 81 = .ok (.putfield 57, 3) := by decide +kernel
theorem dX7_readBeetle_84 : decode cX7_readBeetle 84 = .ok (.aload_n 0, 1) := by decide +kernel
theorem dX7_readBeetle_85 : decode cX7_readBeetle 85 = .ok (.getfield 20, 3) := by decide +kernel
theorem dX7_readBeetle_88 : decode cX7_readBeetle 88 = .ok (.iload_n 2, 1) := by decide +kernel
theorem dX7_readBeetle_89 : decode cX7_readBeetle 89 = .ok (.iconst 3, 1) := by decide +kernel
theorem dX7_readBeetle_90 : decode cX7_readBeetle 90 = .ok (.iadd, 1) := by decide +kernel
theorem dX7_readBeetle_91 : decode cX7_readBeetle 91 = .ok (.aload_n 0, 1) := by decide +kernel
theorem dX7_readBeetle_92 : decode cX7_readBeetle 92 = .ok (.iconst 0, 1) := by decide +kernel
theorem dX7_readBeetle_93 : decode cX7_readBeetle 93 = .ok (.bipush 9, 2) := by decide +kernel
theorem dX7_readBeetle_95 : decode cX7_readBeetle 95 = .ok (.invokevirtual 121, 3) := by decide +kernel
theorem dX7_readBeetle_98 : decode cX7_readBeetle 98 = .ok (.iastore, 1) := by decide +kernel
theorem dX7_readBeetle_99 : decode cX7_readBeetle 99 = .ok (.aload_n 0, 1) := by decide +kernel
theorem dX7_readBeetle_100 : decode cX7_readBeetle 100 = .ok (.getfield 20, 3) := by decide +kernel
theorem dX7_readBeetle_103 : decode cX7_readBeetle 103 = .ok (.iload_n 2, 1) := by decide +kernel
theorem dX7_readBeetle_104 : decode cX7_readBeetle 104 = .ok (.iconst 4, 1) := by decide +kernel
theorem dX7_readBeetle_105 : decode cX7_readBeetle 105 = .ok (.iadd, 1) := by decide +kernel
theorem dX7_readBeetle_106 : decode cX7_readBeetle 106 = .ok (.bipush (-4), 2) := by decide +kernel
theorem dX7_readBeetle_108 : decode cX7_readBeetle 108 = .ok (.iastore, 1) := by decide +kernel
theorem dX7_readBeetle_109 : decode cX7_readBeetle 109 = .ok (.aload_n 0, 1) := by decide +kernel
theorem dX7_readBeetle_110 : decode cX7_readBeetle 110 = .ok (.getfield 20, 3) := by decide +kernel
theorem dX7_readBeetle_113 : decode cX7_readBeetle 113 = .ok (.bipush 34, 2) := by decide +kernel
theorem dX7_readBeetle_115 : decode cX7_readBeetle 115 = .ok (.dup2, 1) := by decide +kernel
theorem dX7_readBeetle_116 : decode cX7_readBeetle 116 = .ok (.iaload, 1) := by decide +kernel
theorem dX7_readBeetle_117 : decode cX7_readBeetle 117 = .ok (.iconst 1, 1) := by decide +kernel
theorem dX7_readBeetle_118 : decode cX7_readBeetle 118 = .ok (.iadd, 1) := by decide +kernel
theorem dX7_readBeetle_119 : decode cX7_readBeetle 119 = .ok (.iastore, 1) := by decide +kernel
theorem dX7_readBeetle_120 : decode cX7_readBeetle 120 = .ok (.return_, 1) := by decide +kernel
theorem dX7_readLineOf_0 : decode cX7_readLineOf 0 = .ok (.iconst 0, 1) := by decide +kernel
theorem dX7_readLineOf_1 : decode cX7_readLineOf 1 = .ok (.istore_n 2, 1) := by decide +kernel
theorem dX7_readLineOf_2 : decode cX7_readLineOf 2 = .ok (.iload_n 1, 1) := by decide +kernel
theorem dX7_readLineOf_3 : decode cX7_readLineOf 3 = .ok (.lookupswitch 117 #[(4, 25), (5, 54)], 25) := by decide +kernel
theorem dX7_readLineOf_28 : decode cX7_readLineOf 28 = .ok (.aload_n 0, 1) := by decide +kernel
theorem dX7_readLineOf_29 : decode cX7_readLineOf 29 = .ok (.getfield 20, 3) := by decide +kernel
theorem dX7_readLineOf_32 : decode cX7_readLineOf 32 = .ok (.aload_n 0, 1) := by decide +kernel
theorem dX7_readLineOf_33 : decode cX7_readLineOf 33 = .ok (.getfield 50, 3) := by decide +kernel
theorem dX7_readLineOf_36 : decode cX7_readLineOf 36 = .ok (.aload_n 0, 1) := by decide +kernel
theorem dX7_readLineOf_37 : decode cX7_readLineOf 37 = .ok (.iconst 0, 1) := by decide +kernel
theorem dX7_readLineOf_38 : decode cX7_readLineOf 38 = .ok (.bipush 9, 2) := by decide +kernel
theorem dX7_readLineOf_40 : decode cX7_readLineOf 40 = .ok (.invokevirtual 121, 3) := by decide +kernel
theorem dX7_readLineOf_43 : decode cX7_readLineOf 43 = .ok (.iastore, 1) := by decide +kernel
theorem dX7_readLineOf_44 : decode cX7_readLineOf 44 = .ok (.aload_n 0, 1) := by decide +kernel
theorem dX7_readLineOf_45 : decode cX7_readLineOf 45 = .ok (.dup, 1) := by decide +kernel
theorem dX7_readLineOf_46 : decode cX7_readLineOf 46 = .ok (.getfield 50, 3) := by decide +kernel
theorem dX7_readLineOf_49 : decode cX7_readLineOf 49 = .ok (.iconst 1, 1) := by decide +kernel
theorem dX7_readLineOf_50 : decode cX7_readLineOf 50 = .ok (.iadd, 1) := by decide +kernel
theorem dX7_readLineOf_51 : decode cX7_readLineOf 51 = .ok (.putfield 50, 3) := by decide +kernel
theorem dX7_readLineOf_54 : decode cX7_readLineOf 54 = .ok (.goto 71, 3) := by decide +kernel
theorem dX7_readLineOf_57 : decode cX7_readLineOf 57 = .ok (.aload_n 0, 1) := by decide +kernel
theorem dX7_readLineOf_58 : decode cX7_readLineOf 58 = .ok (.iconst 0, 1) := by decide +kernel
theorem dX7_readLineOf_59 : decode cX7_readLineOf 59 = .ok (.iconst 5, 1) := by decide +kernel
theorem dX7_readLineOf_60 : decode cX7_readLineOf 60 = .ok (.invokevirtual 114, 3) := by decide +kernel
theorem dX7_readLineOf_63 : decode cX7_readLineOf 63 = .ok (.istore_n 2, 1) := by decide +kernel
theorem dX7_readLineOf_64 : decode cX7_readLineOf 64 = .ok (.aload_n 0, 1) := by decide +kernel
theorem dX7_readLineOf_65 : decode cX7_readLineOf 65 = .ok (.aload_n 0, 1) := by decide +kernel
theorem dX7_readLineOf_66 : decode cX7_readLineOf 66 = .ok (.getfield 54, 3) := by decide +kernel
theorem dX7_readLineOf_69 : decode cX7_readLineOf 69 = .ok (.iload_n 2, 1) := by decide +kernel
theorem dX7_readLineOf_70 : decode cX7_readLineOf 70 = .ok (.ishr, 1) := by decide +kernel
theorem dX7_readLineOf_71 : decode cX7_readLineOf 71 = .ok (.iconst 1, 1) := by decide +kernel
theorem dX7_readLineOf_72 : decode cX7_readLineOf 72 = .ok (.iand, 1) := by decide +kernel
theorem dX7_readLineOf_73 : decode cX7_readLineOf 73 = .ok (.ifCond .ne 7, 3) := by decide +kernel
theorem dX7_readLineOf_76 : decode cX7_readLineOf 76 = .ok (.iconst 1, 1) := by decide +kernel
theorem dX7_readLineOf_77 : decode cX7_readLineOf 77 = .ok (.goto 4, 3) := by decide +kernel
theorem dX7_readLineOf_80 : decode cX7_readLineOf 80 = .ok (.iconst 0, 1) := by decide +kernel
theorem dX7_readLineOf_81 : decode cX7_readLineOf 81 = .ok (.iconst 4, 1) := by decide +kernel
theorem dX7_readLineOf_82 : decode cX7_readLineOf 82 = .ok (.invokevirtual 110, 3) := by decide +kernel
theorem dX7_readLineOf_85 : decode cX7_readLineOf 85 = .ok (.aload_n 0, 1) := by decide +kernel
theorem dX7_readLineOf_86 : decode cX7_readLineOf 86 = .ok (.dup, 1) := by decide +kernel
theorem dX7_readLineOf_87 : decode cX7_readLineOf 87 = .ok (.getfield 54, 3) := by decide +kernel
theorem dX7_readLineOf_90 : decode cX7_readLineOf 90 = .ok (.iconst 1, 1) := by decide +kernel
theorem dX7_readLineOf_91 : decode cX7_readLineOf 91 = .ok (.iload_n 2, 1) := by decide +kernel
theorem dX7_readLineOf_92 : decode cX7_readLineOf 92 = .ok (.ishl, 1) := by decide +kernel
theorem dX7_readLineOf_93 : decode cX7_readLineOf 93 = .ok (.ior, 1) := by decide +kernel
theorem dX7_readLineOf_94 : decode cX7_readLineOf 94 = .ok (.putfield 54, 3) := by decide +kernel
theorem dX7_readLineOf_97 : decode cX7_readLineOf 97 = .ok (.aload_n 0, 1) := by decide +kernel
theorem dX7_readLineOf_98 : decode cX7_readLineOf 98 = .ok (.invokevirtual 118, 3) := by decide +kernel
theorem dX7_readLineOf_101 : decode cX7_readLineOf 101 = .ok (.aload_n 0, 1) := by decide +kernel
theorem dX7_readLineOf_102 : decode cX7_readLineOf 102 = .ok (.getfield 20, 3) := by decide +kernel
theorem dX7_readLineOf_105 : decode cX7_readLineOf 105 = .ok (.bipush 35, 2) := by decide +kernel
theorem dX7_readLineOf_107 : decode cX7_readLineOf 107 = .ok (.iload_n 2, 1) := by decide +kernel
theorem dX7_readLineOf_108 : decode cX7_readLineOf 108 = .ok (.iadd, 1) := by decide +kernel
theorem dX7_readLineOf_109 : decode cX7_readLineOf 109 = .ok (.aload_n 0, 1) := by decide +kernel
theorem dX7_readLineOf_110 : decode cX7_readLineOf 110 = .ok (.iconst 0, 1) := by decide +kernel
theorem dX7_readLineOf_111 : decode cX7_readLineOf 111 = .ok (.bipush 9, 2) := by decide +kernel
theorem dX7_readLineOf_113 : decode cX7_readLineOf 113 = .ok (.invokevirtual 121, 3) := by decide +kernel
theorem dX7_readLineOf_116 : decode cX7_readLineOf 116 = .ok (.iastore, 1) := by decide +kernel
theorem dX7_readLineOf_117 : decode cX7_readLineOf 117 = .ok (.goto 8, 3) := by decide +kernel
theorem dX7_readLineOf_120 : decode cX7_readLineOf 120 = .ok (.aload_n 0, 1) := by decide +kernel
theorem dX7_readLineOf_121 : decode cX7_readLineOf 121 = .ok (.iload_n 1, 1) := by decide +kernel
theorem dX7_readLineOf_122 : decode cX7_readLineOf 122 = .ok (.invokevirtual 124, 3) := by decide +kernel
theorem dX7_readLineOf_125 : decode cX7_readLineOf 125 = .ok (.return_, 1) := by decide +kernel
theorem dX7_readLine_0 : decode cX7_readLine 0 = .ok (.aload_n 0, 1) := by decide +kernel
theorem dX7_readLine_1 : decode cX7_readLine 1 = .ok (.getfield 96, 3) := by decide +kernel
theorem dX7_readLine_4 : decode cX7_readLine 4 = .ok (.iconst 1, 1) := by decide +kernel
theorem dX7_readLine_5 : decode cX7_readLine 5 = .ok (.if_icmp .ne 10, 3) := by decide +kernel
theorem dX7_readLine_8 : decode cX7_readLine 8 = .ok (.aload_n 0, 1) := by decide +kernel
theorem dX7_readLine_9 : decode cX7_readLine 9 = .ok (.invokevirtual 128, 3) := by decide +kernel
theorem dX7_readLine_12 : decode cX7_readLine 12 = .ok (.goto 5, 3) := by decide +kernel
theorem dX7_readLine_15 : decode cX7_readLine 15 = .ok (.bipush (-4), 2) := by decide +kernel
theorem dX7_readLine_17 : decode cX7_readLine 17 = .ok (.istore_n 1, 1) := by decide +kernel
theorem dX7_readLine_18 : decode cX7_readLine 18 = .ok (.aload_n 0, 1) := by decide +kernel
theorem dX7_readLine_19 : decode cX7_readLine 19 = .ok (.iload_n 1, 1) := by decide +kernel
theorem dX7_readLine_20 : decode cX7_readLine 20 = .ok (.bipush (-4), 2) := by decide +kernel
theorem dX7_readLine_22 : decode cX7_readLine 22 = .ok (.if_icmp .eq 7, 3) := by decide +kernel
theorem dX7_readLine_25 : decode cX7_readLine 25 = .ok (.iconst 1, 1) := by decide +kernel
theorem dX7_readLine_26 : decode cX7_readLine 26 = .ok (.goto 4, 3) := by decide +kernel
theorem dX7_readLine_29 : decode cX7_readLine 29 = .ok (.iconst 0, 1) := by decide +kernel
theorem dX7_readLine_30 : decode cX7_readLine 30 = .ok (.iconst 2, 1) := by decide +kernel
theorem dX7_readLine_31 : decode cX7_readLine 31 = .ok (.invokevirtual 110, 3) := by decide +kernel
theorem dX7_readLine_34 : decode cX7_readLine 34 = .ok (.aload_n 0, 1) := by decide +kernel
theorem dX7_readLine_35 : decode cX7_readLine 35 = .ok (.iload_n 1, 1) := by decide +kernel
theorem dX7_readLine_36 : decode cX7_readLine 36 = .ok (.iconst 5, 1) := by decide +kernel
theorem dX7_readLine_37 : decode cX7_readLine 37 = .ok (.if_icmp .eq 31, 3) := by decide +kernel
theorem dX7_readLine_40 : decode cX7_readLine 40 = .ok (.iload_n 1, 1) := by decide +kernel
theorem dX7_readLine_41 : decode cX7_readLine 41 = .ok (.iconst 4, 1) := by decide +kernel
theorem dX7_readLine_42 : decode cX7_readLine 42 = .ok (.if_icmp .ne 14, 3) := by decide +kernel
theorem dX7_readLine_45 : decode cX7_readLine 45 = .ok (.aload_n 0, 1) := by decide +kernel
theorem dX7_readLine_46 : decode cX7_readLine 46 = .ok (.getfield 50, 3) := by decide +kernel
theorem dX7_readLine_49 : decode cX7_readLine 49 = .ok (.iconst 4, 1) := by decide +kernel
theorem dX7_readLine_50 : decode cX7_readLine 50 = .ok (.if_icmp .ge 22, 3) := by decide +kernel
theorem dX7_readLine_53 : decode cX7_readLine 53 = .ok (.goto 15, 3) := by decide +kernel
theorem dX7_readLine_56 : decode cX7_readLine 56 = .ok (.aload_n 0, 1) := by decide +kernel
theorem dX7_readLine_57 : decode cX7_readLine 57 = .ok (.getfield 20, 3) := by decide +kernel
theorem dX7_readLine_60 : decode cX7_readLine 60 = .ok (.bipush 34, 2) := by decide +kernel
theorem dX7_readLine_62 : decode cX7_readLine 62 = .ok (.iaload, 1) := by decide +kernel
theorem dX7_readLine_63 : decode cX7_readLine 63 = .ok (.bipush 6, 2) := by decide +kernel
theorem dX7_readLine_65 : decode cX7_readLine 65 = .ok (.if_icmp .ge 7, 3) := by decide +kernel
theorem dX7_readLine_68 : decode cX7_readLine 68 = .ok (.iconst 1, 1) := by decide +kernel
theorem dX7_readLine_69 : decode cX7_readLine 69 = .ok (.goto 4, 3) := by decide +kernel
theorem dX7_readLine_72 : decode cX7_readLine 72 = .ok (.iconst 0, 1) := by decide +kernel
theorem dX7_readLine_73 : decode cX7_readLine 73 = .ok (.iconst 5, 1) := by decide +kernel
theorem dX7_readLine_74 : decode cX7_readLine 74 = .ok (.invokevirtual 110, 3) := by decide +kernel
theorem dX7_readLine_77 : decode cX7_readLine 77 = .ok (.aload_n 0, 1) := by decide +kernel
theorem dX7_readLine_78 : decode cX7_readLine 78 = .ok (.invokevirtual 118, 3) := by decide +kernel
theorem dX7_readLine_81 : decode cX7_readLine 81 = .ok (.aload_n 0, 1) := by decide +kernel
theorem dX7_readLine_82 : decode cX7_readLine 82 = .ok (.getfield 72, 3) := by decide +kernel
theorem dX7_readLine_85 : decode cX7_readLine 85 = .ok (.ifCond .le 4, 3) := by decide +kernel
theorem dX7_readLine_88 : decode cX7_readLine 88 = .ok (.return_, 1) := by decide +kernel
theorem dX7_readLine_89 : decode cX7_readLine 89 = .ok (.aload_n 0, 1) := by decide +kernel
theorem dX7_readLine_90 : decode cX7_readLine 90 = .ok (.iload_n 1, 1) := by decide +kernel
theorem dX7_readLine_91 : decode cX7_readLine 91 = .ok (.invokevirtual 132, 3) := by decide +kernel
theorem dX7_readLine_94 : decode cX7_readLine 94 = .ok (.aload_n 0, 1) := by decide +kernel
theorem dX7_readLine_95 : decode cX7_readLine 95 = .ok (.getfield 72, 3) := by decide +kernel
theorem dX7_readLine_98 : decode cX7_readLine 98 = .ok (.ifCond .ne 21, 3) := by decide +kernel
theorem dX7_readLine_101 : decode cX7_readLine 101 = .ok (.aload_n 0, 1) := by decide +kernel
theorem dX7_readLine_102 : decode cX7_readLine 102 = .ok (.aload_n 0, 1) := by decide +kernel
theorem dX7_readLine_103 : decode cX7_readLine 103 = .ok (.getfield 96, 3) := by decide +kernel
theorem dX7_readLine_106 : decode cX7_readLine 106 = .ok (.iconst 3, 1) := by decide +kernel
theorem dX7_readLine_107 : decode cX7_readLine 107 = .ok (.if_icmp .ne 7, 3) := by decide +kernel
theorem dX7_readLine_110 : decode cX7_readLine 110 = .ok (.iconst 1, 1) := by decide +kernel
theorem dX7_readLine_111 : decode cX7_readLine 111 = .ok (.goto 4, 3) := by decide +kernel
theorem dX7_readLine_114 : decode cX7_readLine 114 = .ok (.iconst 0, 1) := by decide +kernel
theorem dX7_readLine_115 : decode cX7_readLine 115 = .ok (.iconst 2, 1) := by decide +kernel
theorem dX7_readLine_116 : decode cX7_readLine 116 = .ok (.invokevirtual 110, 3) := by decide +kernel
theorem dX7_readLine_119 : decode cX7_readLine 119 = .ok (.aload_n 0, 1) := by decide +kernel
theorem dX7_readLine_120 : decode cX7_readLine 120 = .ok (.invokevirtual 118, 3) := by decide +kernel
theorem dX7_readLine_123 : decode cX7_readLine 123 = .ok (.return_, 1) := by decide +kernel
theorem dX7_text_0 : decode cX7_text 0 = .ok (.iconst 0, 1) := by decide +kernel
theorem dX7_text_1 : decode cX7_text 1 = .ok (.istore_n 1, 1) := by decide +kernel
theorem dX7_text_2 : decode cX7_text 2 = .ok (.aload_n 0, 1) := by decide +kernel
theorem dX7_text_3 : decode cX7_text 3 = .ok (.iconst 0, 1) := by decide +kernel
theorem dX7_text_4 : decode cX7_text 4 = .ok (.putfield 72, 3) := by decide +kernel
theorem dX7_text_7 : decode cX7_text 7 = .ok (.aload_n 0, 1) := by decide +kernel
theorem dX7_text_8 : decode cX7_text 8 = .ok (.iconst 0, 1) := by decide +kernel
theorem dX7_text_9 : decode cX7_text 9 = .ok (.putfield 81, 3) := by decide +kernel
theorem dX7_text_12 : decode cX7_text 12 = .ok (.aload_n 0, 1) := by decide +kernel
theorem dX7_text_13 : decode cX7_text 13 = .ok (.invokevirtual 44, 3) := by decide +kernel
theorem dX7_text_16 : decode cX7_text 16 = .ok (.aload_n 0, 1) := by decide +kernel
theorem dX7_text_17 : decode cX7_text 17 = .ok (.invokevirtual 118, 3) := by decide +kernel
theorem dX7_text_20 : decode cX7_text 20 = .ok (.aload_n 0, 1) := by decide +kernel
theorem dX7_text_21 : decode cX7_text 21 = .ok (.getfield 72, 3) := by decide +kernel
theorem dX7_text_24 : decode cX7_text 24 = .ok (.ifCond .ne 20, 3) := by decide +kernel
theorem dX7_text_27 : decode cX7_text 27 = .ok (.aload_n 0, 1) := by decide +kernel
theorem dX7_text_28 : decode cX7_text 28 = .ok (.getfield 96, 3) := by decide +kernel
theorem dX7_text_31 : decode cX7_text 31 = .ok (.ifCond .eq 13, 3) := by decide +kernel
theorem dX7_text_34 : decode cX7_text 34 = .ok (.aload_n 0, 1) := by decide +kernel
theorem dX7_text_35 : decode cX7_text 35 = .ok (.invokevirtual 135, 3) := by decide +kernel
theorem dX7_text_38 : decode cX7_text 38 = .ok (.iinc 1 1, 3) := by decide +kernel
theorem dX7_text_41 : decode cX7_text 41 = .ok (.goto (-21), 3) := by decide +kernel
theorem dX7_text_44 : decode cX7_text 44 = .ok (.aload_n 0, 1) := by decide +kernel
theorem dX7_text_45 : decode cX7_text 45 = .ok (.getfield 72, 3) := by decide +kernel
theorem dX7_text_48 : decode cX7_text 48 = .ok (.ifCond .ne 25, 3) := by decide +kernel
theorem dX7_text_51 : decode cX7_text 51 = .ok (.aload_n 0, 1) := by decide +kernel
theorem dX7_text_52 : decode cX7_text 52 = .ok (.aload_n 0, 1) := by decide +kernel
theorem dX7_text_53 : decode cX7_text 53 = .ok (.getfield 57, 3) := by decide +kernel
theorem dX7_text_56 : decode cX7_text 56 = .ok (.aload_n 0, 1) := by decide +kernel
theorem dX7_text_57 : decode cX7_text 57 = .ok (.getfield 50, 3) := by decide +kernel
theorem dX7_text_60 : decode cX7_text 60 = .ok (.if_icmp .ge 7, 3) := by decide +kernel
theorem dX7_text_63 : decode cX7_text 63 = .ok (.iconst 1, 1) := by decide +kernel
theorem dX7_text_64 : decode cX7_text 64 = .ok (.goto 4, 3) := by decide +kernel
theorem dX7_text_67 : decode cX7_text 67 = .ok (.iconst 0, 1) := by decide +kernel
theorem dX7_text_68 : decode cX7_text 68 = .ok (.bipush 6, 2) := by decide +kernel
theorem dX7_text_70 : decode cX7_text 70 = .ok (.invokevirtual 110, 3) := by decide +kernel
theorem dX7_text_73 : decode cX7_text 73 = .ok (.aload_n 0, 1) := by decide +kernel
theorem dX7_text_74 : decode cX7_text 74 = .ok (.iconst 0, 1) := by decide +kernel
theorem dX7_text_75 : decode cX7_text 75 = .ok (.putfield 69, 3) := by decide +kernel
theorem dX7_text_78 : decode cX7_text 78 = .ok (.aload_n 0, 1) := by decide +kernel
theorem dX7_text_79 : decode cX7_text 79 = .ok (.getfield 72, 3) := by decide +kernel
theorem dX7_text_82 : decode cX7_text 82 = .ok (.ifCond .le 11, 3) := by decide +kernel
theorem dX7_text_85 : decode cX7_text 85 = .ok (.bipush (-10), 2) := by decide +kernel
theorem dX7_text_87 : decode cX7_text 87 = .ok (.aload_n 0, 1) := by decide +kernel
theorem dX7_text_88 : decode cX7_text 88 = .ok (.getfield 78, 3) := by decide +kernel
theorem dX7_text_91 : decode cX7_text 91 = .ok (.isub, 1) := by decide +kernel
theorem dX7_text_92 : decode cX7_text 92 = .ok (.ireturn, 1) := by decide +kernel
theorem dX7_text_93 : decode cX7_text 93 = .ok (.aload_n 0, 1) := by decide +kernel
theorem dX7_text_94 : decode cX7_text 94 = .ok (.invokevirtual 47, 3) := by decide +kernel
theorem dX7_text_97 : decode cX7_text 97 = .ok (.iload_n 1, 1) := by decide +kernel
theorem dX7_text_98 : decode cX7_text 98 = .ok (.ireturn, 1) := by decide +kernel
theorem dX7_fault_0 : decode cX7_fault 0 = .ok (.aload_n 0, 1) := by decide +kernel
theorem dX7_fault_1 : decode cX7_fault 1 = .ok (.getfield 72, 3) := by decide +kernel
theorem dX7_fault_4 : decode cX7_fault 4 = .ok (.ireturn, 1) := by decide +kernel
theorem dX7_isOne_0 : decode cX7_isOne 0 = .ok (.iload_n 1, 1) := by decide +kernel
theorem dX7_isOne_1 : decode cX7_isOne 1 = .ok (.i2l, 1) := by decide +kernel
theorem dX7_isOne_2 : decode cX7_isOne 2 = .ok (.lconst 0, 1) := by decide +kernel
theorem dX7_isOne_3 : decode cX7_isOne 3 = .ok (.aload_n 0, 1) := by decide +kernel
theorem dX7_isOne_4 : decode cX7_isOne 4 = .ok (.getfield 60, 3) := by decide +kernel
theorem dX7_isOne_7 : decode cX7_isOne 7 = .ok (.iconst 1, 1) := by decide +kernel
theorem dX7_isOne_8 : decode cX7_isOne 8 = .ok (.isub, 1) := by decide +kernel
theorem dX7_isOne_9 : decode cX7_isOne 9 = .ok (.i2l, 1) := by decide +kernel
theorem dX7_isOne_10 : decode cX7_isOne 10 = .ok (.invokestatic 65, 3) := by decide +kernel
theorem dX7_isOne_13 : decode cX7_isOne 13 = .ok (.ireturn, 1) := by decide +kernel
theorem dX7_isBeetle_0 : decode cX7_isBeetle 0 = .ok (.iload_n 1, 1) := by decide +kernel
theorem dX7_isBeetle_1 : decode cX7_isBeetle 1 = .ok (.i2l, 1) := by decide +kernel
theorem dX7_isBeetle_2 : decode cX7_isBeetle 2 = .ok (.lconst 0, 1) := by decide +kernel
theorem dX7_isBeetle_3 : decode cX7_isBeetle 3 = .ok (.aload_n 0, 1) := by decide +kernel
theorem dX7_isBeetle_4 : decode cX7_isBeetle 4 = .ok (.getfield 7, 3) := by decide +kernel
theorem dX7_isBeetle_7 : decode cX7_isBeetle 7 = .ok (.bipush 34, 2) := by decide +kernel
theorem dX7_isBeetle_9 : decode cX7_isBeetle 9 = .ok (.iaload, 1) := by decide +kernel
theorem dX7_isBeetle_10 : decode cX7_isBeetle 10 = .ok (.iconst 1, 1) := by decide +kernel
theorem dX7_isBeetle_11 : decode cX7_isBeetle 11 = .ok (.isub, 1) := by decide +kernel
theorem dX7_isBeetle_12 : decode cX7_isBeetle 12 = .ok (.i2l, 1) := by decide +kernel
theorem dX7_isBeetle_13 : decode cX7_isBeetle 13 = .ok (.invokestatic 65, 3) := by decide +kernel
theorem dX7_isBeetle_16 : decode cX7_isBeetle 16 = .ok (.ireturn, 1) := by decide +kernel
theorem dX7_isPlace_0 : decode cX7_isPlace 0 = .ok (.iload_n 0, 1) := by decide +kernel
theorem dX7_isPlace_1 : decode cX7_isPlace 1 = .ok (.i2l, 1) := by decide +kernel
theorem dX7_isPlace_2 : decode cX7_isPlace 2 = .ok (.lconst 0, 1) := by decide +kernel
theorem dX7_isPlace_3 : decode cX7_isPlace 3 = .ok (.ldc2_w 138, 3) := by decide +kernel
theorem dX7_isPlace_6 : decode cX7_isPlace 6 = .ok (.invokestatic 65, 3) := by decide +kernel
theorem dX7_isPlace_9 : decode cX7_isPlace 9 = .ok (.ireturn, 1) := by decide +kernel
theorem dX7_isPart_0 : decode cX7_isPart 0 = .ok (.iload_n 0, 1) := by decide +kernel
theorem dX7_isPart_1 : decode cX7_isPart 1 = .ok (.i2l, 1) := by decide +kernel
theorem dX7_isPart_2 : decode cX7_isPart 2 = .ok (.lconst 0, 1) := by decide +kernel
theorem dX7_isPart_3 : decode cX7_isPart 3 = .ok (.lconst 1, 1) := by decide +kernel
theorem dX7_isPart_4 : decode cX7_isPart 4 = .ok (.invokestatic 65, 3) := by decide +kernel
theorem dX7_isPart_7 : decode cX7_isPart 7 = .ok (.ireturn, 1) := by decide +kernel
theorem dX7_starts_0 : decode cX7_starts 0 = .ok (.iconst 0, 1) := by decide +kernel
theorem dX7_starts_1 : decode cX7_starts 1 = .ok (.istore_n 1, 1) := by decide +kernel
theorem dX7_starts_2 : decode cX7_starts 2 = .ok (.iload_n 1, 1) := by decide +kernel
theorem dX7_starts_3 : decode cX7_starts 3 = .ok (.bipush 61, 2) := by decide +kernel
theorem dX7_starts_5 : decode cX7_starts 5 = .ok (.if_icmp .ge 21, 3) := by decide +kernel
theorem dX7_starts_8 : decode cX7_starts 8 = .ok (.aload_n 0, 1) := by decide +kernel
theorem dX7_starts_9 : decode cX7_starts 9 = .ok (.getfield 13, 3) := by decide +kernel
theorem dX7_starts_12 : decode cX7_starts 12 = .ok (.iload_n 1, 1) := by decide +kernel
theorem dX7_starts_13 : decode cX7_starts 13 = .ok (.aload_n 0, 1) := by decide +kernel
theorem dX7_starts_14 : decode cX7_starts 14 = .ok (.getfield 7, 3) := by decide +kernel
theorem dX7_starts_17 : decode cX7_starts 17 = .ok (.iload_n 1, 1) := by decide +kernel
theorem dX7_starts_18 : decode cX7_starts 18 = .ok (.iaload, 1) := by decide +kernel
theorem dX7_starts_19 : decode cX7_starts 19 = .ok (.iastore, 1) := by decide +kernel
theorem dX7_starts_20 : decode cX7_starts 20 = .ok (.iinc 1 1, 3) := by decide +kernel
theorem dX7_starts_23 : decode cX7_starts 23 = .ok (.goto (-21), 3) := by decide +kernel
theorem dX7_starts_26 : decode cX7_starts 26 = .ok (.aload_n 0, 1) := by decide +kernel
theorem dX7_starts_27 : decode cX7_starts 27 = .ok (.bipush (-4), 2) := by decide +kernel
theorem dX7_starts_29 : decode cX7_starts 29 = .ok (.putfield 140, 3) := by decide +kernel
theorem dX7_starts_32 : decode cX7_starts 32 = .ok (.return_, 1) := by decide +kernel
theorem dX7_settles_0 : decode cX7_settles 0 = .ok (.iconst 0, 1) := by decide +kernel
theorem dX7_settles_1 : decode cX7_settles 1 = .ok (.istore_n 1, 1) := by decide +kernel
theorem dX7_settles_2 : decode cX7_settles 2 = .ok (.iload_n 1, 1) := by decide +kernel
theorem dX7_settles_3 : decode cX7_settles 3 = .ok (.bipush 61, 2) := by decide +kernel
theorem dX7_settles_5 : decode cX7_settles 5 = .ok (.if_icmp .ge 21, 3) := by decide +kernel
theorem dX7_settles_8 : decode cX7_settles 8 = .ok (.aload_n 0, 1) := by decide +kernel
theorem dX7_settles_9 : decode cX7_settles 9 = .ok (.getfield 7, 3) := by decide +kernel
theorem dX7_settles_12 : decode cX7_settles 12 = .ok (.iload_n 1, 1) := by decide +kernel
theorem dX7_settles_13 : decode cX7_settles 13 = .ok (.aload_n 0, 1) := by decide +kernel
theorem dX7_settles_14 : decode cX7_settles 14 = .ok (.getfield 13, 3) := by decide +kernel
theorem dX7_settles_17 : decode cX7_settles 17 = .ok (.iload_n 1, 1) := by decide +kernel
theorem dX7_settles_18 : decode cX7_settles 18 = .ok (.iaload, 1) := by decide +kernel
theorem dX7_settles_19 : decode cX7_settles 19 = .ok (.iastore, 1) := by decide +kernel
theorem dX7_settles_20 : decode cX7_settles 20 = .ok (.iinc 1 1, 3) := by decide +kernel
theorem dX7_settles_23 : decode cX7_settles 23 = .ok (.goto (-21), 3) := by decide +kernel
theorem dX7_settles_26 : decode cX7_settles 26 = .ok (.return_, 1) := by decide +kernel
theorem dX7_of_0 : decode cX7_of 0 = .ok (.aload_n 0, 1) := by decide +kernel
theorem dX7_of_1 : decode cX7_of 1 = .ok (.getfield 13, 3) := by decide +kernel
theorem dX7_of_4 : decode cX7_of 4 = .ok (.iconst 4, 1) := by decide +kernel
theorem dX7_of_5 : decode cX7_of 5 = .ok (.iconst 5, 1) := by decide +kernel
theorem dX7_of_6 : decode cX7_of 6 = .ok (.iload_n 1, 1) := by decide +kernel
theorem dX7_of_7 : decode cX7_of 7 = .ok (.imul, 1) := by decide +kernel
theorem dX7_of_8 : decode cX7_of 8 = .ok (.iadd, 1) := by decide +kernel
theorem dX7_of_9 : decode cX7_of 9 = .ok (.iload_n 2, 1) := by decide +kernel
theorem dX7_of_10 : decode cX7_of 10 = .ok (.iadd, 1) := by decide +kernel
theorem dX7_of_11 : decode cX7_of 11 = .ok (.iaload, 1) := by decide +kernel
theorem dX7_of_12 : decode cX7_of 12 = .ok (.ireturn, 1) := by decide +kernel
theorem dX7_becomesOf_0 : decode cX7_becomesOf 0 = .ok (.aload_n 0, 1) := by decide +kernel
theorem dX7_becomesOf_1 : decode cX7_becomesOf 1 = .ok (.getfield 13, 3) := by decide +kernel
theorem dX7_becomesOf_4 : decode cX7_becomesOf 4 = .ok (.iconst 4, 1) := by decide +kernel
theorem dX7_becomesOf_5 : decode cX7_becomesOf 5 = .ok (.iconst 5, 1) := by decide +kernel
theorem dX7_becomesOf_6 : decode cX7_becomesOf 6 = .ok (.iload_n 1, 1) := by decide +kernel
theorem dX7_becomesOf_7 : decode cX7_becomesOf 7 = .ok (.imul, 1) := by decide +kernel
theorem dX7_becomesOf_8 : decode cX7_becomesOf 8 = .ok (.iadd, 1) := by decide +kernel
theorem dX7_becomesOf_9 : decode cX7_becomesOf 9 = .ok (.iload_n 2, 1) := by decide +kernel
theorem dX7_becomesOf_10 : decode cX7_becomesOf 10 = .ok (.iadd, 1) := by decide +kernel
theorem dX7_becomesOf_11 : decode cX7_becomesOf 11 = .ok (.iload_n 3, 1) := by decide +kernel
theorem dX7_becomesOf_12 : decode cX7_becomesOf 12 = .ok (.iastore, 1) := by decide +kernel
theorem dX7_becomesOf_13 : decode cX7_becomesOf 13 = .ok (.return_, 1) := by decide +kernel
theorem dX7_weight_0 : decode cX7_weight 0 = .ok (.aload_n 0, 1) := by decide +kernel
theorem dX7_weight_1 : decode cX7_weight 1 = .ok (.iload_n 1, 1) := by decide +kernel
theorem dX7_weight_2 : decode cX7_weight 2 = .ok (.iconst 1, 1) := by decide +kernel
theorem dX7_weight_3 : decode cX7_weight 3 = .ok (.invokevirtual 143, 3) := by decide +kernel
theorem dX7_weight_6 : decode cX7_weight 6 = .ok (.istore_n 2, 1) := by decide +kernel
theorem dX7_weight_7 : decode cX7_weight 7 = .ok (.iload_n 2, 1) := by decide +kernel
theorem dX7_weight_8 : decode cX7_weight 8 = .ok (.iconst 1, 1) := by decide +kernel
theorem dX7_weight_9 : decode cX7_weight 9 = .ok (.iadd, 1) := by decide +kernel
theorem dX7_weight_10 : decode cX7_weight 10 = .ok (.iconst 2, 1) := by decide +kernel
theorem dX7_weight_11 : decode cX7_weight 11 = .ok (.idiv, 1) := by decide +kernel
theorem dX7_weight_12 : decode cX7_weight 12 = .ok (.istore_n 3, 1) := by decide +kernel
theorem dX7_weight_13 : decode cX7_weight 13 = .ok (.aload_n 0, 1) := by decide +kernel
theorem dX7_weight_14 : decode cX7_weight 14 = .ok (.iload_n 1, 1) := by decide +kernel
theorem dX7_weight_15 : decode cX7_weight 15 = .ok (.iconst 0, 1) := by decide +kernel
theorem dX7_weight_16 : decode cX7_weight 16 = .ok (.invokevirtual 143, 3) := by decide +kernel
theorem dX7_weight_19 : decode cX7_weight 19 = .ok (.tableswitch 35 1 3 #[25, 27, 31], 25) := by decide +kernel
theorem dX7_weight_44 : decode cX7_weight 44 = .ok (.iload_n 3, 1) := by decide +kernel
theorem dX7_weight_45 : decode cX7_weight 45 = .ok (.ireturn, 1) := by decide +kernel
theorem dX7_weight_46 : decode cX7_weight 46 = .ok (.iload_n 3, 1) := by decide +kernel
theorem dX7_weight_47 : decode cX7_weight 47 = .ok (.iconst 1, 1) := by decide +kernel
theorem dX7_weight_48 : decode cX7_weight 48 = .ok (.iadd, 1) := by decide +kernel
theorem dX7_weight_49 : decode cX7_weight 49 = .ok (.ireturn, 1) := by decide +kernel
theorem dX7_weight_50 : decode cX7_weight 50 = .ok (.iconst 2, 1) := by decide +kernel
theorem dX7_weight_51 : decode cX7_weight 51 = .ok (.iload_n 2, 1) := by decide +kernel
theorem dX7_weight_52 : decode cX7_weight 52 = .ok (.imul, 1) := by decide +kernel
theorem dX7_weight_53 : decode cX7_weight 53 = .ok (.ireturn, 1) := by decide +kernel
theorem dX7_weight_54 : decode cX7_weight 54 = .ok (.iload_n 2, 1) := by decide +kernel
theorem dX7_weight_55 : decode cX7_weight 55 = .ok (.ireturn, 1) := by decide +kernel
theorem dX7_pace_0 : decode cX7_pace 0 = .ok (.aload_n 0, 1) := by decide +kernel
theorem dX7_pace_1 : decode cX7_pace 1 = .ok (.iload_n 1, 1) := by decide +kernel
theorem dX7_pace_2 : decode cX7_pace 2 = .ok (.iconst 0, 1) := by decide +kernel
theorem dX7_pace_3 : decode cX7_pace 3 = .ok (.invokevirtual 143, 3) := by decide +kernel
theorem dX7_pace_6 : decode cX7_pace 6 = .ok (.istore_n 2, 1) := by decide +kernel
theorem dX7_pace_7 : decode cX7_pace 7 = .ok (.iload_n 2, 1) := by decide +kernel
theorem dX7_pace_8 : decode cX7_pace 8 = .ok (.iconst 1, 1) := by decide +kernel
theorem dX7_pace_9 : decode cX7_pace 9 = .ok (.if_icmp .ne 7, 3) := by decide +kernel
theorem dX7_pace_12 : decode cX7_pace 12 = .ok (.iconst 2, 1) := by decide +kernel
theorem dX7_pace_13 : decode cX7_pace 13 = .ok (.goto 13, 3) := by decide +kernel
theorem dX7_pace_16 : decode cX7_pace 16 = .ok (.iload_n 2, 1) := by decide +kernel
theorem dX7_pace_17 : decode cX7_pace 17 = .ok (.iconst 3, 1) := by decide +kernel
theorem dX7_pace_18 : decode cX7_pace 18 = .ok (.if_icmp .ne 7, 3) := by decide +kernel
theorem dX7_pace_21 : decode cX7_pace 21 = .ok (.iconst 3, 1) := by decide +kernel
theorem dX7_pace_22 : decode cX7_pace 22 = .ok (.goto 4, 3) := by decide +kernel
theorem dX7_pace_25 : decode cX7_pace 25 = .ok (.iconst 1, 1) := by decide +kernel
theorem dX7_pace_26 : decode cX7_pace 26 = .ok (.ireturn, 1) := by decide +kernel
theorem dX7_counted_0 : decode cX7_counted 0 = .ok (.iconst 0, 1) := by decide +kernel
theorem dX7_counted_1 : decode cX7_counted 1 = .ok (.istore_n 2, 1) := by decide +kernel
theorem dX7_counted_2 : decode cX7_counted 2 = .ok (.iconst 0, 1) := by decide +kernel
theorem dX7_counted_3 : decode cX7_counted 3 = .ok (.istore_n 3, 1) := by decide +kernel
theorem dX7_counted_4 : decode cX7_counted 4 = .ok (.iload_n 3, 1) := by decide +kernel
theorem dX7_counted_5 : decode cX7_counted 5 = .ok (.aload_n 0, 1) := by decide +kernel
theorem dX7_counted_6 : decode cX7_counted 6 = .ok (.getfield 13, 3) := by decide +kernel
theorem dX7_counted_9 : decode cX7_counted 9 = .ok (.bipush 34, 2) := by decide +kernel
theorem dX7_counted_11 : decode cX7_counted 11 = .ok (.iaload, 1) := by decide +kernel
theorem dX7_counted_12 : decode cX7_counted 12 = .ok (.if_icmp .ge 39, 3) := by decide +kernel
theorem dX7_counted_15 : decode cX7_counted 15 = .ok (.iload_n 2, 1) := by decide +kernel
theorem dX7_counted_16 : decode cX7_counted 16 = .ok (.iload_n 3, 1) := by decide +kernel
theorem dX7_counted_17 : decode cX7_counted 17 = .ok (.aload_n 0, 1) := by decide +kernel
theorem dX7_counted_18 : decode cX7_counted 18 = .ok (.getfield 140, 3) := by decide +kernel
theorem dX7_counted_21 : decode cX7_counted 21 = .ok (.if_icmp .eq 21, 3) := by decide +kernel
theorem dX7_counted_24 : decode cX7_counted 24 = .ok (.aload_n 0, 1) := by decide +kernel
theorem dX7_counted_25 : decode cX7_counted 25 = .ok (.iload_n 3, 1) := by decide +kernel
theorem dX7_counted_26 : decode cX7_counted 26 = .ok (.iconst 4, 1) := by decide +kernel
theorem dX7_counted_27 : decode cX7_counted 27 = .ok (.invokevirtual 143, 3) := by decide +kernel
theorem dX7_counted_30 : decode cX7_counted 30 = .ok (.iload_n 1, 1) := by decide +kernel
theorem dX7_counted_31 : decode cX7_counted 31 = .ok (.if_icmp .ne 11, 3) := by decide +kernel
theorem dX7_counted_34 : decode cX7_counted 34 = .ok (.aload_n 0, 1) := by decide +kernel
theorem dX7_counted_35 : decode cX7_counted 35 = .ok (.iload_n 3, 1) := by decide +kernel
theorem dX7_counted_36 : decode cX7_counted 36 = .ok (.invokevirtual 146, 3) := by decide +kernel
theorem dX7_counted_39 : decode cX7_counted 39 = .ok (.goto 4, 3) := by decide +kernel
theorem dX7_counted_42 : decode cX7_counted 42 = .ok (.iconst 0, 1) := by decide +kernel
theorem dX7_counted_43 : decode cX7_counted 43 = .ok (.iadd, 1) := by decide +kernel
theorem dX7_counted_44 : decode cX7_counted 44 = .ok (.istore_n 2, 1) := by decide +kernel
theorem dX7_counted_45 : decode cX7_counted 45 = .ok (.iinc 3 1, 3) := by decide +kernel
theorem dX7_counted_48 : decode cX7_counted 48 = .ok (.goto (-44), 3) := by decide +kernel
theorem dX7_counted_51 : decode cX7_counted 51 = .ok (.iload_n 2, 1) := by decide +kernel
theorem dX7_counted_52 : decode cX7_counted 52 = .ok (.ireturn, 1) := by decide +kernel
theorem dX7_leastCounted_0 : decode cX7_leastCounted 0 = .ok (.iconst 0, 1) := by decide +kernel
theorem dX7_leastCounted_1 : decode cX7_leastCounted 1 = .ok (.istore_n 1, 1) := by decide +kernel
theorem dX7_leastCounted_2 : decode cX7_leastCounted 2 = .ok (.iconst 1, 1) := by decide +kernel
theorem dX7_leastCounted_3 : decode cX7_leastCounted 3 = .ok (.istore_n 2, 1) := by decide +kernel
theorem dX7_leastCounted_4 : decode cX7_leastCounted 4 = .ok (.iload_n 2, 1) := by decide +kernel
theorem dX7_leastCounted_5 : decode cX7_leastCounted 5 = .ok (.aload_n 0, 1) := by decide +kernel
theorem dX7_leastCounted_6 : decode cX7_leastCounted 6 = .ok (.getfield 60, 3) := by decide +kernel
theorem dX7_leastCounted_9 : decode cX7_leastCounted 9 = .ok (.if_icmp .ge 28, 3) := by decide +kernel
theorem dX7_leastCounted_12 : decode cX7_leastCounted 12 = .ok (.aload_n 0, 1) := by decide +kernel
theorem dX7_leastCounted_13 : decode cX7_leastCounted 13 = .ok (.iload_n 2, 1) := by decide +kernel
theorem dX7_leastCounted_14 : decode cX7_leastCounted 14 = .ok (.invokevirtual 149, 3) := by decide +kernel
theorem dX7_leastCounted_17 : decode cX7_leastCounted 17 = .ok (.aload_n 0, 1) := by decide +kernel
theorem dX7_leastCounted_18 : decode cX7_leastCounted 18 = .ok (.iload_n 1, 1) := by decide +kernel
theorem dX7_leastCounted_19 : decode cX7_leastCounted 19 = .ok (.invokevirtual 149, 3) := by decide +kernel
theorem dX7_leastCounted_22 : decode cX7_leastCounted 22 = .ok (.if_icmp .ge 7, 3) := by decide +kernel
theorem dX7_leastCounted_25 : decode cX7_leastCounted 25 = .ok (.iload_n 2, 1) := by decide +kernel
theorem dX7_leastCounted_26 : decode cX7_leastCounted 26 = .ok (.goto 4, 3) := by decide +kernel
theorem dX7_leastCounted_29 : decode cX7_leastCounted 29 = .ok (.iload_n 1, 1) := by decide +kernel
theorem dX7_leastCounted_30 : decode cX7_leastCounted 30 = .ok (.istore_n 1, 1) := by decide +kernel
theorem dX7_leastCounted_31 : decode cX7_leastCounted 31 = .ok (.iinc 2 1, 3) := by decide +kernel
theorem dX7_leastCounted_34 : decode cX7_leastCounted 34 = .ok (.goto (-30), 3) := by decide +kernel
theorem dX7_leastCounted_37 : decode cX7_leastCounted 37 = .ok (.iload_n 1, 1) := by decide +kernel
theorem dX7_leastCounted_38 : decode cX7_leastCounted 38 = .ok (.ireturn, 1) := by decide +kernel
theorem dX7_seeks_0 : decode cX7_seeks 0 = .ok (.aload_n 0, 1) := by decide +kernel
theorem dX7_seeks_1 : decode cX7_seeks 1 = .ok (.iload_n 1, 1) := by decide +kernel
theorem dX7_seeks_2 : decode cX7_seeks 2 = .ok (.iconst 0, 1) := by decide +kernel
theorem dX7_seeks_3 : decode cX7_seeks 3 = .ok (.invokevirtual 143, 3) := by decide +kernel
theorem dX7_seeks_6 : decode cX7_seeks 6 = .ok (.istore_n 2, 1) := by decide +kernel
theorem dX7_seeks_7 : decode cX7_seeks 7 = .ok (.iload_n 2, 1) := by decide +kernel
theorem dX7_seeks_8 : decode cX7_seeks 8 = .ok (.iconst 2, 1) := by decide +kernel
theorem dX7_seeks_9 : decode cX7_seeks 9 = .ok (.if_icmp .ne 10, 3) := by decide +kernel
theorem dX7_seeks_12 : decode cX7_seeks 12 = .ok (.aload_n 0, 1) := by decide +kernel
theorem dX7_seeks_13 : decode cX7_seeks 13 = .ok (.invokevirtual 152, 3) := by decide +kernel
theorem dX7_seeks_16 : decode cX7_seeks 16 = .ok (.goto 30, 3) := by decide +kernel
theorem dX7_seeks_19 : decode cX7_seeks 19 = .ok (.iload_n 2, 1) := by decide +kernel
theorem dX7_seeks_20 : decode cX7_seeks 20 = .ok (.iconst 1, 1) := by decide +kernel
theorem dX7_seeks_21 : decode cX7_seeks 21 = .ok (.if_icmp .ne 19, 3) := by decide +kernel
theorem dX7_seeks_24 : decode cX7_seeks 24 = .ok (.aload_n 0, 1) := by decide +kernel
theorem dX7_seeks_25 : decode cX7_seeks 25 = .ok (.iload_n 1, 1) := by decide +kernel
theorem dX7_seeks_26 : decode cX7_seeks 26 = .ok (.iconst 2, 1) := by decide +kernel
theorem dX7_seeks_27 : decode cX7_seeks 27 = .ok (.invokevirtual 143, 3) := by decide +kernel
theorem dX7_seeks_30 : decode cX7_seeks 30 = .ok (.iconst 1, 1) := by decide +kernel
theorem dX7_seeks_31 : decode cX7_seeks 31 = .ok (.iadd, 1) := by decide +kernel
theorem dX7_seeks_32 : decode cX7_seeks 32 = .ok (.aload_n 0, 1) := by decide +kernel
theorem dX7_seeks_33 : decode cX7_seeks 33 = .ok (.getfield 60, 3) := by decide +kernel
theorem dX7_seeks_36 : decode cX7_seeks 36 = .ok (.irem, 1) := by decide +kernel
theorem dX7_seeks_37 : decode cX7_seeks 37 = .ok (.goto 9, 3) := by decide +kernel
theorem dX7_seeks_40 : decode cX7_seeks 40 = .ok (.aload_n 0, 1) := by decide +kernel
theorem dX7_seeks_41 : decode cX7_seeks 41 = .ok (.iload_n 1, 1) := by decide +kernel
theorem dX7_seeks_42 : decode cX7_seeks 42 = .ok (.iconst 2, 1) := by decide +kernel
theorem dX7_seeks_43 : decode cX7_seeks 43 = .ok (.invokevirtual 143, 3) := by decide +kernel
theorem dX7_seeks_46 : decode cX7_seeks 46 = .ok (.ireturn, 1) := by decide +kernel
theorem dX7_placeOf_0 : decode cX7_placeOf 0 = .ok (.aload_n 0, 1) := by decide +kernel
theorem dX7_placeOf_1 : decode cX7_placeOf 1 = .ok (.iload_n 1, 1) := by decide +kernel
theorem dX7_placeOf_2 : decode cX7_placeOf 2 = .ok (.iconst 4, 1) := by decide +kernel
theorem dX7_placeOf_3 : decode cX7_placeOf 3 = .ok (.invokevirtual 143, 3) := by decide +kernel
theorem dX7_placeOf_6 : decode cX7_placeOf 6 = .ok (.bipush (-4), 2) := by decide +kernel
theorem dX7_placeOf_8 : decode cX7_placeOf 8 = .ok (.if_icmp .ne 12, 3) := by decide +kernel
theorem dX7_placeOf_11 : decode cX7_placeOf 11 = .ok (.aload_n 0, 1) := by decide +kernel
theorem dX7_placeOf_12 : decode cX7_placeOf 12 = .ok (.iload_n 1, 1) := by decide +kernel
theorem dX7_placeOf_13 : decode cX7_placeOf 13 = .ok (.iconst 3, 1) := by decide +kernel
theorem dX7_placeOf_14 : decode cX7_placeOf 14 = .ok (.invokevirtual 143, 3) := by decide +kernel
theorem dX7_placeOf_17 : decode cX7_placeOf 17 = .ok (.goto 14, 3) := by decide +kernel
theorem dX7_placeOf_20 : decode cX7_placeOf 20 = .ok (.aload_n 0, 1) := by decide +kernel
theorem dX7_placeOf_21 : decode cX7_placeOf 21 = .ok (.getfield 13, 3) := by decide +kernel
theorem dX7_placeOf_24 : decode cX7_placeOf 24 = .ok (.aload_n 0, 1) := by decide +kernel
theorem dX7_placeOf_25 : decode cX7_placeOf 25 = .ok (.iload_n 1, 1) := by decide +kernel
theorem dX7_placeOf_26 : decode cX7_placeOf 26 = .ok (.iconst 4, 1) := by decide +kernel
theorem dX7_placeOf_27 : decode cX7_placeOf 27 = .ok (.invokevirtual 143, 3) := by decide +kernel
theorem dX7_placeOf_30 : decode cX7_placeOf 30 = .ok (.iaload, 1) := by decide +kernel
theorem dX7_placeOf_31 : decode cX7_placeOf 31 = .ok (.ireturn, 1) := by decide +kernel
theorem dX7_blownOff_0 : decode cX7_blownOff 0 = .ok (.aload_n 0, 1) := by decide +kernel
theorem dX7_blownOff_1 : decode cX7_blownOff 1 = .ok (.getfield 13, 3) := by decide +kernel
theorem dX7_blownOff_4 : decode cX7_blownOff 4 = .ok (.bipush 41, 2) := by decide +kernel
theorem dX7_blownOff_6 : decode cX7_blownOff 6 = .ok (.iaload, 1) := by decide +kernel
theorem dX7_blownOff_7 : decode cX7_blownOff 7 = .ok (.iconst 2, 1) := by decide +kernel
theorem dX7_blownOff_8 : decode cX7_blownOff 8 = .ok (.irem, 1) := by decide +kernel
theorem dX7_blownOff_9 : decode cX7_blownOff 9 = .ok (.ifCond .ne 7, 3) := by decide +kernel
theorem dX7_blownOff_12 : decode cX7_blownOff 12 = .ok (.iload_n 2, 1) := by decide +kernel
theorem dX7_blownOff_13 : decode cX7_blownOff 13 = .ok (.goto 5, 3) := by decide +kernel
theorem dX7_blownOff_16 : decode cX7_blownOff 16 = .ok (.iload_n 2, 1) := by decide +kernel
theorem dX7_blownOff_17 : decode cX7_blownOff 17 = .ok (.ineg, 1) := by decide +kernel
theorem dX7_blownOff_18 : decode cX7_blownOff 18 = .ok (.istore_n 3, 1) := by decide +kernel
theorem dX7_blownOff_19 : decode cX7_blownOff 19 = .ok (.aload_n 0, 1) := by decide +kernel
theorem dX7_blownOff_20 : decode cX7_blownOff 20 = .ok (.iload_n 1, 1) := by decide +kernel
theorem dX7_blownOff_21 : decode cX7_blownOff 21 = .ok (.invokevirtual 155, 3) := by decide +kernel
theorem dX7_blownOff_24 : decode cX7_blownOff 24 = .ok (.iload_n 3, 1) := by decide +kernel
theorem dX7_blownOff_25 : decode cX7_blownOff 25 = .ok (.iadd, 1) := by decide +kernel
theorem dX7_blownOff_26 : decode cX7_blownOff 26 = .ok (.istore 4, 2) := by decide +kernel
theorem dX7_blownOff_28 : decode cX7_blownOff 28 = .ok (.aload_n 0, 1) := by decide +kernel
theorem dX7_blownOff_29 : decode cX7_blownOff 29 = .ok (.iload_n 1, 1) := by decide +kernel
theorem dX7_blownOff_30 : decode cX7_blownOff 30 = .ok (.iconst 3, 1) := by decide +kernel
theorem dX7_blownOff_31 : decode cX7_blownOff 31 = .ok (.iload 4, 2) := by decide +kernel
theorem dX7_blownOff_33 : decode cX7_blownOff 33 = .ok (.ifCond .ge 7, 3) := by decide +kernel
theorem dX7_blownOff_36 : decode cX7_blownOff 36 = .ok (.iconst 0, 1) := by decide +kernel
theorem dX7_blownOff_37 : decode cX7_blownOff 37 = .ok (.goto 17, 3) := by decide +kernel
theorem dX7_blownOff_40 : decode cX7_blownOff 40 = .ok (.iload 4, 2) := by decide +kernel
theorem dX7_blownOff_42 : decode cX7_blownOff 42 = .ok (.bipush 10, 2) := by decide +kernel
theorem dX7_blownOff_44 : decode cX7_blownOff 44 = .ok (.if_icmp .lt 8, 3) := by decide +kernel
theorem dX7_blownOff_47 : decode cX7_blownOff 47 = .ok (.bipush 9, 2) := by decide +kernel
theorem dX7_blownOff_49 : decode cX7_blownOff 49 = .ok (.goto 5, 3) := by decide +kernel
theorem dX7_blownOff_52 : decode cX7_blownOff 52 = .ok (.iload 4, 2) := by decide +kernel
theorem dX7_blownOff_54 : decode cX7_blownOff 54 = .ok (.invokevirtual 158, 3) := by decide +kernel
theorem dX7_blownOff_57 : decode cX7_blownOff 57 = .ok (.aload_n 0, 1) := by decide +kernel
theorem dX7_blownOff_58 : decode cX7_blownOff 58 = .ok (.iload_n 1, 1) := by decide +kernel
theorem dX7_blownOff_59 : decode cX7_blownOff 59 = .ok (.iconst 4, 1) := by decide +kernel
theorem dX7_blownOff_60 : decode cX7_blownOff 60 = .ok (.bipush (-4), 2) := by decide +kernel
theorem dX7_blownOff_62 : decode cX7_blownOff 62 = .ok (.invokevirtual 158, 3) := by decide +kernel
theorem dX7_blownOff_65 : decode cX7_blownOff 65 = .ok (.aload_n 0, 1) := by decide +kernel
theorem dX7_blownOff_66 : decode cX7_blownOff 66 = .ok (.dup, 1) := by decide +kernel
theorem dX7_blownOff_67 : decode cX7_blownOff 67 = .ok (.getfield 162, 3) := by decide +kernel
theorem dX7_blownOff_70 : decode cX7_blownOff 70 = .ok (.iconst 1, 1) := by decide +kernel
theorem dX7_blownOff_71 : decode cX7_blownOff 71 = .ok (.iadd, 1) := by decide +kernel
theorem dX7_blownOff_72 : decode cX7_blownOff 72 = .ok (.putfield 162, 3) := by decide +kernel
theorem dX7_blownOff_75 : decode cX7_blownOff 75 = .ok (.return_, 1) := by decide +kernel
theorem dX7_goesOn_0 : decode cX7_goesOn 0 = .ok (.aload_n 0, 1) := by decide +kernel
theorem dX7_goesOn_1 : decode cX7_goesOn 1 = .ok (.iload_n 1, 1) := by decide +kernel
theorem dX7_goesOn_2 : decode cX7_goesOn 2 = .ok (.invokevirtual 165, 3) := by decide +kernel
theorem dX7_goesOn_5 : decode cX7_goesOn 5 = .ok (.istore_n 2, 1) := by decide +kernel
theorem dX7_goesOn_6 : decode cX7_goesOn 6 = .ok (.aload_n 0, 1) := by decide +kernel
theorem dX7_goesOn_7 : decode cX7_goesOn 7 = .ok (.getfield 13, 3) := by decide +kernel
theorem dX7_goesOn_10 : decode cX7_goesOn 10 = .ok (.iload_n 2, 1) := by decide +kernel
theorem dX7_goesOn_11 : decode cX7_goesOn 11 = .ok (.iaload, 1) := by decide +kernel
theorem dX7_goesOn_12 : decode cX7_goesOn 12 = .ok (.aload_n 0, 1) := by decide +kernel
theorem dX7_goesOn_13 : decode cX7_goesOn 13 = .ok (.iload_n 1, 1) := by decide +kernel
theorem dX7_goesOn_14 : decode cX7_goesOn 14 = .ok (.iconst 3, 1) := by decide +kernel
theorem dX7_goesOn_15 : decode cX7_goesOn 15 = .ok (.invokevirtual 143, 3) := by decide +kernel
theorem dX7_goesOn_18 : decode cX7_goesOn 18 = .ok (.isub, 1) := by decide +kernel
theorem dX7_goesOn_19 : decode cX7_goesOn 19 = .ok (.istore_n 3, 1) := by decide +kernel
theorem dX7_goesOn_20 : decode cX7_goesOn 20 = .ok (.aload_n 0, 1) := by decide +kernel
theorem dX7_goesOn_21 : decode cX7_goesOn 21 = .ok (.iload_n 1, 1) := by decide +kernel
theorem dX7_goesOn_22 : decode cX7_goesOn 22 = .ok (.invokevirtual 168, 3) := by decide +kernel
theorem dX7_goesOn_25 : decode cX7_goesOn 25 = .ok (.istore 4, 2) := by decide +kernel
theorem dX7_goesOn_27 : decode cX7_goesOn 27 = .ok (.aload_n 0, 1) := by decide +kernel
theorem dX7_goesOn_28 : decode cX7_goesOn 28 = .ok (.iload_n 1, 1) := by decide +kernel
theorem dX7_goesOn_29 : decode cX7_goesOn 29 = .ok (.iconst 3, 1) := by decide +kernel
theorem dX7_goesOn_30 : decode cX7_goesOn 30 = .ok (.aload_n 0, 1) := by decide +kernel
theorem dX7_goesOn_31 : decode cX7_goesOn 31 = .ok (.iload_n 1, 1) := by decide +kernel
theorem dX7_goesOn_32 : decode cX7_goesOn 32 = .ok (.iconst 3, 1) := by decide +kernel
theorem dX7_goesOn_33 : decode cX7_goesOn 33 = .ok (.invokevirtual 143, 3) := by decide +kernel
theorem dX7_goesOn_36 : decode cX7_goesOn 36 = .ok (.iload_n 3, 1) := by decide +kernel
theorem dX7_goesOn_37 : decode cX7_goesOn 37 = .ok (.iload 4, 2) := by decide +kernel
theorem dX7_goesOn_39 : decode cX7_goesOn 39 = .ok (.if_icmp .le 8, 3) := by decide +kernel
theorem dX7_goesOn_42 : decode cX7_goesOn 42 = .ok (.iload 4, 2) := by decide +kernel
theorem dX7_goesOn_44 : decode cX7_goesOn 44 = .ok (.goto 17, 3) := by decide +kernel
theorem dX7_goesOn_47 : decode cX7_goesOn 47 = .ok (.iload_n 3, 1) := by decide +kernel
theorem dX7_goesOn_48 : decode cX7_goesOn 48 = .ok (.iload 4, 2) := by decide +kernel
theorem dX7_goesOn_50 : decode cX7_goesOn 50 = .ok (.ineg, 1) := by decide +kernel
theorem dX7_goesOn_51 : decode cX7_goesOn 51 = .ok (.if_icmp .ge 9, 3) := by decide +kernel
theorem dX7_goesOn_54 : decode cX7_goesOn 54 = .ok (.iload 4, 2) := by decide +kernel
theorem dX7_goesOn_56 : decode cX7_goesOn 56 = .ok (.ineg, 1) := by decide +kernel
theorem dX7_goesOn_57 : decode cX7_goesOn 57 = .ok (.goto 4, 3) := by decide +kernel
theorem dX7_goesOn_60 : decode cX7_goesOn 60 = .ok (.iload_n 3, 1) := by decide +kernel
theorem dX7_goesOn_61 : decode cX7_goesOn 61 = .ok (.iadd, 1) := by decide +kernel
theorem dX7_goesOn_62 : decode cX7_goesOn 62 = .ok (.invokevirtual 158, 3) := by decide +kernel
theorem dX7_goesOn_65 : decode cX7_goesOn 65 = .ok (.aload_n 0, 1) := by decide +kernel
theorem dX7_goesOn_66 : decode cX7_goesOn 66 = .ok (.iload_n 1, 1) := by decide +kernel
theorem dX7_goesOn_67 : decode cX7_goesOn 67 = .ok (.iconst 3, 1) := by decide +kernel
theorem dX7_goesOn_68 : decode cX7_goesOn 68 = .ok (.invokevirtual 143, 3) := by decide +kernel
theorem dX7_goesOn_71 : decode cX7_goesOn 71 = .ok (.aload_n 0, 1) := by decide +kernel
theorem dX7_goesOn_72 : decode cX7_goesOn 72 = .ok (.getfield 13, 3) := by decide +kernel
theorem dX7_goesOn_75 : decode cX7_goesOn 75 = .ok (.iload_n 2, 1) := by decide +kernel
theorem dX7_goesOn_76 : decode cX7_goesOn 76 = .ok (.iaload, 1) := by decide +kernel
theorem dX7_goesOn_77 : decode cX7_goesOn 77 = .ok (.if_icmp .ne 20, 3) := by decide +kernel
theorem dX7_goesOn_80 : decode cX7_goesOn 80 = .ok (.aload_n 0, 1) := by decide +kernel
theorem dX7_goesOn_81 : decode cX7_goesOn 81 = .ok (.iload_n 1, 1) := by decide +kernel
theorem dX7_goesOn_82 : decode cX7_goesOn 82 = .ok (.iconst 4, 1) := by decide +kernel
theorem dX7_goesOn_83 : decode cX7_goesOn 83 = .ok (.iload_n 2, 1) := by decide +kernel
theorem dX7_goesOn_84 : decode cX7_goesOn 84 = .ok (.invokevirtual 158, 3) := by decide +kernel
theorem dX7_goesOn_87 : decode cX7_goesOn 87 = .ok (.aload_n 0, 1) := by decide +kernel
theorem dX7_goesOn_88 : decode cX7_goesOn 88 = .ok (.dup, 1) := by decide +kernel
theorem dX7_goesOn_89 : decode cX7_goesOn 89 = .ok (.getfield 171, 3) := by decide +kernel
theorem dX7_goesOn_92 : decode cX7_goesOn 92 = .ok (.iconst 1, 1) := by decide +kernel
theorem dX7_goesOn_93 : decode cX7_goesOn 93 = .ok (.iadd, 1) := by decide +kernel
theorem dX7_goesOn_94 : decode cX7_goesOn 94 = .ok (.putfield 171, 3) := by decide +kernel
theorem dX7_goesOn_97 : decode cX7_goesOn 97 = .ok (.return_, 1) := by decide +kernel
theorem dX7_dayGoes_0 : decode cX7_dayGoes 0 = .ok (.iconst 0, 1) := by decide +kernel
theorem dX7_dayGoes_1 : decode cX7_dayGoes 1 = .ok (.istore_n 2, 1) := by decide +kernel
theorem dX7_dayGoes_2 : decode cX7_dayGoes 2 = .ok (.iload_n 2, 1) := by decide +kernel
theorem dX7_dayGoes_3 : decode cX7_dayGoes 3 = .ok (.aload_n 0, 1) := by decide +kernel
theorem dX7_dayGoes_4 : decode cX7_dayGoes 4 = .ok (.getfield 13, 3) := by decide +kernel
theorem dX7_dayGoes_7 : decode cX7_dayGoes 7 = .ok (.bipush 34, 2) := by decide +kernel
theorem dX7_dayGoes_9 : decode cX7_dayGoes 9 = .ok (.iaload, 1) := by decide +kernel
theorem dX7_dayGoes_10 : decode cX7_dayGoes 10 = .ok (.if_icmp .ge 44, 3) := by decide +kernel
theorem dX7_dayGoes_13 : decode cX7_dayGoes 13 = .ok (.iload_n 2, 1) := by decide +kernel
theorem dX7_dayGoes_14 : decode cX7_dayGoes 14 = .ok (.aload_n 0, 1) := by decide +kernel
theorem dX7_dayGoes_15 : decode cX7_dayGoes 15 = .ok (.getfield 140, 3) := by decide +kernel
theorem dX7_dayGoes_18 : decode cX7_dayGoes 18 = .ok (.if_icmp .eq 30, 3) := by decide +kernel
theorem dX7_dayGoes_21 : decode cX7_dayGoes 21 = .ok (.aload_n 0, 1) := by decide +kernel
theorem dX7_dayGoes_22 : decode cX7_dayGoes 22 = .ok (.iload_n 2, 1) := by decide +kernel
theorem dX7_dayGoes_23 : decode cX7_dayGoes 23 = .ok (.iconst 4, 1) := by decide +kernel
theorem dX7_dayGoes_24 : decode cX7_dayGoes 24 = .ok (.invokevirtual 143, 3) := by decide +kernel
theorem dX7_dayGoes_27 : decode cX7_dayGoes 27 = .ok (.bipush (-4), 2) := by decide +kernel
theorem dX7_dayGoes_29 : decode cX7_dayGoes 29 = .ok (.if_icmp .eq 19, 3) := by decide +kernel
theorem dX7_dayGoes_32 : decode cX7_dayGoes 32 = .ok (.aload_n 0, 1) := by decide +kernel
theorem dX7_dayGoes_33 : decode cX7_dayGoes 33 = .ok (.iload_n 2, 1) := by decide +kernel
theorem dX7_dayGoes_34 : decode cX7_dayGoes 34 = .ok (.iconst 1, 1) := by decide +kernel
theorem dX7_dayGoes_35 : decode cX7_dayGoes 35 = .ok (.invokevirtual 143, 3) := by decide +kernel
theorem dX7_dayGoes_38 : decode cX7_dayGoes 38 = .ok (.iload_n 1, 1) := by decide +kernel
theorem dX7_dayGoes_39 : decode cX7_dayGoes 39 = .ok (.if_icmp .ge 9, 3) := by decide +kernel
theorem dX7_dayGoes_42 : decode cX7_dayGoes 42 = .ok (.aload_n 0, 1) := by decide +kernel
theorem dX7_dayGoes_43 : decode cX7_dayGoes 43 = .ok (.iload_n 2, 1) := by decide +kernel
theorem dX7_dayGoes_44 : decode cX7_dayGoes 44 = .ok (.iload_n 1, 1) := by decide +kernel
theorem dX7_dayGoes_45 : decode cX7_dayGoes 45 = .ok (.invokevirtual 174, 3) := by decide +kernel
theorem dX7_dayGoes_48 : decode cX7_dayGoes 48 = .ok (.iinc 2 1, 3) := by decide +kernel
theorem dX7_dayGoes_51 : decode cX7_dayGoes 51 = .ok (.goto (-49), 3) := by decide +kernel
theorem dX7_dayGoes_54 : decode cX7_dayGoes 54 = .ok (.iconst 0, 1) := by decide +kernel
theorem dX7_dayGoes_55 : decode cX7_dayGoes 55 = .ok (.istore_n 2, 1) := by decide +kernel
theorem dX7_dayGoes_56 : decode cX7_dayGoes 56 = .ok (.iload_n 2, 1) := by decide +kernel
theorem dX7_dayGoes_57 : decode cX7_dayGoes 57 = .ok (.aload_n 0, 1) := by decide +kernel
theorem dX7_dayGoes_58 : decode cX7_dayGoes 58 = .ok (.getfield 13, 3) := by decide +kernel
theorem dX7_dayGoes_61 : decode cX7_dayGoes 61 = .ok (.bipush 34, 2) := by decide +kernel
theorem dX7_dayGoes_63 : decode cX7_dayGoes 63 = .ok (.iaload, 1) := by decide +kernel
theorem dX7_dayGoes_64 : decode cX7_dayGoes 64 = .ok (.if_icmp .ge 33, 3) := by decide +kernel
theorem dX7_dayGoes_67 : decode cX7_dayGoes 67 = .ok (.iload_n 2, 1) := by decide +kernel
theorem dX7_dayGoes_68 : decode cX7_dayGoes 68 = .ok (.aload_n 0, 1) := by decide +kernel
theorem dX7_dayGoes_69 : decode cX7_dayGoes 69 = .ok (.getfield 140, 3) := by decide +kernel
theorem dX7_dayGoes_72 : decode cX7_dayGoes 72 = .ok (.if_icmp .eq 19, 3) := by decide +kernel
theorem dX7_dayGoes_75 : decode cX7_dayGoes 75 = .ok (.aload_n 0, 1) := by decide +kernel
theorem dX7_dayGoes_76 : decode cX7_dayGoes 76 = .ok (.iload_n 2, 1) := by decide +kernel
theorem dX7_dayGoes_77 : decode cX7_dayGoes 77 = .ok (.iconst 4, 1) := by decide +kernel
theorem dX7_dayGoes_78 : decode cX7_dayGoes 78 = .ok (.invokevirtual 143, 3) := by decide +kernel
theorem dX7_dayGoes_81 : decode cX7_dayGoes 81 = .ok (.bipush (-4), 2) := by decide +kernel
theorem dX7_dayGoes_83 : decode cX7_dayGoes 83 = .ok (.if_icmp .ne 8, 3) := by decide +kernel
theorem dX7_dayGoes_86 : decode cX7_dayGoes 86 = .ok (.aload_n 0, 1) := by decide +kernel
theorem dX7_dayGoes_87 : decode cX7_dayGoes 87 = .ok (.iload_n 2, 1) := by decide +kernel
theorem dX7_dayGoes_88 : decode cX7_dayGoes 88 = .ok (.invokevirtual 178, 3) := by decide +kernel
theorem dX7_dayGoes_91 : decode cX7_dayGoes 91 = .ok (.iinc 2 1, 3) := by decide +kernel
theorem dX7_dayGoes_94 : decode cX7_dayGoes 94 = .ok (.goto (-38), 3) := by decide +kernel
theorem dX7_dayGoes_97 : decode cX7_dayGoes 97 = .ok (.aload_n 0, 1) := by decide +kernel
theorem dX7_dayGoes_98 : decode cX7_dayGoes 98 = .ok (.getfield 13, 3) := by decide +kernel
theorem dX7_dayGoes_101 : decode cX7_dayGoes 101 = .ok (.bipush 41, 2) := by decide +kernel
theorem dX7_dayGoes_103 : decode cX7_dayGoes 103 = .ok (.dup2, 1) := by decide +kernel
theorem dX7_dayGoes_104 : decode cX7_dayGoes 104 = .ok (.iaload, 1) := by decide +kernel
theorem dX7_dayGoes_105 : decode cX7_dayGoes 105 = .ok (.iconst 1, 1) := by decide +kernel
theorem dX7_dayGoes_106 : decode cX7_dayGoes 106 = .ok (.iadd, 1) := by decide +kernel
theorem dX7_dayGoes_107 : decode cX7_dayGoes 107 = .ok (.iastore, 1) := by decide +kernel
theorem dX7_dayGoes_108 : decode cX7_dayGoes 108 = .ok (.return_, 1) := by decide +kernel
theorem dX7_strengthNow_0 : decode cX7_strengthNow 0 = .ok (.aload_n 0, 1) := by decide +kernel
theorem dX7_strengthNow_1 : decode cX7_strengthNow 1 = .ok (.getfield 13, 3) := by decide +kernel
theorem dX7_strengthNow_4 : decode cX7_strengthNow 4 = .ok (.bipush 35, 2) := by decide +kernel
theorem dX7_strengthNow_6 : decode cX7_strengthNow 6 = .ok (.aload_n 0, 1) := by decide +kernel
theorem dX7_strengthNow_7 : decode cX7_strengthNow 7 = .ok (.getfield 13, 3) := by decide +kernel
theorem dX7_strengthNow_10 : decode cX7_strengthNow 10 = .ok (.bipush 41, 2) := by decide +kernel
theorem dX7_strengthNow_12 : decode cX7_strengthNow 12 = .ok (.iaload, 1) := by decide +kernel
theorem dX7_strengthNow_13 : decode cX7_strengthNow 13 = .ok (.bipush 6, 2) := by decide +kernel
theorem dX7_strengthNow_15 : decode cX7_strengthNow 15 = .ok (.irem, 1) := by decide +kernel
theorem dX7_strengthNow_16 : decode cX7_strengthNow 16 = .ok (.iadd, 1) := by decide +kernel
theorem dX7_strengthNow_17 : decode cX7_strengthNow 17 = .ok (.iaload, 1) := by decide +kernel
theorem dX7_strengthNow_18 : decode cX7_strengthNow 18 = .ok (.ireturn, 1) := by decide +kernel
theorem dX7_daysGo_0 : decode cX7_daysGo 0 = .ok (.aload_n 0, 1) := by decide +kernel
theorem dX7_daysGo_1 : decode cX7_daysGo 1 = .ok (.iconst 0, 1) := by decide +kernel
theorem dX7_daysGo_2 : decode cX7_daysGo 2 = .ok (.putfield 162, 3) := by decide +kernel
theorem dX7_daysGo_5 : decode cX7_daysGo 5 = .ok (.aload_n 0, 1) := by decide +kernel
theorem dX7_daysGo_6 : decode cX7_daysGo 6 = .ok (.iconst 0, 1) := by decide +kernel
theorem dX7_daysGo_7 : decode cX7_daysGo 7 = .ok (.putfield 171, 3) := by decide +kernel
theorem dX7_daysGo_10 : decode cX7_daysGo 10 = .ok (.iconst 0, 1) := by decide +kernel
theorem dX7_daysGo_11 : decode cX7_daysGo 11 = .ok (.istore_n 2, 1) := by decide +kernel
theorem dX7_daysGo_12 : decode cX7_daysGo 12 = .ok (.iload_n 2, 1) := by decide +kernel
theorem dX7_daysGo_13 : decode cX7_daysGo 13 = .ok (.iload_n 1, 1) := by decide +kernel
theorem dX7_daysGo_14 : decode cX7_daysGo 14 = .ok (.if_icmp .ge 17, 3) := by decide +kernel
theorem dX7_daysGo_17 : decode cX7_daysGo 17 = .ok (.aload_n 0, 1) := by decide +kernel
theorem dX7_daysGo_18 : decode cX7_daysGo 18 = .ok (.aload_n 0, 1) := by decide +kernel
theorem dX7_daysGo_19 : decode cX7_daysGo 19 = .ok (.invokevirtual 181, 3) := by decide +kernel
theorem dX7_daysGo_22 : decode cX7_daysGo 22 = .ok (.invokevirtual 184, 3) := by decide +kernel
theorem dX7_daysGo_25 : decode cX7_daysGo 25 = .ok (.iinc 2 1, 3) := by decide +kernel
theorem dX7_daysGo_28 : decode cX7_daysGo 28 = .ok (.goto (-16), 3) := by decide +kernel
theorem dX7_daysGo_31 : decode cX7_daysGo 31 = .ok (.return_, 1) := by decide +kernel
theorem dX7_sitting_0 : decode cX7_sitting 0 = .ok (.iconst 0, 1) := by decide +kernel
theorem dX7_sitting_1 : decode cX7_sitting 1 = .ok (.istore_n 1, 1) := by decide +kernel
theorem dX7_sitting_2 : decode cX7_sitting 2 = .ok (.iconst 0, 1) := by decide +kernel
theorem dX7_sitting_3 : decode cX7_sitting 3 = .ok (.istore_n 2, 1) := by decide +kernel
theorem dX7_sitting_4 : decode cX7_sitting 4 = .ok (.iload_n 2, 1) := by decide +kernel
theorem dX7_sitting_5 : decode cX7_sitting 5 = .ok (.aload_n 0, 1) := by decide +kernel
theorem dX7_sitting_6 : decode cX7_sitting 6 = .ok (.getfield 13, 3) := by decide +kernel
theorem dX7_sitting_9 : decode cX7_sitting 9 = .ok (.bipush 34, 2) := by decide +kernel
theorem dX7_sitting_11 : decode cX7_sitting 11 = .ok (.iaload, 1) := by decide +kernel
theorem dX7_sitting_12 : decode cX7_sitting 12 = .ok (.if_icmp .ge 31, 3) := by decide +kernel
theorem dX7_sitting_15 : decode cX7_sitting 15 = .ok (.iload_n 1, 1) := by decide +kernel
theorem dX7_sitting_16 : decode cX7_sitting 16 = .ok (.aload_n 0, 1) := by decide +kernel
theorem dX7_sitting_17 : decode cX7_sitting 17 = .ok (.iload_n 2, 1) := by decide +kernel
theorem dX7_sitting_18 : decode cX7_sitting 18 = .ok (.iconst 4, 1) := by decide +kernel
theorem dX7_sitting_19 : decode cX7_sitting 19 = .ok (.invokevirtual 143, 3) := by decide +kernel
theorem dX7_sitting_22 : decode cX7_sitting 22 = .ok (.bipush (-4), 2) := by decide +kernel
theorem dX7_sitting_24 : decode cX7_sitting 24 = .ok (.if_icmp .eq 7, 3) := by decide +kernel
theorem dX7_sitting_27 : decode cX7_sitting 27 = .ok (.iconst 1, 1) := by decide +kernel
theorem dX7_sitting_28 : decode cX7_sitting 28 = .ok (.goto 4, 3) := by decide +kernel
theorem dX7_sitting_31 : decode cX7_sitting 31 = .ok (.iconst 0, 1) := by decide +kernel
theorem dX7_sitting_32 : decode cX7_sitting 32 = .ok (.invokestatic 187, 3) := by decide +kernel
theorem dX7_sitting_35 : decode cX7_sitting 35 = .ok (.iadd, 1) := by decide +kernel
theorem dX7_sitting_36 : decode cX7_sitting 36 = .ok (.istore_n 1, 1) := by decide +kernel
theorem dX7_sitting_37 : decode cX7_sitting 37 = .ok (.iinc 2 1, 3) := by decide +kernel
theorem dX7_sitting_40 : decode cX7_sitting 40 = .ok (.goto (-36), 3) := by decide +kernel
theorem dX7_sitting_43 : decode cX7_sitting 43 = .ok (.iload_n 1, 1) := by decide +kernel
theorem dX7_sitting_44 : decode cX7_sitting 44 = .ok (.ireturn, 1) := by decide +kernel
theorem dX7_allCounted_0 : decode cX7_allCounted 0 = .ok (.iconst 0, 1) := by decide +kernel
theorem dX7_allCounted_1 : decode cX7_allCounted 1 = .ok (.istore_n 1, 1) := by decide +kernel
theorem dX7_allCounted_2 : decode cX7_allCounted 2 = .ok (.iconst 0, 1) := by decide +kernel
theorem dX7_allCounted_3 : decode cX7_allCounted 3 = .ok (.istore_n 2, 1) := by decide +kernel
theorem dX7_allCounted_4 : decode cX7_allCounted 4 = .ok (.iload_n 2, 1) := by decide +kernel
theorem dX7_allCounted_5 : decode cX7_allCounted 5 = .ok (.aload_n 0, 1) := by decide +kernel
theorem dX7_allCounted_6 : decode cX7_allCounted 6 = .ok (.getfield 60, 3) := by decide +kernel
theorem dX7_allCounted_9 : decode cX7_allCounted 9 = .ok (.if_icmp .ge 17, 3) := by decide +kernel
theorem dX7_allCounted_12 : decode cX7_allCounted 12 = .ok (.iload_n 1, 1) := by decide +kernel
theorem dX7_allCounted_13 : decode cX7_allCounted 13 = .ok (.aload_n 0, 1) := by decide +kernel
theorem dX7_allCounted_14 : decode cX7_allCounted 14 = .ok (.iload_n 2, 1) := by decide +kernel
theorem dX7_allCounted_15 : decode cX7_allCounted 15 = .ok (.invokevirtual 149, 3) := by decide +kernel
theorem dX7_allCounted_18 : decode cX7_allCounted 18 = .ok (.iadd, 1) := by decide +kernel
theorem dX7_allCounted_19 : decode cX7_allCounted 19 = .ok (.istore_n 1, 1) := by decide +kernel
theorem dX7_allCounted_20 : decode cX7_allCounted 20 = .ok (.iinc 2 1, 3) := by decide +kernel
theorem dX7_allCounted_23 : decode cX7_allCounted 23 = .ok (.goto (-19), 3) := by decide +kernel
theorem dX7_allCounted_26 : decode cX7_allCounted 26 = .ok (.iload_n 1, 1) := by decide +kernel
theorem dX7_allCounted_27 : decode cX7_allCounted 27 = .ok (.ireturn, 1) := by decide +kernel
theorem dX7_mostCounted_0 : decode cX7_mostCounted 0 = .ok (.bipush (-4), 2) := by decide +kernel
theorem dX7_mostCounted_2 : decode cX7_mostCounted 2 = .ok (.istore_n 1, 1) := by decide +kernel
theorem dX7_mostCounted_3 : decode cX7_mostCounted 3 = .ok (.iconst 0, 1) := by decide +kernel
theorem dX7_mostCounted_4 : decode cX7_mostCounted 4 = .ok (.istore_n 2, 1) := by decide +kernel
theorem dX7_mostCounted_5 : decode cX7_mostCounted 5 = .ok (.iload_n 2, 1) := by decide +kernel
theorem dX7_mostCounted_6 : decode cX7_mostCounted 6 = .ok (.aload_n 0, 1) := by decide +kernel
theorem dX7_mostCounted_7 : decode cX7_mostCounted 7 = .ok (.getfield 60, 3) := by decide +kernel
theorem dX7_mostCounted_10 : decode cX7_mostCounted 10 = .ok (.if_icmp .ge 38, 3) := by decide +kernel
theorem dX7_mostCounted_13 : decode cX7_mostCounted 13 = .ok (.aload_n 0, 1) := by decide +kernel
theorem dX7_mostCounted_14 : decode cX7_mostCounted 14 = .ok (.iload_n 2, 1) := by decide +kernel
theorem dX7_mostCounted_15 : decode cX7_mostCounted 15 = .ok (.invokevirtual 149, 3) := by decide +kernel
theorem dX7_mostCounted_18 : decode cX7_mostCounted 18 = .ok (.iload_n 1, 1) := by decide +kernel
theorem dX7_mostCounted_19 : decode cX7_mostCounted 19 = .ok (.bipush (-4), 2) := by decide +kernel
theorem dX7_mostCounted_21 : decode cX7_mostCounted 21 = .ok (.if_icmp .ne 7, 3) := by decide +kernel
theorem dX7_mostCounted_24 : decode cX7_mostCounted 24 = .ok (.iconst 0, 1) := by decide +kernel
theorem dX7_mostCounted_25 : decode cX7_mostCounted 25 = .ok (.goto 8, 3) := by decide +kernel
theorem dX7_mostCounted_28 : decode cX7_mostCounted 28 = .ok (.aload_n 0, 1) := by decide +kernel
theorem dX7_mostCounted_29 : decode cX7_mostCounted 29 = .ok (.iload_n 1, 1) := by decide +kernel
theorem dX7_mostCounted_30 : decode cX7_mostCounted 30 = .ok (.invokevirtual 149, 3) := by decide +kernel
theorem dX7_mostCounted_33 : decode cX7_mostCounted 33 = .ok (.if_icmp .le 7, 3) := by decide +kernel
theorem dX7_mostCounted_36 : decode cX7_mostCounted 36 = .ok (.iload_n 2, 1) := by decide +kernel
theorem dX7_mostCounted_37 : decode cX7_mostCounted 37 = .ok (.goto 4, 3) := by decide +kernel
theorem dX7_mostCounted_40 : decode cX7_mostCounted 40 = .ok (.iload_n 1, 1) := by decide +kernel
theorem dX7_mostCounted_41 : decode cX7_mostCounted 41 = .ok (.istore_n 1, 1) := by decide +kernel
theorem dX7_mostCounted_42 : decode cX7_mostCounted 42 = .ok (.iinc 2 1, 3) := by decide +kernel
theorem dX7_mostCounted_45 : decode cX7_mostCounted 45 = .ok (.goto (-40), 3) := by decide +kernel
theorem dX7_mostCounted_48 : decode cX7_mostCounted 48 = .ok (.iload_n 1, 1) := by decide +kernel
theorem dX7_mostCounted_49 : decode cX7_mostCounted 49 = .ok (.ireturn, 1) := by decide +kernel
theorem dX7_rule_0 : decode cX7_rule 0 = .ok (.aload_n 0, 1) := by decide +kernel
theorem dX7_rule_1 : decode cX7_rule 1 = .ok (.invokevirtual 191, 3) := by decide +kernel
theorem dX7_rule_4 : decode cX7_rule 4 = .ok (.iload_n 1, 1) := by decide +kernel
theorem dX7_rule_5 : decode cX7_rule 5 = .ok (.tableswitch 75 0 5 #[39, 44, 52, 60, 65, 70], 39) := by decide +kernel
theorem dX7_rule_44 : decode cX7_rule 44 = .ok (.aload_n 0, 1) := by decide +kernel
theorem dX7_rule_45 : decode cX7_rule 45 = .ok (.getfield 60, 3) := by decide +kernel
theorem dX7_rule_48 : decode cX7_rule 48 = .ok (.ireturn, 1) := by decide +kernel
theorem dX7_rule_49 : decode cX7_rule 49 = .ok (.aload_n 0, 1) := by decide +kernel
theorem dX7_rule_50 : decode cX7_rule 50 = .ok (.getfield 7, 3) := by decide +kernel
theorem dX7_rule_53 : decode cX7_rule 53 = .ok (.bipush 34, 2) := by decide +kernel
theorem dX7_rule_55 : decode cX7_rule 55 = .ok (.iaload, 1) := by decide +kernel
theorem dX7_rule_56 : decode cX7_rule 56 = .ok (.ireturn, 1) := by decide +kernel
theorem dX7_rule_57 : decode cX7_rule 57 = .ok (.aload_n 0, 1) := by decide +kernel
theorem dX7_rule_58 : decode cX7_rule 58 = .ok (.getfield 7, 3) := by decide +kernel
theorem dX7_rule_61 : decode cX7_rule 61 = .ok (.bipush 41, 2) := by decide +kernel
theorem dX7_rule_63 : decode cX7_rule 63 = .ok (.iaload, 1) := by decide +kernel
theorem dX7_rule_64 : decode cX7_rule 64 = .ok (.ireturn, 1) := by decide +kernel
theorem dX7_rule_65 : decode cX7_rule 65 = .ok (.aload_n 0, 1) := by decide +kernel
theorem dX7_rule_66 : decode cX7_rule 66 = .ok (.invokevirtual 194, 3) := by decide +kernel
theorem dX7_rule_69 : decode cX7_rule 69 = .ok (.ireturn, 1) := by decide +kernel
theorem dX7_rule_70 : decode cX7_rule 70 = .ok (.aload_n 0, 1) := by decide +kernel
theorem dX7_rule_71 : decode cX7_rule 71 = .ok (.invokevirtual 197, 3) := by decide +kernel
theorem dX7_rule_74 : decode cX7_rule 74 = .ok (.ireturn, 1) := by decide +kernel
theorem dX7_rule_75 : decode cX7_rule 75 = .ok (.aload_n 0, 1) := by decide +kernel
theorem dX7_rule_76 : decode cX7_rule 76 = .ok (.invokevirtual 200, 3) := by decide +kernel
theorem dX7_rule_79 : decode cX7_rule 79 = .ok (.ireturn, 1) := by decide +kernel
theorem dX7_rule_80 : decode cX7_rule 80 = .ok (.iconst (-1), 1) := by decide +kernel
theorem dX7_rule_81 : decode cX7_rule 81 = .ok (.ireturn, 1) := by decide +kernel
theorem dX7_one_0 : decode cX7_one 0 = .ok (.aload_n 0, 1) := by decide +kernel
theorem dX7_one_1 : decode cX7_one 1 = .ok (.iload_n 1, 1) := by decide +kernel
theorem dX7_one_2 : decode cX7_one 2 = .ok (.invokevirtual 203, 3) := by decide +kernel
theorem dX7_one_5 : decode cX7_one 5 = .ok (.ifCond .ne 5, 3) := by decide +kernel
theorem dX7_one_8 : decode cX7_one 8 = .ok (.iconst (-1), 1) := by decide +kernel
theorem dX7_one_9 : decode cX7_one 9 = .ok (.ireturn, 1) := by decide +kernel
theorem dX7_one_10 : decode cX7_one 10 = .ok (.aload_n 0, 1) := by decide +kernel
theorem dX7_one_11 : decode cX7_one 11 = .ok (.invokevirtual 191, 3) := by decide +kernel
theorem dX7_one_14 : decode cX7_one 14 = .ok (.iconst 0, 1) := by decide +kernel
theorem dX7_one_15 : decode cX7_one 15 = .ok (.istore_n 3, 1) := by decide +kernel
theorem dX7_one_16 : decode cX7_one 16 = .ok (.iconst 0, 1) := by decide +kernel
theorem dX7_one_17 : decode cX7_one 17 = .ok (.istore 4, 2) := by decide +kernel
theorem dX7_one_19 : decode cX7_one 19 = .ok (.iconst 0, 1) := by decide +kernel
theorem dX7_one_20 : decode cX7_one 20 = .ok (.istore 5, 2) := by decide +kernel
theorem dX7_one_22 : decode cX7_one 22 = .ok (.iload 5, 2) := by decide +kernel
theorem dX7_one_24 : decode cX7_one 24 = .ok (.aload_n 0, 1) := by decide +kernel
theorem dX7_one_25 : decode cX7_one 25 = .ok (.getfield 7, 3) := by decide +kernel
theorem dX7_one_28 : decode cX7_one 28 = .ok (.bipush 34, 2) := by decide +kernel
theorem dX7_one_30 : decode cX7_one 30 = .ok (.iaload, 1) := by decide +kernel
theorem dX7_one_31 : decode cX7_one 31 = .ok (.if_icmp .ge 69, 3) := by decide +kernel
theorem dX7_one_34 : decode cX7_one 34 = .ok (.aload_n 0, 1) := by decide +kernel
theorem dX7_one_35 : decode cX7_one 35 = .ok (.iload 5, 2) := by decide +kernel
theorem dX7_one_37 : decode cX7_one 37 = .ok (.iconst 4, 1) := by decide +kernel
theorem dX7_one_38 : decode cX7_one 38 = .ok (.invokevirtual 143, 3) := by decide +kernel
theorem dX7_one_41 : decode cX7_one 41 = .ok (.iload_n 1, 1) := by decide +kernel
theorem dX7_one_42 : decode cX7_one 42 = .ok (.if_icmp .ne 7, 3) := by decide +kernel
theorem dX7_one_45 : decode cX7_one 45 = .ok (.iconst 1, 1) := by decide +kernel
theorem dX7_one_46 : decode cX7_one 46 = .ok (.goto 4, 3) := by decide +kernel
theorem dX7_one_49 : decode cX7_one 49 = .ok (.iconst 0, 1) := by decide +kernel
theorem dX7_one_50 : decode cX7_one 50 = .ok (.istore 6, 2) := by decide +kernel
theorem dX7_one_52 : decode cX7_one 52 = .ok (.iload_n 3, 1) := by decide +kernel
theorem dX7_one_53 : decode cX7_one 53 = .ok (.iload 6, 2) := by decide +kernel
theorem dX7_one_55 : decode cX7_one 55 = .ok (.invokestatic 187, 3) := by decide +kernel
theorem dX7_one_58 : decode cX7_one 58 = .ok (.iload 5, 2) := by decide +kernel
theorem dX7_one_60 : decode cX7_one 60 = .ok (.ishl, 1) := by decide +kernel
theorem dX7_one_61 : decode cX7_one 61 = .ok (.ior, 1) := by decide +kernel
theorem dX7_one_62 : decode cX7_one 62 = .ok (.istore_n 3, 1) := by decide +kernel
theorem dX7_one_63 : decode cX7_one 63 = .ok (.iload 4, 2) := by decide +kernel
theorem dX7_one_65 : decode cX7_one 65 = .ok (.iload 6, 2) := by decide +kernel
theorem dX7_one_67 : decode cX7_one 67 = .ok (.ifCond .eq 23, 3) := by decide +kernel
theorem dX7_one_70 : decode cX7_one 70 = .ok (.aload_n 0, 1) := by decide +kernel
theorem dX7_one_71 : decode cX7_one 71 = .ok (.iload 5, 2) := by decide +kernel
theorem dX7_one_73 : decode cX7_one 73 = .ok (.iconst 0, 1) := by decide +kernel
theorem dX7_one_74 : decode cX7_one 74 = .ok (.invokevirtual 143, 3) := by decide +kernel
theorem dX7_one_77 : decode cX7_one 77 = .ok (.iconst 3, 1) := by decide +kernel
theorem dX7_one_78 : decode cX7_one 78 = .ok (.if_icmp .ne 12, 3) := by decide +kernel
theorem dX7_one_81 : decode cX7_one 81 = .ok (.aload_n 0, 1) := by decide +kernel
theorem dX7_one_82 : decode cX7_one 82 = .ok (.iload 5, 2) := by decide +kernel
theorem dX7_one_84 : decode cX7_one 84 = .ok (.invokevirtual 146, 3) := by decide +kernel
theorem dX7_one_87 : decode cX7_one 87 = .ok (.goto 4, 3) := by decide +kernel
theorem dX7_one_90 : decode cX7_one 90 = .ok (.iconst 0, 1) := by decide +kernel
theorem dX7_one_91 : decode cX7_one 91 = .ok (.iadd, 1) := by decide +kernel
theorem dX7_one_92 : decode cX7_one 92 = .ok (.istore 4, 2) := by decide +kernel
theorem dX7_one_94 : decode cX7_one 94 = .ok (.iinc 5 1, 3) := by decide +kernel
theorem dX7_one_97 : decode cX7_one 97 = .ok (.goto (-75), 3) := by decide +kernel
theorem dX7_one_100 : decode cX7_one 100 = .ok (.iload_n 2, 1) := by decide +kernel
theorem dX7_one_101 : decode cX7_one 101 = .ok (.ifCond .ne 12, 3) := by decide +kernel
theorem dX7_one_104 : decode cX7_one 104 = .ok (.aload_n 0, 1) := by decide +kernel
theorem dX7_one_105 : decode cX7_one 105 = .ok (.getfield 7, 3) := by decide +kernel
theorem dX7_one_108 : decode cX7_one 108 = .ok (.iload_n 1, 1) := by decide +kernel
theorem dX7_one_109 : decode cX7_one 109 = .ok (.iaload, 1) := by decide +kernel
theorem dX7_one_110 : decode cX7_one 110 = .ok (.goto 36, 3) := by decide +kernel
theorem dX7_one_113 : decode cX7_one 113 = .ok (.iload_n 2, 1) := by decide +kernel
theorem dX7_one_114 : decode cX7_one 114 = .ok (.iconst 1, 1) := by decide +kernel
theorem dX7_one_115 : decode cX7_one 115 = .ok (.if_icmp .ne 7, 3) := by decide +kernel
theorem dX7_one_118 : decode cX7_one 118 = .ok (.iload_n 3, 1) := by decide +kernel
theorem dX7_one_119 : decode cX7_one 119 = .ok (.goto 27, 3) := by decide +kernel
theorem dX7_one_122 : decode cX7_one 122 = .ok (.iload_n 2, 1) := by decide +kernel
theorem dX7_one_123 : decode cX7_one 123 = .ok (.iconst 2, 1) := by decide +kernel
theorem dX7_one_124 : decode cX7_one 124 = .ok (.if_icmp .ne 11, 3) := by decide +kernel
theorem dX7_one_127 : decode cX7_one 127 = .ok (.aload_n 0, 1) := by decide +kernel
theorem dX7_one_128 : decode cX7_one 128 = .ok (.iload_n 1, 1) := by decide +kernel
theorem dX7_one_129 : decode cX7_one 129 = .ok (.invokevirtual 149, 3) := by decide +kernel
theorem dX7_one_132 : decode cX7_one 132 = .ok (.goto 14, 3) := by decide +kernel
theorem dX7_one_135 : decode cX7_one 135 = .ok (.iload_n 2, 1) := by decide +kernel
theorem dX7_one_136 : decode cX7_one 136 = .ok (.iconst 3, 1) := by decide +kernel
theorem dX7_one_137 : decode cX7_one 137 = .ok (.if_icmp .ne 8, 3) := by decide +kernel
theorem dX7_one_140 : decode cX7_one 140 = .ok (.iload 4, 2) := by decide +kernel
theorem dX7_one_142 : decode cX7_one 142 = .ok (.goto 4, 3) := by decide +kernel
theorem dX7_one_145 : decode cX7_one 145 = .ok (.iconst (-1), 1) := by decide +kernel
theorem dX7_one_146 : decode cX7_one 146 = .ok (.ireturn, 1) := by decide +kernel
theorem dX7_beetle_0 : decode cX7_beetle 0 = .ok (.aload_n 0, 1) := by decide +kernel
theorem dX7_beetle_1 : decode cX7_beetle 1 = .ok (.iload_n 1, 1) := by decide +kernel
theorem dX7_beetle_2 : decode cX7_beetle 2 = .ok (.invokevirtual 207, 3) := by decide +kernel
theorem dX7_beetle_5 : decode cX7_beetle 5 = .ok (.ifCond .ne 5, 3) := by decide +kernel
theorem dX7_beetle_8 : decode cX7_beetle 8 = .ok (.iconst (-1), 1) := by decide +kernel
theorem dX7_beetle_9 : decode cX7_beetle 9 = .ok (.ireturn, 1) := by decide +kernel
theorem dX7_beetle_10 : decode cX7_beetle 10 = .ok (.aload_n 0, 1) := by decide +kernel
theorem dX7_beetle_11 : decode cX7_beetle 11 = .ok (.invokevirtual 191, 3) := by decide +kernel
theorem dX7_beetle_14 : decode cX7_beetle 14 = .ok (.iload_n 2, 1) := by decide +kernel
theorem dX7_beetle_15 : decode cX7_beetle 15 = .ok (.tableswitch 66 0 6 #[41, 41, 41, 48, 41, 54, 60], 41) := by decide +kernel
theorem dX7_beetle_56 : decode cX7_beetle 56 = .ok (.aload_n 0, 1) := by decide +kernel
theorem dX7_beetle_57 : decode cX7_beetle 57 = .ok (.iload_n 1, 1) := by decide +kernel
theorem dX7_beetle_58 : decode cX7_beetle 58 = .ok (.iload_n 2, 1) := by decide +kernel
theorem dX7_beetle_59 : decode cX7_beetle 59 = .ok (.invokevirtual 143, 3) := by decide +kernel
theorem dX7_beetle_62 : decode cX7_beetle 62 = .ok (.ireturn, 1) := by decide +kernel
theorem dX7_beetle_63 : decode cX7_beetle 63 = .ok (.aload_n 0, 1) := by decide +kernel
theorem dX7_beetle_64 : decode cX7_beetle 64 = .ok (.iload_n 1, 1) := by decide +kernel
theorem dX7_beetle_65 : decode cX7_beetle 65 = .ok (.invokevirtual 155, 3) := by decide +kernel
theorem dX7_beetle_68 : decode cX7_beetle 68 = .ok (.ireturn, 1) := by decide +kernel
theorem dX7_beetle_69 : decode cX7_beetle 69 = .ok (.aload_n 0, 1) := by decide +kernel
theorem dX7_beetle_70 : decode cX7_beetle 70 = .ok (.iload_n 1, 1) := by decide +kernel
theorem dX7_beetle_71 : decode cX7_beetle 71 = .ok (.invokevirtual 165, 3) := by decide +kernel
theorem dX7_beetle_74 : decode cX7_beetle 74 = .ok (.ireturn, 1) := by decide +kernel
theorem dX7_beetle_75 : decode cX7_beetle 75 = .ok (.aload_n 0, 1) := by decide +kernel
theorem dX7_beetle_76 : decode cX7_beetle 76 = .ok (.iload_n 1, 1) := by decide +kernel
theorem dX7_beetle_77 : decode cX7_beetle 77 = .ok (.invokevirtual 146, 3) := by decide +kernel
theorem dX7_beetle_80 : decode cX7_beetle 80 = .ok (.ireturn, 1) := by decide +kernel
theorem dX7_beetle_81 : decode cX7_beetle 81 = .ok (.iconst (-1), 1) := by decide +kernel
theorem dX7_beetle_82 : decode cX7_beetle 82 = .ok (.ireturn, 1) := by decide +kernel
theorem dX7_wind_0 : decode cX7_wind 0 = .ok (.iload_n 1, 1) := by decide +kernel
theorem dX7_wind_1 : decode cX7_wind 1 = .ok (.i2l, 1) := by decide +kernel
theorem dX7_wind_2 : decode cX7_wind 2 = .ok (.lconst 0, 1) := by decide +kernel
theorem dX7_wind_3 : decode cX7_wind 3 = .ok (.ldc2_w 210, 3) := by decide +kernel
theorem dX7_wind_6 : decode cX7_wind 6 = .ok (.invokestatic 65, 3) := by decide +kernel
theorem dX7_wind_9 : decode cX7_wind 9 = .ok (.ifCond .eq 15, 3) := by decide +kernel
theorem dX7_wind_12 : decode cX7_wind 12 = .ok (.aload_n 0, 1) := by decide +kernel
theorem dX7_wind_13 : decode cX7_wind 13 = .ok (.getfield 7, 3) := by decide +kernel
theorem dX7_wind_16 : decode cX7_wind 16 = .ok (.bipush 35, 2) := by decide +kernel
theorem dX7_wind_18 : decode cX7_wind 18 = .ok (.iload_n 1, 1) := by decide +kernel
theorem dX7_wind_19 : decode cX7_wind 19 = .ok (.iadd, 1) := by decide +kernel
theorem dX7_wind_20 : decode cX7_wind 20 = .ok (.iaload, 1) := by decide +kernel
theorem dX7_wind_21 : decode cX7_wind 21 = .ok (.goto 4, 3) := by decide +kernel
theorem dX7_wind_24 : decode cX7_wind 24 = .ok (.iconst (-1), 1) := by decide +kernel
theorem dX7_wind_25 : decode cX7_wind 25 = .ok (.ireturn, 1) := by decide +kernel
theorem dX7_meet_0 : decode cX7_meet 0 = .ok (.aload_n 0, 1) := by decide +kernel
theorem dX7_meet_1 : decode cX7_meet 1 = .ok (.iload_n 1, 1) := by decide +kernel
theorem dX7_meet_2 : decode cX7_meet 2 = .ok (.invokevirtual 203, 3) := by decide +kernel
theorem dX7_meet_5 : decode cX7_meet 5 = .ok (.ifCond .eq 16, 3) := by decide +kernel
theorem dX7_meet_8 : decode cX7_meet 8 = .ok (.aload_n 0, 1) := by decide +kernel
theorem dX7_meet_9 : decode cX7_meet 9 = .ok (.iload_n 2, 1) := by decide +kernel
theorem dX7_meet_10 : decode cX7_meet 10 = .ok (.invokevirtual 203, 3) := by decide +kernel
theorem dX7_meet_13 : decode cX7_meet 13 = .ok (.ifCond .eq 8, 3) := by decide +kernel
theorem dX7_meet_16 : decode cX7_meet 16 = .ok (.iload_n 1, 1) := by decide +kernel
theorem dX7_meet_17 : decode cX7_meet 17 = .ok (.iload_n 2, 1) := by decide +kernel
theorem dX7_meet_18 : decode cX7_meet 18 = .ok (.if_icmp .ne 5, 3) := by decide +kernel
theorem dX7_meet_21 : decode cX7_meet 21 = .ok (.iconst (-1), 1) := by decide +kernel
theorem dX7_meet_22 : decode cX7_meet 22 = .ok (.ireturn, 1) := by decide +kernel
theorem dX7_meet_23 : decode cX7_meet 23 = .ok (.aload_n 0, 1) := by decide +kernel
theorem dX7_meet_24 : decode cX7_meet 24 = .ok (.invokevirtual 191, 3) := by decide +kernel
theorem dX7_meet_27 : decode cX7_meet 27 = .ok (.aload_n 0, 1) := by decide +kernel
theorem dX7_meet_28 : decode cX7_meet 28 = .ok (.iload_n 1, 1) := by decide +kernel
theorem dX7_meet_29 : decode cX7_meet 29 = .ok (.invokevirtual 149, 3) := by decide +kernel
theorem dX7_meet_32 : decode cX7_meet 32 = .ok (.istore_n 3, 1) := by decide +kernel
theorem dX7_meet_33 : decode cX7_meet 33 = .ok (.aload_n 0, 1) := by decide +kernel
theorem dX7_meet_34 : decode cX7_meet 34 = .ok (.iload_n 2, 1) := by decide +kernel
theorem dX7_meet_35 : decode cX7_meet 35 = .ok (.invokevirtual 149, 3) := by decide +kernel
theorem dX7_meet_38 : decode cX7_meet 38 = .ok (.istore 4, 2) := by decide +kernel
theorem dX7_meet_40 : decode cX7_meet 40 = .ok (.iload_n 3, 1) := by decide +kernel
theorem dX7_meet_41 : decode cX7_meet 41 = .ok (.iload 4, 2) := by decide +kernel
theorem dX7_meet_43 : decode cX7_meet 43 = .ok (.if_icmp .ge 7, 3) := by decide +kernel
theorem dX7_meet_46 : decode cX7_meet 46 = .ok (.iload_n 1, 1) := by decide +kernel
theorem dX7_meet_47 : decode cX7_meet 47 = .ok (.goto 15, 3) := by decide +kernel
theorem dX7_meet_50 : decode cX7_meet 50 = .ok (.iload 4, 2) := by decide +kernel
theorem dX7_meet_52 : decode cX7_meet 52 = .ok (.iload_n 3, 1) := by decide +kernel
theorem dX7_meet_53 : decode cX7_meet 53 = .ok (.if_icmp .ge 7, 3) := by decide +kernel
theorem dX7_meet_56 : decode cX7_meet 56 = .ok (.iload_n 2, 1) := by decide +kernel
theorem dX7_meet_57 : decode cX7_meet 57 = .ok (.goto 5, 3) := by decide +kernel
theorem dX7_meet_60 : decode cX7_meet 60 = .ok (.bipush (-4), 2) := by decide +kernel
theorem dX7_meet_62 : decode cX7_meet 62 = .ok (.ireturn, 1) := by decide +kernel
theorem dX7_becomes_0 : decode cX7_becomes 0 = .ok (.aload_n 0, 1) := by decide +kernel
theorem dX7_becomes_1 : decode cX7_becomes 1 = .ok (.getfield 7, 3) := by decide +kernel
theorem dX7_becomes_4 : decode cX7_becomes 4 = .ok (.iload_n 1, 1) := by decide +kernel
theorem dX7_becomes_5 : decode cX7_becomes 5 = .ok (.iaload, 1) := by decide +kernel
theorem dX7_becomes_6 : decode cX7_becomes 6 = .ok (.istore_n 3, 1) := by decide +kernel
theorem dX7_becomes_7 : decode cX7_becomes 7 = .ok (.aload_n 0, 1) := by decide +kernel
theorem dX7_becomes_8 : decode cX7_becomes 8 = .ok (.getfield 7, 3) := by decide +kernel
theorem dX7_becomes_11 : decode cX7_becomes 11 = .ok (.iload_n 1, 1) := by decide +kernel
theorem dX7_becomes_12 : decode cX7_becomes 12 = .ok (.iload_n 2, 1) := by decide +kernel
theorem dX7_becomes_13 : decode cX7_becomes 13 = .ok (.iastore, 1) := by decide +kernel
theorem dX7_becomes_14 : decode cX7_becomes 14 = .ok (.iload_n 3, 1) := by decide +kernel
theorem dX7_becomes_15 : decode cX7_becomes 15 = .ok (.ireturn, 1) := by decide +kernel
theorem dX7_canBe_0 : decode cX7_canBe 0 = .ok (.iload_n 1, 1) := by decide +kernel
theorem dX7_canBe_1 : decode cX7_canBe 1 = .ok (.ifCond .ne 15, 3) := by decide +kernel
theorem dX7_canBe_4 : decode cX7_canBe 4 = .ok (.iload_n 2, 1) := by decide +kernel
theorem dX7_canBe_5 : decode cX7_canBe 5 = .ok (.i2l, 1) := by decide +kernel
theorem dX7_canBe_6 : decode cX7_canBe 6 = .ok (.lconst 0, 1) := by decide +kernel
theorem dX7_canBe_7 : decode cX7_canBe 7 = .ok (.ldc2_w 212, 3) := by decide +kernel
theorem dX7_canBe_10 : decode cX7_canBe 10 = .ok (.invokestatic 65, 3) := by decide +kernel
theorem dX7_canBe_13 : decode cX7_canBe 13 = .ok (.goto 38, 3) := by decide +kernel
theorem dX7_canBe_16 : decode cX7_canBe 16 = .ok (.iload_n 1, 1) := by decide +kernel
theorem dX7_canBe_17 : decode cX7_canBe 17 = .ok (.iconst 1, 1) := by decide +kernel
theorem dX7_canBe_18 : decode cX7_canBe 18 = .ok (.if_icmp .ne 15, 3) := by decide +kernel
theorem dX7_canBe_21 : decode cX7_canBe 21 = .ok (.iload_n 2, 1) := by decide +kernel
theorem dX7_canBe_22 : decode cX7_canBe 22 = .ok (.i2l, 1) := by decide +kernel
theorem dX7_canBe_23 : decode cX7_canBe 23 = .ok (.lconst 1, 1) := by decide +kernel
theorem dX7_canBe_24 : decode cX7_canBe 24 = .ok (.ldc2_w 138, 3) := by decide +kernel
theorem dX7_canBe_27 : decode cX7_canBe 27 = .ok (.invokestatic 65, 3) := by decide +kernel
theorem dX7_canBe_30 : decode cX7_canBe 30 = .ok (.goto 21, 3) := by decide +kernel
theorem dX7_canBe_33 : decode cX7_canBe 33 = .ok (.iload_n 1, 1) := by decide +kernel
theorem dX7_canBe_34 : decode cX7_canBe 34 = .ok (.iconst 2, 1) := by decide +kernel
theorem dX7_canBe_35 : decode cX7_canBe 35 = .ok (.if_icmp .ne 15, 3) := by decide +kernel
theorem dX7_canBe_38 : decode cX7_canBe 38 = .ok (.aload_n 0, 1) := by decide +kernel
theorem dX7_canBe_39 : decode cX7_canBe 39 = .ok (.iload_n 2, 1) := by decide +kernel
theorem dX7_canBe_40 : decode cX7_canBe 40 = .ok (.invokevirtual 203, 3) := by decide +kernel
theorem dX7_canBe_43 : decode cX7_canBe 43 = .ok (.ifCond .eq 7, 3) := by decide +kernel
theorem dX7_canBe_46 : decode cX7_canBe 46 = .ok (.iconst 1, 1) := by decide +kernel
theorem dX7_canBe_47 : decode cX7_canBe 47 = .ok (.goto 4, 3) := by decide +kernel
theorem dX7_canBe_50 : decode cX7_canBe 50 = .ok (.iconst 0, 1) := by decide +kernel
theorem dX7_canBe_51 : decode cX7_canBe 51 = .ok (.ireturn, 1) := by decide +kernel
theorem dX7_alter_0 : decode cX7_alter 0 = .ok (.aload_n 0, 1) := by decide +kernel
theorem dX7_alter_1 : decode cX7_alter 1 = .ok (.iload_n 1, 1) := by decide +kernel
theorem dX7_alter_2 : decode cX7_alter 2 = .ok (.invokevirtual 207, 3) := by decide +kernel
theorem dX7_alter_5 : decode cX7_alter 5 = .ok (.ifCond .eq 27, 3) := by decide +kernel
theorem dX7_alter_8 : decode cX7_alter 8 = .ok (.aload_n 0, 1) := by decide +kernel
theorem dX7_alter_9 : decode cX7_alter 9 = .ok (.iload_n 2, 1) := by decide +kernel
theorem dX7_alter_10 : decode cX7_alter 10 = .ok (.iload_n 3, 1) := by decide +kernel
theorem dX7_alter_11 : decode cX7_alter 11 = .ok (.invokevirtual 214, 3) := by decide +kernel
theorem dX7_alter_14 : decode cX7_alter 14 = .ok (.ifCond .eq 18, 3) := by decide +kernel
theorem dX7_alter_17 : decode cX7_alter 17 = .ok (.aload_n 0, 1) := by decide +kernel
theorem dX7_alter_18 : decode cX7_alter 18 = .ok (.iconst 4, 1) := by decide +kernel
theorem dX7_alter_19 : decode cX7_alter 19 = .ok (.iconst 5, 1) := by decide +kernel
theorem dX7_alter_20 : decode cX7_alter 20 = .ok (.iload_n 1, 1) := by decide +kernel
theorem dX7_alter_21 : decode cX7_alter 21 = .ok (.imul, 1) := by decide +kernel
theorem dX7_alter_22 : decode cX7_alter 22 = .ok (.iadd, 1) := by decide +kernel
theorem dX7_alter_23 : decode cX7_alter 23 = .ok (.iload_n 2, 1) := by decide +kernel
theorem dX7_alter_24 : decode cX7_alter 24 = .ok (.iadd, 1) := by decide +kernel
theorem dX7_alter_25 : decode cX7_alter 25 = .ok (.iload_n 3, 1) := by decide +kernel
theorem dX7_alter_26 : decode cX7_alter 26 = .ok (.invokevirtual 218, 3) := by decide +kernel
theorem dX7_alter_29 : decode cX7_alter 29 = .ok (.goto 4, 3) := by decide +kernel
theorem dX7_alter_32 : decode cX7_alter 32 = .ok (.iconst (-1), 1) := by decide +kernel
theorem dX7_alter_33 : decode cX7_alter 33 = .ok (.ireturn, 1) := by decide +kernel
theorem dX7_walk_0 : decode cX7_walk 0 = .ok (.aload_n 0, 1) := by decide +kernel
theorem dX7_walk_1 : decode cX7_walk 1 = .ok (.iload_n 1, 1) := by decide +kernel
theorem dX7_walk_2 : decode cX7_walk 2 = .ok (.invokevirtual 203, 3) := by decide +kernel
theorem dX7_walk_5 : decode cX7_walk 5 = .ok (.ifCond .eq 19, 3) := by decide +kernel
theorem dX7_walk_8 : decode cX7_walk 8 = .ok (.iload_n 2, 1) := by decide +kernel
theorem dX7_walk_9 : decode cX7_walk 9 = .ok (.invokestatic 221, 3) := by decide +kernel
theorem dX7_walk_12 : decode cX7_walk 12 = .ok (.ifCond .eq 12, 3) := by decide +kernel
theorem dX7_walk_15 : decode cX7_walk 15 = .ok (.aload_n 0, 1) := by decide +kernel
theorem dX7_walk_16 : decode cX7_walk 16 = .ok (.iload_n 1, 1) := by decide +kernel
theorem dX7_walk_17 : decode cX7_walk 17 = .ok (.iload_n 2, 1) := by decide +kernel
theorem dX7_walk_18 : decode cX7_walk 18 = .ok (.invokevirtual 218, 3) := by decide +kernel
theorem dX7_walk_21 : decode cX7_walk 21 = .ok (.goto 4, 3) := by decide +kernel
theorem dX7_walk_24 : decode cX7_walk 24 = .ok (.iconst (-1), 1) := by decide +kernel
theorem dX7_walk_25 : decode cX7_walk 25 = .ok (.ireturn, 1) := by decide +kernel
theorem dX7_blow_0 : decode cX7_blow 0 = .ok (.iload_n 1, 1) := by decide +kernel
theorem dX7_blow_1 : decode cX7_blow 1 = .ok (.i2l, 1) := by decide +kernel
theorem dX7_blow_2 : decode cX7_blow 2 = .ok (.lconst 0, 1) := by decide +kernel
theorem dX7_blow_3 : decode cX7_blow 3 = .ok (.ldc2_w 210, 3) := by decide +kernel
theorem dX7_blow_6 : decode cX7_blow 6 = .ok (.invokestatic 65, 3) := by decide +kernel
theorem dX7_blow_9 : decode cX7_blow 9 = .ok (.ifCond .eq 27, 3) := by decide +kernel
theorem dX7_blow_12 : decode cX7_blow 12 = .ok (.iload_n 2, 1) := by decide +kernel
theorem dX7_blow_13 : decode cX7_blow 13 = .ok (.i2l, 1) := by decide +kernel
theorem dX7_blow_14 : decode cX7_blow 14 = .ok (.lconst 0, 1) := by decide +kernel
theorem dX7_blow_15 : decode cX7_blow 15 = .ok (.ldc2_w 138, 3) := by decide +kernel
theorem dX7_blow_18 : decode cX7_blow 18 = .ok (.invokestatic 65, 3) := by decide +kernel
theorem dX7_blow_21 : decode cX7_blow 21 = .ok (.ifCond .eq 15, 3) := by decide +kernel
theorem dX7_blow_24 : decode cX7_blow 24 = .ok (.aload_n 0, 1) := by decide +kernel
theorem dX7_blow_25 : decode cX7_blow 25 = .ok (.bipush 35, 2) := by decide +kernel
theorem dX7_blow_27 : decode cX7_blow 27 = .ok (.iload_n 1, 1) := by decide +kernel
theorem dX7_blow_28 : decode cX7_blow 28 = .ok (.iadd, 1) := by decide +kernel
theorem dX7_blow_29 : decode cX7_blow 29 = .ok (.iload_n 2, 1) := by decide +kernel
theorem dX7_blow_30 : decode cX7_blow 30 = .ok (.invokevirtual 218, 3) := by decide +kernel
theorem dX7_blow_33 : decode cX7_blow 33 = .ok (.goto 4, 3) := by decide +kernel
theorem dX7_blow_36 : decode cX7_blow 36 = .ok (.iconst (-1), 1) := by decide +kernel
theorem dX7_blow_37 : decode cX7_blow 37 = .ok (.ireturn, 1) := by decide +kernel
theorem dX7_dab_0 : decode cX7_dab 0 = .ok (.aload_n 0, 1) := by decide +kernel
theorem dX7_dab_1 : decode cX7_dab 1 = .ok (.iconst 0, 1) := by decide +kernel
theorem dX7_dab_2 : decode cX7_dab 2 = .ok (.iload_n 1, 1) := by decide +kernel
theorem dX7_dab_3 : decode cX7_dab 3 = .ok (.invokevirtual 214, 3) := by decide +kernel
theorem dX7_dab_6 : decode cX7_dab 6 = .ok (.ifCond .eq 21, 3) := by decide +kernel
theorem dX7_dab_9 : decode cX7_dab 9 = .ok (.aload_n 0, 1) := by decide +kernel
theorem dX7_dab_10 : decode cX7_dab 10 = .ok (.iconst 1, 1) := by decide +kernel
theorem dX7_dab_11 : decode cX7_dab 11 = .ok (.iload_n 2, 1) := by decide +kernel
theorem dX7_dab_12 : decode cX7_dab 12 = .ok (.invokevirtual 214, 3) := by decide +kernel
theorem dX7_dab_15 : decode cX7_dab 15 = .ok (.ifCond .eq 12, 3) := by decide +kernel
theorem dX7_dab_18 : decode cX7_dab 18 = .ok (.aload_n 0, 1) := by decide +kernel
theorem dX7_dab_19 : decode cX7_dab 19 = .ok (.iconst 2, 1) := by decide +kernel
theorem dX7_dab_20 : decode cX7_dab 20 = .ok (.iload_n 3, 1) := by decide +kernel
theorem dX7_dab_21 : decode cX7_dab 21 = .ok (.invokevirtual 214, 3) := by decide +kernel
theorem dX7_dab_24 : decode cX7_dab 24 = .ok (.ifCond .ne 5, 3) := by decide +kernel
theorem dX7_dab_27 : decode cX7_dab 27 = .ok (.iconst (-1), 1) := by decide +kernel
theorem dX7_dab_28 : decode cX7_dab 28 = .ok (.ireturn, 1) := by decide +kernel
theorem dX7_dab_29 : decode cX7_dab 29 = .ok (.aload_n 0, 1) := by decide +kernel
theorem dX7_dab_30 : decode cX7_dab 30 = .ok (.getfield 7, 3) := by decide +kernel
theorem dX7_dab_33 : decode cX7_dab 33 = .ok (.bipush 34, 2) := by decide +kernel
theorem dX7_dab_35 : decode cX7_dab 35 = .ok (.iaload, 1) := by decide +kernel
theorem dX7_dab_36 : decode cX7_dab 36 = .ok (.bipush 6, 2) := by decide +kernel
theorem dX7_dab_38 : decode cX7_dab 38 = .ok (.if_icmp .ne 6, 3) := by decide +kernel
theorem dX7_dab_41 : decode cX7_dab 41 = .ok (.bipush (-3), 2) := by decide +kernel
theorem dX7_dab_43 : decode cX7_dab 43 = .ok (.ireturn, 1) := by decide +kernel
theorem dX7_dab_44 : decode cX7_dab 44 = .ok (.iconst 4, 1) := by decide +kernel
theorem dX7_dab_45 : decode cX7_dab 45 = .ok (.iconst 5, 1) := by decide +kernel
theorem dX7_dab_46 : decode cX7_dab 46 = .ok (.aload_n 0, 1) := by decide +kernel
theorem dX7_dab_47 : decode cX7_dab 47 = .ok (.getfield 7, 3) := by decide +kernel
theorem dX7_dab_50 : decode cX7_dab 50 = .ok (.bipush 34, 2) := by decide +kernel
theorem dX7_dab_52 : decode cX7_dab 52 = .ok (.iaload, 1) := by decide +kernel
theorem dX7_dab_53 : decode cX7_dab 53 = .ok (.imul, 1) := by decide +kernel
theorem dX7_dab_54 : decode cX7_dab 54 = .ok (.iadd, 1) := by decide +kernel
theorem dX7_dab_55 : decode cX7_dab 55 = .ok (.istore 4, 2) := by decide +kernel
theorem dX7_dab_57 : decode cX7_dab 57 = .ok (.aload_n 0, 1) := by decide +kernel
theorem dX7_dab_58 : decode cX7_dab 58 = .ok (.getfield 7, 3) := by decide +kernel
theorem dX7_dab_61 : decode cX7_dab 61 = .ok (.iload 4, 2) := by decide +kernel
theorem dX7_dab_63 : decode cX7_dab 63 = .ok (.iconst 0, 1) := by decide +kernel
theorem dX7_dab_64 : decode cX7_dab 64 = .ok (.iadd, 1) := by decide +kernel
theorem dX7_dab_65 : decode cX7_dab 65 = .ok (.iload_n 1, 1) := by decide +kernel
theorem dX7_dab_66 : decode cX7_dab 66 = .ok (.iastore, 1) := by decide +kernel
theorem dX7_dab_67 : decode cX7_dab 67 = .ok (.aload_n 0, 1) := by decide +kernel
theorem dX7_dab_68 : decode cX7_dab 68 = .ok (.getfield 7, 3) := by decide +kernel
theorem dX7_dab_71 : decode cX7_dab 71 = .ok (.iload 4, 2) := by decide +kernel
theorem dX7_dab_73 : decode cX7_dab 73 = .ok (.iconst 1, 1) := by decide +kernel
theorem dX7_dab_74 : decode cX7_dab 74 = .ok (.iadd, 1) := by decide +kernel
theorem dX7_dab_75 : decode cX7_dab 75 = .ok (.iload_n 2, 1) := by decide +kernel
theorem dX7_dab_76 : decode cX7_dab 76 = .ok (.iastore, 1) := by decide +kernel
theorem dX7_dab_77 : decode cX7_dab 77 = .ok (.aload_n 0, 1) := by decide +kernel
theorem dX7_dab_78 : decode cX7_dab 78 = .ok (.getfield 7, 3) := by decide +kernel
theorem dX7_dab_81 : decode cX7_dab 81 = .ok (.iload 4, 2) := by decide +kernel
theorem dX7_dab_83 : decode cX7_dab 83 = .ok (.iconst 2, 1) := by decide +kernel
theorem dX7_dab_84 : decode cX7_dab 84 = .ok (.iadd, 1) := by decide +kernel
theorem dX7_dab_85 : decode cX7_dab 85 = .ok (.iload_n 3, 1) := by decide +kernel
theorem dX7_dab_86 : decode cX7_dab 86 = .ok (.iastore, 1) := by decide +kernel
theorem dX7_dab_87 : decode cX7_dab 87 = .ok (.aload_n 0, 1) := by decide +kernel
theorem dX7_dab_88 : decode cX7_dab 88 = .ok (.getfield 7, 3) := by decide +kernel
theorem dX7_dab_91 : decode cX7_dab 91 = .ok (.iload 4, 2) := by decide +kernel
theorem dX7_dab_93 : decode cX7_dab 93 = .ok (.iconst 3, 1) := by decide +kernel
theorem dX7_dab_94 : decode cX7_dab 94 = .ok (.iadd, 1) := by decide +kernel
theorem dX7_dab_95 : decode cX7_dab 95 = .ok (.iconst 0, 1) := by decide +kernel
theorem dX7_dab_96 : decode cX7_dab 96 = .ok (.iastore, 1) := by decide +kernel
theorem dX7_dab_97 : decode cX7_dab 97 = .ok (.aload_n 0, 1) := by decide +kernel
theorem dX7_dab_98 : decode cX7_dab 98 = .ok (.getfield 7, 3) := by decide +kernel
theorem dX7_dab_101 : decode cX7_dab 101 = .ok (.iload 4, 2) := by decide +kernel
theorem dX7_dab_103 : decode cX7_dab 103 = .ok (.iconst 4, 1) := by decide +kernel
theorem dX7_dab_104 : decode cX7_dab 104 = .ok (.iadd, 1) := by decide +kernel
theorem dX7_dab_105 : decode cX7_dab 105 = .ok (.iload_n 3, 1) := by decide +kernel
theorem dX7_dab_106 : decode cX7_dab 106 = .ok (.iastore, 1) := by decide +kernel
