theorem dX0_init_0 : decode cX0_init 0 = .ok (.aload_n 0, 1) := by decide +kernel
theorem dX0_init_1 : decode cX0_init 1 = .ok (.invokespecial 3, 3) := by decide +kernel
theorem dX0_init_4 : decode cX0_init 4 = .ok (.aload_n 0, 1) := by decide +kernel
theorem dX0_init_5 : decode cX0_init 5 = .ok (.iconst 0, 1) := by decide +kernel
theorem dX0_init_6 : decode cX0_init 6 = .ok (.putfield 9, 3) := by decide +kernel
theorem dX0_init_9 : decode cX0_init 9 = .ok (.aload_n 0, 1) := by decide +kernel
theorem dX0_init_10 : decode cX0_init 10 = .ok (.iconst 0, 1) := by decide +kernel
theorem dX0_init_11 : decode cX0_init 11 = .ok (.putfield 15, 3) := by decide +kernel
theorem dX0_init_14 : decode cX0_init 14 = .ok (.aload_n 0, 1) := by decide +kernel
theorem dX0_init_15 : decode cX0_init 15 = .ok (.iconst 0, 1) := by decide +kernel
theorem dX0_init_16 : decode cX0_init 16 = .ok (.putfield 18, 3) := by decide +kernel
theorem dX0_init_19 : decode cX0_init 19 = .ok (.aload_n 0, 1) := by decide +kernel
theorem dX0_init_20 : decode cX0_init 20 = .ok (.iconst 0, 1) := by decide +kernel
theorem dX0_init_21 : decode cX0_init 21 = .ok (.putfield 21, 3) := by decide +kernel
theorem dX0_init_24 : decode cX0_init 24 = .ok (.aload_n 0, 1) := by decide +kernel
theorem dX0_init_25 : decode cX0_init 25 = .ok (.iconst 0, 1) := by decide +kernel
theorem dX0_init_26 : decode cX0_init 26 = .ok (.putfield 24, 3) := by decide +kernel
theorem dX0_init_29 : decode cX0_init 29 = .ok (.aload_n 0, 1) := by decide +kernel
theorem dX0_init_30 : decode cX0_init 30 = .ok (.iconst 4, 1) := by decide +kernel
theorem dX0_init_31 : decode cX0_init 31 = .ok (.newarray .int, 2) := by decide +kernel
theorem dX0_init_33 : decode cX0_init 33 = .ok (.putfield 27, 3) := by decide +kernel
theorem dX0_init_36 : decode cX0_init 36 = .ok (.aload_n 0, 1) := by decide +kernel
theorem dX0_init_37 : decode cX0_init 37 = .ok (.bipush 6, 2) := by decide +kernel
theorem dX0_init_39 : decode cX0_init 39 = .ok (.newarray .int, 2) := by decide +kernel
theorem dX0_init_41 : decode cX0_init 41 = .ok (.putfield 31, 3) := by decide +kernel
theorem dX0_init_44 : decode cX0_init 44 = .ok (.aload_n 0, 1) := by decide +kernel
theorem dX0_init_45 : decode cX0_init 45 = .ok (.bipush 6, 2) := by decide +kernel
theorem dX0_init_47 : decode cX0_init 47 = .ok (.newarray .int, 2) := by decide +kernel
theorem dX0_init_49 : decode cX0_init 49 = .ok (.putfield 34, 3) := by decide +kernel
theorem dX0_init_52 : decode cX0_init 52 = .ok (.aload_n 0, 1) := by decide +kernel
theorem dX0_init_53 : decode cX0_init 53 = .ok (.bipush 6, 2) := by decide +kernel
theorem dX0_init_55 : decode cX0_init 55 = .ok (.newarray .int, 2) := by decide +kernel
theorem dX0_init_57 : decode cX0_init 57 = .ok (.putfield 37, 3) := by decide +kernel
theorem dX0_init_60 : decode cX0_init 60 = .ok (.aload_n 0, 1) := by decide +kernel
theorem dX0_init_61 : decode cX0_init 61 = .ok (.bipush 6, 2) := by decide +kernel
theorem dX0_init_63 : decode cX0_init 63 = .ok (.newarray .int, 2) := by decide +kernel
theorem dX0_init_65 : decode cX0_init 65 = .ok (.putfield 40, 3) := by decide +kernel
theorem dX0_init_68 : decode cX0_init 68 = .ok (.aload_n 0, 1) := by decide +kernel
theorem dX0_init_69 : decode cX0_init 69 = .ok (.bipush 6, 2) := by decide +kernel
theorem dX0_init_71 : decode cX0_init 71 = .ok (.newarray .int, 2) := by decide +kernel
theorem dX0_init_73 : decode cX0_init 73 = .ok (.putfield 43, 3) := by decide +kernel
theorem dX0_init_76 : decode cX0_init 76 = .ok (.aload_n 0, 1) := by decide +kernel
theorem dX0_init_77 : decode cX0_init 77 = .ok (.bipush 6, 2) := by decide +kernel
theorem dX0_init_79 : decode cX0_init 79 = .ok (.newarray .int, 2) := by decide +kernel
theorem dX0_init_81 : decode cX0_init 81 = .ok (.putfield 46, 3) := by decide +kernel
theorem dX0_init_84 : decode cX0_init 84 = .ok (.return_, 1) := by decide +kernel
theorem dX0_clear_0 : decode cX0_clear 0 = .ok (.aload_n 0, 1) := by decide +kernel
theorem dX0_clear_1 : decode cX0_clear 1 = .ok (.iconst 0, 1) := by decide +kernel
theorem dX0_clear_2 : decode cX0_clear 2 = .ok (.putfield 9, 3) := by decide +kernel
theorem dX0_clear_5 : decode cX0_clear 5 = .ok (.aload_n 0, 1) := by decide +kernel
theorem dX0_clear_6 : decode cX0_clear 6 = .ok (.iconst 0, 1) := by decide +kernel
theorem dX0_clear_7 : decode cX0_clear 7 = .ok (.putfield 15, 3) := by decide +kernel
theorem dX0_clear_10 : decode cX0_clear 10 = .ok (.aload_n 0, 1) := by decide +kernel
theorem dX0_clear_11 : decode cX0_clear 11 = .ok (.iconst 0, 1) := by decide +kernel
theorem dX0_clear_12 : decode cX0_clear 12 = .ok (.putfield 18, 3) := by decide +kernel
theorem dX0_clear_15 : decode cX0_clear 15 = .ok (.aload_n 0, 1) := by decide +kernel
theorem dX0_clear_16 : decode cX0_clear 16 = .ok (.iconst 0, 1) := by decide +kernel
theorem dX0_clear_17 : decode cX0_clear 17 = .ok (.putfield 21, 3) := by decide +kernel
theorem dX0_clear_20 : decode cX0_clear 20 = .ok (.aload_n 0, 1) := by decide +kernel
theorem dX0_clear_21 : decode cX0_clear 21 = .ok (.iconst 0, 1) := by decide +kernel
theorem dX0_clear_22 : decode cX0_clear 22 = .ok (.putfield 24, 3) := by decide +kernel
theorem dX0_clear_25 : decode cX0_clear 25 = .ok (.aload_n 0, 1) := by decide +kernel
theorem dX0_clear_26 : decode cX0_clear 26 = .ok (.getfield 46, 3) := by decide +kernel
theorem dX0_clear_29 : decode cX0_clear 29 = .ok (.iconst 0, 1) := by decide +kernel
theorem dX0_clear_30 : decode cX0_clear 30 = .ok (.invokestatic 49, 3) := by decide +kernel
theorem dX0_clear_33 : decode cX0_clear 33 = .ok (.return_, 1) := by decide +kernel
theorem dX0_copyFrom_0 : decode cX0_copyFrom 0 = .ok (.aload_n 0, 1) := by decide +kernel
theorem dX0_copyFrom_1 : decode cX0_copyFrom 1 = .ok (.aload_n 1, 1) := by decide +kernel
theorem dX0_copyFrom_2 : decode cX0_copyFrom 2 = .ok (.getfield 9, 3) := by decide +kernel
theorem dX0_copyFrom_5 : decode cX0_copyFrom 5 = .ok (.putfield 9, 3) := by decide +kernel
theorem dX0_copyFrom_8 : decode cX0_copyFrom 8 = .ok (.aload_n 0, 1) := by decide +kernel
theorem dX0_copyFrom_9 : decode cX0_copyFrom 9 = .ok (.aload_n 1, 1) := by decide +kernel
theorem dX0_copyFrom_10 : decode cX0_copyFrom 10 = .ok (.getfield 15, 3) := by decide +kernel
theorem dX0_copyFrom_13 : decode cX0_copyFrom 13 = .ok (.putfield 15, 3) := by decide +kernel
theorem dX0_copyFrom_16 : decode cX0_copyFrom 16 = .ok (.aload_n 0, 1) := by decide +kernel
theorem dX0_copyFrom_17 : decode cX0_copyFrom 17 = .ok (.aload_n 1, 1) := by decide +kernel
theorem dX0_copyFrom_18 : decode cX0_copyFrom 18 = .ok (.getfield 18, 3) := by decide +kernel
theorem dX0_copyFrom_21 : decode cX0_copyFrom 21 = .ok (.putfield 18, 3) := by decide +kernel
theorem dX0_copyFrom_24 : decode cX0_copyFrom 24 = .ok (.aload_n 0, 1) := by decide +kernel
theorem dX0_copyFrom_25 : decode cX0_copyFrom 25 = .ok (.iconst 0, 1) := by decide +kernel
theorem dX0_copyFrom_26 : decode cX0_copyFrom 26 = .ok (.putfield 21, 3) := by decide +kernel
theorem dX0_copyFrom_29 : decode cX0_copyFrom 29 = .ok (.aload_n 0, 1) := by decide +kernel
theorem dX0_copyFrom_30 : decode cX0_copyFrom 30 = .ok (.iconst 0, 1) := by decide +kernel
theorem dX0_copyFrom_31 : decode cX0_copyFrom 31 = .ok (.putfield 24, 3) := by decide +kernel
theorem dX0_copyFrom_34 : decode cX0_copyFrom 34 = .ok (.aload_n 1, 1) := by decide +kernel
theorem dX0_copyFrom_35 : decode cX0_copyFrom 35 = .ok (.getfield 27, 3) := by decide +kernel
theorem dX0_copyFrom_38 : decode cX0_copyFrom 38 = .ok (.iconst 0, 1) := by decide +kernel
theorem dX0_copyFrom_39 : decode cX0_copyFrom 39 = .ok (.aload_n 0, 1) := by decide +kernel
theorem dX0_copyFrom_40 : decode cX0_copyFrom 40 = .ok (.getfield 27, 3) := by decide +kernel
theorem dX0_copyFrom_43 : decode cX0_copyFrom 43 = .ok (.iconst 0, 1) := by decide +kernel
theorem dX0_copyFrom_44 : decode cX0_copyFrom 44 = .ok (.iconst 4, 1) := by decide +kernel
theorem dX0_copyFrom_45 : decode cX0_copyFrom 45 = .ok (.invokestatic 55, 3) := by decide +kernel
theorem dX0_copyFrom_48 : decode cX0_copyFrom 48 = .ok (.aload_n 1, 1) := by decide +kernel
theorem dX0_copyFrom_49 : decode cX0_copyFrom 49 = .ok (.getfield 31, 3) := by decide +kernel
theorem dX0_copyFrom_52 : decode cX0_copyFrom 52 = .ok (.iconst 0, 1) := by decide +kernel
theorem dX0_copyFrom_53 : decode cX0_copyFrom 53 = .ok (.aload_n 0, 1) := by decide +kernel
theorem dX0_copyFrom_54 : decode cX0_copyFrom 54 = .ok (.getfield 31, 3) := by decide +kernel
theorem dX0_copyFrom_57 : decode cX0_copyFrom 57 = .ok (.iconst 0, 1) := by decide +kernel
theorem dX0_copyFrom_58 : decode cX0_copyFrom 58 = .ok (.bipush 6, 2) := by decide +kernel
theorem dX0_copyFrom_60 : decode cX0_copyFrom 60 = .ok (.invokestatic 55, 3) := by decide +kernel
theorem dX0_copyFrom_63 : decode cX0_copyFrom 63 = .ok (.aload_n 1, 1) := by decide +kernel
theorem dX0_copyFrom_64 : decode cX0_copyFrom 64 = .ok (.getfield 34, 3) := by decide +kernel
theorem dX0_copyFrom_67 : decode cX0_copyFrom 67 = .ok (.iconst 0, 1) := by decide +kernel
theorem dX0_copyFrom_68 : decode cX0_copyFrom 68 = .ok (.aload_n 0, 1) := by decide +kernel
theorem dX0_copyFrom_69 : decode cX0_copyFrom 69 = .ok (.getfield 34, 3) := by decide +kernel
theorem dX0_copyFrom_72 : decode cX0_copyFrom 72 = .ok (.iconst 0, 1) := by decide +kernel
theorem dX0_copyFrom_73 : decode cX0_copyFrom 73 = .ok (.bipush 6, 2) := by decide +kernel
theorem dX0_copyFrom_75 : decode cX0_copyFrom 75 = .ok (.invokestatic 55, 3) := by decide +kernel
theorem dX0_copyFrom_78 : decode cX0_copyFrom 78 = .ok (.aload_n 1, 1) := by decide +kernel
theorem dX0_copyFrom_79 : decode cX0_copyFrom 79 = .ok (.getfield 37, 3) := by decide +kernel
theorem dX0_copyFrom_82 : decode cX0_copyFrom 82 = .ok (.iconst 0, 1) := by decide +kernel
theorem dX0_copyFrom_83 : decode cX0_copyFrom 83 = .ok (.aload_n 0, 1) := by decide +kernel
theorem dX0_copyFrom_84 : decode cX0_copyFrom 84 = .ok (.getfield 37, 3) := by decide +kernel
theorem dX0_copyFrom_87 : decode cX0_copyFrom 87 = .ok (.iconst 0, 1) := by decide +kernel
theorem dX0_copyFrom_88 : decode cX0_copyFrom 88 = .ok (.bipush 6, 2) := by decide +kernel
theorem dX0_copyFrom_90 : decode cX0_copyFrom 90 = .ok (.invokestatic 55, 3) := by decide +kernel
theorem dX0_copyFrom_93 : decode cX0_copyFrom 93 = .ok (.aload_n 1, 1) := by decide +kernel
theorem dX0_copyFrom_94 : decode cX0_copyFrom 94 = .ok (.getfield 40, 3) := by decide +kernel
theorem dX0_copyFrom_97 : decode cX0_copyFrom 97 = .ok (.iconst 0, 1) := by decide +kernel
theorem dX0_copyFrom_98 : decode cX0_copyFrom 98 = .ok (.aload_n 0, 1) := by decide +kernel
theorem dX0_copyFrom_99 : decode cX0_copyFrom 99 = .ok (.getfield 40, 3) := by decide +kernel
theorem dX0_copyFrom_102 : decode cX0_copyFrom 102 = .ok (.iconst 0, 1) := by decide +kernel
theorem dX0_copyFrom_103 : decode cX0_copyFrom 103 = .ok (.bipush 6, 2) := by decide +kernel
theorem dX0_copyFrom_105 : decode cX0_copyFrom 105 = .ok (.invokestatic 55, 3) := by decide +kernel
theorem dX0_copyFrom_108 : decode cX0_copyFrom 108 = .ok (.aload_n 1, 1) := by decide +kernel
theorem dX0_copyFrom_109 : decode cX0_copyFrom 109 = .ok (.getfield 43, 3) := by decide +kernel
theorem dX0_copyFrom_112 : decode cX0_copyFrom 112 = .ok (.iconst 0, 1) := by decide +kernel
theorem dX0_copyFrom_113 : decode cX0_copyFrom 113 = .ok (.aload_n 0, 1) := by decide +kernel
theorem dX0_copyFrom_114 : decode cX0_copyFrom 114 = .ok (.getfield 43, 3) := by decide +kernel
theorem dX0_copyFrom_117 : decode cX0_copyFrom 117 = .ok (.iconst 0, 1) := by decide +kernel
theorem dX0_copyFrom_118 : decode cX0_copyFrom 118 = .ok (.bipush 6, 2) := by decide +kernel
theorem dX0_copyFrom_120 : decode cX0_copyFrom 120 = .ok (.invokestatic 55, 3) := by decide +kernel
theorem dX0_copyFrom_123 : decode cX0_copyFrom 123 = .ok (.aload_n 1, 1) := by decide +kernel
theorem dX0_copyFrom_124 : decode cX0_copyFrom 124 = .ok (.getfield 46, 3) := by decide +kernel
theorem dX0_copyFrom_127 : decode cX0_copyFrom 127 = .ok (.iconst 0, 1) := by decide +kernel
theorem dX0_copyFrom_128 : decode cX0_copyFrom 128 = .ok (.aload_n 0, 1) := by decide +kernel
theorem dX0_copyFrom_129 : decode cX0_copyFrom 129 = .ok (.getfield 46, 3) := by decide +kernel
theorem dX0_copyFrom_132 : decode cX0_copyFrom 132 = .ok (.iconst 0, 1) := by decide +kernel
theorem dX0_copyFrom_133 : decode cX0_copyFrom 133 = .ok (.bipush 6, 2) := by decide +kernel
theorem dX0_copyFrom_135 : decode cX0_copyFrom 135 = .ok (.invokestatic 55, 3) := by decide +kernel
theorem dX0_copyFrom_138 : decode cX0_copyFrom 138 = .ok (.return_, 1) := by decide +kernel
theorem dX0_hasOne_0 : decode cX0_hasOne 0 = .ok (.iload_n 1, 1) := by decide +kernel
theorem dX0_hasOne_1 : decode cX0_hasOne 1 = .ok (.ifCond .lt 15, 3) := by decide +kernel
theorem dX0_hasOne_4 : decode cX0_hasOne 4 = .ok (.iload_n 1, 1) := by decide +kernel
theorem dX0_hasOne_5 : decode cX0_hasOne 5 = .ok (.aload_n 0, 1) := by decide +kernel
theorem dX0_hasOne_6 : decode cX0_hasOne 6 = .ok (.getfield 9, 3) := by decide +kernel
theorem dX0_hasOne_9 : decode cX0_hasOne 9 = .ok (.if_icmp .ge 7, 3) := by decide +kernel
theorem dX0_hasOne_12 : decode cX0_hasOne 12 = .ok (.iconst 1, 1) := by decide +kernel
theorem dX0_hasOne_13 : decode cX0_hasOne 13 = .ok (.goto 4, 3) := by decide +kernel
theorem dX0_hasOne_16 : decode cX0_hasOne 16 = .ok (.iconst 0, 1) := by decide +kernel
theorem dX0_hasOne_17 : decode cX0_hasOne 17 = .ok (.ireturn, 1) := by decide +kernel
theorem dX0_hasBeetle_0 : decode cX0_hasBeetle 0 = .ok (.iload_n 1, 1) := by decide +kernel
theorem dX0_hasBeetle_1 : decode cX0_hasBeetle 1 = .ok (.ifCond .lt 15, 3) := by decide +kernel
theorem dX0_hasBeetle_4 : decode cX0_hasBeetle 4 = .ok (.iload_n 1, 1) := by decide +kernel
theorem dX0_hasBeetle_5 : decode cX0_hasBeetle 5 = .ok (.aload_n 0, 1) := by decide +kernel
theorem dX0_hasBeetle_6 : decode cX0_hasBeetle 6 = .ok (.getfield 15, 3) := by decide +kernel
theorem dX0_hasBeetle_9 : decode cX0_hasBeetle 9 = .ok (.if_icmp .ge 7, 3) := by decide +kernel
theorem dX0_hasBeetle_12 : decode cX0_hasBeetle 12 = .ok (.iconst 1, 1) := by decide +kernel
theorem dX0_hasBeetle_13 : decode cX0_hasBeetle 13 = .ok (.goto 4, 3) := by decide +kernel
theorem dX0_hasBeetle_16 : decode cX0_hasBeetle 16 = .ok (.iconst 0, 1) := by decide +kernel
theorem dX0_hasBeetle_17 : decode cX0_hasBeetle 17 = .ok (.ireturn, 1) := by decide +kernel
theorem dX0_hasRoomForOne_0 : decode cX0_hasRoomForOne 0 = .ok (.aload_n 0, 1) := by decide +kernel
theorem dX0_hasRoomForOne_1 : decode cX0_hasRoomForOne 1 = .ok (.getfield 9, 3) := by decide +kernel
theorem dX0_hasRoomForOne_4 : decode cX0_hasRoomForOne 4 = .ok (.iconst 4, 1) := by decide +kernel
theorem dX0_hasRoomForOne_5 : decode cX0_hasRoomForOne 5 = .ok (.if_icmp .ge 7, 3) := by decide +kernel
theorem dX0_hasRoomForOne_8 : decode cX0_hasRoomForOne 8 = .ok (.iconst 1, 1) := by decide +kernel
theorem dX0_hasRoomForOne_9 : decode cX0_hasRoomForOne 9 = .ok (.goto 4, 3) := by decide +kernel
theorem dX0_hasRoomForOne_12 : decode cX0_hasRoomForOne 12 = .ok (.iconst 0, 1) := by decide +kernel
theorem dX0_hasRoomForOne_13 : decode cX0_hasRoomForOne 13 = .ok (.ireturn, 1) := by decide +kernel
theorem dX0_hasRoomForBeetle_0 : decode cX0_hasRoomForBeetle 0 = .ok (.aload_n 0, 1) := by decide +kernel
theorem dX0_hasRoomForBeetle_1 : decode cX0_hasRoomForBeetle 1 = .ok (.getfield 15, 3) := by decide +kernel
theorem dX0_hasRoomForBeetle_4 : decode cX0_hasRoomForBeetle 4 = .ok (.bipush 6, 2) := by decide +kernel
theorem dX0_hasRoomForBeetle_6 : decode cX0_hasRoomForBeetle 6 = .ok (.if_icmp .ge 7, 3) := by decide +kernel
theorem dX0_hasRoomForBeetle_9 : decode cX0_hasRoomForBeetle 9 = .ok (.iconst 1, 1) := by decide +kernel
theorem dX0_hasRoomForBeetle_10 : decode cX0_hasRoomForBeetle 10 = .ok (.goto 4, 3) := by decide +kernel
theorem dX0_hasRoomForBeetle_13 : decode cX0_hasRoomForBeetle 13 = .ok (.iconst 0, 1) := by decide +kernel
theorem dX0_hasRoomForBeetle_14 : decode cX0_hasRoomForBeetle 14 = .ok (.ireturn, 1) := by decide +kernel
theorem dX0_addOne_0 : decode cX0_addOne 0 = .ok (.aload_n 0, 1) := by decide +kernel
theorem dX0_addOne_1 : decode cX0_addOne 1 = .ok (.invokevirtual 61, 3) := by decide +kernel
theorem dX0_addOne_4 : decode cX0_addOne 4 = .ok (.ifCond .eq 23, 3) := by decide +kernel
theorem dX0_addOne_7 : decode cX0_addOne 7 = .ok (.aload_n 0, 1) := by decide +kernel
theorem dX0_addOne_8 : decode cX0_addOne 8 = .ok (.getfield 27, 3) := by decide +kernel
theorem dX0_addOne_11 : decode cX0_addOne 11 = .ok (.aload_n 0, 1) := by decide +kernel
theorem dX0_addOne_12 : decode cX0_addOne 12 = .ok (.getfield 9, 3) := by decide +kernel
theorem dX0_addOne_15 : decode cX0_addOne 15 = .ok (.iload_n 1, 1) := by decide +kernel
theorem dX0_addOne_16 : decode cX0_addOne 16 = .ok (.iastore, 1) := by decide +kernel
theorem dX0_addOne_17 : decode cX0_addOne 17 = .ok (.aload_n 0, 1) := by decide +kernel
theorem dX0_addOne_18 : decode cX0_addOne 18 = .ok (.dup, 1) := by decide +kernel
theorem dX0_addOne_19 : decode cX0_addOne 19 = .ok (.getfield 9, 3) := by decide +kernel
theorem dX0_addOne_22 : decode cX0_addOne 22 = .ok (.iconst 1, 1) := by decide +kernel
theorem dX0_addOne_23 : decode cX0_addOne 23 = .ok (.iadd, 1) := by decide +kernel
theorem dX0_addOne_24 : decode cX0_addOne 24 = .ok (.putfield 9, 3) := by decide +kernel
theorem dX0_addOne_27 : decode cX0_addOne 27 = .ok (.return_, 1) := by decide +kernel
theorem dX0_addBeetle_0 : decode cX0_addBeetle 0 = .ok (.aload_n 0, 1) := by decide +kernel
theorem dX0_addBeetle_1 : decode cX0_addBeetle 1 = .ok (.invokevirtual 65, 3) := by decide +kernel
theorem dX0_addBeetle_4 : decode cX0_addBeetle 4 = .ok (.ifCond .eq 65, 3) := by decide +kernel
theorem dX0_addBeetle_7 : decode cX0_addBeetle 7 = .ok (.aload_n 0, 1) := by decide +kernel
theorem dX0_addBeetle_8 : decode cX0_addBeetle 8 = .ok (.getfield 31, 3) := by decide +kernel
theorem dX0_addBeetle_11 : decode cX0_addBeetle 11 = .ok (.aload_n 0, 1) := by decide +kernel
theorem dX0_addBeetle_12 : decode cX0_addBeetle 12 = .ok (.getfield 15, 3) := by decide +kernel
theorem dX0_addBeetle_15 : decode cX0_addBeetle 15 = .ok (.iload_n 1, 1) := by decide +kernel
theorem dX0_addBeetle_16 : decode cX0_addBeetle 16 = .ok (.iastore, 1) := by decide +kernel
theorem dX0_addBeetle_17 : decode cX0_addBeetle 17 = .ok (.aload_n 0, 1) := by decide +kernel
theorem dX0_addBeetle_18 : decode cX0_addBeetle 18 = .ok (.getfield 34, 3) := by decide +kernel
theorem dX0_addBeetle_21 : decode cX0_addBeetle 21 = .ok (.aload_n 0, 1) := by decide +kernel
theorem dX0_addBeetle_22 : decode cX0_addBeetle 22 = .ok (.getfield 15, 3) := by decide +kernel
theorem dX0_addBeetle_25 : decode cX0_addBeetle 25 = .ok (.iload_n 2, 1) := by decide +kernel
theorem dX0_addBeetle_26 : decode cX0_addBeetle 26 = .ok (.iastore, 1) := by decide +kernel
theorem dX0_addBeetle_27 : decode cX0_addBeetle 27 = .ok (.aload_n 0, 1) := by decide +kernel
theorem dX0_addBeetle_28 : decode cX0_addBeetle 28 = .ok (.getfield 37, 3) := by decide +kernel
theorem dX0_addBeetle_31 : decode cX0_addBeetle 31 = .ok (.aload_n 0, 1) := by decide +kernel
theorem dX0_addBeetle_32 : decode cX0_addBeetle 32 = .ok (.getfield 15, 3) := by decide +kernel
theorem dX0_addBeetle_35 : decode cX0_addBeetle 35 = .ok (.iload_n 3, 1) := by decide +kernel
theorem dX0_addBeetle_36 : decode cX0_addBeetle 36 = .ok (.iastore, 1) := by decide +kernel
theorem dX0_addBeetle_37 : decode cX0_addBeetle 37 = .ok (.aload_n 0, 1) := by decide +kernel
theorem dX0_addBeetle_38 : decode cX0_addBeetle 38 = .ok (.getfield 40, 3) := by decide +kernel
theorem dX0_addBeetle_41 : decode cX0_addBeetle 41 = .ok (.aload_n 0, 1) := by decide +kernel
theorem dX0_addBeetle_42 : decode cX0_addBeetle 42 = .ok (.getfield 15, 3) := by decide +kernel
theorem dX0_addBeetle_45 : decode cX0_addBeetle 45 = .ok (.bipush (-4), 2) := by decide +kernel
theorem dX0_addBeetle_47 : decode cX0_addBeetle 47 = .ok (.iastore, 1) := by decide +kernel
theorem dX0_addBeetle_48 : decode cX0_addBeetle 48 = .ok (.aload_n 0, 1) := by decide +kernel
theorem dX0_addBeetle_49 : decode cX0_addBeetle 49 = .ok (.getfield 43, 3) := by decide +kernel
theorem dX0_addBeetle_52 : decode cX0_addBeetle 52 = .ok (.aload_n 0, 1) := by decide +kernel
theorem dX0_addBeetle_53 : decode cX0_addBeetle 53 = .ok (.getfield 15, 3) := by decide +kernel
theorem dX0_addBeetle_56 : decode cX0_addBeetle 56 = .ok (.iload 4, 2) := by decide +kernel
theorem dX0_addBeetle_58 : decode cX0_addBeetle 58 = .ok (.iastore, 1) := by decide +kernel
theorem dX0_addBeetle_59 : decode cX0_addBeetle 59 = .ok (.aload_n 0, 1) := by decide +kernel
theorem dX0_addBeetle_60 : decode cX0_addBeetle 60 = .ok (.dup, 1) := by decide +kernel
theorem dX0_addBeetle_61 : decode cX0_addBeetle 61 = .ok (.getfield 15, 3) := by decide +kernel
theorem dX0_addBeetle_64 : decode cX0_addBeetle 64 = .ok (.iconst 1, 1) := by decide +kernel
theorem dX0_addBeetle_65 : decode cX0_addBeetle 65 = .ok (.iadd, 1) := by decide +kernel
theorem dX0_addBeetle_66 : decode cX0_addBeetle 66 = .ok (.putfield 15, 3) := by decide +kernel
theorem dX0_addBeetle_69 : decode cX0_addBeetle 69 = .ok (.return_, 1) := by decide +kernel
theorem dX0_takeDabbed_0 : decode cX0_takeDabbed 0 = .ok (.iload_n 1, 1) := by decide +kernel
theorem dX0_takeDabbed_1 : decode cX0_takeDabbed 1 = .ok (.invokestatic 68, 3) := by decide +kernel
theorem dX0_takeDabbed_4 : decode cX0_takeDabbed 4 = .ok (.ifCond .eq 21, 3) := by decide +kernel
theorem dX0_takeDabbed_7 : decode cX0_takeDabbed 7 = .ok (.iload_n 2, 1) := by decide +kernel
theorem dX0_takeDabbed_8 : decode cX0_takeDabbed 8 = .ok (.iconst 1, 1) := by decide +kernel
theorem dX0_takeDabbed_9 : decode cX0_takeDabbed 9 = .ok (.bipush 9, 2) := by decide +kernel
theorem dX0_takeDabbed_11 : decode cX0_takeDabbed 11 = .ok (.invokestatic 72, 3) := by decide +kernel
theorem dX0_takeDabbed_14 : decode cX0_takeDabbed 14 = .ok (.ifCond .eq 11, 3) := by decide +kernel
theorem dX0_takeDabbed_17 : decode cX0_takeDabbed 17 = .ok (.aload_n 0, 1) := by decide +kernel
theorem dX0_takeDabbed_18 : decode cX0_takeDabbed 18 = .ok (.iload_n 3, 1) := by decide +kernel
theorem dX0_takeDabbed_19 : decode cX0_takeDabbed 19 = .ok (.invokevirtual 76, 3) := by decide +kernel
theorem dX0_takeDabbed_22 : decode cX0_takeDabbed 22 = .ok (.ifCond .ne 5, 3) := by decide +kernel
theorem dX0_takeDabbed_25 : decode cX0_takeDabbed 25 = .ok (.iconst (-1), 1) := by decide +kernel
theorem dX0_takeDabbed_26 : decode cX0_takeDabbed 26 = .ok (.ireturn, 1) := by decide +kernel
theorem dX0_takeDabbed_27 : decode cX0_takeDabbed 27 = .ok (.aload_n 0, 1) := by decide +kernel
theorem dX0_takeDabbed_28 : decode cX0_takeDabbed 28 = .ok (.invokevirtual 65, 3) := by decide +kernel
theorem dX0_takeDabbed_31 : decode cX0_takeDabbed 31 = .ok (.ifCond .ne 6, 3) := by decide +kernel
theorem dX0_takeDabbed_34 : decode cX0_takeDabbed 34 = .ok (.bipush (-3), 2) := by decide +kernel
theorem dX0_takeDabbed_36 : decode cX0_takeDabbed 36 = .ok (.ireturn, 1) := by decide +kernel
theorem dX0_takeDabbed_37 : decode cX0_takeDabbed 37 = .ok (.aload_n 0, 1) := by decide +kernel
theorem dX0_takeDabbed_38 : decode cX0_takeDabbed 38 = .ok (.getfield 15, 3) := by decide +kernel
theorem dX0_takeDabbed_41 : decode cX0_takeDabbed 41 = .ok (.istore 4, 2) := by decide +kernel
theorem dX0_takeDabbed_43 : decode cX0_takeDabbed 43 = .ok (.aload_n 0, 1) := by decide +kernel
theorem dX0_takeDabbed_44 : decode cX0_takeDabbed 44 = .ok (.iload_n 1, 1) := by decide +kernel
theorem dX0_takeDabbed_45 : decode cX0_takeDabbed 45 = .ok (.iload_n 2, 1) := by decide +kernel
theorem dX0_takeDabbed_46 : decode cX0_takeDabbed 46 = .ok (.iload_n 3, 1) := by decide +kernel
theorem dX0_takeDabbed_47 : decode cX0_takeDabbed 47 = .ok (.aload_n 0, 1) := by decide +kernel
theorem dX0_takeDabbed_48 : decode cX0_takeDabbed 48 = .ok (.getfield 27, 3) := by decide +kernel
theorem dX0_takeDabbed_51 : decode cX0_takeDabbed 51 = .ok (.iload_n 3, 1) := by decide +kernel
theorem dX0_takeDabbed_52 : decode cX0_takeDabbed 52 = .ok (.iaload, 1) := by decide +kernel
theorem dX0_takeDabbed_53 : decode cX0_takeDabbed 53 = .ok (.invokevirtual 79, 3) := by decide +kernel
theorem dX0_takeDabbed_56 : decode cX0_takeDabbed 56 = .ok (.aload_n 0, 1) := by decide +kernel
theorem dX0_takeDabbed_57 : decode cX0_takeDabbed 57 = .ok (.getfield 40, 3) := by decide +kernel
theorem dX0_takeDabbed_60 : decode cX0_takeDabbed 60 = .ok (.iload 4, 2) := by decide +kernel
theorem dX0_takeDabbed_62 : decode cX0_takeDabbed 62 = .ok (.iload_n 3, 1) := by decide +kernel
theorem dX0_takeDabbed_63 : decode cX0_takeDabbed 63 = .ok (.iastore, 1) := by decide +kernel
theorem dX0_takeDabbed_64 : decode cX0_takeDabbed 64 = .ok (.aload_n 0, 1) := by decide +kernel
theorem dX0_takeDabbed_65 : decode cX0_takeDabbed 65 = .ok (.getfield 15, 3) := by decide +kernel
theorem dX0_takeDabbed_68 : decode cX0_takeDabbed 68 = .ok (.ireturn, 1) := by decide +kernel
theorem dX0_takeAway_0 : decode cX0_takeAway 0 = .ok (.iload_n 1, 1) := by decide +kernel
theorem dX0_takeAway_1 : decode cX0_takeAway 1 = .ok (.istore_n 2, 1) := by decide +kernel
theorem dX0_takeAway_2 : decode cX0_takeAway 2 = .ok (.iload_n 2, 1) := by decide +kernel
theorem dX0_takeAway_3 : decode cX0_takeAway 3 = .ok (.iconst 1, 1) := by decide +kernel
theorem dX0_takeAway_4 : decode cX0_takeAway 4 = .ok (.iadd, 1) := by decide +kernel
theorem dX0_takeAway_5 : decode cX0_takeAway 5 = .ok (.aload_n 0, 1) := by decide +kernel
theorem dX0_takeAway_6 : decode cX0_takeAway 6 = .ok (.getfield 15, 3) := by decide +kernel
theorem dX0_takeAway_9 : decode cX0_takeAway 9 = .ok (.if_icmp .ge 79, 3) := by decide +kernel
theorem dX0_takeAway_12 : decode cX0_takeAway 12 = .ok (.aload_n 0, 1) := by decide +kernel
theorem dX0_takeAway_13 : decode cX0_takeAway 13 = .ok (.getfield 31, 3) := by decide +kernel
theorem dX0_takeAway_16 : decode cX0_takeAway 16 = .ok (.iload_n 2, 1) := by decide +kernel
theorem dX0_takeAway_17 : decode cX0_takeAway 17 = .ok (.aload_n 0, 1) := by decide +kernel
theorem dX0_takeAway_18 : decode cX0_takeAway 18 = .ok (.getfield 31, 3) := by decide +kernel
theorem dX0_takeAway_21 : decode cX0_takeAway 21 = .ok (.iload_n 2, 1) := by decide +kernel
theorem dX0_takeAway_22 : decode cX0_takeAway 22 = .ok (.iconst 1, 1) := by decide +kernel
theorem dX0_takeAway_23 : decode cX0_takeAway 23 = .ok (.iadd, 1) := by decide +kernel
theorem dX0_takeAway_24 : decode cX0_takeAway 24 = .ok (.iaload, 1) := by decide +kernel
theorem dX0_takeAway_25 : decode cX0_takeAway 25 = .ok (.iastore, 1) := by decide +kernel
theorem dX0_takeAway_26 : decode cX0_takeAway 26 = .ok (.aload_n 0, 1) := by decide +kernel
theorem dX0_takeAway_27 : decode cX0_takeAway 27 = .ok (.getfield 34, 3) := by decide +kernel
theorem dX0_takeAway_30 : decode cX0_takeAway 30 = .ok (.iload_n 2, 1) := by decide +kernel
theorem dX0_takeAway_31 : decode cX0_takeAway 31 = .ok (.aload_n 0, 1) := by decide +kernel
theorem dX0_takeAway_32 : decode cX0_takeAway 32 = .ok (.getfield 34, 3) := by decide +kernel
theorem dX0_takeAway_35 : decode cX0_takeAway 35 = .ok (.iload_n 2, 1) := by decide +kernel
theorem dX0_takeAway_36 : decode cX0_takeAway 36 = .ok (.iconst 1, 1) := by decide +kernel
theorem dX0_takeAway_37 : decode cX0_takeAway 37 = .ok (.iadd, 1) := by decide +kernel
theorem dX0_takeAway_38 : decode cX0_takeAway 38 = .ok (.iaload, 1) := by decide +kernel
theorem dX0_takeAway_39 : decode cX0_takeAway 39 = .ok (.iastore, 1) := by decide +kernel
theorem dX0_takeAway_40 : decode cX0_takeAway 40 = .ok (.aload_n 0, 1) := by decide +kernel
theorem dX0_takeAway_41 : decode cX0_takeAway 41 = .ok (.getfield 37, 3) := by decide +kernel
theorem dX0_takeAway_44 : decode cX0_takeAway 44 = .ok (.iload_n 2, 1) := by decide +kernel
theorem dX0_takeAway_45 : decode cX0_takeAway 45 = .ok (.aload_n 0, 1) := by decide +kernel
theorem dX0_takeAway_46 : decode cX0_takeAway 46 = .ok (.getfield 37, 3) := by decide +kernel
theorem dX0_takeAway_49 : decode cX0_takeAway 49 = .ok (.iload_n 2, 1) := by decide +kernel
theorem dX0_takeAway_50 : decode cX0_takeAway 50 = .ok (.iconst 1, 1) := by decide +kernel
theorem dX0_takeAway_51 : decode cX0_takeAway 51 = .ok (.iadd, 1) := by decide +kernel
theorem dX0_takeAway_52 : decode cX0_takeAway 52 = .ok (.iaload, 1) := by decide +kernel
theorem dX0_takeAway_53 : decode cX0_takeAway 53 = .ok (.iastore, 1) := by decide +kernel
theorem dX0_takeAway_54 : decode cX0_takeAway 54 = .ok (.aload_n 0, 1) := by decide +kernel
theorem dX0_takeAway_55 : decode cX0_takeAway 55 = .ok (.getfield 40, 3) := by decide +kernel
theorem dX0_takeAway_58 : decode cX0_takeAway 58 = .ok (.iload_n 2, 1) := by decide +kernel
theorem dX0_takeAway_59 : decode cX0_takeAway 59 = .ok (.aload_n 0, 1) := by decide +kernel
theorem dX0_takeAway_60 : decode cX0_takeAway 60 = .ok (.getfield 40, 3) := by decide +kernel
theorem dX0_takeAway_63 : decode cX0_takeAway 63 = .ok (.iload_n 2, 1) := by decide +kernel
theorem dX0_takeAway_64 : decode cX0_takeAway 64 = .ok (.iconst 1, 1) := by decide +kernel
theorem dX0_takeAway_65 : decode cX0_takeAway 65 = .ok (.iadd, 1) := by decide +kernel
theorem dX0_takeAway_66 : decode cX0_takeAway 66 = .ok (.iaload, 1) := by decide +kernel
theorem dX0_takeAway_67 : decode cX0_takeAway 67 = .ok (.iastore, 1) := by decide +kernel
theorem dX0_takeAway_68 : decode cX0_takeAway 68 = .ok (.aload_n 0, 1) := by decide +kernel
theorem dX0_takeAway_69 : decode cX0_takeAway 69 = .ok (.getfield 43, 3) := by decide +kernel
theorem dX0_takeAway_72 : decode cX0_takeAway 72 = .ok (.iload_n 2, 1) := by decide +kernel
theorem dX0_takeAway_73 : decode cX0_takeAway 73 = .ok (.aload_n 0, 1) := by decide +kernel
theorem dX0_takeAway_74 : decode cX0_takeAway 74 = .ok (.getfield 43, 3) := by decide +kernel
theorem dX0_takeAway_77 : decode cX0_takeAway 77 = .ok (.iload_n 2, 1) := by decide +kernel
theorem dX0_takeAway_78 : decode cX0_takeAway 78 = .ok (.iconst 1, 1) := by decide +kernel
theorem dX0_takeAway_79 : decode cX0_takeAway 79 = .ok (.iadd, 1) := by decide +kernel
theorem dX0_takeAway_80 : decode cX0_takeAway 80 = .ok (.iaload, 1) := by decide +kernel
theorem dX0_takeAway_81 : decode cX0_takeAway 81 = .ok (.iastore, 1) := by decide +kernel
theorem dX0_takeAway_82 : decode cX0_takeAway 82 = .ok (.iinc 2 1, 3) := by decide +kernel
theorem dX0_takeAway_85 : decode cX0_takeAway 85 = .ok (.goto (-83), 3) := by decide +kernel
theorem dX0_takeAway_88 : decode cX0_takeAway 88 = .ok (.aload_n 0, 1) := by decide +kernel
theorem dX0_takeAway_89 : decode cX0_takeAway 89 = .ok (.dup, 1) := by decide +kernel
theorem dX0_takeAway_90 : decode cX0_takeAway 90 = .ok (.getfield 15, 3) := by decide +kernel
theorem dX0_takeAway_93 : decode cX0_takeAway 93 = .ok (.iconst 1, 1) := by decide +kernel
theorem dX0_takeAway_94 : decode cX0_takeAway 94 = .ok (.isub, 1) := by decide +kernel
theorem dX0_takeAway_95 : decode cX0_takeAway 95 = .ok (.putfield 15, 3) := by decide +kernel
theorem dX0_takeAway_98 : decode cX0_takeAway 98 = .ok (.return_, 1) := by decide +kernel
theorem dX0_sits_0 : decode cX0_sits 0 = .ok (.aload_n 0, 1) := by decide +kernel
theorem dX0_sits_1 : decode cX0_sits 1 = .ok (.getfield 40, 3) := by decide +kernel
theorem dX0_sits_4 : decode cX0_sits 4 = .ok (.iload_n 1, 1) := by decide +kernel
theorem dX0_sits_5 : decode cX0_sits 5 = .ok (.iaload, 1) := by decide +kernel
theorem dX0_sits_6 : decode cX0_sits 6 = .ok (.bipush (-4), 2) := by decide +kernel
theorem dX0_sits_8 : decode cX0_sits 8 = .ok (.if_icmp .eq 7, 3) := by decide +kernel
theorem dX0_sits_11 : decode cX0_sits 11 = .ok (.iconst 1, 1) := by decide +kernel
theorem dX0_sits_12 : decode cX0_sits 12 = .ok (.goto 4, 3) := by decide +kernel
theorem dX0_sits_15 : decode cX0_sits 15 = .ok (.iconst 0, 1) := by decide +kernel
theorem dX0_sits_16 : decode cX0_sits 16 = .ok (.ireturn, 1) := by decide +kernel
theorem dX0_putInAir_0 : decode cX0_putInAir 0 = .ok (.aload_n 0, 1) := by decide +kernel
theorem dX0_putInAir_1 : decode cX0_putInAir 1 = .ok (.getfield 40, 3) := by decide +kernel
theorem dX0_putInAir_4 : decode cX0_putInAir 4 = .ok (.iload_n 1, 1) := by decide +kernel
theorem dX0_putInAir_5 : decode cX0_putInAir 5 = .ok (.bipush (-4), 2) := by decide +kernel
theorem dX0_putInAir_7 : decode cX0_putInAir 7 = .ok (.iastore, 1) := by decide +kernel
theorem dX0_putInAir_8 : decode cX0_putInAir 8 = .ok (.aload_n 0, 1) := by decide +kernel
theorem dX0_putInAir_9 : decode cX0_putInAir 9 = .ok (.getfield 43, 3) := by decide +kernel
theorem dX0_putInAir_12 : decode cX0_putInAir 12 = .ok (.iload_n 1, 1) := by decide +kernel
theorem dX0_putInAir_13 : decode cX0_putInAir 13 = .ok (.iload_n 2, 1) := by decide +kernel
theorem dX0_putInAir_14 : decode cX0_putInAir 14 = .ok (.iastore, 1) := by decide +kernel
theorem dX0_putInAir_15 : decode cX0_putInAir 15 = .ok (.return_, 1) := by decide +kernel
theorem dX0_placeOf_0 : decode cX0_placeOf 0 = .ok (.aload_n 0, 1) := by decide +kernel
theorem dX0_placeOf_1 : decode cX0_placeOf 1 = .ok (.iload_n 1, 1) := by decide +kernel
theorem dX0_placeOf_2 : decode cX0_placeOf 2 = .ok (.invokevirtual 83, 3) := by decide +kernel
theorem dX0_placeOf_5 : decode cX0_placeOf 5 = .ok (.ifCond .eq 17, 3) := by decide +kernel
theorem dX0_placeOf_8 : decode cX0_placeOf 8 = .ok (.aload_n 0, 1) := by decide +kernel
theorem dX0_placeOf_9 : decode cX0_placeOf 9 = .ok (.getfield 27, 3) := by decide +kernel
theorem dX0_placeOf_12 : decode cX0_placeOf 12 = .ok (.aload_n 0, 1) := by decide +kernel
theorem dX0_placeOf_13 : decode cX0_placeOf 13 = .ok (.getfield 40, 3) := by decide +kernel
theorem dX0_placeOf_16 : decode cX0_placeOf 16 = .ok (.iload_n 1, 1) := by decide +kernel
theorem dX0_placeOf_17 : decode cX0_placeOf 17 = .ok (.iaload, 1) := by decide +kernel
theorem dX0_placeOf_18 : decode cX0_placeOf 18 = .ok (.iaload, 1) := by decide +kernel
theorem dX0_placeOf_19 : decode cX0_placeOf 19 = .ok (.goto 9, 3) := by decide +kernel
theorem dX0_placeOf_22 : decode cX0_placeOf 22 = .ok (.aload_n 0, 1) := by decide +kernel
theorem dX0_placeOf_23 : decode cX0_placeOf 23 = .ok (.getfield 43, 3) := by decide +kernel
theorem dX0_placeOf_26 : decode cX0_placeOf 26 = .ok (.iload_n 1, 1) := by decide +kernel
theorem dX0_placeOf_27 : decode cX0_placeOf 27 = .ok (.iaload, 1) := by decide +kernel
theorem dX0_placeOf_28 : decode cX0_placeOf 28 = .ok (.ireturn, 1) := by decide +kernel
theorem dX0_weight_0 : decode cX0_weight 0 = .ok (.aload_n 0, 1) := by decide +kernel
theorem dX0_weight_1 : decode cX0_weight 1 = .ok (.getfield 34, 3) := by decide +kernel
theorem dX0_weight_4 : decode cX0_weight 4 = .ok (.iload_n 1, 1) := by decide +kernel
theorem dX0_weight_5 : decode cX0_weight 5 = .ok (.iaload, 1) := by decide +kernel
theorem dX0_weight_6 : decode cX0_weight 6 = .ok (.iconst 1, 1) := by decide +kernel
theorem dX0_weight_7 : decode cX0_weight 7 = .ok (.iadd, 1) := by decide +kernel
theorem dX0_weight_8 : decode cX0_weight 8 = .ok (.iconst 2, 1) := by decide +kernel
theorem dX0_weight_9 : decode cX0_weight 9 = .ok (.idiv, 1) := by decide +kernel
theorem dX0_weight_10 : decode cX0_weight 10 = .ok (.istore_n 2, 1) := by decide +kernel
theorem dX0_weight_11 : decode cX0_weight 11 = .ok (.aload_n 0, 1) := by decide +kernel
theorem dX0_weight_12 : decode cX0_weight 12 = .ok (.getfield 31, 3) := by decide +kernel
theorem dX0_weight_15 : decode cX0_weight 15 = .ok (.iload_n 1, 1) := by decide +kernel
theorem dX0_weight_16 : decode cX0_weight 16 = .ok (.iaload, 1) := by decide +kernel
theorem dX0_weight_17 : decode cX0_weight 17 = .ok (.tableswitch 42 1 3 #[27, 29, 33], 27) := by decide +kernel
theorem dX0_weight_44 : decode cX0_weight 44 = .ok (.iload_n 2, 1) := by decide +kernel
theorem dX0_weight_45 : decode cX0_weight 45 = .ok (.ireturn, 1) := by decide +kernel
theorem dX0_weight_46 : decode cX0_weight 46 = .ok (.iload_n 2, 1) := by decide +kernel
theorem dX0_weight_47 : decode cX0_weight 47 = .ok (.iconst 1, 1) := by decide +kernel
theorem dX0_weight_48 : decode cX0_weight 48 = .ok (.iadd, 1) := by decide +kernel
theorem dX0_weight_49 : decode cX0_weight 49 = .ok (.ireturn, 1) := by decide +kernel
theorem dX0_weight_50 : decode cX0_weight 50 = .ok (.iconst 2, 1) := by decide +kernel
theorem dX0_weight_51 : decode cX0_weight 51 = .ok (.aload_n 0, 1) := by decide +kernel
theorem dX0_weight_52 : decode cX0_weight 52 = .ok (.getfield 34, 3) := by decide +kernel
theorem dX0_weight_55 : decode cX0_weight 55 = .ok (.iload_n 1, 1) := by decide +kernel
theorem dX0_weight_56 : decode cX0_weight 56 = .ok (.iaload, 1) := by decide +kernel
theorem dX0_weight_57 : decode cX0_weight 57 = .ok (.imul, 1) := by decide +kernel
theorem dX0_weight_58 : decode cX0_weight 58 = .ok (.ireturn, 1) := by decide +kernel
theorem dX0_weight_59 : decode cX0_weight 59 = .ok (.aload_n 0, 1) := by decide +kernel
theorem dX0_weight_60 : decode cX0_weight 60 = .ok (.getfield 34, 3) := by decide +kernel
theorem dX0_weight_63 : decode cX0_weight 63 = .ok (.iload_n 1, 1) := by decide +kernel
theorem dX0_weight_64 : decode cX0_weight 64 = .ok (.iaload, 1) := by decide +kernel
theorem dX0_weight_65 : decode cX0_weight 65 = .ok (.ireturn, 1) := by decide +kernel
theorem dX0_pace_0 : decode cX0_pace 0 = .ok (.aload_n 0, 1) := by decide +kernel
theorem dX0_pace_1 : decode cX0_pace 1 = .ok (.getfield 31, 3) := by decide +kernel
theorem dX0_pace_4 : decode cX0_pace 4 = .ok (.iload_n 1, 1) := by decide +kernel
theorem dX0_pace_5 : decode cX0_pace 5 = .ok (.iaload, 1) := by decide +kernel
theorem dX0_pace_6 : decode cX0_pace 6 = .ok (.lookupswitch 30 #[(1, 26), (3, 28)], 26) := by decide +kernel
theorem dX0_pace_32 : decode cX0_pace 32 = .ok (.iconst 2, 1) := by decide +kernel
theorem dX0_pace_33 : decode cX0_pace 33 = .ok (.ireturn, 1) := by decide +kernel
theorem dX0_pace_34 : decode cX0_pace 34 = .ok (.iconst 3, 1) := by decide +kernel
theorem dX0_pace_35 : decode cX0_pace 35 = .ok (.ireturn, 1) := by decide +kernel
theorem dX0_pace_36 : decode cX0_pace 36 = .ok (.iconst 1, 1) := by decide +kernel
theorem dX0_pace_37 : decode cX0_pace 37 = .ok (.ireturn, 1) := by decide +kernel
theorem dX0_sought_0 : decode cX0_sought 0 = .ok (.aload_n 0, 1) := by decide +kernel
theorem dX0_sought_1 : decode cX0_sought 1 = .ok (.getfield 31, 3) := by decide +kernel
theorem dX0_sought_4 : decode cX0_sought 4 = .ok (.iload_n 1, 1) := by decide +kernel
theorem dX0_sought_5 : decode cX0_sought 5 = .ok (.iaload, 1) := by decide +kernel
theorem dX0_sought_6 : decode cX0_sought 6 = .ok (.iconst 1, 1) := by decide +kernel
theorem dX0_sought_7 : decode cX0_sought 7 = .ok (.if_icmp .ne 31, 3) := by decide +kernel
theorem dX0_sought_10 : decode cX0_sought 10 = .ok (.aload_n 0, 1) := by decide +kernel
theorem dX0_sought_11 : decode cX0_sought 11 = .ok (.getfield 37, 3) := by decide +kernel
theorem dX0_sought_14 : decode cX0_sought 14 = .ok (.iload_n 1, 1) := by decide +kernel
theorem dX0_sought_15 : decode cX0_sought 15 = .ok (.iaload, 1) := by decide +kernel
theorem dX0_sought_16 : decode cX0_sought 16 = .ok (.iconst 1, 1) := by decide +kernel
theorem dX0_sought_17 : decode cX0_sought 17 = .ok (.iadd, 1) := by decide +kernel
theorem dX0_sought_18 : decode cX0_sought 18 = .ok (.aload_n 0, 1) := by decide +kernel
theorem dX0_sought_19 : decode cX0_sought 19 = .ok (.getfield 9, 3) := by decide +kernel
theorem dX0_sought_22 : decode cX0_sought 22 = .ok (.if_icmp .ge 14, 3) := by decide +kernel
theorem dX0_sought_25 : decode cX0_sought 25 = .ok (.aload_n 0, 1) := by decide +kernel
theorem dX0_sought_26 : decode cX0_sought 26 = .ok (.getfield 37, 3) := by decide +kernel
theorem dX0_sought_29 : decode cX0_sought 29 = .ok (.iload_n 1, 1) := by decide +kernel
theorem dX0_sought_30 : decode cX0_sought 30 = .ok (.iaload, 1) := by decide +kernel
theorem dX0_sought_31 : decode cX0_sought 31 = .ok (.iconst 1, 1) := by decide +kernel
theorem dX0_sought_32 : decode cX0_sought 32 = .ok (.iadd, 1) := by decide +kernel
theorem dX0_sought_33 : decode cX0_sought 33 = .ok (.goto 4, 3) := by decide +kernel
theorem dX0_sought_36 : decode cX0_sought 36 = .ok (.iconst 0, 1) := by decide +kernel
theorem dX0_sought_37 : decode cX0_sought 37 = .ok (.ireturn, 1) := by decide +kernel
theorem dX0_sought_38 : decode cX0_sought 38 = .ok (.aload_n 0, 1) := by decide +kernel
theorem dX0_sought_39 : decode cX0_sought 39 = .ok (.getfield 31, 3) := by decide +kernel
theorem dX0_sought_42 : decode cX0_sought 42 = .ok (.iload_n 1, 1) := by decide +kernel
theorem dX0_sought_43 : decode cX0_sought 43 = .ok (.iaload, 1) := by decide +kernel
theorem dX0_sought_44 : decode cX0_sought 44 = .ok (.iconst 2, 1) := by decide +kernel
theorem dX0_sought_45 : decode cX0_sought 45 = .ok (.if_icmp .eq 10, 3) := by decide +kernel
theorem dX0_sought_48 : decode cX0_sought 48 = .ok (.aload_n 0, 1) := by decide +kernel
theorem dX0_sought_49 : decode cX0_sought 49 = .ok (.getfield 37, 3) := by decide +kernel
theorem dX0_sought_52 : decode cX0_sought 52 = .ok (.iload_n 1, 1) := by decide +kernel
theorem dX0_sought_53 : decode cX0_sought 53 = .ok (.iaload, 1) := by decide +kernel
theorem dX0_sought_54 : decode cX0_sought 54 = .ok (.ireturn, 1) := by decide +kernel
theorem dX0_sought_55 : decode cX0_sought 55 = .ok (.iconst 0, 1) := by decide +kernel
theorem dX0_sought_56 : decode cX0_sought 56 = .ok (.istore_n 2, 1) := by decide +kernel
theorem dX0_sought_57 : decode cX0_sought 57 = .ok (.aload_n 0, 1) := by decide +kernel
theorem dX0_sought_58 : decode cX0_sought 58 = .ok (.iload_n 2, 1) := by decide +kernel
theorem dX0_sought_59 : decode cX0_sought 59 = .ok (.invokevirtual 86, 3) := by decide +kernel
theorem dX0_sought_62 : decode cX0_sought 62 = .ok (.istore_n 3, 1) := by decide +kernel
theorem dX0_sought_63 : decode cX0_sought 63 = .ok (.iconst 1, 1) := by decide +kernel
theorem dX0_sought_64 : decode cX0_sought 64 = .ok (.istore 4, 2) := by decide +kernel
theorem dX0_sought_66 : decode cX0_sought 66 = .ok (.iload 4, 2) := by decide +kernel
theorem dX0_sought_68 : decode cX0_sought 68 = .ok (.aload_n 0, 1) := by decide +kernel
theorem dX0_sought_69 : decode cX0_sought 69 = .ok (.getfield 9, 3) := by decide +kernel
theorem dX0_sought_72 : decode cX0_sought 72 = .ok (.if_icmp .ge 29, 3) := by decide +kernel
theorem dX0_sought_75 : decode cX0_sought 75 = .ok (.aload_n 0, 1) := by decide +kernel
theorem dX0_sought_76 : decode cX0_sought 76 = .ok (.iload 4, 2) := by decide +kernel
theorem dX0_sought_78 : decode cX0_sought 78 = .ok (.invokevirtual 86, 3) := by decide +kernel
theorem dX0_sought_81 : decode cX0_sought 81 = .ok (.istore 5, 2) := by decide +kernel
theorem dX0_sought_83 : decode cX0_sought 83 = .ok (.iload 5, 2) := by decide +kernel
theorem dX0_sought_85 : decode cX0_sought 85 = .ok (.iload_n 3, 1) := by decide +kernel
theorem dX0_sought_86 : decode cX0_sought 86 = .ok (.if_icmp .ge 9, 3) := by decide +kernel
theorem dX0_sought_89 : decode cX0_sought 89 = .ok (.iload 4, 2) := by decide +kernel
theorem dX0_sought_91 : decode cX0_sought 91 = .ok (.istore_n 2, 1) := by decide +kernel
theorem dX0_sought_92 : decode cX0_sought 92 = .ok (.iload 5, 2) := by decide +kernel
theorem dX0_sought_94 : decode cX0_sought 94 = .ok (.istore_n 3, 1) := by decide +kernel
theorem dX0_sought_95 : decode cX0_sought 95 = .ok (.iinc 4 1, 3) := by decide +kernel
theorem dX0_sought_98 : decode cX0_sought 98 = .ok (.goto (-32), 3) := by decide +kernel
theorem dX0_sought_101 : decode cX0_sought 101 = .ok (.iload_n 2, 1) := by decide +kernel
theorem dX0_sought_102 : decode cX0_sought 102 = .ok (.ireturn, 1) := by decide +kernel
theorem dX0_counted_0 : decode cX0_counted 0 = .ok (.iconst 0, 1) := by decide +kernel
theorem dX0_counted_1 : decode cX0_counted 1 = .ok (.istore_n 2, 1) := by decide +kernel
theorem dX0_counted_2 : decode cX0_counted 2 = .ok (.iconst 0, 1) := by decide +kernel
theorem dX0_counted_3 : decode cX0_counted 3 = .ok (.istore_n 3, 1) := by decide +kernel
theorem dX0_counted_4 : decode cX0_counted 4 = .ok (.iload_n 3, 1) := by decide +kernel
theorem dX0_counted_5 : decode cX0_counted 5 = .ok (.aload_n 0, 1) := by decide +kernel
theorem dX0_counted_6 : decode cX0_counted 6 = .ok (.getfield 15, 3) := by decide +kernel
theorem dX0_counted_9 : decode cX0_counted 9 = .ok (.if_icmp .ge 27, 3) := by decide +kernel
theorem dX0_counted_12 : decode cX0_counted 12 = .ok (.aload_n 0, 1) := by decide +kernel
theorem dX0_counted_13 : decode cX0_counted 13 = .ok (.getfield 40, 3) := by decide +kernel
theorem dX0_counted_16 : decode cX0_counted 16 = .ok (.iload_n 3, 1) := by decide +kernel
theorem dX0_counted_17 : decode cX0_counted 17 = .ok (.iaload, 1) := by decide +kernel
theorem dX0_counted_18 : decode cX0_counted 18 = .ok (.iload_n 1, 1) := by decide +kernel
theorem dX0_counted_19 : decode cX0_counted 19 = .ok (.if_icmp .ne 11, 3) := by decide +kernel
theorem dX0_counted_22 : decode cX0_counted 22 = .ok (.iload_n 2, 1) := by decide +kernel
theorem dX0_counted_23 : decode cX0_counted 23 = .ok (.aload_n 0, 1) := by decide +kernel
theorem dX0_counted_24 : decode cX0_counted 24 = .ok (.iload_n 3, 1) := by decide +kernel
theorem dX0_counted_25 : decode cX0_counted 25 = .ok (.invokevirtual 90, 3) := by decide +kernel
theorem dX0_counted_28 : decode cX0_counted 28 = .ok (.iadd, 1) := by decide +kernel
theorem dX0_counted_29 : decode cX0_counted 29 = .ok (.istore_n 2, 1) := by decide +kernel
theorem dX0_counted_30 : decode cX0_counted 30 = .ok (.iinc 3 1, 3) := by decide +kernel
theorem dX0_counted_33 : decode cX0_counted 33 = .ok (.goto (-29), 3) := by decide +kernel
theorem dX0_counted_36 : decode cX0_counted 36 = .ok (.iload_n 2, 1) := by decide +kernel
theorem dX0_counted_37 : decode cX0_counted 37 = .ok (.ireturn, 1) := by decide +kernel
theorem dX0_countedByPins_0 : decode cX0_countedByPins 0 = .ok (.iconst 0, 1) := by decide +kernel
theorem dX0_countedByPins_1 : decode cX0_countedByPins 1 = .ok (.istore_n 2, 1) := by decide +kernel
theorem dX0_countedByPins_2 : decode cX0_countedByPins 2 = .ok (.iconst 0, 1) := by decide +kernel
theorem dX0_countedByPins_3 : decode cX0_countedByPins 3 = .ok (.istore_n 3, 1) := by decide +kernel
theorem dX0_countedByPins_4 : decode cX0_countedByPins 4 = .ok (.iload_n 3, 1) := by decide +kernel
theorem dX0_countedByPins_5 : decode cX0_countedByPins 5 = .ok (.aload_n 0, 1) := by decide +kernel
theorem dX0_countedByPins_6 : decode cX0_countedByPins 6 = .ok (.getfield 15, 3) := by decide +kernel
theorem dX0_countedByPins_9 : decode cX0_countedByPins 9 = .ok (.if_icmp .ge 37, 3) := by decide +kernel
theorem dX0_countedByPins_12 : decode cX0_countedByPins 12 = .ok (.aload_n 0, 1) := by decide +kernel
theorem dX0_countedByPins_13 : decode cX0_countedByPins 13 = .ok (.getfield 40, 3) := by decide +kernel
theorem dX0_countedByPins_16 : decode cX0_countedByPins 16 = .ok (.iload_n 3, 1) := by decide +kernel
theorem dX0_countedByPins_17 : decode cX0_countedByPins 17 = .ok (.iaload, 1) := by decide +kernel
theorem dX0_countedByPins_18 : decode cX0_countedByPins 18 = .ok (.iload_n 1, 1) := by decide +kernel
theorem dX0_countedByPins_19 : decode cX0_countedByPins 19 = .ok (.if_icmp .ne 21, 3) := by decide +kernel
theorem dX0_countedByPins_22 : decode cX0_countedByPins 22 = .ok (.aload_n 0, 1) := by decide +kernel
theorem dX0_countedByPins_23 : decode cX0_countedByPins 23 = .ok (.getfield 31, 3) := by decide +kernel
theorem dX0_countedByPins_26 : decode cX0_countedByPins 26 = .ok (.iload_n 3, 1) := by decide +kernel
theorem dX0_countedByPins_27 : decode cX0_countedByPins 27 = .ok (.iaload, 1) := by decide +kernel
theorem dX0_countedByPins_28 : decode cX0_countedByPins 28 = .ok (.iconst 3, 1) := by decide +kernel
theorem dX0_countedByPins_29 : decode cX0_countedByPins 29 = .ok (.if_icmp .ne 11, 3) := by decide +kernel
theorem dX0_countedByPins_32 : decode cX0_countedByPins 32 = .ok (.iload_n 2, 1) := by decide +kernel
theorem dX0_countedByPins_33 : decode cX0_countedByPins 33 = .ok (.aload_n 0, 1) := by decide +kernel
theorem dX0_countedByPins_34 : decode cX0_countedByPins 34 = .ok (.iload_n 3, 1) := by decide +kernel
theorem dX0_countedByPins_35 : decode cX0_countedByPins 35 = .ok (.invokevirtual 90, 3) := by decide +kernel
theorem dX0_countedByPins_38 : decode cX0_countedByPins 38 = .ok (.iadd, 1) := by decide +kernel
theorem dX0_countedByPins_39 : decode cX0_countedByPins 39 = .ok (.istore_n 2, 1) := by decide +kernel
theorem dX0_countedByPins_40 : decode cX0_countedByPins 40 = .ok (.iinc 3 1, 3) := by decide +kernel
theorem dX0_countedByPins_43 : decode cX0_countedByPins 43 = .ok (.goto (-39), 3) := by decide +kernel
theorem dX0_countedByPins_46 : decode cX0_countedByPins 46 = .ok (.iload_n 2, 1) := by decide +kernel
theorem dX0_countedByPins_47 : decode cX0_countedByPins 47 = .ok (.ireturn, 1) := by decide +kernel
theorem dX0_countedOfAll_0 : decode cX0_countedOfAll 0 = .ok (.iconst 0, 1) := by decide +kernel
theorem dX0_countedOfAll_1 : decode cX0_countedOfAll 1 = .ok (.istore_n 1, 1) := by decide +kernel
theorem dX0_countedOfAll_2 : decode cX0_countedOfAll 2 = .ok (.iconst 0, 1) := by decide +kernel
theorem dX0_countedOfAll_3 : decode cX0_countedOfAll 3 = .ok (.istore_n 2, 1) := by decide +kernel
theorem dX0_countedOfAll_4 : decode cX0_countedOfAll 4 = .ok (.iload_n 2, 1) := by decide +kernel
theorem dX0_countedOfAll_5 : decode cX0_countedOfAll 5 = .ok (.aload_n 0, 1) := by decide +kernel
theorem dX0_countedOfAll_6 : decode cX0_countedOfAll 6 = .ok (.getfield 9, 3) := by decide +kernel
theorem dX0_countedOfAll_9 : decode cX0_countedOfAll 9 = .ok (.if_icmp .ge 17, 3) := by decide +kernel
theorem dX0_countedOfAll_12 : decode cX0_countedOfAll 12 = .ok (.iload_n 1, 1) := by decide +kernel
theorem dX0_countedOfAll_13 : decode cX0_countedOfAll 13 = .ok (.aload_n 0, 1) := by decide +kernel
theorem dX0_countedOfAll_14 : decode cX0_countedOfAll 14 = .ok (.iload_n 2, 1) := by decide +kernel
theorem dX0_countedOfAll_15 : decode cX0_countedOfAll 15 = .ok (.invokevirtual 86, 3) := by decide +kernel
theorem dX0_countedOfAll_18 : decode cX0_countedOfAll 18 = .ok (.iadd, 1) := by decide +kernel
theorem dX0_countedOfAll_19 : decode cX0_countedOfAll 19 = .ok (.istore_n 1, 1) := by decide +kernel
theorem dX0_countedOfAll_20 : decode cX0_countedOfAll 20 = .ok (.iinc 2 1, 3) := by decide +kernel
theorem dX0_countedOfAll_23 : decode cX0_countedOfAll 23 = .ok (.goto (-19), 3) := by decide +kernel
theorem dX0_countedOfAll_26 : decode cX0_countedOfAll 26 = .ok (.iload_n 1, 1) := by decide +kernel
theorem dX0_countedOfAll_27 : decode cX0_countedOfAll 27 = .ok (.ireturn, 1) := by decide +kernel
theorem dX0_mostCounted_0 : decode cX0_mostCounted 0 = .ok (.bipush (-4), 2) := by decide +kernel
theorem dX0_mostCounted_2 : decode cX0_mostCounted 2 = .ok (.istore_n 1, 1) := by decide +kernel
theorem dX0_mostCounted_3 : decode cX0_mostCounted 3 = .ok (.iconst 0, 1) := by decide +kernel
theorem dX0_mostCounted_4 : decode cX0_mostCounted 4 = .ok (.istore_n 2, 1) := by decide +kernel
theorem dX0_mostCounted_5 : decode cX0_mostCounted 5 = .ok (.iconst 0, 1) := by decide +kernel
theorem dX0_mostCounted_6 : decode cX0_mostCounted 6 = .ok (.istore_n 3, 1) := by decide +kernel
theorem dX0_mostCounted_7 : decode cX0_mostCounted 7 = .ok (.iload_n 3, 1) := by decide +kernel
theorem dX0_mostCounted_8 : decode cX0_mostCounted 8 = .ok (.aload_n 0, 1) := by decide +kernel
theorem dX0_mostCounted_9 : decode cX0_mostCounted 9 = .ok (.getfield 9, 3) := by decide +kernel
theorem dX0_mostCounted_12 : decode cX0_mostCounted 12 = .ok (.if_icmp .ge 27, 3) := by decide +kernel
theorem dX0_mostCounted_15 : decode cX0_mostCounted 15 = .ok (.aload_n 0, 1) := by decide +kernel
theorem dX0_mostCounted_16 : decode cX0_mostCounted 16 = .ok (.iload_n 3, 1) := by decide +kernel
theorem dX0_mostCounted_17 : decode cX0_mostCounted 17 = .ok (.invokevirtual 86, 3) := by decide +kernel
theorem dX0_mostCounted_20 : decode cX0_mostCounted 20 = .ok (.istore 4, 2) := by decide +kernel
theorem dX0_mostCounted_22 : decode cX0_mostCounted 22 = .ok (.iload 4, 2) := by decide +kernel
theorem dX0_mostCounted_24 : decode cX0_mostCounted 24 = .ok (.iload_n 2, 1) := by decide +kernel
theorem dX0_mostCounted_25 : decode cX0_mostCounted 25 = .ok (.if_icmp .le 8, 3) := by decide +kernel
theorem dX0_mostCounted_28 : decode cX0_mostCounted 28 = .ok (.iload_n 3, 1) := by decide +kernel
theorem dX0_mostCounted_29 : decode cX0_mostCounted 29 = .ok (.istore_n 1, 1) := by decide +kernel
theorem dX0_mostCounted_30 : decode cX0_mostCounted 30 = .ok (.iload 4, 2) := by decide +kernel
theorem dX0_mostCounted_32 : decode cX0_mostCounted 32 = .ok (.istore_n 2, 1) := by decide +kernel
theorem dX0_mostCounted_33 : decode cX0_mostCounted 33 = .ok (.iinc 3 1, 3) := by decide +kernel
theorem dX0_mostCounted_36 : decode cX0_mostCounted 36 = .ok (.goto (-29), 3) := by decide +kernel
theorem dX0_mostCounted_39 : decode cX0_mostCounted 39 = .ok (.iload_n 1, 1) := by decide +kernel
theorem dX0_mostCounted_40 : decode cX0_mostCounted 40 = .ok (.ireturn, 1) := by decide +kernel
theorem dX0_allMakeWayFor_0 : decode cX0_allMakeWayFor 0 = .ok (.iconst 0, 1) := by decide +kernel
theorem dX0_allMakeWayFor_1 : decode cX0_allMakeWayFor 1 = .ok (.istore_n 2, 1) := by decide +kernel
theorem dX0_allMakeWayFor_2 : decode cX0_allMakeWayFor 2 = .ok (.iload_n 2, 1) := by decide +kernel
theorem dX0_allMakeWayFor_3 : decode cX0_allMakeWayFor 3 = .ok (.aload_n 0, 1) := by decide +kernel
theorem dX0_allMakeWayFor_4 : decode cX0_allMakeWayFor 4 = .ok (.getfield 9, 3) := by decide +kernel
theorem dX0_allMakeWayFor_7 : decode cX0_allMakeWayFor 7 = .ok (.if_icmp .ge 29, 3) := by decide +kernel
theorem dX0_allMakeWayFor_10 : decode cX0_allMakeWayFor 10 = .ok (.iload_n 2, 1) := by decide +kernel
theorem dX0_allMakeWayFor_11 : decode cX0_allMakeWayFor 11 = .ok (.iload_n 1, 1) := by decide +kernel
theorem dX0_allMakeWayFor_12 : decode cX0_allMakeWayFor 12 = .ok (.if_icmp .eq 18, 3) := by decide +kernel
theorem dX0_allMakeWayFor_15 : decode cX0_allMakeWayFor 15 = .ok (.aload_n 0, 1) := by decide +kernel
theorem dX0_allMakeWayFor_16 : decode cX0_allMakeWayFor 16 = .ok (.iload_n 2, 1) := by decide +kernel
theorem dX0_allMakeWayFor_17 : decode cX0_allMakeWayFor 17 = .ok (.invokevirtual 86, 3) := by decide +kernel
theorem dX0_allMakeWayFor_20 : decode cX0_allMakeWayFor 20 = .ok (.aload_n 0, 1) := by decide +kernel
theorem dX0_allMakeWayFor_21 : decode cX0_allMakeWayFor 21 = .ok (.iload_n 1, 1) := by decide +kernel
theorem dX0_allMakeWayFor_22 : decode cX0_allMakeWayFor 22 = .ok (.invokevirtual 86, 3) := by decide +kernel
theorem dX0_allMakeWayFor_25 : decode cX0_allMakeWayFor 25 = .ok (.if_icmp .lt 5, 3) := by decide +kernel
theorem dX0_allMakeWayFor_28 : decode cX0_allMakeWayFor 28 = .ok (.iconst 0, 1) := by decide +kernel
theorem dX0_allMakeWayFor_29 : decode cX0_allMakeWayFor 29 = .ok (.ireturn, 1) := by decide +kernel
theorem dX0_allMakeWayFor_30 : decode cX0_allMakeWayFor 30 = .ok (.iinc 2 1, 3) := by decide +kernel
theorem dX0_allMakeWayFor_33 : decode cX0_allMakeWayFor 33 = .ok (.goto (-31), 3) := by decide +kernel
theorem dX0_allMakeWayFor_36 : decode cX0_allMakeWayFor 36 = .ok (.iconst 1, 1) := by decide +kernel
theorem dX0_allMakeWayFor_37 : decode cX0_allMakeWayFor 37 = .ok (.ireturn, 1) := by decide +kernel
theorem dX0_sittersOn_0 : decode cX0_sittersOn 0 = .ok (.iconst 0, 1) := by decide +kernel
theorem dX0_sittersOn_1 : decode cX0_sittersOn 1 = .ok (.istore_n 2, 1) := by decide +kernel
theorem dX0_sittersOn_2 : decode cX0_sittersOn 2 = .ok (.iconst 0, 1) := by decide +kernel
theorem dX0_sittersOn_3 : decode cX0_sittersOn 3 = .ok (.istore_n 3, 1) := by decide +kernel
theorem dX0_sittersOn_4 : decode cX0_sittersOn 4 = .ok (.iload_n 3, 1) := by decide +kernel
theorem dX0_sittersOn_5 : decode cX0_sittersOn 5 = .ok (.aload_n 0, 1) := by decide +kernel
theorem dX0_sittersOn_6 : decode cX0_sittersOn 6 = .ok (.getfield 15, 3) := by decide +kernel
theorem dX0_sittersOn_9 : decode cX0_sittersOn 9 = .ok (.if_icmp .ge 25, 3) := by decide +kernel
theorem dX0_sittersOn_12 : decode cX0_sittersOn 12 = .ok (.aload_n 0, 1) := by decide +kernel
theorem dX0_sittersOn_13 : decode cX0_sittersOn 13 = .ok (.getfield 40, 3) := by decide +kernel
theorem dX0_sittersOn_16 : decode cX0_sittersOn 16 = .ok (.iload_n 3, 1) := by decide +kernel
theorem dX0_sittersOn_17 : decode cX0_sittersOn 17 = .ok (.iaload, 1) := by decide +kernel
theorem dX0_sittersOn_18 : decode cX0_sittersOn 18 = .ok (.iload_n 1, 1) := by decide +kernel
theorem dX0_sittersOn_19 : decode cX0_sittersOn 19 = .ok (.if_icmp .ne 9, 3) := by decide +kernel
theorem dX0_sittersOn_22 : decode cX0_sittersOn 22 = .ok (.iload_n 2, 1) := by decide +kernel
theorem dX0_sittersOn_23 : decode cX0_sittersOn 23 = .ok (.iconst 1, 1) := by decide +kernel
theorem dX0_sittersOn_24 : decode cX0_sittersOn 24 = .ok (.iload_n 3, 1) := by decide +kernel
theorem dX0_sittersOn_25 : decode cX0_sittersOn 25 = .ok (.ishl, 1) := by decide +kernel
theorem dX0_sittersOn_26 : decode cX0_sittersOn 26 = .ok (.ior, 1) := by decide +kernel
theorem dX0_sittersOn_27 : decode cX0_sittersOn 27 = .ok (.istore_n 2, 1) := by decide +kernel
theorem dX0_sittersOn_28 : decode cX0_sittersOn 28 = .ok (.iinc 3 1, 3) := by decide +kernel
theorem dX0_sittersOn_31 : decode cX0_sittersOn 31 = .ok (.goto (-27), 3) := by decide +kernel
theorem dX0_sittersOn_34 : decode cX0_sittersOn 34 = .ok (.iload_n 2, 1) := by decide +kernel
theorem dX0_sittersOn_35 : decode cX0_sittersOn 35 = .ok (.ireturn, 1) := by decide +kernel
theorem dX0_sitting_0 : decode cX0_sitting 0 = .ok (.iconst 0, 1) := by decide +kernel
theorem dX0_sitting_1 : decode cX0_sitting 1 = .ok (.istore_n 1, 1) := by decide +kernel
theorem dX0_sitting_2 : decode cX0_sitting 2 = .ok (.iconst 0, 1) := by decide +kernel
theorem dX0_sitting_3 : decode cX0_sitting 3 = .ok (.istore_n 2, 1) := by decide +kernel
theorem dX0_sitting_4 : decode cX0_sitting 4 = .ok (.iload_n 2, 1) := by decide +kernel
theorem dX0_sitting_5 : decode cX0_sitting 5 = .ok (.aload_n 0, 1) := by decide +kernel
theorem dX0_sitting_6 : decode cX0_sitting 6 = .ok (.getfield 15, 3) := by decide +kernel
theorem dX0_sitting_9 : decode cX0_sitting 9 = .ok (.if_icmp .ge 20, 3) := by decide +kernel
theorem dX0_sitting_12 : decode cX0_sitting 12 = .ok (.aload_n 0, 1) := by decide +kernel
theorem dX0_sitting_13 : decode cX0_sitting 13 = .ok (.iload_n 2, 1) := by decide +kernel
theorem dX0_sitting_14 : decode cX0_sitting 14 = .ok (.invokevirtual 83, 3) := by decide +kernel
theorem dX0_sitting_17 : decode cX0_sitting 17 = .ok (.ifCond .eq 6, 3) := by decide +kernel
theorem dX0_sitting_20 : decode cX0_sitting 20 = .ok (.iinc 1 1, 3) := by decide +kernel
theorem dX0_sitting_23 : decode cX0_sitting 23 = .ok (.iinc 2 1, 3) := by decide +kernel
theorem dX0_sitting_26 : decode cX0_sitting 26 = .ok (.goto (-22), 3) := by decide +kernel
theorem dX0_sitting_29 : decode cX0_sitting 29 = .ok (.iload_n 1, 1) := by decide +kernel
theorem dX0_sitting_30 : decode cX0_sitting 30 = .ok (.ireturn, 1) := by decide +kernel
theorem dX0_spotsOfAll_0 : decode cX0_spotsOfAll 0 = .ok (.iconst 0, 1) := by decide +kernel
theorem dX0_spotsOfAll_1 : decode cX0_spotsOfAll 1 = .ok (.istore_n 1, 1) := by decide +kernel
theorem dX0_spotsOfAll_2 : decode cX0_spotsOfAll 2 = .ok (.iconst 0, 1) := by decide +kernel
theorem dX0_spotsOfAll_3 : decode cX0_spotsOfAll 3 = .ok (.istore_n 2, 1) := by decide +kernel
theorem dX0_spotsOfAll_4 : decode cX0_spotsOfAll 4 = .ok (.iload_n 2, 1) := by decide +kernel
theorem dX0_spotsOfAll_5 : decode cX0_spotsOfAll 5 = .ok (.aload_n 0, 1) := by decide +kernel
theorem dX0_spotsOfAll_6 : decode cX0_spotsOfAll 6 = .ok (.getfield 15, 3) := by decide +kernel
theorem dX0_spotsOfAll_9 : decode cX0_spotsOfAll 9 = .ok (.if_icmp .ge 18, 3) := by decide +kernel
theorem dX0_spotsOfAll_12 : decode cX0_spotsOfAll 12 = .ok (.iload_n 1, 1) := by decide +kernel
theorem dX0_spotsOfAll_13 : decode cX0_spotsOfAll 13 = .ok (.aload_n 0, 1) := by decide +kernel
theorem dX0_spotsOfAll_14 : decode cX0_spotsOfAll 14 = .ok (.getfield 34, 3) := by decide +kernel
theorem dX0_spotsOfAll_17 : decode cX0_spotsOfAll 17 = .ok (.iload_n 2, 1) := by decide +kernel
theorem dX0_spotsOfAll_18 : decode cX0_spotsOfAll 18 = .ok (.iaload, 1) := by decide +kernel
theorem dX0_spotsOfAll_19 : decode cX0_spotsOfAll 19 = .ok (.iadd, 1) := by decide +kernel
theorem dX0_spotsOfAll_20 : decode cX0_spotsOfAll 20 = .ok (.istore_n 1, 1) := by decide +kernel
theorem dX0_spotsOfAll_21 : decode cX0_spotsOfAll 21 = .ok (.iinc 2 1, 3) := by decide +kernel
theorem dX0_spotsOfAll_24 : decode cX0_spotsOfAll 24 = .ok (.goto (-20), 3) := by decide +kernel
theorem dX0_spotsOfAll_27 : decode cX0_spotsOfAll 27 = .ok (.iload_n 1, 1) := by decide +kernel
theorem dX0_spotsOfAll_28 : decode cX0_spotsOfAll 28 = .ok (.ireturn, 1) := by decide +kernel
theorem dX0_allWinds_0 : decode cX0_allWinds 0 = .ok (.iconst 0, 1) := by decide +kernel
theorem dX0_allWinds_1 : decode cX0_allWinds 1 = .ok (.istore_n 1, 1) := by decide +kernel
theorem dX0_allWinds_2 : decode cX0_allWinds 2 = .ok (.iconst 0, 1) := by decide +kernel
theorem dX0_allWinds_3 : decode cX0_allWinds 3 = .ok (.istore_n 2, 1) := by decide +kernel
theorem dX0_allWinds_4 : decode cX0_allWinds 4 = .ok (.iload_n 2, 1) := by decide +kernel
theorem dX0_allWinds_5 : decode cX0_allWinds 5 = .ok (.bipush 6, 2) := by decide +kernel
theorem dX0_allWinds_7 : decode cX0_allWinds 7 = .ok (.if_icmp .ge 18, 3) := by decide +kernel
theorem dX0_allWinds_10 : decode cX0_allWinds 10 = .ok (.iload_n 1, 1) := by decide +kernel
theorem dX0_allWinds_11 : decode cX0_allWinds 11 = .ok (.aload_n 0, 1) := by decide +kernel
theorem dX0_allWinds_12 : decode cX0_allWinds 12 = .ok (.getfield 46, 3) := by decide +kernel
theorem dX0_allWinds_15 : decode cX0_allWinds 15 = .ok (.iload_n 2, 1) := by decide +kernel
theorem dX0_allWinds_16 : decode cX0_allWinds 16 = .ok (.iaload, 1) := by decide +kernel
theorem dX0_allWinds_17 : decode cX0_allWinds 17 = .ok (.iadd, 1) := by decide +kernel
theorem dX0_allWinds_18 : decode cX0_allWinds 18 = .ok (.istore_n 1, 1) := by decide +kernel
theorem dX0_allWinds_19 : decode cX0_allWinds 19 = .ok (.iinc 2 1, 3) := by decide +kernel
theorem dX0_allWinds_22 : decode cX0_allWinds 22 = .ok (.goto (-18), 3) := by decide +kernel
theorem dX0_allWinds_25 : decode cX0_allWinds 25 = .ok (.iload_n 1, 1) := by decide +kernel
theorem dX0_allWinds_26 : decode cX0_allWinds 26 = .ok (.ireturn, 1) := by decide +kernel
theorem dX0_passDays_0 : decode cX0_passDays 0 = .ok (.iconst 0, 1) := by decide +kernel
theorem dX0_passDays_1 : decode cX0_passDays 1 = .ok (.istore_n 2, 1) := by decide +kernel
theorem dX0_passDays_2 : decode cX0_passDays 2 = .ok (.iload_n 2, 1) := by decide +kernel
theorem dX0_passDays_3 : decode cX0_passDays 3 = .ok (.iload_n 1, 1) := by decide +kernel
theorem dX0_passDays_4 : decode cX0_passDays 4 = .ok (.if_icmp .ge 17, 3) := by decide +kernel
theorem dX0_passDays_7 : decode cX0_passDays 7 = .ok (.aload_n 0, 1) := by decide +kernel
theorem dX0_passDays_8 : decode cX0_passDays 8 = .ok (.aload_n 0, 1) := by decide +kernel
theorem dX0_passDays_9 : decode cX0_passDays 9 = .ok (.invokevirtual 93, 3) := by decide +kernel
theorem dX0_passDays_12 : decode cX0_passDays 12 = .ok (.invokevirtual 97, 3) := by decide +kernel
theorem dX0_passDays_15 : decode cX0_passDays 15 = .ok (.iinc 2 1, 3) := by decide +kernel
theorem dX0_passDays_18 : decode cX0_passDays 18 = .ok (.goto (-16), 3) := by decide +kernel
theorem dX0_passDays_21 : decode cX0_passDays 21 = .ok (.return_, 1) := by decide +kernel
theorem dX0_windToday_0 : decode cX0_windToday 0 = .ok (.aload_n 0, 1) := by decide +kernel
theorem dX0_windToday_1 : decode cX0_windToday 1 = .ok (.getfield 46, 3) := by decide +kernel
theorem dX0_windToday_4 : decode cX0_windToday 4 = .ok (.aload_n 0, 1) := by decide +kernel
theorem dX0_windToday_5 : decode cX0_windToday 5 = .ok (.getfield 18, 3) := by decide +kernel
theorem dX0_windToday_8 : decode cX0_windToday 8 = .ok (.bipush 6, 2) := by decide +kernel
theorem dX0_windToday_10 : decode cX0_windToday 10 = .ok (.irem, 1) := by decide +kernel
theorem dX0_windToday_11 : decode cX0_windToday 11 = .ok (.iaload, 1) := by decide +kernel
theorem dX0_windToday_12 : decode cX0_windToday 12 = .ok (.ireturn, 1) := by decide +kernel
theorem dX0_passDay_0 : decode cX0_passDay 0 = .ok (.iconst 0, 1) := by decide +kernel
theorem dX0_passDay_1 : decode cX0_passDay 1 = .ok (.istore_n 2, 1) := by decide +kernel
theorem dX0_passDay_2 : decode cX0_passDay 2 = .ok (.iload_n 2, 1) := by decide +kernel
theorem dX0_passDay_3 : decode cX0_passDay 3 = .ok (.aload_n 0, 1) := by decide +kernel
theorem dX0_passDay_4 : decode cX0_passDay 4 = .ok (.getfield 15, 3) := by decide +kernel
theorem dX0_passDay_7 : decode cX0_passDay 7 = .ok (.if_icmp .ge 33, 3) := by decide +kernel
theorem dX0_passDay_10 : decode cX0_passDay 10 = .ok (.aload_n 0, 1) := by decide +kernel
theorem dX0_passDay_11 : decode cX0_passDay 11 = .ok (.iload_n 2, 1) := by decide +kernel
theorem dX0_passDay_12 : decode cX0_passDay 12 = .ok (.invokevirtual 83, 3) := by decide +kernel
theorem dX0_passDay_15 : decode cX0_passDay 15 = .ok (.ifCond .eq 19, 3) := by decide +kernel
theorem dX0_passDay_18 : decode cX0_passDay 18 = .ok (.aload_n 0, 1) := by decide +kernel
theorem dX0_passDay_19 : decode cX0_passDay 19 = .ok (.getfield 34, 3) := by decide +kernel
theorem dX0_passDay_22 : decode cX0_passDay 22 = .ok (.iload_n 2, 1) := by decide +kernel
theorem dX0_passDay_23 : decode cX0_passDay 23 = .ok (.iaload, 1) := by decide +kernel
theorem dX0_passDay_24 : decode cX0_passDay 24 = .ok (.iload_n 1, 1) := by decide +kernel
theorem dX0_passDay_25 : decode cX0_passDay 25 = .ok (.if_icmp .ge 9, 3) := by decide +kernel
theorem dX0_passDay_28 : decode cX0_passDay 28 = .ok (.aload_n 0, 1) := by decide +kernel
theorem dX0_passDay_29 : decode cX0_passDay 29 = .ok (.iload_n 2, 1) := by decide +kernel
theorem dX0_passDay_30 : decode cX0_passDay 30 = .ok (.iload_n 1, 1) := by decide +kernel
theorem dX0_passDay_31 : decode cX0_passDay 31 = .ok (.invokevirtual 101, 3) := by decide +kernel
theorem dX0_passDay_34 : decode cX0_passDay 34 = .ok (.iinc 2 1, 3) := by decide +kernel
theorem dX0_passDay_37 : decode cX0_passDay 37 = .ok (.goto (-35), 3) := by decide +kernel
theorem dX0_passDay_40 : decode cX0_passDay 40 = .ok (.iconst 0, 1) := by decide +kernel
theorem dX0_passDay_41 : decode cX0_passDay 41 = .ok (.istore_n 2, 1) := by decide +kernel
theorem dX0_passDay_42 : decode cX0_passDay 42 = .ok (.iload_n 2, 1) := by decide +kernel
theorem dX0_passDay_43 : decode cX0_passDay 43 = .ok (.aload_n 0, 1) := by decide +kernel
theorem dX0_passDay_44 : decode cX0_passDay 44 = .ok (.getfield 15, 3) := by decide +kernel
theorem dX0_passDay_47 : decode cX0_passDay 47 = .ok (.if_icmp .ge 27, 3) := by decide +kernel
theorem dX0_passDay_50 : decode cX0_passDay 50 = .ok (.aload_n 0, 1) := by decide +kernel
theorem dX0_passDay_51 : decode cX0_passDay 51 = .ok (.iload_n 2, 1) := by decide +kernel
theorem dX0_passDay_52 : decode cX0_passDay 52 = .ok (.invokevirtual 83, 3) := by decide +kernel
theorem dX0_passDay_55 : decode cX0_passDay 55 = .ok (.ifCond .ne 13, 3) := by decide +kernel
theorem dX0_passDay_58 : decode cX0_passDay 58 = .ok (.aload_n 0, 1) := by decide +kernel
theorem dX0_passDay_59 : decode cX0_passDay 59 = .ok (.iload_n 2, 1) := by decide +kernel
theorem dX0_passDay_60 : decode cX0_passDay 60 = .ok (.aload_n 0, 1) := by decide +kernel
theorem dX0_passDay_61 : decode cX0_passDay 61 = .ok (.iload_n 2, 1) := by decide +kernel
theorem dX0_passDay_62 : decode cX0_passDay 62 = .ok (.invokevirtual 105, 3) := by decide +kernel
theorem dX0_passDay_65 : decode cX0_passDay 65 = .ok (.invokevirtual 108, 3) := by decide +kernel
theorem dX0_passDay_68 : decode cX0_passDay 68 = .ok (.iinc 2 1, 3) := by decide +kernel
theorem dX0_passDay_71 : decode cX0_passDay 71 = .ok (.goto (-29), 3) := by decide +kernel
theorem dX0_passDay_74 : decode cX0_passDay 74 = .ok (.aload_n 0, 1) := by decide +kernel
theorem dX0_passDay_75 : decode cX0_passDay 75 = .ok (.dup, 1) := by decide +kernel
theorem dX0_passDay_76 : decode cX0_passDay 76 = .ok (.getfield 18, 3) := by decide +kernel
theorem dX0_passDay_79 : decode cX0_passDay 79 = .ok (.iconst 1, 1) := by decide +kernel
theorem dX0_passDay_80 : decode cX0_passDay 80 = .ok (.iadd, 1) := by decide +kernel
theorem dX0_passDay_81 : decode cX0_passDay 81 = .ok (.putfield 18, 3) := by decide +kernel
theorem dX0_passDay_84 : decode cX0_passDay 84 = .ok (.return_, 1) := by decide +kernel
theorem dX0_blowOff_0 : decode cX0_blowOff 0 = .ok (.aload_n 0, 1) := by decide +kernel
theorem dX0_blowOff_1 : decode cX0_blowOff 1 = .ok (.iload_n 1, 1) := by decide +kernel
theorem dX0_blowOff_2 : decode cX0_blowOff 2 = .ok (.invokevirtual 111, 3) := by decide +kernel
theorem dX0_blowOff_5 : decode cX0_blowOff 5 = .ok (.istore_n 3, 1) := by decide +kernel
theorem dX0_blowOff_6 : decode cX0_blowOff 6 = .ok (.aload_n 0, 1) := by decide +kernel
theorem dX0_blowOff_7 : decode cX0_blowOff 7 = .ok (.getfield 18, 3) := by decide +kernel
theorem dX0_blowOff_10 : decode cX0_blowOff 10 = .ok (.iconst 2, 1) := by decide +kernel
theorem dX0_blowOff_11 : decode cX0_blowOff 11 = .ok (.irem, 1) := by decide +kernel
theorem dX0_blowOff_12 : decode cX0_blowOff 12 = .ok (.ifCond .ne 19, 3) := by decide +kernel
theorem dX0_blowOff_15 : decode cX0_blowOff 15 = .ok (.aload_n 0, 1) := by decide +kernel
theorem dX0_blowOff_16 : decode cX0_blowOff 16 = .ok (.iload_n 1, 1) := by decide +kernel
theorem dX0_blowOff_17 : decode cX0_blowOff 17 = .ok (.iload_n 3, 1) := by decide +kernel
theorem dX0_blowOff_18 : decode cX0_blowOff 18 = .ok (.iload_n 2, 1) := by decide +kernel
theorem dX0_blowOff_19 : decode cX0_blowOff 19 = .ok (.iadd, 1) := by decide +kernel
theorem dX0_blowOff_20 : decode cX0_blowOff 20 = .ok (.bipush 9, 2) := by decide +kernel
theorem dX0_blowOff_22 : decode cX0_blowOff 22 = .ok (.invokestatic 114, 3) := by decide +kernel
theorem dX0_blowOff_25 : decode cX0_blowOff 25 = .ok (.invokevirtual 120, 3) := by decide +kernel
theorem dX0_blowOff_28 : decode cX0_blowOff 28 = .ok (.goto 15, 3) := by decide +kernel
theorem dX0_blowOff_31 : decode cX0_blowOff 31 = .ok (.aload_n 0, 1) := by decide +kernel
theorem dX0_blowOff_32 : decode cX0_blowOff 32 = .ok (.iload_n 1, 1) := by decide +kernel
theorem dX0_blowOff_33 : decode cX0_blowOff 33 = .ok (.iload_n 3, 1) := by decide +kernel
theorem dX0_blowOff_34 : decode cX0_blowOff 34 = .ok (.iload_n 2, 1) := by decide +kernel
theorem dX0_blowOff_35 : decode cX0_blowOff 35 = .ok (.isub, 1) := by decide +kernel
theorem dX0_blowOff_36 : decode cX0_blowOff 36 = .ok (.iconst 0, 1) := by decide +kernel
theorem dX0_blowOff_37 : decode cX0_blowOff 37 = .ok (.invokestatic 123, 3) := by decide +kernel
theorem dX0_blowOff_40 : decode cX0_blowOff 40 = .ok (.invokevirtual 120, 3) := by decide +kernel
theorem dX0_blowOff_43 : decode cX0_blowOff 43 = .ok (.aload_n 0, 1) := by decide +kernel
theorem dX0_blowOff_44 : decode cX0_blowOff 44 = .ok (.dup, 1) := by decide +kernel
theorem dX0_blowOff_45 : decode cX0_blowOff 45 = .ok (.getfield 21, 3) := by decide +kernel
theorem dX0_blowOff_48 : decode cX0_blowOff 48 = .ok (.iconst 1, 1) := by decide +kernel
theorem dX0_blowOff_49 : decode cX0_blowOff 49 = .ok (.iadd, 1) := by decide +kernel
theorem dX0_blowOff_50 : decode cX0_blowOff 50 = .ok (.putfield 21, 3) := by decide +kernel
theorem dX0_blowOff_53 : decode cX0_blowOff 53 = .ok (.return_, 1) := by decide +kernel
theorem dX0_flyTowards_0 : decode cX0_flyTowards 0 = .ok (.aload_n 0, 1) := by decide +kernel
theorem dX0_flyTowards_1 : decode cX0_flyTowards 1 = .ok (.getfield 27, 3) := by decide +kernel
theorem dX0_flyTowards_4 : decode cX0_flyTowards 4 = .ok (.iload_n 2, 1) := by decide +kernel
theorem dX0_flyTowards_5 : decode cX0_flyTowards 5 = .ok (.iaload, 1) := by decide +kernel
theorem dX0_flyTowards_6 : decode cX0_flyTowards 6 = .ok (.aload_n 0, 1) := by decide +kernel
theorem dX0_flyTowards_7 : decode cX0_flyTowards 7 = .ok (.getfield 43, 3) := by decide +kernel
theorem dX0_flyTowards_10 : decode cX0_flyTowards 10 = .ok (.iload_n 1, 1) := by decide +kernel
theorem dX0_flyTowards_11 : decode cX0_flyTowards 11 = .ok (.iaload, 1) := by decide +kernel
theorem dX0_flyTowards_12 : decode cX0_flyTowards 12 = .ok (.isub, 1) := by decide +kernel
theorem dX0_flyTowards_13 : decode cX0_flyTowards 13 = .ok (.istore_n 3, 1) := by decide +kernel
theorem dX0_flyTowards_14 : decode cX0_flyTowards 14 = .ok (.aload_n 0, 1) := by decide +kernel
theorem dX0_flyTowards_15 : decode cX0_flyTowards 15 = .ok (.iload_n 1, 1) := by decide +kernel
theorem dX0_flyTowards_16 : decode cX0_flyTowards 16 = .ok (.invokevirtual 126, 3) := by decide +kernel
theorem dX0_flyTowards_19 : decode cX0_flyTowards 19 = .ok (.istore 4, 2) := by decide +kernel
theorem dX0_flyTowards_21 : decode cX0_flyTowards 21 = .ok (.aload_n 0, 1) := by decide +kernel
theorem dX0_flyTowards_22 : decode cX0_flyTowards 22 = .ok (.getfield 43, 3) := by decide +kernel
theorem dX0_flyTowards_25 : decode cX0_flyTowards 25 = .ok (.iload_n 1, 1) := by decide +kernel
theorem dX0_flyTowards_26 : decode cX0_flyTowards 26 = .ok (.dup2, 1) := by decide +kernel
theorem dX0_flyTowards_27 : decode cX0_flyTowards 27 = .ok (.iaload, 1) := by decide +kernel
theorem dX0_flyTowards_28 : decode cX0_flyTowards 28 = .ok (.iload 4, 2) := by decide +kernel
theorem dX0_flyTowards_30 : decode cX0_flyTowards 30 = .ok (.ineg, 1) := by decide +kernel
theorem dX0_flyTowards_31 : decode cX0_flyTowards 31 = .ok (.iload_n 3, 1) := by decide +kernel
theorem dX0_flyTowards_32 : decode cX0_flyTowards 32 = .ok (.iload 4, 2) := by decide +kernel
theorem dX0_flyTowards_34 : decode cX0_flyTowards 34 = .ok (.invokestatic 114, 3) := by decide +kernel
theorem dX0_flyTowards_37 : decode cX0_flyTowards 37 = .ok (.invokestatic 123, 3) := by decide +kernel
theorem dX0_flyTowards_40 : decode cX0_flyTowards 40 = .ok (.iadd, 1) := by decide +kernel
theorem dX0_flyTowards_41 : decode cX0_flyTowards 41 = .ok (.iastore, 1) := by decide +kernel
theorem dX0_flyTowards_42 : decode cX0_flyTowards 42 = .ok (.aload_n 0, 1) := by decide +kernel
theorem dX0_flyTowards_43 : decode cX0_flyTowards 43 = .ok (.getfield 43, 3) := by decide +kernel
theorem dX0_flyTowards_46 : decode cX0_flyTowards 46 = .ok (.iload_n 1, 1) := by decide +kernel
theorem dX0_flyTowards_47 : decode cX0_flyTowards 47 = .ok (.iaload, 1) := by decide +kernel
theorem dX0_flyTowards_48 : decode cX0_flyTowards 48 = .ok (.aload_n 0, 1) := by decide +kernel
theorem dX0_flyTowards_49 : decode cX0_flyTowards 49 = .ok (.getfield 27, 3) := by decide +kernel
theorem dX0_flyTowards_52 : decode cX0_flyTowards 52 = .ok (.iload_n 2, 1) := by decide +kernel
theorem dX0_flyTowards_53 : decode cX0_flyTowards 53 = .ok (.iaload, 1) := by decide +kernel
theorem dX0_flyTowards_54 : decode cX0_flyTowards 54 = .ok (.if_icmp .ne 20, 3) := by decide +kernel
theorem dX0_flyTowards_57 : decode cX0_flyTowards 57 = .ok (.aload_n 0, 1) := by decide +kernel
theorem dX0_flyTowards_58 : decode cX0_flyTowards 58 = .ok (.getfield 40, 3) := by decide +kernel
theorem dX0_flyTowards_61 : decode cX0_flyTowards 61 = .ok (.iload_n 1, 1) := by decide +kernel
theorem dX0_flyTowards_62 : decode cX0_flyTowards 62 = .ok (.iload_n 2, 1) := by decide +kernel
theorem dX0_flyTowards_63 : decode cX0_flyTowards 63 = .ok (.iastore, 1) := by decide +kernel
theorem dX0_flyTowards_64 : decode cX0_flyTowards 64 = .ok (.aload_n 0, 1) := by decide +kernel
theorem dX0_flyTowards_65 : decode cX0_flyTowards 65 = .ok (.dup, 1) := by decide +kernel
theorem dX0_flyTowards_66 : decode cX0_flyTowards 66 = .ok (.getfield 24, 3) := by decide +kernel
theorem dX0_flyTowards_69 : decode cX0_flyTowards 69 = .ok (.iconst 1, 1) := by decide +kernel
theorem dX0_flyTowards_70 : decode cX0_flyTowards 70 = .ok (.iadd, 1) := by decide +kernel
theorem dX0_flyTowards_71 : decode cX0_flyTowards 71 = .ok (.putfield 24, 3) := by decide +kernel
theorem dX0_flyTowards_74 : decode cX0_flyTowards 74 = .ok (.return_, 1) := by decide +kernel
theorem dX0_daysTillSits_0 : decode cX0_daysTillSits 0 = .ok (.iconst 0, 1) := by decide +kernel
theorem dX0_daysTillSits_1 : decode cX0_daysTillSits 1 = .ok (.istore_n 3, 1) := by decide +kernel
theorem dX0_daysTillSits_2 : decode cX0_daysTillSits 2 = .ok (.iload_n 3, 1) := by decide +kernel
theorem dX0_daysTillSits_3 : decode cX0_daysTillSits 3 = .ok (.iload_n 2, 1) := by decide +kernel
theorem dX0_daysTillSits_4 : decode cX0_daysTillSits 4 = .ok (.if_icmp .gt 27, 3) := by decide +kernel
theorem dX0_daysTillSits_7 : decode cX0_daysTillSits 7 = .ok (.aload_n 0, 1) := by decide +kernel
theorem dX0_daysTillSits_8 : decode cX0_daysTillSits 8 = .ok (.iload_n 1, 1) := by decide +kernel
theorem dX0_daysTillSits_9 : decode cX0_daysTillSits 9 = .ok (.invokevirtual 83, 3) := by decide +kernel
theorem dX0_daysTillSits_12 : decode cX0_daysTillSits 12 = .ok (.ifCond .eq 5, 3) := by decide +kernel
theorem dX0_daysTillSits_15 : decode cX0_daysTillSits 15 = .ok (.iload_n 3, 1) := by decide +kernel
theorem dX0_daysTillSits_16 : decode cX0_daysTillSits 16 = .ok (.ireturn, 1) := by decide +kernel
theorem dX0_daysTillSits_17 : decode cX0_daysTillSits 17 = .ok (.aload_n 0, 1) := by decide +kernel
theorem dX0_daysTillSits_18 : decode cX0_daysTillSits 18 = .ok (.aload_n 0, 1) := by decide +kernel
theorem dX0_daysTillSits_19 : decode cX0_daysTillSits 19 = .ok (.invokevirtual 93, 3) := by decide +kernel
theorem dX0_daysTillSits_22 : decode cX0_daysTillSits 22 = .ok (.invokevirtual 97, 3) := by decide +kernel
theorem dX0_daysTillSits_25 : decode cX0_daysTillSits 25 = .ok (.iinc 3 1, 3) := by decide +kernel
theorem dX0_daysTillSits_28 : decode cX0_daysTillSits 28 = .ok (.goto (-26), 3) := by decide +kernel
theorem dX0_daysTillSits_31 : decode cX0_daysTillSits 31 = .ok (.bipush (-4), 2) := by decide +kernel
theorem dX0_daysTillSits_33 : decode cX0_daysTillSits 33 = .ok (.ireturn, 1) := by decide +kernel
theorem dX0_daysTillAllSit_0 : decode cX0_daysTillAllSit 0 = .ok (.iconst 0, 1) := by decide +kernel
theorem dX0_daysTillAllSit_1 : decode cX0_daysTillAllSit 1 = .ok (.istore_n 2, 1) := by decide +kernel
theorem dX0_daysTillAllSit_2 : decode cX0_daysTillAllSit 2 = .ok (.iload_n 2, 1) := by decide +kernel
theorem dX0_daysTillAllSit_3 : decode cX0_daysTillAllSit 3 = .ok (.iload_n 1, 1) := by decide +kernel
theorem dX0_daysTillAllSit_4 : decode cX0_daysTillAllSit 4 = .ok (.if_icmp .gt 30, 3) := by decide +kernel
theorem dX0_daysTillAllSit_7 : decode cX0_daysTillAllSit 7 = .ok (.aload_n 0, 1) := by decide +kernel
theorem dX0_daysTillAllSit_8 : decode cX0_daysTillAllSit 8 = .ok (.invokevirtual 129, 3) := by decide +kernel
theorem dX0_daysTillAllSit_11 : decode cX0_daysTillAllSit 11 = .ok (.aload_n 0, 1) := by decide +kernel
theorem dX0_daysTillAllSit_12 : decode cX0_daysTillAllSit 12 = .ok (.getfield 15, 3) := by decide +kernel
theorem dX0_daysTillAllSit_15 : decode cX0_daysTillAllSit 15 = .ok (.if_icmp .ne 5, 3) := by decide +kernel
theorem dX0_daysTillAllSit_18 : decode cX0_daysTillAllSit 18 = .ok (.iload_n 2, 1) := by decide +kernel
theorem dX0_daysTillAllSit_19 : decode cX0_daysTillAllSit 19 = .ok (.ireturn, 1) := by decide +kernel
theorem dX0_daysTillAllSit_20 : decode cX0_daysTillAllSit 20 = .ok (.aload_n 0, 1) := by decide +kernel
theorem dX0_daysTillAllSit_21 : decode cX0_daysTillAllSit 21 = .ok (.aload_n 0, 1) := by decide +kernel
theorem dX0_daysTillAllSit_22 : decode cX0_daysTillAllSit 22 = .ok (.invokevirtual 93, 3) := by decide +kernel
theorem dX0_daysTillAllSit_25 : decode cX0_daysTillAllSit 25 = .ok (.invokevirtual 97, 3) := by decide +kernel
theorem dX0_daysTillAllSit_28 : decode cX0_daysTillAllSit 28 = .ok (.iinc 2 1, 3) := by decide +kernel
theorem dX0_daysTillAllSit_31 : decode cX0_daysTillAllSit 31 = .ok (.goto (-29), 3) := by decide +kernel
theorem dX0_daysTillAllSit_34 : decode cX0_daysTillAllSit 34 = .ok (.bipush (-4), 2) := by decide +kernel
theorem dX0_daysTillAllSit_36 : decode cX0_daysTillAllSit 36 = .ok (.ireturn, 1) := by decide +kernel
theorem dX1_init_0 : decode cX1_init 0 = .ok (.aload_n 0, 1) := by decide +kernel
theorem dX1_init_1 : decode cX1_init 1 = .ok (.invokespecial 1, 3) := by decide +kernel
theorem dX1_init_4 : decode cX1_init 4 = .ok (.aload_n 0, 1) := by decide +kernel
theorem dX1_init_5 : decode cX1_init 5 = .ok (.iconst 0, 1) := by decide +kernel
theorem dX1_init_6 : decode cX1_init 6 = .ok (.putfield 7, 3) := by decide +kernel
theorem dX1_init_9 : decode cX1_init 9 = .ok (.aload_n 0, 1) := by decide +kernel
theorem dX1_init_10 : decode cX1_init 10 = .ok (.new 13, 3) := by decide +kernel
theorem dX1_init_13 : decode cX1_init 13 = .ok (.dup, 1) := by decide +kernel
theorem dX1_init_14 : decode cX1_init 14 = .ok (.invokespecial 15, 3) := by decide +kernel
theorem dX1_init_17 : decode cX1_init 17 = .ok (.putfield 16, 3) := by decide +kernel
theorem dX1_init_20 : decode cX1_init 20 = .ok (.aload_n 0, 1) := by decide +kernel
theorem dX1_init_21 : decode cX1_init 21 = .ok (.new 20, 3) := by decide +kernel
theorem dX1_init_24 : decode cX1_init 24 = .ok (.dup, 1) := by decide +kernel
theorem dX1_init_25 : decode cX1_init 25 = .ok (.invokespecial 22, 3) := by decide +kernel
theorem dX1_init_28 : decode cX1_init 28 = .ok (.putfield 23, 3) := by decide +kernel
theorem dX1_init_31 : decode cX1_init 31 = .ok (.return_, 1) := by decide +kernel
theorem dX2_init_0 : decode cX2_init 0 = .ok (.aload_n 0, 1) := by decide +kernel
theorem dX2_init_1 : decode cX2_init 1 = .ok (.invokespecial 3, 3) := by decide +kernel
theorem dX2_init_4 : decode cX2_init 4 = .ok (.aload_n 0, 1) := by decide +kernel
theorem dX2_init_5 : decode cX2_init 5 = .ok (.iconst 0, 1) := by decide +kernel
theorem dX2_init_6 : decode cX2_init 6 = .ok (.putfield 9, 3) := by decide +kernel
theorem dX2_init_9 : decode cX2_init 9 = .ok (.aload_n 0, 1) := by decide +kernel
theorem dX2_init_10 : decode cX2_init 10 = .ok (.bipush 6, 2) := by decide +kernel
theorem dX2_init_12 : decode cX2_init 12 = .ok (.newarray .int, 2) := by decide +kernel
theorem dX2_init_14 : decode cX2_init 14 = .ok (.putfield 15, 3) := by decide +kernel
theorem dX2_init_17 : decode cX2_init 17 = .ok (.aload_n 0, 1) := by decide +kernel
theorem dX2_init_18 : decode cX2_init 18 = .ok (.bipush 6, 2) := by decide +kernel
theorem dX2_init_20 : decode cX2_init 20 = .ok (.newarray .int, 2) := by decide +kernel
theorem dX2_init_22 : decode cX2_init 22 = .ok (.putfield 19, 3) := by decide +kernel
theorem dX2_init_25 : decode cX2_init 25 = .ok (.aload_n 0, 1) := by decide +kernel
theorem dX2_init_26 : decode cX2_init 26 = .ok (.bipush 6, 2) := by decide +kernel
theorem dX2_init_28 : decode cX2_init 28 = .ok (.newarray .int, 2) := by decide +kernel
theorem dX2_init_30 : decode cX2_init 30 = .ok (.putfield 22, 3) := by decide +kernel
theorem dX2_init_33 : decode cX2_init 33 = .ok (.return_, 1) := by decide +kernel
theorem dX2_append_0 : decode cX2_append 0 = .ok (.aload_n 0, 1) := by decide +kernel
theorem dX2_append_1 : decode cX2_append 1 = .ok (.getfield 9, 3) := by decide +kernel
theorem dX2_append_4 : decode cX2_append 4 = .ok (.bipush 6, 2) := by decide +kernel
theorem dX2_append_6 : decode cX2_append 6 = .ok (.if_icmp .lt 5, 3) := by decide +kernel
theorem dX2_append_9 : decode cX2_append 9 = .ok (.iconst 0, 1) := by decide +kernel
theorem dX2_append_10 : decode cX2_append 10 = .ok (.ireturn, 1) := by decide +kernel
theorem dX2_append_11 : decode cX2_append 11 = .ok (.aload_n 0, 1) := by decide +kernel
theorem dX2_append_12 : decode cX2_append 12 = .ok (.getfield 15, 3) := by decide +kernel
theorem dX2_append_15 : decode cX2_append 15 = .ok (.aload_n 0, 1) := by decide +kernel
theorem dX2_append_16 : decode cX2_append 16 = .ok (.getfield 9, 3) := by decide +kernel
theorem dX2_append_19 : decode cX2_append 19 = .ok (.iload_n 1, 1) := by decide +kernel
theorem dX2_append_20 : decode cX2_append 20 = .ok (.iastore, 1) := by decide +kernel
theorem dX2_append_21 : decode cX2_append 21 = .ok (.aload_n 0, 1) := by decide +kernel
theorem dX2_append_22 : decode cX2_append 22 = .ok (.getfield 19, 3) := by decide +kernel
theorem dX2_append_25 : decode cX2_append 25 = .ok (.aload_n 0, 1) := by decide +kernel
theorem dX2_append_26 : decode cX2_append 26 = .ok (.getfield 9, 3) := by decide +kernel
theorem dX2_append_29 : decode cX2_append 29 = .ok (.iload_n 2, 1) := by decide +kernel
theorem dX2_append_30 : decode cX2_append 30 = .ok (.iastore, 1) := by decide +kernel
theorem dX2_append_31 : decode cX2_append 31 = .ok (.aload_n 0, 1) := by decide +kernel
theorem dX2_append_32 : decode cX2_append 32 = .ok (.getfield 22, 3) := by decide +kernel
theorem dX2_append_35 : decode cX2_append 35 = .ok (.aload_n 0, 1) := by decide +kernel
theorem dX2_append_36 : decode cX2_append 36 = .ok (.getfield 9, 3) := by decide +kernel
theorem dX2_append_39 : decode cX2_append 39 = .ok (.iload_n 3, 1) := by decide +kernel
theorem dX2_append_40 : decode cX2_append 40 = .ok (.iastore, 1) := by decide +kernel
theorem dX2_append_41 : decode cX2_append 41 = .ok (.aload_n 0, 1) := by decide +kernel
theorem dX2_append_42 : decode cX2_append 42 = .ok (.dup, 1) := by decide +kernel
theorem dX2_append_43 : decode cX2_append 43 = .ok (.getfield 9, 3) := by decide +kernel
theorem dX2_append_46 : decode cX2_append 46 = .ok (.iconst 1, 1) := by decide +kernel
theorem dX2_append_47 : decode cX2_append 47 = .ok (.iadd, 1) := by decide +kernel
theorem dX2_append_48 : decode cX2_append 48 = .ok (.putfield 9, 3) := by decide +kernel
theorem dX2_append_51 : decode cX2_append 51 = .ok (.iconst 1, 1) := by decide +kernel
theorem dX2_append_52 : decode cX2_append 52 = .ok (.ireturn, 1) := by decide +kernel
theorem dX2_copyFrom_0 : decode cX2_copyFrom 0 = .ok (.aload_n 0, 1) := by decide +kernel
theorem dX2_copyFrom_1 : decode cX2_copyFrom 1 = .ok (.aload_n 1, 1) := by decide +kernel
theorem dX2_copyFrom_2 : decode cX2_copyFrom 2 = .ok (.getfield 9, 3) := by decide +kernel
theorem dX2_copyFrom_5 : decode cX2_copyFrom 5 = .ok (.putfield 9, 3) := by decide +kernel
theorem dX2_copyFrom_8 : decode cX2_copyFrom 8 = .ok (.aload_n 1, 1) := by decide +kernel
theorem dX2_copyFrom_9 : decode cX2_copyFrom 9 = .ok (.getfield 15, 3) := by decide +kernel
theorem dX2_copyFrom_12 : decode cX2_copyFrom 12 = .ok (.iconst 0, 1) := by decide +kernel
theorem dX2_copyFrom_13 : decode cX2_copyFrom 13 = .ok (.aload_n 0, 1) := by decide +kernel
theorem dX2_copyFrom_14 : decode cX2_copyFrom 14 = .ok (.getfield 15, 3) := by decide +kernel
theorem dX2_copyFrom_17 : decode cX2_copyFrom 17 = .ok (.iconst 0, 1) := by decide +kernel
theorem dX2_copyFrom_18 : decode cX2_copyFrom 18 = .ok (.bipush 6, 2) := by decide +kernel
theorem dX2_copyFrom_20 : decode cX2_copyFrom 20 = .ok (.invokestatic 25, 3) := by decide +kernel
theorem dX2_copyFrom_23 : decode cX2_copyFrom 23 = .ok (.aload_n 1, 1) := by decide +kernel
theorem dX2_copyFrom_24 : decode cX2_copyFrom 24 = .ok (.getfield 19, 3) := by decide +kernel
theorem dX2_copyFrom_27 : decode cX2_copyFrom 27 = .ok (.iconst 0, 1) := by decide +kernel
theorem dX2_copyFrom_28 : decode cX2_copyFrom 28 = .ok (.aload_n 0, 1) := by decide +kernel
theorem dX2_copyFrom_29 : decode cX2_copyFrom 29 = .ok (.getfield 19, 3) := by decide +kernel
theorem dX2_copyFrom_32 : decode cX2_copyFrom 32 = .ok (.iconst 0, 1) := by decide +kernel
theorem dX2_copyFrom_33 : decode cX2_copyFrom 33 = .ok (.bipush 6, 2) := by decide +kernel
theorem dX2_copyFrom_35 : decode cX2_copyFrom 35 = .ok (.invokestatic 25, 3) := by decide +kernel
theorem dX2_copyFrom_38 : decode cX2_copyFrom 38 = .ok (.aload_n 1, 1) := by decide +kernel
theorem dX2_copyFrom_39 : decode cX2_copyFrom 39 = .ok (.getfield 22, 3) := by decide +kernel
theorem dX2_copyFrom_42 : decode cX2_copyFrom 42 = .ok (.iconst 0, 1) := by decide +kernel
theorem dX2_copyFrom_43 : decode cX2_copyFrom 43 = .ok (.aload_n 0, 1) := by decide +kernel
theorem dX2_copyFrom_44 : decode cX2_copyFrom 44 = .ok (.getfield 22, 3) := by decide +kernel
theorem dX2_copyFrom_47 : decode cX2_copyFrom 47 = .ok (.iconst 0, 1) := by decide +kernel
theorem dX2_copyFrom_48 : decode cX2_copyFrom 48 = .ok (.bipush 6, 2) := by decide +kernel
theorem dX2_copyFrom_50 : decode cX2_copyFrom 50 = .ok (.invokestatic 25, 3) := by decide +kernel
theorem dX2_copyFrom_53 : decode cX2_copyFrom 53 = .ok (.return_, 1) := by decide +kernel
theorem dX2_isAsIn_0 : decode cX2_isAsIn 0 = .ok (.iconst 0, 1) := by decide +kernel
theorem dX2_isAsIn_1 : decode cX2_isAsIn 1 = .ok (.istore_n 2, 1) := by decide +kernel
theorem dX2_isAsIn_2 : decode cX2_isAsIn 2 = .ok (.iconst 0, 1) := by decide +kernel
theorem dX2_isAsIn_3 : decode cX2_isAsIn 3 = .ok (.istore_n 3, 1) := by decide +kernel
theorem dX2_isAsIn_4 : decode cX2_isAsIn 4 = .ok (.iload_n 3, 1) := by decide +kernel
theorem dX2_isAsIn_5 : decode cX2_isAsIn 5 = .ok (.aload_n 0, 1) := by decide +kernel
theorem dX2_isAsIn_6 : decode cX2_isAsIn 6 = .ok (.getfield 9, 3) := by decide +kernel
theorem dX2_isAsIn_9 : decode cX2_isAsIn 9 = .ok (.if_icmp .ge 20, 3) := by decide +kernel
theorem dX2_isAsIn_12 : decode cX2_isAsIn 12 = .ok (.iload_n 2, 1) := by decide +kernel
theorem dX2_isAsIn_13 : decode cX2_isAsIn 13 = .ok (.aload_n 0, 1) := by decide +kernel
theorem dX2_isAsIn_14 : decode cX2_isAsIn 14 = .ok (.getfield 15, 3) := by decide +kernel
theorem dX2_isAsIn_17 : decode cX2_isAsIn 17 = .ok (.iload_n 3, 1) := by decide +kernel
theorem dX2_isAsIn_18 : decode cX2_isAsIn 18 = .ok (.iaload, 1) := by decide +kernel
theorem dX2_isAsIn_19 : decode cX2_isAsIn 19 = .ok (.invokestatic 31, 3) := by decide +kernel
theorem dX2_isAsIn_22 : decode cX2_isAsIn 22 = .ok (.istore_n 2, 1) := by decide +kernel
theorem dX2_isAsIn_23 : decode cX2_isAsIn 23 = .ok (.iinc 3 1, 3) := by decide +kernel
theorem dX2_isAsIn_26 : decode cX2_isAsIn 26 = .ok (.goto (-22), 3) := by decide +kernel
theorem dX2_isAsIn_29 : decode cX2_isAsIn 29 = .ok (.iconst 0, 1) := by decide +kernel
theorem dX2_isAsIn_30 : decode cX2_isAsIn 30 = .ok (.istore_n 3, 1) := by decide +kernel
theorem dX2_isAsIn_31 : decode cX2_isAsIn 31 = .ok (.iload_n 3, 1) := by decide +kernel
theorem dX2_isAsIn_32 : decode cX2_isAsIn 32 = .ok (.iload_n 2, 1) := by decide +kernel
theorem dX2_isAsIn_33 : decode cX2_isAsIn 33 = .ok (.if_icmp .gt 69, 3) := by decide +kernel
theorem dX2_isAsIn_36 : decode cX2_isAsIn 36 = .ok (.iconst 0, 1) := by decide +kernel
theorem dX2_isAsIn_37 : decode cX2_isAsIn 37 = .ok (.istore 4, 2) := by decide +kernel
theorem dX2_isAsIn_39 : decode cX2_isAsIn 39 = .ok (.iload 4, 2) := by decide +kernel
theorem dX2_isAsIn_41 : decode cX2_isAsIn 41 = .ok (.aload_n 0, 1) := by decide +kernel
theorem dX2_isAsIn_42 : decode cX2_isAsIn 42 = .ok (.getfield 9, 3) := by decide +kernel
theorem dX2_isAsIn_45 : decode cX2_isAsIn 45 = .ok (.if_icmp .ge 43, 3) := by decide +kernel
theorem dX2_isAsIn_48 : decode cX2_isAsIn 48 = .ok (.aload_n 0, 1) := by decide +kernel
theorem dX2_isAsIn_49 : decode cX2_isAsIn 49 = .ok (.getfield 15, 3) := by decide +kernel
theorem dX2_isAsIn_52 : decode cX2_isAsIn 52 = .ok (.iload 4, 2) := by decide +kernel
theorem dX2_isAsIn_54 : decode cX2_isAsIn 54 = .ok (.iaload, 1) := by decide +kernel
theorem dX2_isAsIn_55 : decode cX2_isAsIn 55 = .ok (.iload_n 3, 1) := by decide +kernel
theorem dX2_isAsIn_56 : decode cX2_isAsIn 56 = .ok (.if_icmp .ne 26, 3) := by decide +kernel
theorem dX2_isAsIn_59 : decode cX2_isAsIn 59 = .ok (.aload_n 1, 1) := by decide +kernel
theorem dX2_isAsIn_60 : decode cX2_isAsIn 60 = .ok (.aload_n 0, 1) := by decide +kernel
theorem dX2_isAsIn_61 : decode cX2_isAsIn 61 = .ok (.getfield 19, 3) := by decide +kernel
theorem dX2_isAsIn_64 : decode cX2_isAsIn 64 = .ok (.iload 4, 2) := by decide +kernel
theorem dX2_isAsIn_66 : decode cX2_isAsIn 66 = .ok (.iaload, 1) := by decide +kernel
theorem dX2_isAsIn_67 : decode cX2_isAsIn 67 = .ok (.invokevirtual 37, 3) := by decide +kernel
theorem dX2_isAsIn_70 : decode cX2_isAsIn 70 = .ok (.aload_n 0, 1) := by decide +kernel
theorem dX2_isAsIn_71 : decode cX2_isAsIn 71 = .ok (.getfield 22, 3) := by decide +kernel
theorem dX2_isAsIn_74 : decode cX2_isAsIn 74 = .ok (.iload 4, 2) := by decide +kernel
theorem dX2_isAsIn_76 : decode cX2_isAsIn 76 = .ok (.iaload, 1) := by decide +kernel
theorem dX2_isAsIn_77 : decode cX2_isAsIn 77 = .ok (.if_icmp .eq 5, 3) := by decide +kernel
theorem dX2_isAsIn_80 : decode cX2_isAsIn 80 = .ok (.iconst 0, 1) := by decide +kernel
theorem dX2_isAsIn_81 : decode cX2_isAsIn 81 = .ok (.ireturn, 1) := by decide +kernel
theorem dX2_isAsIn_82 : decode cX2_isAsIn 82 = .ok (.iinc 4 1, 3) := by decide +kernel
theorem dX2_isAsIn_85 : decode cX2_isAsIn 85 = .ok (.goto (-46), 3) := by decide +kernel
theorem dX2_isAsIn_88 : decode cX2_isAsIn 88 = .ok (.aload_n 1, 1) := by decide +kernel
theorem dX2_isAsIn_89 : decode cX2_isAsIn 89 = .ok (.aload_n 1, 1) := by decide +kernel
theorem dX2_isAsIn_90 : decode cX2_isAsIn 90 = .ok (.invokevirtual 42, 3) := by decide +kernel
theorem dX2_isAsIn_93 : decode cX2_isAsIn 93 = .ok (.invokevirtual 46, 3) := by decide +kernel
theorem dX2_isAsIn_96 : decode cX2_isAsIn 96 = .ok (.iinc 3 1, 3) := by decide +kernel
theorem dX2_isAsIn_99 : decode cX2_isAsIn 99 = .ok (.goto (-68), 3) := by decide +kernel
theorem dX2_isAsIn_102 : decode cX2_isAsIn 102 = .ok (.iconst 1, 1) := by decide +kernel
theorem dX2_isAsIn_103 : decode cX2_isAsIn 103 = .ok (.ireturn, 1) := by decide +kernel
theorem dX3_init_0 : decode cX3_init 0 = .ok (.aload_n 0, 1) := by decide +kernel
theorem dX3_init_1 : decode cX3_init 1 = .ok (.invokespecial 3, 3) := by decide +kernel
theorem dX3_init_4 : decode cX3_init 4 = .ok (.aload_n 0, 1) := by decide +kernel
theorem dX3_init_5 : decode cX3_init 5 = .ok (.iconst 0, 1) := by decide +kernel
theorem dX3_init_6 : decode cX3_init 6 = .ok (.putfield 9, 3) := by decide +kernel
theorem dX3_init_9 : decode cX3_init 9 = .ok (.aload_n 0, 1) := by decide +kernel
theorem dX3_init_10 : decode cX3_init 10 = .ok (.bipush (-4), 2) := by decide +kernel
theorem dX3_init_12 : decode cX3_init 12 = .ok (.putfield 15, 3) := by decide +kernel
theorem dX3_init_15 : decode cX3_init 15 = .ok (.aload_n 0, 1) := by decide +kernel
theorem dX3_init_16 : decode cX3_init 16 = .ok (.bipush 40, 2) := by decide +kernel
theorem dX3_init_18 : decode cX3_init 18 = .ok (.newarray .int, 2) := by decide +kernel
theorem dX3_init_20 : decode cX3_init 20 = .ok (.putfield 18, 3) := by decide +kernel
theorem dX3_init_23 : decode cX3_init 23 = .ok (.return_, 1) := by decide +kernel
theorem dX3_renew_0 : decode cX3_renew 0 = .ok (.aload_n 0, 1) := by decide +kernel
theorem dX3_renew_1 : decode cX3_renew 1 = .ok (.iload_n 1, 1) := by decide +kernel
theorem dX3_renew_2 : decode cX3_renew 2 = .ok (.putfield 9, 3) := by decide +kernel
theorem dX3_renew_5 : decode cX3_renew 5 = .ok (.aload_n 0, 1) := by decide +kernel
theorem dX3_renew_6 : decode cX3_renew 6 = .ok (.iload_n 2, 1) := by decide +kernel
theorem dX3_renew_7 : decode cX3_renew 7 = .ok (.putfield 15, 3) := by decide +kernel
theorem dX3_renew_10 : decode cX3_renew 10 = .ok (.aload_n 0, 1) := by decide +kernel
theorem dX3_renew_11 : decode cX3_renew 11 = .ok (.getfield 18, 3) := by decide +kernel
theorem dX3_renew_14 : decode cX3_renew 14 = .ok (.iconst 0, 1) := by decide +kernel
theorem dX3_renew_15 : decode cX3_renew 15 = .ok (.invokestatic 22, 3) := by decide +kernel
theorem dX3_renew_18 : decode cX3_renew 18 = .ok (.return_, 1) := by decide +kernel
theorem dX3_faultAt_0 : decode cX3_faultAt 0 = .ok (.aload_n 0, 1) := by decide +kernel
theorem dX3_faultAt_1 : decode cX3_faultAt 1 = .ok (.getfield 15, 3) := by decide +kernel
theorem dX3_faultAt_4 : decode cX3_faultAt 4 = .ok (.bipush (-4), 2) := by decide +kernel
theorem dX3_faultAt_6 : decode cX3_faultAt 6 = .ok (.if_icmp .ne 5, 3) := by decide +kernel
theorem dX3_faultAt_9 : decode cX3_faultAt 9 = .ok (.iconst 1, 1) := by decide +kernel
theorem dX3_faultAt_10 : decode cX3_faultAt 10 = .ok (.ireturn, 1) := by decide +kernel
theorem dX3_faultAt_11 : decode cX3_faultAt 11 = .ok (.iload_n 1, 1) := by decide +kernel
theorem dX3_faultAt_12 : decode cX3_faultAt 12 = .ok (.aload_n 0, 1) := by decide +kernel
theorem dX3_faultAt_13 : decode cX3_faultAt 13 = .ok (.getfield 9, 3) := by decide +kernel
theorem dX3_faultAt_16 : decode cX3_faultAt 16 = .ok (.if_icmp .eq 5, 3) := by decide +kernel
theorem dX3_faultAt_19 : decode cX3_faultAt 19 = .ok (.iconst 3, 1) := by decide +kernel
theorem dX3_faultAt_20 : decode cX3_faultAt 20 = .ok (.ireturn, 1) := by decide +kernel
theorem dX3_faultAt_21 : decode cX3_faultAt 21 = .ok (.iload_n 2, 1) := by decide +kernel
theorem dX3_faultAt_22 : decode cX3_faultAt 22 = .ok (.ifCond .lt 13, 3) := by decide +kernel
theorem dX3_faultAt_25 : decode cX3_faultAt 25 = .ok (.iload_n 2, 1) := by decide +kernel
theorem dX3_faultAt_26 : decode cX3_faultAt 26 = .ok (.aload_n 0, 1) := by decide +kernel
theorem dX3_faultAt_27 : decode cX3_faultAt 27 = .ok (.getfield 15, 3) := by decide +kernel
theorem dX3_faultAt_30 : decode cX3_faultAt 30 = .ok (.iload_n 3, 1) := by decide +kernel
theorem dX3_faultAt_31 : decode cX3_faultAt 31 = .ok (.isub, 1) := by decide +kernel
theorem dX3_faultAt_32 : decode cX3_faultAt 32 = .ok (.if_icmp .le 7, 3) := by decide +kernel
theorem dX3_faultAt_35 : decode cX3_faultAt 35 = .ok (.iconst 2, 1) := by decide +kernel
theorem dX3_faultAt_36 : decode cX3_faultAt 36 = .ok (.goto 4, 3) := by decide +kernel
theorem dX3_faultAt_39 : decode cX3_faultAt 39 = .ok (.iconst 0, 1) := by decide +kernel
theorem dX3_faultAt_40 : decode cX3_faultAt 40 = .ok (.ireturn, 1) := by decide +kernel
theorem dX3_faultAt__0 : decode cX3_faultAt_ 0 = .ok (.aload_n 0, 1) := by decide +kernel
theorem dX3_faultAt__1 : decode cX3_faultAt_ 1 = .ok (.iload_n 1, 1) := by decide +kernel
theorem dX3_faultAt__2 : decode cX3_faultAt_ 2 = .ok (.iload_n 2, 1) := by decide +kernel
theorem dX3_faultAt__3 : decode cX3_faultAt_ 3 = .ok (.iconst 1, 1) := by decide +kernel
theorem dX3_faultAt__4 : decode cX3_faultAt_ 4 = .ok (.invokevirtual 28, 3) := by decide +kernel
theorem dX3_faultAt__7 : decode cX3_faultAt_ 7 = .ok (.ireturn, 1) := by decide +kernel
theorem dX3_put_0 : decode cX3_put 0 = .ok (.aload_n 0, 1) := by decide +kernel
theorem dX3_put_1 : decode cX3_put 1 = .ok (.getfield 9, 3) := by decide +kernel
theorem dX3_put_4 : decode cX3_put 4 = .ok (.ifCond .ne 14, 3) := by decide +kernel
theorem dX3_put_7 : decode cX3_put 7 = .ok (.aload_n 0, 1) := by decide +kernel
theorem dX3_put_8 : decode cX3_put 8 = .ok (.getfield 18, 3) := by decide +kernel
theorem dX3_put_11 : decode cX3_put 11 = .ok (.iload_n 1, 1) := by decide +kernel
theorem dX3_put_12 : decode cX3_put 12 = .ok (.iload_n 2, 1) := by decide +kernel
theorem dX3_put_13 : decode cX3_put 13 = .ok (.i2b, 1) := by decide +kernel
theorem dX3_put_14 : decode cX3_put 14 = .ok (.iastore, 1) := by decide +kernel
theorem dX3_put_15 : decode cX3_put 15 = .ok (.goto 29, 3) := by decide +kernel
theorem dX3_put_18 : decode cX3_put 18 = .ok (.aload_n 0, 1) := by decide +kernel
theorem dX3_put_19 : decode cX3_put 19 = .ok (.getfield 9, 3) := by decide +kernel
theorem dX3_put_22 : decode cX3_put 22 = .ok (.iconst 1, 1) := by decide +kernel
theorem dX3_put_23 : decode cX3_put 23 = .ok (.if_icmp .ne 14, 3) := by decide +kernel
theorem dX3_put_26 : decode cX3_put 26 = .ok (.aload_n 0, 1) := by decide +kernel
theorem dX3_put_27 : decode cX3_put 27 = .ok (.getfield 18, 3) := by decide +kernel
theorem dX3_put_30 : decode cX3_put 30 = .ok (.iload_n 1, 1) := by decide +kernel
theorem dX3_put_31 : decode cX3_put 31 = .ok (.iload_n 2, 1) := by decide +kernel
theorem dX3_put_32 : decode cX3_put 32 = .ok (.i2s, 1) := by decide +kernel
theorem dX3_put_33 : decode cX3_put 33 = .ok (.iastore, 1) := by decide +kernel
theorem dX3_put_34 : decode cX3_put 34 = .ok (.goto 10, 3) := by decide +kernel
theorem dX3_put_37 : decode cX3_put 37 = .ok (.aload_n 0, 1) := by decide +kernel
theorem dX3_put_38 : decode cX3_put 38 = .ok (.getfield 18, 3) := by decide +kernel
theorem dX3_put_41 : decode cX3_put 41 = .ok (.iload_n 1, 1) := by decide +kernel
theorem dX3_put_42 : decode cX3_put 42 = .ok (.iload_n 2, 1) := by decide +kernel
theorem dX3_put_43 : decode cX3_put 43 = .ok (.iastore, 1) := by decide +kernel
theorem dX3_put_44 : decode cX3_put 44 = .ok (.return_, 1) := by decide +kernel
theorem dX4_init_0 : decode cX4_init 0 = .ok (.aload_n 0, 1) := by decide +kernel
theorem dX4_init_1 : decode cX4_init 1 = .ok (.invokespecial 3, 3) := by decide +kernel
theorem dX4_init_4 : decode cX4_init 4 = .ok (.aload_n 0, 1) := by decide +kernel
theorem dX4_init_5 : decode cX4_init 5 = .ok (.sipush 160, 3) := by decide +kernel
theorem dX4_init_8 : decode cX4_init 8 = .ok (.newarray .byte, 2) := by decide +kernel
theorem dX4_init_10 : decode cX4_init 10 = .ok (.putfield 9, 3) := by decide +kernel
theorem dX4_init_13 : decode cX4_init 13 = .ok (.aload_n 0, 1) := by decide +kernel
theorem dX4_init_14 : decode cX4_init 14 = .ok (.iconst 0, 1) := by decide +kernel
theorem dX4_init_15 : decode cX4_init 15 = .ok (.putfield 15, 3) := by decide +kernel
theorem dX4_init_18 : decode cX4_init 18 = .ok (.aload_n 0, 1) := by decide +kernel
theorem dX4_init_19 : decode cX4_init 19 = .ok (.iconst 0, 1) := by decide +kernel
theorem dX4_init_20 : decode cX4_init 20 = .ok (.putfield 19, 3) := by decide +kernel
theorem dX4_init_23 : decode cX4_init 23 = .ok (.aload_n 0, 1) := by decide +kernel
theorem dX4_init_24 : decode cX4_init 24 = .ok (.iconst 0, 1) := by decide +kernel
theorem dX4_init_25 : decode cX4_init 25 = .ok (.putfield 22, 3) := by decide +kernel
theorem dX4_init_28 : decode cX4_init 28 = .ok (.aload_n 0, 1) := by decide +kernel
theorem dX4_init_29 : decode cX4_init 29 = .ok (.iconst 0, 1) := by decide +kernel
theorem dX4_init_30 : decode cX4_init 30 = .ok (.putfield 25, 3) := by decide +kernel
theorem dX4_init_33 : decode cX4_init 33 = .ok (.aload_n 0, 1) := by decide +kernel
theorem dX4_init_34 : decode cX4_init 34 = .ok (.iconst 0, 1) := by decide +kernel
theorem dX4_init_35 : decode cX4_init 35 = .ok (.putfield 28, 3) := by decide +kernel
theorem dX4_init_38 : decode cX4_init 38 = .ok (.return_, 1) := by decide +kernel
theorem dX4_append_0 : decode cX4_append 0 = .ok (.aload_n 0, 1) := by decide +kernel
theorem dX4_append_1 : decode cX4_append 1 = .ok (.getfield 15, 3) := by decide +kernel
theorem dX4_append_4 : decode cX4_append 4 = .ok (.sipush 160, 3) := by decide +kernel
theorem dX4_append_7 : decode cX4_append 7 = .ok (.if_icmp .lt 5, 3) := by decide +kernel
theorem dX4_append_10 : decode cX4_append 10 = .ok (.iconst 0, 1) := by decide +kernel
theorem dX4_append_11 : decode cX4_append 11 = .ok (.ireturn, 1) := by decide +kernel
theorem dX4_append_12 : decode cX4_append 12 = .ok (.aload_n 0, 1) := by decide +kernel
theorem dX4_append_13 : decode cX4_append 13 = .ok (.getfield 9, 3) := by decide +kernel
theorem dX4_append_16 : decode cX4_append 16 = .ok (.aload_n 0, 1) := by decide +kernel
theorem dX4_append_17 : decode cX4_append 17 = .ok (.getfield 15, 3) := by decide +kernel
theorem dX4_append_20 : decode cX4_append 20 = .ok (.iload_n 1, 1) := by decide +kernel
theorem dX4_append_21 : decode cX4_append 21 = .ok (.i2b, 1) := by decide +kernel
theorem dX4_append_22 : decode cX4_append 22 = .ok (.bastore, 1) := by decide +kernel
theorem dX4_append_23 : decode cX4_append 23 = .ok (.aload_n 0, 1) := by decide +kernel
theorem dX4_append_24 : decode cX4_append 24 = .ok (.dup, 1) := by decide +kernel
theorem dX4_append_25 : decode cX4_append 25 = .ok (.getfield 15, 3) := by decide +kernel
theorem dX4_append_28 : decode cX4_append 28 = .ok (.iconst 1, 1) := by decide +kernel
theorem dX4_append_29 : decode cX4_append 29 = .ok (.iadd, 1) := by decide +kernel
theorem dX4_append_30 : decode cX4_append 30 = .ok (.putfield 15, 3) := by decide +kernel
theorem dX4_append_33 : decode cX4_append 33 = .ok (.iconst 1, 1) := by decide +kernel
theorem dX4_append_34 : decode cX4_append 34 = .ok (.ireturn, 1) := by decide +kernel
theorem dX4_rewind_0 : decode cX4_rewind 0 = .ok (.aload_n 0, 1) := by decide +kernel
theorem dX4_rewind_1 : decode cX4_rewind 1 = .ok (.iconst 0, 1) := by decide +kernel
theorem dX4_rewind_2 : decode cX4_rewind 2 = .ok (.putfield 25, 3) := by decide +kernel
theorem dX4_rewind_5 : decode cX4_rewind 5 = .ok (.return_, 1) := by decide +kernel
theorem dX4_readToken_0 : decode cX4_readToken 0 = .ok (.aload_n 0, 1) := by decide +kernel
theorem dX4_readToken_1 : decode cX4_readToken 1 = .ok (.getfield 25, 3) := by decide +kernel
theorem dX4_readToken_4 : decode cX4_readToken 4 = .ok (.aload_n 0, 1) := by decide +kernel
theorem dX4_readToken_5 : decode cX4_readToken 5 = .ok (.getfield 15, 3) := by decide +kernel
theorem dX4_readToken_8 : decode cX4_readToken 8 = .ok (.if_icmp .ge 30, 3) := by decide +kernel
theorem dX4_readToken_11 : decode cX4_readToken 11 = .ok (.aload_n 0, 1) := by decide +kernel
theorem dX4_readToken_12 : decode cX4_readToken 12 = .ok (.getfield 9, 3) := by decide +kernel
theorem dX4_readToken_15 : decode cX4_readToken 15 = .ok (.aload_n 0, 1) := by decide +kernel
theorem dX4_readToken_16 : decode cX4_readToken 16 = .ok (.getfield 25, 3) := by decide +kernel
theorem dX4_readToken_19 : decode cX4_readToken 19 = .ok (.baload, 1) := by decide +kernel
theorem dX4_readToken_20 : decode cX4_readToken 20 = .ok (.bipush 32, 2) := by decide +kernel
theorem dX4_readToken_22 : decode cX4_readToken 22 = .ok (.if_icmp .ne 16, 3) := by decide +kernel
theorem dX4_readToken_25 : decode cX4_readToken 25 = .ok (.aload_n 0, 1) := by decide +kernel
theorem dX4_readToken_26 : decode cX4_readToken 26 = .ok (.dup, 1) := by decide +kernel
theorem dX4_readToken_27 : decode cX4_readToken 27 = .ok (.getfield 25, 3) := by decide +kernel
theorem dX4_readToken_30 : decode cX4_readToken 30 = .ok (.iconst 1, 1) := by decide +kernel
theorem dX4_readToken_31 : decode cX4_readToken 31 = .ok (.iadd, 1) := by decide +kernel
theorem dX4_readToken_32 : decode cX4_readToken 32 = .ok (.putfield 25, 3) := by decide +kernel
theorem dX4_readToken_35 : decode cX4_readToken 35 = .ok (.goto (-35), 3) := by decide +kernel
theorem dX4_readToken_38 : decode cX4_readToken 38 = .ok (.aload_n 0, 1) := by decide +kernel
theorem dX4_readToken_39 : decode cX4_readToken 39 = .ok (.aload_n 0, 1) := by decide +kernel
theorem dX4_readToken_40 : decode cX4_readToken 40 = .ok (.getfield 25, 3) := by decide +kernel
theorem dX4_readToken_43 : decode cX4_readToken 43 = .ok (.putfield 22, 3) := by decide +kernel
theorem dX4_readToken_46 : decode cX4_readToken 46 = .ok (.aload_n 0, 1) := by decide +kernel
theorem dX4_readToken_47 : decode cX4_readToken 47 = .ok (.getfield 22, 3) := by decide +kernel
theorem dX4_readToken_50 : decode cX4_readToken 50 = .ok (.aload_n 0, 1) := by decide +kernel
theorem dX4_readToken_51 : decode cX4_readToken 51 = .ok (.getfield 15, 3) := by decide +kernel
theorem dX4_readToken_54 : decode cX4_readToken 54 = .ok (.if_icmp .lt 11, 3) := by decide +kernel
theorem dX4_readToken_57 : decode cX4_readToken 57 = .ok (.aload_n 0, 1) := by decide +kernel
theorem dX4_readToken_58 : decode cX4_readToken 58 = .ok (.iconst 0, 1) := by decide +kernel
theorem dX4_readToken_59 : decode cX4_readToken 59 = .ok (.putfield 19, 3) := by decide +kernel
theorem dX4_readToken_62 : decode cX4_readToken 62 = .ok (.goto 80, 3) := by decide +kernel
theorem dX4_readToken_65 : decode cX4_readToken 65 = .ok (.aload_n 0, 1) := by decide +kernel
theorem dX4_readToken_66 : decode cX4_readToken 66 = .ok (.getfield 9, 3) := by decide +kernel
theorem dX4_readToken_69 : decode cX4_readToken 69 = .ok (.aload_n 0, 1) := by decide +kernel
theorem dX4_readToken_70 : decode cX4_readToken 70 = .ok (.getfield 22, 3) := by decide +kernel
theorem dX4_readToken_73 : decode cX4_readToken 73 = .ok (.baload, 1) := by decide +kernel
theorem dX4_readToken_74 : decode cX4_readToken 74 = .ok (.invokestatic 31, 3) := by decide +kernel
theorem dX4_readToken_77 : decode cX4_readToken 77 = .ok (.ifCond .eq 10, 3) := by decide +kernel
theorem dX4_readToken_80 : decode cX4_readToken 80 = .ok (.aload_n 0, 1) := by decide +kernel
theorem dX4_readToken_81 : decode cX4_readToken 81 = .ok (.invokevirtual 35, 3) := by decide +kernel
theorem dX4_readToken_84 : decode cX4_readToken 84 = .ok (.goto 58, 3) := by decide +kernel
theorem dX4_readToken_87 : decode cX4_readToken 87 = .ok (.aload_n 0, 1) := by decide +kernel
theorem dX4_readToken_88 : decode cX4_readToken 88 = .ok (.getfield 9, 3) := by decide +kernel
theorem dX4_readToken_91 : decode cX4_readToken 91 = .ok (.aload_n 0, 1) := by decide +kernel
theorem dX4_readToken_92 : decode cX4_readToken 92 = .ok (.getfield 22, 3) := by decide +kernel
theorem dX4_readToken_95 : decode cX4_readToken 95 = .ok (.baload, 1) := by decide +kernel
theorem dX4_readToken_96 : decode cX4_readToken 96 = .ok (.invokestatic 38, 3) := by decide +kernel
theorem dX4_readToken_99 : decode cX4_readToken 99 = .ok (.ifCond .eq 10, 3) := by decide +kernel
theorem dX4_readToken_102 : decode cX4_readToken 102 = .ok (.aload_n 0, 1) := by decide +kernel
theorem dX4_readToken_103 : decode cX4_readToken 103 = .ok (.invokevirtual 41, 3) := by decide +kernel
theorem dX4_readToken_106 : decode cX4_readToken 106 = .ok (.goto 36, 3) := by decide +kernel
theorem dX4_readToken_109 : decode cX4_readToken 109 = .ok (.aload_n 0, 1) := by decide +kernel
theorem dX4_readToken_110 : decode cX4_readToken 110 = .ok (.aload_n 0, 1) := by decide +kernel
theorem dX4_readToken_111 : decode cX4_readToken 111 = .ok (.getfield 9, 3) := by decide +kernel
theorem dX4_readToken_114 : decode cX4_readToken 114 = .ok (.aload_n 0, 1) := by decide +kernel
theorem dX4_readToken_115 : decode cX4_readToken 115 = .ok (.getfield 22, 3) := by decide +kernel
theorem dX4_readToken_118 : decode cX4_readToken 118 = .ok (.baload, 1) := by decide +kernel
theorem dX4_readToken_119 : decode cX4_readToken 119 = .ok (.bipush 59, 2) := by decide +kernel
theorem dX4_readToken_121 : decode cX4_readToken 121 = .ok (.if_icmp .ne 7, 3) := by decide +kernel
theorem dX4_readToken_124 : decode cX4_readToken 124 = .ok (.iconst 3, 1) := by decide +kernel
theorem dX4_readToken_125 : decode cX4_readToken 125 = .ok (.goto 4, 3) := by decide +kernel
theorem dX4_readToken_128 : decode cX4_readToken 128 = .ok (.iconst 4, 1) := by decide +kernel
theorem dX4_readToken_129 : decode cX4_readToken 129 = .ok (.putfield 19, 3) := by decide +kernel
theorem dX4_readToken_132 : decode cX4_readToken 132 = .ok (.aload_n 0, 1) := by decide +kernel
theorem dX4_readToken_133 : decode cX4_readToken 133 = .ok (.dup, 1) := by decide +kernel
theorem dX4_readToken_134 : decode cX4_readToken 134 = .ok (.getfield 25, 3) := by decide +kernel
theorem dX4_readToken_137 : decode cX4_readToken 137 = .ok (.iconst 1, 1) := by decide +kernel
theorem dX4_readToken_138 : decode cX4_readToken 138 = .ok (.iadd, 1) := by decide +kernel
theorem dX4_readToken_139 : decode cX4_readToken 139 = .ok (.putfield 25, 3) := by decide +kernel
theorem dX4_readToken_142 : decode cX4_readToken 142 = .ok (.return_, 1) := by decide +kernel
theorem dX4_readName_0 : decode cX4_readName 0 = .ok (.aload_n 0, 1) := by decide +kernel
theorem dX4_readName_1 : decode cX4_readName 1 = .ok (.iconst 1, 1) := by decide +kernel
theorem dX4_readName_2 : decode cX4_readName 2 = .ok (.putfield 19, 3) := by decide +kernel
theorem dX4_readName_5 : decode cX4_readName 5 = .ok (.aload_n 0, 1) := by decide +kernel
theorem dX4_readName_6 : decode cX4_readName 6 = .ok (.getfield 25, 3) := by decide +kernel
theorem dX4_readName_9 : decode cX4_readName 9 = .ok (.aload_n 0, 1) := by decide +kernel
theorem dX4_readName_10 : decode cX4_readName 10 = .ok (.getfield 15, 3) := by decide +kernel
theorem dX4_readName_13 : decode cX4_readName 13 = .ok (.if_icmp .ge 31, 3) := by decide +kernel
theorem dX4_readName_16 : decode cX4_readName 16 = .ok (.aload_n 0, 1) := by decide +kernel
theorem dX4_readName_17 : decode cX4_readName 17 = .ok (.getfield 9, 3) := by decide +kernel
theorem dX4_readName_20 : decode cX4_readName 20 = .ok (.aload_n 0, 1) := by decide +kernel
theorem dX4_readName_21 : decode cX4_readName 21 = .ok (.getfield 25, 3) := by decide +kernel
theorem dX4_readName_24 : decode cX4_readName 24 = .ok (.baload, 1) := by decide +kernel
theorem dX4_readName_25 : decode cX4_readName 25 = .ok (.invokestatic 31, 3) := by decide +kernel
theorem dX4_readName_28 : decode cX4_readName 28 = .ok (.ifCond .eq 16, 3) := by decide +kernel
theorem dX4_readName_31 : decode cX4_readName 31 = .ok (.aload_n 0, 1) := by decide +kernel
theorem dX4_readName_32 : decode cX4_readName 32 = .ok (.dup, 1) := by decide +kernel
theorem dX4_readName_33 : decode cX4_readName 33 = .ok (.getfield 25, 3) := by decide +kernel
theorem dX4_readName_36 : decode cX4_readName 36 = .ok (.iconst 1, 1) := by decide +kernel
theorem dX4_readName_37 : decode cX4_readName 37 = .ok (.iadd, 1) := by decide +kernel
theorem dX4_readName_38 : decode cX4_readName 38 = .ok (.putfield 25, 3) := by decide +kernel
theorem dX4_readName_41 : decode cX4_readName 41 = .ok (.goto (-36), 3) := by decide +kernel
theorem dX4_readName_44 : decode cX4_readName 44 = .ok (.return_, 1) := by decide +kernel
theorem dX4_readNumber_0 : decode cX4_readNumber 0 = .ok (.aload_n 0, 1) := by decide +kernel
theorem dX4_readNumber_1 : decode cX4_readNumber 1 = .ok (.iconst 0, 1) := by decide +kernel
theorem dX4_readNumber_2 : decode cX4_readNumber 2 = .ok (.putfield 28, 3) := by decide +kernel
theorem dX4_readNumber_5 : decode cX4_readNumber 5 = .ok (.aload_n 0, 1) := by decide +kernel
theorem dX4_readNumber_6 : decode cX4_readNumber 6 = .ok (.getfield 25, 3) := by decide +kernel
theorem dX4_readNumber_9 : decode cX4_readNumber 9 = .ok (.aload_n 0, 1) := by decide +kernel
theorem dX4_readNumber_10 : decode cX4_readNumber 10 = .ok (.getfield 15, 3) := by decide +kernel
theorem dX4_readNumber_13 : decode cX4_readNumber 13 = .ok (.if_icmp .ge 68, 3) := by decide +kernel
theorem dX4_readNumber_16 : decode cX4_readNumber 16 = .ok (.aload_n 0, 1) := by decide +kernel
theorem dX4_readNumber_17 : decode cX4_readNumber 17 = .ok (.getfield 9, 3) := by decide +kernel
theorem dX4_readNumber_20 : decode cX4_readNumber 20 = .ok (.aload_n 0, 1) := by decide +kernel
theorem dX4_readNumber_21 : decode cX4_readNumber 21 = .ok (.getfield 25, 3) := by decide +kernel
theorem dX4_readNumber_24 : decode cX4_readNumber 24 = .ok (.baload, 1) := by decide +kernel
theorem dX4_readNumber_25 : decode cX4_readNumber 25 = .ok (.invokestatic 38, 3) := by decide +kernel
theorem dX4_readNumber_28 : decode cX4_readNumber 28 = .ok (.ifCond .eq 53, 3) := by decide +kernel
theorem dX4_readNumber_31 : decode cX4_readNumber 31 = .ok (.aload_n 0, 1) := by decide +kernel
theorem dX4_readNumber_32 : decode cX4_readNumber 32 = .ok (.getfield 25, 3) := by decide +kernel
theorem dX4_readNumber_35 : decode cX4_readNumber 35 = .ok (.aload_n 0, 1) := by decide +kernel
theorem dX4_readNumber_36 : decode cX4_readNumber 36 = .ok (.getfield 22, 3) := by decide +kernel
theorem dX4_readNumber_39 : decode cX4_readNumber 39 = .ok (.isub, 1) := by decide +kernel
theorem dX4_readNumber_40 : decode cX4_readNumber 40 = .ok (.iconst 2, 1) := by decide +kernel
theorem dX4_readNumber_41 : decode cX4_readNumber 41 = .ok (.if_icmp .ge 27, 3) := by decide +kernel
theorem dX4_readNumber_44 : decode cX4_readNumber 44 = .ok (.aload_n 0, 1) := by decide +kernel
theorem dX4_readNumber_45 : decode cX4_readNumber 45 = .ok (.bipush 10, 2) := by decide +kernel
theorem dX4_readNumber_47 : decode cX4_readNumber 47 = .ok (.aload_n 0, 1) := by decide +kernel
theorem dX4_readNumber_48 : decode cX4_readNumber 48 = .ok (.getfield 28, 3) := by decide +kernel
theorem dX4_readNumber_51 : decode cX4_readNumber 51 = .ok (.imul, 1) := by decide +kernel
theorem dX4_readNumber_52 : decode cX4_readNumber 52 = .ok (.aload_n 0, 1) := by decide +kernel
theorem dX4_readNumber_53 : decode cX4_readNumber 53 = .ok (.getfield 9, 3) := by decide +kernel
theorem dX4_readNumber_56 : decode cX4_readNumber 56 = .ok (.aload_n 0, 1) := by decide +kernel
theorem dX4_readNumber_57 : decode cX4_readNumber 57 = .ok (.getfield 25, 3) := by decide +kernel
theorem dX4_readNumber_60 : decode cX4_readNumber 60 = .ok (.baload, 1) := by decide +kernel
theorem dX4_readNumber_61 : decode cX4_readNumber 61 = .ok (.iadd, 1) := by decide +kernel
theorem dX4_readNumber_62 : decode cX4_readNumber 62 = .ok (.bipush 48, 2) := by decide +kernel
theorem dX4_readNumber_64 : decode cX4_readNumber 64 = .ok (.isub, 1) := by decide +kernel
theorem dX4_readNumber_65 : decode cX4_readNumber 65 = .ok (.putfield 28, 3) := by decide +kernel
theorem dX4_readNumber_68 : decode cX4_readNumber 68 = .ok (.aload_n 0, 1) := by decide +kernel
theorem dX4_readNumber_69 : decode cX4_readNumber 69 = .ok (.dup, 1) := by decide +kernel
theorem dX4_readNumber_70 : decode cX4_readNumber 70 = .ok (.getfield 25, 3) := by decide +kernel
theorem dX4_readNumber_73 : decode cX4_readNumber 73 = .ok (.iconst 1, 1) := by decide +kernel
theorem dX4_readNumber_74 : decode cX4_readNumber 74 = .ok (.iadd, 1) := by decide +kernel
theorem dX4_readNumber_75 : decode cX4_readNumber 75 = .ok (.putfield 25, 3) := by decide +kernel
theorem dX4_readNumber_78 : decode cX4_readNumber 78 = .ok (.goto (-73), 3) := by decide +kernel
theorem dX4_readNumber_81 : decode cX4_readNumber 81 = .ok (.aload_n 0, 1) := by decide +kernel
theorem dX4_readNumber_82 : decode cX4_readNumber 82 = .ok (.aload_n 0, 1) := by decide +kernel
theorem dX4_readNumber_83 : decode cX4_readNumber 83 = .ok (.getfield 25, 3) := by decide +kernel
theorem dX4_readNumber_86 : decode cX4_readNumber 86 = .ok (.aload_n 0, 1) := by decide +kernel
theorem dX4_readNumber_87 : decode cX4_readNumber 87 = .ok (.getfield 22, 3) := by decide +kernel
theorem dX4_readNumber_90 : decode cX4_readNumber 90 = .ok (.isub, 1) := by decide +kernel
theorem dX4_readNumber_91 : decode cX4_readNumber 91 = .ok (.iconst 2, 1) := by decide +kernel
theorem dX4_readNumber_92 : decode cX4_readNumber 92 = .ok (.if_icmp .le 7, 3) := by decide +kernel
theorem dX4_readNumber_95 : decode cX4_readNumber 95 = .ok (.iconst 4, 1) := by decide +kernel
theorem dX4_readNumber_96 : decode cX4_readNumber 96 = .ok (.goto 4, 3) := by decide +kernel
theorem dX4_readNumber_99 : decode cX4_readNumber 99 = .ok (.iconst 2, 1) := by decide +kernel
theorem dX4_readNumber_100 : decode cX4_readNumber 100 = .ok (.putfield 19, 3) := by decide +kernel
theorem dX4_readNumber_103 : decode cX4_readNumber 103 = .ok (.return_, 1) := by decide +kernel
theorem dX4_isName_0 : decode cX4_isName 0 = .ok (.aload_n 0, 1) := by decide +kernel
theorem dX4_isName_1 : decode cX4_isName 1 = .ok (.getfield 19, 3) := by decide +kernel
theorem dX4_isName_4 : decode cX4_isName 4 = .ok (.iconst 1, 1) := by decide +kernel
theorem dX4_isName_5 : decode cX4_isName 5 = .ok (.if_icmp .ne 19, 3) := by decide +kernel
theorem dX4_isName_8 : decode cX4_isName 8 = .ok (.aload_n 0, 1) := by decide +kernel
theorem dX4_isName_9 : decode cX4_isName 9 = .ok (.getfield 25, 3) := by decide +kernel
theorem dX4_isName_12 : decode cX4_isName 12 = .ok (.aload_n 0, 1) := by decide +kernel
theorem dX4_isName_13 : decode cX4_isName 13 = .ok (.getfield 22, 3) := by decide +kernel
theorem dX4_isName_16 : decode cX4_isName 16 = .ok (.isub, 1) := by decide +kernel
theorem dX4_isName_17 : decode cX4_isName 17 = .ok (.aload_n 1, 1) := by decide +kernel
theorem dX4_isName_18 : decode cX4_isName 18 = .ok (.invokevirtual 44, 3) := by decide +kernel
theorem dX4_isName_21 : decode cX4_isName 21 = .ok (.if_icmp .eq 5, 3) := by decide +kernel
theorem dX4_isName_24 : decode cX4_isName 24 = .ok (.iconst 0, 1) := by decide +kernel
theorem dX4_isName_25 : decode cX4_isName 25 = .ok (.ireturn, 1) := by decide +kernel
theorem dX4_isName_26 : decode cX4_isName 26 = .ok (.iconst 0, 1) := by decide +kernel
theorem dX4_isName_27 : decode cX4_isName 27 = .ok (.istore_n 2, 1) := by decide +kernel
theorem dX4_isName_28 : decode cX4_isName 28 = .ok (.iload_n 2, 1) := by decide +kernel
theorem dX4_isName_29 : decode cX4_isName 29 = .ok (.aload_n 1, 1) := by decide +kernel
theorem dX4_isName_30 : decode cX4_isName 30 = .ok (.invokevirtual 44, 3) := by decide +kernel
theorem dX4_isName_33 : decode cX4_isName 33 = .ok (.if_icmp .ge 30, 3) := by decide +kernel
theorem dX4_isName_36 : decode cX4_isName 36 = .ok (.aload_n 0, 1) := by decide +kernel
theorem dX4_isName_37 : decode cX4_isName 37 = .ok (.getfield 9, 3) := by decide +kernel
theorem dX4_isName_40 : decode cX4_isName 40 = .ok (.aload_n 0, 1) := by decide +kernel
theorem dX4_isName_41 : decode cX4_isName 41 = .ok (.getfield 22, 3) := by decide +kernel
theorem dX4_isName_44 : decode cX4_isName 44 = .ok (.iload_n 2, 1) := by decide +kernel
theorem dX4_isName_45 : decode cX4_isName 45 = .ok (.iadd, 1) := by decide +kernel
theorem dX4_isName_46 : decode cX4_isName 46 = .ok (.baload, 1) := by decide +kernel
theorem dX4_isName_47 : decode cX4_isName 47 = .ok (.aload_n 1, 1) := by decide +kernel
theorem dX4_isName_48 : decode cX4_isName 48 = .ok (.iload_n 2, 1) := by decide +kernel
theorem dX4_isName_49 : decode cX4_isName 49 = .ok (.invokevirtual 49, 3) := by decide +kernel
theorem dX4_isName_52 : decode cX4_isName 52 = .ok (.if_icmp .eq 5, 3) := by decide +kernel
theorem dX4_isName_55 : decode cX4_isName 55 = .ok (.iconst 0, 1) := by decide +kernel
theorem dX4_isName_56 : decode cX4_isName 56 = .ok (.ireturn, 1) := by decide +kernel
theorem dX4_isName_57 : decode cX4_isName 57 = .ok (.iinc 2 1, 3) := by decide +kernel
theorem dX4_isName_60 : decode cX4_isName 60 = .ok (.goto (-32), 3) := by decide +kernel
theorem dX4_isName_63 : decode cX4_isName 63 = .ok (.iconst 1, 1) := by decide +kernel
theorem dX4_isName_64 : decode cX4_isName 64 = .ok (.ireturn, 1) := by decide +kernel
theorem dX4_isLetter_0 : decode cX4_isLetter 0 = .ok (.iload_n 0, 1) := by decide +kernel
theorem dX4_isLetter_1 : decode cX4_isLetter 1 = .ok (.bipush 97, 2) := by decide +kernel
theorem dX4_isLetter_3 : decode cX4_isLetter 3 = .ok (.if_icmp .lt 13, 3) := by decide +kernel
theorem dX4_isLetter_6 : decode cX4_isLetter 6 = .ok (.iload_n 0, 1) := by decide +kernel
theorem dX4_isLetter_7 : decode cX4_isLetter 7 = .ok (.bipush 122, 2) := by decide +kernel
theorem dX4_isLetter_9 : decode cX4_isLetter 9 = .ok (.if_icmp .gt 7, 3) := by decide +kernel
theorem dX4_isLetter_12 : decode cX4_isLetter 12 = .ok (.iconst 1, 1) := by decide +kernel
theorem dX4_isLetter_13 : decode cX4_isLetter 13 = .ok (.goto 4, 3) := by decide +kernel
theorem dX4_isLetter_16 : decode cX4_isLetter 16 = .ok (.iconst 0, 1) := by decide +kernel
theorem dX4_isLetter_17 : decode cX4_isLetter 17 = .ok (.ireturn, 1) := by decide +kernel
theorem dX4_isFigure_0 : decode cX4_isFigure 0 = .ok (.iload_n 0, 1) := by decide +kernel
theorem dX4_isFigure_1 : decode cX4_isFigure 1 = .ok (.bipush 48, 2) := by decide +kernel
theorem dX4_isFigure_3 : decode cX4_isFigure 3 = .ok (.if_icmp .lt 13, 3) := by decide +kernel
theorem dX4_isFigure_6 : decode cX4_isFigure 6 = .ok (.iload_n 0, 1) := by decide +kernel
theorem dX4_isFigure_7 : decode cX4_isFigure 7 = .ok (.bipush 57, 2) := by decide +kernel
theorem dX4_isFigure_9 : decode cX4_isFigure 9 = .ok (.if_icmp .gt 7, 3) := by decide +kernel
theorem dX4_isFigure_12 : decode cX4_isFigure 12 = .ok (.iconst 1, 1) := by decide +kernel
theorem dX4_isFigure_13 : decode cX4_isFigure 13 = .ok (.goto 4, 3) := by decide +kernel
theorem dX4_isFigure_16 : decode cX4_isFigure 16 = .ok (.iconst 0, 1) := by decide +kernel
theorem dX4_isFigure_17 : decode cX4_isFigure 17 = .ok (.ireturn, 1) := by decide +kernel
theorem dX5_init_0 : decode cX5_init 0 = .ok (.aload_n 0, 1) := by decide +kernel
theorem dX5_init_1 : decode cX5_init 1 = .ok (.invokespecial 3, 3) := by decide +kernel
theorem dX5_init_4 : decode cX5_init 4 = .ok (.aload_n 0, 1) := by decide +kernel
theorem dX5_init_5 : decode cX5_init 5 = .ok (.new 9, 3) := by decide +kernel
theorem dX5_init_8 : decode cX5_init 8 = .ok (.dup, 1) := by decide +kernel
theorem dX5_init_9 : decode cX5_init 9 = .ok (.invokespecial 11, 3) := by decide +kernel
theorem dX5_init_12 : decode cX5_init 12 = .ok (.putfield 12, 3) := by decide +kernel
theorem dX5_init_15 : decode cX5_init 15 = .ok (.aload_n 0, 1) := by decide +kernel
theorem dX5_init_16 : decode cX5_init 16 = .ok (.iconst 3, 1) := by decide +kernel
theorem dX5_init_17 : decode cX5_init 17 = .ok (.newarray .int, 2) := by decide +kernel
theorem dX5_init_19 : decode cX5_init 19 = .ok (.putfield 18, 3) := by decide +kernel
theorem dX5_init_22 : decode cX5_init 22 = .ok (.aload_n 0, 1) := by decide +kernel
theorem dX5_init_23 : decode cX5_init 23 = .ok (.iconst 0, 1) := by decide +kernel
theorem dX5_init_24 : decode cX5_init 24 = .ok (.putfield 22, 3) := by decide +kernel
theorem dX5_init_27 : decode cX5_init 27 = .ok (.aload_n 0, 1) := by decide +kernel
theorem dX5_init_28 : decode cX5_init 28 = .ok (.iconst 0, 1) := by decide +kernel
theorem dX5_init_29 : decode cX5_init 29 = .ok (.putfield 26, 3) := by decide +kernel
theorem dX5_init_32 : decode cX5_init 32 = .ok (.aload_n 0, 1) := by decide +kernel
theorem dX5_init_33 : decode cX5_init 33 = .ok (.iconst 0, 1) := by decide +kernel
theorem dX5_init_34 : decode cX5_init 34 = .ok (.putfield 29, 3) := by decide +kernel
theorem dX5_init_37 : decode cX5_init 37 = .ok (.aload_n 0, 1) := by decide +kernel
theorem dX5_init_38 : decode cX5_init 38 = .ok (.iconst 0, 1) := by decide +kernel
theorem dX5_init_39 : decode cX5_init 39 = .ok (.putfield 32, 3) := by decide +kernel
theorem dX5_init_42 : decode cX5_init 42 = .ok (.aload_n 0, 1) := by decide +kernel
theorem dX5_init_43 : decode cX5_init 43 = .ok (.aload_n 1, 1) := by decide +kernel
theorem dX5_init_44 : decode cX5_init 44 = .ok (.putfield 35, 3) := by decide +kernel
theorem dX5_init_47 : decode cX5_init 47 = .ok (.return_, 1) := by decide +kernel
theorem dX5_takeText_0 : decode cX5_takeText 0 = .ok (.aload_n 0, 1) := by decide +kernel
theorem dX5_takeText_1 : decode cX5_takeText 1 = .ok (.getfield 12, 3) := by decide +kernel
theorem dX5_takeText_4 : decode cX5_takeText 4 = .ok (.invokevirtual 39, 3) := by decide +kernel
theorem dX5_takeText_7 : decode cX5_takeText 7 = .ok (.aload_n 0, 1) := by decide +kernel
theorem dX5_takeText_8 : decode cX5_takeText 8 = .ok (.iconst 0, 1) := by decide +kernel
theorem dX5_takeText_9 : decode cX5_takeText 9 = .ok (.putfield 22, 3) := by decide +kernel
theorem dX5_takeText_12 : decode cX5_takeText 12 = .ok (.aload_n 0, 1) := by decide +kernel
theorem dX5_takeText_13 : decode cX5_takeText 13 = .ok (.iconst 0, 1) := by decide +kernel
theorem dX5_takeText_14 : decode cX5_takeText 14 = .ok (.putfield 26, 3) := by decide +kernel
theorem dX5_takeText_17 : decode cX5_takeText 17 = .ok (.aload_n 0, 1) := by decide +kernel
theorem dX5_takeText_18 : decode cX5_takeText 18 = .ok (.iconst 0, 1) := by decide +kernel
theorem dX5_takeText_19 : decode cX5_takeText 19 = .ok (.putfield 29, 3) := by decide +kernel
theorem dX5_takeText_22 : decode cX5_takeText 22 = .ok (.aload_n 0, 1) := by decide +kernel
theorem dX5_takeText_23 : decode cX5_takeText 23 = .ok (.getfield 35, 3) := by decide +kernel
theorem dX5_takeText_26 : decode cX5_takeText 26 = .ok (.invokevirtual 42, 3) := by decide +kernel
theorem dX5_takeText_29 : decode cX5_takeText 29 = .ok (.aload_n 0, 1) := by decide +kernel
theorem dX5_takeText_30 : decode cX5_takeText 30 = .ok (.getfield 35, 3) := by decide +kernel
theorem dX5_takeText_33 : decode cX5_takeText 33 = .ok (.invokevirtual 47, 3) := by decide +kernel
theorem dX5_takeText_36 : decode cX5_takeText 36 = .ok (.iconst 0, 1) := by decide +kernel
theorem dX5_takeText_37 : decode cX5_takeText 37 = .ok (.istore_n 1, 1) := by decide +kernel
theorem dX5_takeText_38 : decode cX5_takeText 38 = .ok (.iload_n 1, 1) := by decide +kernel
theorem dX5_takeText_39 : decode cX5_takeText 39 = .ok (.sipush 160, 3) := by decide +kernel
theorem dX5_takeText_42 : decode cX5_takeText 42 = .ok (.if_icmp .ge 45, 3) := by decide +kernel
theorem dX5_takeText_45 : decode cX5_takeText 45 = .ok (.aload_n 0, 1) := by decide +kernel
theorem dX5_takeText_46 : decode cX5_takeText 46 = .ok (.getfield 35, 3) := by decide +kernel
theorem dX5_takeText_49 : decode cX5_takeText 49 = .ok (.getfield 50, 3) := by decide +kernel
theorem dX5_takeText_52 : decode cX5_takeText 52 = .ok (.ifCond .eq 35, 3) := by decide +kernel
theorem dX5_takeText_55 : decode cX5_takeText 55 = .ok (.aload_n 0, 1) := by decide +kernel
theorem dX5_takeText_56 : decode cX5_takeText 56 = .ok (.invokevirtual 53, 3) := by decide +kernel
theorem dX5_takeText_59 : decode cX5_takeText 59 = .ok (.ifCond .ne 5, 3) := by decide +kernel
theorem dX5_takeText_62 : decode cX5_takeText 62 = .ok (.iconst 0, 1) := by decide +kernel
theorem dX5_takeText_63 : decode cX5_takeText 63 = .ok (.ireturn, 1) := by decide +kernel
theorem dX5_takeText_64 : decode cX5_takeText 64 = .ok (.aload_n 0, 1) := by decide +kernel
theorem dX5_takeText_65 : decode cX5_takeText 65 = .ok (.dup, 1) := by decide +kernel
theorem dX5_takeText_66 : decode cX5_takeText 66 = .ok (.getfield 26, 3) := by decide +kernel
theorem dX5_takeText_69 : decode cX5_takeText 69 = .ok (.iconst 1, 1) := by decide +kernel
theorem dX5_takeText_70 : decode cX5_takeText 70 = .ok (.iadd, 1) := by decide +kernel
theorem dX5_takeText_71 : decode cX5_takeText 71 = .ok (.putfield 26, 3) := by decide +kernel
theorem dX5_takeText_74 : decode cX5_takeText 74 = .ok (.aload_n 0, 1) := by decide +kernel
theorem dX5_takeText_75 : decode cX5_takeText 75 = .ok (.getfield 35, 3) := by decide +kernel
theorem dX5_takeText_78 : decode cX5_takeText 78 = .ok (.invokevirtual 47, 3) := by decide +kernel
theorem dX5_takeText_81 : decode cX5_takeText 81 = .ok (.iinc 1 1, 3) := by decide +kernel
theorem dX5_takeText_84 : decode cX5_takeText 84 = .ok (.goto (-46), 3) := by decide +kernel
theorem dX5_takeText_87 : decode cX5_takeText 87 = .ok (.aload_n 0, 1) := by decide +kernel
theorem dX5_takeText_88 : decode cX5_takeText 88 = .ok (.invokevirtual 57, 3) := by decide +kernel
theorem dX5_takeText_91 : decode cX5_takeText 91 = .ok (.ifCond .ne 12, 3) := by decide +kernel
theorem dX5_takeText_94 : decode cX5_takeText 94 = .ok (.aload_n 0, 1) := by decide +kernel
theorem dX5_takeText_95 : decode cX5_takeText 95 = .ok (.bipush 6, 2) := by decide +kernel
theorem dX5_takeText_97 : decode cX5_takeText 97 = .ok (.invokevirtual 60, 3) := by decide +kernel
theorem dX5_takeText_100 : decode cX5_takeText 100 = .ok (.ifCond .eq 7, 3) := by decide +kernel
theorem dX5_takeText_103 : decode cX5_takeText 103 = .ok (.iconst 1, 1) := by decide +kernel
theorem dX5_takeText_104 : decode cX5_takeText 104 = .ok (.goto 4, 3) := by decide +kernel
theorem dX5_takeText_107 : decode cX5_takeText 107 = .ok (.iconst 0, 1) := by decide +kernel
theorem dX5_takeText_108 : decode cX5_takeText 108 = .ok (.ireturn, 1) := by decide +kernel
theorem dX5_takeLine_0 : decode cX5_takeLine 0 = .ok (.aload_n 0, 1) := by decide +kernel
theorem dX5_takeLine_1 : decode cX5_takeLine 1 = .ok (.iconst 1, 1) := by decide +kernel
theorem dX5_takeLine_2 : decode cX5_takeLine 2 = .ok (.invokevirtual 64, 3) := by decide +kernel
theorem dX5_takeLine_5 : decode cX5_takeLine 5 = .ok (.ifCond .ne 5, 3) := by decide +kernel
theorem dX5_takeLine_8 : decode cX5_takeLine 8 = .ok (.iconst 0, 1) := by decide +kernel
theorem dX5_takeLine_9 : decode cX5_takeLine 9 = .ok (.ireturn, 1) := by decide +kernel
theorem dX5_takeLine_10 : decode cX5_takeLine 10 = .ok (.aload_n 0, 1) := by decide +kernel
theorem dX5_takeLine_11 : decode cX5_takeLine 11 = .ok (.invokevirtual 67, 3) := by decide +kernel
theorem dX5_takeLine_14 : decode cX5_takeLine 14 = .ok (.istore_n 1, 1) := by decide +kernel
theorem dX5_takeLine_15 : decode cX5_takeLine 15 = .ok (.iload_n 1, 1) := by decide +kernel
theorem dX5_takeLine_16 : decode cX5_takeLine 16 = .ok (.bipush 6, 2) := by decide +kernel
theorem dX5_takeLine_18 : decode cX5_takeLine 18 = .ok (.if_icmp .ne 9, 3) := by decide +kernel
theorem dX5_takeLine_21 : decode cX5_takeLine 21 = .ok (.aload_n 0, 1) := by decide +kernel
theorem dX5_takeLine_22 : decode cX5_takeLine 22 = .ok (.iconst 2, 1) := by decide +kernel
theorem dX5_takeLine_23 : decode cX5_takeLine 23 = .ok (.invokevirtual 60, 3) := by decide +kernel
theorem dX5_takeLine_26 : decode cX5_takeLine 26 = .ok (.ireturn, 1) := by decide +kernel
theorem dX5_takeLine_27 : decode cX5_takeLine 27 = .ok (.aload_n 0, 1) := by decide +kernel
theorem dX5_takeLine_28 : decode cX5_takeLine 28 = .ok (.iload_n 1, 1) := by decide +kernel
theorem dX5_takeLine_29 : decode cX5_takeLine 29 = .ok (.invokevirtual 71, 3) := by decide +kernel
theorem dX5_takeLine_32 : decode cX5_takeLine 32 = .ok (.ifCond .ne 9, 3) := by decide +kernel
theorem dX5_takeLine_35 : decode cX5_takeLine 35 = .ok (.aload_n 0, 1) := by decide +kernel
theorem dX5_takeLine_36 : decode cX5_takeLine 36 = .ok (.iconst 5, 1) := by decide +kernel
theorem dX5_takeLine_37 : decode cX5_takeLine 37 = .ok (.invokevirtual 60, 3) := by decide +kernel
theorem dX5_takeLine_40 : decode cX5_takeLine 40 = .ok (.ireturn, 1) := by decide +kernel
theorem dX5_takeLine_41 : decode cX5_takeLine 41 = .ok (.iconst 0, 1) := by decide +kernel
theorem dX5_takeLine_42 : decode cX5_takeLine 42 = .ok (.istore_n 2, 1) := by decide +kernel
theorem dX5_takeLine_43 : decode cX5_takeLine 43 = .ok (.iload_n 2, 1) := by decide +kernel
theorem dX5_takeLine_44 : decode cX5_takeLine 44 = .ok (.iload_n 1, 1) := by decide +kernel
theorem dX5_takeLine_45 : decode cX5_takeLine 45 = .ok (.invokestatic 74, 3) := by decide +kernel
theorem dX5_takeLine_48 : decode cX5_takeLine 48 = .ok (.if_icmp .ge 20, 3) := by decide +kernel
theorem dX5_takeLine_51 : decode cX5_takeLine 51 = .ok (.aload_n 0, 1) := by decide +kernel
theorem dX5_takeLine_52 : decode cX5_takeLine 52 = .ok (.iload_n 1, 1) := by decide +kernel
theorem dX5_takeLine_53 : decode cX5_takeLine 53 = .ok (.iload_n 2, 1) := by decide +kernel
theorem dX5_takeLine_54 : decode cX5_takeLine 54 = .ok (.invokevirtual 78, 3) := by decide +kernel
theorem dX5_takeLine_57 : decode cX5_takeLine 57 = .ok (.ifCond .ne 5, 3) := by decide +kernel
theorem dX5_takeLine_60 : decode cX5_takeLine 60 = .ok (.iconst 0, 1) := by decide +kernel
theorem dX5_takeLine_61 : decode cX5_takeLine 61 = .ok (.ireturn, 1) := by decide +kernel
theorem dX5_takeLine_62 : decode cX5_takeLine 62 = .ok (.iinc 2 1, 3) := by decide +kernel
theorem dX5_takeLine_65 : decode cX5_takeLine 65 = .ok (.goto (-22), 3) := by decide +kernel
theorem dX5_takeLine_68 : decode cX5_takeLine 68 = .ok (.aload_n 0, 1) := by decide +kernel
theorem dX5_takeLine_69 : decode cX5_takeLine 69 = .ok (.getfield 35, 3) := by decide +kernel
theorem dX5_takeLine_72 : decode cX5_takeLine 72 = .ok (.invokevirtual 47, 3) := by decide +kernel
theorem dX5_takeLine_75 : decode cX5_takeLine 75 = .ok (.aload_n 0, 1) := by decide +kernel
theorem dX5_takeLine_76 : decode cX5_takeLine 76 = .ok (.iconst 3, 1) := by decide +kernel
theorem dX5_takeLine_77 : decode cX5_takeLine 77 = .ok (.invokevirtual 64, 3) := by decide +kernel
theorem dX5_takeLine_80 : decode cX5_takeLine 80 = .ok (.ifCond .ne 5, 3) := by decide +kernel
theorem dX5_takeLine_83 : decode cX5_takeLine 83 = .ok (.iconst 0, 1) := by decide +kernel
theorem dX5_takeLine_84 : decode cX5_takeLine 84 = .ok (.ireturn, 1) := by decide +kernel
theorem dX5_takeLine_85 : decode cX5_takeLine 85 = .ok (.aload_n 0, 1) := by decide +kernel
theorem dX5_takeLine_86 : decode cX5_takeLine 86 = .ok (.iload_n 1, 1) := by decide +kernel
theorem dX5_takeLine_87 : decode cX5_takeLine 87 = .ok (.invokevirtual 82, 3) := by decide +kernel
theorem dX5_takeLine_90 : decode cX5_takeLine 90 = .ok (.iconst 1, 1) := by decide +kernel
theorem dX5_takeLine_91 : decode cX5_takeLine 91 = .ok (.ireturn, 1) := by decide +kernel
theorem dX5_takeNumber_0 : decode cX5_takeNumber 0 = .ok (.aload_n 0, 1) := by decide +kernel
theorem dX5_takeNumber_1 : decode cX5_takeNumber 1 = .ok (.getfield 35, 3) := by decide +kernel
theorem dX5_takeNumber_4 : decode cX5_takeNumber 4 = .ok (.invokevirtual 47, 3) := by decide +kernel
theorem dX5_takeNumber_7 : decode cX5_takeNumber 7 = .ok (.aload_n 0, 1) := by decide +kernel
theorem dX5_takeNumber_8 : decode cX5_takeNumber 8 = .ok (.iconst 2, 1) := by decide +kernel
theorem dX5_takeNumber_9 : decode cX5_takeNumber 9 = .ok (.invokevirtual 64, 3) := by decide +kernel
theorem dX5_takeNumber_12 : decode cX5_takeNumber 12 = .ok (.ifCond .ne 5, 3) := by decide +kernel
theorem dX5_takeNumber_15 : decode cX5_takeNumber 15 = .ok (.iconst 0, 1) := by decide +kernel
theorem dX5_takeNumber_16 : decode cX5_takeNumber 16 = .ok (.ireturn, 1) := by decide +kernel
theorem dX5_takeNumber_17 : decode cX5_takeNumber 17 = .ok (.aload_n 0, 1) := by decide +kernel
theorem dX5_takeNumber_18 : decode cX5_takeNumber 18 = .ok (.getfield 35, 3) := by decide +kernel
theorem dX5_takeNumber_21 : decode cX5_takeNumber 21 = .ok (.getfield 86, 3) := by decide +kernel
theorem dX5_takeNumber_24 : decode cX5_takeNumber 24 = .ok (.iload_n 1, 1) := by decide +kernel
theorem dX5_takeNumber_25 : decode cX5_takeNumber 25 = .ok (.iload_n 2, 1) := by decide +kernel
theorem dX5_takeNumber_26 : decode cX5_takeNumber 26 = .ok (.invokestatic 89, 3) := by decide +kernel
theorem dX5_takeNumber_29 : decode cX5_takeNumber 29 = .ok (.iload_n 1, 1) := by decide +kernel
theorem dX5_takeNumber_30 : decode cX5_takeNumber 30 = .ok (.iload_n 2, 1) := by decide +kernel
theorem dX5_takeNumber_31 : decode cX5_takeNumber 31 = .ok (.invokestatic 93, 3) := by decide +kernel
theorem dX5_takeNumber_34 : decode cX5_takeNumber 34 = .ok (.invokestatic 96, 3) := by decide +kernel
theorem dX5_takeNumber_37 : decode cX5_takeNumber 37 = .ok (.ifCond .ne 9, 3) := by decide +kernel
theorem dX5_takeNumber_40 : decode cX5_takeNumber 40 = .ok (.aload_n 0, 1) := by decide +kernel
theorem dX5_takeNumber_41 : decode cX5_takeNumber 41 = .ok (.iconst 3, 1) := by decide +kernel
theorem dX5_takeNumber_42 : decode cX5_takeNumber 42 = .ok (.invokevirtual 60, 3) := by decide +kernel
theorem dX5_takeNumber_45 : decode cX5_takeNumber 45 = .ok (.ireturn, 1) := by decide +kernel
theorem dX5_takeNumber_46 : decode cX5_takeNumber 46 = .ok (.iload_n 1, 1) := by decide +kernel
theorem dX5_takeNumber_47 : decode cX5_takeNumber 47 = .ok (.iconst 5, 1) := by decide +kernel
theorem dX5_takeNumber_48 : decode cX5_takeNumber 48 = .ok (.if_icmp .ne 31, 3) := by decide +kernel
theorem dX5_takeNumber_51 : decode cX5_takeNumber 51 = .ok (.iload_n 2, 1) := by decide +kernel
theorem dX5_takeNumber_52 : decode cX5_takeNumber 52 = .ok (.ifCond .ne 27, 3) := by decide +kernel
theorem dX5_takeNumber_55 : decode cX5_takeNumber 55 = .ok (.aload_n 0, 1) := by decide +kernel
theorem dX5_takeNumber_56 : decode cX5_takeNumber 56 = .ok (.getfield 22, 3) := by decide +kernel
theorem dX5_takeNumber_59 : decode cX5_takeNumber 59 = .ok (.aload_n 0, 1) := by decide +kernel
theorem dX5_takeNumber_60 : decode cX5_takeNumber 60 = .ok (.getfield 35, 3) := by decide +kernel
theorem dX5_takeNumber_63 : decode cX5_takeNumber 63 = .ok (.getfield 86, 3) := by decide +kernel
theorem dX5_takeNumber_66 : decode cX5_takeNumber 66 = .ok (.ishr, 1) := by decide +kernel
theorem dX5_takeNumber_67 : decode cX5_takeNumber 67 = .ok (.iconst 1, 1) := by decide +kernel
theorem dX5_takeNumber_68 : decode cX5_takeNumber 68 = .ok (.iand, 1) := by decide +kernel
theorem dX5_takeNumber_69 : decode cX5_takeNumber 69 = .ok (.iconst 1, 1) := by decide +kernel
theorem dX5_takeNumber_70 : decode cX5_takeNumber 70 = .ok (.if_icmp .ne 9, 3) := by decide +kernel
theorem dX5_takeNumber_73 : decode cX5_takeNumber 73 = .ok (.aload_n 0, 1) := by decide +kernel
theorem dX5_takeNumber_74 : decode cX5_takeNumber 74 = .ok (.iconst 4, 1) := by decide +kernel
theorem dX5_takeNumber_75 : decode cX5_takeNumber 75 = .ok (.invokevirtual 60, 3) := by decide +kernel
theorem dX5_takeNumber_78 : decode cX5_takeNumber 78 = .ok (.ireturn, 1) := by decide +kernel
theorem dX5_takeNumber_79 : decode cX5_takeNumber 79 = .ok (.aload_n 0, 1) := by decide +kernel
theorem dX5_takeNumber_80 : decode cX5_takeNumber 80 = .ok (.getfield 18, 3) := by decide +kernel
theorem dX5_takeNumber_83 : decode cX5_takeNumber 83 = .ok (.iload_n 2, 1) := by decide +kernel
theorem dX5_takeNumber_84 : decode cX5_takeNumber 84 = .ok (.aload_n 0, 1) := by decide +kernel
theorem dX5_takeNumber_85 : decode cX5_takeNumber 85 = .ok (.getfield 35, 3) := by decide +kernel
theorem dX5_takeNumber_88 : decode cX5_takeNumber 88 = .ok (.getfield 86, 3) := by decide +kernel
theorem dX5_takeNumber_91 : decode cX5_takeNumber 91 = .ok (.iastore, 1) := by decide +kernel
theorem dX5_takeNumber_92 : decode cX5_takeNumber 92 = .ok (.iconst 1, 1) := by decide +kernel
theorem dX5_takeNumber_93 : decode cX5_takeNumber 93 = .ok (.ireturn, 1) := by decide +kernel
theorem dX5_take_0 : decode cX5_take 0 = .ok (.iload_n 1, 1) := by decide +kernel
theorem dX5_take_1 : decode cX5_take 1 = .ok (.iconst 4, 1) := by decide +kernel
theorem dX5_take_2 : decode cX5_take 2 = .ok (.if_icmp .ne 19, 3) := by decide +kernel
theorem dX5_take_5 : decode cX5_take 5 = .ok (.aload_n 0, 1) := by decide +kernel
theorem dX5_take_6 : decode cX5_take 6 = .ok (.getfield 12, 3) := by decide +kernel
theorem dX5_take_9 : decode cX5_take 9 = .ok (.aload_n 0, 1) := by decide +kernel
theorem dX5_take_10 : decode cX5_take 10 = .ok (.getfield 18, 3) := by decide +kernel
theorem dX5_take_13 : decode cX5_take 13 = .ok (.iconst 0, 1) := by decide +kernel
theorem dX5_take_14 : decode cX5_take 14 = .ok (.iaload, 1) := by decide +kernel
theorem dX5_take_15 : decode cX5_take 15 = .ok (.invokevirtual 100, 3) := by decide +kernel
theorem dX5_take_18 : decode cX5_take 18 = .ok (.goto 74, 3) := by decide +kernel
theorem dX5_take_21 : decode cX5_take 21 = .ok (.iload_n 1, 1) := by decide +kernel
theorem dX5_take_22 : decode cX5_take 22 = .ok (.iconst 5, 1) := by decide +kernel
theorem dX5_take_23 : decode cX5_take 23 = .ok (.if_icmp .ne 43, 3) := by decide +kernel
theorem dX5_take_26 : decode cX5_take 26 = .ok (.aload_n 0, 1) := by decide +kernel
theorem dX5_take_27 : decode cX5_take 27 = .ok (.getfield 12, 3) := by decide +kernel
theorem dX5_take_30 : decode cX5_take 30 = .ok (.getfield 103, 3) := by decide +kernel
theorem dX5_take_33 : decode cX5_take 33 = .ok (.aload_n 0, 1) := by decide +kernel
theorem dX5_take_34 : decode cX5_take 34 = .ok (.getfield 18, 3) := by decide +kernel
theorem dX5_take_37 : decode cX5_take 37 = .ok (.iconst 0, 1) := by decide +kernel
theorem dX5_take_38 : decode cX5_take 38 = .ok (.iaload, 1) := by decide +kernel
theorem dX5_take_39 : decode cX5_take 39 = .ok (.aload_n 0, 1) := by decide +kernel
theorem dX5_take_40 : decode cX5_take 40 = .ok (.getfield 18, 3) := by decide +kernel
theorem dX5_take_43 : decode cX5_take 43 = .ok (.iconst 1, 1) := by decide +kernel
theorem dX5_take_44 : decode cX5_take 44 = .ok (.iaload, 1) := by decide +kernel
theorem dX5_take_45 : decode cX5_take 45 = .ok (.iastore, 1) := by decide +kernel
theorem dX5_take_46 : decode cX5_take 46 = .ok (.aload_n 0, 1) := by decide +kernel
theorem dX5_take_47 : decode cX5_take 47 = .ok (.dup, 1) := by decide +kernel
theorem dX5_take_48 : decode cX5_take 48 = .ok (.getfield 22, 3) := by decide +kernel
theorem dX5_take_51 : decode cX5_take 51 = .ok (.iconst 1, 1) := by decide +kernel
theorem dX5_take_52 : decode cX5_take 52 = .ok (.aload_n 0, 1) := by decide +kernel
theorem dX5_take_53 : decode cX5_take 53 = .ok (.getfield 18, 3) := by decide +kernel
theorem dX5_take_56 : decode cX5_take 56 = .ok (.iconst 0, 1) := by decide +kernel
theorem dX5_take_57 : decode cX5_take 57 = .ok (.iaload, 1) := by decide +kernel
theorem dX5_take_58 : decode cX5_take 58 = .ok (.ishl, 1) := by decide +kernel
theorem dX5_take_59 : decode cX5_take 59 = .ok (.ior, 1) := by decide +kernel
theorem dX5_take_60 : decode cX5_take 60 = .ok (.putfield 22, 3) := by decide +kernel
theorem dX5_take_63 : decode cX5_take 63 = .ok (.goto 29, 3) := by decide +kernel
theorem dX5_take_66 : decode cX5_take 66 = .ok (.aload_n 0, 1) := by decide +kernel
theorem dX5_take_67 : decode cX5_take 67 = .ok (.getfield 12, 3) := by decide +kernel
theorem dX5_take_70 : decode cX5_take 70 = .ok (.iload_n 1, 1) := by decide +kernel
theorem dX5_take_71 : decode cX5_take 71 = .ok (.aload_n 0, 1) := by decide +kernel
theorem dX5_take_72 : decode cX5_take 72 = .ok (.getfield 18, 3) := by decide +kernel
theorem dX5_take_75 : decode cX5_take 75 = .ok (.iconst 0, 1) := by decide +kernel
theorem dX5_take_76 : decode cX5_take 76 = .ok (.iaload, 1) := by decide +kernel
theorem dX5_take_77 : decode cX5_take 77 = .ok (.aload_n 0, 1) := by decide +kernel
theorem dX5_take_78 : decode cX5_take 78 = .ok (.getfield 18, 3) := by decide +kernel
theorem dX5_take_81 : decode cX5_take 81 = .ok (.iconst 1, 1) := by decide +kernel
theorem dX5_take_82 : decode cX5_take 82 = .ok (.iaload, 1) := by decide +kernel
theorem dX5_take_83 : decode cX5_take 83 = .ok (.aload_n 0, 1) := by decide +kernel
theorem dX5_take_84 : decode cX5_take 84 = .ok (.getfield 18, 3) := by decide +kernel
theorem dX5_take_87 : decode cX5_take 87 = .ok (.iconst 2, 1) := by decide +kernel
theorem dX5_take_88 : decode cX5_take 88 = .ok (.iaload, 1) := by decide +kernel
theorem dX5_take_89 : decode cX5_take 89 = .ok (.invokevirtual 106, 3) := by decide +kernel
theorem dX5_take_92 : decode cX5_take 92 = .ok (.return_, 1) := by decide +kernel
theorem dX5_lineNamed_0 : decode cX5_lineNamed 0 = .ok (.aload_n 0, 1) := by decide +kernel
theorem dX5_lineNamed_1 : decode cX5_lineNamed 1 = .ok (.getfield 35, 3) := by decide +kernel
theorem dX5_lineNamed_4 : decode cX5_lineNamed 4 = .ok (.ldc 110, 2) := by decide +kernel
theorem dX5_lineNamed_6 : decode cX5_lineNamed 6 = .ok (.invokevirtual 112, 3) := by decide +kernel
theorem dX5_lineNamed_9 : decode cX5_lineNamed 9 = .ok (.ifCond .eq 5, 3) := by decide +kernel
theorem dX5_lineNamed_12 : decode cX5_lineNamed 12 = .ok (.iconst 4, 1) := by decide +kernel
theorem dX5_lineNamed_13 : decode cX5_lineNamed 13 = .ok (.ireturn, 1) := by decide +kernel
theorem dX5_lineNamed_14 : decode cX5_lineNamed 14 = .ok (.aload_n 0, 1) := by decide +kernel
theorem dX5_lineNamed_15 : decode cX5_lineNamed 15 = .ok (.getfield 35, 3) := by decide +kernel
theorem dX5_lineNamed_18 : decode cX5_lineNamed 18 = .ok (.ldc 116, 2) := by decide +kernel
theorem dX5_lineNamed_20 : decode cX5_lineNamed 20 = .ok (.invokevirtual 112, 3) := by decide +kernel
theorem dX5_lineNamed_23 : decode cX5_lineNamed 23 = .ok (.ifCond .eq 5, 3) := by decide +kernel
theorem dX5_lineNamed_26 : decode cX5_lineNamed 26 = .ok (.iconst 0, 1) := by decide +kernel
theorem dX5_lineNamed_27 : decode cX5_lineNamed 27 = .ok (.ireturn, 1) := by decide +kernel
theorem dX5_lineNamed_28 : decode cX5_lineNamed 28 = .ok (.aload_n 0, 1) := by decide +kernel
theorem dX5_lineNamed_29 : decode cX5_lineNamed 29 = .ok (.getfield 35, 3) := by decide +kernel
theorem dX5_lineNamed_32 : decode cX5_lineNamed 32 = .ok (.ldc 118, 2) := by decide +kernel
theorem dX5_lineNamed_34 : decode cX5_lineNamed 34 = .ok (.invokevirtual 112, 3) := by decide +kernel
theorem dX5_lineNamed_37 : decode cX5_lineNamed 37 = .ok (.ifCond .eq 5, 3) := by decide +kernel
theorem dX5_lineNamed_40 : decode cX5_lineNamed 40 = .ok (.iconst 1, 1) := by decide +kernel
theorem dX5_lineNamed_41 : decode cX5_lineNamed 41 = .ok (.ireturn, 1) := by decide +kernel
theorem dX5_lineNamed_42 : decode cX5_lineNamed 42 = .ok (.aload_n 0, 1) := by decide +kernel
theorem dX5_lineNamed_43 : decode cX5_lineNamed 43 = .ok (.getfield 35, 3) := by decide +kernel
theorem dX5_lineNamed_46 : decode cX5_lineNamed 46 = .ok (.ldc 120, 2) := by decide +kernel
theorem dX5_lineNamed_48 : decode cX5_lineNamed 48 = .ok (.invokevirtual 112, 3) := by decide +kernel
theorem dX5_lineNamed_51 : decode cX5_lineNamed 51 = .ok (.ifCond .eq 5, 3) := by decide +kernel
theorem dX5_lineNamed_54 : decode cX5_lineNamed 54 = .ok (.iconst 2, 1) := by decide +kernel
theorem dX5_lineNamed_55 : decode cX5_lineNamed 55 = .ok (.ireturn, 1) := by decide +kernel
theorem dX5_lineNamed_56 : decode cX5_lineNamed 56 = .ok (.aload_n 0, 1) := by decide +kernel
theorem dX5_lineNamed_57 : decode cX5_lineNamed 57 = .ok (.getfield 35, 3) := by decide +kernel
theorem dX5_lineNamed_60 : decode cX5_lineNamed 60 = .ok (.ldc 122, 2) := by decide +kernel
theorem dX5_lineNamed_62 : decode cX5_lineNamed 62 = .ok (.invokevirtual 112, 3) := by decide +kernel
theorem dX5_lineNamed_65 : decode cX5_lineNamed 65 = .ok (.ifCond .eq 5, 3) := by decide +kernel
theorem dX5_lineNamed_68 : decode cX5_lineNamed 68 = .ok (.iconst 3, 1) := by decide +kernel
theorem dX5_lineNamed_69 : decode cX5_lineNamed 69 = .ok (.ireturn, 1) := by decide +kernel
theorem dX5_lineNamed_70 : decode cX5_lineNamed 70 = .ok (.aload_n 0, 1) := by decide +kernel
theorem dX5_lineNamed_71 : decode cX5_lineNamed 71 = .ok (.getfield 35, 3) := by decide +kernel
theorem dX5_lineNamed_74 : decode cX5_lineNamed 74 = .ok (.ldc 124, 2) := by decide +kernel
theorem dX5_lineNamed_76 : decode cX5_lineNamed 76 = .ok (.invokevirtual 112, 3) := by decide +kernel
theorem dX5_lineNamed_79 : decode cX5_lineNamed 79 = .ok (.ifCond .eq 7, 3) := by decide +kernel
theorem dX5_lineNamed_82 : decode cX5_lineNamed 82 = .ok (.iconst 5, 1) := by decide +kernel
theorem dX5_lineNamed_83 : decode cX5_lineNamed 83 = .ok (.goto 5, 3) := by decide +kernel
theorem dX5_lineNamed_86 : decode cX5_lineNamed 86 = .ok (.bipush 6, 2) := by decide +kernel
theorem dX5_lineNamed_88 : decode cX5_lineNamed 88 = .ok (.ireturn, 1) := by decide +kernel
theorem dX5_hasRoomFor_0 : decode cX5_hasRoomFor 0 = .ok (.iload_n 1, 1) := by decide +kernel
theorem dX5_hasRoomFor_1 : decode cX5_hasRoomFor 1 = .ok (.iconst 5, 1) := by decide +kernel
theorem dX5_hasRoomFor_2 : decode cX5_hasRoomFor 2 = .ok (.if_icmp .ne 5, 3) := by decide +kernel
theorem dX5_hasRoomFor_5 : decode cX5_hasRoomFor 5 = .ok (.iconst 1, 1) := by decide +kernel
theorem dX5_hasRoomFor_6 : decode cX5_hasRoomFor 6 = .ok (.ireturn, 1) := by decide +kernel
theorem dX5_hasRoomFor_7 : decode cX5_hasRoomFor 7 = .ok (.iload_n 1, 1) := by decide +kernel
theorem dX5_hasRoomFor_8 : decode cX5_hasRoomFor 8 = .ok (.iconst 4, 1) := by decide +kernel
theorem dX5_hasRoomFor_9 : decode cX5_hasRoomFor 9 = .ok (.if_icmp .ne 13, 3) := by decide +kernel
theorem dX5_hasRoomFor_12 : decode cX5_hasRoomFor 12 = .ok (.aload_n 0, 1) := by decide +kernel
theorem dX5_hasRoomFor_13 : decode cX5_hasRoomFor 13 = .ok (.getfield 12, 3) := by decide +kernel
theorem dX5_hasRoomFor_16 : decode cX5_hasRoomFor 16 = .ok (.invokevirtual 125, 3) := by decide +kernel
theorem dX5_hasRoomFor_19 : decode cX5_hasRoomFor 19 = .ok (.goto 10, 3) := by decide +kernel
theorem dX5_hasRoomFor_22 : decode cX5_hasRoomFor 22 = .ok (.aload_n 0, 1) := by decide +kernel
theorem dX5_hasRoomFor_23 : decode cX5_hasRoomFor 23 = .ok (.getfield 12, 3) := by decide +kernel
theorem dX5_hasRoomFor_26 : decode cX5_hasRoomFor 26 = .ok (.invokevirtual 128, 3) := by decide +kernel
theorem dX5_hasRoomFor_29 : decode cX5_hasRoomFor 29 = .ok (.ireturn, 1) := by decide +kernel
theorem dX5_numbersOf_0 : decode cX5_numbersOf 0 = .ok (.iload_n 0, 1) := by decide +kernel
theorem dX5_numbersOf_1 : decode cX5_numbersOf 1 = .ok (.iconst 4, 1) := by decide +kernel
theorem dX5_numbersOf_2 : decode cX5_numbersOf 2 = .ok (.if_icmp .ne 5, 3) := by decide +kernel
theorem dX5_numbersOf_5 : decode cX5_numbersOf 5 = .ok (.iconst 1, 1) := by decide +kernel
theorem dX5_numbersOf_6 : decode cX5_numbersOf 6 = .ok (.ireturn, 1) := by decide +kernel
theorem dX5_numbersOf_7 : decode cX5_numbersOf 7 = .ok (.iload_n 0, 1) := by decide +kernel
theorem dX5_numbersOf_8 : decode cX5_numbersOf 8 = .ok (.iconst 5, 1) := by decide +kernel
theorem dX5_numbersOf_9 : decode cX5_numbersOf 9 = .ok (.if_icmp .ne 7, 3) := by decide +kernel
theorem dX5_numbersOf_12 : decode cX5_numbersOf 12 = .ok (.iconst 2, 1) := by decide +kernel
theorem dX5_numbersOf_13 : decode cX5_numbersOf 13 = .ok (.goto 4, 3) := by decide +kernel
theorem dX5_numbersOf_16 : decode cX5_numbersOf 16 = .ok (.iconst 3, 1) := by decide +kernel
theorem dX5_numbersOf_17 : decode cX5_numbersOf 17 = .ok (.ireturn, 1) := by decide +kernel
theorem dX5_leastOf_0 : decode cX5_leastOf 0 = .ok (.iload_n 0, 1) := by decide +kernel
theorem dX5_leastOf_1 : decode cX5_leastOf 1 = .ok (.invokestatic 131, 3) := by decide +kernel
theorem dX5_leastOf_4 : decode cX5_leastOf 4 = .ok (.ifCond .eq 11, 3) := by decide +kernel
theorem dX5_leastOf_7 : decode cX5_leastOf 7 = .ok (.iload_n 1, 1) := by decide +kernel
theorem dX5_leastOf_8 : decode cX5_leastOf 8 = .ok (.ifCond .ne 7, 3) := by decide +kernel
theorem dX5_leastOf_11 : decode cX5_leastOf 11 = .ok (.iconst 1, 1) := by decide +kernel
theorem dX5_leastOf_12 : decode cX5_leastOf 12 = .ok (.goto 4, 3) := by decide +kernel
theorem dX5_leastOf_15 : decode cX5_leastOf 15 = .ok (.iconst 0, 1) := by decide +kernel
theorem dX5_leastOf_16 : decode cX5_leastOf 16 = .ok (.ireturn, 1) := by decide +kernel
theorem dX5_mostOf_0 : decode cX5_mostOf 0 = .ok (.iload_n 0, 1) := by decide +kernel
theorem dX5_mostOf_1 : decode cX5_mostOf 1 = .ok (.iconst 5, 1) := by decide +kernel
theorem dX5_mostOf_2 : decode cX5_mostOf 2 = .ok (.if_icmp .ne 14, 3) := by decide +kernel
theorem dX5_mostOf_5 : decode cX5_mostOf 5 = .ok (.iload_n 1, 1) := by decide +kernel
theorem dX5_mostOf_6 : decode cX5_mostOf 6 = .ok (.ifCond .ne 7, 3) := by decide +kernel
theorem dX5_mostOf_9 : decode cX5_mostOf 9 = .ok (.iconst 5, 1) := by decide +kernel
theorem dX5_mostOf_10 : decode cX5_mostOf 10 = .ok (.goto 5, 3) := by decide +kernel
theorem dX5_mostOf_13 : decode cX5_mostOf 13 = .ok (.bipush 9, 2) := by decide +kernel
theorem dX5_mostOf_15 : decode cX5_mostOf 15 = .ok (.ireturn, 1) := by decide +kernel
theorem dX5_mostOf_16 : decode cX5_mostOf 16 = .ok (.iload_n 0, 1) := by decide +kernel
theorem dX5_mostOf_17 : decode cX5_mostOf 17 = .ok (.invokestatic 131, 3) := by decide +kernel
theorem dX5_mostOf_20 : decode cX5_mostOf 20 = .ok (.ifCond .eq 10, 3) := by decide +kernel
theorem dX5_mostOf_23 : decode cX5_mostOf 23 = .ok (.iload_n 1, 1) := by decide +kernel
theorem dX5_mostOf_24 : decode cX5_mostOf 24 = .ok (.ifCond .ne 6, 3) := by decide +kernel
theorem dX5_mostOf_27 : decode cX5_mostOf 27 = .ok (.bipush 9, 2) := by decide +kernel
theorem dX5_mostOf_29 : decode cX5_mostOf 29 = .ok (.ireturn, 1) := by decide +kernel
theorem dX5_mostOf_30 : decode cX5_mostOf 30 = .ok (.iload_n 0, 1) := by decide +kernel
theorem dX5_mostOf_31 : decode cX5_mostOf 31 = .ok (.invokestatic 131, 3) := by decide +kernel
theorem dX5_mostOf_34 : decode cX5_mostOf 34 = .ok (.ifCond .eq 12, 3) := by decide +kernel
theorem dX5_mostOf_37 : decode cX5_mostOf 37 = .ok (.iload_n 1, 1) := by decide +kernel
theorem dX5_mostOf_38 : decode cX5_mostOf 38 = .ok (.iconst 1, 1) := by decide +kernel
theorem dX5_mostOf_39 : decode cX5_mostOf 39 = .ok (.if_icmp .ne 7, 3) := by decide +kernel
theorem dX5_mostOf_42 : decode cX5_mostOf 42 = .ok (.iconst 3, 1) := by decide +kernel
theorem dX5_mostOf_43 : decode cX5_mostOf 43 = .ok (.goto 5, 3) := by decide +kernel
theorem dX5_mostOf_46 : decode cX5_mostOf 46 = .ok (.bipush 9, 2) := by decide +kernel
theorem dX5_mostOf_48 : decode cX5_mostOf 48 = .ok (.ireturn, 1) := by decide +kernel
theorem dX5_ownersAreThere_0 : decode cX5_ownersAreThere 0 = .ok (.iconst 0, 1) := by decide +kernel
theorem dX5_ownersAreThere_1 : decode cX5_ownersAreThere 1 = .ok (.istore_n 1, 1) := by decide +kernel
theorem dX5_ownersAreThere_2 : decode cX5_ownersAreThere 2 = .ok (.iload_n 1, 1) := by decide +kernel
theorem dX5_ownersAreThere_3 : decode cX5_ownersAreThere 3 = .ok (.aload_n 0, 1) := by decide +kernel
theorem dX5_ownersAreThere_4 : decode cX5_ownersAreThere 4 = .ok (.getfield 12, 3) := by decide +kernel
theorem dX5_ownersAreThere_7 : decode cX5_ownersAreThere 7 = .ok (.getfield 134, 3) := by decide +kernel
theorem dX5_ownersAreThere_10 : decode cX5_ownersAreThere 10 = .ok (.if_icmp .ge 30, 3) := by decide +kernel
theorem dX5_ownersAreThere_13 : decode cX5_ownersAreThere 13 = .ok (.aload_n 0, 1) := by decide +kernel
theorem dX5_ownersAreThere_14 : decode cX5_ownersAreThere 14 = .ok (.getfield 12, 3) := by decide +kernel
theorem dX5_ownersAreThere_17 : decode cX5_ownersAreThere 17 = .ok (.aload_n 0, 1) := by decide +kernel
theorem dX5_ownersAreThere_18 : decode cX5_ownersAreThere 18 = .ok (.getfield 12, 3) := by decide +kernel
theorem dX5_ownersAreThere_21 : decode cX5_ownersAreThere 21 = .ok (.getfield 137, 3) := by decide +kernel
theorem dX5_ownersAreThere_24 : decode cX5_ownersAreThere 24 = .ok (.iload_n 1, 1) := by decide +kernel
theorem dX5_ownersAreThere_25 : decode cX5_ownersAreThere 25 = .ok (.iaload, 1) := by decide +kernel
theorem dX5_ownersAreThere_26 : decode cX5_ownersAreThere 26 = .ok (.invokevirtual 140, 3) := by decide +kernel
theorem dX5_ownersAreThere_29 : decode cX5_ownersAreThere 29 = .ok (.ifCond .ne 5, 3) := by decide +kernel
theorem dX5_ownersAreThere_32 : decode cX5_ownersAreThere 32 = .ok (.iconst 0, 1) := by decide +kernel
theorem dX5_ownersAreThere_33 : decode cX5_ownersAreThere 33 = .ok (.ireturn, 1) := by decide +kernel
theorem dX5_ownersAreThere_34 : decode cX5_ownersAreThere 34 = .ok (.iinc 1 1, 3) := by decide +kernel
theorem dX5_ownersAreThere_37 : decode cX5_ownersAreThere 37 = .ok (.goto (-35), 3) := by decide +kernel
theorem dX5_ownersAreThere_40 : decode cX5_ownersAreThere 40 = .ok (.iconst 1, 1) := by decide +kernel
theorem dX5_ownersAreThere_41 : decode cX5_ownersAreThere 41 = .ok (.ireturn, 1) := by decide +kernel
theorem dX5_isTokenOf_0 : decode cX5_isTokenOf 0 = .ok (.aload_n 0, 1) := by decide +kernel
theorem dX5_isTokenOf_1 : decode cX5_isTokenOf 1 = .ok (.getfield 35, 3) := by decide +kernel
theorem dX5_isTokenOf_4 : decode cX5_isTokenOf 4 = .ok (.getfield 50, 3) := by decide +kernel
theorem dX5_isTokenOf_7 : decode cX5_isTokenOf 7 = .ok (.iconst 4, 1) := by decide +kernel
theorem dX5_isTokenOf_8 : decode cX5_isTokenOf 8 = .ok (.if_icmp .ne 9, 3) := by decide +kernel
theorem dX5_isTokenOf_11 : decode cX5_isTokenOf 11 = .ok (.aload_n 0, 1) := by decide +kernel
theorem dX5_isTokenOf_12 : decode cX5_isTokenOf 12 = .ok (.iconst 1, 1) := by decide +kernel
theorem dX5_isTokenOf_13 : decode cX5_isTokenOf 13 = .ok (.invokevirtual 60, 3) := by decide +kernel
theorem dX5_isTokenOf_16 : decode cX5_isTokenOf 16 = .ok (.ireturn, 1) := by decide +kernel
theorem dX5_isTokenOf_17 : decode cX5_isTokenOf 17 = .ok (.aload_n 0, 1) := by decide +kernel
theorem dX5_isTokenOf_18 : decode cX5_isTokenOf 18 = .ok (.getfield 35, 3) := by decide +kernel
theorem dX5_isTokenOf_21 : decode cX5_isTokenOf 21 = .ok (.getfield 50, 3) := by decide +kernel
theorem dX5_isTokenOf_24 : decode cX5_isTokenOf 24 = .ok (.iload_n 1, 1) := by decide +kernel
theorem dX5_isTokenOf_25 : decode cX5_isTokenOf 25 = .ok (.if_icmp .eq 11, 3) := by decide +kernel
theorem dX5_isTokenOf_28 : decode cX5_isTokenOf 28 = .ok (.aload_n 0, 1) := by decide +kernel
theorem dX5_isTokenOf_29 : decode cX5_isTokenOf 29 = .ok (.iconst 2, 1) := by decide +kernel
theorem dX5_isTokenOf_30 : decode cX5_isTokenOf 30 = .ok (.invokevirtual 60, 3) := by decide +kernel
theorem dX5_isTokenOf_33 : decode cX5_isTokenOf 33 = .ok (.ifCond .eq 7, 3) := by decide +kernel
theorem dX5_isTokenOf_36 : decode cX5_isTokenOf 36 = .ok (.iconst 1, 1) := by decide +kernel
theorem dX5_isTokenOf_37 : decode cX5_isTokenOf 37 = .ok (.goto 4, 3) := by decide +kernel
theorem dX5_isTokenOf_40 : decode cX5_isTokenOf 40 = .ok (.iconst 0, 1) := by decide +kernel
theorem dX5_isTokenOf_41 : decode cX5_isTokenOf 41 = .ok (.ireturn, 1) := by decide +kernel
theorem dX5_stopsBy_0 : decode cX5_stopsBy 0 = .ok (.aload_n 0, 1) := by decide +kernel
theorem dX5_stopsBy_1 : decode cX5_stopsBy 1 = .ok (.iload_n 1, 1) := by decide +kernel
theorem dX5_stopsBy_2 : decode cX5_stopsBy 2 = .ok (.putfield 29, 3) := by decide +kernel
theorem dX5_stopsBy_5 : decode cX5_stopsBy 5 = .ok (.aload_n 0, 1) := by decide +kernel
theorem dX5_stopsBy_6 : decode cX5_stopsBy 6 = .ok (.aload_n 0, 1) := by decide +kernel
theorem dX5_stopsBy_7 : decode cX5_stopsBy 7 = .ok (.getfield 35, 3) := by decide +kernel
theorem dX5_stopsBy_10 : decode cX5_stopsBy 10 = .ok (.getfield 143, 3) := by decide +kernel
theorem dX5_stopsBy_13 : decode cX5_stopsBy 13 = .ok (.putfield 32, 3) := by decide +kernel
theorem dX5_stopsBy_16 : decode cX5_stopsBy 16 = .ok (.iconst 0, 1) := by decide +kernel
theorem dX5_stopsBy_17 : decode cX5_stopsBy 17 = .ok (.ireturn, 1) := by decide +kernel
theorem dX6_init_0 : decode cX6_init 0 = .ok (.aload_n 0, 1) := by decide +kernel
theorem dX6_init_1 : decode cX6_init 1 = .ok (.invokespecial 1, 3) := by decide +kernel
theorem dX6_init_4 : decode cX6_init 4 = .ok (.aload_n 0, 1) := by decide +kernel
theorem dX6_init_5 : decode cX6_init 5 = .ok (.new 7, 3) := by decide +kernel
theorem dX6_init_8 : decode cX6_init 8 = .ok (.dup, 1) := by decide +kernel
theorem dX6_init_9 : decode cX6_init 9 = .ok (.invokespecial 9, 3) := by decide +kernel
theorem dX6_init_12 : decode cX6_init 12 = .ok (.putfield 10, 3) := by decide +kernel
theorem dX6_init_15 : decode cX6_init 15 = .ok (.aload_n 0, 1) := by decide +kernel
theorem dX6_init_16 : decode cX6_init 16 = .ok (.new 16, 3) := by decide +kernel
theorem dX6_init_19 : decode cX6_init 19 = .ok (.dup, 1) := by decide +kernel
theorem dX6_init_20 : decode cX6_init 20 = .ok (.aload_n 0, 1) := by decide +kernel
theorem dX6_init_21 : decode cX6_init 21 = .ok (.getfield 10, 3) := by decide +kernel
theorem dX6_init_24 : decode cX6_init 24 = .ok (.invokespecial 18, 3) := by decide +kernel
theorem dX6_init_27 : decode cX6_init 27 = .ok (.putfield 21, 3) := by decide +kernel
theorem dX6_init_30 : decode cX6_init 30 = .ok (.aload_n 0, 1) := by decide +kernel
theorem dX6_init_31 : decode cX6_init 31 = .ok (.new 25, 3) := by decide +kernel
theorem dX6_init_34 : decode cX6_init 34 = .ok (.dup, 1) := by decide +kernel
theorem dX6_init_35 : decode cX6_init 35 = .ok (.invokespecial 27, 3) := by decide +kernel
theorem dX6_init_38 : decode cX6_init 38 = .ok (.putfield 28, 3) := by decide +kernel
theorem dX6_init_41 : decode cX6_init 41 = .ok (.aload_n 0, 1) := by decide +kernel
theorem dX6_init_42 : decode cX6_init 42 = .ok (.new 32, 3) := by decide +kernel
theorem dX6_init_45 : decode cX6_init 45 = .ok (.dup, 1) := by decide +kernel
theorem dX6_init_46 : decode cX6_init 46 = .ok (.invokespecial 34, 3) := by decide +kernel
theorem dX6_init_49 : decode cX6_init 49 = .ok (.putfield 35, 3) := by decide +kernel
theorem dX6_init_52 : decode cX6_init 52 = .ok (.aload_n 0, 1) := by decide +kernel
theorem dX6_init_53 : decode cX6_init 53 = .ok (.new 25, 3) := by decide +kernel
theorem dX6_init_56 : decode cX6_init 56 = .ok (.dup, 1) := by decide +kernel
theorem dX6_init_57 : decode cX6_init 57 = .ok (.invokespecial 27, 3) := by decide +kernel
theorem dX6_init_60 : decode cX6_init 60 = .ok (.putfield 39, 3) := by decide +kernel
theorem dX6_init_63 : decode cX6_init 63 = .ok (.aload_n 0, 1) := by decide +kernel
theorem dX6_init_64 : decode cX6_init 64 = .ok (.bipush 9, 2) := by decide +kernel
theorem dX6_init_66 : decode cX6_init 66 = .ok (.anewarray 25, 3) := by decide +kernel
theorem dX6_init_69 : decode cX6_init 69 = .ok (.putfield 42, 3) := by decide +kernel
theorem dX6_init_72 : decode cX6_init 72 = .ok (.aload_n 0, 1) := by decide +kernel
theorem dX6_init_73 : decode cX6_init 73 = .ok (.iconst 4, 1) := by decide +kernel
theorem dX6_init_74 : decode cX6_init 74 = .ok (.newarray .int, 2) := by decide +kernel
theorem dX6_init_76 : decode cX6_init 76 = .ok (.putfield 46, 3) := by decide +kernel
theorem dX6_init_79 : decode cX6_init 79 = .ok (.aload_n 0, 1) := by decide +kernel
theorem dX6_init_80 : decode cX6_init 80 = .ok (.iconst 2, 1) := by decide +kernel
theorem dX6_init_81 : decode cX6_init 81 = .ok (.anewarray 50, 3) := by decide +kernel
theorem dX6_init_84 : decode cX6_init 84 = .ok (.putfield 52, 3) := by decide +kernel
theorem dX6_init_87 : decode cX6_init 87 = .ok (.aload_n 0, 1) := by decide +kernel
theorem dX6_init_88 : decode cX6_init 88 = .ok (.iconst 4, 1) := by decide +kernel
theorem dX6_init_89 : decode cX6_init 89 = .ok (.anewarray 56, 3) := by decide +kernel
theorem dX6_init_92 : decode cX6_init 92 = .ok (.putfield 58, 3) := by decide +kernel
