theorem dX0_init_0 : decode cX0_init 0 = .ok (.aload_n 0, 1) := by decide +kernel
theorem dX0_init_1 : decode cX0_init 1 = .ok (.invokespecial 3, 3) := by decide +kernel
theorem dX0_init_4 : decode cX0_init 4 = .ok (.aload_n 0, 1) := by decide +kernel
theorem dX0_init_5 : decode cX0_init 5 = .ok (.new 9, 3) := by decide +kernel
theorem dX0_init_8 : decode cX0_init 8 = .ok (.dup, 1) := by decide +kernel
theorem dX0_init_9 : decode cX0_init 9 = .ok (.invokespecial 11, 3) := by decide +kernel
theorem dX0_init_12 : decode cX0_init 12 = .ok (.putfield 12, 3) := by decide +kernel
theorem dX0_init_15 : decode cX0_init 15 = .ok (.aload_n 0, 1) := by decide +kernel
theorem dX0_init_16 : decode cX0_init 16 = .ok (.aload_n 0, 1) := by decide +kernel
theorem dX0_init_17 : decode cX0_init 17 = .ok (.getfield 12, 3) := by decide +kernel
theorem dX0_init_20 : decode cX0_init 20 = .ok (.getfield 18, 3) := by decide +kernel
theorem dX0_init_23 : decode cX0_init 23 = .ok (.putfield 22, 3) := by decide +kernel
theorem dX0_init_26 : decode cX0_init 26 = .ok (.aload_n 0, 1) := by decide +kernel
theorem dX0_init_27 : decode cX0_init 27 = .ok (.aload_n 0, 1) := by decide +kernel
theorem dX0_init_28 : decode cX0_init 28 = .ok (.getfield 12, 3) := by decide +kernel
theorem dX0_init_31 : decode cX0_init 31 = .ok (.getfield 23, 3) := by decide +kernel
theorem dX0_init_34 : decode cX0_init 34 = .ok (.putfield 27, 3) := by decide +kernel
theorem dX0_init_37 : decode cX0_init 37 = .ok (.aload_n 0, 1) := by decide +kernel
theorem dX0_init_38 : decode cX0_init 38 = .ok (.new 28, 3) := by decide +kernel
theorem dX0_init_41 : decode cX0_init 41 = .ok (.dup, 1) := by decide +kernel
theorem dX0_init_42 : decode cX0_init 42 = .ok (.invokespecial 30, 3) := by decide +kernel
theorem dX0_init_45 : decode cX0_init 45 = .ok (.putfield 31, 3) := by decide +kernel
theorem dX0_init_48 : decode cX0_init 48 = .ok (.aload_n 0, 1) := by decide +kernel
theorem dX0_init_49 : decode cX0_init 49 = .ok (.new 35, 3) := by decide +kernel
theorem dX0_init_52 : decode cX0_init 52 = .ok (.dup, 1) := by decide +kernel
theorem dX0_init_53 : decode cX0_init 53 = .ok (.invokespecial 37, 3) := by decide +kernel
theorem dX0_init_56 : decode cX0_init 56 = .ok (.putfield 38, 3) := by decide +kernel
theorem dX0_init_59 : decode cX0_init 59 = .ok (.aload_n 0, 1) := by decide +kernel
theorem dX0_init_60 : decode cX0_init 60 = .ok (.invokevirtual 42, 3) := by decide +kernel
theorem dX0_init_63 : decode cX0_init 63 = .ok (.return_, 1) := by decide +kernel
theorem dX0_clear_0 : decode cX0_clear 0 = .ok (.aload_n 0, 1) := by decide +kernel
theorem dX0_clear_1 : decode cX0_clear 1 = .ok (.getfield 12, 3) := by decide +kernel
theorem dX0_clear_4 : decode cX0_clear 4 = .ok (.invokevirtual 45, 3) := by decide +kernel
theorem dX0_clear_7 : decode cX0_clear 7 = .ok (.aload_n 0, 1) := by decide +kernel
theorem dX0_clear_8 : decode cX0_clear 8 = .ok (.getfield 31, 3) := by decide +kernel
theorem dX0_clear_11 : decode cX0_clear 11 = .ok (.invokevirtual 46, 3) := by decide +kernel
theorem dX0_clear_14 : decode cX0_clear 14 = .ok (.aload_n 0, 1) := by decide +kernel
theorem dX0_clear_15 : decode cX0_clear 15 = .ok (.getfield 38, 3) := by decide +kernel
theorem dX0_clear_18 : decode cX0_clear 18 = .ok (.invokevirtual 47, 3) := by decide +kernel
theorem dX0_clear_21 : decode cX0_clear 21 = .ok (.aload_n 0, 1) := by decide +kernel
theorem dX0_clear_22 : decode cX0_clear 22 = .ok (.iconst 0, 1) := by decide +kernel
theorem dX0_clear_23 : decode cX0_clear 23 = .ok (.putfield 48, 3) := by decide +kernel
theorem dX0_clear_26 : decode cX0_clear 26 = .ok (.aload_n 0, 1) := by decide +kernel
theorem dX0_clear_27 : decode cX0_clear 27 = .ok (.iconst 0, 1) := by decide +kernel
theorem dX0_clear_28 : decode cX0_clear 28 = .ok (.putfield 52, 3) := by decide +kernel
theorem dX0_clear_31 : decode cX0_clear 31 = .ok (.aload_n 0, 1) := by decide +kernel
theorem dX0_clear_32 : decode cX0_clear 32 = .ok (.iconst 0, 1) := by decide +kernel
theorem dX0_clear_33 : decode cX0_clear 33 = .ok (.putfield 55, 3) := by decide +kernel
theorem dX0_clear_36 : decode cX0_clear 36 = .ok (.aload_n 0, 1) := by decide +kernel
theorem dX0_clear_37 : decode cX0_clear 37 = .ok (.iconst 0, 1) := by decide +kernel
theorem dX0_clear_38 : decode cX0_clear 38 = .ok (.putfield 58, 3) := by decide +kernel
theorem dX0_clear_41 : decode cX0_clear 41 = .ok (.return_, 1) := by decide +kernel
theorem dX0_copyFrom_0 : decode cX0_copyFrom 0 = .ok (.aload_n 0, 1) := by decide +kernel
theorem dX0_copyFrom_1 : decode cX0_copyFrom 1 = .ok (.getfield 12, 3) := by decide +kernel
theorem dX0_copyFrom_4 : decode cX0_copyFrom 4 = .ok (.aload_n 1, 1) := by decide +kernel
theorem dX0_copyFrom_5 : decode cX0_copyFrom 5 = .ok (.getfield 12, 3) := by decide +kernel
theorem dX0_copyFrom_8 : decode cX0_copyFrom 8 = .ok (.invokevirtual 61, 3) := by decide +kernel
theorem dX0_copyFrom_11 : decode cX0_copyFrom 11 = .ok (.aload_n 0, 1) := by decide +kernel
theorem dX0_copyFrom_12 : decode cX0_copyFrom 12 = .ok (.getfield 31, 3) := by decide +kernel
theorem dX0_copyFrom_15 : decode cX0_copyFrom 15 = .ok (.aload_n 1, 1) := by decide +kernel
theorem dX0_copyFrom_16 : decode cX0_copyFrom 16 = .ok (.getfield 31, 3) := by decide +kernel
theorem dX0_copyFrom_19 : decode cX0_copyFrom 19 = .ok (.invokevirtual 65, 3) := by decide +kernel
theorem dX0_copyFrom_22 : decode cX0_copyFrom 22 = .ok (.aload_n 0, 1) := by decide +kernel
theorem dX0_copyFrom_23 : decode cX0_copyFrom 23 = .ok (.getfield 38, 3) := by decide +kernel
theorem dX0_copyFrom_26 : decode cX0_copyFrom 26 = .ok (.aload_n 1, 1) := by decide +kernel
theorem dX0_copyFrom_27 : decode cX0_copyFrom 27 = .ok (.getfield 38, 3) := by decide +kernel
theorem dX0_copyFrom_30 : decode cX0_copyFrom 30 = .ok (.invokevirtual 68, 3) := by decide +kernel
theorem dX0_copyFrom_33 : decode cX0_copyFrom 33 = .ok (.aload_n 0, 1) := by decide +kernel
theorem dX0_copyFrom_34 : decode cX0_copyFrom 34 = .ok (.aload_n 1, 1) := by decide +kernel
theorem dX0_copyFrom_35 : decode cX0_copyFrom 35 = .ok (.getfield 48, 3) := by decide +kernel
theorem dX0_copyFrom_38 : decode cX0_copyFrom 38 = .ok (.putfield 48, 3) := by decide +kernel
theorem dX0_copyFrom_41 : decode cX0_copyFrom 41 = .ok (.aload_n 0, 1) := by decide +kernel
theorem dX0_copyFrom_42 : decode cX0_copyFrom 42 = .ok (.aload_n 1, 1) := by decide +kernel
theorem dX0_copyFrom_43 : decode cX0_copyFrom 43 = .ok (.getfield 52, 3) := by decide +kernel
theorem dX0_copyFrom_46 : decode cX0_copyFrom 46 = .ok (.putfield 52, 3) := by decide +kernel
theorem dX0_copyFrom_49 : decode cX0_copyFrom 49 = .ok (.aload_n 0, 1) := by decide +kernel
theorem dX0_copyFrom_50 : decode cX0_copyFrom 50 = .ok (.aload_n 1, 1) := by decide +kernel
theorem dX0_copyFrom_51 : decode cX0_copyFrom 51 = .ok (.getfield 55, 3) := by decide +kernel
theorem dX0_copyFrom_54 : decode cX0_copyFrom 54 = .ok (.putfield 55, 3) := by decide +kernel
theorem dX0_copyFrom_57 : decode cX0_copyFrom 57 = .ok (.aload_n 0, 1) := by decide +kernel
theorem dX0_copyFrom_58 : decode cX0_copyFrom 58 = .ok (.aload_n 1, 1) := by decide +kernel
theorem dX0_copyFrom_59 : decode cX0_copyFrom 59 = .ok (.getfield 58, 3) := by decide +kernel
theorem dX0_copyFrom_62 : decode cX0_copyFrom 62 = .ok (.putfield 58, 3) := by decide +kernel
theorem dX0_copyFrom_65 : decode cX0_copyFrom 65 = .ok (.return_, 1) := by decide +kernel
theorem dX0_startAt_0 : decode cX0_startAt 0 = .ok (.aload_n 0, 1) := by decide +kernel
theorem dX0_startAt_1 : decode cX0_startAt 1 = .ok (.iload_n 1, 1) := by decide +kernel
theorem dX0_startAt_2 : decode cX0_startAt 2 = .ok (.putfield 48, 3) := by decide +kernel
theorem dX0_startAt_5 : decode cX0_startAt 5 = .ok (.aload_n 0, 1) := by decide +kernel
theorem dX0_startAt_6 : decode cX0_startAt 6 = .ok (.getfield 12, 3) := by decide +kernel
theorem dX0_startAt_9 : decode cX0_startAt 9 = .ok (.iload_n 1, 1) := by decide +kernel
theorem dX0_startAt_10 : decode cX0_startAt 10 = .ok (.invokevirtual 71, 3) := by decide +kernel
theorem dX0_startAt_13 : decode cX0_startAt 13 = .ok (.return_, 1) := by decide +kernel
theorem dX0_tick_0 : decode cX0_tick 0 = .ok (.aload_n 0, 1) := by decide +kernel
theorem dX0_tick_1 : decode cX0_tick 1 = .ok (.dup, 1) := by decide +kernel
theorem dX0_tick_2 : decode cX0_tick 2 = .ok (.getfield 55, 3) := by decide +kernel
theorem dX0_tick_5 : decode cX0_tick 5 = .ok (.iconst 1, 1) := by decide +kernel
theorem dX0_tick_6 : decode cX0_tick 6 = .ok (.iadd, 1) := by decide +kernel
theorem dX0_tick_7 : decode cX0_tick 7 = .ok (.putfield 55, 3) := by decide +kernel
theorem dX0_tick_10 : decode cX0_tick 10 = .ok (.aload_n 0, 1) := by decide +kernel
theorem dX0_tick_11 : decode cX0_tick 11 = .ok (.aload_n 0, 1) := by decide +kernel
theorem dX0_tick_12 : decode cX0_tick 12 = .ok (.getfield 38, 3) := by decide +kernel
theorem dX0_tick_15 : decode cX0_tick 15 = .ok (.aload_n 0, 1) := by decide +kernel
theorem dX0_tick_16 : decode cX0_tick 16 = .ok (.getfield 55, 3) := by decide +kernel
theorem dX0_tick_19 : decode cX0_tick 19 = .ok (.aload_n 0, 1) := by decide +kernel
theorem dX0_tick_20 : decode cX0_tick 20 = .ok (.getfield 58, 3) := by decide +kernel
theorem dX0_tick_23 : decode cX0_tick 23 = .ok (.invokevirtual 75, 3) := by decide +kernel
theorem dX0_tick_26 : decode cX0_tick 26 = .ok (.putfield 58, 3) := by decide +kernel
theorem dX0_tick_29 : decode cX0_tick 29 = .ok (.aload_n 0, 1) := by decide +kernel
theorem dX0_tick_30 : decode cX0_tick 30 = .ok (.invokevirtual 79, 3) := by decide +kernel
theorem dX0_tick_33 : decode cX0_tick 33 = .ok (.istore_n 1, 1) := by decide +kernel
theorem dX0_tick_34 : decode cX0_tick 34 = .ok (.aload_n 0, 1) := by decide +kernel
theorem dX0_tick_35 : decode cX0_tick 35 = .ok (.dup, 1) := by decide +kernel
theorem dX0_tick_36 : decode cX0_tick 36 = .ok (.getfield 52, 3) := by decide +kernel
theorem dX0_tick_39 : decode cX0_tick 39 = .ok (.aload_n 0, 1) := by decide +kernel
theorem dX0_tick_40 : decode cX0_tick 40 = .ok (.getfield 48, 3) := by decide +kernel
theorem dX0_tick_43 : decode cX0_tick 43 = .ok (.bipush 100, 2) := by decide +kernel
theorem dX0_tick_45 : decode cX0_tick 45 = .ok (.invokestatic 83, 3) := by decide +kernel
theorem dX0_tick_48 : decode cX0_tick 48 = .ok (.iadd, 1) := by decide +kernel
theorem dX0_tick_49 : decode cX0_tick 49 = .ok (.putfield 52, 3) := by decide +kernel
theorem dX0_tick_52 : decode cX0_tick 52 = .ok (.aload_n 0, 1) := by decide +kernel
theorem dX0_tick_53 : decode cX0_tick 53 = .ok (.aload_n 0, 1) := by decide +kernel
theorem dX0_tick_54 : decode cX0_tick 54 = .ok (.getfield 48, 3) := by decide +kernel
theorem dX0_tick_57 : decode cX0_tick 57 = .ok (.iload_n 1, 1) := by decide +kernel
theorem dX0_tick_58 : decode cX0_tick 58 = .ok (.bipush 40, 2) := by decide +kernel
theorem dX0_tick_60 : decode cX0_tick 60 = .ok (.invokestatic 83, 3) := by decide +kernel
theorem dX0_tick_63 : decode cX0_tick 63 = .ok (.isub, 1) := by decide +kernel
theorem dX0_tick_64 : decode cX0_tick 64 = .ok (.iconst 0, 1) := by decide +kernel
theorem dX0_tick_65 : decode cX0_tick 65 = .ok (.invokestatic 88, 3) := by decide +kernel
theorem dX0_tick_68 : decode cX0_tick 68 = .ok (.putfield 48, 3) := by decide +kernel
theorem dX0_tick_71 : decode cX0_tick 71 = .ok (.iconst 0, 1) := by decide +kernel
theorem dX0_tick_72 : decode cX0_tick 72 = .ok (.istore_n 2, 1) := by decide +kernel
theorem dX0_tick_73 : decode cX0_tick 73 = .ok (.iload_n 2, 1) := by decide +kernel
theorem dX0_tick_74 : decode cX0_tick 74 = .ok (.iconst 4, 1) := by decide +kernel
theorem dX0_tick_75 : decode cX0_tick 75 = .ok (.if_icmp .ge 22, 3) := by decide +kernel
theorem dX0_tick_78 : decode cX0_tick 78 = .ok (.aload_n 0, 1) := by decide +kernel
theorem dX0_tick_79 : decode cX0_tick 79 = .ok (.getfield 22, 3) := by decide +kernel
theorem dX0_tick_82 : decode cX0_tick 82 = .ok (.iload_n 2, 1) := by decide +kernel
theorem dX0_tick_83 : decode cX0_tick 83 = .ok (.aaload, 1) := by decide +kernel
theorem dX0_tick_84 : decode cX0_tick 84 = .ok (.aload_n 0, 1) := by decide +kernel
theorem dX0_tick_85 : decode cX0_tick 85 = .ok (.getfield 48, 3) := by decide +kernel
theorem dX0_tick_88 : decode cX0_tick 88 = .ok (.invokevirtual 91, 3) := by decide +kernel
theorem dX0_tick_91 : decode cX0_tick 91 = .ok (.iinc 2 1, 3) := by decide +kernel
theorem dX0_tick_94 : decode cX0_tick 94 = .ok (.goto (-21), 3) := by decide +kernel
theorem dX0_tick_97 : decode cX0_tick 97 = .ok (.aload_n 0, 1) := by decide +kernel
theorem dX0_tick_98 : decode cX0_tick 98 = .ok (.getfield 31, 3) := by decide +kernel
theorem dX0_tick_101 : decode cX0_tick 101 = .ok (.aload_n 0, 1) := by decide +kernel
theorem dX0_tick_102 : decode cX0_tick 102 = .ok (.getfield 52, 3) := by decide +kernel
theorem dX0_tick_105 : decode cX0_tick 105 = .ok (.invokevirtual 96, 3) := by decide +kernel
theorem dX0_tick_108 : decode cX0_tick 108 = .ok (.aload_n 0, 1) := by decide +kernel
theorem dX0_tick_109 : decode cX0_tick 109 = .ok (.getfield 12, 3) := by decide +kernel
theorem dX0_tick_112 : decode cX0_tick 112 = .ok (.aload_n 0, 1) := by decide +kernel
theorem dX0_tick_113 : decode cX0_tick 113 = .ok (.getfield 55, 3) := by decide +kernel
theorem dX0_tick_116 : decode cX0_tick 116 = .ok (.aload_n 0, 1) := by decide +kernel
theorem dX0_tick_117 : decode cX0_tick 117 = .ok (.getfield 58, 3) := by decide +kernel
theorem dX0_tick_120 : decode cX0_tick 120 = .ok (.invokevirtual 99, 3) := by decide +kernel
theorem dX0_tick_123 : decode cX0_tick 123 = .ok (.iconst 0, 1) := by decide +kernel
theorem dX0_tick_124 : decode cX0_tick 124 = .ok (.istore_n 2, 1) := by decide +kernel
theorem dX0_tick_125 : decode cX0_tick 125 = .ok (.iload_n 2, 1) := by decide +kernel
theorem dX0_tick_126 : decode cX0_tick 126 = .ok (.iconst 4, 1) := by decide +kernel
theorem dX0_tick_127 : decode cX0_tick 127 = .ok (.if_icmp .ge 22, 3) := by decide +kernel
theorem dX0_tick_130 : decode cX0_tick 130 = .ok (.aload_n 0, 1) := by decide +kernel
theorem dX0_tick_131 : decode cX0_tick 131 = .ok (.getfield 22, 3) := by decide +kernel
theorem dX0_tick_134 : decode cX0_tick 134 = .ok (.iload_n 2, 1) := by decide +kernel
theorem dX0_tick_135 : decode cX0_tick 135 = .ok (.aaload, 1) := by decide +kernel
theorem dX0_tick_136 : decode cX0_tick 136 = .ok (.aload_n 0, 1) := by decide +kernel
theorem dX0_tick_137 : decode cX0_tick 137 = .ok (.getfield 48, 3) := by decide +kernel
theorem dX0_tick_140 : decode cX0_tick 140 = .ok (.invokevirtual 103, 3) := by decide +kernel
theorem dX0_tick_143 : decode cX0_tick 143 = .ok (.iinc 2 1, 3) := by decide +kernel
theorem dX0_tick_146 : decode cX0_tick 146 = .ok (.goto (-21), 3) := by decide +kernel
theorem dX0_tick_149 : decode cX0_tick 149 = .ok (.return_, 1) := by decide +kernel
theorem dX0_tickUntilStill_0 : decode cX0_tickUntilStill 0 = .ok (.iconst 0, 1) := by decide +kernel
theorem dX0_tickUntilStill_1 : decode cX0_tickUntilStill 1 = .ok (.istore_n 1, 1) := by decide +kernel
theorem dX0_tickUntilStill_2 : decode cX0_tickUntilStill 2 = .ok (.iload_n 1, 1) := by decide +kernel
theorem dX0_tickUntilStill_3 : decode cX0_tickUntilStill 3 = .ok (.sipush 5000, 3) := by decide +kernel
theorem dX0_tickUntilStill_6 : decode cX0_tickUntilStill 6 = .ok (.if_icmp .ge 20, 3) := by decide +kernel
theorem dX0_tickUntilStill_9 : decode cX0_tickUntilStill 9 = .ok (.aload_n 0, 1) := by decide +kernel
theorem dX0_tickUntilStill_10 : decode cX0_tickUntilStill 10 = .ok (.getfield 48, 3) := by decide +kernel
theorem dX0_tickUntilStill_13 : decode cX0_tickUntilStill 13 = .ok (.ifCond .le 13, 3) := by decide +kernel
theorem dX0_tickUntilStill_16 : decode cX0_tickUntilStill 16 = .ok (.aload_n 0, 1) := by decide +kernel
theorem dX0_tickUntilStill_17 : decode cX0_tickUntilStill 17 = .ok (.invokevirtual 106, 3) := by decide +kernel
theorem dX0_tickUntilStill_20 : decode cX0_tickUntilStill 20 = .ok (.iinc 1 1, 3) := by decide +kernel
theorem dX0_tickUntilStill_23 : decode cX0_tickUntilStill 23 = .ok (.goto (-21), 3) := by decide +kernel
theorem dX0_tickUntilStill_26 : decode cX0_tickUntilStill 26 = .ok (.iload_n 1, 1) := by decide +kernel
theorem dX0_tickUntilStill_27 : decode cX0_tickUntilStill 27 = .ok (.ireturn, 1) := by decide +kernel
theorem dX0_findGrips_0 : decode cX0_findGrips 0 = .ok (.iconst 0, 1) := by decide +kernel
theorem dX0_findGrips_1 : decode cX0_findGrips 1 = .ok (.istore_n 1, 1) := by decide +kernel
theorem dX0_findGrips_2 : decode cX0_findGrips 2 = .ok (.iconst 0, 1) := by decide +kernel
theorem dX0_findGrips_3 : decode cX0_findGrips 3 = .ok (.istore_n 2, 1) := by decide +kernel
theorem dX0_findGrips_4 : decode cX0_findGrips 4 = .ok (.iload_n 2, 1) := by decide +kernel
theorem dX0_findGrips_5 : decode cX0_findGrips 5 = .ok (.iconst 4, 1) := by decide +kernel
theorem dX0_findGrips_6 : decode cX0_findGrips 6 = .ok (.if_icmp .ge 35, 3) := by decide +kernel
theorem dX0_findGrips_9 : decode cX0_findGrips 9 = .ok (.aload_n 0, 1) := by decide +kernel
theorem dX0_findGrips_10 : decode cX0_findGrips 10 = .ok (.getfield 22, 3) := by decide +kernel
theorem dX0_findGrips_13 : decode cX0_findGrips 13 = .ok (.iload_n 2, 1) := by decide +kernel
theorem dX0_findGrips_14 : decode cX0_findGrips 14 = .ok (.aaload, 1) := by decide +kernel
theorem dX0_findGrips_15 : decode cX0_findGrips 15 = .ok (.aload_n 0, 1) := by decide +kernel
theorem dX0_findGrips_16 : decode cX0_findGrips 16 = .ok (.iload_n 2, 1) := by decide +kernel
theorem dX0_findGrips_17 : decode cX0_findGrips 17 = .ok (.invokevirtual 109, 3) := by decide +kernel
theorem dX0_findGrips_20 : decode cX0_findGrips 20 = .ok (.putfield 113, 3) := by decide +kernel
theorem dX0_findGrips_23 : decode cX0_findGrips 23 = .ok (.iload_n 1, 1) := by decide +kernel
theorem dX0_findGrips_24 : decode cX0_findGrips 24 = .ok (.aload_n 0, 1) := by decide +kernel
theorem dX0_findGrips_25 : decode cX0_findGrips 25 = .ok (.getfield 22, 3) := by decide +kernel
theorem dX0_findGrips_28 : decode cX0_findGrips 28 = .ok (.iload_n 2, 1) := by decide +kernel
theorem dX0_findGrips_29 : decode cX0_findGrips 29 = .ok (.aaload, 1) := by decide +kernel
theorem dX0_findGrips_30 : decode cX0_findGrips 30 = .ok (.getfield 113, 3) := by decide +kernel
theorem dX0_findGrips_33 : decode cX0_findGrips 33 = .ok (.iadd, 1) := by decide +kernel
theorem dX0_findGrips_34 : decode cX0_findGrips 34 = .ok (.istore_n 1, 1) := by decide +kernel
theorem dX0_findGrips_35 : decode cX0_findGrips 35 = .ok (.iinc 2 1, 3) := by decide +kernel
theorem dX0_findGrips_38 : decode cX0_findGrips 38 = .ok (.goto (-34), 3) := by decide +kernel
theorem dX0_findGrips_41 : decode cX0_findGrips 41 = .ok (.iload_n 1, 1) := by decide +kernel
theorem dX0_findGrips_42 : decode cX0_findGrips 42 = .ok (.ireturn, 1) := by decide +kernel
theorem dX0_gripOfWheel_0 : decode cX0_gripOfWheel 0 = .ok (.iload_n 1, 1) := by decide +kernel
theorem dX0_gripOfWheel_1 : decode cX0_gripOfWheel 1 = .ok (.iconst 2, 1) := by decide +kernel
theorem dX0_gripOfWheel_2 : decode cX0_gripOfWheel 2 = .ok (.irem, 1) := by decide +kernel
theorem dX0_gripOfWheel_3 : decode cX0_gripOfWheel 3 = .ok (.ifCond .ne 7, 3) := by decide +kernel
theorem dX0_gripOfWheel_6 : decode cX0_gripOfWheel 6 = .ok (.iconst 1, 1) := by decide +kernel
theorem dX0_gripOfWheel_7 : decode cX0_gripOfWheel 7 = .ok (.goto 4, 3) := by decide +kernel
theorem dX0_gripOfWheel_10 : decode cX0_gripOfWheel 10 = .ok (.iconst 0, 1) := by decide +kernel
theorem dX0_gripOfWheel_11 : decode cX0_gripOfWheel 11 = .ok (.istore_n 2, 1) := by decide +kernel
theorem dX0_gripOfWheel_12 : decode cX0_gripOfWheel 12 = .ok (.aload_n 0, 1) := by decide +kernel
theorem dX0_gripOfWheel_13 : decode cX0_gripOfWheel 13 = .ok (.getfield 31, 3) := by decide +kernel
theorem dX0_gripOfWheel_16 : decode cX0_gripOfWheel 16 = .ok (.aload_n 0, 1) := by decide +kernel
theorem dX0_gripOfWheel_17 : decode cX0_gripOfWheel 17 = .ok (.getfield 52, 3) := by decide +kernel
theorem dX0_gripOfWheel_20 : decode cX0_gripOfWheel 20 = .ok (.iload_n 2, 1) := by decide +kernel
theorem dX0_gripOfWheel_21 : decode cX0_gripOfWheel 21 = .ok (.invokevirtual 116, 3) := by decide +kernel
theorem dX0_gripOfWheel_24 : decode cX0_gripOfWheel 24 = .ok (.aload_n 0, 1) := by decide +kernel
theorem dX0_gripOfWheel_25 : decode cX0_gripOfWheel 25 = .ok (.getfield 22, 3) := by decide +kernel
theorem dX0_gripOfWheel_28 : decode cX0_gripOfWheel 28 = .ok (.iload_n 1, 1) := by decide +kernel
theorem dX0_gripOfWheel_29 : decode cX0_gripOfWheel 29 = .ok (.aaload, 1) := by decide +kernel
theorem dX0_gripOfWheel_30 : decode cX0_gripOfWheel 30 = .ok (.aload_n 0, 1) := by decide +kernel
theorem dX0_gripOfWheel_31 : decode cX0_gripOfWheel 31 = .ok (.getfield 48, 3) := by decide +kernel
theorem dX0_gripOfWheel_34 : decode cX0_gripOfWheel 34 = .ok (.invokevirtual 120, 3) := by decide +kernel
theorem dX0_gripOfWheel_37 : decode cX0_gripOfWheel 37 = .ok (.invokestatic 123, 3) := by decide +kernel
theorem dX0_gripOfWheel_40 : decode cX0_gripOfWheel 40 = .ok (.ireturn, 1) := by decide +kernel
theorem dX0_carValue_0 : decode cX0_carValue 0 = .ok (.iload_n 1, 1) := by decide +kernel
theorem dX0_carValue_1 : decode cX0_carValue 1 = .ok (.tableswitch 118 0 8 #[51, 56, 61, 66, 71, 79, 87, 95, 103], 51) := by decide +kernel
theorem dX0_carValue_52 : decode cX0_carValue 52 = .ok (.aload_n 0, 1) := by decide +kernel
theorem dX0_carValue_53 : decode cX0_carValue 53 = .ok (.getfield 48, 3) := by decide +kernel
theorem dX0_carValue_56 : decode cX0_carValue 56 = .ok (.ireturn, 1) := by decide +kernel
theorem dX0_carValue_57 : decode cX0_carValue 57 = .ok (.aload_n 0, 1) := by decide +kernel
theorem dX0_carValue_58 : decode cX0_carValue 58 = .ok (.getfield 52, 3) := by decide +kernel
theorem dX0_carValue_61 : decode cX0_carValue 61 = .ok (.ireturn, 1) := by decide +kernel
theorem dX0_carValue_62 : decode cX0_carValue 62 = .ok (.aload_n 0, 1) := by decide +kernel
theorem dX0_carValue_63 : decode cX0_carValue 63 = .ok (.getfield 55, 3) := by decide +kernel
theorem dX0_carValue_66 : decode cX0_carValue 66 = .ok (.ireturn, 1) := by decide +kernel
theorem dX0_carValue_67 : decode cX0_carValue 67 = .ok (.aload_n 0, 1) := by decide +kernel
theorem dX0_carValue_68 : decode cX0_carValue 68 = .ok (.getfield 58, 3) := by decide +kernel
theorem dX0_carValue_71 : decode cX0_carValue 71 = .ok (.ireturn, 1) := by decide +kernel
theorem dX0_carValue_72 : decode cX0_carValue 72 = .ok (.aload_n 0, 1) := by decide +kernel
theorem dX0_carValue_73 : decode cX0_carValue 73 = .ok (.getfield 12, 3) := by decide +kernel
theorem dX0_carValue_76 : decode cX0_carValue 76 = .ok (.getfield 126, 3) := by decide +kernel
theorem dX0_carValue_79 : decode cX0_carValue 79 = .ok (.ireturn, 1) := by decide +kernel
theorem dX0_carValue_80 : decode cX0_carValue 80 = .ok (.aload_n 0, 1) := by decide +kernel
theorem dX0_carValue_81 : decode cX0_carValue 81 = .ok (.getfield 12, 3) := by decide +kernel
theorem dX0_carValue_84 : decode cX0_carValue 84 = .ok (.getfield 129, 3) := by decide +kernel
theorem dX0_carValue_87 : decode cX0_carValue 87 = .ok (.ireturn, 1) := by decide +kernel
theorem dX0_carValue_88 : decode cX0_carValue 88 = .ok (.aload_n 0, 1) := by decide +kernel
theorem dX0_carValue_89 : decode cX0_carValue 89 = .ok (.getfield 12, 3) := by decide +kernel
theorem dX0_carValue_92 : decode cX0_carValue 92 = .ok (.getfield 132, 3) := by decide +kernel
theorem dX0_carValue_95 : decode cX0_carValue 95 = .ok (.ireturn, 1) := by decide +kernel
theorem dX0_carValue_96 : decode cX0_carValue 96 = .ok (.aload_n 0, 1) := by decide +kernel
theorem dX0_carValue_97 : decode cX0_carValue 97 = .ok (.getfield 12, 3) := by decide +kernel
theorem dX0_carValue_100 : decode cX0_carValue 100 = .ok (.getfield 135, 3) := by decide +kernel
theorem dX0_carValue_103 : decode cX0_carValue 103 = .ok (.ireturn, 1) := by decide +kernel
theorem dX0_carValue_104 : decode cX0_carValue 104 = .ok (.aload_n 0, 1) := by decide +kernel
theorem dX0_carValue_105 : decode cX0_carValue 105 = .ok (.getfield 12, 3) := by decide +kernel
theorem dX0_carValue_108 : decode cX0_carValue 108 = .ok (.aload_n 0, 1) := by decide +kernel
theorem dX0_carValue_109 : decode cX0_carValue 109 = .ok (.getfield 58, 3) := by decide +kernel
theorem dX0_carValue_112 : decode cX0_carValue 112 = .ok (.invokevirtual 138, 3) := by decide +kernel
theorem dX0_carValue_115 : decode cX0_carValue 115 = .ok (.invokestatic 142, 3) := by decide +kernel
theorem dX0_carValue_118 : decode cX0_carValue 118 = .ok (.ireturn, 1) := by decide +kernel
theorem dX0_carValue_119 : decode cX0_carValue 119 = .ok (.aload_n 0, 1) := by decide +kernel
theorem dX0_carValue_120 : decode cX0_carValue 120 = .ok (.getfield 12, 3) := by decide +kernel
theorem dX0_carValue_123 : decode cX0_carValue 123 = .ok (.getfield 146, 3) := by decide +kernel
theorem dX0_carValue_126 : decode cX0_carValue 126 = .ok (.invokestatic 142, 3) := by decide +kernel
theorem dX0_carValue_129 : decode cX0_carValue 129 = .ok (.ireturn, 1) := by decide +kernel
theorem dX0_wheelValue_0 : decode cX0_wheelValue 0 = .ok (.aload_n 0, 1) := by decide +kernel
theorem dX0_wheelValue_1 : decode cX0_wheelValue 1 = .ok (.getfield 22, 3) := by decide +kernel
theorem dX0_wheelValue_4 : decode cX0_wheelValue 4 = .ok (.iload_n 1, 1) := by decide +kernel
theorem dX0_wheelValue_5 : decode cX0_wheelValue 5 = .ok (.aaload, 1) := by decide +kernel
theorem dX0_wheelValue_6 : decode cX0_wheelValue 6 = .ok (.astore_n 3, 1) := by decide +kernel
theorem dX0_wheelValue_7 : decode cX0_wheelValue 7 = .ok (.iload_n 2, 1) := by decide +kernel
theorem dX0_wheelValue_8 : decode cX0_wheelValue 8 = .ok (.tableswitch 122 0 10 #[60, 65, 70, 75, 80, 85, 90, 95, 103, 108, 117], 60) := by decide +kernel
theorem dX0_wheelValue_68 : decode cX0_wheelValue 68 = .ok (.aload_n 3, 1) := by decide +kernel
theorem dX0_wheelValue_69 : decode cX0_wheelValue 69 = .ok (.getfield 150, 3) := by decide +kernel
theorem dX0_wheelValue_72 : decode cX0_wheelValue 72 = .ok (.ireturn, 1) := by decide +kernel
theorem dX0_wheelValue_73 : decode cX0_wheelValue 73 = .ok (.aload_n 3, 1) := by decide +kernel
theorem dX0_wheelValue_74 : decode cX0_wheelValue 74 = .ok (.getfield 151, 3) := by decide +kernel
theorem dX0_wheelValue_77 : decode cX0_wheelValue 77 = .ok (.ireturn, 1) := by decide +kernel
theorem dX0_wheelValue_78 : decode cX0_wheelValue 78 = .ok (.aload_n 3, 1) := by decide +kernel
theorem dX0_wheelValue_79 : decode cX0_wheelValue 79 = .ok (.getfield 154, 3) := by decide +kernel
theorem dX0_wheelValue_82 : decode cX0_wheelValue 82 = .ok (.ireturn, 1) := by decide +kernel
theorem dX0_wheelValue_83 : decode cX0_wheelValue 83 = .ok (.aload_n 3, 1) := by decide +kernel
theorem dX0_wheelValue_84 : decode cX0_wheelValue 84 = .ok (.getfield 157, 3) := by decide +kernel
theorem dX0_wheelValue_87 : decode cX0_wheelValue 87 = .ok (.ireturn, 1) := by decide +kernel
theorem dX0_wheelValue_88 : decode cX0_wheelValue 88 = .ok (.aload_n 3, 1) := by decide +kernel
theorem dX0_wheelValue_89 : decode cX0_wheelValue 89 = .ok (.getfield 160, 3) := by decide +kernel
theorem dX0_wheelValue_92 : decode cX0_wheelValue 92 = .ok (.ireturn, 1) := by decide +kernel
theorem dX0_wheelValue_93 : decode cX0_wheelValue 93 = .ok (.aload_n 3, 1) := by decide +kernel
theorem dX0_wheelValue_94 : decode cX0_wheelValue 94 = .ok (.getfield 163, 3) := by decide +kernel
theorem dX0_wheelValue_97 : decode cX0_wheelValue 97 = .ok (.ireturn, 1) := by decide +kernel
theorem dX0_wheelValue_98 : decode cX0_wheelValue 98 = .ok (.aload_n 3, 1) := by decide +kernel
theorem dX0_wheelValue_99 : decode cX0_wheelValue 99 = .ok (.getfield 166, 3) := by decide +kernel
theorem dX0_wheelValue_102 : decode cX0_wheelValue 102 = .ok (.ireturn, 1) := by decide +kernel
theorem dX0_wheelValue_103 : decode cX0_wheelValue 103 = .ok (.aload_n 3, 1) := by decide +kernel
theorem dX0_wheelValue_104 : decode cX0_wheelValue 104 = .ok (.getfield 169, 3) := by decide +kernel
theorem dX0_wheelValue_107 : decode cX0_wheelValue 107 = .ok (.invokestatic 142, 3) := by decide +kernel
theorem dX0_wheelValue_110 : decode cX0_wheelValue 110 = .ok (.ireturn, 1) := by decide +kernel
theorem dX0_wheelValue_111 : decode cX0_wheelValue 111 = .ok (.aload_n 3, 1) := by decide +kernel
theorem dX0_wheelValue_112 : decode cX0_wheelValue 112 = .ok (.getfield 172, 3) := by decide +kernel
theorem dX0_wheelValue_115 : decode cX0_wheelValue 115 = .ok (.ireturn, 1) := by decide +kernel
theorem dX0_wheelValue_116 : decode cX0_wheelValue 116 = .ok (.aload_n 3, 1) := by decide +kernel
theorem dX0_wheelValue_117 : decode cX0_wheelValue 117 = .ok (.aload_n 0, 1) := by decide +kernel
theorem dX0_wheelValue_118 : decode cX0_wheelValue 118 = .ok (.getfield 48, 3) := by decide +kernel
theorem dX0_wheelValue_121 : decode cX0_wheelValue 121 = .ok (.invokevirtual 120, 3) := by decide +kernel
theorem dX0_wheelValue_124 : decode cX0_wheelValue 124 = .ok (.ireturn, 1) := by decide +kernel
theorem dX0_wheelValue_125 : decode cX0_wheelValue 125 = .ok (.aload_n 3, 1) := by decide +kernel
theorem dX0_wheelValue_126 : decode cX0_wheelValue 126 = .ok (.getfield 175, 3) := by decide +kernel
theorem dX0_wheelValue_129 : decode cX0_wheelValue 129 = .ok (.ireturn, 1) := by decide +kernel
theorem dX0_wheelValue_130 : decode cX0_wheelValue 130 = .ok (.aload_n 3, 1) := by decide +kernel
theorem dX0_wheelValue_131 : decode cX0_wheelValue 131 = .ok (.getfield 178, 3) := by decide +kernel
theorem dX0_wheelValue_134 : decode cX0_wheelValue 134 = .ok (.ireturn, 1) := by decide +kernel
theorem dX0_mixInto_0 : decode cX0_mixInto 0 = .ok (.lload_n 1, 1) := by decide +kernel
theorem dX0_mixInto_1 : decode cX0_mixInto 1 = .ok (.lstore_n 3, 1) := by decide +kernel
theorem dX0_mixInto_2 : decode cX0_mixInto 2 = .ok (.iconst 0, 1) := by decide +kernel
theorem dX0_mixInto_3 : decode cX0_mixInto 3 = .ok (.istore 5, 2) := by decide +kernel
theorem dX0_mixInto_5 : decode cX0_mixInto 5 = .ok (.iload 5, 2) := by decide +kernel
theorem dX0_mixInto_7 : decode cX0_mixInto 7 = .ok (.bipush 10, 2) := by decide +kernel
theorem dX0_mixInto_9 : decode cX0_mixInto 9 = .ok (.if_icmp .ge 20, 3) := by decide +kernel
theorem dX0_mixInto_12 : decode cX0_mixInto 12 = .ok (.lload_n 3, 1) := by decide +kernel
theorem dX0_mixInto_13 : decode cX0_mixInto 13 = .ok (.aload_n 0, 1) := by decide +kernel
theorem dX0_mixInto_14 : decode cX0_mixInto 14 = .ok (.iload 5, 2) := by decide +kernel
theorem dX0_mixInto_16 : decode cX0_mixInto 16 = .ok (.invokevirtual 181, 3) := by decide +kernel
theorem dX0_mixInto_19 : decode cX0_mixInto 19 = .ok (.invokestatic 184, 3) := by decide +kernel
theorem dX0_mixInto_22 : decode cX0_mixInto 22 = .ok (.lstore_n 3, 1) := by decide +kernel
theorem dX0_mixInto_23 : decode cX0_mixInto 23 = .ok (.iinc 5 1, 3) := by decide +kernel
theorem dX0_mixInto_26 : decode cX0_mixInto 26 = .ok (.goto (-21), 3) := by decide +kernel
theorem dX0_mixInto_29 : decode cX0_mixInto 29 = .ok (.iconst 0, 1) := by decide +kernel
theorem dX0_mixInto_30 : decode cX0_mixInto 30 = .ok (.istore 5, 2) := by decide +kernel
theorem dX0_mixInto_32 : decode cX0_mixInto 32 = .ok (.iload 5, 2) := by decide +kernel
theorem dX0_mixInto_34 : decode cX0_mixInto 34 = .ok (.iconst 4, 1) := by decide +kernel
theorem dX0_mixInto_35 : decode cX0_mixInto 35 = .ok (.if_icmp .ge 17, 3) := by decide +kernel
theorem dX0_mixInto_38 : decode cX0_mixInto 38 = .ok (.aload_n 0, 1) := by decide +kernel
theorem dX0_mixInto_39 : decode cX0_mixInto 39 = .ok (.lload_n 3, 1) := by decide +kernel
theorem dX0_mixInto_40 : decode cX0_mixInto 40 = .ok (.iload 5, 2) := by decide +kernel
theorem dX0_mixInto_42 : decode cX0_mixInto 42 = .ok (.invokevirtual 188, 3) := by decide +kernel
theorem dX0_mixInto_45 : decode cX0_mixInto 45 = .ok (.lstore_n 3, 1) := by decide +kernel
theorem dX0_mixInto_46 : decode cX0_mixInto 46 = .ok (.iinc 5 1, 3) := by decide +kernel
theorem dX0_mixInto_49 : decode cX0_mixInto 49 = .ok (.goto (-17), 3) := by decide +kernel
theorem dX0_mixInto_52 : decode cX0_mixInto 52 = .ok (.aload_n 0, 1) := by decide +kernel
theorem dX0_mixInto_53 : decode cX0_mixInto 53 = .ok (.getfield 27, 3) := by decide +kernel
theorem dX0_mixInto_56 : decode cX0_mixInto 56 = .ok (.aload_n 0, 1) := by decide +kernel
theorem dX0_mixInto_57 : decode cX0_mixInto 57 = .ok (.getfield 38, 3) := by decide +kernel
theorem dX0_mixInto_60 : decode cX0_mixInto 60 = .ok (.aload_n 0, 1) := by decide +kernel
theorem dX0_mixInto_61 : decode cX0_mixInto 61 = .ok (.getfield 31, 3) := by decide +kernel
theorem dX0_mixInto_64 : decode cX0_mixInto 64 = .ok (.lload_n 3, 1) := by decide +kernel
theorem dX0_mixInto_65 : decode cX0_mixInto 65 = .ok (.invokevirtual 191, 3) := by decide +kernel
theorem dX0_mixInto_68 : decode cX0_mixInto 68 = .ok (.invokevirtual 195, 3) := by decide +kernel
theorem dX0_mixInto_71 : decode cX0_mixInto 71 = .ok (.invokevirtual 196, 3) := by decide +kernel
theorem dX0_mixInto_74 : decode cX0_mixInto 74 = .ok (.lreturn, 1) := by decide +kernel
theorem dX0_mixWheel_0 : decode cX0_mixWheel 0 = .ok (.lload_n 1, 1) := by decide +kernel
theorem dX0_mixWheel_1 : decode cX0_mixWheel 1 = .ok (.lstore 4, 2) := by decide +kernel
theorem dX0_mixWheel_3 : decode cX0_mixWheel 3 = .ok (.iconst 0, 1) := by decide +kernel
theorem dX0_mixWheel_4 : decode cX0_mixWheel 4 = .ok (.istore 6, 2) := by decide +kernel
theorem dX0_mixWheel_6 : decode cX0_mixWheel 6 = .ok (.iload 6, 2) := by decide +kernel
theorem dX0_mixWheel_8 : decode cX0_mixWheel 8 = .ok (.bipush 12, 2) := by decide +kernel
theorem dX0_mixWheel_10 : decode cX0_mixWheel 10 = .ok (.if_icmp .ge 23, 3) := by decide +kernel
theorem dX0_mixWheel_13 : decode cX0_mixWheel 13 = .ok (.lload 4, 2) := by decide +kernel
theorem dX0_mixWheel_15 : decode cX0_mixWheel 15 = .ok (.aload_n 0, 1) := by decide +kernel
theorem dX0_mixWheel_16 : decode cX0_mixWheel 16 = .ok (.iload_n 3, 1) := by decide +kernel
theorem dX0_mixWheel_17 : decode cX0_mixWheel 17 = .ok (.iload 6, 2) := by decide +kernel
theorem dX0_mixWheel_19 : decode cX0_mixWheel 19 = .ok (.invokevirtual 199, 3) := by decide +kernel
theorem dX0_mixWheel_22 : decode cX0_mixWheel 22 = .ok (.invokestatic 184, 3) := by decide +kernel
theorem dX0_mixWheel_25 : decode cX0_mixWheel 25 = .ok (.lstore 4, 2) := by decide +kernel
theorem dX0_mixWheel_27 : decode cX0_mixWheel 27 = .ok (.iinc 6 1, 3) := by decide +kernel
theorem dX0_mixWheel_30 : decode cX0_mixWheel 30 = .ok (.goto (-24), 3) := by decide +kernel
theorem dX0_mixWheel_33 : decode cX0_mixWheel 33 = .ok (.lload 4, 2) := by decide +kernel
theorem dX0_mixWheel_35 : decode cX0_mixWheel 35 = .ok (.aload_n 0, 1) := by decide +kernel
theorem dX0_mixWheel_36 : decode cX0_mixWheel 36 = .ok (.iload_n 3, 1) := by decide +kernel
theorem dX0_mixWheel_37 : decode cX0_mixWheel 37 = .ok (.invokevirtual 109, 3) := by decide +kernel
theorem dX0_mixWheel_40 : decode cX0_mixWheel 40 = .ok (.invokestatic 184, 3) := by decide +kernel
theorem dX0_mixWheel_43 : decode cX0_mixWheel 43 = .ok (.lstore 4, 2) := by decide +kernel
theorem dX0_mixWheel_45 : decode cX0_mixWheel 45 = .ok (.lload 4, 2) := by decide +kernel
theorem dX0_mixWheel_47 : decode cX0_mixWheel 47 = .ok (.aload_n 0, 1) := by decide +kernel
theorem dX0_mixWheel_48 : decode cX0_mixWheel 48 = .ok (.getfield 22, 3) := by decide +kernel
theorem dX0_mixWheel_51 : decode cX0_mixWheel 51 = .ok (.iload_n 3, 1) := by decide +kernel
theorem dX0_mixWheel_52 : decode cX0_mixWheel 52 = .ok (.aaload, 1) := by decide +kernel
theorem dX0_mixWheel_53 : decode cX0_mixWheel 53 = .ok (.getfield 202, 3) := by decide +kernel
theorem dX0_mixWheel_56 : decode cX0_mixWheel 56 = .ok (.invokestatic 142, 3) := by decide +kernel
theorem dX0_mixWheel_59 : decode cX0_mixWheel 59 = .ok (.invokestatic 184, 3) := by decide +kernel
theorem dX0_mixWheel_62 : decode cX0_mixWheel 62 = .ok (.lreturn, 1) := by decide +kernel
theorem dX1_init_0 : decode cX1_init 0 = .ok (.aload_n 0, 1) := by decide +kernel
theorem dX1_init_1 : decode cX1_init 1 = .ok (.invokespecial 3, 3) := by decide +kernel
theorem dX1_init_4 : decode cX1_init 4 = .ok (.aload_n 0, 1) := by decide +kernel
theorem dX1_init_5 : decode cX1_init 5 = .ok (.iconst 4, 1) := by decide +kernel
theorem dX1_init_6 : decode cX1_init 6 = .ok (.anewarray 9, 3) := by decide +kernel
theorem dX1_init_9 : decode cX1_init 9 = .ok (.putfield 11, 3) := by decide +kernel
theorem dX1_init_12 : decode cX1_init 12 = .ok (.iconst 0, 1) := by decide +kernel
theorem dX1_init_13 : decode cX1_init 13 = .ok (.istore_n 1, 1) := by decide +kernel
theorem dX1_init_14 : decode cX1_init 14 = .ok (.iload_n 1, 1) := by decide +kernel
theorem dX1_init_15 : decode cX1_init 15 = .ok (.iconst 4, 1) := by decide +kernel
theorem dX1_init_16 : decode cX1_init 16 = .ok (.if_icmp .ge 22, 3) := by decide +kernel
theorem dX1_init_19 : decode cX1_init 19 = .ok (.aload_n 0, 1) := by decide +kernel
theorem dX1_init_20 : decode cX1_init 20 = .ok (.getfield 11, 3) := by decide +kernel
theorem dX1_init_23 : decode cX1_init 23 = .ok (.iload_n 1, 1) := by decide +kernel
theorem dX1_init_24 : decode cX1_init 24 = .ok (.new 9, 3) := by decide +kernel
theorem dX1_init_27 : decode cX1_init 27 = .ok (.dup, 1) := by decide +kernel
theorem dX1_init_28 : decode cX1_init 28 = .ok (.invokespecial 17, 3) := by decide +kernel
theorem dX1_init_31 : decode cX1_init 31 = .ok (.aastore, 1) := by decide +kernel
theorem dX1_init_32 : decode cX1_init 32 = .ok (.iinc 1 1, 3) := by decide +kernel
theorem dX1_init_35 : decode cX1_init 35 = .ok (.goto (-21), 3) := by decide +kernel
theorem dX1_init_38 : decode cX1_init 38 = .ok (.aload_n 0, 1) := by decide +kernel
theorem dX1_init_39 : decode cX1_init 39 = .ok (.new 18, 3) := by decide +kernel
theorem dX1_init_42 : decode cX1_init 42 = .ok (.dup, 1) := by decide +kernel
theorem dX1_init_43 : decode cX1_init 43 = .ok (.invokespecial 20, 3) := by decide +kernel
theorem dX1_init_46 : decode cX1_init 46 = .ok (.putfield 21, 3) := by decide +kernel
theorem dX1_init_49 : decode cX1_init 49 = .ok (.return_, 1) := by decide +kernel
theorem dX1_clear_0 : decode cX1_clear 0 = .ok (.iconst 0, 1) := by decide +kernel
theorem dX1_clear_1 : decode cX1_clear 1 = .ok (.istore_n 1, 1) := by decide +kernel
theorem dX1_clear_2 : decode cX1_clear 2 = .ok (.iload_n 1, 1) := by decide +kernel
theorem dX1_clear_3 : decode cX1_clear 3 = .ok (.iconst 4, 1) := by decide +kernel
theorem dX1_clear_4 : decode cX1_clear 4 = .ok (.if_icmp .ge 18, 3) := by decide +kernel
theorem dX1_clear_7 : decode cX1_clear 7 = .ok (.aload_n 0, 1) := by decide +kernel
theorem dX1_clear_8 : decode cX1_clear 8 = .ok (.getfield 11, 3) := by decide +kernel
theorem dX1_clear_11 : decode cX1_clear 11 = .ok (.iload_n 1, 1) := by decide +kernel
theorem dX1_clear_12 : decode cX1_clear 12 = .ok (.aaload, 1) := by decide +kernel
theorem dX1_clear_13 : decode cX1_clear 13 = .ok (.invokevirtual 25, 3) := by decide +kernel
theorem dX1_clear_16 : decode cX1_clear 16 = .ok (.iinc 1 1, 3) := by decide +kernel
theorem dX1_clear_19 : decode cX1_clear 19 = .ok (.goto (-17), 3) := by decide +kernel
theorem dX1_clear_22 : decode cX1_clear 22 = .ok (.aload_n 0, 1) := by decide +kernel
theorem dX1_clear_23 : decode cX1_clear 23 = .ok (.getfield 21, 3) := by decide +kernel
theorem dX1_clear_26 : decode cX1_clear 26 = .ok (.invokevirtual 28, 3) := by decide +kernel
theorem dX1_clear_29 : decode cX1_clear 29 = .ok (.aload_n 0, 1) := by decide +kernel
theorem dX1_clear_30 : decode cX1_clear 30 = .ok (.iconst 0, 1) := by decide +kernel
theorem dX1_clear_31 : decode cX1_clear 31 = .ok (.invokevirtual 29, 3) := by decide +kernel
theorem dX1_clear_34 : decode cX1_clear 34 = .ok (.aload_n 0, 1) := by decide +kernel
theorem dX1_clear_35 : decode cX1_clear 35 = .ok (.iconst 1, 1) := by decide +kernel
theorem dX1_clear_36 : decode cX1_clear 36 = .ok (.putfield 33, 3) := by decide +kernel
theorem dX1_clear_39 : decode cX1_clear 39 = .ok (.aload_n 0, 1) := by decide +kernel
theorem dX1_clear_40 : decode cX1_clear 40 = .ok (.iconst 0, 1) := by decide +kernel
theorem dX1_clear_41 : decode cX1_clear 41 = .ok (.putfield 37, 3) := by decide +kernel
theorem dX1_clear_44 : decode cX1_clear 44 = .ok (.return_, 1) := by decide +kernel
theorem dX1_startAt_0 : decode cX1_startAt 0 = .ok (.iconst 0, 1) := by decide +kernel
theorem dX1_startAt_1 : decode cX1_startAt 1 = .ok (.istore_n 2, 1) := by decide +kernel
theorem dX1_startAt_2 : decode cX1_startAt 2 = .ok (.iload_n 2, 1) := by decide +kernel
theorem dX1_startAt_3 : decode cX1_startAt 3 = .ok (.iconst 4, 1) := by decide +kernel
theorem dX1_startAt_4 : decode cX1_startAt 4 = .ok (.if_icmp .ge 19, 3) := by decide +kernel
theorem dX1_startAt_7 : decode cX1_startAt 7 = .ok (.aload_n 0, 1) := by decide +kernel
theorem dX1_startAt_8 : decode cX1_startAt 8 = .ok (.getfield 11, 3) := by decide +kernel
theorem dX1_startAt_11 : decode cX1_startAt 11 = .ok (.iload_n 2, 1) := by decide +kernel
theorem dX1_startAt_12 : decode cX1_startAt 12 = .ok (.aaload, 1) := by decide +kernel
theorem dX1_startAt_13 : decode cX1_startAt 13 = .ok (.iload_n 1, 1) := by decide +kernel
theorem dX1_startAt_14 : decode cX1_startAt 14 = .ok (.invokevirtual 41, 3) := by decide +kernel
theorem dX1_startAt_17 : decode cX1_startAt 17 = .ok (.iinc 2 1, 3) := by decide +kernel
theorem dX1_startAt_20 : decode cX1_startAt 20 = .ok (.goto (-18), 3) := by decide +kernel
theorem dX1_startAt_23 : decode cX1_startAt 23 = .ok (.aload_n 0, 1) := by decide +kernel
theorem dX1_startAt_24 : decode cX1_startAt 24 = .ok (.iload_n 1, 1) := by decide +kernel
theorem dX1_startAt_25 : decode cX1_startAt 25 = .ok (.putfield 42, 3) := by decide +kernel
theorem dX1_startAt_28 : decode cX1_startAt 28 = .ok (.aload_n 0, 1) := by decide +kernel
theorem dX1_startAt_29 : decode cX1_startAt 29 = .ok (.iconst 0, 1) := by decide +kernel
theorem dX1_startAt_30 : decode cX1_startAt 30 = .ok (.putfield 45, 3) := by decide +kernel
theorem dX1_startAt_33 : decode cX1_startAt 33 = .ok (.aload_n 0, 1) := by decide +kernel
theorem dX1_startAt_34 : decode cX1_startAt 34 = .ok (.sipush 150, 3) := by decide +kernel
theorem dX1_startAt_37 : decode cX1_startAt 37 = .ok (.putfield 48, 3) := by decide +kernel
theorem dX1_startAt_40 : decode cX1_startAt 40 = .ok (.aload_n 0, 1) := by decide +kernel
theorem dX1_startAt_41 : decode cX1_startAt 41 = .ok (.iconst 0, 1) := by decide +kernel
theorem dX1_startAt_42 : decode cX1_startAt 42 = .ok (.putfield 51, 3) := by decide +kernel
theorem dX1_startAt_45 : decode cX1_startAt 45 = .ok (.return_, 1) := by decide +kernel
theorem dX1_copyFrom_0 : decode cX1_copyFrom 0 = .ok (.iconst 0, 1) := by decide +kernel
theorem dX1_copyFrom_1 : decode cX1_copyFrom 1 = .ok (.istore_n 2, 1) := by decide +kernel
theorem dX1_copyFrom_2 : decode cX1_copyFrom 2 = .ok (.iload_n 2, 1) := by decide +kernel
theorem dX1_copyFrom_3 : decode cX1_copyFrom 3 = .ok (.iconst 4, 1) := by decide +kernel
theorem dX1_copyFrom_4 : decode cX1_copyFrom 4 = .ok (.if_icmp .ge 24, 3) := by decide +kernel
theorem dX1_copyFrom_7 : decode cX1_copyFrom 7 = .ok (.aload_n 0, 1) := by decide +kernel
theorem dX1_copyFrom_8 : decode cX1_copyFrom 8 = .ok (.getfield 11, 3) := by decide +kernel
theorem dX1_copyFrom_11 : decode cX1_copyFrom 11 = .ok (.iload_n 2, 1) := by decide +kernel
theorem dX1_copyFrom_12 : decode cX1_copyFrom 12 = .ok (.aaload, 1) := by decide +kernel
theorem dX1_copyFrom_13 : decode cX1_copyFrom 13 = .ok (.aload_n 1, 1) := by decide +kernel
theorem dX1_copyFrom_14 : decode cX1_copyFrom 14 = .ok (.getfield 11, 3) := by decide +kernel
theorem dX1_copyFrom_17 : decode cX1_copyFrom 17 = .ok (.iload_n 2, 1) := by decide +kernel
theorem dX1_copyFrom_18 : decode cX1_copyFrom 18 = .ok (.aaload, 1) := by decide +kernel
theorem dX1_copyFrom_19 : decode cX1_copyFrom 19 = .ok (.invokevirtual 54, 3) := by decide +kernel
theorem dX1_copyFrom_22 : decode cX1_copyFrom 22 = .ok (.iinc 2 1, 3) := by decide +kernel
theorem dX1_copyFrom_25 : decode cX1_copyFrom 25 = .ok (.goto (-23), 3) := by decide +kernel
theorem dX1_copyFrom_28 : decode cX1_copyFrom 28 = .ok (.aload_n 0, 1) := by decide +kernel
theorem dX1_copyFrom_29 : decode cX1_copyFrom 29 = .ok (.getfield 21, 3) := by decide +kernel
theorem dX1_copyFrom_32 : decode cX1_copyFrom 32 = .ok (.aload_n 1, 1) := by decide +kernel
theorem dX1_copyFrom_33 : decode cX1_copyFrom 33 = .ok (.getfield 21, 3) := by decide +kernel
theorem dX1_copyFrom_36 : decode cX1_copyFrom 36 = .ok (.invokevirtual 58, 3) := by decide +kernel
theorem dX1_copyFrom_39 : decode cX1_copyFrom 39 = .ok (.aload_n 0, 1) := by decide +kernel
theorem dX1_copyFrom_40 : decode cX1_copyFrom 40 = .ok (.aload_n 1, 1) := by decide +kernel
theorem dX1_copyFrom_41 : decode cX1_copyFrom 41 = .ok (.getfield 33, 3) := by decide +kernel
theorem dX1_copyFrom_44 : decode cX1_copyFrom 44 = .ok (.putfield 33, 3) := by decide +kernel
theorem dX1_copyFrom_47 : decode cX1_copyFrom 47 = .ok (.aload_n 0, 1) := by decide +kernel
theorem dX1_copyFrom_48 : decode cX1_copyFrom 48 = .ok (.aload_n 1, 1) := by decide +kernel
theorem dX1_copyFrom_49 : decode cX1_copyFrom 49 = .ok (.getfield 42, 3) := by decide +kernel
theorem dX1_copyFrom_52 : decode cX1_copyFrom 52 = .ok (.putfield 42, 3) := by decide +kernel
theorem dX1_copyFrom_55 : decode cX1_copyFrom 55 = .ok (.aload_n 0, 1) := by decide +kernel
theorem dX1_copyFrom_56 : decode cX1_copyFrom 56 = .ok (.aload_n 1, 1) := by decide +kernel
theorem dX1_copyFrom_57 : decode cX1_copyFrom 57 = .ok (.getfield 45, 3) := by decide +kernel
theorem dX1_copyFrom_60 : decode cX1_copyFrom 60 = .ok (.putfield 45, 3) := by decide +kernel
theorem dX1_copyFrom_63 : decode cX1_copyFrom 63 = .ok (.aload_n 0, 1) := by decide +kernel
theorem dX1_copyFrom_64 : decode cX1_copyFrom 64 = .ok (.aload_n 1, 1) := by decide +kernel
theorem dX1_copyFrom_65 : decode cX1_copyFrom 65 = .ok (.getfield 37, 3) := by decide +kernel
theorem dX1_copyFrom_68 : decode cX1_copyFrom 68 = .ok (.putfield 37, 3) := by decide +kernel
theorem dX1_copyFrom_71 : decode cX1_copyFrom 71 = .ok (.aload_n 0, 1) := by decide +kernel
theorem dX1_copyFrom_72 : decode cX1_copyFrom 72 = .ok (.aload_n 1, 1) := by decide +kernel
theorem dX1_copyFrom_73 : decode cX1_copyFrom 73 = .ok (.getfield 48, 3) := by decide +kernel
theorem dX1_copyFrom_76 : decode cX1_copyFrom 76 = .ok (.putfield 48, 3) := by decide +kernel
theorem dX1_copyFrom_79 : decode cX1_copyFrom 79 = .ok (.aload_n 0, 1) := by decide +kernel
theorem dX1_copyFrom_80 : decode cX1_copyFrom 80 = .ok (.aload_n 1, 1) := by decide +kernel
theorem dX1_copyFrom_81 : decode cX1_copyFrom 81 = .ok (.getfield 51, 3) := by decide +kernel
theorem dX1_copyFrom_84 : decode cX1_copyFrom 84 = .ok (.putfield 51, 3) := by decide +kernel
theorem dX1_copyFrom_87 : decode cX1_copyFrom 87 = .ok (.return_, 1) := by decide +kernel
theorem dX1_act_0 : decode cX1_act 0 = .ok (.aload_n 0, 1) := by decide +kernel
theorem dX1_act_1 : decode cX1_act 1 = .ok (.invokevirtual 61, 3) := by decide +kernel
theorem dX1_act_4 : decode cX1_act 4 = .ok (.aload_n 0, 1) := by decide +kernel
theorem dX1_act_5 : decode cX1_act 5 = .ok (.invokevirtual 64, 3) := by decide +kernel
theorem dX1_act_8 : decode cX1_act 8 = .ok (.aload_n 0, 1) := by decide +kernel
theorem dX1_act_9 : decode cX1_act 9 = .ok (.invokevirtual 67, 3) := by decide +kernel
theorem dX1_act_12 : decode cX1_act 12 = .ok (.aload_n 0, 1) := by decide +kernel
theorem dX1_act_13 : decode cX1_act 13 = .ok (.iload_n 1, 1) := by decide +kernel
theorem dX1_act_14 : decode cX1_act 14 = .ok (.invokevirtual 70, 3) := by decide +kernel
theorem dX1_act_17 : decode cX1_act 17 = .ok (.aload_n 0, 1) := by decide +kernel
theorem dX1_act_18 : decode cX1_act 18 = .ok (.iload_n 2, 1) := by decide +kernel
theorem dX1_act_19 : decode cX1_act 19 = .ok (.invokevirtual 73, 3) := by decide +kernel
theorem dX1_act_22 : decode cX1_act 22 = .ok (.aload_n 0, 1) := by decide +kernel
theorem dX1_act_23 : decode cX1_act 23 = .ok (.iload_n 1, 1) := by decide +kernel
theorem dX1_act_24 : decode cX1_act 24 = .ok (.invokevirtual 76, 3) := by decide +kernel
theorem dX1_act_27 : decode cX1_act 27 = .ok (.aload_n 0, 1) := by decide +kernel
theorem dX1_act_28 : decode cX1_act 28 = .ok (.iload_n 1, 1) := by decide +kernel
theorem dX1_act_29 : decode cX1_act 29 = .ok (.iload_n 2, 1) := by decide +kernel
theorem dX1_act_30 : decode cX1_act 30 = .ok (.invokevirtual 79, 3) := by decide +kernel
theorem dX1_act_33 : decode cX1_act 33 = .ok (.aload_n 0, 1) := by decide +kernel
theorem dX1_act_34 : decode cX1_act 34 = .ok (.invokevirtual 83, 3) := by decide +kernel
theorem dX1_act_37 : decode cX1_act 37 = .ok (.aload_n 0, 1) := by decide +kernel
theorem dX1_act_38 : decode cX1_act 38 = .ok (.invokevirtual 86, 3) := by decide +kernel
theorem dX1_act_41 : decode cX1_act 41 = .ok (.return_, 1) := by decide +kernel
theorem dX1_isActive_0 : decode cX1_isActive 0 = .ok (.aload_n 0, 1) := by decide +kernel
theorem dX1_isActive_1 : decode cX1_isActive 1 = .ok (.getfield 33, 3) := by decide +kernel
theorem dX1_isActive_4 : decode cX1_isActive 4 = .ok (.ifCond .eq 29, 3) := by decide +kernel
theorem dX1_isActive_7 : decode cX1_isActive 7 = .ok (.iload_n 1, 1) := by decide +kernel
theorem dX1_isActive_8 : decode cX1_isActive 8 = .ok (.ifCond .le 25, 3) := by decide +kernel
theorem dX1_isActive_11 : decode cX1_isActive 11 = .ok (.aload_n 0, 1) := by decide +kernel
theorem dX1_isActive_12 : decode cX1_isActive 12 = .ok (.getfield 42, 3) := by decide +kernel
theorem dX1_isActive_15 : decode cX1_isActive 15 = .ok (.sipush 1400, 3) := by decide +kernel
theorem dX1_isActive_18 : decode cX1_isActive 18 = .ok (.if_icmp .lt 15, 3) := by decide +kernel
theorem dX1_isActive_21 : decode cX1_isActive 21 = .ok (.aload_n 0, 1) := by decide +kernel
theorem dX1_isActive_22 : decode cX1_isActive 22 = .ok (.invokevirtual 89, 3) := by decide +kernel
theorem dX1_isActive_25 : decode cX1_isActive 25 = .ok (.iconst 2, 1) := by decide +kernel
theorem dX1_isActive_26 : decode cX1_isActive 26 = .ok (.if_icmp .ge 7, 3) := by decide +kernel
theorem dX1_isActive_29 : decode cX1_isActive 29 = .ok (.iconst 1, 1) := by decide +kernel
theorem dX1_isActive_30 : decode cX1_isActive 30 = .ok (.goto 4, 3) := by decide +kernel
theorem dX1_isActive_33 : decode cX1_isActive 33 = .ok (.iconst 0, 1) := by decide +kernel
theorem dX1_isActive_34 : decode cX1_isActive 34 = .ok (.ireturn, 1) := by decide +kernel
theorem dX1_takeBackWheels_0 : decode cX1_takeBackWheels 0 = .ok (.aload_n 0, 1) := by decide +kernel
theorem dX1_takeBackWheels_1 : decode cX1_takeBackWheels 1 = .ok (.invokevirtual 89, 3) := by decide +kernel
theorem dX1_takeBackWheels_4 : decode cX1_takeBackWheels 4 = .ok (.istore_n 1, 1) := by decide +kernel
theorem dX1_takeBackWheels_5 : decode cX1_takeBackWheels 5 = .ok (.iconst 0, 1) := by decide +kernel
theorem dX1_takeBackWheels_6 : decode cX1_takeBackWheels 6 = .ok (.istore_n 2, 1) := by decide +kernel
theorem dX1_takeBackWheels_7 : decode cX1_takeBackWheels 7 = .ok (.iload_n 2, 1) := by decide +kernel
theorem dX1_takeBackWheels_8 : decode cX1_takeBackWheels 8 = .ok (.iconst 4, 1) := by decide +kernel
theorem dX1_takeBackWheels_9 : decode cX1_takeBackWheels 9 = .ok (.if_icmp .ge 29, 3) := by decide +kernel
theorem dX1_takeBackWheels_12 : decode cX1_takeBackWheels 12 = .ok (.aload_n 0, 1) := by decide +kernel
theorem dX1_takeBackWheels_13 : decode cX1_takeBackWheels 13 = .ok (.getfield 11, 3) := by decide +kernel
theorem dX1_takeBackWheels_16 : decode cX1_takeBackWheels 16 = .ok (.iload_n 2, 1) := by decide +kernel
theorem dX1_takeBackWheels_17 : decode cX1_takeBackWheels 17 = .ok (.aaload, 1) := by decide +kernel
theorem dX1_takeBackWheels_18 : decode cX1_takeBackWheels 18 = .ok (.iconst 0, 1) := by decide +kernel
theorem dX1_takeBackWheels_19 : decode cX1_takeBackWheels 19 = .ok (.putfield 93, 3) := by decide +kernel
theorem dX1_takeBackWheels_22 : decode cX1_takeBackWheels 22 = .ok (.aload_n 0, 1) := by decide +kernel
theorem dX1_takeBackWheels_23 : decode cX1_takeBackWheels 23 = .ok (.getfield 11, 3) := by decide +kernel
theorem dX1_takeBackWheels_26 : decode cX1_takeBackWheels 26 = .ok (.iload_n 2, 1) := by decide +kernel
theorem dX1_takeBackWheels_27 : decode cX1_takeBackWheels 27 = .ok (.aaload, 1) := by decide +kernel
theorem dX1_takeBackWheels_28 : decode cX1_takeBackWheels 28 = .ok (.iconst 0, 1) := by decide +kernel
theorem dX1_takeBackWheels_29 : decode cX1_takeBackWheels 29 = .ok (.putfield 96, 3) := by decide +kernel
theorem dX1_takeBackWheels_32 : decode cX1_takeBackWheels 32 = .ok (.iinc 2 1, 3) := by decide +kernel
theorem dX1_takeBackWheels_35 : decode cX1_takeBackWheels 35 = .ok (.goto (-28), 3) := by decide +kernel
theorem dX1_takeBackWheels_38 : decode cX1_takeBackWheels 38 = .ok (.iload_n 1, 1) := by decide +kernel
theorem dX1_takeBackWheels_39 : decode cX1_takeBackWheels 39 = .ok (.ireturn, 1) := by decide +kernel
theorem dX1_excludedWheels_0 : decode cX1_excludedWheels 0 = .ok (.iconst 0, 1) := by decide +kernel
theorem dX1_excludedWheels_1 : decode cX1_excludedWheels 1 = .ok (.istore_n 1, 1) := by decide +kernel
theorem dX1_excludedWheels_2 : decode cX1_excludedWheels 2 = .ok (.iconst 0, 1) := by decide +kernel
theorem dX1_excludedWheels_3 : decode cX1_excludedWheels 3 = .ok (.istore_n 2, 1) := by decide +kernel
theorem dX1_excludedWheels_4 : decode cX1_excludedWheels 4 = .ok (.iload_n 2, 1) := by decide +kernel
theorem dX1_excludedWheels_5 : decode cX1_excludedWheels 5 = .ok (.iconst 4, 1) := by decide +kernel
theorem dX1_excludedWheels_6 : decode cX1_excludedWheels 6 = .ok (.if_icmp .ge 24, 3) := by decide +kernel
theorem dX1_excludedWheels_9 : decode cX1_excludedWheels 9 = .ok (.aload_n 0, 1) := by decide +kernel
theorem dX1_excludedWheels_10 : decode cX1_excludedWheels 10 = .ok (.getfield 11, 3) := by decide +kernel
theorem dX1_excludedWheels_13 : decode cX1_excludedWheels 13 = .ok (.iload_n 2, 1) := by decide +kernel
theorem dX1_excludedWheels_14 : decode cX1_excludedWheels 14 = .ok (.aaload, 1) := by decide +kernel
theorem dX1_excludedWheels_15 : decode cX1_excludedWheels 15 = .ok (.getfield 93, 3) := by decide +kernel
theorem dX1_excludedWheels_18 : decode cX1_excludedWheels 18 = .ok (.ifCond .eq 6, 3) := by decide +kernel
theorem dX1_excludedWheels_21 : decode cX1_excludedWheels 21 = .ok (.iinc 1 1, 3) := by decide +kernel
theorem dX1_excludedWheels_24 : decode cX1_excludedWheels 24 = .ok (.iinc 2 1, 3) := by decide +kernel
theorem dX1_excludedWheels_27 : decode cX1_excludedWheels 27 = .ok (.goto (-23), 3) := by decide +kernel
theorem dX1_excludedWheels_30 : decode cX1_excludedWheels 30 = .ok (.iload_n 1, 1) := by decide +kernel
theorem dX1_excludedWheels_31 : decode cX1_excludedWheels 31 = .ok (.ireturn, 1) := by decide +kernel
theorem dX1_isFrontExcluded_0 : decode cX1_isFrontExcluded 0 = .ok (.aload_n 0, 1) := by decide +kernel
theorem dX1_isFrontExcluded_1 : decode cX1_isFrontExcluded 1 = .ok (.getfield 11, 3) := by decide +kernel
theorem dX1_isFrontExcluded_4 : decode cX1_isFrontExcluded 4 = .ok (.iconst 0, 1) := by decide +kernel
theorem dX1_isFrontExcluded_5 : decode cX1_isFrontExcluded 5 = .ok (.aaload, 1) := by decide +kernel
theorem dX1_isFrontExcluded_6 : decode cX1_isFrontExcluded 6 = .ok (.getfield 93, 3) := by decide +kernel
theorem dX1_isFrontExcluded_9 : decode cX1_isFrontExcluded 9 = .ok (.ifCond .ne 15, 3) := by decide +kernel
theorem dX1_isFrontExcluded_12 : decode cX1_isFrontExcluded 12 = .ok (.aload_n 0, 1) := by decide +kernel
theorem dX1_isFrontExcluded_13 : decode cX1_isFrontExcluded 13 = .ok (.getfield 11, 3) := by decide +kernel
theorem dX1_isFrontExcluded_16 : decode cX1_isFrontExcluded 16 = .ok (.iconst 1, 1) := by decide +kernel
theorem dX1_isFrontExcluded_17 : decode cX1_isFrontExcluded 17 = .ok (.aaload, 1) := by decide +kernel
theorem dX1_isFrontExcluded_18 : decode cX1_isFrontExcluded 18 = .ok (.getfield 93, 3) := by decide +kernel
theorem dX1_isFrontExcluded_21 : decode cX1_isFrontExcluded 21 = .ok (.ifCond .eq 7, 3) := by decide +kernel
theorem dX1_isFrontExcluded_24 : decode cX1_isFrontExcluded 24 = .ok (.iconst 1, 1) := by decide +kernel
theorem dX1_isFrontExcluded_25 : decode cX1_isFrontExcluded 25 = .ok (.goto 4, 3) := by decide +kernel
theorem dX1_isFrontExcluded_28 : decode cX1_isFrontExcluded 28 = .ok (.iconst 0, 1) := by decide +kernel
theorem dX1_isFrontExcluded_29 : decode cX1_isFrontExcluded 29 = .ok (.ireturn, 1) := by decide +kernel
theorem dX1_isRearExcluded_0 : decode cX1_isRearExcluded 0 = .ok (.aload_n 0, 1) := by decide +kernel
theorem dX1_isRearExcluded_1 : decode cX1_isRearExcluded 1 = .ok (.getfield 11, 3) := by decide +kernel
theorem dX1_isRearExcluded_4 : decode cX1_isRearExcluded 4 = .ok (.iconst 2, 1) := by decide +kernel
theorem dX1_isRearExcluded_5 : decode cX1_isRearExcluded 5 = .ok (.aaload, 1) := by decide +kernel
theorem dX1_isRearExcluded_6 : decode cX1_isRearExcluded 6 = .ok (.getfield 93, 3) := by decide +kernel
theorem dX1_isRearExcluded_9 : decode cX1_isRearExcluded 9 = .ok (.ifCond .ne 15, 3) := by decide +kernel
theorem dX1_isRearExcluded_12 : decode cX1_isRearExcluded 12 = .ok (.aload_n 0, 1) := by decide +kernel
theorem dX1_isRearExcluded_13 : decode cX1_isRearExcluded 13 = .ok (.getfield 11, 3) := by decide +kernel
theorem dX1_isRearExcluded_16 : decode cX1_isRearExcluded 16 = .ok (.iconst 3, 1) := by decide +kernel
theorem dX1_isRearExcluded_17 : decode cX1_isRearExcluded 17 = .ok (.aaload, 1) := by decide +kernel
theorem dX1_isRearExcluded_18 : decode cX1_isRearExcluded 18 = .ok (.getfield 93, 3) := by decide +kernel
theorem dX1_isRearExcluded_21 : decode cX1_isRearExcluded 21 = .ok (.ifCond .eq 7, 3) := by decide +kernel
theorem dX1_isRearExcluded_24 : decode cX1_isRearExcluded 24 = .ok (.iconst 1, 1) := by decide +kernel
theorem dX1_isRearExcluded_25 : decode cX1_isRearExcluded 25 = .ok (.goto 4, 3) := by decide +kernel
theorem dX1_isRearExcluded_28 : decode cX1_isRearExcluded 28 = .ok (.iconst 0, 1) := by decide +kernel
theorem dX1_isRearExcluded_29 : decode cX1_isRearExcluded 29 = .ok (.ireturn, 1) := by decide +kernel
theorem dX1_measureWheels_0 : decode cX1_measureWheels 0 = .ok (.iconst 0, 1) := by decide +kernel
theorem dX1_measureWheels_1 : decode cX1_measureWheels 1 = .ok (.istore_n 1, 1) := by decide +kernel
theorem dX1_measureWheels_2 : decode cX1_measureWheels 2 = .ok (.iload_n 1, 1) := by decide +kernel
theorem dX1_measureWheels_3 : decode cX1_measureWheels 3 = .ok (.iconst 4, 1) := by decide +kernel
theorem dX1_measureWheels_4 : decode cX1_measureWheels 4 = .ok (.if_icmp .ge 18, 3) := by decide +kernel
theorem dX1_measureWheels_7 : decode cX1_measureWheels 7 = .ok (.aload_n 0, 1) := by decide +kernel
theorem dX1_measureWheels_8 : decode cX1_measureWheels 8 = .ok (.getfield 11, 3) := by decide +kernel
theorem dX1_measureWheels_11 : decode cX1_measureWheels 11 = .ok (.iload_n 1, 1) := by decide +kernel
theorem dX1_measureWheels_12 : decode cX1_measureWheels 12 = .ok (.aaload, 1) := by decide +kernel
theorem dX1_measureWheels_13 : decode cX1_measureWheels 13 = .ok (.invokevirtual 99, 3) := by decide +kernel
theorem dX1_measureWheels_16 : decode cX1_measureWheels 16 = .ok (.iinc 1 1, 3) := by decide +kernel
theorem dX1_measureWheels_19 : decode cX1_measureWheels 19 = .ok (.goto (-17), 3) := by decide +kernel
theorem dX1_measureWheels_22 : decode cX1_measureWheels 22 = .ok (.return_, 1) := by decide +kernel
theorem dX1_followReference_0 : decode cX1_followReference 0 = .ok (.iconst 0, 1) := by decide +kernel
theorem dX1_followReference_1 : decode cX1_followReference 1 = .ok (.istore_n 1, 1) := by decide +kernel
theorem dX1_followReference_2 : decode cX1_followReference 2 = .ok (.iconst 0, 1) := by decide +kernel
theorem dX1_followReference_3 : decode cX1_followReference 3 = .ok (.istore_n 2, 1) := by decide +kernel
theorem dX1_followReference_4 : decode cX1_followReference 4 = .ok (.iload_n 2, 1) := by decide +kernel
theorem dX1_followReference_5 : decode cX1_followReference 5 = .ok (.iconst 4, 1) := by decide +kernel
theorem dX1_followReference_6 : decode cX1_followReference 6 = .ok (.if_icmp .ge 35, 3) := by decide +kernel
theorem dX1_followReference_9 : decode cX1_followReference 9 = .ok (.aload_n 0, 1) := by decide +kernel
theorem dX1_followReference_10 : decode cX1_followReference 10 = .ok (.getfield 11, 3) := by decide +kernel
theorem dX1_followReference_13 : decode cX1_followReference 13 = .ok (.iload_n 2, 1) := by decide +kernel
theorem dX1_followReference_14 : decode cX1_followReference 14 = .ok (.aaload, 1) := by decide +kernel
theorem dX1_followReference_15 : decode cX1_followReference 15 = .ok (.getfield 93, 3) := by decide +kernel
theorem dX1_followReference_18 : decode cX1_followReference 18 = .ok (.ifCond .ne 17, 3) := by decide +kernel
theorem dX1_followReference_21 : decode cX1_followReference 21 = .ok (.iload_n 1, 1) := by decide +kernel
theorem dX1_followReference_22 : decode cX1_followReference 22 = .ok (.aload_n 0, 1) := by decide +kernel
theorem dX1_followReference_23 : decode cX1_followReference 23 = .ok (.getfield 11, 3) := by decide +kernel
theorem dX1_followReference_26 : decode cX1_followReference 26 = .ok (.iload_n 2, 1) := by decide +kernel
theorem dX1_followReference_27 : decode cX1_followReference 27 = .ok (.aaload, 1) := by decide +kernel
theorem dX1_followReference_28 : decode cX1_followReference 28 = .ok (.invokevirtual 102, 3) := by decide +kernel
theorem dX1_followReference_31 : decode cX1_followReference 31 = .ok (.invokestatic 105, 3) := by decide +kernel
theorem dX1_followReference_34 : decode cX1_followReference 34 = .ok (.istore_n 1, 1) := by decide +kernel
theorem dX1_followReference_35 : decode cX1_followReference 35 = .ok (.iinc 2 1, 3) := by decide +kernel
theorem dX1_followReference_38 : decode cX1_followReference 38 = .ok (.goto (-34), 3) := by decide +kernel
theorem dX1_followReference_41 : decode cX1_followReference 41 = .ok (.aload_n 0, 1) := by decide +kernel
theorem dX1_followReference_42 : decode cX1_followReference 42 = .ok (.iload_n 1, 1) := by decide +kernel
theorem dX1_followReference_43 : decode cX1_followReference 43 = .ok (.aload_n 0, 1) := by decide +kernel
theorem dX1_followReference_44 : decode cX1_followReference 44 = .ok (.getfield 42, 3) := by decide +kernel
theorem dX1_followReference_47 : decode cX1_followReference 47 = .ok (.if_icmp .lt 17, 3) := by decide +kernel
theorem dX1_followReference_50 : decode cX1_followReference 50 = .ok (.iload_n 1, 1) := by decide +kernel
theorem dX1_followReference_51 : decode cX1_followReference 51 = .ok (.aload_n 0, 1) := by decide +kernel
theorem dX1_followReference_52 : decode cX1_followReference 52 = .ok (.getfield 42, 3) := by decide +kernel
theorem dX1_followReference_55 : decode cX1_followReference 55 = .ok (.bipush 60, 2) := by decide +kernel
theorem dX1_followReference_57 : decode cX1_followReference 57 = .ok (.iadd, 1) := by decide +kernel
theorem dX1_followReference_58 : decode cX1_followReference 58 = .ok (.invokestatic 111, 3) := by decide +kernel
theorem dX1_followReference_61 : decode cX1_followReference 61 = .ok (.goto 14, 3) := by decide +kernel
theorem dX1_followReference_64 : decode cX1_followReference 64 = .ok (.iload_n 1, 1) := by decide +kernel
theorem dX1_followReference_65 : decode cX1_followReference 65 = .ok (.aload_n 0, 1) := by decide +kernel
theorem dX1_followReference_66 : decode cX1_followReference 66 = .ok (.getfield 42, 3) := by decide +kernel
theorem dX1_followReference_69 : decode cX1_followReference 69 = .ok (.bipush 120, 2) := by decide +kernel
theorem dX1_followReference_71 : decode cX1_followReference 71 = .ok (.isub, 1) := by decide +kernel
theorem dX1_followReference_72 : decode cX1_followReference 72 = .ok (.invokestatic 105, 3) := by decide +kernel
theorem dX1_followReference_75 : decode cX1_followReference 75 = .ok (.putfield 42, 3) := by decide +kernel
theorem dX1_followReference_78 : decode cX1_followReference 78 = .ok (.return_, 1) := by decide +kernel
theorem dX1_estimateSlips_0 : decode cX1_estimateSlips 0 = .ok (.iconst 0, 1) := by decide +kernel
theorem dX1_estimateSlips_1 : decode cX1_estimateSlips 1 = .ok (.istore_n 1, 1) := by decide +kernel
theorem dX1_estimateSlips_2 : decode cX1_estimateSlips 2 = .ok (.iload_n 1, 1) := by decide +kernel
theorem dX1_estimateSlips_3 : decode cX1_estimateSlips 3 = .ok (.iconst 4, 1) := by decide +kernel
theorem dX1_estimateSlips_4 : decode cX1_estimateSlips 4 = .ok (.if_icmp .ge 22, 3) := by decide +kernel
theorem dX1_estimateSlips_7 : decode cX1_estimateSlips 7 = .ok (.aload_n 0, 1) := by decide +kernel
theorem dX1_estimateSlips_8 : decode cX1_estimateSlips 8 = .ok (.getfield 11, 3) := by decide +kernel
theorem dX1_estimateSlips_11 : decode cX1_estimateSlips 11 = .ok (.iload_n 1, 1) := by decide +kernel
theorem dX1_estimateSlips_12 : decode cX1_estimateSlips 12 = .ok (.aaload, 1) := by decide +kernel
theorem dX1_estimateSlips_13 : decode cX1_estimateSlips 13 = .ok (.aload_n 0, 1) := by decide +kernel
theorem dX1_estimateSlips_14 : decode cX1_estimateSlips 14 = .ok (.getfield 42, 3) := by decide +kernel
theorem dX1_estimateSlips_17 : decode cX1_estimateSlips 17 = .ok (.invokevirtual 114, 3) := by decide +kernel
theorem dX1_estimateSlips_20 : decode cX1_estimateSlips 20 = .ok (.iinc 1 1, 3) := by decide +kernel
theorem dX1_estimateSlips_23 : decode cX1_estimateSlips 23 = .ok (.goto (-21), 3) := by decide +kernel
theorem dX1_estimateSlips_26 : decode cX1_estimateSlips 26 = .ok (.return_, 1) := by decide +kernel
theorem dX1_suspectWheels_0 : decode cX1_suspectWheels 0 = .ok (.iconst 0, 1) := by decide +kernel
theorem dX1_suspectWheels_1 : decode cX1_suspectWheels 1 = .ok (.istore_n 2, 1) := by decide +kernel
theorem dX1_suspectWheels_2 : decode cX1_suspectWheels 2 = .ok (.iload_n 2, 1) := by decide +kernel
theorem dX1_suspectWheels_3 : decode cX1_suspectWheels 3 = .ok (.iconst 4, 1) := by decide +kernel
theorem dX1_suspectWheels_4 : decode cX1_suspectWheels 4 = .ok (.if_icmp .ge 27, 3) := by decide +kernel
theorem dX1_suspectWheels_7 : decode cX1_suspectWheels 7 = .ok (.aload_n 0, 1) := by decide +kernel
theorem dX1_suspectWheels_8 : decode cX1_suspectWheels 8 = .ok (.getfield 11, 3) := by decide +kernel
theorem dX1_suspectWheels_11 : decode cX1_suspectWheels 11 = .ok (.iload_n 2, 1) := by decide +kernel
theorem dX1_suspectWheels_12 : decode cX1_suspectWheels 12 = .ok (.aaload, 1) := by decide +kernel
theorem dX1_suspectWheels_13 : decode cX1_suspectWheels 13 = .ok (.getfield 93, 3) := by decide +kernel
theorem dX1_suspectWheels_16 : decode cX1_suspectWheels 16 = .ok (.ifCond .ne 9, 3) := by decide +kernel
theorem dX1_suspectWheels_19 : decode cX1_suspectWheels 19 = .ok (.aload_n 0, 1) := by decide +kernel
theorem dX1_suspectWheels_20 : decode cX1_suspectWheels 20 = .ok (.iload_n 2, 1) := by decide +kernel
theorem dX1_suspectWheels_21 : decode cX1_suspectWheels 21 = .ok (.iload_n 1, 1) := by decide +kernel
theorem dX1_suspectWheels_22 : decode cX1_suspectWheels 22 = .ok (.invokevirtual 117, 3) := by decide +kernel
theorem dX1_suspectWheels_25 : decode cX1_suspectWheels 25 = .ok (.iinc 2 1, 3) := by decide +kernel
theorem dX1_suspectWheels_28 : decode cX1_suspectWheels 28 = .ok (.goto (-26), 3) := by decide +kernel
theorem dX1_suspectWheels_31 : decode cX1_suspectWheels 31 = .ok (.return_, 1) := by decide +kernel
theorem dX1_suspect_0 : decode cX1_suspect 0 = .ok (.aload_n 0, 1) := by decide +kernel
theorem dX1_suspect_1 : decode cX1_suspect 1 = .ok (.getfield 11, 3) := by decide +kernel
theorem dX1_suspect_4 : decode cX1_suspect 4 = .ok (.iload_n 1, 1) := by decide +kernel
theorem dX1_suspect_5 : decode cX1_suspect 5 = .ok (.aaload, 1) := by decide +kernel
theorem dX1_suspect_6 : decode cX1_suspect 6 = .ok (.astore_n 3, 1) := by decide +kernel
theorem dX1_suspect_7 : decode cX1_suspect 7 = .ok (.aload_n 3, 1) := by decide +kernel
theorem dX1_suspect_8 : decode cX1_suspect 8 = .ok (.invokevirtual 102, 3) := by decide +kernel
theorem dX1_suspect_11 : decode cX1_suspect 11 = .ok (.ifCond .ne 17, 3) := by decide +kernel
theorem dX1_suspect_14 : decode cX1_suspect 14 = .ok (.aload_n 0, 1) := by decide +kernel
theorem dX1_suspect_15 : decode cX1_suspect 15 = .ok (.getfield 42, 3) := by decide +kernel
theorem dX1_suspect_18 : decode cX1_suspect 18 = .ok (.sipush 3000, 3) := by decide +kernel
theorem dX1_suspect_21 : decode cX1_suspect 21 = .ok (.if_icmp .lt 7, 3) := by decide +kernel
theorem dX1_suspect_24 : decode cX1_suspect 24 = .ok (.iconst 1, 1) := by decide +kernel
theorem dX1_suspect_25 : decode cX1_suspect 25 = .ok (.goto 4, 3) := by decide +kernel
theorem dX1_suspect_28 : decode cX1_suspect 28 = .ok (.iconst 0, 1) := by decide +kernel
theorem dX1_suspect_29 : decode cX1_suspect 29 = .ok (.istore 4, 2) := by decide +kernel
theorem dX1_suspect_31 : decode cX1_suspect 31 = .ok (.aload_n 3, 1) := by decide +kernel
theorem dX1_suspect_32 : decode cX1_suspect 32 = .ok (.iload 4, 2) := by decide +kernel
theorem dX1_suspect_34 : decode cX1_suspect 34 = .ok (.ifCond .eq 12, 3) := by decide +kernel
theorem dX1_suspect_37 : decode cX1_suspect 37 = .ok (.aload_n 3, 1) := by decide +kernel
theorem dX1_suspect_38 : decode cX1_suspect 38 = .ok (.getfield 96, 3) := by decide +kernel
theorem dX1_suspect_41 : decode cX1_suspect 41 = .ok (.iconst 1, 1) := by decide +kernel
theorem dX1_suspect_42 : decode cX1_suspect 42 = .ok (.iadd, 1) := by decide +kernel
theorem dX1_suspect_43 : decode cX1_suspect 43 = .ok (.goto 4, 3) := by decide +kernel
theorem dX1_suspect_46 : decode cX1_suspect 46 = .ok (.iconst 0, 1) := by decide +kernel
theorem dX1_suspect_47 : decode cX1_suspect 47 = .ok (.putfield 96, 3) := by decide +kernel
theorem dX1_suspect_50 : decode cX1_suspect 50 = .ok (.aload_n 3, 1) := by decide +kernel
theorem dX1_suspect_51 : decode cX1_suspect 51 = .ok (.getfield 96, 3) := by decide +kernel
theorem dX1_suspect_54 : decode cX1_suspect 54 = .ok (.bipush 25, 2) := by decide +kernel
theorem dX1_suspect_56 : decode cX1_suspect 56 = .ok (.if_icmp .ne 18, 3) := by decide +kernel
theorem dX1_suspect_59 : decode cX1_suspect 59 = .ok (.aload_n 3, 1) := by decide +kernel
theorem dX1_suspect_60 : decode cX1_suspect 60 = .ok (.iconst 1, 1) := by decide +kernel
theorem dX1_suspect_61 : decode cX1_suspect 61 = .ok (.putfield 93, 3) := by decide +kernel
theorem dX1_suspect_64 : decode cX1_suspect 64 = .ok (.aload_n 0, 1) := by decide +kernel
theorem dX1_suspect_65 : decode cX1_suspect 65 = .ok (.getfield 21, 3) := by decide +kernel
theorem dX1_suspect_68 : decode cX1_suspect 68 = .ok (.iload_n 2, 1) := by decide +kernel
theorem dX1_suspect_69 : decode cX1_suspect 69 = .ok (.iconst 1, 1) := by decide +kernel
theorem dX1_suspect_70 : decode cX1_suspect 70 = .ok (.iload_n 1, 1) := by decide +kernel
theorem dX1_suspect_71 : decode cX1_suspect 71 = .ok (.invokevirtual 120, 3) := by decide +kernel
theorem dX1_suspect_74 : decode cX1_suspect 74 = .ok (.return_, 1) := by decide +kernel
theorem dX1_choosePhases_0 : decode cX1_choosePhases 0 = .ok (.aload_n 0, 1) := by decide +kernel
theorem dX1_choosePhases_1 : decode cX1_choosePhases 1 = .ok (.iload_n 1, 1) := by decide +kernel
theorem dX1_choosePhases_2 : decode cX1_choosePhases 2 = .ok (.invokevirtual 124, 3) := by decide +kernel
theorem dX1_choosePhases_5 : decode cX1_choosePhases 5 = .ok (.istore_n 2, 1) := by decide +kernel
theorem dX1_choosePhases_6 : decode cX1_choosePhases 6 = .ok (.iload_n 2, 1) := by decide +kernel
theorem dX1_choosePhases_7 : decode cX1_choosePhases 7 = .ok (.ifCond .eq 14, 3) := by decide +kernel
theorem dX1_choosePhases_10 : decode cX1_choosePhases 10 = .ok (.aload_n 0, 1) := by decide +kernel
theorem dX1_choosePhases_11 : decode cX1_choosePhases 11 = .ok (.invokevirtual 128, 3) := by decide +kernel
theorem dX1_choosePhases_14 : decode cX1_choosePhases 14 = .ok (.ifCond .ne 7, 3) := by decide +kernel
theorem dX1_choosePhases_17 : decode cX1_choosePhases 17 = .ok (.iconst 1, 1) := by decide +kernel
theorem dX1_choosePhases_18 : decode cX1_choosePhases 18 = .ok (.goto 4, 3) := by decide +kernel
theorem dX1_choosePhases_21 : decode cX1_choosePhases 21 = .ok (.iconst 0, 1) := by decide +kernel
theorem dX1_choosePhases_22 : decode cX1_choosePhases 22 = .ok (.istore_n 3, 1) := by decide +kernel
theorem dX1_choosePhases_23 : decode cX1_choosePhases 23 = .ok (.iload_n 2, 1) := by decide +kernel
theorem dX1_choosePhases_24 : decode cX1_choosePhases 24 = .ok (.ifCond .eq 14, 3) := by decide +kernel
theorem dX1_choosePhases_27 : decode cX1_choosePhases 27 = .ok (.aload_n 0, 1) := by decide +kernel
theorem dX1_choosePhases_28 : decode cX1_choosePhases 28 = .ok (.invokevirtual 132, 3) := by decide +kernel
theorem dX1_choosePhases_31 : decode cX1_choosePhases 31 = .ok (.ifCond .ne 7, 3) := by decide +kernel
theorem dX1_choosePhases_34 : decode cX1_choosePhases 34 = .ok (.iconst 1, 1) := by decide +kernel
theorem dX1_choosePhases_35 : decode cX1_choosePhases 35 = .ok (.goto 4, 3) := by decide +kernel
theorem dX1_choosePhases_38 : decode cX1_choosePhases 38 = .ok (.iconst 0, 1) := by decide +kernel
theorem dX1_choosePhases_39 : decode cX1_choosePhases 39 = .ok (.istore 4, 2) := by decide +kernel
theorem dX1_choosePhases_41 : decode cX1_choosePhases 41 = .ok (.iconst 0, 1) := by decide +kernel
theorem dX1_choosePhases_42 : decode cX1_choosePhases 42 = .ok (.istore 5, 2) := by decide +kernel
theorem dX1_choosePhases_44 : decode cX1_choosePhases 44 = .ok (.iload 5, 2) := by decide +kernel
theorem dX1_choosePhases_46 : decode cX1_choosePhases 46 = .ok (.iconst 4, 1) := by decide +kernel
theorem dX1_choosePhases_47 : decode cX1_choosePhases 47 = .ok (.if_icmp .ge 53, 3) := by decide +kernel
theorem dX1_choosePhases_50 : decode cX1_choosePhases 50 = .ok (.iload 5, 2) := by decide +kernel
theorem dX1_choosePhases_52 : decode cX1_choosePhases 52 = .ok (.iconst 2, 1) := by decide +kernel
theorem dX1_choosePhases_53 : decode cX1_choosePhases 53 = .ok (.if_icmp .ge 7, 3) := by decide +kernel
theorem dX1_choosePhases_56 : decode cX1_choosePhases 56 = .ok (.iload_n 3, 1) := by decide +kernel
theorem dX1_choosePhases_57 : decode cX1_choosePhases 57 = .ok (.goto 5, 3) := by decide +kernel
theorem dX1_choosePhases_60 : decode cX1_choosePhases 60 = .ok (.iload 4, 2) := by decide +kernel
theorem dX1_choosePhases_62 : decode cX1_choosePhases 62 = .ok (.istore 6, 2) := by decide +kernel
theorem dX1_choosePhases_64 : decode cX1_choosePhases 64 = .ok (.aload_n 0, 1) := by decide +kernel
theorem dX1_choosePhases_65 : decode cX1_choosePhases 65 = .ok (.getfield 11, 3) := by decide +kernel
theorem dX1_choosePhases_68 : decode cX1_choosePhases 68 = .ok (.iload 5, 2) := by decide +kernel
theorem dX1_choosePhases_70 : decode cX1_choosePhases 70 = .ok (.aaload, 1) := by decide +kernel
theorem dX1_choosePhases_71 : decode cX1_choosePhases 71 = .ok (.iload 6, 2) := by decide +kernel
theorem dX1_choosePhases_73 : decode cX1_choosePhases 73 = .ok (.ifCond .eq 17, 3) := by decide +kernel
theorem dX1_choosePhases_76 : decode cX1_choosePhases 76 = .ok (.aload_n 0, 1) := by decide +kernel
theorem dX1_choosePhases_77 : decode cX1_choosePhases 77 = .ok (.getfield 11, 3) := by decide +kernel
theorem dX1_choosePhases_80 : decode cX1_choosePhases 80 = .ok (.iload 5, 2) := by decide +kernel
theorem dX1_choosePhases_82 : decode cX1_choosePhases 82 = .ok (.aaload, 1) := by decide +kernel
theorem dX1_choosePhases_83 : decode cX1_choosePhases 83 = .ok (.iload_n 1, 1) := by decide +kernel
theorem dX1_choosePhases_84 : decode cX1_choosePhases 84 = .ok (.invokestatic 135, 3) := by decide +kernel
theorem dX1_choosePhases_87 : decode cX1_choosePhases 87 = .ok (.goto 4, 3) := by decide +kernel
theorem dX1_choosePhases_90 : decode cX1_choosePhases 90 = .ok (.iconst 0, 1) := by decide +kernel
theorem dX1_choosePhases_91 : decode cX1_choosePhases 91 = .ok (.putfield 139, 3) := by decide +kernel
theorem dX1_choosePhases_94 : decode cX1_choosePhases 94 = .ok (.iinc 5 1, 3) := by decide +kernel
theorem dX1_choosePhases_97 : decode cX1_choosePhases 97 = .ok (.goto (-53), 3) := by decide +kernel
theorem dX1_choosePhases_100 : decode cX1_choosePhases 100 = .ok (.iload 4, 2) := by decide +kernel
theorem dX1_choosePhases_102 : decode cX1_choosePhases 102 = .ok (.ifCond .eq 19, 3) := by decide +kernel
theorem dX1_choosePhases_105 : decode cX1_choosePhases 105 = .ok (.aload_n 0, 1) := by decide +kernel
theorem dX1_choosePhases_106 : decode cX1_choosePhases 106 = .ok (.aload_n 0, 1) := by decide +kernel
theorem dX1_choosePhases_107 : decode cX1_choosePhases 107 = .ok (.getfield 11, 3) := by decide +kernel
theorem dX1_choosePhases_110 : decode cX1_choosePhases 110 = .ok (.iconst 2, 1) := by decide +kernel
theorem dX1_choosePhases_111 : decode cX1_choosePhases 111 = .ok (.aaload, 1) := by decide +kernel
theorem dX1_choosePhases_112 : decode cX1_choosePhases 112 = .ok (.aload_n 0, 1) := by decide +kernel
theorem dX1_choosePhases_113 : decode cX1_choosePhases 113 = .ok (.getfield 11, 3) := by decide +kernel
theorem dX1_choosePhases_116 : decode cX1_choosePhases 116 = .ok (.iconst 3, 1) := by decide +kernel
theorem dX1_choosePhases_117 : decode cX1_choosePhases 117 = .ok (.aaload, 1) := by decide +kernel
theorem dX1_choosePhases_118 : decode cX1_choosePhases 118 = .ok (.invokevirtual 142, 3) := by decide +kernel
theorem dX1_choosePhases_121 : decode cX1_choosePhases 121 = .ok (.return_, 1) := by decide +kernel
theorem dX1_selectLow_0 : decode cX1_selectLow 0 = .ok (.aload_n 1, 1) := by decide +kernel
theorem dX1_selectLow_1 : decode cX1_selectLow 1 = .ok (.getfield 139, 3) := by decide +kernel
theorem dX1_selectLow_4 : decode cX1_selectLow 4 = .ok (.invokestatic 146, 3) := by decide +kernel
theorem dX1_selectLow_7 : decode cX1_selectLow 7 = .ok (.aload_n 2, 1) := by decide +kernel
theorem dX1_selectLow_8 : decode cX1_selectLow 8 = .ok (.getfield 139, 3) := by decide +kernel
theorem dX1_selectLow_11 : decode cX1_selectLow 11 = .ok (.invokestatic 146, 3) := by decide +kernel
theorem dX1_selectLow_14 : decode cX1_selectLow 14 = .ok (.if_icmp .gt 10, 3) := by decide +kernel
theorem dX1_selectLow_17 : decode cX1_selectLow 17 = .ok (.aload_n 1, 1) := by decide +kernel
theorem dX1_selectLow_18 : decode cX1_selectLow 18 = .ok (.getfield 139, 3) := by decide +kernel
theorem dX1_selectLow_21 : decode cX1_selectLow 21 = .ok (.goto 7, 3) := by decide +kernel
theorem dX1_selectLow_24 : decode cX1_selectLow 24 = .ok (.aload_n 2, 1) := by decide +kernel
theorem dX1_selectLow_25 : decode cX1_selectLow 25 = .ok (.getfield 139, 3) := by decide +kernel
theorem dX1_selectLow_28 : decode cX1_selectLow 28 = .ok (.istore_n 3, 1) := by decide +kernel
theorem dX1_selectLow_29 : decode cX1_selectLow 29 = .ok (.aload_n 1, 1) := by decide +kernel
theorem dX1_selectLow_30 : decode cX1_selectLow 30 = .ok (.iload_n 3, 1) := by decide +kernel
theorem dX1_selectLow_31 : decode cX1_selectLow 31 = .ok (.putfield 139, 3) := by decide +kernel
theorem dX1_selectLow_34 : decode cX1_selectLow 34 = .ok (.aload_n 2, 1) := by decide +kernel
theorem dX1_selectLow_35 : decode cX1_selectLow 35 = .ok (.iload_n 3, 1) := by decide +kernel
theorem dX1_selectLow_36 : decode cX1_selectLow 36 = .ok (.putfield 139, 3) := by decide +kernel
theorem dX1_selectLow_39 : decode cX1_selectLow 39 = .ok (.return_, 1) := by decide +kernel
theorem dX1_urgency_0 : decode cX1_urgency 0 = .ok (.iload_n 0, 1) := by decide +kernel
theorem dX1_urgency_1 : decode cX1_urgency 1 = .ok (.tableswitch 39 1 4 #[33, 31, 35, 37], 31) := by decide +kernel
theorem dX1_urgency_32 : decode cX1_urgency 32 = .ok (.iconst 0, 1) := by decide +kernel
theorem dX1_urgency_33 : decode cX1_urgency 33 = .ok (.ireturn, 1) := by decide +kernel
theorem dX1_urgency_34 : decode cX1_urgency 34 = .ok (.iconst 1, 1) := by decide +kernel
theorem dX1_urgency_35 : decode cX1_urgency 35 = .ok (.ireturn, 1) := by decide +kernel
theorem dX1_urgency_36 : decode cX1_urgency 36 = .ok (.iconst 2, 1) := by decide +kernel
theorem dX1_urgency_37 : decode cX1_urgency 37 = .ok (.ireturn, 1) := by decide +kernel
theorem dX1_urgency_38 : decode cX1_urgency 38 = .ok (.iconst 3, 1) := by decide +kernel
theorem dX1_urgency_39 : decode cX1_urgency 39 = .ok (.ireturn, 1) := by decide +kernel
theorem dX1_urgency_40 : decode cX1_urgency 40 = .ok (.iconst 4, 1) := by decide +kernel
theorem dX1_urgency_41 : decode cX1_urgency 41 = .ok (.ireturn, 1) := by decide +kernel
theorem dX1_phaseAfter_0 : decode cX1_phaseAfter 0 = .ok (.aload_n 0, 1) := by decide +kernel
theorem dX1_phaseAfter_1 : decode cX1_phaseAfter 1 = .ok (.getfield 150, 3) := by decide +kernel
theorem dX1_phaseAfter_4 : decode cX1_phaseAfter 4 = .ok (.istore_n 2, 1) := by decide +kernel
theorem dX1_phaseAfter_5 : decode cX1_phaseAfter 5 = .ok (.aload_n 0, 1) := by decide +kernel
theorem dX1_phaseAfter_6 : decode cX1_phaseAfter 6 = .ok (.getfield 153, 3) := by decide +kernel
theorem dX1_phaseAfter_9 : decode cX1_phaseAfter 9 = .ok (.istore_n 3, 1) := by decide +kernel
theorem dX1_phaseAfter_10 : decode cX1_phaseAfter 10 = .ok (.iload_n 2, 1) := by decide +kernel
theorem dX1_phaseAfter_11 : decode cX1_phaseAfter 11 = .ok (.sipush 200, 3) := by decide +kernel
theorem dX1_phaseAfter_14 : decode cX1_phaseAfter 14 = .ok (.if_icmp .le 13, 3) := by decide +kernel
theorem dX1_phaseAfter_17 : decode cX1_phaseAfter 17 = .ok (.iload_n 3, 1) := by decide +kernel
theorem dX1_phaseAfter_18 : decode cX1_phaseAfter 18 = .ok (.bipush (-30), 2) := by decide +kernel
theorem dX1_phaseAfter_20 : decode cX1_phaseAfter 20 = .ok (.if_icmp .ge 7, 3) := by decide +kernel
theorem dX1_phaseAfter_23 : decode cX1_phaseAfter 23 = .ok (.iconst 1, 1) := by decide +kernel
theorem dX1_phaseAfter_24 : decode cX1_phaseAfter 24 = .ok (.goto 4, 3) := by decide +kernel
theorem dX1_phaseAfter_27 : decode cX1_phaseAfter 27 = .ok (.iconst 0, 1) := by decide +kernel
theorem dX1_phaseAfter_28 : decode cX1_phaseAfter 28 = .ok (.istore 4, 2) := by decide +kernel
theorem dX1_phaseAfter_30 : decode cX1_phaseAfter 30 = .ok (.aload_n 0, 1) := by decide +kernel
theorem dX1_phaseAfter_31 : decode cX1_phaseAfter 31 = .ok (.getfield 156, 3) := by decide +kernel
theorem dX1_phaseAfter_34 : decode cX1_phaseAfter 34 = .ok (.tableswitch 130 1 4 #[30, 55, 73, 107], 30) := by decide +kernel
theorem dX1_phaseAfter_64 : decode cX1_phaseAfter 64 = .ok (.iload 4, 2) := by decide +kernel
theorem dX1_phaseAfter_66 : decode cX1_phaseAfter 66 = .ok (.ifCond .eq 7, 3) := by decide +kernel
theorem dX1_phaseAfter_69 : decode cX1_phaseAfter 69 = .ok (.iconst 2, 1) := by decide +kernel
theorem dX1_phaseAfter_70 : decode cX1_phaseAfter 70 = .ok (.goto 18, 3) := by decide +kernel
theorem dX1_phaseAfter_73 : decode cX1_phaseAfter 73 = .ok (.iload_n 3, 1) := by decide +kernel
theorem dX1_phaseAfter_74 : decode cX1_phaseAfter 74 = .ok (.ifCond .ge 9, 3) := by decide +kernel
theorem dX1_phaseAfter_77 : decode cX1_phaseAfter 77 = .ok (.iload_n 2, 1) := by decide +kernel
theorem dX1_phaseAfter_78 : decode cX1_phaseAfter 78 = .ok (.bipush 60, 2) := by decide +kernel
theorem dX1_phaseAfter_80 : decode cX1_phaseAfter 80 = .ok (.if_icmp .gt 7, 3) := by decide +kernel
theorem dX1_phaseAfter_83 : decode cX1_phaseAfter 83 = .ok (.iconst 4, 1) := by decide +kernel
theorem dX1_phaseAfter_84 : decode cX1_phaseAfter 84 = .ok (.goto 4, 3) := by decide +kernel
theorem dX1_phaseAfter_87 : decode cX1_phaseAfter 87 = .ok (.iconst 1, 1) := by decide +kernel
theorem dX1_phaseAfter_88 : decode cX1_phaseAfter 88 = .ok (.ireturn, 1) := by decide +kernel
theorem dX1_phaseAfter_89 : decode cX1_phaseAfter 89 = .ok (.iload_n 3, 1) := by decide +kernel
theorem dX1_phaseAfter_90 : decode cX1_phaseAfter 90 = .ok (.bipush 10, 2) := by decide +kernel
theorem dX1_phaseAfter_92 : decode cX1_phaseAfter 92 = .ok (.if_icmp .gt 9, 3) := by decide +kernel
theorem dX1_phaseAfter_95 : decode cX1_phaseAfter 95 = .ok (.iload_n 2, 1) := by decide +kernel
theorem dX1_phaseAfter_96 : decode cX1_phaseAfter 96 = .ok (.bipush 60, 2) := by decide +kernel
theorem dX1_phaseAfter_98 : decode cX1_phaseAfter 98 = .ok (.if_icmp .gt 7, 3) := by decide +kernel
theorem dX1_phaseAfter_101 : decode cX1_phaseAfter 101 = .ok (.iconst 3, 1) := by decide +kernel
theorem dX1_phaseAfter_102 : decode cX1_phaseAfter 102 = .ok (.goto 4, 3) := by decide +kernel
theorem dX1_phaseAfter_105 : decode cX1_phaseAfter 105 = .ok (.iconst 2, 1) := by decide +kernel
theorem dX1_phaseAfter_106 : decode cX1_phaseAfter 106 = .ok (.ireturn, 1) := by decide +kernel
theorem dX1_phaseAfter_107 : decode cX1_phaseAfter 107 = .ok (.iload_n 2, 1) := by decide +kernel
theorem dX1_phaseAfter_108 : decode cX1_phaseAfter 108 = .ok (.bipush 60, 2) := by decide +kernel
theorem dX1_phaseAfter_110 : decode cX1_phaseAfter 110 = .ok (.if_icmp .le 16, 3) := by decide +kernel
theorem dX1_phaseAfter_113 : decode cX1_phaseAfter 113 = .ok (.iload_n 3, 1) := by decide +kernel
theorem dX1_phaseAfter_114 : decode cX1_phaseAfter 114 = .ok (.bipush 10, 2) := by decide +kernel
theorem dX1_phaseAfter_116 : decode cX1_phaseAfter 116 = .ok (.if_icmp .gt 14, 3) := by decide +kernel
theorem dX1_phaseAfter_119 : decode cX1_phaseAfter 119 = .ok (.iload_n 2, 1) := by decide +kernel
theorem dX1_phaseAfter_120 : decode cX1_phaseAfter 120 = .ok (.sipush 150, 3) := by decide +kernel
theorem dX1_phaseAfter_123 : decode cX1_phaseAfter 123 = .ok (.if_icmp .gt 7, 3) := by decide +kernel
theorem dX1_phaseAfter_126 : decode cX1_phaseAfter 126 = .ok (.iconst 4, 1) := by decide +kernel
theorem dX1_phaseAfter_127 : decode cX1_phaseAfter 127 = .ok (.goto 13, 3) := by decide +kernel
theorem dX1_phaseAfter_130 : decode cX1_phaseAfter 130 = .ok (.iload 4, 2) := by decide +kernel
theorem dX1_phaseAfter_132 : decode cX1_phaseAfter 132 = .ok (.ifCond .eq 7, 3) := by decide +kernel
theorem dX1_phaseAfter_135 : decode cX1_phaseAfter 135 = .ok (.iconst 2, 1) := by decide +kernel
theorem dX1_phaseAfter_136 : decode cX1_phaseAfter 136 = .ok (.goto 4, 3) := by decide +kernel
theorem dX1_phaseAfter_139 : decode cX1_phaseAfter 139 = .ok (.iconst 3, 1) := by decide +kernel
theorem dX1_phaseAfter_140 : decode cX1_phaseAfter 140 = .ok (.ireturn, 1) := by decide +kernel
theorem dX1_phaseAfter_141 : decode cX1_phaseAfter 141 = .ok (.iload 4, 2) := by decide +kernel
theorem dX1_phaseAfter_143 : decode cX1_phaseAfter 143 = .ok (.ifCond .eq 7, 3) := by decide +kernel
theorem dX1_phaseAfter_146 : decode cX1_phaseAfter 146 = .ok (.iconst 2, 1) := by decide +kernel
theorem dX1_phaseAfter_147 : decode cX1_phaseAfter 147 = .ok (.goto 16, 3) := by decide +kernel
theorem dX1_phaseAfter_150 : decode cX1_phaseAfter 150 = .ok (.aload_n 0, 1) := by decide +kernel
theorem dX1_phaseAfter_151 : decode cX1_phaseAfter 151 = .ok (.getfield 159, 3) := by decide +kernel
theorem dX1_phaseAfter_154 : decode cX1_phaseAfter 154 = .ok (.iload_n 1, 1) := by decide +kernel
theorem dX1_phaseAfter_155 : decode cX1_phaseAfter 155 = .ok (.if_icmp .lt 7, 3) := by decide +kernel
theorem dX1_phaseAfter_158 : decode cX1_phaseAfter 158 = .ok (.iconst 0, 1) := by decide +kernel
theorem dX1_phaseAfter_159 : decode cX1_phaseAfter 159 = .ok (.goto 4, 3) := by decide +kernel
theorem dX1_phaseAfter_162 : decode cX1_phaseAfter 162 = .ok (.iconst 4, 1) := by decide +kernel
theorem dX1_phaseAfter_163 : decode cX1_phaseAfter 163 = .ok (.ireturn, 1) := by decide +kernel
theorem dX1_phaseAfter_164 : decode cX1_phaseAfter 164 = .ok (.iload 4, 2) := by decide +kernel
theorem dX1_phaseAfter_166 : decode cX1_phaseAfter 166 = .ok (.ifCond .eq 7, 3) := by decide +kernel
theorem dX1_phaseAfter_169 : decode cX1_phaseAfter 169 = .ok (.iconst 2, 1) := by decide +kernel
theorem dX1_phaseAfter_170 : decode cX1_phaseAfter 170 = .ok (.goto 20, 3) := by decide +kernel
theorem dX1_phaseAfter_173 : decode cX1_phaseAfter 173 = .ok (.iload_n 2, 1) := by decide +kernel
theorem dX1_phaseAfter_174 : decode cX1_phaseAfter 174 = .ok (.bipush 100, 2) := by decide +kernel
theorem dX1_phaseAfter_176 : decode cX1_phaseAfter 176 = .ok (.if_icmp .le 13, 3) := by decide +kernel
theorem dX1_phaseAfter_179 : decode cX1_phaseAfter 179 = .ok (.iload_n 3, 1) := by decide +kernel
theorem dX1_phaseAfter_180 : decode cX1_phaseAfter 180 = .ok (.bipush (-60), 2) := by decide +kernel
theorem dX1_phaseAfter_182 : decode cX1_phaseAfter 182 = .ok (.if_icmp .ge 7, 3) := by decide +kernel
theorem dX1_phaseAfter_185 : decode cX1_phaseAfter 185 = .ok (.iconst 1, 1) := by decide +kernel
theorem dX1_phaseAfter_186 : decode cX1_phaseAfter 186 = .ok (.goto 4, 3) := by decide +kernel
theorem dX1_phaseAfter_189 : decode cX1_phaseAfter 189 = .ok (.iconst 0, 1) := by decide +kernel
theorem dX1_phaseAfter_190 : decode cX1_phaseAfter 190 = .ok (.ireturn, 1) := by decide +kernel
theorem dX1_enterPhases_0 : decode cX1_enterPhases 0 = .ok (.iconst 0, 1) := by decide +kernel
theorem dX1_enterPhases_1 : decode cX1_enterPhases 1 = .ok (.istore_n 2, 1) := by decide +kernel
theorem dX1_enterPhases_2 : decode cX1_enterPhases 2 = .ok (.iload_n 2, 1) := by decide +kernel
theorem dX1_enterPhases_3 : decode cX1_enterPhases 3 = .ok (.iconst 4, 1) := by decide +kernel
theorem dX1_enterPhases_4 : decode cX1_enterPhases 4 = .ok (.if_icmp .ge 66, 3) := by decide +kernel
theorem dX1_enterPhases_7 : decode cX1_enterPhases 7 = .ok (.aload_n 0, 1) := by decide +kernel
theorem dX1_enterPhases_8 : decode cX1_enterPhases 8 = .ok (.getfield 11, 3) := by decide +kernel
theorem dX1_enterPhases_11 : decode cX1_enterPhases 11 = .ok (.iload_n 2, 1) := by decide +kernel
theorem dX1_enterPhases_12 : decode cX1_enterPhases 12 = .ok (.aaload, 1) := by decide +kernel
theorem dX1_enterPhases_13 : decode cX1_enterPhases 13 = .ok (.astore_n 3, 1) := by decide +kernel
theorem dX1_enterPhases_14 : decode cX1_enterPhases 14 = .ok (.aload_n 3, 1) := by decide +kernel
theorem dX1_enterPhases_15 : decode cX1_enterPhases 15 = .ok (.getfield 139, 3) := by decide +kernel
theorem dX1_enterPhases_18 : decode cX1_enterPhases 18 = .ok (.aload_n 3, 1) := by decide +kernel
theorem dX1_enterPhases_19 : decode cX1_enterPhases 19 = .ok (.getfield 156, 3) := by decide +kernel
theorem dX1_enterPhases_22 : decode cX1_enterPhases 22 = .ok (.if_icmp .eq 32, 3) := by decide +kernel
theorem dX1_enterPhases_25 : decode cX1_enterPhases 25 = .ok (.aload_n 3, 1) := by decide +kernel
theorem dX1_enterPhases_26 : decode cX1_enterPhases 26 = .ok (.aload_n 3, 1) := by decide +kernel
theorem dX1_enterPhases_27 : decode cX1_enterPhases 27 = .ok (.getfield 139, 3) := by decide +kernel
theorem dX1_enterPhases_30 : decode cX1_enterPhases 30 = .ok (.invokevirtual 162, 3) := by decide +kernel
theorem dX1_enterPhases_33 : decode cX1_enterPhases 33 = .ok (.aload_n 0, 1) := by decide +kernel
theorem dX1_enterPhases_34 : decode cX1_enterPhases 34 = .ok (.getfield 21, 3) := by decide +kernel
theorem dX1_enterPhases_37 : decode cX1_enterPhases 37 = .ok (.iload_n 1, 1) := by decide +kernel
theorem dX1_enterPhases_38 : decode cX1_enterPhases 38 = .ok (.iconst 0, 1) := by decide +kernel
theorem dX1_enterPhases_39 : decode cX1_enterPhases 39 = .ok (.bipush 10, 2) := by decide +kernel
theorem dX1_enterPhases_41 : decode cX1_enterPhases 41 = .ok (.iload_n 2, 1) := by decide +kernel
theorem dX1_enterPhases_42 : decode cX1_enterPhases 42 = .ok (.imul, 1) := by decide +kernel
theorem dX1_enterPhases_43 : decode cX1_enterPhases 43 = .ok (.aload_n 3, 1) := by decide +kernel
theorem dX1_enterPhases_44 : decode cX1_enterPhases 44 = .ok (.getfield 156, 3) := by decide +kernel
theorem dX1_enterPhases_47 : decode cX1_enterPhases 47 = .ok (.iadd, 1) := by decide +kernel
theorem dX1_enterPhases_48 : decode cX1_enterPhases 48 = .ok (.invokevirtual 120, 3) := by decide +kernel
theorem dX1_enterPhases_51 : decode cX1_enterPhases 51 = .ok (.goto 13, 3) := by decide +kernel
theorem dX1_enterPhases_54 : decode cX1_enterPhases 54 = .ok (.aload_n 3, 1) := by decide +kernel
theorem dX1_enterPhases_55 : decode cX1_enterPhases 55 = .ok (.dup, 1) := by decide +kernel
theorem dX1_enterPhases_56 : decode cX1_enterPhases 56 = .ok (.getfield 165, 3) := by decide +kernel
theorem dX1_enterPhases_59 : decode cX1_enterPhases 59 = .ok (.iconst 1, 1) := by decide +kernel
theorem dX1_enterPhases_60 : decode cX1_enterPhases 60 = .ok (.iadd, 1) := by decide +kernel
theorem dX1_enterPhases_61 : decode cX1_enterPhases 61 = .ok (.putfield 165, 3) := by decide +kernel
theorem dX1_enterPhases_64 : decode cX1_enterPhases 64 = .ok (.iinc 2 1, 3) := by decide +kernel
theorem dX1_enterPhases_67 : decode cX1_enterPhases 67 = .ok (.goto (-65), 3) := by decide +kernel
theorem dX1_enterPhases_70 : decode cX1_enterPhases 70 = .ok (.return_, 1) := by decide +kernel
theorem dX1_movePressures_0 : decode cX1_movePressures 0 = .ok (.aload_n 0, 1) := by decide +kernel
theorem dX1_movePressures_1 : decode cX1_movePressures 1 = .ok (.invokevirtual 132, 3) := by decide +kernel
theorem dX1_movePressures_4 : decode cX1_movePressures 4 = .ok (.ifCond .eq 13, 3) := by decide +kernel
theorem dX1_movePressures_7 : decode cX1_movePressures 7 = .ok (.iload_n 2, 1) := by decide +kernel
theorem dX1_movePressures_8 : decode cX1_movePressures 8 = .ok (.sipush 500, 3) := by decide +kernel
theorem dX1_movePressures_11 : decode cX1_movePressures 11 = .ok (.invokestatic 111, 3) := by decide +kernel
theorem dX1_movePressures_14 : decode cX1_movePressures 14 = .ok (.goto 4, 3) := by decide +kernel
theorem dX1_movePressures_17 : decode cX1_movePressures 17 = .ok (.iload_n 2, 1) := by decide +kernel
theorem dX1_movePressures_18 : decode cX1_movePressures 18 = .ok (.istore_n 3, 1) := by decide +kernel
theorem dX1_movePressures_19 : decode cX1_movePressures 19 = .ok (.iconst 0, 1) := by decide +kernel
theorem dX1_movePressures_20 : decode cX1_movePressures 20 = .ok (.istore 4, 2) := by decide +kernel
theorem dX1_movePressures_22 : decode cX1_movePressures 22 = .ok (.iload 4, 2) := by decide +kernel
theorem dX1_movePressures_24 : decode cX1_movePressures 24 = .ok (.iconst 4, 1) := by decide +kernel
theorem dX1_movePressures_25 : decode cX1_movePressures 25 = .ok (.if_icmp .ge 54, 3) := by decide +kernel
theorem dX1_movePressures_28 : decode cX1_movePressures 28 = .ok (.aload_n 0, 1) := by decide +kernel
theorem dX1_movePressures_29 : decode cX1_movePressures 29 = .ok (.getfield 11, 3) := by decide +kernel
theorem dX1_movePressures_32 : decode cX1_movePressures 32 = .ok (.iload 4, 2) := by decide +kernel
theorem dX1_movePressures_34 : decode cX1_movePressures 34 = .ok (.aaload, 1) := by decide +kernel
theorem dX1_movePressures_35 : decode cX1_movePressures 35 = .ok (.getfield 156, 3) := by decide +kernel
theorem dX1_movePressures_38 : decode cX1_movePressures 38 = .ok (.iconst 2, 1) := by decide +kernel
theorem dX1_movePressures_39 : decode cX1_movePressures 39 = .ok (.if_icmp .ne 13, 3) := by decide +kernel
theorem dX1_movePressures_42 : decode cX1_movePressures 42 = .ok (.aload_n 0, 1) := by decide +kernel
theorem dX1_movePressures_43 : decode cX1_movePressures 43 = .ok (.iload 4, 2) := by decide +kernel
theorem dX1_movePressures_45 : decode cX1_movePressures 45 = .ok (.iload_n 1, 1) := by decide +kernel
theorem dX1_movePressures_46 : decode cX1_movePressures 46 = .ok (.invokevirtual 168, 3) := by decide +kernel
theorem dX1_movePressures_49 : decode cX1_movePressures 49 = .ok (.goto 24, 3) := by decide +kernel
theorem dX1_movePressures_52 : decode cX1_movePressures 52 = .ok (.aload_n 0, 1) := by decide +kernel
theorem dX1_movePressures_53 : decode cX1_movePressures 53 = .ok (.getfield 11, 3) := by decide +kernel
theorem dX1_movePressures_56 : decode cX1_movePressures 56 = .ok (.iload 4, 2) := by decide +kernel
theorem dX1_movePressures_58 : decode cX1_movePressures 58 = .ok (.aaload, 1) := by decide +kernel
theorem dX1_movePressures_59 : decode cX1_movePressures 59 = .ok (.iload 4, 2) := by decide +kernel
theorem dX1_movePressures_61 : decode cX1_movePressures 61 = .ok (.iconst 2, 1) := by decide +kernel
theorem dX1_movePressures_62 : decode cX1_movePressures 62 = .ok (.if_icmp .ge 7, 3) := by decide +kernel
theorem dX1_movePressures_65 : decode cX1_movePressures 65 = .ok (.iload_n 2, 1) := by decide +kernel
theorem dX1_movePressures_66 : decode cX1_movePressures 66 = .ok (.goto 4, 3) := by decide +kernel
theorem dX1_movePressures_69 : decode cX1_movePressures 69 = .ok (.iload_n 3, 1) := by decide +kernel
theorem dX1_movePressures_70 : decode cX1_movePressures 70 = .ok (.invokevirtual 171, 3) := by decide +kernel
theorem dX1_movePressures_73 : decode cX1_movePressures 73 = .ok (.iinc 4 1, 3) := by decide +kernel
theorem dX1_movePressures_76 : decode cX1_movePressures 76 = .ok (.goto (-54), 3) := by decide +kernel
theorem dX1_movePressures_79 : decode cX1_movePressures 79 = .ok (.return_, 1) := by decide +kernel
theorem dX1_dump_0 : decode cX1_dump 0 = .ok (.aload_n 0, 1) := by decide +kernel
theorem dX1_dump_1 : decode cX1_dump 1 = .ok (.getfield 45, 3) := by decide +kernel
theorem dX1_dump_4 : decode cX1_dump 4 = .ok (.sipush 550, 3) := by decide +kernel
theorem dX1_dump_7 : decode cX1_dump 7 = .ok (.if_icmp .le 7, 3) := by decide +kernel
theorem dX1_dump_10 : decode cX1_dump 10 = .ok (.iconst 1, 1) := by decide +kernel
theorem dX1_dump_11 : decode cX1_dump 11 = .ok (.goto 4, 3) := by decide +kernel
theorem dX1_dump_14 : decode cX1_dump 14 = .ok (.iconst 0, 1) := by decide +kernel
theorem dX1_dump_15 : decode cX1_dump 15 = .ok (.istore_n 3, 1) := by decide +kernel
theorem dX1_dump_16 : decode cX1_dump 16 = .ok (.iload_n 3, 1) := by decide +kernel
theorem dX1_dump_17 : decode cX1_dump 17 = .ok (.ifCond .ne 49, 3) := by decide +kernel
theorem dX1_dump_20 : decode cX1_dump 20 = .ok (.aload_n 0, 1) := by decide +kernel
theorem dX1_dump_21 : decode cX1_dump 21 = .ok (.getfield 11, 3) := by decide +kernel
theorem dX1_dump_24 : decode cX1_dump 24 = .ok (.iload_n 1, 1) := by decide +kernel
theorem dX1_dump_25 : decode cX1_dump 25 = .ok (.aaload, 1) := by decide +kernel
theorem dX1_dump_26 : decode cX1_dump 26 = .ok (.getfield 159, 3) := by decide +kernel
theorem dX1_dump_29 : decode cX1_dump 29 = .ok (.bipush 50, 2) := by decide +kernel
theorem dX1_dump_31 : decode cX1_dump 31 = .ok (.invokestatic 111, 3) := by decide +kernel
theorem dX1_dump_34 : decode cX1_dump 34 = .ok (.istore 4, 2) := by decide +kernel
theorem dX1_dump_36 : decode cX1_dump 36 = .ok (.aload_n 0, 1) := by decide +kernel
theorem dX1_dump_37 : decode cX1_dump 37 = .ok (.getfield 11, 3) := by decide +kernel
theorem dX1_dump_40 : decode cX1_dump 40 = .ok (.iload_n 1, 1) := by decide +kernel
theorem dX1_dump_41 : decode cX1_dump 41 = .ok (.aaload, 1) := by decide +kernel
theorem dX1_dump_42 : decode cX1_dump 42 = .ok (.dup, 1) := by decide +kernel
theorem dX1_dump_43 : decode cX1_dump 43 = .ok (.getfield 159, 3) := by decide +kernel
theorem dX1_dump_46 : decode cX1_dump 46 = .ok (.iload 4, 2) := by decide +kernel
theorem dX1_dump_48 : decode cX1_dump 48 = .ok (.isub, 1) := by decide +kernel
theorem dX1_dump_49 : decode cX1_dump 49 = .ok (.putfield 159, 3) := by decide +kernel
theorem dX1_dump_52 : decode cX1_dump 52 = .ok (.aload_n 0, 1) := by decide +kernel
theorem dX1_dump_53 : decode cX1_dump 53 = .ok (.dup, 1) := by decide +kernel
theorem dX1_dump_54 : decode cX1_dump 54 = .ok (.getfield 45, 3) := by decide +kernel
theorem dX1_dump_57 : decode cX1_dump 57 = .ok (.iload 4, 2) := by decide +kernel
theorem dX1_dump_59 : decode cX1_dump 59 = .ok (.iadd, 1) := by decide +kernel
theorem dX1_dump_60 : decode cX1_dump 60 = .ok (.putfield 45, 3) := by decide +kernel
theorem dX1_dump_63 : decode cX1_dump 63 = .ok (.goto 20, 3) := by decide +kernel
theorem dX1_dump_66 : decode cX1_dump 66 = .ok (.aload_n 0, 1) := by decide +kernel
theorem dX1_dump_67 : decode cX1_dump 67 = .ok (.getfield 51, 3) := by decide +kernel
theorem dX1_dump_70 : decode cX1_dump 70 = .ok (.ifCond .ne 13, 3) := by decide +kernel
theorem dX1_dump_73 : decode cX1_dump 73 = .ok (.aload_n 0, 1) := by decide +kernel
theorem dX1_dump_74 : decode cX1_dump 74 = .ok (.getfield 21, 3) := by decide +kernel
theorem dX1_dump_77 : decode cX1_dump 77 = .ok (.iload_n 2, 1) := by decide +kernel
theorem dX1_dump_78 : decode cX1_dump 78 = .ok (.iconst 2, 1) := by decide +kernel
theorem dX1_dump_79 : decode cX1_dump 79 = .ok (.iload_n 1, 1) := by decide +kernel
theorem dX1_dump_80 : decode cX1_dump 80 = .ok (.invokevirtual 120, 3) := by decide +kernel
theorem dX1_dump_83 : decode cX1_dump 83 = .ok (.aload_n 0, 1) := by decide +kernel
theorem dX1_dump_84 : decode cX1_dump 84 = .ok (.iload_n 3, 1) := by decide +kernel
theorem dX1_dump_85 : decode cX1_dump 85 = .ok (.putfield 51, 3) := by decide +kernel
theorem dX1_dump_88 : decode cX1_dump 88 = .ok (.return_, 1) := by decide +kernel
theorem dX1_limitYaw_0 : decode cX1_limitYaw 0 = .ok (.aload_n 0, 1) := by decide +kernel
theorem dX1_limitYaw_1 : decode cX1_limitYaw 1 = .ok (.getfield 11, 3) := by decide +kernel
theorem dX1_limitYaw_4 : decode cX1_limitYaw 4 = .ok (.iconst 0, 1) := by decide +kernel
theorem dX1_limitYaw_5 : decode cX1_limitYaw 5 = .ok (.aaload, 1) := by decide +kernel
theorem dX1_limitYaw_6 : decode cX1_limitYaw 6 = .ok (.astore_n 1, 1) := by decide +kernel
theorem dX1_limitYaw_7 : decode cX1_limitYaw 7 = .ok (.aload_n 0, 1) := by decide +kernel
theorem dX1_limitYaw_8 : decode cX1_limitYaw 8 = .ok (.getfield 11, 3) := by decide +kernel
theorem dX1_limitYaw_11 : decode cX1_limitYaw 11 = .ok (.iconst 1, 1) := by decide +kernel
theorem dX1_limitYaw_12 : decode cX1_limitYaw 12 = .ok (.aaload, 1) := by decide +kernel
theorem dX1_limitYaw_13 : decode cX1_limitYaw 13 = .ok (.astore_n 2, 1) := by decide +kernel
theorem dX1_limitYaw_14 : decode cX1_limitYaw 14 = .ok (.aload_n 1, 1) := by decide +kernel
theorem dX1_limitYaw_15 : decode cX1_limitYaw 15 = .ok (.getfield 156, 3) := by decide +kernel
theorem dX1_limitYaw_18 : decode cX1_limitYaw 18 = .ok (.ifCond .ne 18, 3) := by decide +kernel
theorem dX1_limitYaw_21 : decode cX1_limitYaw 21 = .ok (.aload_n 2, 1) := by decide +kernel
theorem dX1_limitYaw_22 : decode cX1_limitYaw 22 = .ok (.getfield 156, 3) := by decide +kernel
theorem dX1_limitYaw_25 : decode cX1_limitYaw 25 = .ok (.ifCond .ne 11, 3) := by decide +kernel
theorem dX1_limitYaw_28 : decode cX1_limitYaw 28 = .ok (.aload_n 0, 1) := by decide +kernel
theorem dX1_limitYaw_29 : decode cX1_limitYaw 29 = .ok (.sipush 150, 3) := by decide +kernel
theorem dX1_limitYaw_32 : decode cX1_limitYaw 32 = .ok (.putfield 48, 3) := by decide +kernel
theorem dX1_limitYaw_35 : decode cX1_limitYaw 35 = .ok (.return_, 1) := by decide +kernel
theorem dX1_limitYaw_36 : decode cX1_limitYaw 36 = .ok (.aload_n 1, 1) := by decide +kernel
theorem dX1_limitYaw_37 : decode cX1_limitYaw 37 = .ok (.getfield 159, 3) := by decide +kernel
theorem dX1_limitYaw_40 : decode cX1_limitYaw 40 = .ok (.aload_n 2, 1) := by decide +kernel
theorem dX1_limitYaw_41 : decode cX1_limitYaw 41 = .ok (.getfield 159, 3) := by decide +kernel
theorem dX1_limitYaw_44 : decode cX1_limitYaw 44 = .ok (.invokestatic 111, 3) := by decide +kernel
theorem dX1_limitYaw_47 : decode cX1_limitYaw 47 = .ok (.aload_n 0, 1) := by decide +kernel
theorem dX1_limitYaw_48 : decode cX1_limitYaw 48 = .ok (.getfield 48, 3) := by decide +kernel
theorem dX1_limitYaw_51 : decode cX1_limitYaw 51 = .ok (.iadd, 1) := by decide +kernel
theorem dX1_limitYaw_52 : decode cX1_limitYaw 52 = .ok (.istore_n 3, 1) := by decide +kernel
theorem dX1_limitYaw_53 : decode cX1_limitYaw 53 = .ok (.aload_n 1, 1) := by decide +kernel
theorem dX1_limitYaw_54 : decode cX1_limitYaw 54 = .ok (.aload_n 1, 1) := by decide +kernel
theorem dX1_limitYaw_55 : decode cX1_limitYaw 55 = .ok (.getfield 159, 3) := by decide +kernel
theorem dX1_limitYaw_58 : decode cX1_limitYaw 58 = .ok (.iload_n 3, 1) := by decide +kernel
theorem dX1_limitYaw_59 : decode cX1_limitYaw 59 = .ok (.invokestatic 111, 3) := by decide +kernel
theorem dX1_limitYaw_62 : decode cX1_limitYaw 62 = .ok (.putfield 159, 3) := by decide +kernel
theorem dX1_limitYaw_65 : decode cX1_limitYaw 65 = .ok (.aload_n 2, 1) := by decide +kernel
theorem dX1_limitYaw_66 : decode cX1_limitYaw 66 = .ok (.aload_n 2, 1) := by decide +kernel
theorem dX1_limitYaw_67 : decode cX1_limitYaw 67 = .ok (.getfield 159, 3) := by decide +kernel
theorem dX1_limitYaw_70 : decode cX1_limitYaw 70 = .ok (.iload_n 3, 1) := by decide +kernel
theorem dX1_limitYaw_71 : decode cX1_limitYaw 71 = .ok (.invokestatic 111, 3) := by decide +kernel
theorem dX1_limitYaw_74 : decode cX1_limitYaw 74 = .ok (.putfield 159, 3) := by decide +kernel
theorem dX1_limitYaw_77 : decode cX1_limitYaw 77 = .ok (.aload_n 0, 1) := by decide +kernel
theorem dX1_limitYaw_78 : decode cX1_limitYaw 78 = .ok (.aload_n 0, 1) := by decide +kernel
theorem dX1_limitYaw_79 : decode cX1_limitYaw 79 = .ok (.getfield 48, 3) := by decide +kernel
theorem dX1_limitYaw_82 : decode cX1_limitYaw 82 = .ok (.iconst 4, 1) := by decide +kernel
theorem dX1_limitYaw_83 : decode cX1_limitYaw 83 = .ok (.iadd, 1) := by decide +kernel
theorem dX1_limitYaw_84 : decode cX1_limitYaw 84 = .ok (.sipush 1000, 3) := by decide +kernel
theorem dX1_limitYaw_87 : decode cX1_limitYaw 87 = .ok (.invokestatic 111, 3) := by decide +kernel
theorem dX1_limitYaw_90 : decode cX1_limitYaw 90 = .ok (.putfield 48, 3) := by decide +kernel
theorem dX1_limitYaw_93 : decode cX1_limitYaw 93 = .ok (.return_, 1) := by decide +kernel
theorem dX1_pump_0 : decode cX1_pump 0 = .ok (.aload_n 0, 1) := by decide +kernel
theorem dX1_pump_1 : decode cX1_pump 1 = .ok (.getfield 45, 3) := by decide +kernel
theorem dX1_pump_4 : decode cX1_pump 4 = .ok (.ifCond .le 28, 3) := by decide +kernel
theorem dX1_pump_7 : decode cX1_pump 7 = .ok (.aload_n 0, 1) := by decide +kernel
theorem dX1_pump_8 : decode cX1_pump 8 = .ok (.dup, 1) := by decide +kernel
theorem dX1_pump_9 : decode cX1_pump 9 = .ok (.getfield 37, 3) := by decide +kernel
theorem dX1_pump_12 : decode cX1_pump 12 = .ok (.iconst 1, 1) := by decide +kernel
theorem dX1_pump_13 : decode cX1_pump 13 = .ok (.iadd, 1) := by decide +kernel
theorem dX1_pump_14 : decode cX1_pump 14 = .ok (.putfield 37, 3) := by decide +kernel
theorem dX1_pump_17 : decode cX1_pump 17 = .ok (.aload_n 0, 1) := by decide +kernel
theorem dX1_pump_18 : decode cX1_pump 18 = .ok (.aload_n 0, 1) := by decide +kernel
theorem dX1_pump_19 : decode cX1_pump 19 = .ok (.getfield 45, 3) := by decide +kernel
theorem dX1_pump_22 : decode cX1_pump 22 = .ok (.bipush 20, 2) := by decide +kernel
theorem dX1_pump_24 : decode cX1_pump 24 = .ok (.isub, 1) := by decide +kernel
theorem dX1_pump_25 : decode cX1_pump 25 = .ok (.iconst 0, 1) := by decide +kernel
theorem dX1_pump_26 : decode cX1_pump 26 = .ok (.invokestatic 105, 3) := by decide +kernel
theorem dX1_pump_29 : decode cX1_pump 29 = .ok (.putfield 45, 3) := by decide +kernel
theorem dX1_pump_32 : decode cX1_pump 32 = .ok (.return_, 1) := by decide +kernel
theorem dX2_init_0 : decode cX2_init 0 = .ok (.aload_n 0, 1) := by decide +kernel
theorem dX2_init_1 : decode cX2_init 1 = .ok (.invokespecial 1, 3) := by decide +kernel
theorem dX2_init_4 : decode cX2_init 4 = .ok (.aload_n 0, 1) := by decide +kernel
theorem dX2_init_5 : decode cX2_init 5 = .ok (.bipush 40, 2) := by decide +kernel
theorem dX2_init_7 : decode cX2_init 7 = .ok (.newarray .int, 2) := by decide +kernel
theorem dX2_init_9 : decode cX2_init 9 = .ok (.putfield 9, 3) := by decide +kernel
theorem dX2_init_12 : decode cX2_init 12 = .ok (.aload_n 0, 1) := by decide +kernel
theorem dX2_init_13 : decode cX2_init 13 = .ok (.bipush 40, 2) := by decide +kernel
theorem dX2_init_15 : decode cX2_init 15 = .ok (.newarray .int, 2) := by decide +kernel
theorem dX2_init_17 : decode cX2_init 17 = .ok (.putfield 13, 3) := by decide +kernel
theorem dX2_init_20 : decode cX2_init 20 = .ok (.aload_n 0, 1) := by decide +kernel
theorem dX2_init_21 : decode cX2_init 21 = .ok (.bipush 40, 2) := by decide +kernel
theorem dX2_init_23 : decode cX2_init 23 = .ok (.newarray .int, 2) := by decide +kernel
theorem dX2_init_25 : decode cX2_init 25 = .ok (.putfield 16, 3) := by decide +kernel
theorem dX2_init_28 : decode cX2_init 28 = .ok (.return_, 1) := by decide +kernel
theorem dX2_clear_0 : decode cX2_clear 0 = .ok (.aload_n 0, 1) := by decide +kernel
theorem dX2_clear_1 : decode cX2_clear 1 = .ok (.iconst 0, 1) := by decide +kernel
theorem dX2_clear_2 : decode cX2_clear 2 = .ok (.putfield 19, 3) := by decide +kernel
theorem dX2_clear_5 : decode cX2_clear 5 = .ok (.aload_n 0, 1) := by decide +kernel
theorem dX2_clear_6 : decode cX2_clear 6 = .ok (.iconst 0, 1) := by decide +kernel
theorem dX2_clear_7 : decode cX2_clear 7 = .ok (.putfield 23, 3) := by decide +kernel
theorem dX2_clear_10 : decode cX2_clear 10 = .ok (.return_, 1) := by decide +kernel
theorem dX2_copyFrom_0 : decode cX2_copyFrom 0 = .ok (.aload_n 1, 1) := by decide +kernel
theorem dX2_copyFrom_1 : decode cX2_copyFrom 1 = .ok (.getfield 9, 3) := by decide +kernel
theorem dX2_copyFrom_4 : decode cX2_copyFrom 4 = .ok (.iconst 0, 1) := by decide +kernel
theorem dX2_copyFrom_5 : decode cX2_copyFrom 5 = .ok (.aload_n 0, 1) := by decide +kernel
theorem dX2_copyFrom_6 : decode cX2_copyFrom 6 = .ok (.getfield 9, 3) := by decide +kernel
theorem dX2_copyFrom_9 : decode cX2_copyFrom 9 = .ok (.iconst 0, 1) := by decide +kernel
theorem dX2_copyFrom_10 : decode cX2_copyFrom 10 = .ok (.bipush 40, 2) := by decide +kernel
theorem dX2_copyFrom_12 : decode cX2_copyFrom 12 = .ok (.invokestatic 26, 3) := by decide +kernel
theorem dX2_copyFrom_15 : decode cX2_copyFrom 15 = .ok (.aload_n 1, 1) := by decide +kernel
theorem dX2_copyFrom_16 : decode cX2_copyFrom 16 = .ok (.getfield 13, 3) := by decide +kernel
theorem dX2_copyFrom_19 : decode cX2_copyFrom 19 = .ok (.iconst 0, 1) := by decide +kernel
theorem dX2_copyFrom_20 : decode cX2_copyFrom 20 = .ok (.aload_n 0, 1) := by decide +kernel
theorem dX2_copyFrom_21 : decode cX2_copyFrom 21 = .ok (.getfield 13, 3) := by decide +kernel
theorem dX2_copyFrom_24 : decode cX2_copyFrom 24 = .ok (.iconst 0, 1) := by decide +kernel
theorem dX2_copyFrom_25 : decode cX2_copyFrom 25 = .ok (.bipush 40, 2) := by decide +kernel
theorem dX2_copyFrom_27 : decode cX2_copyFrom 27 = .ok (.invokestatic 26, 3) := by decide +kernel
theorem dX2_copyFrom_30 : decode cX2_copyFrom 30 = .ok (.aload_n 1, 1) := by decide +kernel
theorem dX2_copyFrom_31 : decode cX2_copyFrom 31 = .ok (.getfield 16, 3) := by decide +kernel
theorem dX2_copyFrom_34 : decode cX2_copyFrom 34 = .ok (.iconst 0, 1) := by decide +kernel
theorem dX2_copyFrom_35 : decode cX2_copyFrom 35 = .ok (.aload_n 0, 1) := by decide +kernel
theorem dX2_copyFrom_36 : decode cX2_copyFrom 36 = .ok (.getfield 16, 3) := by decide +kernel
theorem dX2_copyFrom_39 : decode cX2_copyFrom 39 = .ok (.iconst 0, 1) := by decide +kernel
theorem dX2_copyFrom_40 : decode cX2_copyFrom 40 = .ok (.bipush 40, 2) := by decide +kernel
theorem dX2_copyFrom_42 : decode cX2_copyFrom 42 = .ok (.invokestatic 26, 3) := by decide +kernel
theorem dX2_copyFrom_45 : decode cX2_copyFrom 45 = .ok (.aload_n 0, 1) := by decide +kernel
theorem dX2_copyFrom_46 : decode cX2_copyFrom 46 = .ok (.aload_n 1, 1) := by decide +kernel
theorem dX2_copyFrom_47 : decode cX2_copyFrom 47 = .ok (.getfield 19, 3) := by decide +kernel
theorem dX2_copyFrom_50 : decode cX2_copyFrom 50 = .ok (.putfield 19, 3) := by decide +kernel
theorem dX2_copyFrom_53 : decode cX2_copyFrom 53 = .ok (.aload_n 0, 1) := by decide +kernel
theorem dX2_copyFrom_54 : decode cX2_copyFrom 54 = .ok (.aload_n 1, 1) := by decide +kernel
theorem dX2_copyFrom_55 : decode cX2_copyFrom 55 = .ok (.getfield 23, 3) := by decide +kernel
theorem dX2_copyFrom_58 : decode cX2_copyFrom 58 = .ok (.putfield 23, 3) := by decide +kernel
theorem dX2_copyFrom_61 : decode cX2_copyFrom 61 = .ok (.return_, 1) := by decide +kernel
theorem dX2_add_0 : decode cX2_add 0 = .ok (.aload_n 0, 1) := by decide +kernel
theorem dX2_add_1 : decode cX2_add 1 = .ok (.getfield 19, 3) := by decide +kernel
theorem dX2_add_4 : decode cX2_add 4 = .ok (.aload_n 0, 1) := by decide +kernel
theorem dX2_add_5 : decode cX2_add 5 = .ok (.getfield 23, 3) := by decide +kernel
theorem dX2_add_8 : decode cX2_add 8 = .ok (.iadd, 1) := by decide +kernel
theorem dX2_add_9 : decode cX2_add 9 = .ok (.bipush 40, 2) := by decide +kernel
theorem dX2_add_11 : decode cX2_add 11 = .ok (.irem, 1) := by decide +kernel
theorem dX2_add_12 : decode cX2_add 12 = .ok (.istore 4, 2) := by decide +kernel
theorem dX2_add_14 : decode cX2_add 14 = .ok (.aload_n 0, 1) := by decide +kernel
theorem dX2_add_15 : decode cX2_add 15 = .ok (.getfield 9, 3) := by decide +kernel
theorem dX2_add_18 : decode cX2_add 18 = .ok (.iload 4, 2) := by decide +kernel
theorem dX2_add_20 : decode cX2_add 20 = .ok (.iload_n 1, 1) := by decide +kernel
theorem dX2_add_21 : decode cX2_add 21 = .ok (.iastore, 1) := by decide +kernel
theorem dX2_add_22 : decode cX2_add 22 = .ok (.aload_n 0, 1) := by decide +kernel
theorem dX2_add_23 : decode cX2_add 23 = .ok (.getfield 13, 3) := by decide +kernel
theorem dX2_add_26 : decode cX2_add 26 = .ok (.iload 4, 2) := by decide +kernel
theorem dX2_add_28 : decode cX2_add 28 = .ok (.iload_n 2, 1) := by decide +kernel
theorem dX2_add_29 : decode cX2_add 29 = .ok (.iastore, 1) := by decide +kernel
theorem dX2_add_30 : decode cX2_add 30 = .ok (.aload_n 0, 1) := by decide +kernel
theorem dX2_add_31 : decode cX2_add 31 = .ok (.getfield 16, 3) := by decide +kernel
theorem dX2_add_34 : decode cX2_add 34 = .ok (.iload 4, 2) := by decide +kernel
theorem dX2_add_36 : decode cX2_add 36 = .ok (.iload_n 3, 1) := by decide +kernel
theorem dX2_add_37 : decode cX2_add 37 = .ok (.iastore, 1) := by decide +kernel
theorem dX2_add_38 : decode cX2_add 38 = .ok (.aload_n 0, 1) := by decide +kernel
theorem dX2_add_39 : decode cX2_add 39 = .ok (.getfield 23, 3) := by decide +kernel
theorem dX2_add_42 : decode cX2_add 42 = .ok (.bipush 40, 2) := by decide +kernel
theorem dX2_add_44 : decode cX2_add 44 = .ok (.if_icmp .ge 16, 3) := by decide +kernel
theorem dX2_add_47 : decode cX2_add 47 = .ok (.aload_n 0, 1) := by decide +kernel
theorem dX2_add_48 : decode cX2_add 48 = .ok (.dup, 1) := by decide +kernel
theorem dX2_add_49 : decode cX2_add 49 = .ok (.getfield 23, 3) := by decide +kernel
theorem dX2_add_52 : decode cX2_add 52 = .ok (.iconst 1, 1) := by decide +kernel
theorem dX2_add_53 : decode cX2_add 53 = .ok (.iadd, 1) := by decide +kernel
theorem dX2_add_54 : decode cX2_add 54 = .ok (.putfield 23, 3) := by decide +kernel
theorem dX2_add_57 : decode cX2_add 57 = .ok (.goto 16, 3) := by decide +kernel
theorem dX2_add_60 : decode cX2_add 60 = .ok (.aload_n 0, 1) := by decide +kernel
theorem dX2_add_61 : decode cX2_add 61 = .ok (.aload_n 0, 1) := by decide +kernel
theorem dX2_add_62 : decode cX2_add 62 = .ok (.getfield 19, 3) := by decide +kernel
theorem dX2_add_65 : decode cX2_add 65 = .ok (.iconst 1, 1) := by decide +kernel
theorem dX2_add_66 : decode cX2_add 66 = .ok (.iadd, 1) := by decide +kernel
theorem dX2_add_67 : decode cX2_add 67 = .ok (.bipush 40, 2) := by decide +kernel
theorem dX2_add_69 : decode cX2_add 69 = .ok (.irem, 1) := by decide +kernel
theorem dX2_add_70 : decode cX2_add 70 = .ok (.putfield 19, 3) := by decide +kernel
theorem dX2_add_73 : decode cX2_add 73 = .ok (.return_, 1) := by decide +kernel
theorem dX2_value_0 : decode cX2_value 0 = .ok (.aload_n 0, 1) := by decide +kernel
theorem dX2_value_1 : decode cX2_value 1 = .ok (.iload_n 1, 1) := by decide +kernel
theorem dX2_value_2 : decode cX2_value 2 = .ok (.invokevirtual 32, 3) := by decide +kernel
theorem dX2_value_5 : decode cX2_value 5 = .ok (.istore_n 3, 1) := by decide +kernel
theorem dX2_value_6 : decode cX2_value 6 = .ok (.iload_n 2, 1) := by decide +kernel
theorem dX2_value_7 : decode cX2_value 7 = .ok (.lookupswitch 39 #[(0, 25), (1, 32)], 25) := by decide +kernel
theorem dX2_value_32 : decode cX2_value 32 = .ok (.aload_n 0, 1) := by decide +kernel
theorem dX2_value_33 : decode cX2_value 33 = .ok (.getfield 9, 3) := by decide +kernel
theorem dX2_value_36 : decode cX2_value 36 = .ok (.iload_n 3, 1) := by decide +kernel
theorem dX2_value_37 : decode cX2_value 37 = .ok (.iaload, 1) := by decide +kernel
theorem dX2_value_38 : decode cX2_value 38 = .ok (.ireturn, 1) := by decide +kernel
theorem dX2_value_39 : decode cX2_value 39 = .ok (.aload_n 0, 1) := by decide +kernel
theorem dX2_value_40 : decode cX2_value 40 = .ok (.getfield 13, 3) := by decide +kernel
theorem dX2_value_43 : decode cX2_value 43 = .ok (.iload_n 3, 1) := by decide +kernel
theorem dX2_value_44 : decode cX2_value 44 = .ok (.iaload, 1) := by decide +kernel
theorem dX2_value_45 : decode cX2_value 45 = .ok (.ireturn, 1) := by decide +kernel
theorem dX2_value_46 : decode cX2_value 46 = .ok (.aload_n 0, 1) := by decide +kernel
theorem dX2_value_47 : decode cX2_value 47 = .ok (.getfield 16, 3) := by decide +kernel
theorem dX2_value_50 : decode cX2_value 50 = .ok (.iload_n 3, 1) := by decide +kernel
theorem dX2_value_51 : decode cX2_value 51 = .ok (.iaload, 1) := by decide +kernel
theorem dX2_value_52 : decode cX2_value 52 = .ok (.ireturn, 1) := by decide +kernel
theorem dX2_mixInto_0 : decode cX2_mixInto 0 = .ok (.lload_n 1, 1) := by decide +kernel
theorem dX2_mixInto_1 : decode cX2_mixInto 1 = .ok (.aload_n 0, 1) := by decide +kernel
theorem dX2_mixInto_2 : decode cX2_mixInto 2 = .ok (.getfield 23, 3) := by decide +kernel
theorem dX2_mixInto_5 : decode cX2_mixInto 5 = .ok (.invokestatic 36, 3) := by decide +kernel
theorem dX2_mixInto_8 : decode cX2_mixInto 8 = .ok (.lstore_n 3, 1) := by decide +kernel
theorem dX2_mixInto_9 : decode cX2_mixInto 9 = .ok (.iconst 0, 1) := by decide +kernel
theorem dX2_mixInto_10 : decode cX2_mixInto 10 = .ok (.istore 5, 2) := by decide +kernel
theorem dX2_mixInto_12 : decode cX2_mixInto 12 = .ok (.iload 5, 2) := by decide +kernel
theorem dX2_mixInto_14 : decode cX2_mixInto 14 = .ok (.aload_n 0, 1) := by decide +kernel
theorem dX2_mixInto_15 : decode cX2_mixInto 15 = .ok (.getfield 23, 3) := by decide +kernel
theorem dX2_mixInto_18 : decode cX2_mixInto 18 = .ok (.if_icmp .ge 49, 3) := by decide +kernel
theorem dX2_mixInto_21 : decode cX2_mixInto 21 = .ok (.aload_n 0, 1) := by decide +kernel
theorem dX2_mixInto_22 : decode cX2_mixInto 22 = .ok (.iload 5, 2) := by decide +kernel
theorem dX2_mixInto_24 : decode cX2_mixInto 24 = .ok (.invokevirtual 32, 3) := by decide +kernel
theorem dX2_mixInto_27 : decode cX2_mixInto 27 = .ok (.istore 6, 2) := by decide +kernel
theorem dX2_mixInto_29 : decode cX2_mixInto 29 = .ok (.lload_n 3, 1) := by decide +kernel
theorem dX2_mixInto_30 : decode cX2_mixInto 30 = .ok (.aload_n 0, 1) := by decide +kernel
theorem dX2_mixInto_31 : decode cX2_mixInto 31 = .ok (.getfield 9, 3) := by decide +kernel
theorem dX2_mixInto_34 : decode cX2_mixInto 34 = .ok (.iload 6, 2) := by decide +kernel
theorem dX2_mixInto_36 : decode cX2_mixInto 36 = .ok (.iaload, 1) := by decide +kernel
theorem dX2_mixInto_37 : decode cX2_mixInto 37 = .ok (.invokestatic 36, 3) := by decide +kernel
theorem dX2_mixInto_40 : decode cX2_mixInto 40 = .ok (.aload_n 0, 1) := by decide +kernel
theorem dX2_mixInto_41 : decode cX2_mixInto 41 = .ok (.getfield 13, 3) := by decide +kernel
theorem dX2_mixInto_44 : decode cX2_mixInto 44 = .ok (.iload 6, 2) := by decide +kernel
theorem dX2_mixInto_46 : decode cX2_mixInto 46 = .ok (.iaload, 1) := by decide +kernel
theorem dX2_mixInto_47 : decode cX2_mixInto 47 = .ok (.invokestatic 36, 3) := by decide +kernel
theorem dX2_mixInto_50 : decode cX2_mixInto 50 = .ok (.aload_n 0, 1) := by decide +kernel
theorem dX2_mixInto_51 : decode cX2_mixInto 51 = .ok (.getfield 16, 3) := by decide +kernel
theorem dX2_mixInto_54 : decode cX2_mixInto 54 = .ok (.iload 6, 2) := by decide +kernel
theorem dX2_mixInto_56 : decode cX2_mixInto 56 = .ok (.iaload, 1) := by decide +kernel
theorem dX2_mixInto_57 : decode cX2_mixInto 57 = .ok (.invokestatic 36, 3) := by decide +kernel
theorem dX2_mixInto_60 : decode cX2_mixInto 60 = .ok (.lstore_n 3, 1) := by decide +kernel
theorem dX2_mixInto_61 : decode cX2_mixInto 61 = .ok (.iinc 5 1, 3) := by decide +kernel
theorem dX2_mixInto_64 : decode cX2_mixInto 64 = .ok (.goto (-52), 3) := by decide +kernel
theorem dX2_mixInto_67 : decode cX2_mixInto 67 = .ok (.lload_n 3, 1) := by decide +kernel
theorem dX2_mixInto_68 : decode cX2_mixInto 68 = .ok (.lreturn, 1) := by decide +kernel
theorem dX2_rowOf_0 : decode cX2_rowOf 0 = .ok (.aload_n 0, 1) := by decide +kernel
theorem dX2_rowOf_1 : decode cX2_rowOf 1 = .ok (.getfield 19, 3) := by decide +kernel
theorem dX2_rowOf_4 : decode cX2_rowOf 4 = .ok (.iload_n 1, 1) := by decide +kernel
theorem dX2_rowOf_5 : decode cX2_rowOf 5 = .ok (.iadd, 1) := by decide +kernel
theorem dX2_rowOf_6 : decode cX2_rowOf 6 = .ok (.bipush 40, 2) := by decide +kernel
theorem dX2_rowOf_8 : decode cX2_rowOf 8 = .ok (.irem, 1) := by decide +kernel
theorem dX2_rowOf_9 : decode cX2_rowOf 9 = .ok (.ireturn, 1) := by decide +kernel
theorem dX3_init_0 : decode cX3_init 0 = .ok (.aload_n 0, 1) := by decide +kernel
theorem dX3_init_1 : decode cX3_init 1 = .ok (.invokespecial 3, 3) := by decide +kernel
theorem dX3_init_4 : decode cX3_init 4 = .ok (.aload_n 0, 1) := by decide +kernel
theorem dX3_init_5 : decode cX3_init 5 = .ok (.bipush 12, 2) := by decide +kernel
theorem dX3_init_7 : decode cX3_init 7 = .ok (.newarray .int, 2) := by decide +kernel
theorem dX3_init_9 : decode cX3_init 9 = .ok (.putfield 11, 3) := by decide +kernel
theorem dX3_init_12 : decode cX3_init 12 = .ok (.aload_n 0, 1) := by decide +kernel
theorem dX3_init_13 : decode cX3_init 13 = .ok (.bipush 12, 2) := by decide +kernel
theorem dX3_init_15 : decode cX3_init 15 = .ok (.newarray .int, 2) := by decide +kernel
theorem dX3_init_17 : decode cX3_init 17 = .ok (.putfield 15, 3) := by decide +kernel
theorem dX3_init_20 : decode cX3_init 20 = .ok (.aload_n 0, 1) := by decide +kernel
theorem dX3_init_21 : decode cX3_init 21 = .ok (.bipush 12, 2) := by decide +kernel
theorem dX3_init_23 : decode cX3_init 23 = .ok (.newarray .int, 2) := by decide +kernel
theorem dX3_init_25 : decode cX3_init 25 = .ok (.putfield 18, 3) := by decide +kernel
theorem dX3_init_28 : decode cX3_init 28 = .ok (.return_, 1) := by decide +kernel
theorem dX3_clear_0 : decode cX3_clear 0 = .ok (.aload_n 0, 1) := by decide +kernel
theorem dX3_clear_1 : decode cX3_clear 1 = .ok (.iconst 0, 1) := by decide +kernel
theorem dX3_clear_2 : decode cX3_clear 2 = .ok (.iconst 0, 1) := by decide +kernel
theorem dX3_clear_3 : decode cX3_clear 3 = .ok (.iconst 0, 1) := by decide +kernel
theorem dX3_clear_4 : decode cX3_clear 4 = .ok (.iconst 0, 1) := by decide +kernel
theorem dX3_clear_5 : decode cX3_clear 5 = .ok (.invokevirtual 21, 3) := by decide +kernel
theorem dX3_clear_8 : decode cX3_clear 8 = .ok (.aload_n 0, 1) := by decide +kernel
theorem dX3_clear_9 : decode cX3_clear 9 = .ok (.iconst 1, 1) := by decide +kernel
theorem dX3_clear_10 : decode cX3_clear 10 = .ok (.putfield 25, 3) := by decide +kernel
theorem dX3_clear_13 : decode cX3_clear 13 = .ok (.return_, 1) := by decide +kernel
theorem dX3_copyFrom_0 : decode cX3_copyFrom 0 = .ok (.aload_n 1, 1) := by decide +kernel
theorem dX3_copyFrom_1 : decode cX3_copyFrom 1 = .ok (.getfield 11, 3) := by decide +kernel
theorem dX3_copyFrom_4 : decode cX3_copyFrom 4 = .ok (.iconst 0, 1) := by decide +kernel
theorem dX3_copyFrom_5 : decode cX3_copyFrom 5 = .ok (.aload_n 0, 1) := by decide +kernel
theorem dX3_copyFrom_6 : decode cX3_copyFrom 6 = .ok (.getfield 11, 3) := by decide +kernel
theorem dX3_copyFrom_9 : decode cX3_copyFrom 9 = .ok (.iconst 0, 1) := by decide +kernel
theorem dX3_copyFrom_10 : decode cX3_copyFrom 10 = .ok (.bipush 12, 2) := by decide +kernel
theorem dX3_copyFrom_12 : decode cX3_copyFrom 12 = .ok (.invokestatic 29, 3) := by decide +kernel
theorem dX3_copyFrom_15 : decode cX3_copyFrom 15 = .ok (.aload_n 1, 1) := by decide +kernel
theorem dX3_copyFrom_16 : decode cX3_copyFrom 16 = .ok (.getfield 15, 3) := by decide +kernel
theorem dX3_copyFrom_19 : decode cX3_copyFrom 19 = .ok (.iconst 0, 1) := by decide +kernel
theorem dX3_copyFrom_20 : decode cX3_copyFrom 20 = .ok (.aload_n 0, 1) := by decide +kernel
theorem dX3_copyFrom_21 : decode cX3_copyFrom 21 = .ok (.getfield 15, 3) := by decide +kernel
theorem dX3_copyFrom_24 : decode cX3_copyFrom 24 = .ok (.iconst 0, 1) := by decide +kernel
theorem dX3_copyFrom_25 : decode cX3_copyFrom 25 = .ok (.bipush 12, 2) := by decide +kernel
theorem dX3_copyFrom_27 : decode cX3_copyFrom 27 = .ok (.invokestatic 29, 3) := by decide +kernel
theorem dX3_copyFrom_30 : decode cX3_copyFrom 30 = .ok (.aload_n 1, 1) := by decide +kernel
theorem dX3_copyFrom_31 : decode cX3_copyFrom 31 = .ok (.getfield 18, 3) := by decide +kernel
theorem dX3_copyFrom_34 : decode cX3_copyFrom 34 = .ok (.iconst 0, 1) := by decide +kernel
theorem dX3_copyFrom_35 : decode cX3_copyFrom 35 = .ok (.aload_n 0, 1) := by decide +kernel
theorem dX3_copyFrom_36 : decode cX3_copyFrom 36 = .ok (.getfield 18, 3) := by decide +kernel
theorem dX3_copyFrom_39 : decode cX3_copyFrom 39 = .ok (.iconst 0, 1) := by decide +kernel
theorem dX3_copyFrom_40 : decode cX3_copyFrom 40 = .ok (.bipush 12, 2) := by decide +kernel
theorem dX3_copyFrom_42 : decode cX3_copyFrom 42 = .ok (.invokestatic 29, 3) := by decide +kernel
theorem dX3_copyFrom_45 : decode cX3_copyFrom 45 = .ok (.aload_n 0, 1) := by decide +kernel
theorem dX3_copyFrom_46 : decode cX3_copyFrom 46 = .ok (.aload_n 1, 1) := by decide +kernel
theorem dX3_copyFrom_47 : decode cX3_copyFrom 47 = .ok (.getfield 25, 3) := by decide +kernel
theorem dX3_copyFrom_50 : decode cX3_copyFrom 50 = .ok (.putfield 25, 3) := by decide +kernel
theorem dX3_copyFrom_53 : decode cX3_copyFrom 53 = .ok (.return_, 1) := by decide +kernel
theorem dX3_present_0 : decode cX3_present 0 = .ok (.iconst 0, 1) := by decide +kernel
theorem dX3_present_1 : decode cX3_present 1 = .ok (.istore_n 2, 1) := by decide +kernel
theorem dX3_present_2 : decode cX3_present 2 = .ok (.iload_n 2, 1) := by decide +kernel
theorem dX3_present_3 : decode cX3_present 3 = .ok (.iconst 1, 1) := by decide +kernel
theorem dX3_present_4 : decode cX3_present 4 = .ok (.iadd, 1) := by decide +kernel
theorem dX3_present_5 : decode cX3_present 5 = .ok (.aload_n 0, 1) := by decide +kernel
theorem dX3_present_6 : decode cX3_present 6 = .ok (.getfield 25, 3) := by decide +kernel
theorem dX3_present_9 : decode cX3_present 9 = .ok (.if_icmp .ge 21, 3) := by decide +kernel
theorem dX3_present_12 : decode cX3_present 12 = .ok (.aload_n 0, 1) := by decide +kernel
theorem dX3_present_13 : decode cX3_present 13 = .ok (.getfield 11, 3) := by decide +kernel
theorem dX3_present_16 : decode cX3_present 16 = .ok (.iload_n 2, 1) := by decide +kernel
theorem dX3_present_17 : decode cX3_present 17 = .ok (.iconst 1, 1) := by decide +kernel
theorem dX3_present_18 : decode cX3_present 18 = .ok (.iadd, 1) := by decide +kernel
theorem dX3_present_19 : decode cX3_present 19 = .ok (.iaload, 1) := by decide +kernel
theorem dX3_present_20 : decode cX3_present 20 = .ok (.iload_n 1, 1) := by decide +kernel
theorem dX3_present_21 : decode cX3_present 21 = .ok (.if_icmp .gt 9, 3) := by decide +kernel
theorem dX3_present_24 : decode cX3_present 24 = .ok (.iinc 2 1, 3) := by decide +kernel
theorem dX3_present_27 : decode cX3_present 27 = .ok (.goto (-25), 3) := by decide +kernel
theorem dX3_present_30 : decode cX3_present 30 = .ok (.iload_n 2, 1) := by decide +kernel
theorem dX3_present_31 : decode cX3_present 31 = .ok (.ireturn, 1) := by decide +kernel
theorem dX3_surfaceAt_0 : decode cX3_surfaceAt 0 = .ok (.aload_n 0, 1) := by decide +kernel
theorem dX3_surfaceAt_1 : decode cX3_surfaceAt 1 = .ok (.iload_n 1, 1) := by decide +kernel
theorem dX3_surfaceAt_2 : decode cX3_surfaceAt 2 = .ok (.invokevirtual 35, 3) := by decide +kernel
theorem dX3_surfaceAt_5 : decode cX3_surfaceAt 5 = .ok (.istore_n 3, 1) := by decide +kernel
theorem dX3_surfaceAt_6 : decode cX3_surfaceAt 6 = .ok (.iload_n 2, 1) := by decide +kernel
theorem dX3_surfaceAt_7 : decode cX3_surfaceAt 7 = .ok (.ifCond .eq 12, 3) := by decide +kernel
theorem dX3_surfaceAt_10 : decode cX3_surfaceAt 10 = .ok (.aload_n 0, 1) := by decide +kernel
theorem dX3_surfaceAt_11 : decode cX3_surfaceAt 11 = .ok (.getfield 15, 3) := by decide +kernel
theorem dX3_surfaceAt_14 : decode cX3_surfaceAt 14 = .ok (.iload_n 3, 1) := by decide +kernel
theorem dX3_surfaceAt_15 : decode cX3_surfaceAt 15 = .ok (.iaload, 1) := by decide +kernel
theorem dX3_surfaceAt_16 : decode cX3_surfaceAt 16 = .ok (.goto 9, 3) := by decide +kernel
theorem dX3_surfaceAt_19 : decode cX3_surfaceAt 19 = .ok (.aload_n 0, 1) := by decide +kernel
theorem dX3_surfaceAt_20 : decode cX3_surfaceAt 20 = .ok (.getfield 18, 3) := by decide +kernel
theorem dX3_surfaceAt_23 : decode cX3_surfaceAt 23 = .ok (.iload_n 3, 1) := by decide +kernel
theorem dX3_surfaceAt_24 : decode cX3_surfaceAt 24 = .ok (.iaload, 1) := by decide +kernel
theorem dX3_surfaceAt_25 : decode cX3_surfaceAt 25 = .ok (.ireturn, 1) := by decide +kernel
theorem dX3_hasRoomFor_0 : decode cX3_hasRoomFor 0 = .ok (.aload_n 0, 1) := by decide +kernel
theorem dX3_hasRoomFor_1 : decode cX3_hasRoomFor 1 = .ok (.getfield 25, 3) := by decide +kernel
theorem dX3_hasRoomFor_4 : decode cX3_hasRoomFor 4 = .ok (.bipush 12, 2) := by decide +kernel
theorem dX3_hasRoomFor_6 : decode cX3_hasRoomFor 6 = .ok (.if_icmp .lt 16, 3) := by decide +kernel
theorem dX3_hasRoomFor_9 : decode cX3_hasRoomFor 9 = .ok (.aload_n 0, 1) := by decide +kernel
theorem dX3_hasRoomFor_10 : decode cX3_hasRoomFor 10 = .ok (.aload_n 0, 1) := by decide +kernel
theorem dX3_hasRoomFor_11 : decode cX3_hasRoomFor 11 = .ok (.iload_n 1, 1) := by decide +kernel
theorem dX3_hasRoomFor_12 : decode cX3_hasRoomFor 12 = .ok (.invokevirtual 39, 3) := by decide +kernel
theorem dX3_hasRoomFor_15 : decode cX3_hasRoomFor 15 = .ok (.iload_n 1, 1) := by decide +kernel
theorem dX3_hasRoomFor_16 : decode cX3_hasRoomFor 16 = .ok (.invokevirtual 42, 3) := by decide +kernel
theorem dX3_hasRoomFor_19 : decode cX3_hasRoomFor 19 = .ok (.ifCond .eq 7, 3) := by decide +kernel
theorem dX3_hasRoomFor_22 : decode cX3_hasRoomFor 22 = .ok (.iconst 1, 1) := by decide +kernel
theorem dX3_hasRoomFor_23 : decode cX3_hasRoomFor 23 = .ok (.goto 4, 3) := by decide +kernel
theorem dX3_hasRoomFor_26 : decode cX3_hasRoomFor 26 = .ok (.iconst 0, 1) := by decide +kernel
theorem dX3_hasRoomFor_27 : decode cX3_hasRoomFor 27 = .ok (.ireturn, 1) := by decide +kernel
theorem dX3_put_0 : decode cX3_put 0 = .ok (.aload_n 0, 1) := by decide +kernel
theorem dX3_put_1 : decode cX3_put 1 = .ok (.iload_n 1, 1) := by decide +kernel
theorem dX3_put_2 : decode cX3_put 2 = .ok (.invokevirtual 39, 3) := by decide +kernel
theorem dX3_put_5 : decode cX3_put 5 = .ok (.istore 4, 2) := by decide +kernel
theorem dX3_put_7 : decode cX3_put 7 = .ok (.aload_n 0, 1) := by decide +kernel
theorem dX3_put_8 : decode cX3_put 8 = .ok (.iload 4, 2) := by decide +kernel
theorem dX3_put_10 : decode cX3_put 10 = .ok (.iload_n 1, 1) := by decide +kernel
theorem dX3_put_11 : decode cX3_put 11 = .ok (.invokevirtual 42, 3) := by decide +kernel
theorem dX3_put_14 : decode cX3_put 14 = .ok (.ifCond .eq 15, 3) := by decide +kernel
theorem dX3_put_17 : decode cX3_put 17 = .ok (.aload_n 0, 1) := by decide +kernel
theorem dX3_put_18 : decode cX3_put 18 = .ok (.iload 4, 2) := by decide +kernel
theorem dX3_put_20 : decode cX3_put 20 = .ok (.iload_n 1, 1) := by decide +kernel
theorem dX3_put_21 : decode cX3_put 21 = .ok (.iload_n 2, 1) := by decide +kernel
theorem dX3_put_22 : decode cX3_put 22 = .ok (.iload_n 3, 1) := by decide +kernel
theorem dX3_put_23 : decode cX3_put 23 = .ok (.invokevirtual 21, 3) := by decide +kernel
theorem dX3_put_26 : decode cX3_put 26 = .ok (.goto 48, 3) := by decide +kernel
theorem dX3_put_29 : decode cX3_put 29 = .ok (.aload_n 0, 1) := by decide +kernel
theorem dX3_put_30 : decode cX3_put 30 = .ok (.getfield 25, 3) := by decide +kernel
theorem dX3_put_33 : decode cX3_put 33 = .ok (.bipush 12, 2) := by decide +kernel
theorem dX3_put_35 : decode cX3_put 35 = .ok (.if_icmp .ge 39, 3) := by decide +kernel
theorem dX3_put_38 : decode cX3_put 38 = .ok (.aload_n 0, 1) := by decide +kernel
theorem dX3_put_39 : decode cX3_put 39 = .ok (.iload 4, 2) := by decide +kernel
theorem dX3_put_41 : decode cX3_put 41 = .ok (.iload 4, 2) := by decide +kernel
theorem dX3_put_43 : decode cX3_put 43 = .ok (.iconst 1, 1) := by decide +kernel
theorem dX3_put_44 : decode cX3_put 44 = .ok (.iadd, 1) := by decide +kernel
theorem dX3_put_45 : decode cX3_put 45 = .ok (.aload_n 0, 1) := by decide +kernel
theorem dX3_put_46 : decode cX3_put 46 = .ok (.getfield 25, 3) := by decide +kernel
theorem dX3_put_49 : decode cX3_put 49 = .ok (.iload 4, 2) := by decide +kernel
theorem dX3_put_51 : decode cX3_put 51 = .ok (.isub, 1) := by decide +kernel
theorem dX3_put_52 : decode cX3_put 52 = .ok (.invokevirtual 46, 3) := by decide +kernel
theorem dX3_put_55 : decode cX3_put 55 = .ok (.aload_n 0, 1) := by decide +kernel
theorem dX3_put_56 : decode cX3_put 56 = .ok (.iload 4, 2) := by decide +kernel
theorem dX3_put_58 : decode cX3_put 58 = .ok (.iload_n 1, 1) := by decide +kernel
theorem dX3_put_59 : decode cX3_put 59 = .ok (.iload_n 2, 1) := by decide +kernel
theorem dX3_put_60 : decode cX3_put 60 = .ok (.iload_n 3, 1) := by decide +kernel
theorem dX3_put_61 : decode cX3_put 61 = .ok (.invokevirtual 21, 3) := by decide +kernel
theorem dX3_put_64 : decode cX3_put 64 = .ok (.aload_n 0, 1) := by decide +kernel
theorem dX3_put_65 : decode cX3_put 65 = .ok (.dup, 1) := by decide +kernel
theorem dX3_put_66 : decode cX3_put 66 = .ok (.getfield 25, 3) := by decide +kernel
theorem dX3_put_69 : decode cX3_put 69 = .ok (.iconst 1, 1) := by decide +kernel
theorem dX3_put_70 : decode cX3_put 70 = .ok (.iadd, 1) := by decide +kernel
theorem dX3_put_71 : decode cX3_put 71 = .ok (.putfield 25, 3) := by decide +kernel
theorem dX3_put_74 : decode cX3_put 74 = .ok (.return_, 1) := by decide +kernel
theorem dX3_dropPassed_0 : decode cX3_dropPassed 0 = .ok (.aload_n 0, 1) := by decide +kernel
theorem dX3_dropPassed_1 : decode cX3_dropPassed 1 = .ok (.iload_n 1, 1) := by decide +kernel
theorem dX3_dropPassed_2 : decode cX3_dropPassed 2 = .ok (.invokevirtual 35, 3) := by decide +kernel
theorem dX3_dropPassed_5 : decode cX3_dropPassed 5 = .ok (.istore_n 2, 1) := by decide +kernel
theorem dX3_dropPassed_6 : decode cX3_dropPassed 6 = .ok (.iload_n 2, 1) := by decide +kernel
theorem dX3_dropPassed_7 : decode cX3_dropPassed 7 = .ok (.ifCond .le 25, 3) := by decide +kernel
theorem dX3_dropPassed_10 : decode cX3_dropPassed 10 = .ok (.aload_n 0, 1) := by decide +kernel
theorem dX3_dropPassed_11 : decode cX3_dropPassed 11 = .ok (.iload_n 2, 1) := by decide +kernel
theorem dX3_dropPassed_12 : decode cX3_dropPassed 12 = .ok (.iconst 0, 1) := by decide +kernel
theorem dX3_dropPassed_13 : decode cX3_dropPassed 13 = .ok (.aload_n 0, 1) := by decide +kernel
theorem dX3_dropPassed_14 : decode cX3_dropPassed 14 = .ok (.getfield 25, 3) := by decide +kernel
theorem dX3_dropPassed_17 : decode cX3_dropPassed 17 = .ok (.iload_n 2, 1) := by decide +kernel
theorem dX3_dropPassed_18 : decode cX3_dropPassed 18 = .ok (.isub, 1) := by decide +kernel
theorem dX3_dropPassed_19 : decode cX3_dropPassed 19 = .ok (.invokevirtual 46, 3) := by decide +kernel
theorem dX3_dropPassed_22 : decode cX3_dropPassed 22 = .ok (.aload_n 0, 1) := by decide +kernel
theorem dX3_dropPassed_23 : decode cX3_dropPassed 23 = .ok (.dup, 1) := by decide +kernel
theorem dX3_dropPassed_24 : decode cX3_dropPassed 24 = .ok (.getfield 25, 3) := by decide +kernel
theorem dX3_dropPassed_27 : decode cX3_dropPassed 27 = .ok (.iload_n 2, 1) := by decide +kernel
theorem dX3_dropPassed_28 : decode cX3_dropPassed 28 = .ok (.isub, 1) := by decide +kernel
theorem dX3_dropPassed_29 : decode cX3_dropPassed 29 = .ok (.putfield 25, 3) := by decide +kernel
theorem dX3_dropPassed_32 : decode cX3_dropPassed 32 = .ok (.return_, 1) := by decide +kernel
theorem dX3_value_0 : decode cX3_value 0 = .ok (.iload_n 2, 1) := by decide +kernel
theorem dX3_value_1 : decode cX3_value 1 = .ok (.lookupswitch 41 #[(0, 27), (1, 34)], 27) := by decide +kernel
theorem dX3_value_28 : decode cX3_value 28 = .ok (.aload_n 0, 1) := by decide +kernel
theorem dX3_value_29 : decode cX3_value 29 = .ok (.getfield 11, 3) := by decide +kernel
theorem dX3_value_32 : decode cX3_value 32 = .ok (.iload_n 1, 1) := by decide +kernel
theorem dX3_value_33 : decode cX3_value 33 = .ok (.iaload, 1) := by decide +kernel
theorem dX3_value_34 : decode cX3_value 34 = .ok (.ireturn, 1) := by decide +kernel
theorem dX3_value_35 : decode cX3_value 35 = .ok (.aload_n 0, 1) := by decide +kernel
theorem dX3_value_36 : decode cX3_value 36 = .ok (.getfield 15, 3) := by decide +kernel
theorem dX3_value_39 : decode cX3_value 39 = .ok (.iload_n 1, 1) := by decide +kernel
theorem dX3_value_40 : decode cX3_value 40 = .ok (.iaload, 1) := by decide +kernel
theorem dX3_value_41 : decode cX3_value 41 = .ok (.ireturn, 1) := by decide +kernel
theorem dX3_value_42 : decode cX3_value 42 = .ok (.aload_n 0, 1) := by decide +kernel
theorem dX3_value_43 : decode cX3_value 43 = .ok (.getfield 18, 3) := by decide +kernel
theorem dX3_value_46 : decode cX3_value 46 = .ok (.iload_n 1, 1) := by decide +kernel
theorem dX3_value_47 : decode cX3_value 47 = .ok (.iaload, 1) := by decide +kernel
theorem dX3_value_48 : decode cX3_value 48 = .ok (.ireturn, 1) := by decide +kernel
theorem dX3_mixInto_0 : decode cX3_mixInto 0 = .ok (.lload_n 1, 1) := by decide +kernel
theorem dX3_mixInto_1 : decode cX3_mixInto 1 = .ok (.aload_n 0, 1) := by decide +kernel
theorem dX3_mixInto_2 : decode cX3_mixInto 2 = .ok (.getfield 25, 3) := by decide +kernel
theorem dX3_mixInto_5 : decode cX3_mixInto 5 = .ok (.invokestatic 50, 3) := by decide +kernel
theorem dX3_mixInto_8 : decode cX3_mixInto 8 = .ok (.lstore_n 3, 1) := by decide +kernel
theorem dX3_mixInto_9 : decode cX3_mixInto 9 = .ok (.iconst 0, 1) := by decide +kernel
theorem dX3_mixInto_10 : decode cX3_mixInto 10 = .ok (.istore 5, 2) := by decide +kernel
theorem dX3_mixInto_12 : decode cX3_mixInto 12 = .ok (.iload 5, 2) := by decide +kernel
theorem dX3_mixInto_14 : decode cX3_mixInto 14 = .ok (.aload_n 0, 1) := by decide +kernel
theorem dX3_mixInto_15 : decode cX3_mixInto 15 = .ok (.getfield 25, 3) := by decide +kernel
theorem dX3_mixInto_18 : decode cX3_mixInto 18 = .ok (.if_icmp .ge 41, 3) := by decide +kernel
theorem dX3_mixInto_21 : decode cX3_mixInto 21 = .ok (.lload_n 3, 1) := by decide +kernel
theorem dX3_mixInto_22 : decode cX3_mixInto 22 = .ok (.aload_n 0, 1) := by decide +kernel
theorem dX3_mixInto_23 : decode cX3_mixInto 23 = .ok (.getfield 11, 3) := by decide +kernel
theorem dX3_mixInto_26 : decode cX3_mixInto 26 = .ok (.iload 5, 2) := by decide +kernel
theorem dX3_mixInto_28 : decode cX3_mixInto 28 = .ok (.iaload, 1) := by decide +kernel
theorem dX3_mixInto_29 : decode cX3_mixInto 29 = .ok (.invokestatic 50, 3) := by decide +kernel
theorem dX3_mixInto_32 : decode cX3_mixInto 32 = .ok (.aload_n 0, 1) := by decide +kernel
theorem dX3_mixInto_33 : decode cX3_mixInto 33 = .ok (.getfield 15, 3) := by decide +kernel
theorem dX3_mixInto_36 : decode cX3_mixInto 36 = .ok (.iload 5, 2) := by decide +kernel
theorem dX3_mixInto_38 : decode cX3_mixInto 38 = .ok (.iaload, 1) := by decide +kernel
theorem dX3_mixInto_39 : decode cX3_mixInto 39 = .ok (.invokestatic 50, 3) := by decide +kernel
theorem dX3_mixInto_42 : decode cX3_mixInto 42 = .ok (.aload_n 0, 1) := by decide +kernel
theorem dX3_mixInto_43 : decode cX3_mixInto 43 = .ok (.getfield 18, 3) := by decide +kernel
theorem dX3_mixInto_46 : decode cX3_mixInto 46 = .ok (.iload 5, 2) := by decide +kernel
theorem dX3_mixInto_48 : decode cX3_mixInto 48 = .ok (.iaload, 1) := by decide +kernel
theorem dX3_mixInto_49 : decode cX3_mixInto 49 = .ok (.invokestatic 50, 3) := by decide +kernel
theorem dX3_mixInto_52 : decode cX3_mixInto 52 = .ok (.lstore_n 3, 1) := by decide +kernel
theorem dX3_mixInto_53 : decode cX3_mixInto 53 = .ok (.iinc 5 1, 3) := by decide +kernel
theorem dX3_mixInto_56 : decode cX3_mixInto 56 = .ok (.goto (-44), 3) := by decide +kernel
theorem dX3_mixInto_59 : decode cX3_mixInto 59 = .ok (.lload_n 3, 1) := by decide +kernel
theorem dX3_mixInto_60 : decode cX3_mixInto 60 = .ok (.lreturn, 1) := by decide +kernel
theorem dX3_placeOf_0 : decode cX3_placeOf 0 = .ok (.iconst 0, 1) := by decide +kernel
theorem dX3_placeOf_1 : decode cX3_placeOf 1 = .ok (.istore_n 2, 1) := by decide +kernel
theorem dX3_placeOf_2 : decode cX3_placeOf 2 = .ok (.iload_n 2, 1) := by decide +kernel
theorem dX3_placeOf_3 : decode cX3_placeOf 3 = .ok (.aload_n 0, 1) := by decide +kernel
theorem dX3_placeOf_4 : decode cX3_placeOf 4 = .ok (.getfield 25, 3) := by decide +kernel
theorem dX3_placeOf_7 : decode cX3_placeOf 7 = .ok (.if_icmp .ge 19, 3) := by decide +kernel
theorem dX3_placeOf_10 : decode cX3_placeOf 10 = .ok (.aload_n 0, 1) := by decide +kernel
theorem dX3_placeOf_11 : decode cX3_placeOf 11 = .ok (.getfield 11, 3) := by decide +kernel
theorem dX3_placeOf_14 : decode cX3_placeOf 14 = .ok (.iload_n 2, 1) := by decide +kernel
theorem dX3_placeOf_15 : decode cX3_placeOf 15 = .ok (.iaload, 1) := by decide +kernel
theorem dX3_placeOf_16 : decode cX3_placeOf 16 = .ok (.iload_n 1, 1) := by decide +kernel
theorem dX3_placeOf_17 : decode cX3_placeOf 17 = .ok (.if_icmp .ge 9, 3) := by decide +kernel
theorem dX3_placeOf_20 : decode cX3_placeOf 20 = .ok (.iinc 2 1, 3) := by decide +kernel
theorem dX3_placeOf_23 : decode cX3_placeOf 23 = .ok (.goto (-21), 3) := by decide +kernel
theorem dX3_placeOf_26 : decode cX3_placeOf 26 = .ok (.iload_n 2, 1) := by decide +kernel
theorem dX3_placeOf_27 : decode cX3_placeOf 27 = .ok (.ireturn, 1) := by decide +kernel
theorem dX3_isStart_0 : decode cX3_isStart 0 = .ok (.iload_n 1, 1) := by decide +kernel
theorem dX3_isStart_1 : decode cX3_isStart 1 = .ok (.aload_n 0, 1) := by decide +kernel
theorem dX3_isStart_2 : decode cX3_isStart 2 = .ok (.getfield 25, 3) := by decide +kernel
theorem dX3_isStart_5 : decode cX3_isStart 5 = .ok (.if_icmp .ge 17, 3) := by decide +kernel
theorem dX3_isStart_8 : decode cX3_isStart 8 = .ok (.aload_n 0, 1) := by decide +kernel
theorem dX3_isStart_9 : decode cX3_isStart 9 = .ok (.getfield 11, 3) := by decide +kernel
theorem dX3_isStart_12 : decode cX3_isStart 12 = .ok (.iload_n 1, 1) := by decide +kernel
theorem dX3_isStart_13 : decode cX3_isStart 13 = .ok (.iaload, 1) := by decide +kernel
theorem dX3_isStart_14 : decode cX3_isStart 14 = .ok (.iload_n 2, 1) := by decide +kernel
theorem dX3_isStart_15 : decode cX3_isStart 15 = .ok (.if_icmp .ne 7, 3) := by decide +kernel
theorem dX3_isStart_18 : decode cX3_isStart 18 = .ok (.iconst 1, 1) := by decide +kernel
theorem dX3_isStart_19 : decode cX3_isStart 19 = .ok (.goto 4, 3) := by decide +kernel
theorem dX3_isStart_22 : decode cX3_isStart 22 = .ok (.iconst 0, 1) := by decide +kernel
theorem dX3_isStart_23 : decode cX3_isStart 23 = .ok (.ireturn, 1) := by decide +kernel
theorem dX3_setRow_0 : decode cX3_setRow 0 = .ok (.aload_n 0, 1) := by decide +kernel
theorem dX3_setRow_1 : decode cX3_setRow 1 = .ok (.getfield 11, 3) := by decide +kernel
theorem dX3_setRow_4 : decode cX3_setRow 4 = .ok (.iload_n 1, 1) := by decide +kernel
theorem dX3_setRow_5 : decode cX3_setRow 5 = .ok (.iload_n 2, 1) := by decide +kernel
theorem dX3_setRow_6 : decode cX3_setRow 6 = .ok (.iastore, 1) := by decide +kernel
theorem dX3_setRow_7 : decode cX3_setRow 7 = .ok (.aload_n 0, 1) := by decide +kernel
theorem dX3_setRow_8 : decode cX3_setRow 8 = .ok (.getfield 15, 3) := by decide +kernel
theorem dX3_setRow_11 : decode cX3_setRow 11 = .ok (.iload_n 1, 1) := by decide +kernel
theorem dX3_setRow_12 : decode cX3_setRow 12 = .ok (.iload_n 3, 1) := by decide +kernel
theorem dX3_setRow_13 : decode cX3_setRow 13 = .ok (.iastore, 1) := by decide +kernel
theorem dX3_setRow_14 : decode cX3_setRow 14 = .ok (.aload_n 0, 1) := by decide +kernel
theorem dX3_setRow_15 : decode cX3_setRow 15 = .ok (.getfield 18, 3) := by decide +kernel
theorem dX3_setRow_18 : decode cX3_setRow 18 = .ok (.iload_n 1, 1) := by decide +kernel
theorem dX3_setRow_19 : decode cX3_setRow 19 = .ok (.iload 4, 2) := by decide +kernel
theorem dX3_setRow_21 : decode cX3_setRow 21 = .ok (.iastore, 1) := by decide +kernel
theorem dX3_setRow_22 : decode cX3_setRow 22 = .ok (.return_, 1) := by decide +kernel
theorem dX3_shift_0 : decode cX3_shift 0 = .ok (.aload_n 0, 1) := by decide +kernel
theorem dX3_shift_1 : decode cX3_shift 1 = .ok (.getfield 11, 3) := by decide +kernel
theorem dX3_shift_4 : decode cX3_shift 4 = .ok (.iload_n 1, 1) := by decide +kernel
theorem dX3_shift_5 : decode cX3_shift 5 = .ok (.aload_n 0, 1) := by decide +kernel
theorem dX3_shift_6 : decode cX3_shift 6 = .ok (.getfield 11, 3) := by decide +kernel
theorem dX3_shift_9 : decode cX3_shift 9 = .ok (.iload_n 2, 1) := by decide +kernel
theorem dX3_shift_10 : decode cX3_shift 10 = .ok (.iload_n 3, 1) := by decide +kernel
theorem dX3_shift_11 : decode cX3_shift 11 = .ok (.invokestatic 29, 3) := by decide +kernel
theorem dX3_shift_14 : decode cX3_shift 14 = .ok (.aload_n 0, 1) := by decide +kernel
theorem dX3_shift_15 : decode cX3_shift 15 = .ok (.getfield 15, 3) := by decide +kernel
theorem dX3_shift_18 : decode cX3_shift 18 = .ok (.iload_n 1, 1) := by decide +kernel
theorem dX3_shift_19 : decode cX3_shift 19 = .ok (.aload_n 0, 1) := by decide +kernel
theorem dX3_shift_20 : decode cX3_shift 20 = .ok (.getfield 15, 3) := by decide +kernel
theorem dX3_shift_23 : decode cX3_shift 23 = .ok (.iload_n 2, 1) := by decide +kernel
theorem dX3_shift_24 : decode cX3_shift 24 = .ok (.iload_n 3, 1) := by decide +kernel
theorem dX3_shift_25 : decode cX3_shift 25 = .ok (.invokestatic 29, 3) := by decide +kernel
theorem dX3_shift_28 : decode cX3_shift 28 = .ok (.aload_n 0, 1) := by decide +kernel
theorem dX3_shift_29 : decode cX3_shift 29 = .ok (.getfield 18, 3) := by decide +kernel
theorem dX3_shift_32 : decode cX3_shift 32 = .ok (.iload_n 1, 1) := by decide +kernel
theorem dX3_shift_33 : decode cX3_shift 33 = .ok (.aload_n 0, 1) := by decide +kernel
theorem dX3_shift_34 : decode cX3_shift 34 = .ok (.getfield 18, 3) := by decide +kernel
theorem dX3_shift_37 : decode cX3_shift 37 = .ok (.iload_n 2, 1) := by decide +kernel
theorem dX3_shift_38 : decode cX3_shift 38 = .ok (.iload_n 3, 1) := by decide +kernel
theorem dX3_shift_39 : decode cX3_shift 39 = .ok (.invokestatic 29, 3) := by decide +kernel
theorem dX3_shift_42 : decode cX3_shift 42 = .ok (.return_, 1) := by decide +kernel
theorem dX4_init_0 : decode cX4_init 0 = .ok (.aload_n 0, 1) := by decide +kernel
theorem dX4_init_1 : decode cX4_init 1 = .ok (.invokespecial 1, 3) := by decide +kernel
theorem dX4_init_4 : decode cX4_init 4 = .ok (.aload_n 0, 1) := by decide +kernel
theorem dX4_init_5 : decode cX4_init 5 = .ok (.bipush 10, 2) := by decide +kernel
theorem dX4_init_7 : decode cX4_init 7 = .ok (.newarray .int, 2) := by decide +kernel
theorem dX4_init_9 : decode cX4_init 9 = .ok (.putfield 9, 3) := by decide +kernel
theorem dX4_init_12 : decode cX4_init 12 = .ok (.aload_n 0, 1) := by decide +kernel
theorem dX4_init_13 : decode cX4_init 13 = .ok (.bipush 10, 2) := by decide +kernel
theorem dX4_init_15 : decode cX4_init 15 = .ok (.newarray .int, 2) := by decide +kernel
theorem dX4_init_17 : decode cX4_init 17 = .ok (.putfield 13, 3) := by decide +kernel
theorem dX4_init_20 : decode cX4_init 20 = .ok (.return_, 1) := by decide +kernel
theorem dX4_clear_0 : decode cX4_clear 0 = .ok (.aload_n 0, 1) := by decide +kernel
theorem dX4_clear_1 : decode cX4_clear 1 = .ok (.iconst 0, 1) := by decide +kernel
theorem dX4_clear_2 : decode cX4_clear 2 = .ok (.putfield 16, 3) := by decide +kernel
theorem dX4_clear_5 : decode cX4_clear 5 = .ok (.return_, 1) := by decide +kernel
