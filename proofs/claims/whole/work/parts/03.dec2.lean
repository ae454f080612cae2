theorem dX7_followsPlan_72 : decode cX7_followsPlan 72 = .ok (.iadd, 1) := by decide +kernel
theorem dX7_followsPlan_73 : decode cX7_followsPlan 73 = .ok (.aload_n 0, 1) := by decide +kernel
theorem dX7_followsPlan_74 : decode cX7_followsPlan 74 = .ok (.getfield 7, 3) := by decide +kernel
theorem dX7_followsPlan_77 : decode cX7_followsPlan 77 = .ok (.bipush 112, 2) := by decide +kernel
theorem dX7_followsPlan_79 : decode cX7_followsPlan 79 = .ok (.iload_n 1, 1) := by decide +kernel
theorem dX7_followsPlan_80 : decode cX7_followsPlan 80 = .ok (.iadd, 1) := by decide +kernel
theorem dX7_followsPlan_81 : decode cX7_followsPlan 81 = .ok (.iconst 2, 1) := by decide +kernel
theorem dX7_followsPlan_82 : decode cX7_followsPlan 82 = .ok (.iadd, 1) := by decide +kernel
theorem dX7_followsPlan_83 : decode cX7_followsPlan 83 = .ok (.iaload, 1) := by decide +kernel
theorem dX7_followsPlan_84 : decode cX7_followsPlan 84 = .ok (.iastore, 1) := by decide +kernel
theorem dX7_followsPlan_85 : decode cX7_followsPlan 85 = .ok (.iinc 1 1, 3) := by decide +kernel
theorem dX7_followsPlan_88 : decode cX7_followsPlan 88 = .ok (.goto (-36), 3) := by decide +kernel
theorem dX7_followsPlan_91 : decode cX7_followsPlan 91 = .ok (.goto (-91), 3) := by decide +kernel
theorem dX7_followsPlan_94 : decode cX7_followsPlan 94 = .ok (.return_, 1) := by decide +kernel
theorem dX7_measures_0 : decode cX7_measures 0 = .ok (.aload_n 0, 1) := by decide +kernel
theorem dX7_measures_1 : decode cX7_measures 1 = .ok (.iload_n 1, 1) := by decide +kernel
theorem dX7_measures_2 : decode cX7_measures 2 = .ok (.bipush 10, 2) := by decide +kernel
theorem dX7_measures_4 : decode cX7_measures 4 = .ok (.invokevirtual 45, 3) := by decide +kernel
theorem dX7_measures_7 : decode cX7_measures 7 = .ok (.iconst 5, 1) := by decide +kernel
theorem dX7_measures_8 : decode cX7_measures 8 = .ok (.if_icmp .ne 44, 3) := by decide +kernel
theorem dX7_measures_11 : decode cX7_measures 11 = .ok (.iconst 0, 1) := by decide +kernel
theorem dX7_measures_12 : decode cX7_measures 12 = .ok (.istore_n 2, 1) := by decide +kernel
theorem dX7_measures_13 : decode cX7_measures 13 = .ok (.iload_n 2, 1) := by decide +kernel
theorem dX7_measures_14 : decode cX7_measures 14 = .ok (.iconst 4, 1) := by decide +kernel
theorem dX7_measures_15 : decode cX7_measures 15 = .ok (.if_icmp .ge 29, 3) := by decide +kernel
theorem dX7_measures_18 : decode cX7_measures 18 = .ok (.aload_n 0, 1) := by decide +kernel
theorem dX7_measures_19 : decode cX7_measures 19 = .ok (.iload_n 1, 1) := by decide +kernel
theorem dX7_measures_20 : decode cX7_measures 20 = .ok (.bipush 11, 2) := by decide +kernel
theorem dX7_measures_22 : decode cX7_measures 22 = .ok (.iload_n 2, 1) := by decide +kernel
theorem dX7_measures_23 : decode cX7_measures 23 = .ok (.iadd, 1) := by decide +kernel
theorem dX7_measures_24 : decode cX7_measures 24 = .ok (.aload_n 0, 1) := by decide +kernel
theorem dX7_measures_25 : decode cX7_measures 25 = .ok (.iload_n 1, 1) := by decide +kernel
theorem dX7_measures_26 : decode cX7_measures 26 = .ok (.bipush 11, 2) := by decide +kernel
theorem dX7_measures_28 : decode cX7_measures 28 = .ok (.iload_n 2, 1) := by decide +kernel
theorem dX7_measures_29 : decode cX7_measures 29 = .ok (.iadd, 1) := by decide +kernel
theorem dX7_measures_30 : decode cX7_measures 30 = .ok (.iconst 1, 1) := by decide +kernel
theorem dX7_measures_31 : decode cX7_measures 31 = .ok (.iadd, 1) := by decide +kernel
theorem dX7_measures_32 : decode cX7_measures 32 = .ok (.invokevirtual 45, 3) := by decide +kernel
theorem dX7_measures_35 : decode cX7_measures 35 = .ok (.invokevirtual 59, 3) := by decide +kernel
theorem dX7_measures_38 : decode cX7_measures 38 = .ok (.iinc 2 1, 3) := by decide +kernel
theorem dX7_measures_41 : decode cX7_measures 41 = .ok (.goto (-28), 3) := by decide +kernel
theorem dX7_measures_44 : decode cX7_measures 44 = .ok (.aload_n 0, 1) := by decide +kernel
theorem dX7_measures_45 : decode cX7_measures 45 = .ok (.iload_n 1, 1) := by decide +kernel
theorem dX7_measures_46 : decode cX7_measures 46 = .ok (.bipush 10, 2) := by decide +kernel
theorem dX7_measures_48 : decode cX7_measures 48 = .ok (.iconst 4, 1) := by decide +kernel
theorem dX7_measures_49 : decode cX7_measures 49 = .ok (.invokevirtual 59, 3) := by decide +kernel
theorem dX7_measures_52 : decode cX7_measures 52 = .ok (.aload_n 0, 1) := by decide +kernel
theorem dX7_measures_53 : decode cX7_measures 53 = .ok (.iload_n 1, 1) := by decide +kernel
theorem dX7_measures_54 : decode cX7_measures 54 = .ok (.bipush 11, 2) := by decide +kernel
theorem dX7_measures_56 : decode cX7_measures 56 = .ok (.aload_n 0, 1) := by decide +kernel
theorem dX7_measures_57 : decode cX7_measures 57 = .ok (.iload_n 1, 1) := by decide +kernel
theorem dX7_measures_58 : decode cX7_measures 58 = .ok (.bipush 10, 2) := by decide +kernel
theorem dX7_measures_60 : decode cX7_measures 60 = .ok (.invokevirtual 45, 3) := by decide +kernel
theorem dX7_measures_63 : decode cX7_measures 63 = .ok (.iadd, 1) := by decide +kernel
theorem dX7_measures_64 : decode cX7_measures 64 = .ok (.aload_n 0, 1) := by decide +kernel
theorem dX7_measures_65 : decode cX7_measures 65 = .ok (.iload_n 1, 1) := by decide +kernel
theorem dX7_measures_66 : decode cX7_measures 66 = .ok (.bipush 9, 2) := by decide +kernel
theorem dX7_measures_68 : decode cX7_measures 68 = .ok (.invokevirtual 45, 3) := by decide +kernel
theorem dX7_measures_71 : decode cX7_measures 71 = .ok (.iconst 1, 1) := by decide +kernel
theorem dX7_measures_72 : decode cX7_measures 72 = .ok (.if_icmp .ne 7, 3) := by decide +kernel
theorem dX7_measures_75 : decode cX7_measures 75 = .ok (.iconst 0, 1) := by decide +kernel
theorem dX7_measures_76 : decode cX7_measures 76 = .ok (.goto 9, 3) := by decide +kernel
theorem dX7_measures_79 : decode cX7_measures 79 = .ok (.aload_n 0, 1) := by decide +kernel
theorem dX7_measures_80 : decode cX7_measures 80 = .ok (.iload_n 1, 1) := by decide +kernel
theorem dX7_measures_81 : decode cX7_measures 81 = .ok (.iconst 0, 1) := by decide +kernel
theorem dX7_measures_82 : decode cX7_measures 82 = .ok (.invokevirtual 45, 3) := by decide +kernel
theorem dX7_measures_85 : decode cX7_measures 85 = .ok (.invokevirtual 59, 3) := by decide +kernel
theorem dX7_measures_88 : decode cX7_measures 88 = .ok (.aload_n 0, 1) := by decide +kernel
theorem dX7_measures_89 : decode cX7_measures 89 = .ok (.iload_n 1, 1) := by decide +kernel
theorem dX7_measures_90 : decode cX7_measures 90 = .ok (.bipush 10, 2) := by decide +kernel
theorem dX7_measures_92 : decode cX7_measures 92 = .ok (.aload_n 0, 1) := by decide +kernel
theorem dX7_measures_93 : decode cX7_measures 93 = .ok (.iload_n 1, 1) := by decide +kernel
theorem dX7_measures_94 : decode cX7_measures 94 = .ok (.bipush 10, 2) := by decide +kernel
theorem dX7_measures_96 : decode cX7_measures 96 = .ok (.invokevirtual 45, 3) := by decide +kernel
theorem dX7_measures_99 : decode cX7_measures 99 = .ok (.iconst 1, 1) := by decide +kernel
theorem dX7_measures_100 : decode cX7_measures 100 = .ok (.iadd, 1) := by decide +kernel
theorem dX7_measures_101 : decode cX7_measures 101 = .ok (.invokevirtual 59, 3) := by decide +kernel
theorem dX7_measures_104 : decode cX7_measures 104 = .ok (.return_, 1) := by decide +kernel
theorem dX7_measured_0 : decode cX7_measured 0 = .ok (.aload_n 0, 1) := by decide +kernel
theorem dX7_measured_1 : decode cX7_measured 1 = .ok (.iload_n 1, 1) := by decide +kernel
theorem dX7_measured_2 : decode cX7_measured 2 = .ok (.bipush 11, 2) := by decide +kernel
theorem dX7_measured_4 : decode cX7_measured 4 = .ok (.aload_n 0, 1) := by decide +kernel
theorem dX7_measured_5 : decode cX7_measured 5 = .ok (.iload_n 1, 1) := by decide +kernel
theorem dX7_measured_6 : decode cX7_measured 6 = .ok (.bipush 10, 2) := by decide +kernel
theorem dX7_measured_8 : decode cX7_measured 8 = .ok (.invokevirtual 45, 3) := by decide +kernel
theorem dX7_measured_11 : decode cX7_measured 11 = .ok (.iadd, 1) := by decide +kernel
theorem dX7_measured_12 : decode cX7_measured 12 = .ok (.iconst 1, 1) := by decide +kernel
theorem dX7_measured_13 : decode cX7_measured 13 = .ok (.isub, 1) := by decide +kernel
theorem dX7_measured_14 : decode cX7_measured 14 = .ok (.invokevirtual 45, 3) := by decide +kernel
theorem dX7_measured_17 : decode cX7_measured 17 = .ok (.ireturn, 1) := by decide +kernel
theorem dX7_acceleration_0 : decode cX7_acceleration 0 = .ok (.aload_n 0, 1) := by decide +kernel
theorem dX7_acceleration_1 : decode cX7_acceleration 1 = .ok (.iload_n 1, 1) := by decide +kernel
theorem dX7_acceleration_2 : decode cX7_acceleration 2 = .ok (.bipush 10, 2) := by decide +kernel
theorem dX7_acceleration_4 : decode cX7_acceleration 4 = .ok (.invokevirtual 45, 3) := by decide +kernel
theorem dX7_acceleration_7 : decode cX7_acceleration 7 = .ok (.istore_n 2, 1) := by decide +kernel
theorem dX7_acceleration_8 : decode cX7_acceleration 8 = .ok (.iload_n 2, 1) := by decide +kernel
theorem dX7_acceleration_9 : decode cX7_acceleration 9 = .ok (.iconst 2, 1) := by decide +kernel
theorem dX7_acceleration_10 : decode cX7_acceleration 10 = .ok (.if_icmp .ge 7, 3) := by decide +kernel
theorem dX7_acceleration_13 : decode cX7_acceleration 13 = .ok (.iconst 0, 1) := by decide +kernel
theorem dX7_acceleration_14 : decode cX7_acceleration 14 = .ok (.goto 24, 3) := by decide +kernel
theorem dX7_acceleration_17 : decode cX7_acceleration 17 = .ok (.aload_n 0, 1) := by decide +kernel
theorem dX7_acceleration_18 : decode cX7_acceleration 18 = .ok (.iload_n 1, 1) := by decide +kernel
theorem dX7_acceleration_19 : decode cX7_acceleration 19 = .ok (.invokevirtual 63, 3) := by decide +kernel
theorem dX7_acceleration_22 : decode cX7_acceleration 22 = .ok (.aload_n 0, 1) := by decide +kernel
theorem dX7_acceleration_23 : decode cX7_acceleration 23 = .ok (.iload_n 1, 1) := by decide +kernel
theorem dX7_acceleration_24 : decode cX7_acceleration 24 = .ok (.bipush 11, 2) := by decide +kernel
theorem dX7_acceleration_26 : decode cX7_acceleration 26 = .ok (.invokevirtual 45, 3) := by decide +kernel
theorem dX7_acceleration_29 : decode cX7_acceleration 29 = .ok (.isub, 1) := by decide +kernel
theorem dX7_acceleration_30 : decode cX7_acceleration 30 = .ok (.i2l, 1) := by decide +kernel
theorem dX7_acceleration_31 : decode cX7_acceleration 31 = .ok (.iload_n 2, 1) := by decide +kernel
theorem dX7_acceleration_32 : decode cX7_acceleration 32 = .ok (.iconst 1, 1) := by decide +kernel
theorem dX7_acceleration_33 : decode cX7_acceleration 33 = .ok (.isub, 1) := by decide +kernel
theorem dX7_acceleration_34 : decode cX7_acceleration 34 = .ok (.i2l, 1) := by decide +kernel
theorem dX7_acceleration_35 : decode cX7_acceleration 35 = .ok (.invokestatic 66, 3) := by decide +kernel
theorem dX7_acceleration_38 : decode cX7_acceleration 38 = .ok (.ireturn, 1) := by decide +kernel
theorem dX7_estimated_0 : decode cX7_estimated 0 = .ok (.aload_n 0, 1) := by decide +kernel
theorem dX7_estimated_1 : decode cX7_estimated 1 = .ok (.iload_n 1, 1) := by decide +kernel
theorem dX7_estimated_2 : decode cX7_estimated 2 = .ok (.bipush 10, 2) := by decide +kernel
theorem dX7_estimated_4 : decode cX7_estimated 4 = .ok (.invokevirtual 45, 3) := by decide +kernel
theorem dX7_estimated_7 : decode cX7_estimated 7 = .ok (.ifCond .eq 26, 3) := by decide +kernel
theorem dX7_estimated_10 : decode cX7_estimated 10 = .ok (.aload_n 0, 1) := by decide +kernel
theorem dX7_estimated_11 : decode cX7_estimated 11 = .ok (.getfield 7, 3) := by decide +kernel
theorem dX7_estimated_14 : decode cX7_estimated 14 = .ok (.iconst 4, 1) := by decide +kernel
theorem dX7_estimated_15 : decode cX7_estimated 15 = .ok (.iaload, 1) := by decide +kernel
theorem dX7_estimated_16 : decode cX7_estimated 16 = .ok (.ifCond .eq 17, 3) := by decide +kernel
theorem dX7_estimated_19 : decode cX7_estimated 19 = .ok (.aload_n 0, 1) := by decide +kernel
theorem dX7_estimated_20 : decode cX7_estimated 20 = .ok (.iload_n 1, 1) := by decide +kernel
theorem dX7_estimated_21 : decode cX7_estimated 21 = .ok (.invokevirtual 63, 3) := by decide +kernel
theorem dX7_estimated_24 : decode cX7_estimated 24 = .ok (.aload_n 0, 1) := by decide +kernel
theorem dX7_estimated_25 : decode cX7_estimated 25 = .ok (.getfield 7, 3) := by decide +kernel
theorem dX7_estimated_28 : decode cX7_estimated 28 = .ok (.iconst 4, 1) := by decide +kernel
theorem dX7_estimated_29 : decode cX7_estimated 29 = .ok (.iaload, 1) := by decide +kernel
theorem dX7_estimated_30 : decode cX7_estimated 30 = .ok (.if_icmp .lt 5, 3) := by decide +kernel
theorem dX7_estimated_33 : decode cX7_estimated 33 = .ok (.iconst 0, 1) := by decide +kernel
theorem dX7_estimated_34 : decode cX7_estimated 34 = .ok (.ireturn, 1) := by decide +kernel
theorem dX7_estimated_35 : decode cX7_estimated 35 = .ok (.ldc2_w 43, 3) := by decide +kernel
theorem dX7_estimated_38 : decode cX7_estimated 38 = .ok (.aload_n 0, 1) := by decide +kernel
theorem dX7_estimated_39 : decode cX7_estimated 39 = .ok (.getfield 7, 3) := by decide +kernel
theorem dX7_estimated_42 : decode cX7_estimated 42 = .ok (.iconst 4, 1) := by decide +kernel
theorem dX7_estimated_43 : decode cX7_estimated 43 = .ok (.iaload, 1) := by decide +kernel
theorem dX7_estimated_44 : decode cX7_estimated 44 = .ok (.aload_n 0, 1) := by decide +kernel
theorem dX7_estimated_45 : decode cX7_estimated 45 = .ok (.iload_n 1, 1) := by decide +kernel
theorem dX7_estimated_46 : decode cX7_estimated 46 = .ok (.invokevirtual 63, 3) := by decide +kernel
theorem dX7_estimated_49 : decode cX7_estimated 49 = .ok (.isub, 1) := by decide +kernel
theorem dX7_estimated_50 : decode cX7_estimated 50 = .ok (.i2l, 1) := by decide +kernel
theorem dX7_estimated_51 : decode cX7_estimated 51 = .ok (.lmul, 1) := by decide +kernel
theorem dX7_estimated_52 : decode cX7_estimated 52 = .ok (.aload_n 0, 1) := by decide +kernel
theorem dX7_estimated_53 : decode cX7_estimated 53 = .ok (.getfield 7, 3) := by decide +kernel
theorem dX7_estimated_56 : decode cX7_estimated 56 = .ok (.iconst 4, 1) := by decide +kernel
theorem dX7_estimated_57 : decode cX7_estimated 57 = .ok (.iaload, 1) := by decide +kernel
theorem dX7_estimated_58 : decode cX7_estimated 58 = .ok (.i2l, 1) := by decide +kernel
theorem dX7_estimated_59 : decode cX7_estimated 59 = .ok (.ldiv, 1) := by decide +kernel
theorem dX7_estimated_60 : decode cX7_estimated 60 = .ok (.l2i, 1) := by decide +kernel
theorem dX7_estimated_61 : decode cX7_estimated 61 = .ok (.ireturn, 1) := by decide +kernel
theorem dX7_refers_0 : decode cX7_refers 0 = .ok (.iconst 0, 1) := by decide +kernel
theorem dX7_refers_1 : decode cX7_refers 1 = .ok (.istore_n 1, 1) := by decide +kernel
theorem dX7_refers_2 : decode cX7_refers 2 = .ok (.iconst 0, 1) := by decide +kernel
theorem dX7_refers_3 : decode cX7_refers 3 = .ok (.istore_n 2, 1) := by decide +kernel
theorem dX7_refers_4 : decode cX7_refers 4 = .ok (.iload_n 2, 1) := by decide +kernel
theorem dX7_refers_5 : decode cX7_refers 5 = .ok (.iconst 4, 1) := by decide +kernel
theorem dX7_refers_6 : decode cX7_refers 6 = .ok (.if_icmp .ge 33, 3) := by decide +kernel
theorem dX7_refers_9 : decode cX7_refers 9 = .ok (.aload_n 0, 1) := by decide +kernel
theorem dX7_refers_10 : decode cX7_refers 10 = .ok (.iload_n 2, 1) := by decide +kernel
theorem dX7_refers_11 : decode cX7_refers 11 = .ok (.bipush 7, 2) := by decide +kernel
theorem dX7_refers_13 : decode cX7_refers 13 = .ok (.invokevirtual 45, 3) := by decide +kernel
theorem dX7_refers_16 : decode cX7_refers 16 = .ok (.ifCond .ne 15, 3) := by decide +kernel
theorem dX7_refers_19 : decode cX7_refers 19 = .ok (.iload_n 1, 1) := by decide +kernel
theorem dX7_refers_20 : decode cX7_refers 20 = .ok (.aload_n 0, 1) := by decide +kernel
theorem dX7_refers_21 : decode cX7_refers 21 = .ok (.iload_n 2, 1) := by decide +kernel
theorem dX7_refers_22 : decode cX7_refers 22 = .ok (.invokevirtual 63, 3) := by decide +kernel
theorem dX7_refers_25 : decode cX7_refers 25 = .ok (.invokestatic 70, 3) := by decide +kernel
theorem dX7_refers_28 : decode cX7_refers 28 = .ok (.goto 4, 3) := by decide +kernel
theorem dX7_refers_31 : decode cX7_refers 31 = .ok (.iload_n 1, 1) := by decide +kernel
theorem dX7_refers_32 : decode cX7_refers 32 = .ok (.istore_n 1, 1) := by decide +kernel
theorem dX7_refers_33 : decode cX7_refers 33 = .ok (.iinc 2 1, 3) := by decide +kernel
theorem dX7_refers_36 : decode cX7_refers 36 = .ok (.goto (-32), 3) := by decide +kernel
theorem dX7_refers_39 : decode cX7_refers 39 = .ok (.aload_n 0, 1) := by decide +kernel
theorem dX7_refers_40 : decode cX7_refers 40 = .ok (.getfield 7, 3) := by decide +kernel
theorem dX7_refers_43 : decode cX7_refers 43 = .ok (.iconst 4, 1) := by decide +kernel
theorem dX7_refers_44 : decode cX7_refers 44 = .ok (.iaload, 1) := by decide +kernel
theorem dX7_refers_45 : decode cX7_refers 45 = .ok (.istore_n 2, 1) := by decide +kernel
theorem dX7_refers_46 : decode cX7_refers 46 = .ok (.aload_n 0, 1) := by decide +kernel
theorem dX7_refers_47 : decode cX7_refers 47 = .ok (.getfield 7, 3) := by decide +kernel
theorem dX7_refers_50 : decode cX7_refers 50 = .ok (.iconst 4, 1) := by decide +kernel
theorem dX7_refers_51 : decode cX7_refers 51 = .ok (.iload_n 1, 1) := by decide +kernel
theorem dX7_refers_52 : decode cX7_refers 52 = .ok (.iload_n 2, 1) := by decide +kernel
theorem dX7_refers_53 : decode cX7_refers 53 = .ok (.if_icmp .lt 14, 3) := by decide +kernel
theorem dX7_refers_56 : decode cX7_refers 56 = .ok (.iload_n 1, 1) := by decide +kernel
theorem dX7_refers_57 : decode cX7_refers 57 = .ok (.iload_n 2, 1) := by decide +kernel
theorem dX7_refers_58 : decode cX7_refers 58 = .ok (.bipush 60, 2) := by decide +kernel
theorem dX7_refers_60 : decode cX7_refers 60 = .ok (.iadd, 1) := by decide +kernel
theorem dX7_refers_61 : decode cX7_refers 61 = .ok (.invokestatic 73, 3) := by decide +kernel
theorem dX7_refers_64 : decode cX7_refers 64 = .ok (.goto 11, 3) := by decide +kernel
theorem dX7_refers_67 : decode cX7_refers 67 = .ok (.iload_n 1, 1) := by decide +kernel
theorem dX7_refers_68 : decode cX7_refers 68 = .ok (.iload_n 2, 1) := by decide +kernel
theorem dX7_refers_69 : decode cX7_refers 69 = .ok (.bipush 120, 2) := by decide +kernel
theorem dX7_refers_71 : decode cX7_refers 71 = .ok (.isub, 1) := by decide +kernel
theorem dX7_refers_72 : decode cX7_refers 72 = .ok (.invokestatic 70, 3) := by decide +kernel
theorem dX7_refers_75 : decode cX7_refers 75 = .ok (.iastore, 1) := by decide +kernel
theorem dX7_refers_76 : decode cX7_refers 76 = .ok (.return_, 1) := by decide +kernel
theorem dX7_suspects_0 : decode cX7_suspects 0 = .ok (.aload_n 0, 1) := by decide +kernel
theorem dX7_suspects_1 : decode cX7_suspects 1 = .ok (.iload_n 1, 1) := by decide +kernel
theorem dX7_suspects_2 : decode cX7_suspects 2 = .ok (.bipush 7, 2) := by decide +kernel
theorem dX7_suspects_4 : decode cX7_suspects 4 = .ok (.invokevirtual 45, 3) := by decide +kernel
theorem dX7_suspects_7 : decode cX7_suspects 7 = .ok (.iconst 1, 1) := by decide +kernel
theorem dX7_suspects_8 : decode cX7_suspects 8 = .ok (.if_icmp .ne 4, 3) := by decide +kernel
theorem dX7_suspects_11 : decode cX7_suspects 11 = .ok (.return_, 1) := by decide +kernel
theorem dX7_suspects_12 : decode cX7_suspects 12 = .ok (.aload_n 0, 1) := by decide +kernel
theorem dX7_suspects_13 : decode cX7_suspects 13 = .ok (.iload_n 1, 1) := by decide +kernel
theorem dX7_suspects_14 : decode cX7_suspects 14 = .ok (.bipush 8, 2) := by decide +kernel
theorem dX7_suspects_16 : decode cX7_suspects 16 = .ok (.aload_n 0, 1) := by decide +kernel
theorem dX7_suspects_17 : decode cX7_suspects 17 = .ok (.iload_n 1, 1) := by decide +kernel
theorem dX7_suspects_18 : decode cX7_suspects 18 = .ok (.invokevirtual 63, 3) := by decide +kernel
theorem dX7_suspects_21 : decode cX7_suspects 21 = .ok (.ifCond .ne 27, 3) := by decide +kernel
theorem dX7_suspects_24 : decode cX7_suspects 24 = .ok (.aload_n 0, 1) := by decide +kernel
theorem dX7_suspects_25 : decode cX7_suspects 25 = .ok (.getfield 7, 3) := by decide +kernel
theorem dX7_suspects_28 : decode cX7_suspects 28 = .ok (.iconst 4, 1) := by decide +kernel
theorem dX7_suspects_29 : decode cX7_suspects 29 = .ok (.iaload, 1) := by decide +kernel
theorem dX7_suspects_30 : decode cX7_suspects 30 = .ok (.sipush 3000, 3) := by decide +kernel
theorem dX7_suspects_33 : decode cX7_suspects 33 = .ok (.if_icmp .lt 15, 3) := by decide +kernel
theorem dX7_suspects_36 : decode cX7_suspects 36 = .ok (.aload_n 0, 1) := by decide +kernel
theorem dX7_suspects_37 : decode cX7_suspects 37 = .ok (.iload_n 1, 1) := by decide +kernel
theorem dX7_suspects_38 : decode cX7_suspects 38 = .ok (.bipush 8, 2) := by decide +kernel
theorem dX7_suspects_40 : decode cX7_suspects 40 = .ok (.invokevirtual 45, 3) := by decide +kernel
theorem dX7_suspects_43 : decode cX7_suspects 43 = .ok (.iconst 1, 1) := by decide +kernel
theorem dX7_suspects_44 : decode cX7_suspects 44 = .ok (.iadd, 1) := by decide +kernel
theorem dX7_suspects_45 : decode cX7_suspects 45 = .ok (.goto 4, 3) := by decide +kernel
theorem dX7_suspects_48 : decode cX7_suspects 48 = .ok (.iconst 0, 1) := by decide +kernel
theorem dX7_suspects_49 : decode cX7_suspects 49 = .ok (.invokevirtual 59, 3) := by decide +kernel
theorem dX7_suspects_52 : decode cX7_suspects 52 = .ok (.aload_n 0, 1) := by decide +kernel
theorem dX7_suspects_53 : decode cX7_suspects 53 = .ok (.iload_n 1, 1) := by decide +kernel
theorem dX7_suspects_54 : decode cX7_suspects 54 = .ok (.bipush 8, 2) := by decide +kernel
theorem dX7_suspects_56 : decode cX7_suspects 56 = .ok (.invokevirtual 45, 3) := by decide +kernel
theorem dX7_suspects_59 : decode cX7_suspects 59 = .ok (.bipush 25, 2) := by decide +kernel
theorem dX7_suspects_61 : decode cX7_suspects 61 = .ok (.if_icmp .ne 17, 3) := by decide +kernel
theorem dX7_suspects_64 : decode cX7_suspects 64 = .ok (.aload_n 0, 1) := by decide +kernel
theorem dX7_suspects_65 : decode cX7_suspects 65 = .ok (.iload_n 1, 1) := by decide +kernel
theorem dX7_suspects_66 : decode cX7_suspects 66 = .ok (.bipush 7, 2) := by decide +kernel
theorem dX7_suspects_68 : decode cX7_suspects 68 = .ok (.iconst 1, 1) := by decide +kernel
theorem dX7_suspects_69 : decode cX7_suspects 69 = .ok (.invokevirtual 59, 3) := by decide +kernel
theorem dX7_suspects_72 : decode cX7_suspects 72 = .ok (.aload_n 0, 1) := by decide +kernel
theorem dX7_suspects_73 : decode cX7_suspects 73 = .ok (.iconst 1, 1) := by decide +kernel
theorem dX7_suspects_74 : decode cX7_suspects 74 = .ok (.iload_n 1, 1) := by decide +kernel
theorem dX7_suspects_75 : decode cX7_suspects 75 = .ok (.invokevirtual 76, 3) := by decide +kernel
theorem dX7_suspects_78 : decode cX7_suspects 78 = .ok (.return_, 1) := by decide +kernel
theorem dX7_outs_0 : decode cX7_outs 0 = .ok (.aload_n 0, 1) := by decide +kernel
theorem dX7_outs_1 : decode cX7_outs 1 = .ok (.iconst 0, 1) := by decide +kernel
theorem dX7_outs_2 : decode cX7_outs 2 = .ok (.bipush 7, 2) := by decide +kernel
theorem dX7_outs_4 : decode cX7_outs 4 = .ok (.invokevirtual 45, 3) := by decide +kernel
theorem dX7_outs_7 : decode cX7_outs 7 = .ok (.aload_n 0, 1) := by decide +kernel
theorem dX7_outs_8 : decode cX7_outs 8 = .ok (.iconst 1, 1) := by decide +kernel
theorem dX7_outs_9 : decode cX7_outs 9 = .ok (.bipush 7, 2) := by decide +kernel
theorem dX7_outs_11 : decode cX7_outs 11 = .ok (.invokevirtual 45, 3) := by decide +kernel
theorem dX7_outs_14 : decode cX7_outs 14 = .ok (.iadd, 1) := by decide +kernel
theorem dX7_outs_15 : decode cX7_outs 15 = .ok (.aload_n 0, 1) := by decide +kernel
theorem dX7_outs_16 : decode cX7_outs 16 = .ok (.iconst 2, 1) := by decide +kernel
theorem dX7_outs_17 : decode cX7_outs 17 = .ok (.bipush 7, 2) := by decide +kernel
theorem dX7_outs_19 : decode cX7_outs 19 = .ok (.invokevirtual 45, 3) := by decide +kernel
theorem dX7_outs_22 : decode cX7_outs 22 = .ok (.iadd, 1) := by decide +kernel
theorem dX7_outs_23 : decode cX7_outs 23 = .ok (.aload_n 0, 1) := by decide +kernel
theorem dX7_outs_24 : decode cX7_outs 24 = .ok (.iconst 3, 1) := by decide +kernel
theorem dX7_outs_25 : decode cX7_outs 25 = .ok (.bipush 7, 2) := by decide +kernel
theorem dX7_outs_27 : decode cX7_outs 27 = .ok (.invokevirtual 45, 3) := by decide +kernel
theorem dX7_outs_30 : decode cX7_outs 30 = .ok (.iadd, 1) := by decide +kernel
theorem dX7_outs_31 : decode cX7_outs 31 = .ok (.ireturn, 1) := by decide +kernel
theorem dX7_isActive_0 : decode cX7_isActive 0 = .ok (.aload_n 0, 1) := by decide +kernel
theorem dX7_isActive_1 : decode cX7_isActive 1 = .ok (.getfield 7, 3) := by decide +kernel
theorem dX7_isActive_4 : decode cX7_isActive 4 = .ok (.bipush 8, 2) := by decide +kernel
theorem dX7_isActive_6 : decode cX7_isActive 6 = .ok (.iaload, 1) := by decide +kernel
theorem dX7_isActive_7 : decode cX7_isActive 7 = .ok (.iconst 1, 1) := by decide +kernel
theorem dX7_isActive_8 : decode cX7_isActive 8 = .ok (.if_icmp .ne 36, 3) := by decide +kernel
theorem dX7_isActive_11 : decode cX7_isActive 11 = .ok (.aload_n 0, 1) := by decide +kernel
theorem dX7_isActive_12 : decode cX7_isActive 12 = .ok (.getfield 7, 3) := by decide +kernel
theorem dX7_isActive_15 : decode cX7_isActive 15 = .ok (.iconst 3, 1) := by decide +kernel
theorem dX7_isActive_16 : decode cX7_isActive 16 = .ok (.iaload, 1) := by decide +kernel
theorem dX7_isActive_17 : decode cX7_isActive 17 = .ok (.ifCond .le 27, 3) := by decide +kernel
theorem dX7_isActive_20 : decode cX7_isActive 20 = .ok (.aload_n 0, 1) := by decide +kernel
theorem dX7_isActive_21 : decode cX7_isActive 21 = .ok (.getfield 7, 3) := by decide +kernel
theorem dX7_isActive_24 : decode cX7_isActive 24 = .ok (.iconst 4, 1) := by decide +kernel
theorem dX7_isActive_25 : decode cX7_isActive 25 = .ok (.iaload, 1) := by decide +kernel
theorem dX7_isActive_26 : decode cX7_isActive 26 = .ok (.sipush 1400, 3) := by decide +kernel
theorem dX7_isActive_29 : decode cX7_isActive 29 = .ok (.if_icmp .lt 15, 3) := by decide +kernel
theorem dX7_isActive_32 : decode cX7_isActive 32 = .ok (.aload_n 0, 1) := by decide +kernel
theorem dX7_isActive_33 : decode cX7_isActive 33 = .ok (.invokevirtual 80, 3) := by decide +kernel
theorem dX7_isActive_36 : decode cX7_isActive 36 = .ok (.iconst 2, 1) := by decide +kernel
theorem dX7_isActive_37 : decode cX7_isActive 37 = .ok (.if_icmp .ge 7, 3) := by decide +kernel
theorem dX7_isActive_40 : decode cX7_isActive 40 = .ok (.iconst 1, 1) := by decide +kernel
theorem dX7_isActive_41 : decode cX7_isActive 41 = .ok (.goto 4, 3) := by decide +kernel
theorem dX7_isActive_44 : decode cX7_isActive 44 = .ok (.iconst 0, 1) := by decide +kernel
theorem dX7_isActive_45 : decode cX7_isActive 45 = .ok (.ireturn, 1) := by decide +kernel
theorem dX7_isAxleOut_0 : decode cX7_isAxleOut 0 = .ok (.iload_n 1, 1) := by decide +kernel
theorem dX7_isAxleOut_1 : decode cX7_isAxleOut 1 = .ok (.iconst 2, 1) := by decide +kernel
theorem dX7_isAxleOut_2 : decode cX7_isAxleOut 2 = .ok (.idiv, 1) := by decide +kernel
theorem dX7_isAxleOut_3 : decode cX7_isAxleOut 3 = .ok (.iconst 2, 1) := by decide +kernel
theorem dX7_isAxleOut_4 : decode cX7_isAxleOut 4 = .ok (.imul, 1) := by decide +kernel
theorem dX7_isAxleOut_5 : decode cX7_isAxleOut 5 = .ok (.istore_n 2, 1) := by decide +kernel
theorem dX7_isAxleOut_6 : decode cX7_isAxleOut 6 = .ok (.aload_n 0, 1) := by decide +kernel
theorem dX7_isAxleOut_7 : decode cX7_isAxleOut 7 = .ok (.iload_n 2, 1) := by decide +kernel
theorem dX7_isAxleOut_8 : decode cX7_isAxleOut 8 = .ok (.bipush 7, 2) := by decide +kernel
theorem dX7_isAxleOut_10 : decode cX7_isAxleOut 10 = .ok (.invokevirtual 45, 3) := by decide +kernel
theorem dX7_isAxleOut_13 : decode cX7_isAxleOut 13 = .ok (.aload_n 0, 1) := by decide +kernel
theorem dX7_isAxleOut_14 : decode cX7_isAxleOut 14 = .ok (.iload_n 2, 1) := by decide +kernel
theorem dX7_isAxleOut_15 : decode cX7_isAxleOut 15 = .ok (.iconst 1, 1) := by decide +kernel
theorem dX7_isAxleOut_16 : decode cX7_isAxleOut 16 = .ok (.iadd, 1) := by decide +kernel
theorem dX7_isAxleOut_17 : decode cX7_isAxleOut 17 = .ok (.bipush 7, 2) := by decide +kernel
theorem dX7_isAxleOut_19 : decode cX7_isAxleOut 19 = .ok (.invokevirtual 45, 3) := by decide +kernel
theorem dX7_isAxleOut_22 : decode cX7_isAxleOut 22 = .ok (.iadd, 1) := by decide +kernel
theorem dX7_isAxleOut_23 : decode cX7_isAxleOut 23 = .ok (.ifCond .le 7, 3) := by decide +kernel
theorem dX7_isAxleOut_26 : decode cX7_isAxleOut 26 = .ok (.iconst 1, 1) := by decide +kernel
theorem dX7_isAxleOut_27 : decode cX7_isAxleOut 27 = .ok (.goto 4, 3) := by decide +kernel
theorem dX7_isAxleOut_30 : decode cX7_isAxleOut 30 = .ok (.iconst 0, 1) := by decide +kernel
theorem dX7_isAxleOut_31 : decode cX7_isAxleOut 31 = .ok (.ireturn, 1) := by decide +kernel
theorem dX7_isControlled_0 : decode cX7_isControlled 0 = .ok (.aload_n 0, 1) := by decide +kernel
theorem dX7_isControlled_1 : decode cX7_isControlled 1 = .ok (.invokevirtual 83, 3) := by decide +kernel
theorem dX7_isControlled_4 : decode cX7_isControlled 4 = .ok (.ifCond .eq 15, 3) := by decide +kernel
theorem dX7_isControlled_7 : decode cX7_isControlled 7 = .ok (.aload_n 0, 1) := by decide +kernel
theorem dX7_isControlled_8 : decode cX7_isControlled 8 = .ok (.iload_n 1, 1) := by decide +kernel
theorem dX7_isControlled_9 : decode cX7_isControlled 9 = .ok (.invokevirtual 87, 3) := by decide +kernel
theorem dX7_isControlled_12 : decode cX7_isControlled 12 = .ok (.ifCond .ne 7, 3) := by decide +kernel
theorem dX7_isControlled_15 : decode cX7_isControlled 15 = .ok (.iconst 1, 1) := by decide +kernel
theorem dX7_isControlled_16 : decode cX7_isControlled 16 = .ok (.goto 4, 3) := by decide +kernel
theorem dX7_isControlled_19 : decode cX7_isControlled 19 = .ok (.iconst 0, 1) := by decide +kernel
theorem dX7_isControlled_20 : decode cX7_isControlled 20 = .ok (.ireturn, 1) := by decide +kernel
theorem dX7_nextOf_0 : decode cX7_nextOf 0 = .ok (.aload_n 0, 1) := by decide +kernel
theorem dX7_nextOf_1 : decode cX7_nextOf 1 = .ok (.iload_n 1, 1) := by decide +kernel
theorem dX7_nextOf_2 : decode cX7_nextOf 2 = .ok (.invokevirtual 90, 3) := by decide +kernel
theorem dX7_nextOf_5 : decode cX7_nextOf 5 = .ok (.ifCond .ne 5, 3) := by decide +kernel
theorem dX7_nextOf_8 : decode cX7_nextOf 8 = .ok (.iconst 0, 1) := by decide +kernel
theorem dX7_nextOf_9 : decode cX7_nextOf 9 = .ok (.ireturn, 1) := by decide +kernel
theorem dX7_nextOf_10 : decode cX7_nextOf 10 = .ok (.aload_n 0, 1) := by decide +kernel
theorem dX7_nextOf_11 : decode cX7_nextOf 11 = .ok (.iload_n 1, 1) := by decide +kernel
theorem dX7_nextOf_12 : decode cX7_nextOf 12 = .ok (.invokevirtual 93, 3) := by decide +kernel
theorem dX7_nextOf_15 : decode cX7_nextOf 15 = .ok (.istore_n 2, 1) := by decide +kernel
theorem dX7_nextOf_16 : decode cX7_nextOf 16 = .ok (.aload_n 0, 1) := by decide +kernel
theorem dX7_nextOf_17 : decode cX7_nextOf 17 = .ok (.iload_n 1, 1) := by decide +kernel
theorem dX7_nextOf_18 : decode cX7_nextOf 18 = .ok (.invokevirtual 96, 3) := by decide +kernel
theorem dX7_nextOf_21 : decode cX7_nextOf 21 = .ok (.istore_n 3, 1) := by decide +kernel
theorem dX7_nextOf_22 : decode cX7_nextOf 22 = .ok (.iload_n 2, 1) := by decide +kernel
theorem dX7_nextOf_23 : decode cX7_nextOf 23 = .ok (.sipush 200, 3) := by decide +kernel
theorem dX7_nextOf_26 : decode cX7_nextOf 26 = .ok (.if_icmp .le 13, 3) := by decide +kernel
theorem dX7_nextOf_29 : decode cX7_nextOf 29 = .ok (.iload_n 3, 1) := by decide +kernel
theorem dX7_nextOf_30 : decode cX7_nextOf 30 = .ok (.bipush (-30), 2) := by decide +kernel
theorem dX7_nextOf_32 : decode cX7_nextOf 32 = .ok (.if_icmp .ge 7, 3) := by decide +kernel
theorem dX7_nextOf_35 : decode cX7_nextOf 35 = .ok (.iconst 1, 1) := by decide +kernel
theorem dX7_nextOf_36 : decode cX7_nextOf 36 = .ok (.goto 4, 3) := by decide +kernel
theorem dX7_nextOf_39 : decode cX7_nextOf 39 = .ok (.iconst 0, 1) := by decide +kernel
theorem dX7_nextOf_40 : decode cX7_nextOf 40 = .ok (.istore 4, 2) := by decide +kernel
theorem dX7_nextOf_42 : decode cX7_nextOf 42 = .ok (.aload_n 0, 1) := by decide +kernel
theorem dX7_nextOf_43 : decode cX7_nextOf 43 = .ok (.iload_n 1, 1) := by decide +kernel
theorem dX7_nextOf_44 : decode cX7_nextOf 44 = .ok (.iconst 2, 1) := by decide +kernel
theorem dX7_nextOf_45 : decode cX7_nextOf 45 = .ok (.invokevirtual 45, 3) := by decide +kernel
theorem dX7_nextOf_48 : decode cX7_nextOf 48 = .ok (.tableswitch 136 0 3 #[32, 59, 84, 102], 32) := by decide +kernel
theorem dX7_nextOf_80 : decode cX7_nextOf 80 = .ok (.iload 4, 2) := by decide +kernel
theorem dX7_nextOf_82 : decode cX7_nextOf 82 = .ok (.ifCond .eq 7, 3) := by decide +kernel
theorem dX7_nextOf_85 : decode cX7_nextOf 85 = .ok (.iconst 2, 1) := by decide +kernel
theorem dX7_nextOf_86 : decode cX7_nextOf 86 = .ok (.goto 20, 3) := by decide +kernel
theorem dX7_nextOf_89 : decode cX7_nextOf 89 = .ok (.iload_n 2, 1) := by decide +kernel
theorem dX7_nextOf_90 : decode cX7_nextOf 90 = .ok (.bipush 100, 2) := by decide +kernel
theorem dX7_nextOf_92 : decode cX7_nextOf 92 = .ok (.if_icmp .le 13, 3) := by decide +kernel
theorem dX7_nextOf_95 : decode cX7_nextOf 95 = .ok (.iload_n 3, 1) := by decide +kernel
theorem dX7_nextOf_96 : decode cX7_nextOf 96 = .ok (.bipush (-60), 2) := by decide +kernel
theorem dX7_nextOf_98 : decode cX7_nextOf 98 = .ok (.if_icmp .ge 7, 3) := by decide +kernel
theorem dX7_nextOf_101 : decode cX7_nextOf 101 = .ok (.iconst 1, 1) := by decide +kernel
theorem dX7_nextOf_102 : decode cX7_nextOf 102 = .ok (.goto 4, 3) := by decide +kernel
theorem dX7_nextOf_105 : decode cX7_nextOf 105 = .ok (.iconst 0, 1) := by decide +kernel
theorem dX7_nextOf_106 : decode cX7_nextOf 106 = .ok (.ireturn, 1) := by decide +kernel
theorem dX7_nextOf_107 : decode cX7_nextOf 107 = .ok (.iload 4, 2) := by decide +kernel
theorem dX7_nextOf_109 : decode cX7_nextOf 109 = .ok (.ifCond .eq 7, 3) := by decide +kernel
theorem dX7_nextOf_112 : decode cX7_nextOf 112 = .ok (.iconst 2, 1) := by decide +kernel
theorem dX7_nextOf_113 : decode cX7_nextOf 113 = .ok (.goto 18, 3) := by decide +kernel
theorem dX7_nextOf_116 : decode cX7_nextOf 116 = .ok (.iload_n 3, 1) := by decide +kernel
theorem dX7_nextOf_117 : decode cX7_nextOf 117 = .ok (.ifCond .ge 9, 3) := by decide +kernel
theorem dX7_nextOf_120 : decode cX7_nextOf 120 = .ok (.iload_n 2, 1) := by decide +kernel
theorem dX7_nextOf_121 : decode cX7_nextOf 121 = .ok (.bipush 60, 2) := by decide +kernel
theorem dX7_nextOf_123 : decode cX7_nextOf 123 = .ok (.if_icmp .gt 7, 3) := by decide +kernel
theorem dX7_nextOf_126 : decode cX7_nextOf 126 = .ok (.iconst 4, 1) := by decide +kernel
theorem dX7_nextOf_127 : decode cX7_nextOf 127 = .ok (.goto 4, 3) := by decide +kernel
theorem dX7_nextOf_130 : decode cX7_nextOf 130 = .ok (.iconst 1, 1) := by decide +kernel
theorem dX7_nextOf_131 : decode cX7_nextOf 131 = .ok (.ireturn, 1) := by decide +kernel
theorem dX7_nextOf_132 : decode cX7_nextOf 132 = .ok (.iload_n 3, 1) := by decide +kernel
theorem dX7_nextOf_133 : decode cX7_nextOf 133 = .ok (.bipush 10, 2) := by decide +kernel
theorem dX7_nextOf_135 : decode cX7_nextOf 135 = .ok (.if_icmp .gt 9, 3) := by decide +kernel
theorem dX7_nextOf_138 : decode cX7_nextOf 138 = .ok (.iload_n 2, 1) := by decide +kernel
theorem dX7_nextOf_139 : decode cX7_nextOf 139 = .ok (.bipush 60, 2) := by decide +kernel
theorem dX7_nextOf_141 : decode cX7_nextOf 141 = .ok (.if_icmp .gt 7, 3) := by decide +kernel
theorem dX7_nextOf_144 : decode cX7_nextOf 144 = .ok (.iconst 3, 1) := by decide +kernel
theorem dX7_nextOf_145 : decode cX7_nextOf 145 = .ok (.goto 4, 3) := by decide +kernel
theorem dX7_nextOf_148 : decode cX7_nextOf 148 = .ok (.iconst 2, 1) := by decide +kernel
theorem dX7_nextOf_149 : decode cX7_nextOf 149 = .ok (.ireturn, 1) := by decide +kernel
theorem dX7_nextOf_150 : decode cX7_nextOf 150 = .ok (.iload_n 2, 1) := by decide +kernel
theorem dX7_nextOf_151 : decode cX7_nextOf 151 = .ok (.bipush 60, 2) := by decide +kernel
theorem dX7_nextOf_153 : decode cX7_nextOf 153 = .ok (.if_icmp .le 16, 3) := by decide +kernel
theorem dX7_nextOf_156 : decode cX7_nextOf 156 = .ok (.iload_n 3, 1) := by decide +kernel
theorem dX7_nextOf_157 : decode cX7_nextOf 157 = .ok (.bipush 10, 2) := by decide +kernel
theorem dX7_nextOf_159 : decode cX7_nextOf 159 = .ok (.if_icmp .gt 14, 3) := by decide +kernel
theorem dX7_nextOf_162 : decode cX7_nextOf 162 = .ok (.iload_n 2, 1) := by decide +kernel
theorem dX7_nextOf_163 : decode cX7_nextOf 163 = .ok (.sipush 150, 3) := by decide +kernel
theorem dX7_nextOf_166 : decode cX7_nextOf 166 = .ok (.if_icmp .gt 7, 3) := by decide +kernel
theorem dX7_nextOf_169 : decode cX7_nextOf 169 = .ok (.iconst 4, 1) := by decide +kernel
theorem dX7_nextOf_170 : decode cX7_nextOf 170 = .ok (.goto 13, 3) := by decide +kernel
theorem dX7_nextOf_173 : decode cX7_nextOf 173 = .ok (.iload 4, 2) := by decide +kernel
theorem dX7_nextOf_175 : decode cX7_nextOf 175 = .ok (.ifCond .eq 7, 3) := by decide +kernel
theorem dX7_nextOf_178 : decode cX7_nextOf 178 = .ok (.iconst 2, 1) := by decide +kernel
theorem dX7_nextOf_179 : decode cX7_nextOf 179 = .ok (.goto 4, 3) := by decide +kernel
theorem dX7_nextOf_182 : decode cX7_nextOf 182 = .ok (.iconst 3, 1) := by decide +kernel
theorem dX7_nextOf_183 : decode cX7_nextOf 183 = .ok (.ireturn, 1) := by decide +kernel
theorem dX7_nextOf_184 : decode cX7_nextOf 184 = .ok (.iload 4, 2) := by decide +kernel
theorem dX7_nextOf_186 : decode cX7_nextOf 186 = .ok (.ifCond .eq 7, 3) := by decide +kernel
theorem dX7_nextOf_189 : decode cX7_nextOf 189 = .ok (.iconst 2, 1) := by decide +kernel
theorem dX7_nextOf_190 : decode cX7_nextOf 190 = .ok (.goto 23, 3) := by decide +kernel
theorem dX7_nextOf_193 : decode cX7_nextOf 193 = .ok (.aload_n 0, 1) := by decide +kernel
theorem dX7_nextOf_194 : decode cX7_nextOf 194 = .ok (.iload_n 1, 1) := by decide +kernel
theorem dX7_nextOf_195 : decode cX7_nextOf 195 = .ok (.iconst 1, 1) := by decide +kernel
theorem dX7_nextOf_196 : decode cX7_nextOf 196 = .ok (.invokevirtual 45, 3) := by decide +kernel
theorem dX7_nextOf_199 : decode cX7_nextOf 199 = .ok (.aload_n 0, 1) := by decide +kernel
theorem dX7_nextOf_200 : decode cX7_nextOf 200 = .ok (.getfield 7, 3) := by decide +kernel
theorem dX7_nextOf_203 : decode cX7_nextOf 203 = .ok (.iconst 3, 1) := by decide +kernel
theorem dX7_nextOf_204 : decode cX7_nextOf 204 = .ok (.iaload, 1) := by decide +kernel
theorem dX7_nextOf_205 : decode cX7_nextOf 205 = .ok (.if_icmp .lt 7, 3) := by decide +kernel
theorem dX7_nextOf_208 : decode cX7_nextOf 208 = .ok (.iconst 0, 1) := by decide +kernel
theorem dX7_nextOf_209 : decode cX7_nextOf 209 = .ok (.goto 4, 3) := by decide +kernel
theorem dX7_nextOf_212 : decode cX7_nextOf 212 = .ok (.iconst 4, 1) := by decide +kernel
theorem dX7_nextOf_213 : decode cX7_nextOf 213 = .ok (.ireturn, 1) := by decide +kernel
theorem dX7_rank_0 : decode cX7_rank 0 = .ok (.iload_n 0, 1) := by decide +kernel
theorem dX7_rank_1 : decode cX7_rank 1 = .ok (.iconst 2, 1) := by decide +kernel
theorem dX7_rank_2 : decode cX7_rank 2 = .ok (.if_icmp .ne 7, 3) := by decide +kernel
theorem dX7_rank_5 : decode cX7_rank 5 = .ok (.iconst 0, 1) := by decide +kernel
theorem dX7_rank_6 : decode cX7_rank 6 = .ok (.goto 31, 3) := by decide +kernel
theorem dX7_rank_9 : decode cX7_rank 9 = .ok (.iload_n 0, 1) := by decide +kernel
theorem dX7_rank_10 : decode cX7_rank 10 = .ok (.iconst 1, 1) := by decide +kernel
theorem dX7_rank_11 : decode cX7_rank 11 = .ok (.if_icmp .ne 7, 3) := by decide +kernel
theorem dX7_rank_14 : decode cX7_rank 14 = .ok (.iconst 1, 1) := by decide +kernel
theorem dX7_rank_15 : decode cX7_rank 15 = .ok (.goto 22, 3) := by decide +kernel
theorem dX7_rank_18 : decode cX7_rank 18 = .ok (.iload_n 0, 1) := by decide +kernel
theorem dX7_rank_19 : decode cX7_rank 19 = .ok (.iconst 3, 1) := by decide +kernel
theorem dX7_rank_20 : decode cX7_rank 20 = .ok (.if_icmp .ne 7, 3) := by decide +kernel
theorem dX7_rank_23 : decode cX7_rank 23 = .ok (.iconst 2, 1) := by decide +kernel
theorem dX7_rank_24 : decode cX7_rank 24 = .ok (.goto 13, 3) := by decide +kernel
theorem dX7_rank_27 : decode cX7_rank 27 = .ok (.iload_n 0, 1) := by decide +kernel
theorem dX7_rank_28 : decode cX7_rank 28 = .ok (.iconst 4, 1) := by decide +kernel
theorem dX7_rank_29 : decode cX7_rank 29 = .ok (.if_icmp .ne 7, 3) := by decide +kernel
theorem dX7_rank_32 : decode cX7_rank 32 = .ok (.iconst 3, 1) := by decide +kernel
theorem dX7_rank_33 : decode cX7_rank 33 = .ok (.goto 4, 3) := by decide +kernel
theorem dX7_rank_36 : decode cX7_rank 36 = .ok (.iconst 4, 1) := by decide +kernel
theorem dX7_rank_37 : decode cX7_rank 37 = .ok (.ireturn, 1) := by decide +kernel
theorem dX7_becomes_0 : decode cX7_becomes 0 = .ok (.iload_n 2, 1) := by decide +kernel
theorem dX7_becomes_1 : decode cX7_becomes 1 = .ok (.aload_n 0, 1) := by decide +kernel
theorem dX7_becomes_2 : decode cX7_becomes 2 = .ok (.iload_n 1, 1) := by decide +kernel
theorem dX7_becomes_3 : decode cX7_becomes 3 = .ok (.iconst 2, 1) := by decide +kernel
theorem dX7_becomes_4 : decode cX7_becomes 4 = .ok (.invokevirtual 45, 3) := by decide +kernel
theorem dX7_becomes_7 : decode cX7_becomes 7 = .ok (.if_icmp .ne 18, 3) := by decide +kernel
theorem dX7_becomes_10 : decode cX7_becomes 10 = .ok (.aload_n 0, 1) := by decide +kernel
theorem dX7_becomes_11 : decode cX7_becomes 11 = .ok (.iload_n 1, 1) := by decide +kernel
theorem dX7_becomes_12 : decode cX7_becomes 12 = .ok (.iconst 3, 1) := by decide +kernel
theorem dX7_becomes_13 : decode cX7_becomes 13 = .ok (.aload_n 0, 1) := by decide +kernel
theorem dX7_becomes_14 : decode cX7_becomes 14 = .ok (.iload_n 1, 1) := by decide +kernel
theorem dX7_becomes_15 : decode cX7_becomes 15 = .ok (.iconst 3, 1) := by decide +kernel
theorem dX7_becomes_16 : decode cX7_becomes 16 = .ok (.invokevirtual 45, 3) := by decide +kernel
theorem dX7_becomes_19 : decode cX7_becomes 19 = .ok (.iconst 1, 1) := by decide +kernel
theorem dX7_becomes_20 : decode cX7_becomes 20 = .ok (.iadd, 1) := by decide +kernel
theorem dX7_becomes_21 : decode cX7_becomes 21 = .ok (.invokevirtual 59, 3) := by decide +kernel
theorem dX7_becomes_24 : decode cX7_becomes 24 = .ok (.return_, 1) := by decide +kernel
theorem dX7_becomes_25 : decode cX7_becomes 25 = .ok (.aload_n 0, 1) := by decide +kernel
theorem dX7_becomes_26 : decode cX7_becomes 26 = .ok (.iload_n 1, 1) := by decide +kernel
theorem dX7_becomes_27 : decode cX7_becomes 27 = .ok (.iconst 2, 1) := by decide +kernel
theorem dX7_becomes_28 : decode cX7_becomes 28 = .ok (.iload_n 2, 1) := by decide +kernel
theorem dX7_becomes_29 : decode cX7_becomes 29 = .ok (.invokevirtual 59, 3) := by decide +kernel
theorem dX7_becomes_32 : decode cX7_becomes 32 = .ok (.aload_n 0, 1) := by decide +kernel
theorem dX7_becomes_33 : decode cX7_becomes 33 = .ok (.iload_n 1, 1) := by decide +kernel
theorem dX7_becomes_34 : decode cX7_becomes 34 = .ok (.iconst 3, 1) := by decide +kernel
theorem dX7_becomes_35 : decode cX7_becomes 35 = .ok (.iconst 0, 1) := by decide +kernel
theorem dX7_becomes_36 : decode cX7_becomes 36 = .ok (.invokevirtual 59, 3) := by decide +kernel
theorem dX7_becomes_39 : decode cX7_becomes 39 = .ok (.aload_n 0, 1) := by decide +kernel
theorem dX7_becomes_40 : decode cX7_becomes 40 = .ok (.iload_n 1, 1) := by decide +kernel
theorem dX7_becomes_41 : decode cX7_becomes 41 = .ok (.iconst 5, 1) := by decide +kernel
theorem dX7_becomes_42 : decode cX7_becomes 42 = .ok (.aload_n 0, 1) := by decide +kernel
theorem dX7_becomes_43 : decode cX7_becomes 43 = .ok (.iload_n 1, 1) := by decide +kernel
theorem dX7_becomes_44 : decode cX7_becomes 44 = .ok (.iconst 5, 1) := by decide +kernel
theorem dX7_becomes_45 : decode cX7_becomes 45 = .ok (.invokevirtual 45, 3) := by decide +kernel
theorem dX7_becomes_48 : decode cX7_becomes 48 = .ok (.iconst 1, 1) := by decide +kernel
theorem dX7_becomes_49 : decode cX7_becomes 49 = .ok (.iadd, 1) := by decide +kernel
theorem dX7_becomes_50 : decode cX7_becomes 50 = .ok (.invokevirtual 59, 3) := by decide +kernel
theorem dX7_becomes_53 : decode cX7_becomes 53 = .ok (.aload_n 0, 1) := by decide +kernel
theorem dX7_becomes_54 : decode cX7_becomes 54 = .ok (.iload_n 1, 1) := by decide +kernel
theorem dX7_becomes_55 : decode cX7_becomes 55 = .ok (.iconst 4, 1) := by decide +kernel
theorem dX7_becomes_56 : decode cX7_becomes 56 = .ok (.aload_n 0, 1) := by decide +kernel
theorem dX7_becomes_57 : decode cX7_becomes 57 = .ok (.iload_n 1, 1) := by decide +kernel
theorem dX7_becomes_58 : decode cX7_becomes 58 = .ok (.iconst 4, 1) := by decide +kernel
theorem dX7_becomes_59 : decode cX7_becomes 59 = .ok (.invokevirtual 45, 3) := by decide +kernel
theorem dX7_becomes_62 : decode cX7_becomes 62 = .ok (.iload_n 2, 1) := by decide +kernel
theorem dX7_becomes_63 : decode cX7_becomes 63 = .ok (.iconst 2, 1) := by decide +kernel
theorem dX7_becomes_64 : decode cX7_becomes 64 = .ok (.if_icmp .ne 7, 3) := by decide +kernel
theorem dX7_becomes_67 : decode cX7_becomes 67 = .ok (.iconst 1, 1) := by decide +kernel
theorem dX7_becomes_68 : decode cX7_becomes 68 = .ok (.goto 4, 3) := by decide +kernel
theorem dX7_becomes_71 : decode cX7_becomes 71 = .ok (.iconst 0, 1) := by decide +kernel
theorem dX7_becomes_72 : decode cX7_becomes 72 = .ok (.iadd, 1) := by decide +kernel
theorem dX7_becomes_73 : decode cX7_becomes 73 = .ok (.invokevirtual 59, 3) := by decide +kernel
theorem dX7_becomes_76 : decode cX7_becomes 76 = .ok (.aload_n 0, 1) := by decide +kernel
theorem dX7_becomes_77 : decode cX7_becomes 77 = .ok (.iconst 0, 1) := by decide +kernel
theorem dX7_becomes_78 : decode cX7_becomes 78 = .ok (.bipush 10, 2) := by decide +kernel
theorem dX7_becomes_80 : decode cX7_becomes 80 = .ok (.iload_n 1, 1) := by decide +kernel
theorem dX7_becomes_81 : decode cX7_becomes 81 = .ok (.imul, 1) := by decide +kernel
theorem dX7_becomes_82 : decode cX7_becomes 82 = .ok (.iload_n 2, 1) := by decide +kernel
theorem dX7_becomes_83 : decode cX7_becomes 83 = .ok (.iadd, 1) := by decide +kernel
theorem dX7_becomes_84 : decode cX7_becomes 84 = .ok (.invokevirtual 76, 3) := by decide +kernel
theorem dX7_becomes_87 : decode cX7_becomes 87 = .ok (.return_, 1) := by decide +kernel
theorem dX7_phases_0 : decode cX7_phases 0 = .ok (.aload_n 0, 1) := by decide +kernel
theorem dX7_phases_1 : decode cX7_phases 1 = .ok (.iconst 0, 1) := by decide +kernel
theorem dX7_phases_2 : decode cX7_phases 2 = .ok (.invokevirtual 99, 3) := by decide +kernel
theorem dX7_phases_5 : decode cX7_phases 5 = .ok (.istore_n 1, 1) := by decide +kernel
theorem dX7_phases_6 : decode cX7_phases 6 = .ok (.aload_n 0, 1) := by decide +kernel
theorem dX7_phases_7 : decode cX7_phases 7 = .ok (.iconst 1, 1) := by decide +kernel
theorem dX7_phases_8 : decode cX7_phases 8 = .ok (.invokevirtual 99, 3) := by decide +kernel
theorem dX7_phases_11 : decode cX7_phases 11 = .ok (.istore_n 2, 1) := by decide +kernel
theorem dX7_phases_12 : decode cX7_phases 12 = .ok (.aload_n 0, 1) := by decide +kernel
theorem dX7_phases_13 : decode cX7_phases 13 = .ok (.iconst 2, 1) := by decide +kernel
theorem dX7_phases_14 : decode cX7_phases 14 = .ok (.invokevirtual 99, 3) := by decide +kernel
theorem dX7_phases_17 : decode cX7_phases 17 = .ok (.istore_n 3, 1) := by decide +kernel
theorem dX7_phases_18 : decode cX7_phases 18 = .ok (.aload_n 0, 1) := by decide +kernel
theorem dX7_phases_19 : decode cX7_phases 19 = .ok (.iconst 3, 1) := by decide +kernel
theorem dX7_phases_20 : decode cX7_phases 20 = .ok (.invokevirtual 99, 3) := by decide +kernel
theorem dX7_phases_23 : decode cX7_phases 23 = .ok (.istore 4, 2) := by decide +kernel
theorem dX7_phases_25 : decode cX7_phases 25 = .ok (.aload_n 0, 1) := by decide +kernel
theorem dX7_phases_26 : decode cX7_phases 26 = .ok (.iconst 2, 1) := by decide +kernel
theorem dX7_phases_27 : decode cX7_phases 27 = .ok (.invokevirtual 90, 3) := by decide +kernel
theorem dX7_phases_30 : decode cX7_phases 30 = .ok (.ifCond .eq 33, 3) := by decide +kernel
theorem dX7_phases_33 : decode cX7_phases 33 = .ok (.aload_n 0, 1) := by decide +kernel
theorem dX7_phases_34 : decode cX7_phases 34 = .ok (.iconst 3, 1) := by decide +kernel
theorem dX7_phases_35 : decode cX7_phases 35 = .ok (.invokevirtual 90, 3) := by decide +kernel
theorem dX7_phases_38 : decode cX7_phases 38 = .ok (.ifCond .eq 25, 3) := by decide +kernel
theorem dX7_phases_41 : decode cX7_phases 41 = .ok (.iload 4, 2) := by decide +kernel
theorem dX7_phases_43 : decode cX7_phases 43 = .ok (.invokestatic 102, 3) := by decide +kernel
theorem dX7_phases_46 : decode cX7_phases 46 = .ok (.iload_n 3, 1) := by decide +kernel
theorem dX7_phases_47 : decode cX7_phases 47 = .ok (.invokestatic 102, 3) := by decide +kernel
theorem dX7_phases_50 : decode cX7_phases 50 = .ok (.if_icmp .ge 8, 3) := by decide +kernel
theorem dX7_phases_53 : decode cX7_phases 53 = .ok (.iload 4, 2) := by decide +kernel
theorem dX7_phases_55 : decode cX7_phases 55 = .ok (.goto 4, 3) := by decide +kernel
theorem dX7_phases_58 : decode cX7_phases 58 = .ok (.iload_n 3, 1) := by decide +kernel
theorem dX7_phases_59 : decode cX7_phases 59 = .ok (.istore_n 3, 1) := by decide +kernel
theorem dX7_phases_60 : decode cX7_phases 60 = .ok (.iload_n 3, 1) := by decide +kernel
theorem dX7_phases_61 : decode cX7_phases 61 = .ok (.istore 4, 2) := by decide +kernel
theorem dX7_phases_63 : decode cX7_phases 63 = .ok (.aload_n 0, 1) := by decide +kernel
theorem dX7_phases_64 : decode cX7_phases 64 = .ok (.iconst 0, 1) := by decide +kernel
theorem dX7_phases_65 : decode cX7_phases 65 = .ok (.iload_n 1, 1) := by decide +kernel
theorem dX7_phases_66 : decode cX7_phases 66 = .ok (.invokevirtual 105, 3) := by decide +kernel
theorem dX7_phases_69 : decode cX7_phases 69 = .ok (.aload_n 0, 1) := by decide +kernel
theorem dX7_phases_70 : decode cX7_phases 70 = .ok (.iconst 1, 1) := by decide +kernel
theorem dX7_phases_71 : decode cX7_phases 71 = .ok (.iload_n 2, 1) := by decide +kernel
theorem dX7_phases_72 : decode cX7_phases 72 = .ok (.invokevirtual 105, 3) := by decide +kernel
theorem dX7_phases_75 : decode cX7_phases 75 = .ok (.aload_n 0, 1) := by decide +kernel
theorem dX7_phases_76 : decode cX7_phases 76 = .ok (.iconst 2, 1) := by decide +kernel
theorem dX7_phases_77 : decode cX7_phases 77 = .ok (.iload_n 3, 1) := by decide +kernel
theorem dX7_phases_78 : decode cX7_phases 78 = .ok (.invokevirtual 105, 3) := by decide +kernel
theorem dX7_phases_81 : decode cX7_phases 81 = .ok (.aload_n 0, 1) := by decide +kernel
theorem dX7_phases_82 : decode cX7_phases 82 = .ok (.iconst 3, 1) := by decide +kernel
theorem dX7_phases_83 : decode cX7_phases 83 = .ok (.iload 4, 2) := by decide +kernel
theorem dX7_phases_85 : decode cX7_phases 85 = .ok (.invokevirtual 105, 3) := by decide +kernel
theorem dX7_phases_88 : decode cX7_phases 88 = .ok (.return_, 1) := by decide +kernel
theorem dX7_dumps_0 : decode cX7_dumps 0 = .ok (.aload_n 0, 1) := by decide +kernel
theorem dX7_dumps_1 : decode cX7_dumps 1 = .ok (.getfield 7, 3) := by decide +kernel
theorem dX7_dumps_4 : decode cX7_dumps 4 = .ok (.iconst 5, 1) := by decide +kernel
theorem dX7_dumps_5 : decode cX7_dumps 5 = .ok (.iaload, 1) := by decide +kernel
theorem dX7_dumps_6 : decode cX7_dumps 6 = .ok (.sipush 550, 3) := by decide +kernel
theorem dX7_dumps_9 : decode cX7_dumps 9 = .ok (.if_icmp .gt 48, 3) := by decide +kernel
theorem dX7_dumps_12 : decode cX7_dumps 12 = .ok (.bipush 50, 2) := by decide +kernel
theorem dX7_dumps_14 : decode cX7_dumps 14 = .ok (.aload_n 0, 1) := by decide +kernel
theorem dX7_dumps_15 : decode cX7_dumps 15 = .ok (.iload_n 1, 1) := by decide +kernel
theorem dX7_dumps_16 : decode cX7_dumps 16 = .ok (.iconst 1, 1) := by decide +kernel
theorem dX7_dumps_17 : decode cX7_dumps 17 = .ok (.invokevirtual 45, 3) := by decide +kernel
theorem dX7_dumps_20 : decode cX7_dumps 20 = .ok (.invokestatic 73, 3) := by decide +kernel
theorem dX7_dumps_23 : decode cX7_dumps 23 = .ok (.istore_n 2, 1) := by decide +kernel
theorem dX7_dumps_24 : decode cX7_dumps 24 = .ok (.aload_n 0, 1) := by decide +kernel
theorem dX7_dumps_25 : decode cX7_dumps 25 = .ok (.iload_n 1, 1) := by decide +kernel
theorem dX7_dumps_26 : decode cX7_dumps 26 = .ok (.iconst 1, 1) := by decide +kernel
theorem dX7_dumps_27 : decode cX7_dumps 27 = .ok (.aload_n 0, 1) := by decide +kernel
theorem dX7_dumps_28 : decode cX7_dumps 28 = .ok (.iload_n 1, 1) := by decide +kernel
theorem dX7_dumps_29 : decode cX7_dumps 29 = .ok (.iconst 1, 1) := by decide +kernel
theorem dX7_dumps_30 : decode cX7_dumps 30 = .ok (.invokevirtual 45, 3) := by decide +kernel
theorem dX7_dumps_33 : decode cX7_dumps 33 = .ok (.iload_n 2, 1) := by decide +kernel
theorem dX7_dumps_34 : decode cX7_dumps 34 = .ok (.isub, 1) := by decide +kernel
theorem dX7_dumps_35 : decode cX7_dumps 35 = .ok (.invokevirtual 59, 3) := by decide +kernel
theorem dX7_dumps_38 : decode cX7_dumps 38 = .ok (.aload_n 0, 1) := by decide +kernel
theorem dX7_dumps_39 : decode cX7_dumps 39 = .ok (.getfield 7, 3) := by decide +kernel
theorem dX7_dumps_42 : decode cX7_dumps 42 = .ok (.iconst 5, 1) := by decide +kernel
theorem dX7_dumps_43 : decode cX7_dumps 43 = .ok (.dup2, 1) := by decide +kernel
theorem dX7_dumps_44 : decode cX7_dumps 44 = .ok (.iaload, 1) := by decide +kernel
theorem dX7_dumps_45 : decode cX7_dumps 45 = .ok (.iload_n 2, 1) := by decide +kernel
theorem dX7_dumps_46 : decode cX7_dumps 46 = .ok (.iadd, 1) := by decide +kernel
theorem dX7_dumps_47 : decode cX7_dumps 47 = .ok (.iastore, 1) := by decide +kernel
theorem dX7_dumps_48 : decode cX7_dumps 48 = .ok (.aload_n 0, 1) := by decide +kernel
theorem dX7_dumps_49 : decode cX7_dumps 49 = .ok (.getfield 7, 3) := by decide +kernel
theorem dX7_dumps_52 : decode cX7_dumps 52 = .ok (.bipush 9, 2) := by decide +kernel
theorem dX7_dumps_54 : decode cX7_dumps 54 = .ok (.iconst 0, 1) := by decide +kernel
theorem dX7_dumps_55 : decode cX7_dumps 55 = .ok (.iastore, 1) := by decide +kernel
theorem dX7_dumps_56 : decode cX7_dumps 56 = .ok (.return_, 1) := by decide +kernel
theorem dX7_dumps_57 : decode cX7_dumps 57 = .ok (.aload_n 0, 1) := by decide +kernel
theorem dX7_dumps_58 : decode cX7_dumps 58 = .ok (.getfield 7, 3) := by decide +kernel
theorem dX7_dumps_61 : decode cX7_dumps 61 = .ok (.bipush 9, 2) := by decide +kernel
theorem dX7_dumps_63 : decode cX7_dumps 63 = .ok (.iaload, 1) := by decide +kernel
theorem dX7_dumps_64 : decode cX7_dumps 64 = .ok (.ifCond .ne 9, 3) := by decide +kernel
theorem dX7_dumps_67 : decode cX7_dumps 67 = .ok (.aload_n 0, 1) := by decide +kernel
theorem dX7_dumps_68 : decode cX7_dumps 68 = .ok (.iconst 2, 1) := by decide +kernel
theorem dX7_dumps_69 : decode cX7_dumps 69 = .ok (.iload_n 1, 1) := by decide +kernel
theorem dX7_dumps_70 : decode cX7_dumps 70 = .ok (.invokevirtual 76, 3) := by decide +kernel
theorem dX7_dumps_73 : decode cX7_dumps 73 = .ok (.aload_n 0, 1) := by decide +kernel
theorem dX7_dumps_74 : decode cX7_dumps 74 = .ok (.getfield 7, 3) := by decide +kernel
theorem dX7_dumps_77 : decode cX7_dumps 77 = .ok (.bipush 9, 2) := by decide +kernel
theorem dX7_dumps_79 : decode cX7_dumps 79 = .ok (.iconst 1, 1) := by decide +kernel
theorem dX7_dumps_80 : decode cX7_dumps 80 = .ok (.iastore, 1) := by decide +kernel
theorem dX7_dumps_81 : decode cX7_dumps 81 = .ok (.return_, 1) := by decide +kernel
theorem dX7_presses_0 : decode cX7_presses 0 = .ok (.iload_n 1, 1) := by decide +kernel
theorem dX7_presses_1 : decode cX7_presses 1 = .ok (.iconst 1, 1) := by decide +kernel
theorem dX7_presses_2 : decode cX7_presses 2 = .ok (.if_icmp .le 26, 3) := by decide +kernel
theorem dX7_presses_5 : decode cX7_presses 5 = .ok (.aload_n 0, 1) := by decide +kernel
theorem dX7_presses_6 : decode cX7_presses 6 = .ok (.iload_n 1, 1) := by decide +kernel
theorem dX7_presses_7 : decode cX7_presses 7 = .ok (.invokevirtual 87, 3) := by decide +kernel
theorem dX7_presses_10 : decode cX7_presses 10 = .ok (.ifCond .eq 18, 3) := by decide +kernel
theorem dX7_presses_13 : decode cX7_presses 13 = .ok (.aload_n 0, 1) := by decide +kernel
theorem dX7_presses_14 : decode cX7_presses 14 = .ok (.getfield 7, 3) := by decide +kernel
theorem dX7_presses_17 : decode cX7_presses 17 = .ok (.iconst 3, 1) := by decide +kernel
theorem dX7_presses_18 : decode cX7_presses 18 = .ok (.iaload, 1) := by decide +kernel
theorem dX7_presses_19 : decode cX7_presses 19 = .ok (.sipush 500, 3) := by decide +kernel
theorem dX7_presses_22 : decode cX7_presses 22 = .ok (.invokestatic 73, 3) := by decide +kernel
theorem dX7_presses_25 : decode cX7_presses 25 = .ok (.goto 9, 3) := by decide +kernel
theorem dX7_presses_28 : decode cX7_presses 28 = .ok (.aload_n 0, 1) := by decide +kernel
theorem dX7_presses_29 : decode cX7_presses 29 = .ok (.getfield 7, 3) := by decide +kernel
theorem dX7_presses_32 : decode cX7_presses 32 = .ok (.iconst 3, 1) := by decide +kernel
theorem dX7_presses_33 : decode cX7_presses 33 = .ok (.iaload, 1) := by decide +kernel
theorem dX7_presses_34 : decode cX7_presses 34 = .ok (.istore_n 2, 1) := by decide +kernel
theorem dX7_presses_35 : decode cX7_presses 35 = .ok (.aload_n 0, 1) := by decide +kernel
theorem dX7_presses_36 : decode cX7_presses 36 = .ok (.iload_n 1, 1) := by decide +kernel
theorem dX7_presses_37 : decode cX7_presses 37 = .ok (.iconst 1, 1) := by decide +kernel
theorem dX7_presses_38 : decode cX7_presses 38 = .ok (.invokevirtual 45, 3) := by decide +kernel
theorem dX7_presses_41 : decode cX7_presses 41 = .ok (.istore_n 3, 1) := by decide +kernel
theorem dX7_presses_42 : decode cX7_presses 42 = .ok (.aload_n 0, 1) := by decide +kernel
theorem dX7_presses_43 : decode cX7_presses 43 = .ok (.iload_n 1, 1) := by decide +kernel
theorem dX7_presses_44 : decode cX7_presses 44 = .ok (.iconst 2, 1) := by decide +kernel
theorem dX7_presses_45 : decode cX7_presses 45 = .ok (.invokevirtual 45, 3) := by decide +kernel
theorem dX7_presses_48 : decode cX7_presses 48 = .ok (.tableswitch 110 0 4 #[36, 110, 69, 110, 77], 36) := by decide +kernel
theorem dX7_presses_84 : decode cX7_presses 84 = .ok (.aload_n 0, 1) := by decide +kernel
theorem dX7_presses_85 : decode cX7_presses 85 = .ok (.iload_n 1, 1) := by decide +kernel
theorem dX7_presses_86 : decode cX7_presses 86 = .ok (.iconst 1, 1) := by decide +kernel
theorem dX7_presses_87 : decode cX7_presses 87 = .ok (.iload_n 3, 1) := by decide +kernel
theorem dX7_presses_88 : decode cX7_presses 88 = .ok (.iload_n 2, 1) := by decide +kernel
theorem dX7_presses_89 : decode cX7_presses 89 = .ok (.if_icmp .ge 14, 3) := by decide +kernel
theorem dX7_presses_92 : decode cX7_presses 92 = .ok (.iload_n 3, 1) := by decide +kernel
theorem dX7_presses_93 : decode cX7_presses 93 = .ok (.bipush 40, 2) := by decide +kernel
theorem dX7_presses_95 : decode cX7_presses 95 = .ok (.iadd, 1) := by decide +kernel
theorem dX7_presses_96 : decode cX7_presses 96 = .ok (.iload_n 2, 1) := by decide +kernel
theorem dX7_presses_97 : decode cX7_presses 97 = .ok (.invokestatic 73, 3) := by decide +kernel
theorem dX7_presses_100 : decode cX7_presses 100 = .ok (.goto 11, 3) := by decide +kernel
theorem dX7_presses_103 : decode cX7_presses 103 = .ok (.iload_n 3, 1) := by decide +kernel
theorem dX7_presses_104 : decode cX7_presses 104 = .ok (.bipush 80, 2) := by decide +kernel
theorem dX7_presses_106 : decode cX7_presses 106 = .ok (.isub, 1) := by decide +kernel
theorem dX7_presses_107 : decode cX7_presses 107 = .ok (.iload_n 2, 1) := by decide +kernel
theorem dX7_presses_108 : decode cX7_presses 108 = .ok (.invokestatic 70, 3) := by decide +kernel
theorem dX7_presses_111 : decode cX7_presses 111 = .ok (.invokevirtual 59, 3) := by decide +kernel
theorem dX7_presses_114 : decode cX7_presses 114 = .ok (.goto 55, 3) := by decide +kernel
theorem dX7_presses_117 : decode cX7_presses 117 = .ok (.aload_n 0, 1) := by decide +kernel
theorem dX7_presses_118 : decode cX7_presses 118 = .ok (.iload_n 1, 1) := by decide +kernel
theorem dX7_presses_119 : decode cX7_presses 119 = .ok (.invokevirtual 108, 3) := by decide +kernel
theorem dX7_presses_122 : decode cX7_presses 122 = .ok (.goto 47, 3) := by decide +kernel
theorem dX7_presses_125 : decode cX7_presses 125 = .ok (.aload_n 0, 1) := by decide +kernel
theorem dX7_presses_126 : decode cX7_presses 126 = .ok (.iload_n 1, 1) := by decide +kernel
theorem dX7_presses_127 : decode cX7_presses 127 = .ok (.iconst 1, 1) := by decide +kernel
theorem dX7_presses_128 : decode cX7_presses 128 = .ok (.aload_n 0, 1) := by decide +kernel
theorem dX7_presses_129 : decode cX7_presses 129 = .ok (.iload_n 1, 1) := by decide +kernel
theorem dX7_presses_130 : decode cX7_presses 130 = .ok (.iconst 3, 1) := by decide +kernel
theorem dX7_presses_131 : decode cX7_presses 131 = .ok (.invokevirtual 45, 3) := by decide +kernel
theorem dX7_presses_134 : decode cX7_presses 134 = .ok (.iconst 2, 1) := by decide +kernel
theorem dX7_presses_135 : decode cX7_presses 135 = .ok (.irem, 1) := by decide +kernel
theorem dX7_presses_136 : decode cX7_presses 136 = .ok (.iconst 1, 1) := by decide +kernel
theorem dX7_presses_137 : decode cX7_presses 137 = .ok (.if_icmp .ne 10, 3) := by decide +kernel
theorem dX7_presses_140 : decode cX7_presses 140 = .ok (.iload_n 3, 1) := by decide +kernel
theorem dX7_presses_141 : decode cX7_presses 141 = .ok (.bipush 20, 2) := by decide +kernel
theorem dX7_presses_143 : decode cX7_presses 143 = .ok (.iadd, 1) := by decide +kernel
theorem dX7_presses_144 : decode cX7_presses 144 = .ok (.goto 4, 3) := by decide +kernel
theorem dX7_presses_147 : decode cX7_presses 147 = .ok (.iload_n 3, 1) := by decide +kernel
theorem dX7_presses_148 : decode cX7_presses 148 = .ok (.iload_n 2, 1) := by decide +kernel
theorem dX7_presses_149 : decode cX7_presses 149 = .ok (.invokestatic 73, 3) := by decide +kernel
theorem dX7_presses_152 : decode cX7_presses 152 = .ok (.invokevirtual 59, 3) := by decide +kernel
theorem dX7_presses_155 : decode cX7_presses 155 = .ok (.goto 14, 3) := by decide +kernel
theorem dX7_presses_158 : decode cX7_presses 158 = .ok (.aload_n 0, 1) := by decide +kernel
theorem dX7_presses_159 : decode cX7_presses 159 = .ok (.iload_n 1, 1) := by decide +kernel
theorem dX7_presses_160 : decode cX7_presses 160 = .ok (.iconst 1, 1) := by decide +kernel
theorem dX7_presses_161 : decode cX7_presses 161 = .ok (.iload_n 3, 1) := by decide +kernel
theorem dX7_presses_162 : decode cX7_presses 162 = .ok (.iload_n 2, 1) := by decide +kernel
theorem dX7_presses_163 : decode cX7_presses 163 = .ok (.invokestatic 73, 3) := by decide +kernel
theorem dX7_presses_166 : decode cX7_presses 166 = .ok (.invokevirtual 59, 3) := by decide +kernel
theorem dX7_presses_169 : decode cX7_presses 169 = .ok (.return_, 1) := by decide +kernel
theorem dX7_yaws_0 : decode cX7_yaws 0 = .ok (.aload_n 0, 1) := by decide +kernel
theorem dX7_yaws_1 : decode cX7_yaws 1 = .ok (.iconst 0, 1) := by decide +kernel
theorem dX7_yaws_2 : decode cX7_yaws 2 = .ok (.iconst 2, 1) := by decide +kernel
theorem dX7_yaws_3 : decode cX7_yaws 3 = .ok (.invokevirtual 45, 3) := by decide +kernel
theorem dX7_yaws_6 : decode cX7_yaws 6 = .ok (.ifCond .ne 23, 3) := by decide +kernel
theorem dX7_yaws_9 : decode cX7_yaws 9 = .ok (.aload_n 0, 1) := by decide +kernel
theorem dX7_yaws_10 : decode cX7_yaws 10 = .ok (.iconst 1, 1) := by decide +kernel
theorem dX7_yaws_11 : decode cX7_yaws 11 = .ok (.iconst 2, 1) := by decide +kernel
theorem dX7_yaws_12 : decode cX7_yaws 12 = .ok (.invokevirtual 45, 3) := by decide +kernel
theorem dX7_yaws_15 : decode cX7_yaws 15 = .ok (.ifCond .ne 14, 3) := by decide +kernel
theorem dX7_yaws_18 : decode cX7_yaws 18 = .ok (.aload_n 0, 1) := by decide +kernel
theorem dX7_yaws_19 : decode cX7_yaws 19 = .ok (.getfield 7, 3) := by decide +kernel
theorem dX7_yaws_22 : decode cX7_yaws 22 = .ok (.bipush 7, 2) := by decide +kernel
theorem dX7_yaws_24 : decode cX7_yaws 24 = .ok (.sipush 150, 3) := by decide +kernel
theorem dX7_yaws_27 : decode cX7_yaws 27 = .ok (.iastore, 1) := by decide +kernel
theorem dX7_yaws_28 : decode cX7_yaws 28 = .ok (.return_, 1) := by decide +kernel
theorem dX7_yaws_29 : decode cX7_yaws 29 = .ok (.aload_n 0, 1) := by decide +kernel
theorem dX7_yaws_30 : decode cX7_yaws 30 = .ok (.iconst 0, 1) := by decide +kernel
theorem dX7_yaws_31 : decode cX7_yaws 31 = .ok (.iconst 1, 1) := by decide +kernel
theorem dX7_yaws_32 : decode cX7_yaws 32 = .ok (.invokevirtual 45, 3) := by decide +kernel
theorem dX7_yaws_35 : decode cX7_yaws 35 = .ok (.istore_n 1, 1) := by decide +kernel
theorem dX7_yaws_36 : decode cX7_yaws 36 = .ok (.aload_n 0, 1) := by decide +kernel
theorem dX7_yaws_37 : decode cX7_yaws 37 = .ok (.iconst 1, 1) := by decide +kernel
theorem dX7_yaws_38 : decode cX7_yaws 38 = .ok (.iconst 1, 1) := by decide +kernel
theorem dX7_yaws_39 : decode cX7_yaws 39 = .ok (.invokevirtual 45, 3) := by decide +kernel
theorem dX7_yaws_42 : decode cX7_yaws 42 = .ok (.istore_n 2, 1) := by decide +kernel
theorem dX7_yaws_43 : decode cX7_yaws 43 = .ok (.aload_n 0, 1) := by decide +kernel
theorem dX7_yaws_44 : decode cX7_yaws 44 = .ok (.iconst 0, 1) := by decide +kernel
theorem dX7_yaws_45 : decode cX7_yaws 45 = .ok (.iconst 1, 1) := by decide +kernel
theorem dX7_yaws_46 : decode cX7_yaws 46 = .ok (.iload_n 1, 1) := by decide +kernel
theorem dX7_yaws_47 : decode cX7_yaws 47 = .ok (.iload_n 2, 1) := by decide +kernel
theorem dX7_yaws_48 : decode cX7_yaws 48 = .ok (.aload_n 0, 1) := by decide +kernel
theorem dX7_yaws_49 : decode cX7_yaws 49 = .ok (.getfield 7, 3) := by decide +kernel
theorem dX7_yaws_52 : decode cX7_yaws 52 = .ok (.bipush 7, 2) := by decide +kernel
theorem dX7_yaws_54 : decode cX7_yaws 54 = .ok (.iaload, 1) := by decide +kernel
theorem dX7_yaws_55 : decode cX7_yaws 55 = .ok (.iadd, 1) := by decide +kernel
theorem dX7_yaws_56 : decode cX7_yaws 56 = .ok (.invokestatic 73, 3) := by decide +kernel
theorem dX7_yaws_59 : decode cX7_yaws 59 = .ok (.invokevirtual 59, 3) := by decide +kernel
theorem dX7_yaws_62 : decode cX7_yaws 62 = .ok (.aload_n 0, 1) := by decide +kernel
theorem dX7_yaws_63 : decode cX7_yaws 63 = .ok (.iconst 1, 1) := by decide +kernel
theorem dX7_yaws_64 : decode cX7_yaws 64 = .ok (.iconst 1, 1) := by decide +kernel
theorem dX7_yaws_65 : decode cX7_yaws 65 = .ok (.iload_n 2, 1) := by decide +kernel
theorem dX7_yaws_66 : decode cX7_yaws 66 = .ok (.iload_n 1, 1) := by decide +kernel
theorem dX7_yaws_67 : decode cX7_yaws 67 = .ok (.aload_n 0, 1) := by decide +kernel
theorem dX7_yaws_68 : decode cX7_yaws 68 = .ok (.getfield 7, 3) := by decide +kernel
theorem dX7_yaws_71 : decode cX7_yaws 71 = .ok (.bipush 7, 2) := by decide +kernel
theorem dX7_yaws_73 : decode cX7_yaws 73 = .ok (.iaload, 1) := by decide +kernel
theorem dX7_yaws_74 : decode cX7_yaws 74 = .ok (.iadd, 1) := by decide +kernel
theorem dX7_yaws_75 : decode cX7_yaws 75 = .ok (.invokestatic 73, 3) := by decide +kernel
theorem dX7_yaws_78 : decode cX7_yaws 78 = .ok (.invokevirtual 59, 3) := by decide +kernel
theorem dX7_yaws_81 : decode cX7_yaws 81 = .ok (.aload_n 0, 1) := by decide +kernel
theorem dX7_yaws_82 : decode cX7_yaws 82 = .ok (.getfield 7, 3) := by decide +kernel
theorem dX7_yaws_85 : decode cX7_yaws 85 = .ok (.bipush 7, 2) := by decide +kernel
theorem dX7_yaws_87 : decode cX7_yaws 87 = .ok (.sipush 1000, 3) := by decide +kernel
theorem dX7_yaws_90 : decode cX7_yaws 90 = .ok (.aload_n 0, 1) := by decide +kernel
theorem dX7_yaws_91 : decode cX7_yaws 91 = .ok (.getfield 7, 3) := by decide +kernel
theorem dX7_yaws_94 : decode cX7_yaws 94 = .ok (.bipush 7, 2) := by decide +kernel
theorem dX7_yaws_96 : decode cX7_yaws 96 = .ok (.iaload, 1) := by decide +kernel
theorem dX7_yaws_97 : decode cX7_yaws 97 = .ok (.iconst 4, 1) := by decide +kernel
theorem dX7_yaws_98 : decode cX7_yaws 98 = .ok (.iadd, 1) := by decide +kernel
theorem dX7_yaws_99 : decode cX7_yaws 99 = .ok (.invokestatic 73, 3) := by decide +kernel
theorem dX7_yaws_102 : decode cX7_yaws 102 = .ok (.iastore, 1) := by decide +kernel
theorem dX7_yaws_103 : decode cX7_yaws 103 = .ok (.return_, 1) := by decide +kernel
theorem dX7_controls_0 : decode cX7_controls 0 = .ok (.iconst 0, 1) := by decide +kernel
theorem dX7_controls_1 : decode cX7_controls 1 = .ok (.istore_n 1, 1) := by decide +kernel
theorem dX7_controls_2 : decode cX7_controls 2 = .ok (.iload_n 1, 1) := by decide +kernel
theorem dX7_controls_3 : decode cX7_controls 3 = .ok (.iconst 4, 1) := by decide +kernel
theorem dX7_controls_4 : decode cX7_controls 4 = .ok (.if_icmp .ge 14, 3) := by decide +kernel
theorem dX7_controls_7 : decode cX7_controls 7 = .ok (.aload_n 0, 1) := by decide +kernel
theorem dX7_controls_8 : decode cX7_controls 8 = .ok (.iload_n 1, 1) := by decide +kernel
theorem dX7_controls_9 : decode cX7_controls 9 = .ok (.invokevirtual 112, 3) := by decide +kernel
theorem dX7_controls_12 : decode cX7_controls 12 = .ok (.iinc 1 1, 3) := by decide +kernel
theorem dX7_controls_15 : decode cX7_controls 15 = .ok (.goto (-13), 3) := by decide +kernel
theorem dX7_controls_18 : decode cX7_controls 18 = .ok (.aload_n 0, 1) := by decide +kernel
theorem dX7_controls_19 : decode cX7_controls 19 = .ok (.invokevirtual 115, 3) := by decide +kernel
theorem dX7_controls_22 : decode cX7_controls 22 = .ok (.iconst 0, 1) := by decide +kernel
theorem dX7_controls_23 : decode cX7_controls 23 = .ok (.istore_n 1, 1) := by decide +kernel
theorem dX7_controls_24 : decode cX7_controls 24 = .ok (.iload_n 1, 1) := by decide +kernel
theorem dX7_controls_25 : decode cX7_controls 25 = .ok (.iconst 4, 1) := by decide +kernel
theorem dX7_controls_26 : decode cX7_controls 26 = .ok (.if_icmp .ge 14, 3) := by decide +kernel
theorem dX7_controls_29 : decode cX7_controls 29 = .ok (.aload_n 0, 1) := by decide +kernel
theorem dX7_controls_30 : decode cX7_controls 30 = .ok (.iload_n 1, 1) := by decide +kernel
theorem dX7_controls_31 : decode cX7_controls 31 = .ok (.invokevirtual 118, 3) := by decide +kernel
theorem dX7_controls_34 : decode cX7_controls 34 = .ok (.iinc 1 1, 3) := by decide +kernel
theorem dX7_controls_37 : decode cX7_controls 37 = .ok (.goto (-13), 3) := by decide +kernel
theorem dX7_controls_40 : decode cX7_controls 40 = .ok (.aload_n 0, 1) := by decide +kernel
theorem dX7_controls_41 : decode cX7_controls 41 = .ok (.invokevirtual 121, 3) := by decide +kernel
theorem dX7_controls_44 : decode cX7_controls 44 = .ok (.iconst 0, 1) := by decide +kernel
theorem dX7_controls_45 : decode cX7_controls 45 = .ok (.istore_n 1, 1) := by decide +kernel
theorem dX7_controls_46 : decode cX7_controls 46 = .ok (.iload_n 1, 1) := by decide +kernel
theorem dX7_controls_47 : decode cX7_controls 47 = .ok (.iconst 4, 1) := by decide +kernel
theorem dX7_controls_48 : decode cX7_controls 48 = .ok (.if_icmp .ge 14, 3) := by decide +kernel
theorem dX7_controls_51 : decode cX7_controls 51 = .ok (.aload_n 0, 1) := by decide +kernel
theorem dX7_controls_52 : decode cX7_controls 52 = .ok (.iload_n 1, 1) := by decide +kernel
theorem dX7_controls_53 : decode cX7_controls 53 = .ok (.invokevirtual 124, 3) := by decide +kernel
theorem dX7_controls_56 : decode cX7_controls 56 = .ok (.iinc 1 1, 3) := by decide +kernel
theorem dX7_controls_59 : decode cX7_controls 59 = .ok (.goto (-13), 3) := by decide +kernel
theorem dX7_controls_62 : decode cX7_controls 62 = .ok (.aload_n 0, 1) := by decide +kernel
theorem dX7_controls_63 : decode cX7_controls 63 = .ok (.invokevirtual 127, 3) := by decide +kernel
theorem dX7_controls_66 : decode cX7_controls 66 = .ok (.aload_n 0, 1) := by decide +kernel
theorem dX7_controls_67 : decode cX7_controls 67 = .ok (.getfield 7, 3) := by decide +kernel
theorem dX7_controls_70 : decode cX7_controls 70 = .ok (.iconst 5, 1) := by decide +kernel
theorem dX7_controls_71 : decode cX7_controls 71 = .ok (.iaload, 1) := by decide +kernel
theorem dX7_controls_72 : decode cX7_controls 72 = .ok (.ifCond .le 33, 3) := by decide +kernel
theorem dX7_controls_75 : decode cX7_controls 75 = .ok (.aload_n 0, 1) := by decide +kernel
theorem dX7_controls_76 : decode cX7_controls 76 = .ok (.getfield 7, 3) := by decide +kernel
theorem dX7_controls_79 : decode cX7_controls 79 = .ok (.bipush 6, 2) := by decide +kernel
theorem dX7_controls_81 : decode cX7_controls 81 = .ok (.dup2, 1) := by decide +kernel
theorem dX7_controls_82 : decode cX7_controls 82 = .ok (.iaload, 1) := by decide +kernel
theorem dX7_controls_83 : decode cX7_controls 83 = .ok (.iconst 1, 1) := by decide +kernel
theorem dX7_controls_84 : decode cX7_controls 84 = .ok (.iadd, 1) := by decide +kernel
theorem dX7_controls_85 : decode cX7_controls 85 = .ok (.iastore, 1) := by decide +kernel
theorem dX7_controls_86 : decode cX7_controls 86 = .ok (.aload_n 0, 1) := by decide +kernel
theorem dX7_controls_87 : decode cX7_controls 87 = .ok (.getfield 7, 3) := by decide +kernel
theorem dX7_controls_90 : decode cX7_controls 90 = .ok (.iconst 5, 1) := by decide +kernel
theorem dX7_controls_91 : decode cX7_controls 91 = .ok (.iconst 0, 1) := by decide +kernel
theorem dX7_controls_92 : decode cX7_controls 92 = .ok (.aload_n 0, 1) := by decide +kernel
theorem dX7_controls_93 : decode cX7_controls 93 = .ok (.getfield 7, 3) := by decide +kernel
theorem dX7_controls_96 : decode cX7_controls 96 = .ok (.iconst 5, 1) := by decide +kernel
theorem dX7_controls_97 : decode cX7_controls 97 = .ok (.iaload, 1) := by decide +kernel
theorem dX7_controls_98 : decode cX7_controls 98 = .ok (.bipush 20, 2) := by decide +kernel
theorem dX7_controls_100 : decode cX7_controls 100 = .ok (.isub, 1) := by decide +kernel
theorem dX7_controls_101 : decode cX7_controls 101 = .ok (.invokestatic 70, 3) := by decide +kernel
theorem dX7_controls_104 : decode cX7_controls 104 = .ok (.iastore, 1) := by decide +kernel
theorem dX7_controls_105 : decode cX7_controls 105 = .ok (.return_, 1) := by decide +kernel
theorem dX7_tickOn_0 : decode cX7_tickOn 0 = .ok (.aload_n 0, 1) := by decide +kernel
theorem dX7_tickOn_1 : decode cX7_tickOn 1 = .ok (.getfield 7, 3) := by decide +kernel
theorem dX7_tickOn_4 : decode cX7_tickOn 4 = .ok (.iconst 2, 1) := by decide +kernel
theorem dX7_tickOn_5 : decode cX7_tickOn 5 = .ok (.dup2, 1) := by decide +kernel
theorem dX7_tickOn_6 : decode cX7_tickOn 6 = .ok (.iaload, 1) := by decide +kernel
theorem dX7_tickOn_7 : decode cX7_tickOn 7 = .ok (.iconst 1, 1) := by decide +kernel
theorem dX7_tickOn_8 : decode cX7_tickOn 8 = .ok (.iadd, 1) := by decide +kernel
theorem dX7_tickOn_9 : decode cX7_tickOn 9 = .ok (.iastore, 1) := by decide +kernel
theorem dX7_tickOn_10 : decode cX7_tickOn 10 = .ok (.aload_n 0, 1) := by decide +kernel
theorem dX7_tickOn_11 : decode cX7_tickOn 11 = .ok (.invokevirtual 130, 3) := by decide +kernel
theorem dX7_tickOn_14 : decode cX7_tickOn 14 = .ok (.aload_n 0, 1) := by decide +kernel
theorem dX7_tickOn_15 : decode cX7_tickOn 15 = .ok (.iconst 0, 1) := by decide +kernel
theorem dX7_tickOn_16 : decode cX7_tickOn 16 = .ok (.invokevirtual 133, 3) := by decide +kernel
theorem dX7_tickOn_19 : decode cX7_tickOn 19 = .ok (.istore_n 1, 1) := by decide +kernel
theorem dX7_tickOn_20 : decode cX7_tickOn 20 = .ok (.aload_n 0, 1) := by decide +kernel
theorem dX7_tickOn_21 : decode cX7_tickOn 21 = .ok (.iconst 1, 1) := by decide +kernel
theorem dX7_tickOn_22 : decode cX7_tickOn 22 = .ok (.invokevirtual 133, 3) := by decide +kernel
theorem dX7_tickOn_25 : decode cX7_tickOn 25 = .ok (.istore_n 2, 1) := by decide +kernel
theorem dX7_tickOn_26 : decode cX7_tickOn 26 = .ok (.aload_n 0, 1) := by decide +kernel
theorem dX7_tickOn_27 : decode cX7_tickOn 27 = .ok (.iconst 2, 1) := by decide +kernel
theorem dX7_tickOn_28 : decode cX7_tickOn 28 = .ok (.invokevirtual 133, 3) := by decide +kernel
theorem dX7_tickOn_31 : decode cX7_tickOn 31 = .ok (.istore_n 3, 1) := by decide +kernel
theorem dX7_tickOn_32 : decode cX7_tickOn 32 = .ok (.aload_n 0, 1) := by decide +kernel
theorem dX7_tickOn_33 : decode cX7_tickOn 33 = .ok (.iconst 3, 1) := by decide +kernel
theorem dX7_tickOn_34 : decode cX7_tickOn 34 = .ok (.invokevirtual 133, 3) := by decide +kernel
theorem dX7_tickOn_37 : decode cX7_tickOn 37 = .ok (.istore 4, 2) := by decide +kernel
theorem dX7_tickOn_39 : decode cX7_tickOn 39 = .ok (.aload_n 0, 1) := by decide +kernel
theorem dX7_tickOn_40 : decode cX7_tickOn 40 = .ok (.getfield 7, 3) := by decide +kernel
theorem dX7_tickOn_43 : decode cX7_tickOn 43 = .ok (.iconst 1, 1) := by decide +kernel
theorem dX7_tickOn_44 : decode cX7_tickOn 44 = .ok (.dup2, 1) := by decide +kernel
theorem dX7_tickOn_45 : decode cX7_tickOn 45 = .ok (.iaload, 1) := by decide +kernel
theorem dX7_tickOn_46 : decode cX7_tickOn 46 = .ok (.aload_n 0, 1) := by decide +kernel
theorem dX7_tickOn_47 : decode cX7_tickOn 47 = .ok (.getfield 7, 3) := by decide +kernel
theorem dX7_tickOn_50 : decode cX7_tickOn 50 = .ok (.iconst 0, 1) := by decide +kernel
theorem dX7_tickOn_51 : decode cX7_tickOn 51 = .ok (.iaload, 1) := by decide +kernel
theorem dX7_tickOn_52 : decode cX7_tickOn 52 = .ok (.bipush 100, 2) := by decide +kernel
theorem dX7_tickOn_54 : decode cX7_tickOn 54 = .ok (.idiv, 1) := by decide +kernel
theorem dX7_tickOn_55 : decode cX7_tickOn 55 = .ok (.iadd, 1) := by decide +kernel
theorem dX7_tickOn_56 : decode cX7_tickOn 56 = .ok (.iastore, 1) := by decide +kernel
theorem dX7_tickOn_57 : decode cX7_tickOn 57 = .ok (.aload_n 0, 1) := by decide +kernel
theorem dX7_tickOn_58 : decode cX7_tickOn 58 = .ok (.getfield 7, 3) := by decide +kernel
theorem dX7_tickOn_61 : decode cX7_tickOn 61 = .ok (.iconst 0, 1) := by decide +kernel
theorem dX7_tickOn_62 : decode cX7_tickOn 62 = .ok (.iconst 0, 1) := by decide +kernel
theorem dX7_tickOn_63 : decode cX7_tickOn 63 = .ok (.aload_n 0, 1) := by decide +kernel
theorem dX7_tickOn_64 : decode cX7_tickOn 64 = .ok (.getfield 7, 3) := by decide +kernel
theorem dX7_tickOn_67 : decode cX7_tickOn 67 = .ok (.iconst 0, 1) := by decide +kernel
theorem dX7_tickOn_68 : decode cX7_tickOn 68 = .ok (.iaload, 1) := by decide +kernel
theorem dX7_tickOn_69 : decode cX7_tickOn 69 = .ok (.iload_n 1, 1) := by decide +kernel
theorem dX7_tickOn_70 : decode cX7_tickOn 70 = .ok (.iload_n 2, 1) := by decide +kernel
theorem dX7_tickOn_71 : decode cX7_tickOn 71 = .ok (.iadd, 1) := by decide +kernel
theorem dX7_tickOn_72 : decode cX7_tickOn 72 = .ok (.iload_n 3, 1) := by decide +kernel
theorem dX7_tickOn_73 : decode cX7_tickOn 73 = .ok (.iadd, 1) := by decide +kernel
theorem dX7_tickOn_74 : decode cX7_tickOn 74 = .ok (.iload 4, 2) := by decide +kernel
theorem dX7_tickOn_76 : decode cX7_tickOn 76 = .ok (.iadd, 1) := by decide +kernel
theorem dX7_tickOn_77 : decode cX7_tickOn 77 = .ok (.bipush 40, 2) := by decide +kernel
theorem dX7_tickOn_79 : decode cX7_tickOn 79 = .ok (.idiv, 1) := by decide +kernel
theorem dX7_tickOn_80 : decode cX7_tickOn 80 = .ok (.isub, 1) := by decide +kernel
theorem dX7_tickOn_81 : decode cX7_tickOn 81 = .ok (.invokestatic 70, 3) := by decide +kernel
theorem dX7_tickOn_84 : decode cX7_tickOn 84 = .ok (.iastore, 1) := by decide +kernel
theorem dX7_tickOn_85 : decode cX7_tickOn 85 = .ok (.iconst 0, 1) := by decide +kernel
theorem dX7_tickOn_86 : decode cX7_tickOn 86 = .ok (.istore 5, 2) := by decide +kernel
theorem dX7_tickOn_88 : decode cX7_tickOn 88 = .ok (.iload 5, 2) := by decide +kernel
theorem dX7_tickOn_90 : decode cX7_tickOn 90 = .ok (.iconst 4, 1) := by decide +kernel
theorem dX7_tickOn_91 : decode cX7_tickOn 91 = .ok (.if_icmp .ge 91, 3) := by decide +kernel
theorem dX7_tickOn_94 : decode cX7_tickOn 94 = .ok (.iload 5, 2) := by decide +kernel
theorem dX7_tickOn_96 : decode cX7_tickOn 96 = .ok (.ifCond .ne 7, 3) := by decide +kernel
theorem dX7_tickOn_99 : decode cX7_tickOn 99 = .ok (.iload_n 1, 1) := by decide +kernel
theorem dX7_tickOn_100 : decode cX7_tickOn 100 = .ok (.goto 25, 3) := by decide +kernel
theorem dX7_tickOn_103 : decode cX7_tickOn 103 = .ok (.iload 5, 2) := by decide +kernel
theorem dX7_tickOn_105 : decode cX7_tickOn 105 = .ok (.iconst 1, 1) := by decide +kernel
theorem dX7_tickOn_106 : decode cX7_tickOn 106 = .ok (.if_icmp .ne 7, 3) := by decide +kernel
theorem dX7_tickOn_109 : decode cX7_tickOn 109 = .ok (.iload_n 2, 1) := by decide +kernel
theorem dX7_tickOn_110 : decode cX7_tickOn 110 = .ok (.goto 15, 3) := by decide +kernel
theorem dX7_tickOn_113 : decode cX7_tickOn 113 = .ok (.iload 5, 2) := by decide +kernel
theorem dX7_tickOn_115 : decode cX7_tickOn 115 = .ok (.iconst 2, 1) := by decide +kernel
theorem dX7_tickOn_116 : decode cX7_tickOn 116 = .ok (.if_icmp .ne 7, 3) := by decide +kernel
theorem dX7_tickOn_119 : decode cX7_tickOn 119 = .ok (.iload_n 3, 1) := by decide +kernel
theorem dX7_tickOn_120 : decode cX7_tickOn 120 = .ok (.goto 5, 3) := by decide +kernel
theorem dX7_tickOn_123 : decode cX7_tickOn 123 = .ok (.iload 4, 2) := by decide +kernel
theorem dX7_tickOn_125 : decode cX7_tickOn 125 = .ok (.istore 6, 2) := by decide +kernel
theorem dX7_tickOn_127 : decode cX7_tickOn 127 = .ok (.aload_n 0, 1) := by decide +kernel
theorem dX7_tickOn_128 : decode cX7_tickOn 128 = .ok (.iload 5, 2) := by decide +kernel
theorem dX7_tickOn_130 : decode cX7_tickOn 130 = .ok (.iconst 0, 1) := by decide +kernel
theorem dX7_tickOn_131 : decode cX7_tickOn 131 = .ok (.invokevirtual 45, 3) := by decide +kernel
theorem dX7_tickOn_134 : decode cX7_tickOn 134 = .ok (.iconst 2, 1) := by decide +kernel
theorem dX7_tickOn_135 : decode cX7_tickOn 135 = .ok (.iload 6, 2) := by decide +kernel
theorem dX7_tickOn_137 : decode cX7_tickOn 137 = .ok (.aload_n 0, 1) := by decide +kernel
theorem dX7_tickOn_138 : decode cX7_tickOn 138 = .ok (.iload 5, 2) := by decide +kernel
theorem dX7_tickOn_140 : decode cX7_tickOn 140 = .ok (.iconst 1, 1) := by decide +kernel
theorem dX7_tickOn_141 : decode cX7_tickOn 141 = .ok (.invokevirtual 45, 3) := by decide +kernel
theorem dX7_tickOn_144 : decode cX7_tickOn 144 = .ok (.isub, 1) := by decide +kernel
theorem dX7_tickOn_145 : decode cX7_tickOn 145 = .ok (.imul, 1) := by decide +kernel
theorem dX7_tickOn_146 : decode cX7_tickOn 146 = .ok (.iadd, 1) := by decide +kernel
theorem dX7_tickOn_147 : decode cX7_tickOn 147 = .ok (.istore 7, 2) := by decide +kernel
theorem dX7_tickOn_149 : decode cX7_tickOn 149 = .ok (.aload_n 0, 1) := by decide +kernel
theorem dX7_tickOn_150 : decode cX7_tickOn 150 = .ok (.iload 5, 2) := by decide +kernel
theorem dX7_tickOn_152 : decode cX7_tickOn 152 = .ok (.iconst 0, 1) := by decide +kernel
theorem dX7_tickOn_153 : decode cX7_tickOn 153 = .ok (.iload 7, 2) := by decide +kernel
theorem dX7_tickOn_155 : decode cX7_tickOn 155 = .ok (.ifCond .ge 7, 3) := by decide +kernel
theorem dX7_tickOn_158 : decode cX7_tickOn 158 = .ok (.iconst 0, 1) := by decide +kernel
theorem dX7_tickOn_159 : decode cX7_tickOn 159 = .ok (.goto 14, 3) := by decide +kernel
theorem dX7_tickOn_162 : decode cX7_tickOn 162 = .ok (.iload 7, 2) := by decide +kernel
theorem dX7_tickOn_164 : decode cX7_tickOn 164 = .ok (.aload_n 0, 1) := by decide +kernel
theorem dX7_tickOn_165 : decode cX7_tickOn 165 = .ok (.getfield 7, 3) := by decide +kernel
theorem dX7_tickOn_168 : decode cX7_tickOn 168 = .ok (.iconst 0, 1) := by decide +kernel
theorem dX7_tickOn_169 : decode cX7_tickOn 169 = .ok (.iaload, 1) := by decide +kernel
theorem dX7_tickOn_170 : decode cX7_tickOn 170 = .ok (.invokestatic 73, 3) := by decide +kernel
theorem dX7_tickOn_173 : decode cX7_tickOn 173 = .ok (.invokevirtual 59, 3) := by decide +kernel
theorem dX7_tickOn_176 : decode cX7_tickOn 176 = .ok (.iinc 5 1, 3) := by decide +kernel
theorem dX7_tickOn_179 : decode cX7_tickOn 179 = .ok (.goto (-91), 3) := by decide +kernel
theorem dX7_tickOn_182 : decode cX7_tickOn 182 = .ok (.aload_n 0, 1) := by decide +kernel
theorem dX7_tickOn_183 : decode cX7_tickOn 183 = .ok (.invokevirtual 136, 3) := by decide +kernel
theorem dX7_tickOn_186 : decode cX7_tickOn 186 = .ok (.aload_n 0, 1) := by decide +kernel
theorem dX7_tickOn_187 : decode cX7_tickOn 187 = .ok (.invokevirtual 139, 3) := by decide +kernel
theorem dX7_tickOn_190 : decode cX7_tickOn 190 = .ok (.iconst 0, 1) := by decide +kernel
theorem dX7_tickOn_191 : decode cX7_tickOn 191 = .ok (.istore 5, 2) := by decide +kernel
theorem dX7_tickOn_193 : decode cX7_tickOn 193 = .ok (.iload 5, 2) := by decide +kernel
theorem dX7_tickOn_195 : decode cX7_tickOn 195 = .ok (.iconst 4, 1) := by decide +kernel
theorem dX7_tickOn_196 : decode cX7_tickOn 196 = .ok (.if_icmp .ge 53, 3) := by decide +kernel
theorem dX7_tickOn_199 : decode cX7_tickOn 199 = .ok (.aload_n 0, 1) := by decide +kernel
theorem dX7_tickOn_200 : decode cX7_tickOn 200 = .ok (.iload 5, 2) := by decide +kernel
theorem dX7_tickOn_202 : decode cX7_tickOn 202 = .ok (.bipush 6, 2) := by decide +kernel
theorem dX7_tickOn_204 : decode cX7_tickOn 204 = .ok (.aload_n 0, 1) := by decide +kernel
theorem dX7_tickOn_205 : decode cX7_tickOn 205 = .ok (.iload 5, 2) := by decide +kernel
theorem dX7_tickOn_207 : decode cX7_tickOn 207 = .ok (.bipush 6, 2) := by decide +kernel
theorem dX7_tickOn_209 : decode cX7_tickOn 209 = .ok (.invokevirtual 45, 3) := by decide +kernel
theorem dX7_tickOn_212 : decode cX7_tickOn 212 = .ok (.aload_n 0, 1) := by decide +kernel
theorem dX7_tickOn_213 : decode cX7_tickOn 213 = .ok (.iload 5, 2) := by decide +kernel
theorem dX7_tickOn_215 : decode cX7_tickOn 215 = .ok (.iconst 0, 1) := by decide +kernel
theorem dX7_tickOn_216 : decode cX7_tickOn 216 = .ok (.invokevirtual 45, 3) := by decide +kernel
theorem dX7_tickOn_219 : decode cX7_tickOn 219 = .ok (.ifCond .ne 19, 3) := by decide +kernel
theorem dX7_tickOn_222 : decode cX7_tickOn 222 = .ok (.aload_n 0, 1) := by decide +kernel
theorem dX7_tickOn_223 : decode cX7_tickOn 223 = .ok (.getfield 7, 3) := by decide +kernel
theorem dX7_tickOn_226 : decode cX7_tickOn 226 = .ok (.iconst 0, 1) := by decide +kernel
theorem dX7_tickOn_227 : decode cX7_tickOn 227 = .ok (.iaload, 1) := by decide +kernel
theorem dX7_tickOn_228 : decode cX7_tickOn 228 = .ok (.sipush 1400, 3) := by decide +kernel
theorem dX7_tickOn_231 : decode cX7_tickOn 231 = .ok (.if_icmp .le 7, 3) := by decide +kernel
theorem dX7_tickOn_234 : decode cX7_tickOn 234 = .ok (.iconst 1, 1) := by decide +kernel
theorem dX7_tickOn_235 : decode cX7_tickOn 235 = .ok (.goto 4, 3) := by decide +kernel
theorem dX7_tickOn_238 : decode cX7_tickOn 238 = .ok (.iconst 0, 1) := by decide +kernel
theorem dX7_tickOn_239 : decode cX7_tickOn 239 = .ok (.iadd, 1) := by decide +kernel
theorem dX7_tickOn_240 : decode cX7_tickOn 240 = .ok (.invokevirtual 59, 3) := by decide +kernel
theorem dX7_tickOn_243 : decode cX7_tickOn 243 = .ok (.iinc 5 1, 3) := by decide +kernel
theorem dX7_tickOn_246 : decode cX7_tickOn 246 = .ok (.goto (-53), 3) := by decide +kernel
theorem dX7_tickOn_249 : decode cX7_tickOn 249 = .ok (.return_, 1) := by decide +kernel
theorem dX7_speeds_0 : decode cX7_speeds 0 = .ok (.aload_n 0, 1) := by decide +kernel
theorem dX7_speeds_1 : decode cX7_speeds 1 = .ok (.getfield 7, 3) := by decide +kernel
theorem dX7_speeds_4 : decode cX7_speeds 4 = .ok (.iconst 0, 1) := by decide +kernel
theorem dX7_speeds_5 : decode cX7_speeds 5 = .ok (.iload_n 1, 1) := by decide +kernel
theorem dX7_speeds_6 : decode cX7_speeds 6 = .ok (.iastore, 1) := by decide +kernel
theorem dX7_speeds_7 : decode cX7_speeds 7 = .ok (.aload_n 0, 1) := by decide +kernel
theorem dX7_speeds_8 : decode cX7_speeds 8 = .ok (.getfield 7, 3) := by decide +kernel
theorem dX7_speeds_11 : decode cX7_speeds 11 = .ok (.iconst 4, 1) := by decide +kernel
theorem dX7_speeds_12 : decode cX7_speeds 12 = .ok (.iload_n 1, 1) := by decide +kernel
theorem dX7_speeds_13 : decode cX7_speeds 13 = .ok (.iastore, 1) := by decide +kernel
theorem dX7_speeds_14 : decode cX7_speeds 14 = .ok (.aload_n 0, 1) := by decide +kernel
theorem dX7_speeds_15 : decode cX7_speeds 15 = .ok (.getfield 7, 3) := by decide +kernel
theorem dX7_speeds_18 : decode cX7_speeds 18 = .ok (.iconst 5, 1) := by decide +kernel
theorem dX7_speeds_19 : decode cX7_speeds 19 = .ok (.iconst 0, 1) := by decide +kernel
theorem dX7_speeds_20 : decode cX7_speeds 20 = .ok (.iastore, 1) := by decide +kernel
theorem dX7_speeds_21 : decode cX7_speeds 21 = .ok (.aload_n 0, 1) := by decide +kernel
theorem dX7_speeds_22 : decode cX7_speeds 22 = .ok (.getfield 7, 3) := by decide +kernel
theorem dX7_speeds_25 : decode cX7_speeds 25 = .ok (.bipush 7, 2) := by decide +kernel
theorem dX7_speeds_27 : decode cX7_speeds 27 = .ok (.sipush 150, 3) := by decide +kernel
theorem dX7_speeds_30 : decode cX7_speeds 30 = .ok (.iastore, 1) := by decide +kernel
theorem dX7_speeds_31 : decode cX7_speeds 31 = .ok (.aload_n 0, 1) := by decide +kernel
theorem dX7_speeds_32 : decode cX7_speeds 32 = .ok (.getfield 7, 3) := by decide +kernel
theorem dX7_speeds_35 : decode cX7_speeds 35 = .ok (.bipush 9, 2) := by decide +kernel
theorem dX7_speeds_37 : decode cX7_speeds 37 = .ok (.iconst 0, 1) := by decide +kernel
theorem dX7_speeds_38 : decode cX7_speeds 38 = .ok (.iastore, 1) := by decide +kernel
theorem dX7_speeds_39 : decode cX7_speeds 39 = .ok (.iconst 0, 1) := by decide +kernel
theorem dX7_speeds_40 : decode cX7_speeds 40 = .ok (.istore_n 2, 1) := by decide +kernel
theorem dX7_speeds_41 : decode cX7_speeds 41 = .ok (.iload_n 2, 1) := by decide +kernel
theorem dX7_speeds_42 : decode cX7_speeds 42 = .ok (.iconst 4, 1) := by decide +kernel
theorem dX7_speeds_43 : decode cX7_speeds 43 = .ok (.if_icmp .ge 53, 3) := by decide +kernel
theorem dX7_speeds_46 : decode cX7_speeds 46 = .ok (.aload_n 0, 1) := by decide +kernel
theorem dX7_speeds_47 : decode cX7_speeds 47 = .ok (.iload_n 2, 1) := by decide +kernel
theorem dX7_speeds_48 : decode cX7_speeds 48 = .ok (.iconst 0, 1) := by decide +kernel
theorem dX7_speeds_49 : decode cX7_speeds 49 = .ok (.iload_n 1, 1) := by decide +kernel
theorem dX7_speeds_50 : decode cX7_speeds 50 = .ok (.invokevirtual 59, 3) := by decide +kernel
theorem dX7_speeds_53 : decode cX7_speeds 53 = .ok (.aload_n 0, 1) := by decide +kernel
theorem dX7_speeds_54 : decode cX7_speeds 54 = .ok (.iload_n 2, 1) := by decide +kernel
theorem dX7_speeds_55 : decode cX7_speeds 55 = .ok (.iconst 1, 1) := by decide +kernel
theorem dX7_speeds_56 : decode cX7_speeds 56 = .ok (.iconst 0, 1) := by decide +kernel
theorem dX7_speeds_57 : decode cX7_speeds 57 = .ok (.invokevirtual 59, 3) := by decide +kernel
theorem dX7_speeds_60 : decode cX7_speeds 60 = .ok (.aload_n 0, 1) := by decide +kernel
theorem dX7_speeds_61 : decode cX7_speeds 61 = .ok (.iload_n 2, 1) := by decide +kernel
theorem dX7_speeds_62 : decode cX7_speeds 62 = .ok (.iconst 2, 1) := by decide +kernel
theorem dX7_speeds_63 : decode cX7_speeds 63 = .ok (.iconst 0, 1) := by decide +kernel
theorem dX7_speeds_64 : decode cX7_speeds 64 = .ok (.invokevirtual 59, 3) := by decide +kernel
theorem dX7_speeds_67 : decode cX7_speeds 67 = .ok (.aload_n 0, 1) := by decide +kernel
theorem dX7_speeds_68 : decode cX7_speeds 68 = .ok (.iload_n 2, 1) := by decide +kernel
theorem dX7_speeds_69 : decode cX7_speeds 69 = .ok (.iconst 3, 1) := by decide +kernel
theorem dX7_speeds_70 : decode cX7_speeds 70 = .ok (.iconst 0, 1) := by decide +kernel
theorem dX7_speeds_71 : decode cX7_speeds 71 = .ok (.invokevirtual 59, 3) := by decide +kernel
theorem dX7_speeds_74 : decode cX7_speeds 74 = .ok (.aload_n 0, 1) := by decide +kernel
theorem dX7_speeds_75 : decode cX7_speeds 75 = .ok (.iload_n 2, 1) := by decide +kernel
theorem dX7_speeds_76 : decode cX7_speeds 76 = .ok (.bipush 8, 2) := by decide +kernel
theorem dX7_speeds_78 : decode cX7_speeds 78 = .ok (.iconst 0, 1) := by decide +kernel
theorem dX7_speeds_79 : decode cX7_speeds 79 = .ok (.invokevirtual 59, 3) := by decide +kernel
theorem dX7_speeds_82 : decode cX7_speeds 82 = .ok (.aload_n 0, 1) := by decide +kernel
theorem dX7_speeds_83 : decode cX7_speeds 83 = .ok (.iload_n 2, 1) := by decide +kernel
theorem dX7_speeds_84 : decode cX7_speeds 84 = .ok (.bipush 10, 2) := by decide +kernel
theorem dX7_speeds_86 : decode cX7_speeds 86 = .ok (.iconst 0, 1) := by decide +kernel
theorem dX7_speeds_87 : decode cX7_speeds 87 = .ok (.invokevirtual 59, 3) := by decide +kernel
theorem dX7_speeds_90 : decode cX7_speeds 90 = .ok (.iinc 2 1, 3) := by decide +kernel
theorem dX7_speeds_93 : decode cX7_speeds 93 = .ok (.goto (-52), 3) := by decide +kernel
theorem dX7_speeds_96 : decode cX7_speeds 96 = .ok (.return_, 1) := by decide +kernel
theorem dX7_setSpeed_0 : decode cX7_setSpeed 0 = .ok (.aload_n 0, 1) := by decide +kernel
theorem dX7_setSpeed_1 : decode cX7_setSpeed 1 = .ok (.iload_n 1, 1) := by decide +kernel
theorem dX7_setSpeed_2 : decode cX7_setSpeed 2 = .ok (.iconst 0, 1) := by decide +kernel
theorem dX7_setSpeed_3 : decode cX7_setSpeed 3 = .ok (.ldc 142, 2) := by decide +kernel
theorem dX7_setSpeed_5 : decode cX7_setSpeed 5 = .ok (.invokestatic 37, 3) := by decide +kernel
theorem dX7_setSpeed_8 : decode cX7_setSpeed 8 = .ok (.ifCond .eq 7, 3) := by decide +kernel
theorem dX7_setSpeed_11 : decode cX7_setSpeed 11 = .ok (.iconst 0, 1) := by decide +kernel
theorem dX7_setSpeed_12 : decode cX7_setSpeed 12 = .ok (.goto 4, 3) := by decide +kernel
theorem dX7_setSpeed_15 : decode cX7_setSpeed 15 = .ok (.iconst 1, 1) := by decide +kernel
theorem dX7_setSpeed_16 : decode cX7_setSpeed 16 = .ok (.invokevirtual 29, 3) := by decide +kernel
theorem dX7_setSpeed_19 : decode cX7_setSpeed 19 = .ok (.ifCond .eq 5, 3) := by decide +kernel
theorem dX7_setSpeed_22 : decode cX7_setSpeed 22 = .ok (.iconst 0, 1) := by decide +kernel
theorem dX7_setSpeed_23 : decode cX7_setSpeed 23 = .ok (.ireturn, 1) := by decide +kernel
theorem dX7_setSpeed_24 : decode cX7_setSpeed 24 = .ok (.aload_n 0, 1) := by decide +kernel
theorem dX7_setSpeed_25 : decode cX7_setSpeed 25 = .ok (.invokevirtual 143, 3) := by decide +kernel
theorem dX7_setSpeed_28 : decode cX7_setSpeed 28 = .ok (.aload_n 0, 1) := by decide +kernel
theorem dX7_setSpeed_29 : decode cX7_setSpeed 29 = .ok (.getfield 7, 3) := by decide +kernel
theorem dX7_setSpeed_32 : decode cX7_setSpeed 32 = .ok (.iconst 0, 1) := by decide +kernel
theorem dX7_setSpeed_33 : decode cX7_setSpeed 33 = .ok (.iaload, 1) := by decide +kernel
theorem dX7_setSpeed_34 : decode cX7_setSpeed 34 = .ok (.istore_n 2, 1) := by decide +kernel
theorem dX7_setSpeed_35 : decode cX7_setSpeed 35 = .ok (.aload_n 0, 1) := by decide +kernel
theorem dX7_setSpeed_36 : decode cX7_setSpeed 36 = .ok (.iload_n 1, 1) := by decide +kernel
theorem dX7_setSpeed_37 : decode cX7_setSpeed 37 = .ok (.invokevirtual 146, 3) := by decide +kernel
theorem dX7_setSpeed_40 : decode cX7_setSpeed 40 = .ok (.iload_n 2, 1) := by decide +kernel
theorem dX7_setSpeed_41 : decode cX7_setSpeed 41 = .ok (.ireturn, 1) := by decide +kernel
theorem dX7_isSurface_0 : decode cX7_isSurface 0 = .ok (.iload_n 0, 1) := by decide +kernel
theorem dX7_isSurface_1 : decode cX7_isSurface 1 = .ok (.iconst 0, 1) := by decide +kernel
theorem dX7_isSurface_2 : decode cX7_isSurface 2 = .ok (.iconst 2, 1) := by decide +kernel
theorem dX7_isSurface_3 : decode cX7_isSurface 3 = .ok (.invokestatic 37, 3) := by decide +kernel
theorem dX7_isSurface_6 : decode cX7_isSurface 6 = .ok (.ireturn, 1) := by decide +kernel
theorem dX7_addSegment_0 : decode cX7_addSegment 0 = .ok (.iload_n 1, 1) := by decide +kernel
theorem dX7_addSegment_1 : decode cX7_addSegment 1 = .ok (.aload_n 0, 1) := by decide +kernel
theorem dX7_addSegment_2 : decode cX7_addSegment 2 = .ok (.getfield 7, 3) := by decide +kernel
theorem dX7_addSegment_5 : decode cX7_addSegment 5 = .ok (.iconst 1, 1) := by decide +kernel
theorem dX7_addSegment_6 : decode cX7_addSegment 6 = .ok (.iaload, 1) := by decide +kernel
theorem dX7_addSegment_7 : decode cX7_addSegment 7 = .ok (.ldc 149, 2) := by decide +kernel
theorem dX7_addSegment_9 : decode cX7_addSegment 9 = .ok (.invokestatic 37, 3) := by decide +kernel
theorem dX7_addSegment_12 : decode cX7_addSegment 12 = .ok (.ifCond .eq 21, 3) := by decide +kernel
theorem dX7_addSegment_15 : decode cX7_addSegment 15 = .ok (.iload_n 2, 1) := by decide +kernel
theorem dX7_addSegment_16 : decode cX7_addSegment 16 = .ok (.invokestatic 150, 3) := by decide +kernel
theorem dX7_addSegment_19 : decode cX7_addSegment 19 = .ok (.ifCond .eq 14, 3) := by decide +kernel
theorem dX7_addSegment_22 : decode cX7_addSegment 22 = .ok (.iload_n 3, 1) := by decide +kernel
theorem dX7_addSegment_23 : decode cX7_addSegment 23 = .ok (.invokestatic 150, 3) := by decide +kernel
theorem dX7_addSegment_26 : decode cX7_addSegment 26 = .ok (.ifCond .eq 7, 3) := by decide +kernel
theorem dX7_addSegment_29 : decode cX7_addSegment 29 = .ok (.iconst 1, 1) := by decide +kernel
theorem dX7_addSegment_30 : decode cX7_addSegment 30 = .ok (.goto 4, 3) := by decide +kernel
theorem dX7_addSegment_33 : decode cX7_addSegment 33 = .ok (.iconst 0, 1) := by decide +kernel
theorem dX7_addSegment_34 : decode cX7_addSegment 34 = .ok (.istore 4, 2) := by decide +kernel
theorem dX7_addSegment_36 : decode cX7_addSegment 36 = .ok (.iconst (-1), 1) := by decide +kernel
theorem dX7_addSegment_37 : decode cX7_addSegment 37 = .ok (.istore 5, 2) := by decide +kernel
theorem dX7_addSegment_39 : decode cX7_addSegment 39 = .ok (.iconst 0, 1) := by decide +kernel
theorem dX7_addSegment_40 : decode cX7_addSegment 40 = .ok (.istore 6, 2) := by decide +kernel
theorem dX7_addSegment_42 : decode cX7_addSegment 42 = .ok (.iconst 0, 1) := by decide +kernel
theorem dX7_addSegment_43 : decode cX7_addSegment 43 = .ok (.istore 7, 2) := by decide +kernel
theorem dX7_addSegment_45 : decode cX7_addSegment 45 = .ok (.iload 7, 2) := by decide +kernel
theorem dX7_addSegment_47 : decode cX7_addSegment 47 = .ok (.aload_n 0, 1) := by decide +kernel
theorem dX7_addSegment_48 : decode cX7_addSegment 48 = .ok (.getfield 7, 3) := by decide +kernel
theorem dX7_addSegment_51 : decode cX7_addSegment 51 = .ok (.bipush 74, 2) := by decide +kernel
theorem dX7_addSegment_53 : decode cX7_addSegment 53 = .ok (.iaload, 1) := by decide +kernel
theorem dX7_addSegment_54 : decode cX7_addSegment 54 = .ok (.if_icmp .ge 60, 3) := by decide +kernel
theorem dX7_addSegment_57 : decode cX7_addSegment 57 = .ok (.aload_n 0, 1) := by decide +kernel
theorem dX7_addSegment_58 : decode cX7_addSegment 58 = .ok (.getfield 7, 3) := by decide +kernel
theorem dX7_addSegment_61 : decode cX7_addSegment 61 = .ok (.bipush 75, 2) := by decide +kernel
theorem dX7_addSegment_63 : decode cX7_addSegment 63 = .ok (.iconst 3, 1) := by decide +kernel
theorem dX7_addSegment_64 : decode cX7_addSegment 64 = .ok (.iload 7, 2) := by decide +kernel
theorem dX7_addSegment_66 : decode cX7_addSegment 66 = .ok (.imul, 1) := by decide +kernel
theorem dX7_addSegment_67 : decode cX7_addSegment 67 = .ok (.iadd, 1) := by decide +kernel
theorem dX7_addSegment_68 : decode cX7_addSegment 68 = .ok (.iaload, 1) := by decide +kernel
theorem dX7_addSegment_69 : decode cX7_addSegment 69 = .ok (.iload_n 1, 1) := by decide +kernel
theorem dX7_addSegment_70 : decode cX7_addSegment 70 = .ok (.if_icmp .ne 8, 3) := by decide +kernel
theorem dX7_addSegment_73 : decode cX7_addSegment 73 = .ok (.iload 7, 2) := by decide +kernel
theorem dX7_addSegment_75 : decode cX7_addSegment 75 = .ok (.goto 5, 3) := by decide +kernel
theorem dX7_addSegment_78 : decode cX7_addSegment 78 = .ok (.iload 5, 2) := by decide +kernel
theorem dX7_addSegment_80 : decode cX7_addSegment 80 = .ok (.istore 5, 2) := by decide +kernel
theorem dX7_addSegment_82 : decode cX7_addSegment 82 = .ok (.iload 6, 2) := by decide +kernel
theorem dX7_addSegment_84 : decode cX7_addSegment 84 = .ok (.aload_n 0, 1) := by decide +kernel
theorem dX7_addSegment_85 : decode cX7_addSegment 85 = .ok (.getfield 7, 3) := by decide +kernel
theorem dX7_addSegment_88 : decode cX7_addSegment 88 = .ok (.bipush 75, 2) := by decide +kernel
theorem dX7_addSegment_90 : decode cX7_addSegment 90 = .ok (.iconst 3, 1) := by decide +kernel
theorem dX7_addSegment_91 : decode cX7_addSegment 91 = .ok (.iload 7, 2) := by decide +kernel
theorem dX7_addSegment_93 : decode cX7_addSegment 93 = .ok (.imul, 1) := by decide +kernel
theorem dX7_addSegment_94 : decode cX7_addSegment 94 = .ok (.iadd, 1) := by decide +kernel
theorem dX7_addSegment_95 : decode cX7_addSegment 95 = .ok (.iaload, 1) := by decide +kernel
theorem dX7_addSegment_96 : decode cX7_addSegment 96 = .ok (.iload_n 1, 1) := by decide +kernel
theorem dX7_addSegment_97 : decode cX7_addSegment 97 = .ok (.if_icmp .ge 7, 3) := by decide +kernel
theorem dX7_addSegment_100 : decode cX7_addSegment 100 = .ok (.iconst 1, 1) := by decide +kernel
theorem dX7_addSegment_101 : decode cX7_addSegment 101 = .ok (.goto 4, 3) := by decide +kernel
theorem dX7_addSegment_104 : decode cX7_addSegment 104 = .ok (.iconst 0, 1) := by decide +kernel
theorem dX7_addSegment_105 : decode cX7_addSegment 105 = .ok (.iadd, 1) := by decide +kernel
theorem dX7_addSegment_106 : decode cX7_addSegment 106 = .ok (.istore 6, 2) := by decide +kernel
theorem dX7_addSegment_108 : decode cX7_addSegment 108 = .ok (.iinc 7 1, 3) := by decide +kernel
theorem dX7_addSegment_111 : decode cX7_addSegment 111 = .ok (.goto (-66), 3) := by decide +kernel
theorem dX7_addSegment_114 : decode cX7_addSegment 114 = .ok (.aload_n 0, 1) := by decide +kernel
theorem dX7_addSegment_115 : decode cX7_addSegment 115 = .ok (.iload 4, 2) := by decide +kernel
theorem dX7_addSegment_117 : decode cX7_addSegment 117 = .ok (.ifCond .ne 7, 3) := by decide +kernel
theorem dX7_addSegment_120 : decode cX7_addSegment 120 = .ok (.iconst 1, 1) := by decide +kernel
theorem dX7_addSegment_121 : decode cX7_addSegment 121 = .ok (.goto 26, 3) := by decide +kernel
theorem dX7_addSegment_124 : decode cX7_addSegment 124 = .ok (.iload 5, 2) := by decide +kernel
theorem dX7_addSegment_126 : decode cX7_addSegment 126 = .ok (.iconst (-1), 1) := by decide +kernel
theorem dX7_addSegment_127 : decode cX7_addSegment 127 = .ok (.if_icmp .ne 19, 3) := by decide +kernel
theorem dX7_addSegment_130 : decode cX7_addSegment 130 = .ok (.aload_n 0, 1) := by decide +kernel
theorem dX7_addSegment_131 : decode cX7_addSegment 131 = .ok (.getfield 7, 3) := by decide +kernel
theorem dX7_addSegment_134 : decode cX7_addSegment 134 = .ok (.bipush 74, 2) := by decide +kernel
theorem dX7_addSegment_136 : decode cX7_addSegment 136 = .ok (.iaload, 1) := by decide +kernel
theorem dX7_addSegment_137 : decode cX7_addSegment 137 = .ok (.bipush 12, 2) := by decide +kernel
theorem dX7_addSegment_139 : decode cX7_addSegment 139 = .ok (.if_icmp .ne 7, 3) := by decide +kernel
theorem dX7_addSegment_142 : decode cX7_addSegment 142 = .ok (.iconst 2, 1) := by decide +kernel
theorem dX7_addSegment_143 : decode cX7_addSegment 143 = .ok (.goto 4, 3) := by decide +kernel
theorem dX7_addSegment_146 : decode cX7_addSegment 146 = .ok (.iconst 0, 1) := by decide +kernel
theorem dX7_addSegment_147 : decode cX7_addSegment 147 = .ok (.invokevirtual 29, 3) := by decide +kernel
theorem dX7_addSegment_150 : decode cX7_addSegment 150 = .ok (.ifCond .eq 5, 3) := by decide +kernel
theorem dX7_addSegment_153 : decode cX7_addSegment 153 = .ok (.iconst 0, 1) := by decide +kernel
theorem dX7_addSegment_154 : decode cX7_addSegment 154 = .ok (.ireturn, 1) := by decide +kernel
theorem dX7_addSegment_155 : decode cX7_addSegment 155 = .ok (.aload_n 0, 1) := by decide +kernel
theorem dX7_addSegment_156 : decode cX7_addSegment 156 = .ok (.invokevirtual 143, 3) := by decide +kernel
theorem dX7_addSegment_159 : decode cX7_addSegment 159 = .ok (.iload 5, 2) := by decide +kernel
theorem dX7_addSegment_161 : decode cX7_addSegment 161 = .ok (.iconst (-1), 1) := by decide +kernel
theorem dX7_addSegment_162 : decode cX7_addSegment 162 = .ok (.if_icmp .ne 64, 3) := by decide +kernel
theorem dX7_addSegment_165 : decode cX7_addSegment 165 = .ok (.iconst 3, 1) := by decide +kernel
theorem dX7_addSegment_166 : decode cX7_addSegment 166 = .ok (.aload_n 0, 1) := by decide +kernel
theorem dX7_addSegment_167 : decode cX7_addSegment 167 = .ok (.getfield 7, 3) := by decide +kernel
theorem dX7_addSegment_170 : decode cX7_addSegment 170 = .ok (.bipush 74, 2) := by decide +kernel
theorem dX7_addSegment_172 : decode cX7_addSegment 172 = .ok (.iaload, 1) := by decide +kernel
theorem dX7_addSegment_173 : decode cX7_addSegment 173 = .ok (.imul, 1) := by decide +kernel
theorem dX7_addSegment_174 : decode cX7_addSegment 174 = .ok (.iconst 1, 1) := by decide +kernel
theorem dX7_addSegment_175 : decode cX7_addSegment 175 = .ok (.isub, 1) := by decide +kernel
theorem dX7_addSegment_176 : decode cX7_addSegment 176 = .ok (.istore 7, 2) := by decide +kernel
theorem dX7_addSegment_178 : decode cX7_addSegment 178 = .ok (.iload 7, 2) := by decide +kernel
theorem dX7_addSegment_180 : decode cX7_addSegment 180 = .ok (.iconst 3, 1) := by decide +kernel
theorem dX7_addSegment_181 : decode cX7_addSegment 181 = .ok (.iload 6, 2) := by decide +kernel
theorem dX7_addSegment_183 : decode cX7_addSegment 183 = .ok (.imul, 1) := by decide +kernel
theorem dX7_addSegment_184 : decode cX7_addSegment 184 = .ok (.if_icmp .lt 31, 3) := by decide +kernel
theorem dX7_addSegment_187 : decode cX7_addSegment 187 = .ok (.aload_n 0, 1) := by decide +kernel
theorem dX7_addSegment_188 : decode cX7_addSegment 188 = .ok (.getfield 7, 3) := by decide +kernel
theorem dX7_addSegment_191 : decode cX7_addSegment 191 = .ok (.bipush 75, 2) := by decide +kernel
theorem dX7_addSegment_193 : decode cX7_addSegment 193 = .ok (.iload 7, 2) := by decide +kernel
theorem dX7_addSegment_195 : decode cX7_addSegment 195 = .ok (.iadd, 1) := by decide +kernel
theorem dX7_addSegment_196 : decode cX7_addSegment 196 = .ok (.iconst 3, 1) := by decide +kernel
theorem dX7_addSegment_197 : decode cX7_addSegment 197 = .ok (.iadd, 1) := by decide +kernel
theorem dX7_addSegment_198 : decode cX7_addSegment 198 = .ok (.aload_n 0, 1) := by decide +kernel
theorem dX7_addSegment_199 : decode cX7_addSegment 199 = .ok (.getfield 7, 3) := by decide +kernel
theorem dX7_addSegment_202 : decode cX7_addSegment 202 = .ok (.bipush 75, 2) := by decide +kernel
theorem dX7_addSegment_204 : decode cX7_addSegment 204 = .ok (.iload 7, 2) := by decide +kernel
theorem dX7_addSegment_206 : decode cX7_addSegment 206 = .ok (.iadd, 1) := by decide +kernel
theorem dX7_addSegment_207 : decode cX7_addSegment 207 = .ok (.iaload, 1) := by decide +kernel
theorem dX7_addSegment_208 : decode cX7_addSegment 208 = .ok (.iastore, 1) := by decide +kernel
theorem dX7_addSegment_209 : decode cX7_addSegment 209 = .ok (.iinc 7 (-1), 3) := by decide +kernel
theorem dX7_addSegment_212 : decode cX7_addSegment 212 = .ok (.goto (-34), 3) := by decide +kernel
theorem dX7_addSegment_215 : decode cX7_addSegment 215 = .ok (.aload_n 0, 1) := by decide +kernel
theorem dX7_addSegment_216 : decode cX7_addSegment 216 = .ok (.getfield 7, 3) := by decide +kernel
theorem dX7_addSegment_219 : decode cX7_addSegment 219 = .ok (.bipush 74, 2) := by decide +kernel
theorem dX7_addSegment_221 : decode cX7_addSegment 221 = .ok (.dup2, 1) := by decide +kernel
theorem dX7_addSegment_222 : decode cX7_addSegment 222 = .ok (.iaload, 1) := by decide +kernel
theorem dX7_addSegment_223 : decode cX7_addSegment 223 = .ok (.iconst 1, 1) := by decide +kernel
theorem dX7_addSegment_224 : decode cX7_addSegment 224 = .ok (.iadd, 1) := by decide +kernel
theorem dX7_addSegment_225 : decode cX7_addSegment 225 = .ok (.iastore, 1) := by decide +kernel
theorem dX7_addSegment_226 : decode cX7_addSegment 226 = .ok (.aload_n 0, 1) := by decide +kernel
theorem dX7_addSegment_227 : decode cX7_addSegment 227 = .ok (.getfield 7, 3) := by decide +kernel
theorem dX7_addSegment_230 : decode cX7_addSegment 230 = .ok (.bipush 75, 2) := by decide +kernel
theorem dX7_addSegment_232 : decode cX7_addSegment 232 = .ok (.iconst 3, 1) := by decide +kernel
theorem dX7_addSegment_233 : decode cX7_addSegment 233 = .ok (.iload 6, 2) := by decide +kernel
theorem dX7_addSegment_235 : decode cX7_addSegment 235 = .ok (.imul, 1) := by decide +kernel
theorem dX7_addSegment_236 : decode cX7_addSegment 236 = .ok (.iadd, 1) := by decide +kernel
theorem dX7_addSegment_237 : decode cX7_addSegment 237 = .ok (.iload_n 1, 1) := by decide +kernel
theorem dX7_addSegment_238 : decode cX7_addSegment 238 = .ok (.iastore, 1) := by decide +kernel
theorem dX7_addSegment_239 : decode cX7_addSegment 239 = .ok (.aload_n 0, 1) := by decide +kernel
theorem dX7_addSegment_240 : decode cX7_addSegment 240 = .ok (.getfield 7, 3) := by decide +kernel
theorem dX7_addSegment_243 : decode cX7_addSegment 243 = .ok (.bipush 75, 2) := by decide +kernel
theorem dX7_addSegment_245 : decode cX7_addSegment 245 = .ok (.iconst 3, 1) := by decide +kernel
theorem dX7_addSegment_246 : decode cX7_addSegment 246 = .ok (.iload 6, 2) := by decide +kernel
theorem dX7_addSegment_248 : decode cX7_addSegment 248 = .ok (.imul, 1) := by decide +kernel
theorem dX7_addSegment_249 : decode cX7_addSegment 249 = .ok (.iadd, 1) := by decide +kernel
theorem dX7_addSegment_250 : decode cX7_addSegment 250 = .ok (.iconst 1, 1) := by decide +kernel
theorem dX7_addSegment_251 : decode cX7_addSegment 251 = .ok (.iadd, 1) := by decide +kernel
theorem dX7_addSegment_252 : decode cX7_addSegment 252 = .ok (.iload_n 2, 1) := by decide +kernel
theorem dX7_addSegment_253 : decode cX7_addSegment 253 = .ok (.iastore, 1) := by decide +kernel
theorem dX7_addSegment_254 : decode cX7_addSegment 254 = .ok (.aload_n 0, 1) := by decide +kernel
theorem dX7_addSegment_255 : decode cX7_addSegment 255 = .ok (.getfield 7, 3) := by decide +kernel
theorem dX7_addSegment_258 : decode cX7_addSegment 258 = .ok (.bipush 75, 2) := by decide +kernel
theorem dX7_addSegment_260 : decode cX7_addSegment 260 = .ok (.iconst 3, 1) := by decide +kernel
theorem dX7_addSegment_261 : decode cX7_addSegment 261 = .ok (.iload 6, 2) := by decide +kernel
theorem dX7_addSegment_263 : decode cX7_addSegment 263 = .ok (.imul, 1) := by decide +kernel
theorem dX7_addSegment_264 : decode cX7_addSegment 264 = .ok (.iadd, 1) := by decide +kernel
theorem dX7_addSegment_265 : decode cX7_addSegment 265 = .ok (.iconst 2, 1) := by decide +kernel
theorem dX7_addSegment_266 : decode cX7_addSegment 266 = .ok (.iadd, 1) := by decide +kernel
theorem dX7_addSegment_267 : decode cX7_addSegment 267 = .ok (.iload_n 3, 1) := by decide +kernel
theorem dX7_addSegment_268 : decode cX7_addSegment 268 = .ok (.iastore, 1) := by decide +kernel
theorem dX7_addSegment_269 : decode cX7_addSegment 269 = .ok (.aload_n 0, 1) := by decide +kernel
theorem dX7_addSegment_270 : decode cX7_addSegment 270 = .ok (.getfield 7, 3) := by decide +kernel
theorem dX7_addSegment_273 : decode cX7_addSegment 273 = .ok (.bipush 74, 2) := by decide +kernel
theorem dX7_addSegment_275 : decode cX7_addSegment 275 = .ok (.iaload, 1) := by decide +kernel
theorem dX7_addSegment_276 : decode cX7_addSegment 276 = .ok (.ireturn, 1) := by decide +kernel
theorem dX7_setDemand_0 : decode cX7_setDemand 0 = .ok (.aload_n 0, 1) := by decide +kernel
theorem dX7_setDemand_1 : decode cX7_setDemand 1 = .ok (.iload_n 1, 1) := by decide +kernel
theorem dX7_setDemand_2 : decode cX7_setDemand 2 = .ok (.iconst 0, 1) := by decide +kernel
theorem dX7_setDemand_3 : decode cX7_setDemand 3 = .ok (.sipush 2000, 3) := by decide +kernel
theorem dX7_setDemand_6 : decode cX7_setDemand 6 = .ok (.invokestatic 37, 3) := by decide +kernel
theorem dX7_setDemand_9 : decode cX7_setDemand 9 = .ok (.ifCond .eq 7, 3) := by decide +kernel
theorem dX7_setDemand_12 : decode cX7_setDemand 12 = .ok (.iconst 0, 1) := by decide +kernel
theorem dX7_setDemand_13 : decode cX7_setDemand 13 = .ok (.goto 4, 3) := by decide +kernel
theorem dX7_setDemand_16 : decode cX7_setDemand 16 = .ok (.iconst 1, 1) := by decide +kernel
theorem dX7_setDemand_17 : decode cX7_setDemand 17 = .ok (.invokevirtual 29, 3) := by decide +kernel
theorem dX7_setDemand_20 : decode cX7_setDemand 20 = .ok (.ifCond .eq 5, 3) := by decide +kernel
theorem dX7_setDemand_23 : decode cX7_setDemand 23 = .ok (.iconst 0, 1) := by decide +kernel
theorem dX7_setDemand_24 : decode cX7_setDemand 24 = .ok (.ireturn, 1) := by decide +kernel
theorem dX7_setDemand_25 : decode cX7_setDemand 25 = .ok (.aload_n 0, 1) := by decide +kernel
theorem dX7_setDemand_26 : decode cX7_setDemand 26 = .ok (.invokevirtual 143, 3) := by decide +kernel
theorem dX7_setDemand_29 : decode cX7_setDemand 29 = .ok (.aload_n 0, 1) := by decide +kernel
theorem dX7_setDemand_30 : decode cX7_setDemand 30 = .ok (.getfield 7, 3) := by decide +kernel
theorem dX7_setDemand_33 : decode cX7_setDemand 33 = .ok (.iconst 3, 1) := by decide +kernel
theorem dX7_setDemand_34 : decode cX7_setDemand 34 = .ok (.iaload, 1) := by decide +kernel
theorem dX7_setDemand_35 : decode cX7_setDemand 35 = .ok (.istore_n 2, 1) := by decide +kernel
theorem dX7_setDemand_36 : decode cX7_setDemand 36 = .ok (.aload_n 0, 1) := by decide +kernel
theorem dX7_setDemand_37 : decode cX7_setDemand 37 = .ok (.getfield 7, 3) := by decide +kernel
theorem dX7_setDemand_40 : decode cX7_setDemand 40 = .ok (.iconst 3, 1) := by decide +kernel
theorem dX7_setDemand_41 : decode cX7_setDemand 41 = .ok (.iload_n 1, 1) := by decide +kernel
theorem dX7_setDemand_42 : decode cX7_setDemand 42 = .ok (.iastore, 1) := by decide +kernel
theorem dX7_setDemand_43 : decode cX7_setDemand 43 = .ok (.iload_n 2, 1) := by decide +kernel
theorem dX7_setDemand_44 : decode cX7_setDemand 44 = .ok (.ireturn, 1) := by decide +kernel
theorem dX7_plan_0 : decode cX7_plan 0 = .ok (.iload_n 1, 1) := by decide +kernel
theorem dX7_plan_1 : decode cX7_plan 1 = .ok (.iconst 1, 1) := by decide +kernel
theorem dX7_plan_2 : decode cX7_plan 2 = .ok (.sipush 5000, 3) := by decide +kernel
theorem dX7_plan_5 : decode cX7_plan 5 = .ok (.invokestatic 37, 3) := by decide +kernel
theorem dX7_plan_8 : decode cX7_plan 8 = .ok (.ifCond .eq 18, 3) := by decide +kernel
theorem dX7_plan_11 : decode cX7_plan 11 = .ok (.iload_n 2, 1) := by decide +kernel
theorem dX7_plan_12 : decode cX7_plan 12 = .ok (.iconst 0, 1) := by decide +kernel
theorem dX7_plan_13 : decode cX7_plan 13 = .ok (.sipush 2000, 3) := by decide +kernel
theorem dX7_plan_16 : decode cX7_plan 16 = .ok (.invokestatic 37, 3) := by decide +kernel
theorem dX7_plan_19 : decode cX7_plan 19 = .ok (.ifCond .eq 7, 3) := by decide +kernel
theorem dX7_plan_22 : decode cX7_plan 22 = .ok (.iconst 1, 1) := by decide +kernel
theorem dX7_plan_23 : decode cX7_plan 23 = .ok (.goto 4, 3) := by decide +kernel
theorem dX7_plan_26 : decode cX7_plan 26 = .ok (.iconst 0, 1) := by decide +kernel
theorem dX7_plan_27 : decode cX7_plan 27 = .ok (.istore_n 3, 1) := by decide +kernel
theorem dX7_plan_28 : decode cX7_plan 28 = .ok (.aload_n 0, 1) := by decide +kernel
theorem dX7_plan_29 : decode cX7_plan 29 = .ok (.iload_n 3, 1) := by decide +kernel
theorem dX7_plan_30 : decode cX7_plan 30 = .ok (.ifCond .ne 7, 3) := by decide +kernel
theorem dX7_plan_33 : decode cX7_plan 33 = .ok (.iconst 1, 1) := by decide +kernel
theorem dX7_plan_34 : decode cX7_plan 34 = .ok (.goto 20, 3) := by decide +kernel
theorem dX7_plan_37 : decode cX7_plan 37 = .ok (.aload_n 0, 1) := by decide +kernel
theorem dX7_plan_38 : decode cX7_plan 38 = .ok (.getfield 7, 3) := by decide +kernel
theorem dX7_plan_41 : decode cX7_plan 41 = .ok (.bipush 111, 2) := by decide +kernel
theorem dX7_plan_43 : decode cX7_plan 43 = .ok (.iaload, 1) := by decide +kernel
theorem dX7_plan_44 : decode cX7_plan 44 = .ok (.bipush 10, 2) := by decide +kernel
theorem dX7_plan_46 : decode cX7_plan 46 = .ok (.if_icmp .ne 7, 3) := by decide +kernel
theorem dX7_plan_49 : decode cX7_plan 49 = .ok (.iconst 2, 1) := by decide +kernel
theorem dX7_plan_50 : decode cX7_plan 50 = .ok (.goto 4, 3) := by decide +kernel
theorem dX7_plan_53 : decode cX7_plan 53 = .ok (.iconst 0, 1) := by decide +kernel
theorem dX7_plan_54 : decode cX7_plan 54 = .ok (.invokevirtual 29, 3) := by decide +kernel
theorem dX7_plan_57 : decode cX7_plan 57 = .ok (.ifCond .eq 5, 3) := by decide +kernel
theorem dX7_plan_60 : decode cX7_plan 60 = .ok (.iconst 0, 1) := by decide +kernel
theorem dX7_plan_61 : decode cX7_plan 61 = .ok (.ireturn, 1) := by decide +kernel
theorem dX7_plan_62 : decode cX7_plan 62 = .ok (.aload_n 0, 1) := by decide +kernel
theorem dX7_plan_63 : decode cX7_plan 63 = .ok (.invokevirtual 143, 3) := by decide +kernel
theorem dX7_plan_66 : decode cX7_plan 66 = .ok (.aload_n 0, 1) := by decide +kernel
theorem dX7_plan_67 : decode cX7_plan 67 = .ok (.getfield 7, 3) := by decide +kernel
theorem dX7_plan_70 : decode cX7_plan 70 = .ok (.iconst 2, 1) := by decide +kernel
theorem dX7_plan_71 : decode cX7_plan 71 = .ok (.iaload, 1) := by decide +kernel
theorem dX7_plan_72 : decode cX7_plan 72 = .ok (.iload_n 1, 1) := by decide +kernel
theorem dX7_plan_73 : decode cX7_plan 73 = .ok (.iadd, 1) := by decide +kernel
theorem dX7_plan_74 : decode cX7_plan 74 = .ok (.istore 4, 2) := by decide +kernel
theorem dX7_plan_76 : decode cX7_plan 76 = .ok (.aload_n 0, 1) := by decide +kernel
theorem dX7_plan_77 : decode cX7_plan 77 = .ok (.getfield 7, 3) := by decide +kernel
theorem dX7_plan_80 : decode cX7_plan 80 = .ok (.bipush 111, 2) := by decide +kernel
theorem dX7_plan_82 : decode cX7_plan 82 = .ok (.iaload, 1) := by decide +kernel
theorem dX7_plan_83 : decode cX7_plan 83 = .ok (.istore 5, 2) := by decide +kernel
theorem dX7_plan_85 : decode cX7_plan 85 = .ok (.iload 5, 2) := by decide +kernel
theorem dX7_plan_87 : decode cX7_plan 87 = .ok (.ifCond .le 82, 3) := by decide +kernel
theorem dX7_plan_90 : decode cX7_plan 90 = .ok (.aload_n 0, 1) := by decide +kernel
theorem dX7_plan_91 : decode cX7_plan 91 = .ok (.getfield 7, 3) := by decide +kernel
theorem dX7_plan_94 : decode cX7_plan 94 = .ok (.bipush 112, 2) := by decide +kernel
theorem dX7_plan_96 : decode cX7_plan 96 = .ok (.iconst 2, 1) := by decide +kernel
theorem dX7_plan_97 : decode cX7_plan 97 = .ok (.iload 5, 2) := by decide +kernel
theorem dX7_plan_99 : decode cX7_plan 99 = .ok (.imul, 1) := by decide +kernel
theorem dX7_plan_100 : decode cX7_plan 100 = .ok (.iadd, 1) := by decide +kernel
theorem dX7_plan_101 : decode cX7_plan 101 = .ok (.iconst 2, 1) := by decide +kernel
theorem dX7_plan_102 : decode cX7_plan 102 = .ok (.isub, 1) := by decide +kernel
theorem dX7_plan_103 : decode cX7_plan 103 = .ok (.iaload, 1) := by decide +kernel
theorem dX7_plan_104 : decode cX7_plan 104 = .ok (.iload 4, 2) := by decide +kernel
theorem dX7_plan_106 : decode cX7_plan 106 = .ok (.if_icmp .le 63, 3) := by decide +kernel
theorem dX7_plan_109 : decode cX7_plan 109 = .ok (.aload_n 0, 1) := by decide +kernel
theorem dX7_plan_110 : decode cX7_plan 110 = .ok (.getfield 7, 3) := by decide +kernel
theorem dX7_plan_113 : decode cX7_plan 113 = .ok (.bipush 112, 2) := by decide +kernel
theorem dX7_plan_115 : decode cX7_plan 115 = .ok (.iconst 2, 1) := by decide +kernel
theorem dX7_plan_116 : decode cX7_plan 116 = .ok (.iload 5, 2) := by decide +kernel
theorem dX7_plan_118 : decode cX7_plan 118 = .ok (.imul, 1) := by decide +kernel
theorem dX7_plan_119 : decode cX7_plan 119 = .ok (.iadd, 1) := by decide +kernel
theorem dX7_plan_120 : decode cX7_plan 120 = .ok (.aload_n 0, 1) := by decide +kernel
theorem dX7_plan_121 : decode cX7_plan 121 = .ok (.getfield 7, 3) := by decide +kernel
theorem dX7_plan_124 : decode cX7_plan 124 = .ok (.bipush 112, 2) := by decide +kernel
theorem dX7_plan_126 : decode cX7_plan 126 = .ok (.iconst 2, 1) := by decide +kernel
theorem dX7_plan_127 : decode cX7_plan 127 = .ok (.iload 5, 2) := by decide +kernel
theorem dX7_plan_129 : decode cX7_plan 129 = .ok (.imul, 1) := by decide +kernel
theorem dX7_plan_130 : decode cX7_plan 130 = .ok (.iadd, 1) := by decide +kernel
theorem dX7_plan_131 : decode cX7_plan 131 = .ok (.iconst 2, 1) := by decide +kernel
theorem dX7_plan_132 : decode cX7_plan 132 = .ok (.isub, 1) := by decide +kernel
theorem dX7_plan_133 : decode cX7_plan 133 = .ok (.iaload, 1) := by decide +kernel
theorem dX7_plan_134 : decode cX7_plan 134 = .ok (.iastore, 1) := by decide +kernel
theorem dX7_plan_135 : decode cX7_plan 135 = .ok (.aload_n 0, 1) := by decide +kernel
theorem dX7_plan_136 : decode cX7_plan 136 = .ok (.getfield 7, 3) := by decide +kernel
theorem dX7_plan_139 : decode cX7_plan 139 = .ok (.bipush 112, 2) := by decide +kernel
theorem dX7_plan_141 : decode cX7_plan 141 = .ok (.iconst 2, 1) := by decide +kernel
theorem dX7_plan_142 : decode cX7_plan 142 = .ok (.iload 5, 2) := by decide +kernel
theorem dX7_plan_144 : decode cX7_plan 144 = .ok (.imul, 1) := by decide +kernel
theorem dX7_plan_145 : decode cX7_plan 145 = .ok (.iadd, 1) := by decide +kernel
theorem dX7_plan_146 : decode cX7_plan 146 = .ok (.iconst 1, 1) := by decide +kernel
theorem dX7_plan_147 : decode cX7_plan 147 = .ok (.iadd, 1) := by decide +kernel
theorem dX7_plan_148 : decode cX7_plan 148 = .ok (.aload_n 0, 1) := by decide +kernel
theorem dX7_plan_149 : decode cX7_plan 149 = .ok (.getfield 7, 3) := by decide +kernel
theorem dX7_plan_152 : decode cX7_plan 152 = .ok (.bipush 112, 2) := by decide +kernel
theorem dX7_plan_154 : decode cX7_plan 154 = .ok (.iconst 2, 1) := by decide +kernel
theorem dX7_plan_155 : decode cX7_plan 155 = .ok (.iload 5, 2) := by decide +kernel
theorem dX7_plan_157 : decode cX7_plan 157 = .ok (.imul, 1) := by decide +kernel
theorem dX7_plan_158 : decode cX7_plan 158 = .ok (.iadd, 1) := by decide +kernel
theorem dX7_plan_159 : decode cX7_plan 159 = .ok (.iconst 1, 1) := by decide +kernel
theorem dX7_plan_160 : decode cX7_plan 160 = .ok (.isub, 1) := by decide +kernel
theorem dX7_plan_161 : decode cX7_plan 161 = .ok (.iaload, 1) := by decide +kernel
theorem dX7_plan_162 : decode cX7_plan 162 = .ok (.iastore, 1) := by decide +kernel
theorem dX7_plan_163 : decode cX7_plan 163 = .ok (.iinc 5 (-1), 3) := by decide +kernel
theorem dX7_plan_166 : decode cX7_plan 166 = .ok (.goto (-81), 3) := by decide +kernel
theorem dX7_plan_169 : decode cX7_plan 169 = .ok (.aload_n 0, 1) := by decide +kernel
theorem dX7_plan_170 : decode cX7_plan 170 = .ok (.getfield 7, 3) := by decide +kernel
theorem dX7_plan_173 : decode cX7_plan 173 = .ok (.bipush 112, 2) := by decide +kernel
theorem dX7_plan_175 : decode cX7_plan 175 = .ok (.iconst 2, 1) := by decide +kernel
theorem dX7_plan_176 : decode cX7_plan 176 = .ok (.iload 5, 2) := by decide +kernel
theorem dX7_plan_178 : decode cX7_plan 178 = .ok (.imul, 1) := by decide +kernel
theorem dX7_plan_179 : decode cX7_plan 179 = .ok (.iadd, 1) := by decide +kernel
theorem dX7_plan_180 : decode cX7_plan 180 = .ok (.iload 4, 2) := by decide +kernel
theorem dX7_plan_182 : decode cX7_plan 182 = .ok (.iastore, 1) := by decide +kernel
theorem dX7_plan_183 : decode cX7_plan 183 = .ok (.aload_n 0, 1) := by decide +kernel
theorem dX7_plan_184 : decode cX7_plan 184 = .ok (.getfield 7, 3) := by decide +kernel
theorem dX7_plan_187 : decode cX7_plan 187 = .ok (.bipush 112, 2) := by decide +kernel
theorem dX7_plan_189 : decode cX7_plan 189 = .ok (.iconst 2, 1) := by decide +kernel
theorem dX7_plan_190 : decode cX7_plan 190 = .ok (.iload 5, 2) := by decide +kernel
theorem dX7_plan_192 : decode cX7_plan 192 = .ok (.imul, 1) := by decide +kernel
theorem dX7_plan_193 : decode cX7_plan 193 = .ok (.iadd, 1) := by decide +kernel
theorem dX7_plan_194 : decode cX7_plan 194 = .ok (.iconst 1, 1) := by decide +kernel
theorem dX7_plan_195 : decode cX7_plan 195 = .ok (.iadd, 1) := by decide +kernel
theorem dX7_plan_196 : decode cX7_plan 196 = .ok (.iload_n 2, 1) := by decide +kernel
theorem dX7_plan_197 : decode cX7_plan 197 = .ok (.iastore, 1) := by decide +kernel
theorem dX7_plan_198 : decode cX7_plan 198 = .ok (.aload_n 0, 1) := by decide +kernel
theorem dX7_plan_199 : decode cX7_plan 199 = .ok (.getfield 7, 3) := by decide +kernel
theorem dX7_plan_202 : decode cX7_plan 202 = .ok (.bipush 111, 2) := by decide +kernel
theorem dX7_plan_204 : decode cX7_plan 204 = .ok (.dup2, 1) := by decide +kernel
theorem dX7_plan_205 : decode cX7_plan 205 = .ok (.iaload, 1) := by decide +kernel
theorem dX7_plan_206 : decode cX7_plan 206 = .ok (.iconst 1, 1) := by decide +kernel
theorem dX7_plan_207 : decode cX7_plan 207 = .ok (.iadd, 1) := by decide +kernel
theorem dX7_plan_208 : decode cX7_plan 208 = .ok (.iastore, 1) := by decide +kernel
theorem dX7_plan_209 : decode cX7_plan 209 = .ok (.aload_n 0, 1) := by decide +kernel
theorem dX7_plan_210 : decode cX7_plan 210 = .ok (.getfield 7, 3) := by decide +kernel
theorem dX7_plan_213 : decode cX7_plan 213 = .ok (.bipush 111, 2) := by decide +kernel
theorem dX7_plan_215 : decode cX7_plan 215 = .ok (.iaload, 1) := by decide +kernel
theorem dX7_plan_216 : decode cX7_plan 216 = .ok (.ireturn, 1) := by decide +kernel
theorem dX7_setFault_0 : decode cX7_setFault 0 = .ok (.aload_n 0, 1) := by decide +kernel
theorem dX7_setFault_1 : decode cX7_setFault 1 = .ok (.iload_n 1, 1) := by decide +kernel
theorem dX7_setFault_2 : decode cX7_setFault 2 = .ok (.invokestatic 153, 3) := by decide +kernel
theorem dX7_setFault_5 : decode cX7_setFault 5 = .ok (.ifCond .eq 7, 3) := by decide +kernel
theorem dX7_setFault_8 : decode cX7_setFault 8 = .ok (.iconst 0, 1) := by decide +kernel
theorem dX7_setFault_9 : decode cX7_setFault 9 = .ok (.goto 4, 3) := by decide +kernel
theorem dX7_setFault_12 : decode cX7_setFault 12 = .ok (.iconst 1, 1) := by decide +kernel
theorem dX7_setFault_13 : decode cX7_setFault 13 = .ok (.invokevirtual 29, 3) := by decide +kernel
theorem dX7_setFault_16 : decode cX7_setFault 16 = .ok (.ifCond .eq 5, 3) := by decide +kernel
theorem dX7_setFault_19 : decode cX7_setFault 19 = .ok (.iconst 0, 1) := by decide +kernel
theorem dX7_setFault_20 : decode cX7_setFault 20 = .ok (.ireturn, 1) := by decide +kernel
theorem dX7_setFault_21 : decode cX7_setFault 21 = .ok (.aload_n 0, 1) := by decide +kernel
theorem dX7_setFault_22 : decode cX7_setFault 22 = .ok (.invokevirtual 143, 3) := by decide +kernel
theorem dX7_setFault_25 : decode cX7_setFault 25 = .ok (.aload_n 0, 1) := by decide +kernel
theorem dX7_setFault_26 : decode cX7_setFault 26 = .ok (.iload_n 1, 1) := by decide +kernel
theorem dX7_setFault_27 : decode cX7_setFault 27 = .ok (.bipush 9, 2) := by decide +kernel
theorem dX7_setFault_29 : decode cX7_setFault 29 = .ok (.invokevirtual 45, 3) := by decide +kernel
theorem dX7_setFault_32 : decode cX7_setFault 32 = .ok (.iconst 1, 1) := by decide +kernel
theorem dX7_setFault_33 : decode cX7_setFault 33 = .ok (.if_icmp .ne 7, 3) := by decide +kernel
theorem dX7_setFault_36 : decode cX7_setFault 36 = .ok (.iconst 1, 1) := by decide +kernel
theorem dX7_setFault_37 : decode cX7_setFault 37 = .ok (.goto 4, 3) := by decide +kernel
theorem dX7_setFault_40 : decode cX7_setFault 40 = .ok (.iconst 0, 1) := by decide +kernel
theorem dX7_setFault_41 : decode cX7_setFault 41 = .ok (.istore_n 3, 1) := by decide +kernel
theorem dX7_setFault_42 : decode cX7_setFault 42 = .ok (.aload_n 0, 1) := by decide +kernel
theorem dX7_setFault_43 : decode cX7_setFault 43 = .ok (.iload_n 1, 1) := by decide +kernel
theorem dX7_setFault_44 : decode cX7_setFault 44 = .ok (.bipush 9, 2) := by decide +kernel
theorem dX7_setFault_46 : decode cX7_setFault 46 = .ok (.iload_n 2, 1) := by decide +kernel
theorem dX7_setFault_47 : decode cX7_setFault 47 = .ok (.ifCond .eq 7, 3) := by decide +kernel
theorem dX7_setFault_50 : decode cX7_setFault 50 = .ok (.iconst 1, 1) := by decide +kernel
theorem dX7_setFault_51 : decode cX7_setFault 51 = .ok (.goto 4, 3) := by decide +kernel
theorem dX7_setFault_54 : decode cX7_setFault 54 = .ok (.iconst 0, 1) := by decide +kernel
theorem dX7_setFault_55 : decode cX7_setFault 55 = .ok (.invokevirtual 59, 3) := by decide +kernel
theorem dX7_setFault_58 : decode cX7_setFault 58 = .ok (.iload_n 3, 1) := by decide +kernel
theorem dX7_setFault_59 : decode cX7_setFault 59 = .ok (.ireturn, 1) := by decide +kernel
theorem dX7_setOn_0 : decode cX7_setOn 0 = .ok (.aload_n 0, 1) := by decide +kernel
theorem dX7_setOn_1 : decode cX7_setOn 1 = .ok (.iconst 0, 1) := by decide +kernel
theorem dX7_setOn_2 : decode cX7_setOn 2 = .ok (.putfield 22, 3) := by decide +kernel
theorem dX7_setOn_5 : decode cX7_setOn 5 = .ok (.aload_n 0, 1) := by decide +kernel
theorem dX7_setOn_6 : decode cX7_setOn 6 = .ok (.invokevirtual 143, 3) := by decide +kernel
theorem dX7_setOn_9 : decode cX7_setOn 9 = .ok (.aload_n 0, 1) := by decide +kernel
theorem dX7_setOn_10 : decode cX7_setOn 10 = .ok (.getfield 7, 3) := by decide +kernel
theorem dX7_setOn_13 : decode cX7_setOn 13 = .ok (.bipush 8, 2) := by decide +kernel
theorem dX7_setOn_15 : decode cX7_setOn 15 = .ok (.iaload, 1) := by decide +kernel
theorem dX7_setOn_16 : decode cX7_setOn 16 = .ok (.iconst 1, 1) := by decide +kernel
theorem dX7_setOn_17 : decode cX7_setOn 17 = .ok (.if_icmp .ne 7, 3) := by decide +kernel
theorem dX7_setOn_20 : decode cX7_setOn 20 = .ok (.iconst 1, 1) := by decide +kernel
theorem dX7_setOn_21 : decode cX7_setOn 21 = .ok (.goto 4, 3) := by decide +kernel
theorem dX7_setOn_24 : decode cX7_setOn 24 = .ok (.iconst 0, 1) := by decide +kernel
theorem dX7_setOn_25 : decode cX7_setOn 25 = .ok (.istore_n 2, 1) := by decide +kernel
theorem dX7_setOn_26 : decode cX7_setOn 26 = .ok (.aload_n 0, 1) := by decide +kernel
theorem dX7_setOn_27 : decode cX7_setOn 27 = .ok (.getfield 7, 3) := by decide +kernel
theorem dX7_setOn_30 : decode cX7_setOn 30 = .ok (.bipush 8, 2) := by decide +kernel
theorem dX7_setOn_32 : decode cX7_setOn 32 = .ok (.iload_n 1, 1) := by decide +kernel
theorem dX7_setOn_33 : decode cX7_setOn 33 = .ok (.ifCond .eq 7, 3) := by decide +kernel
theorem dX7_setOn_36 : decode cX7_setOn 36 = .ok (.iconst 1, 1) := by decide +kernel
theorem dX7_setOn_37 : decode cX7_setOn 37 = .ok (.goto 4, 3) := by decide +kernel
theorem dX7_setOn_40 : decode cX7_setOn 40 = .ok (.iconst 0, 1) := by decide +kernel
theorem dX7_setOn_41 : decode cX7_setOn 41 = .ok (.iastore, 1) := by decide +kernel
theorem dX7_setOn_42 : decode cX7_setOn 42 = .ok (.iload_n 2, 1) := by decide +kernel
theorem dX7_setOn_43 : decode cX7_setOn 43 = .ok (.ireturn, 1) := by decide +kernel
theorem dX7_repair_0 : decode cX7_repair 0 = .ok (.aload_n 0, 1) := by decide +kernel
theorem dX7_repair_1 : decode cX7_repair 1 = .ok (.iconst 0, 1) := by decide +kernel
theorem dX7_repair_2 : decode cX7_repair 2 = .ok (.putfield 22, 3) := by decide +kernel
theorem dX7_repair_5 : decode cX7_repair 5 = .ok (.aload_n 0, 1) := by decide +kernel
theorem dX7_repair_6 : decode cX7_repair 6 = .ok (.invokevirtual 143, 3) := by decide +kernel
theorem dX7_repair_9 : decode cX7_repair 9 = .ok (.aload_n 0, 1) := by decide +kernel
theorem dX7_repair_10 : decode cX7_repair 10 = .ok (.invokevirtual 80, 3) := by decide +kernel
theorem dX7_repair_13 : decode cX7_repair 13 = .ok (.istore_n 1, 1) := by decide +kernel
theorem dX7_repair_14 : decode cX7_repair 14 = .ok (.iconst 0, 1) := by decide +kernel
theorem dX7_repair_15 : decode cX7_repair 15 = .ok (.istore_n 2, 1) := by decide +kernel
theorem dX7_repair_16 : decode cX7_repair 16 = .ok (.iload_n 2, 1) := by decide +kernel
theorem dX7_repair_17 : decode cX7_repair 17 = .ok (.iconst 4, 1) := by decide +kernel
theorem dX7_repair_18 : decode cX7_repair 18 = .ok (.if_icmp .ge 25, 3) := by decide +kernel
theorem dX7_repair_21 : decode cX7_repair 21 = .ok (.aload_n 0, 1) := by decide +kernel
theorem dX7_repair_22 : decode cX7_repair 22 = .ok (.iload_n 2, 1) := by decide +kernel
theorem dX7_repair_23 : decode cX7_repair 23 = .ok (.bipush 7, 2) := by decide +kernel
theorem dX7_repair_25 : decode cX7_repair 25 = .ok (.iconst 0, 1) := by decide +kernel
theorem dX7_repair_26 : decode cX7_repair 26 = .ok (.invokevirtual 59, 3) := by decide +kernel
theorem dX7_repair_29 : decode cX7_repair 29 = .ok (.aload_n 0, 1) := by decide +kernel
theorem dX7_repair_30 : decode cX7_repair 30 = .ok (.iload_n 2, 1) := by decide +kernel
theorem dX7_repair_31 : decode cX7_repair 31 = .ok (.bipush 8, 2) := by decide +kernel
theorem dX7_repair_33 : decode cX7_repair 33 = .ok (.iconst 0, 1) := by decide +kernel
theorem dX7_repair_34 : decode cX7_repair 34 = .ok (.invokevirtual 59, 3) := by decide +kernel
theorem dX7_repair_37 : decode cX7_repair 37 = .ok (.iinc 2 1, 3) := by decide +kernel
theorem dX7_repair_40 : decode cX7_repair 40 = .ok (.goto (-24), 3) := by decide +kernel
theorem dX7_repair_43 : decode cX7_repair 43 = .ok (.iload_n 1, 1) := by decide +kernel
theorem dX7_repair_44 : decode cX7_repair 44 = .ok (.ireturn, 1) := by decide +kernel
theorem dX7_run_0 : decode cX7_run 0 = .ok (.aload_n 0, 1) := by decide +kernel
theorem dX7_run_1 : decode cX7_run 1 = .ok (.iload_n 1, 1) := by decide +kernel
theorem dX7_run_2 : decode cX7_run 2 = .ok (.iconst 1, 1) := by decide +kernel
theorem dX7_run_3 : decode cX7_run 3 = .ok (.sipush 1000, 3) := by decide +kernel
theorem dX7_run_6 : decode cX7_run 6 = .ok (.invokestatic 37, 3) := by decide +kernel
theorem dX7_run_9 : decode cX7_run 9 = .ok (.ifCond .eq 7, 3) := by decide +kernel
theorem dX7_run_12 : decode cX7_run 12 = .ok (.iconst 0, 1) := by decide +kernel
theorem dX7_run_13 : decode cX7_run 13 = .ok (.goto 4, 3) := by decide +kernel
theorem dX7_run_16 : decode cX7_run 16 = .ok (.iconst 1, 1) := by decide +kernel
theorem dX7_run_17 : decode cX7_run 17 = .ok (.invokevirtual 29, 3) := by decide +kernel
theorem dX7_run_20 : decode cX7_run 20 = .ok (.ifCond .eq 5, 3) := by decide +kernel
theorem dX7_run_23 : decode cX7_run 23 = .ok (.iconst 0, 1) := by decide +kernel
theorem dX7_run_24 : decode cX7_run 24 = .ok (.ireturn, 1) := by decide +kernel
theorem dX7_run_25 : decode cX7_run 25 = .ok (.aload_n 0, 1) := by decide +kernel
theorem dX7_run_26 : decode cX7_run 26 = .ok (.invokevirtual 143, 3) := by decide +kernel
theorem dX7_run_29 : decode cX7_run 29 = .ok (.iconst 0, 1) := by decide +kernel
theorem dX7_run_30 : decode cX7_run 30 = .ok (.istore_n 2, 1) := by decide +kernel
theorem dX7_run_31 : decode cX7_run 31 = .ok (.iload_n 2, 1) := by decide +kernel
theorem dX7_run_32 : decode cX7_run 32 = .ok (.iload_n 1, 1) := by decide +kernel
theorem dX7_run_33 : decode cX7_run 33 = .ok (.if_icmp .ge 13, 3) := by decide +kernel
theorem dX7_run_36 : decode cX7_run 36 = .ok (.aload_n 0, 1) := by decide +kernel
theorem dX7_run_37 : decode cX7_run 37 = .ok (.invokevirtual 156, 3) := by decide +kernel
theorem dX7_run_40 : decode cX7_run 40 = .ok (.iinc 2 1, 3) := by decide +kernel
theorem dX7_run_43 : decode cX7_run 43 = .ok (.goto (-12), 3) := by decide +kernel
theorem dX7_run_46 : decode cX7_run 46 = .ok (.aload_n 0, 1) := by decide +kernel
theorem dX7_run_47 : decode cX7_run 47 = .ok (.getfield 7, 3) := by decide +kernel
theorem dX7_run_50 : decode cX7_run 50 = .ok (.iconst 0, 1) := by decide +kernel
theorem dX7_run_51 : decode cX7_run 51 = .ok (.iaload, 1) := by decide +kernel
theorem dX7_run_52 : decode cX7_run 52 = .ok (.ireturn, 1) := by decide +kernel
theorem dX7_stops_0 : decode cX7_stops 0 = .ok (.iconst 0, 1) := by decide +kernel
theorem dX7_stops_1 : decode cX7_stops 1 = .ok (.istore_n 1, 1) := by decide +kernel
theorem dX7_stops_2 : decode cX7_stops 2 = .ok (.iload_n 1, 1) := by decide +kernel
theorem dX7_stops_3 : decode cX7_stops 3 = .ok (.sipush 5000, 3) := by decide +kernel
theorem dX7_stops_6 : decode cX7_stops 6 = .ok (.if_icmp .ge 22, 3) := by decide +kernel
theorem dX7_stops_9 : decode cX7_stops 9 = .ok (.aload_n 0, 1) := by decide +kernel
theorem dX7_stops_10 : decode cX7_stops 10 = .ok (.getfield 7, 3) := by decide +kernel
theorem dX7_stops_13 : decode cX7_stops 13 = .ok (.iconst 0, 1) := by decide +kernel
theorem dX7_stops_14 : decode cX7_stops 14 = .ok (.iaload, 1) := by decide +kernel
theorem dX7_stops_15 : decode cX7_stops 15 = .ok (.ifCond .le 13, 3) := by decide +kernel
theorem dX7_stops_18 : decode cX7_stops 18 = .ok (.aload_n 0, 1) := by decide +kernel
theorem dX7_stops_19 : decode cX7_stops 19 = .ok (.invokevirtual 156, 3) := by decide +kernel
theorem dX7_stops_22 : decode cX7_stops 22 = .ok (.iinc 1 1, 3) := by decide +kernel
theorem dX7_stops_25 : decode cX7_stops 25 = .ok (.goto (-23), 3) := by decide +kernel
theorem dX7_stops_28 : decode cX7_stops 28 = .ok (.iload_n 1, 1) := by decide +kernel
theorem dX7_stops_29 : decode cX7_stops 29 = .ok (.ireturn, 1) := by decide +kernel
theorem dX7_stop_0 : decode cX7_stop 0 = .ok (.aload_n 0, 1) := by decide +kernel
theorem dX7_stop_1 : decode cX7_stop 1 = .ok (.iconst 0, 1) := by decide +kernel
theorem dX7_stop_2 : decode cX7_stop 2 = .ok (.putfield 22, 3) := by decide +kernel
theorem dX7_stop_5 : decode cX7_stop 5 = .ok (.aload_n 0, 1) := by decide +kernel
theorem dX7_stop_6 : decode cX7_stop 6 = .ok (.invokevirtual 143, 3) := by decide +kernel
theorem dX7_stop_9 : decode cX7_stop 9 = .ok (.aload_n 0, 1) := by decide +kernel
theorem dX7_stop_10 : decode cX7_stop 10 = .ok (.invokevirtual 159, 3) := by decide +kernel
theorem dX7_stop_13 : decode cX7_stop 13 = .ok (.ireturn, 1) := by decide +kernel
theorem dX7_stopDistance_0 : decode cX7_stopDistance 0 = .ok (.iload_n 2, 1) := by decide +kernel
theorem dX7_stopDistance_1 : decode cX7_stopDistance 1 = .ok (.iconst 0, 1) := by decide +kernel
theorem dX7_stopDistance_2 : decode cX7_stopDistance 2 = .ok (.bipush 22, 2) := by decide +kernel
theorem dX7_stopDistance_4 : decode cX7_stopDistance 4 = .ok (.invokestatic 37, 3) := by decide +kernel
theorem dX7_stopDistance_7 : decode cX7_stopDistance 7 = .ok (.ifCond .eq 38, 3) := by decide +kernel
theorem dX7_stopDistance_10 : decode cX7_stopDistance 10 = .ok (.iload_n 2, 1) := by decide +kernel
theorem dX7_stopDistance_11 : decode cX7_stopDistance 11 = .ok (.bipush 10, 2) := by decide +kernel
theorem dX7_stopDistance_13 : decode cX7_stopDistance 13 = .ok (.irem, 1) := by decide +kernel
theorem dX7_stopDistance_14 : decode cX7_stopDistance 14 = .ok (.invokestatic 150, 3) := by decide +kernel
theorem dX7_stopDistance_17 : decode cX7_stopDistance 17 = .ok (.ifCond .eq 28, 3) := by decide +kernel
theorem dX7_stopDistance_20 : decode cX7_stopDistance 20 = .ok (.iload_n 1, 1) := by decide +kernel
theorem dX7_stopDistance_21 : decode cX7_stopDistance 21 = .ok (.iconst 0, 1) := by decide +kernel
theorem dX7_stopDistance_22 : decode cX7_stopDistance 22 = .ok (.ldc 142, 2) := by decide +kernel
theorem dX7_stopDistance_24 : decode cX7_stopDistance 24 = .ok (.invokestatic 37, 3) := by decide +kernel
theorem dX7_stopDistance_27 : decode cX7_stopDistance 27 = .ok (.ifCond .eq 18, 3) := by decide +kernel
theorem dX7_stopDistance_30 : decode cX7_stopDistance 30 = .ok (.iload_n 3, 1) := by decide +kernel
theorem dX7_stopDistance_31 : decode cX7_stopDistance 31 = .ok (.iconst 0, 1) := by decide +kernel
theorem dX7_stopDistance_32 : decode cX7_stopDistance 32 = .ok (.sipush 2000, 3) := by decide +kernel
theorem dX7_stopDistance_35 : decode cX7_stopDistance 35 = .ok (.invokestatic 37, 3) := by decide +kernel
theorem dX7_stopDistance_38 : decode cX7_stopDistance 38 = .ok (.ifCond .eq 7, 3) := by decide +kernel
theorem dX7_stopDistance_41 : decode cX7_stopDistance 41 = .ok (.iconst 1, 1) := by decide +kernel
theorem dX7_stopDistance_42 : decode cX7_stopDistance 42 = .ok (.goto 4, 3) := by decide +kernel
theorem dX7_stopDistance_45 : decode cX7_stopDistance 45 = .ok (.iconst 0, 1) := by decide +kernel
theorem dX7_stopDistance_46 : decode cX7_stopDistance 46 = .ok (.istore 5, 2) := by decide +kernel
theorem dX7_stopDistance_48 : decode cX7_stopDistance 48 = .ok (.aload_n 0, 1) := by decide +kernel
theorem dX7_stopDistance_49 : decode cX7_stopDistance 49 = .ok (.iload 5, 2) := by decide +kernel
theorem dX7_stopDistance_51 : decode cX7_stopDistance 51 = .ok (.ifCond .eq 7, 3) := by decide +kernel
theorem dX7_stopDistance_54 : decode cX7_stopDistance 54 = .ok (.iconst 0, 1) := by decide +kernel
theorem dX7_stopDistance_55 : decode cX7_stopDistance 55 = .ok (.goto 4, 3) := by decide +kernel
theorem dX7_stopDistance_58 : decode cX7_stopDistance 58 = .ok (.iconst 1, 1) := by decide +kernel
theorem dX7_stopDistance_59 : decode cX7_stopDistance 59 = .ok (.invokevirtual 29, 3) := by decide +kernel
theorem dX7_stopDistance_62 : decode cX7_stopDistance 62 = .ok (.ifCond .eq 5, 3) := by decide +kernel
theorem dX7_stopDistance_65 : decode cX7_stopDistance 65 = .ok (.iconst 0, 1) := by decide +kernel
theorem dX7_stopDistance_66 : decode cX7_stopDistance 66 = .ok (.ireturn, 1) := by decide +kernel
theorem dX7_stopDistance_67 : decode cX7_stopDistance 67 = .ok (.iconst 0, 1) := by decide +kernel
theorem dX7_stopDistance_68 : decode cX7_stopDistance 68 = .ok (.istore 6, 2) := by decide +kernel
theorem dX7_stopDistance_70 : decode cX7_stopDistance 70 = .ok (.iload 6, 2) := by decide +kernel
theorem dX7_stopDistance_72 : decode cX7_stopDistance 72 = .ok (.sipush 253, 3) := by decide +kernel
theorem dX7_stopDistance_75 : decode cX7_stopDistance 75 = .ok (.if_icmp .ge 23, 3) := by decide +kernel
theorem dX7_stopDistance_78 : decode cX7_stopDistance 78 = .ok (.aload_n 0, 1) := by decide +kernel
theorem dX7_stopDistance_79 : decode cX7_stopDistance 79 = .ok (.getfield 16, 3) := by decide +kernel
theorem dX7_stopDistance_82 : decode cX7_stopDistance 82 = .ok (.iload 6, 2) := by decide +kernel
theorem dX7_stopDistance_84 : decode cX7_stopDistance 84 = .ok (.aload_n 0, 1) := by decide +kernel
theorem dX7_stopDistance_85 : decode cX7_stopDistance 85 = .ok (.getfield 7, 3) := by decide +kernel
theorem dX7_stopDistance_88 : decode cX7_stopDistance 88 = .ok (.iload 6, 2) := by decide +kernel
theorem dX7_stopDistance_90 : decode cX7_stopDistance 90 = .ok (.iaload, 1) := by decide +kernel
theorem dX7_stopDistance_91 : decode cX7_stopDistance 91 = .ok (.iastore, 1) := by decide +kernel
theorem dX7_stopDistance_92 : decode cX7_stopDistance 92 = .ok (.iinc 6 1, 3) := by decide +kernel
theorem dX7_stopDistance_95 : decode cX7_stopDistance 95 = .ok (.goto (-25), 3) := by decide +kernel
theorem dX7_stopDistance_98 : decode cX7_stopDistance 98 = .ok (.aload_n 0, 1) := by decide +kernel
theorem dX7_stopDistance_99 : decode cX7_stopDistance 99 = .ok (.invokevirtual 19, 3) := by decide +kernel
theorem dX7_stopDistance_102 : decode cX7_stopDistance 102 = .ok (.aload_n 0, 1) := by decide +kernel
theorem dX7_stopDistance_103 : decode cX7_stopDistance 103 = .ok (.iload_n 1, 1) := by decide +kernel
theorem dX7_stopDistance_104 : decode cX7_stopDistance 104 = .ok (.invokevirtual 146, 3) := by decide +kernel
theorem dX7_stopDistance_107 : decode cX7_stopDistance 107 = .ok (.aload_n 0, 1) := by decide +kernel
theorem dX7_stopDistance_108 : decode cX7_stopDistance 108 = .ok (.getfield 7, 3) := by decide +kernel
theorem dX7_stopDistance_111 : decode cX7_stopDistance 111 = .ok (.bipush 76, 2) := by decide +kernel
theorem dX7_stopDistance_113 : decode cX7_stopDistance 113 = .ok (.iload_n 2, 1) := by decide +kernel
theorem dX7_stopDistance_114 : decode cX7_stopDistance 114 = .ok (.bipush 10, 2) := by decide +kernel
theorem dX7_stopDistance_116 : decode cX7_stopDistance 116 = .ok (.idiv, 1) := by decide +kernel
theorem dX7_stopDistance_117 : decode cX7_stopDistance 117 = .ok (.iastore, 1) := by decide +kernel
theorem dX7_stopDistance_118 : decode cX7_stopDistance 118 = .ok (.aload_n 0, 1) := by decide +kernel
theorem dX7_stopDistance_119 : decode cX7_stopDistance 119 = .ok (.getfield 7, 3) := by decide +kernel
theorem dX7_stopDistance_122 : decode cX7_stopDistance 122 = .ok (.bipush 77, 2) := by decide +kernel
theorem dX7_stopDistance_124 : decode cX7_stopDistance 124 = .ok (.iload_n 2, 1) := by decide +kernel
theorem dX7_stopDistance_125 : decode cX7_stopDistance 125 = .ok (.bipush 10, 2) := by decide +kernel
theorem dX7_stopDistance_127 : decode cX7_stopDistance 127 = .ok (.irem, 1) := by decide +kernel
theorem dX7_stopDistance_128 : decode cX7_stopDistance 128 = .ok (.iastore, 1) := by decide +kernel
theorem dX7_stopDistance_129 : decode cX7_stopDistance 129 = .ok (.aload_n 0, 1) := by decide +kernel
theorem dX7_stopDistance_130 : decode cX7_stopDistance 130 = .ok (.getfield 7, 3) := by decide +kernel
theorem dX7_stopDistance_133 : decode cX7_stopDistance 133 = .ok (.iconst 3, 1) := by decide +kernel
theorem dX7_stopDistance_134 : decode cX7_stopDistance 134 = .ok (.iload_n 3, 1) := by decide +kernel
theorem dX7_stopDistance_135 : decode cX7_stopDistance 135 = .ok (.iastore, 1) := by decide +kernel
theorem dX7_stopDistance_136 : decode cX7_stopDistance 136 = .ok (.aload_n 0, 1) := by decide +kernel
theorem dX7_stopDistance_137 : decode cX7_stopDistance 137 = .ok (.getfield 7, 3) := by decide +kernel
theorem dX7_stopDistance_140 : decode cX7_stopDistance 140 = .ok (.bipush 8, 2) := by decide +kernel
theorem dX7_stopDistance_142 : decode cX7_stopDistance 142 = .ok (.iload 4, 2) := by decide +kernel
theorem dX7_stopDistance_144 : decode cX7_stopDistance 144 = .ok (.ifCond .eq 7, 3) := by decide +kernel
theorem dX7_stopDistance_147 : decode cX7_stopDistance 147 = .ok (.iconst 1, 1) := by decide +kernel
theorem dX7_stopDistance_148 : decode cX7_stopDistance 148 = .ok (.goto 4, 3) := by decide +kernel
theorem dX7_stopDistance_151 : decode cX7_stopDistance 151 = .ok (.iconst 0, 1) := by decide +kernel
theorem dX7_stopDistance_152 : decode cX7_stopDistance 152 = .ok (.iastore, 1) := by decide +kernel
theorem dX7_stopDistance_153 : decode cX7_stopDistance 153 = .ok (.aload_n 0, 1) := by decide +kernel
theorem dX7_stopDistance_154 : decode cX7_stopDistance 154 = .ok (.invokevirtual 159, 3) := by decide +kernel
theorem dX7_stopDistance_157 : decode cX7_stopDistance 157 = .ok (.pop, 1) := by decide +kernel
