theorem dX4_copyFrom_0 : decode cX4_copyFrom 0 = .ok (.aload_n 1, 1) := by decide +kernel
theorem dX4_copyFrom_1 : decode cX4_copyFrom 1 = .ok (.getfield 9, 3) := by decide +kernel
theorem dX4_copyFrom_4 : decode cX4_copyFrom 4 = .ok (.iconst 0, 1) := by decide +kernel
theorem dX4_copyFrom_5 : decode cX4_copyFrom 5 = .ok (.aload_n 0, 1) := by decide +kernel
theorem dX4_copyFrom_6 : decode cX4_copyFrom 6 = .ok (.getfield 9, 3) := by decide +kernel
theorem dX4_copyFrom_9 : decode cX4_copyFrom 9 = .ok (.iconst 0, 1) := by decide +kernel
theorem dX4_copyFrom_10 : decode cX4_copyFrom 10 = .ok (.bipush 10, 2) := by decide +kernel
theorem dX4_copyFrom_12 : decode cX4_copyFrom 12 = .ok (.invokestatic 20, 3) := by decide +kernel
theorem dX4_copyFrom_15 : decode cX4_copyFrom 15 = .ok (.aload_n 1, 1) := by decide +kernel
theorem dX4_copyFrom_16 : decode cX4_copyFrom 16 = .ok (.getfield 13, 3) := by decide +kernel
theorem dX4_copyFrom_19 : decode cX4_copyFrom 19 = .ok (.iconst 0, 1) := by decide +kernel
theorem dX4_copyFrom_20 : decode cX4_copyFrom 20 = .ok (.aload_n 0, 1) := by decide +kernel
theorem dX4_copyFrom_21 : decode cX4_copyFrom 21 = .ok (.getfield 13, 3) := by decide +kernel
theorem dX4_copyFrom_24 : decode cX4_copyFrom 24 = .ok (.iconst 0, 1) := by decide +kernel
theorem dX4_copyFrom_25 : decode cX4_copyFrom 25 = .ok (.bipush 10, 2) := by decide +kernel
theorem dX4_copyFrom_27 : decode cX4_copyFrom 27 = .ok (.invokestatic 20, 3) := by decide +kernel
theorem dX4_copyFrom_30 : decode cX4_copyFrom 30 = .ok (.aload_n 0, 1) := by decide +kernel
theorem dX4_copyFrom_31 : decode cX4_copyFrom 31 = .ok (.aload_n 1, 1) := by decide +kernel
theorem dX4_copyFrom_32 : decode cX4_copyFrom 32 = .ok (.getfield 16, 3) := by decide +kernel
theorem dX4_copyFrom_35 : decode cX4_copyFrom 35 = .ok (.putfield 16, 3) := by decide +kernel
theorem dX4_copyFrom_38 : decode cX4_copyFrom 38 = .ok (.return_, 1) := by decide +kernel
theorem dX4_isFull_0 : decode cX4_isFull 0 = .ok (.aload_n 0, 1) := by decide +kernel
theorem dX4_isFull_1 : decode cX4_isFull 1 = .ok (.getfield 16, 3) := by decide +kernel
theorem dX4_isFull_4 : decode cX4_isFull 4 = .ok (.bipush 10, 2) := by decide +kernel
theorem dX4_isFull_6 : decode cX4_isFull 6 = .ok (.if_icmp .lt 7, 3) := by decide +kernel
theorem dX4_isFull_9 : decode cX4_isFull 9 = .ok (.iconst 1, 1) := by decide +kernel
theorem dX4_isFull_10 : decode cX4_isFull 10 = .ok (.goto 4, 3) := by decide +kernel
theorem dX4_isFull_13 : decode cX4_isFull 13 = .ok (.iconst 0, 1) := by decide +kernel
theorem dX4_isFull_14 : decode cX4_isFull 14 = .ok (.ireturn, 1) := by decide +kernel
theorem dX4_put_0 : decode cX4_put 0 = .ok (.aload_n 0, 1) := by decide +kernel
theorem dX4_put_1 : decode cX4_put 1 = .ok (.invokevirtual 26, 3) := by decide +kernel
theorem dX4_put_4 : decode cX4_put 4 = .ok (.ifCond .eq 4, 3) := by decide +kernel
theorem dX4_put_7 : decode cX4_put 7 = .ok (.return_, 1) := by decide +kernel
theorem dX4_put_8 : decode cX4_put 8 = .ok (.aload_n 0, 1) := by decide +kernel
theorem dX4_put_9 : decode cX4_put 9 = .ok (.iload_n 1, 1) := by decide +kernel
theorem dX4_put_10 : decode cX4_put 10 = .ok (.invokevirtual 30, 3) := by decide +kernel
theorem dX4_put_13 : decode cX4_put 13 = .ok (.istore_n 3, 1) := by decide +kernel
theorem dX4_put_14 : decode cX4_put 14 = .ok (.aload_n 0, 1) := by decide +kernel
theorem dX4_put_15 : decode cX4_put 15 = .ok (.iload_n 3, 1) := by decide +kernel
theorem dX4_put_16 : decode cX4_put 16 = .ok (.iload_n 3, 1) := by decide +kernel
theorem dX4_put_17 : decode cX4_put 17 = .ok (.iconst 1, 1) := by decide +kernel
theorem dX4_put_18 : decode cX4_put 18 = .ok (.iadd, 1) := by decide +kernel
theorem dX4_put_19 : decode cX4_put 19 = .ok (.aload_n 0, 1) := by decide +kernel
theorem dX4_put_20 : decode cX4_put 20 = .ok (.getfield 16, 3) := by decide +kernel
theorem dX4_put_23 : decode cX4_put 23 = .ok (.iload_n 3, 1) := by decide +kernel
theorem dX4_put_24 : decode cX4_put 24 = .ok (.isub, 1) := by decide +kernel
theorem dX4_put_25 : decode cX4_put 25 = .ok (.invokevirtual 34, 3) := by decide +kernel
theorem dX4_put_28 : decode cX4_put 28 = .ok (.aload_n 0, 1) := by decide +kernel
theorem dX4_put_29 : decode cX4_put 29 = .ok (.getfield 9, 3) := by decide +kernel
theorem dX4_put_32 : decode cX4_put 32 = .ok (.iload_n 3, 1) := by decide +kernel
theorem dX4_put_33 : decode cX4_put 33 = .ok (.iload_n 1, 1) := by decide +kernel
theorem dX4_put_34 : decode cX4_put 34 = .ok (.iastore, 1) := by decide +kernel
theorem dX4_put_35 : decode cX4_put 35 = .ok (.aload_n 0, 1) := by decide +kernel
theorem dX4_put_36 : decode cX4_put 36 = .ok (.getfield 13, 3) := by decide +kernel
theorem dX4_put_39 : decode cX4_put 39 = .ok (.iload_n 3, 1) := by decide +kernel
theorem dX4_put_40 : decode cX4_put 40 = .ok (.iload_n 2, 1) := by decide +kernel
theorem dX4_put_41 : decode cX4_put 41 = .ok (.iastore, 1) := by decide +kernel
theorem dX4_put_42 : decode cX4_put 42 = .ok (.aload_n 0, 1) := by decide +kernel
theorem dX4_put_43 : decode cX4_put 43 = .ok (.dup, 1) := by decide +kernel
theorem dX4_put_44 : decode cX4_put 44 = .ok (.getfield 16, 3) := by decide +kernel
theorem dX4_put_47 : decode cX4_put 47 = .ok (.iconst 1, 1) := by decide +kernel
theorem dX4_put_48 : decode cX4_put 48 = .ok (.iadd, 1) := by decide +kernel
theorem dX4_put_49 : decode cX4_put 49 = .ok (.putfield 16, 3) := by decide +kernel
theorem dX4_put_52 : decode cX4_put 52 = .ok (.return_, 1) := by decide +kernel
theorem dX4_takeDemand_0 : decode cX4_takeDemand 0 = .ok (.aload_n 0, 1) := by decide +kernel
theorem dX4_takeDemand_1 : decode cX4_takeDemand 1 = .ok (.iload_n 1, 1) := by decide +kernel
theorem dX4_takeDemand_2 : decode cX4_takeDemand 2 = .ok (.invokevirtual 30, 3) := by decide +kernel
theorem dX4_takeDemand_5 : decode cX4_takeDemand 5 = .ok (.istore_n 3, 1) := by decide +kernel
theorem dX4_takeDemand_6 : decode cX4_takeDemand 6 = .ok (.iload_n 3, 1) := by decide +kernel
theorem dX4_takeDemand_7 : decode cX4_takeDemand 7 = .ok (.ifCond .gt 5, 3) := by decide +kernel
theorem dX4_takeDemand_10 : decode cX4_takeDemand 10 = .ok (.iload_n 2, 1) := by decide +kernel
theorem dX4_takeDemand_11 : decode cX4_takeDemand 11 = .ok (.ireturn, 1) := by decide +kernel
theorem dX4_takeDemand_12 : decode cX4_takeDemand 12 = .ok (.aload_n 0, 1) := by decide +kernel
theorem dX4_takeDemand_13 : decode cX4_takeDemand 13 = .ok (.getfield 13, 3) := by decide +kernel
theorem dX4_takeDemand_16 : decode cX4_takeDemand 16 = .ok (.iload_n 3, 1) := by decide +kernel
theorem dX4_takeDemand_17 : decode cX4_takeDemand 17 = .ok (.iconst 1, 1) := by decide +kernel
theorem dX4_takeDemand_18 : decode cX4_takeDemand 18 = .ok (.isub, 1) := by decide +kernel
theorem dX4_takeDemand_19 : decode cX4_takeDemand 19 = .ok (.iaload, 1) := by decide +kernel
theorem dX4_takeDemand_20 : decode cX4_takeDemand 20 = .ok (.istore 4, 2) := by decide +kernel
theorem dX4_takeDemand_22 : decode cX4_takeDemand 22 = .ok (.aload_n 0, 1) := by decide +kernel
theorem dX4_takeDemand_23 : decode cX4_takeDemand 23 = .ok (.iload_n 3, 1) := by decide +kernel
theorem dX4_takeDemand_24 : decode cX4_takeDemand 24 = .ok (.iconst 0, 1) := by decide +kernel
theorem dX4_takeDemand_25 : decode cX4_takeDemand 25 = .ok (.aload_n 0, 1) := by decide +kernel
theorem dX4_takeDemand_26 : decode cX4_takeDemand 26 = .ok (.getfield 16, 3) := by decide +kernel
theorem dX4_takeDemand_29 : decode cX4_takeDemand 29 = .ok (.iload_n 3, 1) := by decide +kernel
theorem dX4_takeDemand_30 : decode cX4_takeDemand 30 = .ok (.isub, 1) := by decide +kernel
theorem dX4_takeDemand_31 : decode cX4_takeDemand 31 = .ok (.invokevirtual 34, 3) := by decide +kernel
theorem dX4_takeDemand_34 : decode cX4_takeDemand 34 = .ok (.aload_n 0, 1) := by decide +kernel
theorem dX4_takeDemand_35 : decode cX4_takeDemand 35 = .ok (.dup, 1) := by decide +kernel
theorem dX4_takeDemand_36 : decode cX4_takeDemand 36 = .ok (.getfield 16, 3) := by decide +kernel
theorem dX4_takeDemand_39 : decode cX4_takeDemand 39 = .ok (.iload_n 3, 1) := by decide +kernel
theorem dX4_takeDemand_40 : decode cX4_takeDemand 40 = .ok (.isub, 1) := by decide +kernel
theorem dX4_takeDemand_41 : decode cX4_takeDemand 41 = .ok (.putfield 16, 3) := by decide +kernel
theorem dX4_takeDemand_44 : decode cX4_takeDemand 44 = .ok (.iload 4, 2) := by decide +kernel
theorem dX4_takeDemand_46 : decode cX4_takeDemand 46 = .ok (.ireturn, 1) := by decide +kernel
theorem dX4_mixInto_0 : decode cX4_mixInto 0 = .ok (.lload_n 1, 1) := by decide +kernel
theorem dX4_mixInto_1 : decode cX4_mixInto 1 = .ok (.aload_n 0, 1) := by decide +kernel
theorem dX4_mixInto_2 : decode cX4_mixInto 2 = .ok (.getfield 16, 3) := by decide +kernel
theorem dX4_mixInto_5 : decode cX4_mixInto 5 = .ok (.invokestatic 38, 3) := by decide +kernel
theorem dX4_mixInto_8 : decode cX4_mixInto 8 = .ok (.lstore_n 3, 1) := by decide +kernel
theorem dX4_mixInto_9 : decode cX4_mixInto 9 = .ok (.iconst 0, 1) := by decide +kernel
theorem dX4_mixInto_10 : decode cX4_mixInto 10 = .ok (.istore 5, 2) := by decide +kernel
theorem dX4_mixInto_12 : decode cX4_mixInto 12 = .ok (.iload 5, 2) := by decide +kernel
theorem dX4_mixInto_14 : decode cX4_mixInto 14 = .ok (.aload_n 0, 1) := by decide +kernel
theorem dX4_mixInto_15 : decode cX4_mixInto 15 = .ok (.getfield 16, 3) := by decide +kernel
theorem dX4_mixInto_18 : decode cX4_mixInto 18 = .ok (.if_icmp .ge 31, 3) := by decide +kernel
theorem dX4_mixInto_21 : decode cX4_mixInto 21 = .ok (.lload_n 3, 1) := by decide +kernel
theorem dX4_mixInto_22 : decode cX4_mixInto 22 = .ok (.aload_n 0, 1) := by decide +kernel
theorem dX4_mixInto_23 : decode cX4_mixInto 23 = .ok (.getfield 9, 3) := by decide +kernel
theorem dX4_mixInto_26 : decode cX4_mixInto 26 = .ok (.iload 5, 2) := by decide +kernel
theorem dX4_mixInto_28 : decode cX4_mixInto 28 = .ok (.iaload, 1) := by decide +kernel
theorem dX4_mixInto_29 : decode cX4_mixInto 29 = .ok (.invokestatic 38, 3) := by decide +kernel
theorem dX4_mixInto_32 : decode cX4_mixInto 32 = .ok (.aload_n 0, 1) := by decide +kernel
theorem dX4_mixInto_33 : decode cX4_mixInto 33 = .ok (.getfield 13, 3) := by decide +kernel
theorem dX4_mixInto_36 : decode cX4_mixInto 36 = .ok (.iload 5, 2) := by decide +kernel
theorem dX4_mixInto_38 : decode cX4_mixInto 38 = .ok (.iaload, 1) := by decide +kernel
theorem dX4_mixInto_39 : decode cX4_mixInto 39 = .ok (.invokestatic 38, 3) := by decide +kernel
theorem dX4_mixInto_42 : decode cX4_mixInto 42 = .ok (.lstore_n 3, 1) := by decide +kernel
theorem dX4_mixInto_43 : decode cX4_mixInto 43 = .ok (.iinc 5 1, 3) := by decide +kernel
theorem dX4_mixInto_46 : decode cX4_mixInto 46 = .ok (.goto (-34), 3) := by decide +kernel
theorem dX4_mixInto_49 : decode cX4_mixInto 49 = .ok (.lload_n 3, 1) := by decide +kernel
theorem dX4_mixInto_50 : decode cX4_mixInto 50 = .ok (.lreturn, 1) := by decide +kernel
theorem dX4_entriesUntil_0 : decode cX4_entriesUntil 0 = .ok (.iconst 0, 1) := by decide +kernel
theorem dX4_entriesUntil_1 : decode cX4_entriesUntil 1 = .ok (.istore_n 2, 1) := by decide +kernel
theorem dX4_entriesUntil_2 : decode cX4_entriesUntil 2 = .ok (.iload_n 2, 1) := by decide +kernel
theorem dX4_entriesUntil_3 : decode cX4_entriesUntil 3 = .ok (.aload_n 0, 1) := by decide +kernel
theorem dX4_entriesUntil_4 : decode cX4_entriesUntil 4 = .ok (.getfield 16, 3) := by decide +kernel
theorem dX4_entriesUntil_7 : decode cX4_entriesUntil 7 = .ok (.if_icmp .ge 19, 3) := by decide +kernel
theorem dX4_entriesUntil_10 : decode cX4_entriesUntil 10 = .ok (.aload_n 0, 1) := by decide +kernel
theorem dX4_entriesUntil_11 : decode cX4_entriesUntil 11 = .ok (.getfield 9, 3) := by decide +kernel
theorem dX4_entriesUntil_14 : decode cX4_entriesUntil 14 = .ok (.iload_n 2, 1) := by decide +kernel
theorem dX4_entriesUntil_15 : decode cX4_entriesUntil 15 = .ok (.iaload, 1) := by decide +kernel
theorem dX4_entriesUntil_16 : decode cX4_entriesUntil 16 = .ok (.iload_n 1, 1) := by decide +kernel
theorem dX4_entriesUntil_17 : decode cX4_entriesUntil 17 = .ok (.if_icmp .gt 9, 3) := by decide +kernel
theorem dX4_entriesUntil_20 : decode cX4_entriesUntil 20 = .ok (.iinc 2 1, 3) := by decide +kernel
theorem dX4_entriesUntil_23 : decode cX4_entriesUntil 23 = .ok (.goto (-21), 3) := by decide +kernel
theorem dX4_entriesUntil_26 : decode cX4_entriesUntil 26 = .ok (.iload_n 2, 1) := by decide +kernel
theorem dX4_entriesUntil_27 : decode cX4_entriesUntil 27 = .ok (.ireturn, 1) := by decide +kernel
theorem dX4_shift_0 : decode cX4_shift 0 = .ok (.aload_n 0, 1) := by decide +kernel
theorem dX4_shift_1 : decode cX4_shift 1 = .ok (.getfield 9, 3) := by decide +kernel
theorem dX4_shift_4 : decode cX4_shift 4 = .ok (.iload_n 1, 1) := by decide +kernel
theorem dX4_shift_5 : decode cX4_shift 5 = .ok (.aload_n 0, 1) := by decide +kernel
theorem dX4_shift_6 : decode cX4_shift 6 = .ok (.getfield 9, 3) := by decide +kernel
theorem dX4_shift_9 : decode cX4_shift 9 = .ok (.iload_n 2, 1) := by decide +kernel
theorem dX4_shift_10 : decode cX4_shift 10 = .ok (.iload_n 3, 1) := by decide +kernel
theorem dX4_shift_11 : decode cX4_shift 11 = .ok (.invokestatic 20, 3) := by decide +kernel
theorem dX4_shift_14 : decode cX4_shift 14 = .ok (.aload_n 0, 1) := by decide +kernel
theorem dX4_shift_15 : decode cX4_shift 15 = .ok (.getfield 13, 3) := by decide +kernel
theorem dX4_shift_18 : decode cX4_shift 18 = .ok (.iload_n 1, 1) := by decide +kernel
theorem dX4_shift_19 : decode cX4_shift 19 = .ok (.aload_n 0, 1) := by decide +kernel
theorem dX4_shift_20 : decode cX4_shift 20 = .ok (.getfield 13, 3) := by decide +kernel
theorem dX4_shift_23 : decode cX4_shift 23 = .ok (.iload_n 2, 1) := by decide +kernel
theorem dX4_shift_24 : decode cX4_shift 24 = .ok (.iload_n 3, 1) := by decide +kernel
theorem dX4_shift_25 : decode cX4_shift 25 = .ok (.invokestatic 20, 3) := by decide +kernel
theorem dX4_shift_28 : decode cX4_shift 28 = .ok (.return_, 1) := by decide +kernel
theorem dX5_init_0 : decode cX5_init 0 = .ok (.aload_n 0, 1) := by decide +kernel
theorem dX5_init_1 : decode cX5_init 1 = .ok (.invokespecial 3, 3) := by decide +kernel
theorem dX5_init_4 : decode cX5_init 4 = .ok (.aload_n 0, 1) := by decide +kernel
theorem dX5_init_5 : decode cX5_init 5 = .ok (.iconst 5, 1) := by decide +kernel
theorem dX5_init_6 : decode cX5_init 6 = .ok (.newarray .int, 2) := by decide +kernel
theorem dX5_init_8 : decode cX5_init 8 = .ok (.putfield 11, 3) := by decide +kernel
theorem dX5_init_11 : decode cX5_init 11 = .ok (.return_, 1) := by decide +kernel
theorem dX5_clear_0 : decode cX5_clear 0 = .ok (.aload_n 0, 1) := by decide +kernel
theorem dX5_clear_1 : decode cX5_clear 1 = .ok (.iconst 0, 1) := by decide +kernel
theorem dX5_clear_2 : decode cX5_clear 2 = .ok (.invokevirtual 15, 3) := by decide +kernel
theorem dX5_clear_5 : decode cX5_clear 5 = .ok (.aload_n 0, 1) := by decide +kernel
theorem dX5_clear_6 : decode cX5_clear 6 = .ok (.iconst 0, 1) := by decide +kernel
theorem dX5_clear_7 : decode cX5_clear 7 = .ok (.putfield 19, 3) := by decide +kernel
theorem dX5_clear_10 : decode cX5_clear 10 = .ok (.aload_n 0, 1) := by decide +kernel
theorem dX5_clear_11 : decode cX5_clear 11 = .ok (.iconst 0, 1) := by decide +kernel
theorem dX5_clear_12 : decode cX5_clear 12 = .ok (.putfield 23, 3) := by decide +kernel
theorem dX5_clear_15 : decode cX5_clear 15 = .ok (.aload_n 0, 1) := by decide +kernel
theorem dX5_clear_16 : decode cX5_clear 16 = .ok (.iconst 0, 1) := by decide +kernel
theorem dX5_clear_17 : decode cX5_clear 17 = .ok (.putfield 26, 3) := by decide +kernel
theorem dX5_clear_20 : decode cX5_clear 20 = .ok (.aload_n 0, 1) := by decide +kernel
theorem dX5_clear_21 : decode cX5_clear 21 = .ok (.iconst 0, 1) := by decide +kernel
theorem dX5_clear_22 : decode cX5_clear 22 = .ok (.putfield 29, 3) := by decide +kernel
theorem dX5_clear_25 : decode cX5_clear 25 = .ok (.aload_n 0, 1) := by decide +kernel
theorem dX5_clear_26 : decode cX5_clear 26 = .ok (.iconst 0, 1) := by decide +kernel
theorem dX5_clear_27 : decode cX5_clear 27 = .ok (.putfield 33, 3) := by decide +kernel
theorem dX5_clear_30 : decode cX5_clear 30 = .ok (.return_, 1) := by decide +kernel
theorem dX5_startAt_0 : decode cX5_startAt 0 = .ok (.aload_n 0, 1) := by decide +kernel
theorem dX5_startAt_1 : decode cX5_startAt 1 = .ok (.iload_n 1, 1) := by decide +kernel
theorem dX5_startAt_2 : decode cX5_startAt 2 = .ok (.putfield 36, 3) := by decide +kernel
theorem dX5_startAt_5 : decode cX5_startAt 5 = .ok (.aload_n 0, 1) := by decide +kernel
theorem dX5_startAt_6 : decode cX5_startAt 6 = .ok (.iconst 0, 1) := by decide +kernel
theorem dX5_startAt_7 : decode cX5_startAt 7 = .ok (.putfield 39, 3) := by decide +kernel
theorem dX5_startAt_10 : decode cX5_startAt 10 = .ok (.aload_n 0, 1) := by decide +kernel
theorem dX5_startAt_11 : decode cX5_startAt 11 = .ok (.iconst 0, 1) := by decide +kernel
theorem dX5_startAt_12 : decode cX5_startAt 12 = .ok (.putfield 42, 3) := by decide +kernel
theorem dX5_startAt_15 : decode cX5_startAt 15 = .ok (.aload_n 0, 1) := by decide +kernel
theorem dX5_startAt_16 : decode cX5_startAt 16 = .ok (.iconst 0, 1) := by decide +kernel
theorem dX5_startAt_17 : decode cX5_startAt 17 = .ok (.putfield 45, 3) := by decide +kernel
theorem dX5_startAt_20 : decode cX5_startAt 20 = .ok (.aload_n 0, 1) := by decide +kernel
theorem dX5_startAt_21 : decode cX5_startAt 21 = .ok (.iconst 0, 1) := by decide +kernel
theorem dX5_startAt_22 : decode cX5_startAt 22 = .ok (.putfield 48, 3) := by decide +kernel
theorem dX5_startAt_25 : decode cX5_startAt 25 = .ok (.aload_n 0, 1) := by decide +kernel
theorem dX5_startAt_26 : decode cX5_startAt 26 = .ok (.iconst 0, 1) := by decide +kernel
theorem dX5_startAt_27 : decode cX5_startAt 27 = .ok (.putfield 51, 3) := by decide +kernel
theorem dX5_startAt_30 : decode cX5_startAt 30 = .ok (.aload_n 0, 1) := by decide +kernel
theorem dX5_startAt_31 : decode cX5_startAt 31 = .ok (.iconst 0, 1) := by decide +kernel
theorem dX5_startAt_32 : decode cX5_startAt 32 = .ok (.putfield 54, 3) := by decide +kernel
theorem dX5_startAt_35 : decode cX5_startAt 35 = .ok (.aload_n 0, 1) := by decide +kernel
theorem dX5_startAt_36 : decode cX5_startAt 36 = .ok (.iconst 0, 1) := by decide +kernel
theorem dX5_startAt_37 : decode cX5_startAt 37 = .ok (.putfield 57, 3) := by decide +kernel
theorem dX5_startAt_40 : decode cX5_startAt 40 = .ok (.return_, 1) := by decide +kernel
theorem dX5_copyFrom_0 : decode cX5_copyFrom 0 = .ok (.aload_n 0, 1) := by decide +kernel
theorem dX5_copyFrom_1 : decode cX5_copyFrom 1 = .ok (.aload_n 1, 1) := by decide +kernel
theorem dX5_copyFrom_2 : decode cX5_copyFrom 2 = .ok (.getfield 36, 3) := by decide +kernel
theorem dX5_copyFrom_5 : decode cX5_copyFrom 5 = .ok (.putfield 36, 3) := by decide +kernel
theorem dX5_copyFrom_8 : decode cX5_copyFrom 8 = .ok (.aload_n 0, 1) := by decide +kernel
theorem dX5_copyFrom_9 : decode cX5_copyFrom 9 = .ok (.aload_n 1, 1) := by decide +kernel
theorem dX5_copyFrom_10 : decode cX5_copyFrom 10 = .ok (.getfield 39, 3) := by decide +kernel
theorem dX5_copyFrom_13 : decode cX5_copyFrom 13 = .ok (.putfield 39, 3) := by decide +kernel
theorem dX5_copyFrom_16 : decode cX5_copyFrom 16 = .ok (.aload_n 0, 1) := by decide +kernel
theorem dX5_copyFrom_17 : decode cX5_copyFrom 17 = .ok (.aload_n 1, 1) := by decide +kernel
theorem dX5_copyFrom_18 : decode cX5_copyFrom 18 = .ok (.getfield 42, 3) := by decide +kernel
theorem dX5_copyFrom_21 : decode cX5_copyFrom 21 = .ok (.putfield 42, 3) := by decide +kernel
theorem dX5_copyFrom_24 : decode cX5_copyFrom 24 = .ok (.aload_n 0, 1) := by decide +kernel
theorem dX5_copyFrom_25 : decode cX5_copyFrom 25 = .ok (.aload_n 1, 1) := by decide +kernel
theorem dX5_copyFrom_26 : decode cX5_copyFrom 26 = .ok (.getfield 45, 3) := by decide +kernel
theorem dX5_copyFrom_29 : decode cX5_copyFrom 29 = .ok (.putfield 45, 3) := by decide +kernel
theorem dX5_copyFrom_32 : decode cX5_copyFrom 32 = .ok (.aload_n 0, 1) := by decide +kernel
theorem dX5_copyFrom_33 : decode cX5_copyFrom 33 = .ok (.aload_n 1, 1) := by decide +kernel
theorem dX5_copyFrom_34 : decode cX5_copyFrom 34 = .ok (.getfield 19, 3) := by decide +kernel
theorem dX5_copyFrom_37 : decode cX5_copyFrom 37 = .ok (.putfield 19, 3) := by decide +kernel
theorem dX5_copyFrom_40 : decode cX5_copyFrom 40 = .ok (.aload_n 0, 1) := by decide +kernel
theorem dX5_copyFrom_41 : decode cX5_copyFrom 41 = .ok (.aload_n 1, 1) := by decide +kernel
theorem dX5_copyFrom_42 : decode cX5_copyFrom 42 = .ok (.getfield 23, 3) := by decide +kernel
theorem dX5_copyFrom_45 : decode cX5_copyFrom 45 = .ok (.putfield 23, 3) := by decide +kernel
theorem dX5_copyFrom_48 : decode cX5_copyFrom 48 = .ok (.aload_n 0, 1) := by decide +kernel
theorem dX5_copyFrom_49 : decode cX5_copyFrom 49 = .ok (.aload_n 1, 1) := by decide +kernel
theorem dX5_copyFrom_50 : decode cX5_copyFrom 50 = .ok (.getfield 26, 3) := by decide +kernel
theorem dX5_copyFrom_53 : decode cX5_copyFrom 53 = .ok (.putfield 26, 3) := by decide +kernel
theorem dX5_copyFrom_56 : decode cX5_copyFrom 56 = .ok (.aload_n 0, 1) := by decide +kernel
theorem dX5_copyFrom_57 : decode cX5_copyFrom 57 = .ok (.aload_n 1, 1) := by decide +kernel
theorem dX5_copyFrom_58 : decode cX5_copyFrom 58 = .ok (.getfield 48, 3) := by decide +kernel
theorem dX5_copyFrom_61 : decode cX5_copyFrom 61 = .ok (.putfield 48, 3) := by decide +kernel
theorem dX5_copyFrom_64 : decode cX5_copyFrom 64 = .ok (.aload_n 0, 1) := by decide +kernel
theorem dX5_copyFrom_65 : decode cX5_copyFrom 65 = .ok (.aload_n 1, 1) := by decide +kernel
theorem dX5_copyFrom_66 : decode cX5_copyFrom 66 = .ok (.getfield 29, 3) := by decide +kernel
theorem dX5_copyFrom_69 : decode cX5_copyFrom 69 = .ok (.putfield 29, 3) := by decide +kernel
theorem dX5_copyFrom_72 : decode cX5_copyFrom 72 = .ok (.aload_n 0, 1) := by decide +kernel
theorem dX5_copyFrom_73 : decode cX5_copyFrom 73 = .ok (.aload_n 1, 1) := by decide +kernel
theorem dX5_copyFrom_74 : decode cX5_copyFrom 74 = .ok (.getfield 33, 3) := by decide +kernel
theorem dX5_copyFrom_77 : decode cX5_copyFrom 77 = .ok (.putfield 33, 3) := by decide +kernel
theorem dX5_copyFrom_80 : decode cX5_copyFrom 80 = .ok (.aload_n 1, 1) := by decide +kernel
theorem dX5_copyFrom_81 : decode cX5_copyFrom 81 = .ok (.getfield 11, 3) := by decide +kernel
theorem dX5_copyFrom_84 : decode cX5_copyFrom 84 = .ok (.iconst 0, 1) := by decide +kernel
theorem dX5_copyFrom_85 : decode cX5_copyFrom 85 = .ok (.aload_n 0, 1) := by decide +kernel
theorem dX5_copyFrom_86 : decode cX5_copyFrom 86 = .ok (.getfield 11, 3) := by decide +kernel
theorem dX5_copyFrom_89 : decode cX5_copyFrom 89 = .ok (.iconst 0, 1) := by decide +kernel
theorem dX5_copyFrom_90 : decode cX5_copyFrom 90 = .ok (.iconst 5, 1) := by decide +kernel
theorem dX5_copyFrom_91 : decode cX5_copyFrom 91 = .ok (.invokestatic 60, 3) := by decide +kernel
theorem dX5_copyFrom_94 : decode cX5_copyFrom 94 = .ok (.aload_n 0, 1) := by decide +kernel
theorem dX5_copyFrom_95 : decode cX5_copyFrom 95 = .ok (.aload_n 1, 1) := by decide +kernel
theorem dX5_copyFrom_96 : decode cX5_copyFrom 96 = .ok (.getfield 51, 3) := by decide +kernel
theorem dX5_copyFrom_99 : decode cX5_copyFrom 99 = .ok (.putfield 51, 3) := by decide +kernel
theorem dX5_copyFrom_102 : decode cX5_copyFrom 102 = .ok (.aload_n 0, 1) := by decide +kernel
theorem dX5_copyFrom_103 : decode cX5_copyFrom 103 = .ok (.aload_n 1, 1) := by decide +kernel
theorem dX5_copyFrom_104 : decode cX5_copyFrom 104 = .ok (.getfield 54, 3) := by decide +kernel
theorem dX5_copyFrom_107 : decode cX5_copyFrom 107 = .ok (.putfield 54, 3) := by decide +kernel
theorem dX5_copyFrom_110 : decode cX5_copyFrom 110 = .ok (.aload_n 0, 1) := by decide +kernel
theorem dX5_copyFrom_111 : decode cX5_copyFrom 111 = .ok (.aload_n 1, 1) := by decide +kernel
theorem dX5_copyFrom_112 : decode cX5_copyFrom 112 = .ok (.getfield 57, 3) := by decide +kernel
theorem dX5_copyFrom_115 : decode cX5_copyFrom 115 = .ok (.putfield 57, 3) := by decide +kernel
theorem dX5_copyFrom_118 : decode cX5_copyFrom 118 = .ok (.return_, 1) := by decide +kernel
theorem dX5_slip_0 : decode cX5_slip 0 = .ok (.iload_n 1, 1) := by decide +kernel
theorem dX5_slip_1 : decode cX5_slip 1 = .ok (.ifCond .gt 7, 3) := by decide +kernel
theorem dX5_slip_4 : decode cX5_slip 4 = .ok (.iconst 0, 1) := by decide +kernel
theorem dX5_slip_5 : decode cX5_slip 5 = .ok (.goto 17, 3) := by decide +kernel
theorem dX5_slip_8 : decode cX5_slip 8 = .ok (.sipush 1000, 3) := by decide +kernel
theorem dX5_slip_11 : decode cX5_slip 11 = .ok (.iload_n 1, 1) := by decide +kernel
theorem dX5_slip_12 : decode cX5_slip 12 = .ok (.aload_n 0, 1) := by decide +kernel
theorem dX5_slip_13 : decode cX5_slip 13 = .ok (.getfield 36, 3) := by decide +kernel
theorem dX5_slip_16 : decode cX5_slip 16 = .ok (.isub, 1) := by decide +kernel
theorem dX5_slip_17 : decode cX5_slip 17 = .ok (.imul, 1) := by decide +kernel
theorem dX5_slip_18 : decode cX5_slip 18 = .ok (.iload_n 1, 1) := by decide +kernel
theorem dX5_slip_19 : decode cX5_slip 19 = .ok (.invokestatic 66, 3) := by decide +kernel
theorem dX5_slip_22 : decode cX5_slip 22 = .ok (.ireturn, 1) := by decide +kernel
theorem dX5_turn_0 : decode cX5_turn 0 = .ok (.aload_n 0, 1) := by decide +kernel
theorem dX5_turn_1 : decode cX5_turn 1 = .ok (.aload_n 0, 1) := by decide +kernel
theorem dX5_turn_2 : decode cX5_turn 2 = .ok (.getfield 36, 3) := by decide +kernel
theorem dX5_turn_5 : decode cX5_turn 5 = .ok (.iconst 2, 1) := by decide +kernel
theorem dX5_turn_6 : decode cX5_turn 6 = .ok (.aload_n 0, 1) := by decide +kernel
theorem dX5_turn_7 : decode cX5_turn 7 = .ok (.getfield 72, 3) := by decide +kernel
theorem dX5_turn_10 : decode cX5_turn 10 = .ok (.aload_n 0, 1) := by decide +kernel
theorem dX5_turn_11 : decode cX5_turn 11 = .ok (.getfield 39, 3) := by decide +kernel
theorem dX5_turn_14 : decode cX5_turn 14 = .ok (.isub, 1) := by decide +kernel
theorem dX5_turn_15 : decode cX5_turn 15 = .ok (.imul, 1) := by decide +kernel
theorem dX5_turn_16 : decode cX5_turn 16 = .ok (.iadd, 1) := by decide +kernel
theorem dX5_turn_17 : decode cX5_turn 17 = .ok (.iconst 0, 1) := by decide +kernel
theorem dX5_turn_18 : decode cX5_turn 18 = .ok (.invokestatic 75, 3) := by decide +kernel
theorem dX5_turn_21 : decode cX5_turn 21 = .ok (.iload_n 1, 1) := by decide +kernel
theorem dX5_turn_22 : decode cX5_turn 22 = .ok (.invokestatic 78, 3) := by decide +kernel
theorem dX5_turn_25 : decode cX5_turn 25 = .ok (.putfield 36, 3) := by decide +kernel
theorem dX5_turn_28 : decode cX5_turn 28 = .ok (.return_, 1) := by decide +kernel
theorem dX5_countLocked_0 : decode cX5_countLocked 0 = .ok (.aload_n 0, 1) := by decide +kernel
theorem dX5_countLocked_1 : decode cX5_countLocked 1 = .ok (.getfield 36, 3) := by decide +kernel
theorem dX5_countLocked_4 : decode cX5_countLocked 4 = .ok (.ifCond .ne 20, 3) := by decide +kernel
theorem dX5_countLocked_7 : decode cX5_countLocked 7 = .ok (.iload_n 1, 1) := by decide +kernel
theorem dX5_countLocked_8 : decode cX5_countLocked 8 = .ok (.sipush 1400, 3) := by decide +kernel
theorem dX5_countLocked_11 : decode cX5_countLocked 11 = .ok (.if_icmp .le 13, 3) := by decide +kernel
theorem dX5_countLocked_14 : decode cX5_countLocked 14 = .ok (.aload_n 0, 1) := by decide +kernel
theorem dX5_countLocked_15 : decode cX5_countLocked 15 = .ok (.dup, 1) := by decide +kernel
theorem dX5_countLocked_16 : decode cX5_countLocked 16 = .ok (.getfield 26, 3) := by decide +kernel
theorem dX5_countLocked_19 : decode cX5_countLocked 19 = .ok (.iconst 1, 1) := by decide +kernel
theorem dX5_countLocked_20 : decode cX5_countLocked 20 = .ok (.iadd, 1) := by decide +kernel
theorem dX5_countLocked_21 : decode cX5_countLocked 21 = .ok (.putfield 26, 3) := by decide +kernel
theorem dX5_countLocked_24 : decode cX5_countLocked 24 = .ok (.return_, 1) := by decide +kernel
theorem dX5_measure_0 : decode cX5_measure 0 = .ok (.aload_n 0, 1) := by decide +kernel
theorem dX5_measure_1 : decode cX5_measure 1 = .ok (.getfield 51, 3) := by decide +kernel
theorem dX5_measure_4 : decode cX5_measure 4 = .ok (.iconst 5, 1) := by decide +kernel
theorem dX5_measure_5 : decode cX5_measure 5 = .ok (.if_icmp .lt 7, 3) := by decide +kernel
theorem dX5_measure_8 : decode cX5_measure 8 = .ok (.aload_n 0, 1) := by decide +kernel
theorem dX5_measure_9 : decode cX5_measure 9 = .ok (.invokevirtual 81, 3) := by decide +kernel
theorem dX5_measure_12 : decode cX5_measure 12 = .ok (.aload_n 0, 1) := by decide +kernel
theorem dX5_measure_13 : decode cX5_measure 13 = .ok (.getfield 11, 3) := by decide +kernel
theorem dX5_measure_16 : decode cX5_measure 16 = .ok (.aload_n 0, 1) := by decide +kernel
theorem dX5_measure_17 : decode cX5_measure 17 = .ok (.getfield 51, 3) := by decide +kernel
theorem dX5_measure_20 : decode cX5_measure 20 = .ok (.aload_n 0, 1) := by decide +kernel
theorem dX5_measure_21 : decode cX5_measure 21 = .ok (.getfield 33, 3) := by decide +kernel
theorem dX5_measure_24 : decode cX5_measure 24 = .ok (.ifCond .eq 7, 3) := by decide +kernel
theorem dX5_measure_27 : decode cX5_measure 27 = .ok (.iconst 0, 1) := by decide +kernel
theorem dX5_measure_28 : decode cX5_measure 28 = .ok (.goto 7, 3) := by decide +kernel
theorem dX5_measure_31 : decode cX5_measure 31 = .ok (.aload_n 0, 1) := by decide +kernel
theorem dX5_measure_32 : decode cX5_measure 32 = .ok (.getfield 36, 3) := by decide +kernel
theorem dX5_measure_35 : decode cX5_measure 35 = .ok (.iastore, 1) := by decide +kernel
theorem dX5_measure_36 : decode cX5_measure 36 = .ok (.aload_n 0, 1) := by decide +kernel
theorem dX5_measure_37 : decode cX5_measure 37 = .ok (.dup, 1) := by decide +kernel
theorem dX5_measure_38 : decode cX5_measure 38 = .ok (.getfield 51, 3) := by decide +kernel
theorem dX5_measure_41 : decode cX5_measure 41 = .ok (.iconst 1, 1) := by decide +kernel
theorem dX5_measure_42 : decode cX5_measure 42 = .ok (.iadd, 1) := by decide +kernel
theorem dX5_measure_43 : decode cX5_measure 43 = .ok (.putfield 51, 3) := by decide +kernel
theorem dX5_measure_46 : decode cX5_measure 46 = .ok (.aload_n 0, 1) := by decide +kernel
theorem dX5_measure_47 : decode cX5_measure 47 = .ok (.aload_n 0, 1) := by decide +kernel
theorem dX5_measure_48 : decode cX5_measure 48 = .ok (.getfield 51, 3) := by decide +kernel
theorem dX5_measure_51 : decode cX5_measure 51 = .ok (.iconst 2, 1) := by decide +kernel
theorem dX5_measure_52 : decode cX5_measure 52 = .ok (.if_icmp .ge 7, 3) := by decide +kernel
theorem dX5_measure_55 : decode cX5_measure 55 = .ok (.iconst 0, 1) := by decide +kernel
theorem dX5_measure_56 : decode cX5_measure 56 = .ok (.goto 23, 3) := by decide +kernel
theorem dX5_measure_59 : decode cX5_measure 59 = .ok (.aload_n 0, 1) := by decide +kernel
theorem dX5_measure_60 : decode cX5_measure 60 = .ok (.invokevirtual 84, 3) := by decide +kernel
theorem dX5_measure_63 : decode cX5_measure 63 = .ok (.aload_n 0, 1) := by decide +kernel
theorem dX5_measure_64 : decode cX5_measure 64 = .ok (.getfield 11, 3) := by decide +kernel
theorem dX5_measure_67 : decode cX5_measure 67 = .ok (.iconst 0, 1) := by decide +kernel
theorem dX5_measure_68 : decode cX5_measure 68 = .ok (.iaload, 1) := by decide +kernel
theorem dX5_measure_69 : decode cX5_measure 69 = .ok (.isub, 1) := by decide +kernel
theorem dX5_measure_70 : decode cX5_measure 70 = .ok (.aload_n 0, 1) := by decide +kernel
theorem dX5_measure_71 : decode cX5_measure 71 = .ok (.getfield 51, 3) := by decide +kernel
theorem dX5_measure_74 : decode cX5_measure 74 = .ok (.iconst 1, 1) := by decide +kernel
theorem dX5_measure_75 : decode cX5_measure 75 = .ok (.isub, 1) := by decide +kernel
theorem dX5_measure_76 : decode cX5_measure 76 = .ok (.invokestatic 66, 3) := by decide +kernel
theorem dX5_measure_79 : decode cX5_measure 79 = .ok (.putfield 54, 3) := by decide +kernel
theorem dX5_measure_82 : decode cX5_measure 82 = .ok (.return_, 1) := by decide +kernel
theorem dX5_forgetOldest_0 : decode cX5_forgetOldest 0 = .ok (.aload_n 0, 1) := by decide +kernel
theorem dX5_forgetOldest_1 : decode cX5_forgetOldest 1 = .ok (.getfield 11, 3) := by decide +kernel
theorem dX5_forgetOldest_4 : decode cX5_forgetOldest 4 = .ok (.iconst 1, 1) := by decide +kernel
theorem dX5_forgetOldest_5 : decode cX5_forgetOldest 5 = .ok (.aload_n 0, 1) := by decide +kernel
theorem dX5_forgetOldest_6 : decode cX5_forgetOldest 6 = .ok (.getfield 11, 3) := by decide +kernel
theorem dX5_forgetOldest_9 : decode cX5_forgetOldest 9 = .ok (.iconst 0, 1) := by decide +kernel
theorem dX5_forgetOldest_10 : decode cX5_forgetOldest 10 = .ok (.iconst 4, 1) := by decide +kernel
theorem dX5_forgetOldest_11 : decode cX5_forgetOldest 11 = .ok (.invokestatic 60, 3) := by decide +kernel
theorem dX5_forgetOldest_14 : decode cX5_forgetOldest 14 = .ok (.aload_n 0, 1) := by decide +kernel
theorem dX5_forgetOldest_15 : decode cX5_forgetOldest 15 = .ok (.iconst 4, 1) := by decide +kernel
theorem dX5_forgetOldest_16 : decode cX5_forgetOldest 16 = .ok (.putfield 51, 3) := by decide +kernel
theorem dX5_forgetOldest_19 : decode cX5_forgetOldest 19 = .ok (.return_, 1) := by decide +kernel
theorem dX5_latest_0 : decode cX5_latest 0 = .ok (.aload_n 0, 1) := by decide +kernel
theorem dX5_latest_1 : decode cX5_latest 1 = .ok (.getfield 51, 3) := by decide +kernel
theorem dX5_latest_4 : decode cX5_latest 4 = .ok (.ifCond .le 17, 3) := by decide +kernel
theorem dX5_latest_7 : decode cX5_latest 7 = .ok (.aload_n 0, 1) := by decide +kernel
theorem dX5_latest_8 : decode cX5_latest 8 = .ok (.getfield 11, 3) := by decide +kernel
theorem dX5_latest_11 : decode cX5_latest 11 = .ok (.aload_n 0, 1) := by decide +kernel
theorem dX5_latest_12 : decode cX5_latest 12 = .ok (.getfield 51, 3) := by decide +kernel
theorem dX5_latest_15 : decode cX5_latest 15 = .ok (.iconst 1, 1) := by decide +kernel
theorem dX5_latest_16 : decode cX5_latest 16 = .ok (.isub, 1) := by decide +kernel
theorem dX5_latest_17 : decode cX5_latest 17 = .ok (.iaload, 1) := by decide +kernel
theorem dX5_latest_18 : decode cX5_latest 18 = .ok (.goto 4, 3) := by decide +kernel
theorem dX5_latest_21 : decode cX5_latest 21 = .ok (.iconst 0, 1) := by decide +kernel
theorem dX5_latest_22 : decode cX5_latest 22 = .ok (.ireturn, 1) := by decide +kernel
theorem dX5_estimateSlip_0 : decode cX5_estimateSlip 0 = .ok (.iload_n 1, 1) := by decide +kernel
theorem dX5_estimateSlip_1 : decode cX5_estimateSlip 1 = .ok (.aload_n 0, 1) := by decide +kernel
theorem dX5_estimateSlip_2 : decode cX5_estimateSlip 2 = .ok (.invokevirtual 84, 3) := by decide +kernel
theorem dX5_estimateSlip_5 : decode cX5_estimateSlip 5 = .ok (.isub, 1) := by decide +kernel
theorem dX5_estimateSlip_6 : decode cX5_estimateSlip 6 = .ok (.istore_n 2, 1) := by decide +kernel
theorem dX5_estimateSlip_7 : decode cX5_estimateSlip 7 = .ok (.aload_n 0, 1) := by decide +kernel
theorem dX5_estimateSlip_8 : decode cX5_estimateSlip 8 = .ok (.iload_n 1, 1) := by decide +kernel
theorem dX5_estimateSlip_9 : decode cX5_estimateSlip 9 = .ok (.ifCond .le 7, 3) := by decide +kernel
theorem dX5_estimateSlip_12 : decode cX5_estimateSlip 12 = .ok (.iload_n 2, 1) := by decide +kernel
theorem dX5_estimateSlip_13 : decode cX5_estimateSlip 13 = .ok (.ifCond .gt 7, 3) := by decide +kernel
theorem dX5_estimateSlip_16 : decode cX5_estimateSlip 16 = .ok (.iconst 0, 1) := by decide +kernel
theorem dX5_estimateSlip_17 : decode cX5_estimateSlip 17 = .ok (.goto 12, 3) := by decide +kernel
theorem dX5_estimateSlip_20 : decode cX5_estimateSlip 20 = .ok (.sipush 1000, 3) := by decide +kernel
theorem dX5_estimateSlip_23 : decode cX5_estimateSlip 23 = .ok (.iload_n 2, 1) := by decide +kernel
theorem dX5_estimateSlip_24 : decode cX5_estimateSlip 24 = .ok (.imul, 1) := by decide +kernel
theorem dX5_estimateSlip_25 : decode cX5_estimateSlip 25 = .ok (.iload_n 1, 1) := by decide +kernel
theorem dX5_estimateSlip_26 : decode cX5_estimateSlip 26 = .ok (.invokestatic 66, 3) := by decide +kernel
theorem dX5_estimateSlip_29 : decode cX5_estimateSlip 29 = .ok (.putfield 57, 3) := by decide +kernel
theorem dX5_estimateSlip_32 : decode cX5_estimateSlip 32 = .ok (.return_, 1) := by decide +kernel
theorem dX5_enter_0 : decode cX5_enter 0 = .ok (.aload_n 0, 1) := by decide +kernel
theorem dX5_enter_1 : decode cX5_enter 1 = .ok (.iload_n 1, 1) := by decide +kernel
theorem dX5_enter_2 : decode cX5_enter 2 = .ok (.putfield 42, 3) := by decide +kernel
theorem dX5_enter_5 : decode cX5_enter 5 = .ok (.aload_n 0, 1) := by decide +kernel
theorem dX5_enter_6 : decode cX5_enter 6 = .ok (.iconst 0, 1) := by decide +kernel
theorem dX5_enter_7 : decode cX5_enter 7 = .ok (.putfield 45, 3) := by decide +kernel
theorem dX5_enter_10 : decode cX5_enter 10 = .ok (.aload_n 0, 1) := by decide +kernel
theorem dX5_enter_11 : decode cX5_enter 11 = .ok (.dup, 1) := by decide +kernel
theorem dX5_enter_12 : decode cX5_enter 12 = .ok (.getfield 23, 3) := by decide +kernel
theorem dX5_enter_15 : decode cX5_enter 15 = .ok (.iconst 1, 1) := by decide +kernel
theorem dX5_enter_16 : decode cX5_enter 16 = .ok (.iadd, 1) := by decide +kernel
theorem dX5_enter_17 : decode cX5_enter 17 = .ok (.putfield 23, 3) := by decide +kernel
theorem dX5_enter_20 : decode cX5_enter 20 = .ok (.iload_n 1, 1) := by decide +kernel
theorem dX5_enter_21 : decode cX5_enter 21 = .ok (.iconst 2, 1) := by decide +kernel
theorem dX5_enter_22 : decode cX5_enter 22 = .ok (.if_icmp .ne 13, 3) := by decide +kernel
theorem dX5_enter_25 : decode cX5_enter 25 = .ok (.aload_n 0, 1) := by decide +kernel
theorem dX5_enter_26 : decode cX5_enter 26 = .ok (.dup, 1) := by decide +kernel
theorem dX5_enter_27 : decode cX5_enter 27 = .ok (.getfield 19, 3) := by decide +kernel
theorem dX5_enter_30 : decode cX5_enter 30 = .ok (.iconst 1, 1) := by decide +kernel
theorem dX5_enter_31 : decode cX5_enter 31 = .ok (.iadd, 1) := by decide +kernel
theorem dX5_enter_32 : decode cX5_enter 32 = .ok (.putfield 19, 3) := by decide +kernel
theorem dX5_enter_35 : decode cX5_enter 35 = .ok (.return_, 1) := by decide +kernel
theorem dX5_movePressure_0 : decode cX5_movePressure 0 = .ok (.aload_n 0, 1) := by decide +kernel
theorem dX5_movePressure_1 : decode cX5_movePressure 1 = .ok (.getfield 42, 3) := by decide +kernel
theorem dX5_movePressure_4 : decode cX5_movePressure 4 = .ok (.tableswitch 81 1 4 #[32, 81, 32, 47], 32) := by decide +kernel
theorem dX5_movePressure_36 : decode cX5_movePressure 36 = .ok (.aload_n 0, 1) := by decide +kernel
theorem dX5_movePressure_37 : decode cX5_movePressure 37 = .ok (.aload_n 0, 1) := by decide +kernel
theorem dX5_movePressure_38 : decode cX5_movePressure 38 = .ok (.getfield 39, 3) := by decide +kernel
theorem dX5_movePressure_41 : decode cX5_movePressure 41 = .ok (.iload_n 1, 1) := by decide +kernel
theorem dX5_movePressure_42 : decode cX5_movePressure 42 = .ok (.invokestatic 78, 3) := by decide +kernel
theorem dX5_movePressure_45 : decode cX5_movePressure 45 = .ok (.putfield 39, 3) := by decide +kernel
theorem dX5_movePressure_48 : decode cX5_movePressure 48 = .ok (.goto 74, 3) := by decide +kernel
theorem dX5_movePressure_51 : decode cX5_movePressure 51 = .ok (.aload_n 0, 1) := by decide +kernel
theorem dX5_movePressure_52 : decode cX5_movePressure 52 = .ok (.aload_n 0, 1) := by decide +kernel
theorem dX5_movePressure_53 : decode cX5_movePressure 53 = .ok (.getfield 45, 3) := by decide +kernel
theorem dX5_movePressure_56 : decode cX5_movePressure 56 = .ok (.iconst 2, 1) := by decide +kernel
theorem dX5_movePressure_57 : decode cX5_movePressure 57 = .ok (.irem, 1) := by decide +kernel
theorem dX5_movePressure_58 : decode cX5_movePressure 58 = .ok (.ifCond .eq 13, 3) := by decide +kernel
theorem dX5_movePressure_61 : decode cX5_movePressure 61 = .ok (.aload_n 0, 1) := by decide +kernel
theorem dX5_movePressure_62 : decode cX5_movePressure 62 = .ok (.getfield 39, 3) := by decide +kernel
theorem dX5_movePressure_65 : decode cX5_movePressure 65 = .ok (.bipush 20, 2) := by decide +kernel
theorem dX5_movePressure_67 : decode cX5_movePressure 67 = .ok (.iadd, 1) := by decide +kernel
theorem dX5_movePressure_68 : decode cX5_movePressure 68 = .ok (.goto 7, 3) := by decide +kernel
theorem dX5_movePressure_71 : decode cX5_movePressure 71 = .ok (.aload_n 0, 1) := by decide +kernel
theorem dX5_movePressure_72 : decode cX5_movePressure 72 = .ok (.getfield 39, 3) := by decide +kernel
theorem dX5_movePressure_75 : decode cX5_movePressure 75 = .ok (.iload_n 1, 1) := by decide +kernel
theorem dX5_movePressure_76 : decode cX5_movePressure 76 = .ok (.invokestatic 78, 3) := by decide +kernel
theorem dX5_movePressure_79 : decode cX5_movePressure 79 = .ok (.putfield 39, 3) := by decide +kernel
theorem dX5_movePressure_82 : decode cX5_movePressure 82 = .ok (.goto 40, 3) := by decide +kernel
theorem dX5_movePressure_85 : decode cX5_movePressure 85 = .ok (.aload_n 0, 1) := by decide +kernel
theorem dX5_movePressure_86 : decode cX5_movePressure 86 = .ok (.aload_n 0, 1) := by decide +kernel
theorem dX5_movePressure_87 : decode cX5_movePressure 87 = .ok (.getfield 39, 3) := by decide +kernel
theorem dX5_movePressure_90 : decode cX5_movePressure 90 = .ok (.iload_n 1, 1) := by decide +kernel
theorem dX5_movePressure_91 : decode cX5_movePressure 91 = .ok (.if_icmp .ge 17, 3) := by decide +kernel
theorem dX5_movePressure_94 : decode cX5_movePressure 94 = .ok (.aload_n 0, 1) := by decide +kernel
theorem dX5_movePressure_95 : decode cX5_movePressure 95 = .ok (.getfield 39, 3) := by decide +kernel
theorem dX5_movePressure_98 : decode cX5_movePressure 98 = .ok (.bipush 40, 2) := by decide +kernel
theorem dX5_movePressure_100 : decode cX5_movePressure 100 = .ok (.iadd, 1) := by decide +kernel
theorem dX5_movePressure_101 : decode cX5_movePressure 101 = .ok (.iload_n 1, 1) := by decide +kernel
theorem dX5_movePressure_102 : decode cX5_movePressure 102 = .ok (.invokestatic 78, 3) := by decide +kernel
theorem dX5_movePressure_105 : decode cX5_movePressure 105 = .ok (.goto 14, 3) := by decide +kernel
theorem dX5_movePressure_108 : decode cX5_movePressure 108 = .ok (.aload_n 0, 1) := by decide +kernel
theorem dX5_movePressure_109 : decode cX5_movePressure 109 = .ok (.getfield 39, 3) := by decide +kernel
theorem dX5_movePressure_112 : decode cX5_movePressure 112 = .ok (.bipush 80, 2) := by decide +kernel
theorem dX5_movePressure_114 : decode cX5_movePressure 114 = .ok (.isub, 1) := by decide +kernel
theorem dX5_movePressure_115 : decode cX5_movePressure 115 = .ok (.iload_n 1, 1) := by decide +kernel
theorem dX5_movePressure_116 : decode cX5_movePressure 116 = .ok (.invokestatic 75, 3) := by decide +kernel
theorem dX5_movePressure_119 : decode cX5_movePressure 119 = .ok (.putfield 39, 3) := by decide +kernel
theorem dX5_movePressure_122 : decode cX5_movePressure 122 = .ok (.return_, 1) := by decide +kernel
theorem dX6_init_0 : decode cX6_init 0 = .ok (.aload_n 0, 1) := by decide +kernel
theorem dX6_init_1 : decode cX6_init 1 = .ok (.invokespecial 1, 3) := by decide +kernel
theorem dX6_init_4 : decode cX6_init 4 = .ok (.aload_n 0, 1) := by decide +kernel
theorem dX6_init_5 : decode cX6_init 5 = .ok (.new 7, 3) := by decide +kernel
theorem dX6_init_8 : decode cX6_init 8 = .ok (.dup, 1) := by decide +kernel
theorem dX6_init_9 : decode cX6_init 9 = .ok (.invokespecial 9, 3) := by decide +kernel
theorem dX6_init_12 : decode cX6_init 12 = .ok (.putfield 10, 3) := by decide +kernel
theorem dX6_init_15 : decode cX6_init 15 = .ok (.aload_n 0, 1) := by decide +kernel
theorem dX6_init_16 : decode cX6_init 16 = .ok (.new 7, 3) := by decide +kernel
theorem dX6_init_19 : decode cX6_init 19 = .ok (.dup, 1) := by decide +kernel
theorem dX6_init_20 : decode cX6_init 20 = .ok (.invokespecial 9, 3) := by decide +kernel
theorem dX6_init_23 : decode cX6_init 23 = .ok (.putfield 16, 3) := by decide +kernel
theorem dX6_init_26 : decode cX6_init 26 = .ok (.aload_n 0, 1) := by decide +kernel
theorem dX6_init_27 : decode cX6_init 27 = .ok (.iconst 3, 1) := by decide +kernel
theorem dX6_init_28 : decode cX6_init 28 = .ok (.anewarray 7, 3) := by decide +kernel
theorem dX6_init_31 : decode cX6_init 31 = .ok (.putfield 19, 3) := by decide +kernel
theorem dX6_init_34 : decode cX6_init 34 = .ok (.iconst 0, 1) := by decide +kernel
theorem dX6_init_35 : decode cX6_init 35 = .ok (.istore_n 1, 1) := by decide +kernel
theorem dX6_init_36 : decode cX6_init 36 = .ok (.iload_n 1, 1) := by decide +kernel
theorem dX6_init_37 : decode cX6_init 37 = .ok (.iconst 3, 1) := by decide +kernel
theorem dX6_init_38 : decode cX6_init 38 = .ok (.if_icmp .ge 22, 3) := by decide +kernel
theorem dX6_init_41 : decode cX6_init 41 = .ok (.aload_n 0, 1) := by decide +kernel
theorem dX6_init_42 : decode cX6_init 42 = .ok (.getfield 19, 3) := by decide +kernel
theorem dX6_init_45 : decode cX6_init 45 = .ok (.iload_n 1, 1) := by decide +kernel
theorem dX6_init_46 : decode cX6_init 46 = .ok (.new 7, 3) := by decide +kernel
theorem dX6_init_49 : decode cX6_init 49 = .ok (.dup, 1) := by decide +kernel
theorem dX6_init_50 : decode cX6_init 50 = .ok (.invokespecial 9, 3) := by decide +kernel
theorem dX6_init_53 : decode cX6_init 53 = .ok (.aastore, 1) := by decide +kernel
theorem dX6_init_54 : decode cX6_init 54 = .ok (.iinc 1 1, 3) := by decide +kernel
theorem dX6_init_57 : decode cX6_init 57 = .ok (.goto (-21), 3) := by decide +kernel
theorem dX6_init_60 : decode cX6_init 60 = .ok (.aload_n 0, 1) := by decide +kernel
theorem dX6_init_61 : decode cX6_init 61 = .ok (.iconst 0, 1) := by decide +kernel
theorem dX6_init_62 : decode cX6_init 62 = .ok (.putfield 23, 3) := by decide +kernel
theorem dX6_init_65 : decode cX6_init 65 = .ok (.return_, 1) := by decide +kernel
theorem dX6_setSpeed_0 : decode cX6_setSpeed 0 = .ok (.iload_n 1, 1) := by decide +kernel
theorem dX6_setSpeed_1 : decode cX6_setSpeed 1 = .ok (.iconst 0, 1) := by decide +kernel
theorem dX6_setSpeed_2 : decode cX6_setSpeed 2 = .ok (.ldc 27, 2) := by decide +kernel
theorem dX6_setSpeed_4 : decode cX6_setSpeed 4 = .ok (.invokestatic 28, 3) := by decide +kernel
theorem dX6_setSpeed_7 : decode cX6_setSpeed 7 = .ok (.ifCond .ne 13, 3) := by decide +kernel
theorem dX6_setSpeed_10 : decode cX6_setSpeed 10 = .ok (.new 32, 3) := by decide +kernel
theorem dX6_setSpeed_13 : decode cX6_setSpeed 13 = .ok (.dup, 1) := by decide +kernel
theorem dX6_setSpeed_14 : decode cX6_setSpeed 14 = .ok (.ldc 34, 2) := by decide +kernel
theorem dX6_setSpeed_16 : decode cX6_setSpeed 16 = .ok (.invokespecial 36, 3) := by decide +kernel
theorem dX6_setSpeed_19 : decode cX6_setSpeed 19 = .ok (.athrow, 1) := by decide +kernel
theorem dX6_setSpeed_20 : decode cX6_setSpeed 20 = .ok (.aload_n 0, 1) := by decide +kernel
theorem dX6_setSpeed_21 : decode cX6_setSpeed 21 = .ok (.invokevirtual 39, 3) := by decide +kernel
theorem dX6_setSpeed_24 : decode cX6_setSpeed 24 = .ok (.aload_n 0, 1) := by decide +kernel
theorem dX6_setSpeed_25 : decode cX6_setSpeed 25 = .ok (.getfield 10, 3) := by decide +kernel
theorem dX6_setSpeed_28 : decode cX6_setSpeed 28 = .ok (.getfield 42, 3) := by decide +kernel
theorem dX6_setSpeed_31 : decode cX6_setSpeed 31 = .ok (.istore_n 2, 1) := by decide +kernel
theorem dX6_setSpeed_32 : decode cX6_setSpeed 32 = .ok (.aload_n 0, 1) := by decide +kernel
theorem dX6_setSpeed_33 : decode cX6_setSpeed 33 = .ok (.getfield 10, 3) := by decide +kernel
theorem dX6_setSpeed_36 : decode cX6_setSpeed 36 = .ok (.iload_n 1, 1) := by decide +kernel
theorem dX6_setSpeed_37 : decode cX6_setSpeed 37 = .ok (.invokevirtual 45, 3) := by decide +kernel
theorem dX6_setSpeed_40 : decode cX6_setSpeed 40 = .ok (.iload_n 2, 1) := by decide +kernel
theorem dX6_setSpeed_41 : decode cX6_setSpeed 41 = .ok (.ireturn, 1) := by decide +kernel
theorem dX6_addSegment_0 : decode cX6_addSegment 0 = .ok (.iload_n 1, 1) := by decide +kernel
theorem dX6_addSegment_1 : decode cX6_addSegment 1 = .ok (.aload_n 0, 1) := by decide +kernel
theorem dX6_addSegment_2 : decode cX6_addSegment 2 = .ok (.getfield 10, 3) := by decide +kernel
theorem dX6_addSegment_5 : decode cX6_addSegment 5 = .ok (.getfield 49, 3) := by decide +kernel
theorem dX6_addSegment_8 : decode cX6_addSegment 8 = .ok (.ldc 52, 2) := by decide +kernel
theorem dX6_addSegment_10 : decode cX6_addSegment 10 = .ok (.invokestatic 28, 3) := by decide +kernel
theorem dX6_addSegment_13 : decode cX6_addSegment 13 = .ok (.ifCond .eq 17, 3) := by decide +kernel
theorem dX6_addSegment_16 : decode cX6_addSegment 16 = .ok (.iload_n 2, 1) := by decide +kernel
theorem dX6_addSegment_17 : decode cX6_addSegment 17 = .ok (.invokestatic 53, 3) := by decide +kernel
theorem dX6_addSegment_20 : decode cX6_addSegment 20 = .ok (.ifCond .eq 10, 3) := by decide +kernel
theorem dX6_addSegment_23 : decode cX6_addSegment 23 = .ok (.iload_n 3, 1) := by decide +kernel
theorem dX6_addSegment_24 : decode cX6_addSegment 24 = .ok (.invokestatic 53, 3) := by decide +kernel
theorem dX6_addSegment_27 : decode cX6_addSegment 27 = .ok (.ifCond .ne 13, 3) := by decide +kernel
theorem dX6_addSegment_30 : decode cX6_addSegment 30 = .ok (.new 32, 3) := by decide +kernel
theorem dX6_addSegment_33 : decode cX6_addSegment 33 = .ok (.dup, 1) := by decide +kernel
theorem dX6_addSegment_34 : decode cX6_addSegment 34 = .ok (.ldc 57, 2) := by decide +kernel
theorem dX6_addSegment_36 : decode cX6_addSegment 36 = .ok (.invokespecial 36, 3) := by decide +kernel
theorem dX6_addSegment_39 : decode cX6_addSegment 39 = .ok (.athrow, 1) := by decide +kernel
theorem dX6_addSegment_40 : decode cX6_addSegment 40 = .ok (.aload_n 0, 1) := by decide +kernel
theorem dX6_addSegment_41 : decode cX6_addSegment 41 = .ok (.getfield 10, 3) := by decide +kernel
theorem dX6_addSegment_44 : decode cX6_addSegment 44 = .ok (.getfield 59, 3) := by decide +kernel
theorem dX6_addSegment_47 : decode cX6_addSegment 47 = .ok (.iload_n 1, 1) := by decide +kernel
theorem dX6_addSegment_48 : decode cX6_addSegment 48 = .ok (.invokevirtual 63, 3) := by decide +kernel
theorem dX6_addSegment_51 : decode cX6_addSegment 51 = .ok (.ifCond .ne 13, 3) := by decide +kernel
theorem dX6_addSegment_54 : decode cX6_addSegment 54 = .ok (.new 68, 3) := by decide +kernel
theorem dX6_addSegment_57 : decode cX6_addSegment 57 = .ok (.dup, 1) := by decide +kernel
theorem dX6_addSegment_58 : decode cX6_addSegment 58 = .ok (.ldc 70, 2) := by decide +kernel
theorem dX6_addSegment_60 : decode cX6_addSegment 60 = .ok (.invokespecial 72, 3) := by decide +kernel
theorem dX6_addSegment_63 : decode cX6_addSegment 63 = .ok (.athrow, 1) := by decide +kernel
theorem dX6_addSegment_64 : decode cX6_addSegment 64 = .ok (.aload_n 0, 1) := by decide +kernel
theorem dX6_addSegment_65 : decode cX6_addSegment 65 = .ok (.invokevirtual 39, 3) := by decide +kernel
theorem dX6_addSegment_68 : decode cX6_addSegment 68 = .ok (.aload_n 0, 1) := by decide +kernel
theorem dX6_addSegment_69 : decode cX6_addSegment 69 = .ok (.getfield 10, 3) := by decide +kernel
theorem dX6_addSegment_72 : decode cX6_addSegment 72 = .ok (.getfield 59, 3) := by decide +kernel
theorem dX6_addSegment_75 : decode cX6_addSegment 75 = .ok (.iload_n 1, 1) := by decide +kernel
theorem dX6_addSegment_76 : decode cX6_addSegment 76 = .ok (.iload_n 2, 1) := by decide +kernel
theorem dX6_addSegment_77 : decode cX6_addSegment 77 = .ok (.iload_n 3, 1) := by decide +kernel
theorem dX6_addSegment_78 : decode cX6_addSegment 78 = .ok (.invokevirtual 73, 3) := by decide +kernel
theorem dX6_addSegment_81 : decode cX6_addSegment 81 = .ok (.aload_n 0, 1) := by decide +kernel
theorem dX6_addSegment_82 : decode cX6_addSegment 82 = .ok (.getfield 10, 3) := by decide +kernel
theorem dX6_addSegment_85 : decode cX6_addSegment 85 = .ok (.getfield 59, 3) := by decide +kernel
theorem dX6_addSegment_88 : decode cX6_addSegment 88 = .ok (.getfield 77, 3) := by decide +kernel
theorem dX6_addSegment_91 : decode cX6_addSegment 91 = .ok (.ireturn, 1) := by decide +kernel
theorem dX6_setDemand_0 : decode cX6_setDemand 0 = .ok (.iload_n 1, 1) := by decide +kernel
theorem dX6_setDemand_1 : decode cX6_setDemand 1 = .ok (.iconst 0, 1) := by decide +kernel
theorem dX6_setDemand_2 : decode cX6_setDemand 2 = .ok (.sipush 2000, 3) := by decide +kernel
theorem dX6_setDemand_5 : decode cX6_setDemand 5 = .ok (.invokestatic 28, 3) := by decide +kernel
theorem dX6_setDemand_8 : decode cX6_setDemand 8 = .ok (.ifCond .ne 13, 3) := by decide +kernel
theorem dX6_setDemand_11 : decode cX6_setDemand 11 = .ok (.new 32, 3) := by decide +kernel
theorem dX6_setDemand_14 : decode cX6_setDemand 14 = .ok (.dup, 1) := by decide +kernel
theorem dX6_setDemand_15 : decode cX6_setDemand 15 = .ok (.ldc 80, 2) := by decide +kernel
theorem dX6_setDemand_17 : decode cX6_setDemand 17 = .ok (.invokespecial 36, 3) := by decide +kernel
theorem dX6_setDemand_20 : decode cX6_setDemand 20 = .ok (.athrow, 1) := by decide +kernel
theorem dX6_setDemand_21 : decode cX6_setDemand 21 = .ok (.aload_n 0, 1) := by decide +kernel
theorem dX6_setDemand_22 : decode cX6_setDemand 22 = .ok (.invokevirtual 39, 3) := by decide +kernel
theorem dX6_setDemand_25 : decode cX6_setDemand 25 = .ok (.aload_n 0, 1) := by decide +kernel
theorem dX6_setDemand_26 : decode cX6_setDemand 26 = .ok (.getfield 10, 3) := by decide +kernel
theorem dX6_setDemand_29 : decode cX6_setDemand 29 = .ok (.getfield 82, 3) := by decide +kernel
theorem dX6_setDemand_32 : decode cX6_setDemand 32 = .ok (.istore_n 2, 1) := by decide +kernel
theorem dX6_setDemand_33 : decode cX6_setDemand 33 = .ok (.aload_n 0, 1) := by decide +kernel
theorem dX6_setDemand_34 : decode cX6_setDemand 34 = .ok (.getfield 10, 3) := by decide +kernel
theorem dX6_setDemand_37 : decode cX6_setDemand 37 = .ok (.iload_n 1, 1) := by decide +kernel
theorem dX6_setDemand_38 : decode cX6_setDemand 38 = .ok (.putfield 82, 3) := by decide +kernel
theorem dX6_setDemand_41 : decode cX6_setDemand 41 = .ok (.iload_n 2, 1) := by decide +kernel
theorem dX6_setDemand_42 : decode cX6_setDemand 42 = .ok (.ireturn, 1) := by decide +kernel
theorem dX6_plan_0 : decode cX6_plan 0 = .ok (.iload_n 1, 1) := by decide +kernel
theorem dX6_plan_1 : decode cX6_plan 1 = .ok (.iconst 1, 1) := by decide +kernel
theorem dX6_plan_2 : decode cX6_plan 2 = .ok (.sipush 5000, 3) := by decide +kernel
theorem dX6_plan_5 : decode cX6_plan 5 = .ok (.invokestatic 28, 3) := by decide +kernel
theorem dX6_plan_8 : decode cX6_plan 8 = .ok (.ifCond .eq 14, 3) := by decide +kernel
theorem dX6_plan_11 : decode cX6_plan 11 = .ok (.iload_n 2, 1) := by decide +kernel
theorem dX6_plan_12 : decode cX6_plan 12 = .ok (.iconst 0, 1) := by decide +kernel
theorem dX6_plan_13 : decode cX6_plan 13 = .ok (.sipush 2000, 3) := by decide +kernel
theorem dX6_plan_16 : decode cX6_plan 16 = .ok (.invokestatic 28, 3) := by decide +kernel
theorem dX6_plan_19 : decode cX6_plan 19 = .ok (.ifCond .ne 13, 3) := by decide +kernel
theorem dX6_plan_22 : decode cX6_plan 22 = .ok (.new 32, 3) := by decide +kernel
theorem dX6_plan_25 : decode cX6_plan 25 = .ok (.dup, 1) := by decide +kernel
theorem dX6_plan_26 : decode cX6_plan 26 = .ok (.ldc 57, 2) := by decide +kernel
theorem dX6_plan_28 : decode cX6_plan 28 = .ok (.invokespecial 36, 3) := by decide +kernel
theorem dX6_plan_31 : decode cX6_plan 31 = .ok (.athrow, 1) := by decide +kernel
theorem dX6_plan_32 : decode cX6_plan 32 = .ok (.aload_n 0, 1) := by decide +kernel
theorem dX6_plan_33 : decode cX6_plan 33 = .ok (.getfield 10, 3) := by decide +kernel
theorem dX6_plan_36 : decode cX6_plan 36 = .ok (.getfield 85, 3) := by decide +kernel
theorem dX6_plan_39 : decode cX6_plan 39 = .ok (.invokevirtual 89, 3) := by decide +kernel
theorem dX6_plan_42 : decode cX6_plan 42 = .ok (.ifCond .eq 13, 3) := by decide +kernel
theorem dX6_plan_45 : decode cX6_plan 45 = .ok (.new 68, 3) := by decide +kernel
theorem dX6_plan_48 : decode cX6_plan 48 = .ok (.dup, 1) := by decide +kernel
theorem dX6_plan_49 : decode cX6_plan 49 = .ok (.ldc 95, 2) := by decide +kernel
theorem dX6_plan_51 : decode cX6_plan 51 = .ok (.invokespecial 72, 3) := by decide +kernel
theorem dX6_plan_54 : decode cX6_plan 54 = .ok (.athrow, 1) := by decide +kernel
theorem dX6_plan_55 : decode cX6_plan 55 = .ok (.aload_n 0, 1) := by decide +kernel
theorem dX6_plan_56 : decode cX6_plan 56 = .ok (.invokevirtual 39, 3) := by decide +kernel
theorem dX6_plan_59 : decode cX6_plan 59 = .ok (.aload_n 0, 1) := by decide +kernel
theorem dX6_plan_60 : decode cX6_plan 60 = .ok (.getfield 10, 3) := by decide +kernel
theorem dX6_plan_63 : decode cX6_plan 63 = .ok (.getfield 85, 3) := by decide +kernel
theorem dX6_plan_66 : decode cX6_plan 66 = .ok (.aload_n 0, 1) := by decide +kernel
theorem dX6_plan_67 : decode cX6_plan 67 = .ok (.getfield 10, 3) := by decide +kernel
theorem dX6_plan_70 : decode cX6_plan 70 = .ok (.getfield 97, 3) := by decide +kernel
theorem dX6_plan_73 : decode cX6_plan 73 = .ok (.iload_n 1, 1) := by decide +kernel
theorem dX6_plan_74 : decode cX6_plan 74 = .ok (.iadd, 1) := by decide +kernel
theorem dX6_plan_75 : decode cX6_plan 75 = .ok (.iload_n 2, 1) := by decide +kernel
theorem dX6_plan_76 : decode cX6_plan 76 = .ok (.invokevirtual 100, 3) := by decide +kernel
theorem dX6_plan_79 : decode cX6_plan 79 = .ok (.aload_n 0, 1) := by decide +kernel
theorem dX6_plan_80 : decode cX6_plan 80 = .ok (.getfield 10, 3) := by decide +kernel
theorem dX6_plan_83 : decode cX6_plan 83 = .ok (.getfield 85, 3) := by decide +kernel
theorem dX6_plan_86 : decode cX6_plan 86 = .ok (.getfield 103, 3) := by decide +kernel
theorem dX6_plan_89 : decode cX6_plan 89 = .ok (.ireturn, 1) := by decide +kernel
theorem dX6_setFault_0 : decode cX6_setFault 0 = .ok (.iload_n 1, 1) := by decide +kernel
theorem dX6_setFault_1 : decode cX6_setFault 1 = .ok (.invokestatic 104, 3) := by decide +kernel
theorem dX6_setFault_4 : decode cX6_setFault 4 = .ok (.ifCond .ne 13, 3) := by decide +kernel
theorem dX6_setFault_7 : decode cX6_setFault 7 = .ok (.new 107, 3) := by decide +kernel
theorem dX6_setFault_10 : decode cX6_setFault 10 = .ok (.dup, 1) := by decide +kernel
theorem dX6_setFault_11 : decode cX6_setFault 11 = .ok (.ldc 109, 2) := by decide +kernel
theorem dX6_setFault_13 : decode cX6_setFault 13 = .ok (.invokespecial 111, 3) := by decide +kernel
theorem dX6_setFault_16 : decode cX6_setFault 16 = .ok (.athrow, 1) := by decide +kernel
theorem dX6_setFault_17 : decode cX6_setFault 17 = .ok (.aload_n 0, 1) := by decide +kernel
theorem dX6_setFault_18 : decode cX6_setFault 18 = .ok (.invokevirtual 39, 3) := by decide +kernel
theorem dX6_setFault_21 : decode cX6_setFault 21 = .ok (.aload_n 0, 1) := by decide +kernel
theorem dX6_setFault_22 : decode cX6_setFault 22 = .ok (.getfield 10, 3) := by decide +kernel
theorem dX6_setFault_25 : decode cX6_setFault 25 = .ok (.getfield 112, 3) := by decide +kernel
theorem dX6_setFault_28 : decode cX6_setFault 28 = .ok (.iload_n 1, 1) := by decide +kernel
theorem dX6_setFault_29 : decode cX6_setFault 29 = .ok (.aaload, 1) := by decide +kernel
theorem dX6_setFault_30 : decode cX6_setFault 30 = .ok (.getfield 116, 3) := by decide +kernel
theorem dX6_setFault_33 : decode cX6_setFault 33 = .ok (.istore_n 3, 1) := by decide +kernel
theorem dX6_setFault_34 : decode cX6_setFault 34 = .ok (.aload_n 0, 1) := by decide +kernel
theorem dX6_setFault_35 : decode cX6_setFault 35 = .ok (.getfield 10, 3) := by decide +kernel
theorem dX6_setFault_38 : decode cX6_setFault 38 = .ok (.getfield 112, 3) := by decide +kernel
theorem dX6_setFault_41 : decode cX6_setFault 41 = .ok (.iload_n 1, 1) := by decide +kernel
theorem dX6_setFault_42 : decode cX6_setFault 42 = .ok (.aaload, 1) := by decide +kernel
theorem dX6_setFault_43 : decode cX6_setFault 43 = .ok (.iload_n 2, 1) := by decide +kernel
theorem dX6_setFault_44 : decode cX6_setFault 44 = .ok (.putfield 116, 3) := by decide +kernel
theorem dX6_setFault_47 : decode cX6_setFault 47 = .ok (.iload_n 3, 1) := by decide +kernel
theorem dX6_setFault_48 : decode cX6_setFault 48 = .ok (.ireturn, 1) := by decide +kernel
theorem dX6_setOn_0 : decode cX6_setOn 0 = .ok (.aload_n 0, 1) := by decide +kernel
theorem dX6_setOn_1 : decode cX6_setOn 1 = .ok (.invokevirtual 39, 3) := by decide +kernel
theorem dX6_setOn_4 : decode cX6_setOn 4 = .ok (.aload_n 0, 1) := by decide +kernel
theorem dX6_setOn_5 : decode cX6_setOn 5 = .ok (.getfield 10, 3) := by decide +kernel
theorem dX6_setOn_8 : decode cX6_setOn 8 = .ok (.getfield 122, 3) := by decide +kernel
theorem dX6_setOn_11 : decode cX6_setOn 11 = .ok (.getfield 126, 3) := by decide +kernel
theorem dX6_setOn_14 : decode cX6_setOn 14 = .ok (.istore_n 2, 1) := by decide +kernel
theorem dX6_setOn_15 : decode cX6_setOn 15 = .ok (.aload_n 0, 1) := by decide +kernel
theorem dX6_setOn_16 : decode cX6_setOn 16 = .ok (.getfield 10, 3) := by decide +kernel
theorem dX6_setOn_19 : decode cX6_setOn 19 = .ok (.getfield 122, 3) := by decide +kernel
theorem dX6_setOn_22 : decode cX6_setOn 22 = .ok (.iload_n 1, 1) := by decide +kernel
theorem dX6_setOn_23 : decode cX6_setOn 23 = .ok (.putfield 126, 3) := by decide +kernel
theorem dX6_setOn_26 : decode cX6_setOn 26 = .ok (.iload_n 2, 1) := by decide +kernel
theorem dX6_setOn_27 : decode cX6_setOn 27 = .ok (.ireturn, 1) := by decide +kernel
theorem dX6_repair_0 : decode cX6_repair 0 = .ok (.aload_n 0, 1) := by decide +kernel
theorem dX6_repair_1 : decode cX6_repair 1 = .ok (.invokevirtual 39, 3) := by decide +kernel
theorem dX6_repair_4 : decode cX6_repair 4 = .ok (.aload_n 0, 1) := by decide +kernel
theorem dX6_repair_5 : decode cX6_repair 5 = .ok (.getfield 10, 3) := by decide +kernel
theorem dX6_repair_8 : decode cX6_repair 8 = .ok (.getfield 122, 3) := by decide +kernel
theorem dX6_repair_11 : decode cX6_repair 11 = .ok (.invokevirtual 131, 3) := by decide +kernel
theorem dX6_repair_14 : decode cX6_repair 14 = .ok (.ireturn, 1) := by decide +kernel
theorem dX6_run_0 : decode cX6_run 0 = .ok (.iload_n 1, 1) := by decide +kernel
theorem dX6_run_1 : decode cX6_run 1 = .ok (.iconst 1, 1) := by decide +kernel
theorem dX6_run_2 : decode cX6_run 2 = .ok (.sipush 1000, 3) := by decide +kernel
theorem dX6_run_5 : decode cX6_run 5 = .ok (.invokestatic 28, 3) := by decide +kernel
theorem dX6_run_8 : decode cX6_run 8 = .ok (.ifCond .ne 13, 3) := by decide +kernel
theorem dX6_run_11 : decode cX6_run 11 = .ok (.new 32, 3) := by decide +kernel
theorem dX6_run_14 : decode cX6_run 14 = .ok (.dup, 1) := by decide +kernel
theorem dX6_run_15 : decode cX6_run 15 = .ok (.ldc 135, 2) := by decide +kernel
theorem dX6_run_17 : decode cX6_run 17 = .ok (.invokespecial 36, 3) := by decide +kernel
theorem dX6_run_20 : decode cX6_run 20 = .ok (.athrow, 1) := by decide +kernel
theorem dX6_run_21 : decode cX6_run 21 = .ok (.aload_n 0, 1) := by decide +kernel
theorem dX6_run_22 : decode cX6_run 22 = .ok (.invokevirtual 39, 3) := by decide +kernel
theorem dX6_run_25 : decode cX6_run 25 = .ok (.iconst 0, 1) := by decide +kernel
theorem dX6_run_26 : decode cX6_run 26 = .ok (.istore_n 2, 1) := by decide +kernel
theorem dX6_run_27 : decode cX6_run 27 = .ok (.iload_n 2, 1) := by decide +kernel
theorem dX6_run_28 : decode cX6_run 28 = .ok (.iload_n 1, 1) := by decide +kernel
theorem dX6_run_29 : decode cX6_run 29 = .ok (.if_icmp .ge 16, 3) := by decide +kernel
theorem dX6_run_32 : decode cX6_run 32 = .ok (.aload_n 0, 1) := by decide +kernel
theorem dX6_run_33 : decode cX6_run 33 = .ok (.getfield 10, 3) := by decide +kernel
theorem dX6_run_36 : decode cX6_run 36 = .ok (.invokevirtual 137, 3) := by decide +kernel
theorem dX6_run_39 : decode cX6_run 39 = .ok (.iinc 2 1, 3) := by decide +kernel
theorem dX6_run_42 : decode cX6_run 42 = .ok (.goto (-15), 3) := by decide +kernel
theorem dX6_run_45 : decode cX6_run 45 = .ok (.aload_n 0, 1) := by decide +kernel
theorem dX6_run_46 : decode cX6_run 46 = .ok (.getfield 10, 3) := by decide +kernel
theorem dX6_run_49 : decode cX6_run 49 = .ok (.getfield 42, 3) := by decide +kernel
theorem dX6_run_52 : decode cX6_run 52 = .ok (.ireturn, 1) := by decide +kernel
theorem dX6_stop_0 : decode cX6_stop 0 = .ok (.aload_n 0, 1) := by decide +kernel
theorem dX6_stop_1 : decode cX6_stop 1 = .ok (.invokevirtual 39, 3) := by decide +kernel
theorem dX6_stop_4 : decode cX6_stop 4 = .ok (.aload_n 0, 1) := by decide +kernel
theorem dX6_stop_5 : decode cX6_stop 5 = .ok (.getfield 10, 3) := by decide +kernel
theorem dX6_stop_8 : decode cX6_stop 8 = .ok (.invokevirtual 140, 3) := by decide +kernel
theorem dX6_stop_11 : decode cX6_stop 11 = .ok (.ireturn, 1) := by decide +kernel
theorem dX6_stopDistance_0 : decode cX6_stopDistance 0 = .ok (.iload_n 1, 1) := by decide +kernel
theorem dX6_stopDistance_1 : decode cX6_stopDistance 1 = .ok (.iconst 0, 1) := by decide +kernel
theorem dX6_stopDistance_2 : decode cX6_stopDistance 2 = .ok (.ldc 27, 2) := by decide +kernel
theorem dX6_stopDistance_4 : decode cX6_stopDistance 4 = .ok (.invokestatic 28, 3) := by decide +kernel
theorem dX6_stopDistance_7 : decode cX6_stopDistance 7 = .ok (.ifCond .eq 21, 3) := by decide +kernel
theorem dX6_stopDistance_10 : decode cX6_stopDistance 10 = .ok (.iload_n 2, 1) := by decide +kernel
theorem dX6_stopDistance_11 : decode cX6_stopDistance 11 = .ok (.invokestatic 143, 3) := by decide +kernel
theorem dX6_stopDistance_14 : decode cX6_stopDistance 14 = .ok (.ifCond .eq 14, 3) := by decide +kernel
theorem dX6_stopDistance_17 : decode cX6_stopDistance 17 = .ok (.iload_n 3, 1) := by decide +kernel
theorem dX6_stopDistance_18 : decode cX6_stopDistance 18 = .ok (.iconst 0, 1) := by decide +kernel
theorem dX6_stopDistance_19 : decode cX6_stopDistance 19 = .ok (.sipush 2000, 3) := by decide +kernel
theorem dX6_stopDistance_22 : decode cX6_stopDistance 22 = .ok (.invokestatic 28, 3) := by decide +kernel
theorem dX6_stopDistance_25 : decode cX6_stopDistance 25 = .ok (.ifCond .ne 13, 3) := by decide +kernel
theorem dX6_stopDistance_28 : decode cX6_stopDistance 28 = .ok (.new 32, 3) := by decide +kernel
theorem dX6_stopDistance_31 : decode cX6_stopDistance 31 = .ok (.dup, 1) := by decide +kernel
theorem dX6_stopDistance_32 : decode cX6_stopDistance 32 = .ok (.ldc 146, 2) := by decide +kernel
theorem dX6_stopDistance_34 : decode cX6_stopDistance 34 = .ok (.invokespecial 36, 3) := by decide +kernel
theorem dX6_stopDistance_37 : decode cX6_stopDistance 37 = .ok (.athrow, 1) := by decide +kernel
theorem dX6_stopDistance_38 : decode cX6_stopDistance 38 = .ok (.aload_n 0, 1) := by decide +kernel
theorem dX6_stopDistance_39 : decode cX6_stopDistance 39 = .ok (.getfield 16, 3) := by decide +kernel
theorem dX6_stopDistance_42 : decode cX6_stopDistance 42 = .ok (.invokevirtual 148, 3) := by decide +kernel
theorem dX6_stopDistance_45 : decode cX6_stopDistance 45 = .ok (.aload_n 0, 1) := by decide +kernel
theorem dX6_stopDistance_46 : decode cX6_stopDistance 46 = .ok (.getfield 16, 3) := by decide +kernel
theorem dX6_stopDistance_49 : decode cX6_stopDistance 49 = .ok (.iload_n 1, 1) := by decide +kernel
theorem dX6_stopDistance_50 : decode cX6_stopDistance 50 = .ok (.invokevirtual 45, 3) := by decide +kernel
theorem dX6_stopDistance_53 : decode cX6_stopDistance 53 = .ok (.aload_n 0, 1) := by decide +kernel
theorem dX6_stopDistance_54 : decode cX6_stopDistance 54 = .ok (.getfield 16, 3) := by decide +kernel
theorem dX6_stopDistance_57 : decode cX6_stopDistance 57 = .ok (.getfield 59, 3) := by decide +kernel
theorem dX6_stopDistance_60 : decode cX6_stopDistance 60 = .ok (.iconst 0, 1) := by decide +kernel
theorem dX6_stopDistance_61 : decode cX6_stopDistance 61 = .ok (.iload_n 2, 1) := by decide +kernel
theorem dX6_stopDistance_62 : decode cX6_stopDistance 62 = .ok (.bipush 10, 2) := by decide +kernel
theorem dX6_stopDistance_64 : decode cX6_stopDistance 64 = .ok (.idiv, 1) := by decide +kernel
theorem dX6_stopDistance_65 : decode cX6_stopDistance 65 = .ok (.iload_n 2, 1) := by decide +kernel
theorem dX6_stopDistance_66 : decode cX6_stopDistance 66 = .ok (.bipush 10, 2) := by decide +kernel
theorem dX6_stopDistance_68 : decode cX6_stopDistance 68 = .ok (.irem, 1) := by decide +kernel
theorem dX6_stopDistance_69 : decode cX6_stopDistance 69 = .ok (.invokevirtual 73, 3) := by decide +kernel
theorem dX6_stopDistance_72 : decode cX6_stopDistance 72 = .ok (.aload_n 0, 1) := by decide +kernel
theorem dX6_stopDistance_73 : decode cX6_stopDistance 73 = .ok (.getfield 16, 3) := by decide +kernel
theorem dX6_stopDistance_76 : decode cX6_stopDistance 76 = .ok (.iload_n 3, 1) := by decide +kernel
theorem dX6_stopDistance_77 : decode cX6_stopDistance 77 = .ok (.putfield 82, 3) := by decide +kernel
theorem dX6_stopDistance_80 : decode cX6_stopDistance 80 = .ok (.aload_n 0, 1) := by decide +kernel
theorem dX6_stopDistance_81 : decode cX6_stopDistance 81 = .ok (.getfield 16, 3) := by decide +kernel
theorem dX6_stopDistance_84 : decode cX6_stopDistance 84 = .ok (.getfield 122, 3) := by decide +kernel
theorem dX6_stopDistance_87 : decode cX6_stopDistance 87 = .ok (.iload 4, 2) := by decide +kernel
theorem dX6_stopDistance_89 : decode cX6_stopDistance 89 = .ok (.putfield 126, 3) := by decide +kernel
theorem dX6_stopDistance_92 : decode cX6_stopDistance 92 = .ok (.aload_n 0, 1) := by decide +kernel
theorem dX6_stopDistance_93 : decode cX6_stopDistance 93 = .ok (.getfield 16, 3) := by decide +kernel
theorem dX6_stopDistance_96 : decode cX6_stopDistance 96 = .ok (.invokevirtual 140, 3) := by decide +kernel
theorem dX6_stopDistance_99 : decode cX6_stopDistance 99 = .ok (.pop, 1) := by decide +kernel
theorem dX6_stopDistance_100 : decode cX6_stopDistance 100 = .ok (.aload_n 0, 1) := by decide +kernel
theorem dX6_stopDistance_101 : decode cX6_stopDistance 101 = .ok (.getfield 16, 3) := by decide +kernel
theorem dX6_stopDistance_104 : decode cX6_stopDistance 104 = .ok (.getfield 49, 3) := by decide +kernel
theorem dX6_stopDistance_107 : decode cX6_stopDistance 107 = .ok (.ireturn, 1) := by decide +kernel
theorem dX6_car_0 : decode cX6_car 0 = .ok (.iload_n 1, 1) := by decide +kernel
theorem dX6_car_1 : decode cX6_car 1 = .ok (.iconst 0, 1) := by decide +kernel
theorem dX6_car_2 : decode cX6_car 2 = .ok (.bipush 9, 2) := by decide +kernel
theorem dX6_car_4 : decode cX6_car 4 = .ok (.invokestatic 28, 3) := by decide +kernel
theorem dX6_car_7 : decode cX6_car 7 = .ok (.ifCond .ne 13, 3) := by decide +kernel
theorem dX6_car_10 : decode cX6_car 10 = .ok (.new 32, 3) := by decide +kernel
theorem dX6_car_13 : decode cX6_car 13 = .ok (.dup, 1) := by decide +kernel
theorem dX6_car_14 : decode cX6_car 14 = .ok (.ldc 151, 2) := by decide +kernel
theorem dX6_car_16 : decode cX6_car 16 = .ok (.invokespecial 36, 3) := by decide +kernel
theorem dX6_car_19 : decode cX6_car 19 = .ok (.athrow, 1) := by decide +kernel
theorem dX6_car_20 : decode cX6_car 20 = .ok (.aload_n 0, 1) := by decide +kernel
theorem dX6_car_21 : decode cX6_car 21 = .ok (.getfield 10, 3) := by decide +kernel
theorem dX6_car_24 : decode cX6_car 24 = .ok (.iload_n 1, 1) := by decide +kernel
theorem dX6_car_25 : decode cX6_car 25 = .ok (.invokevirtual 153, 3) := by decide +kernel
theorem dX6_car_28 : decode cX6_car 28 = .ok (.ireturn, 1) := by decide +kernel
theorem dX6_wheel_0 : decode cX6_wheel 0 = .ok (.iload_n 1, 1) := by decide +kernel
theorem dX6_wheel_1 : decode cX6_wheel 1 = .ok (.invokestatic 104, 3) := by decide +kernel
theorem dX6_wheel_4 : decode cX6_wheel 4 = .ok (.ifCond .ne 13, 3) := by decide +kernel
theorem dX6_wheel_7 : decode cX6_wheel 7 = .ok (.new 107, 3) := by decide +kernel
theorem dX6_wheel_10 : decode cX6_wheel 10 = .ok (.dup, 1) := by decide +kernel
theorem dX6_wheel_11 : decode cX6_wheel 11 = .ok (.ldc 109, 2) := by decide +kernel
theorem dX6_wheel_13 : decode cX6_wheel 13 = .ok (.invokespecial 111, 3) := by decide +kernel
theorem dX6_wheel_16 : decode cX6_wheel 16 = .ok (.athrow, 1) := by decide +kernel
theorem dX6_wheel_17 : decode cX6_wheel 17 = .ok (.iload_n 2, 1) := by decide +kernel
theorem dX6_wheel_18 : decode cX6_wheel 18 = .ok (.iconst 0, 1) := by decide +kernel
theorem dX6_wheel_19 : decode cX6_wheel 19 = .ok (.bipush 11, 2) := by decide +kernel
theorem dX6_wheel_21 : decode cX6_wheel 21 = .ok (.invokestatic 28, 3) := by decide +kernel
theorem dX6_wheel_24 : decode cX6_wheel 24 = .ok (.ifCond .ne 13, 3) := by decide +kernel
theorem dX6_wheel_27 : decode cX6_wheel 27 = .ok (.new 32, 3) := by decide +kernel
theorem dX6_wheel_30 : decode cX6_wheel 30 = .ok (.dup, 1) := by decide +kernel
theorem dX6_wheel_31 : decode cX6_wheel 31 = .ok (.ldc 151, 2) := by decide +kernel
theorem dX6_wheel_33 : decode cX6_wheel 33 = .ok (.invokespecial 36, 3) := by decide +kernel
theorem dX6_wheel_36 : decode cX6_wheel 36 = .ok (.athrow, 1) := by decide +kernel
theorem dX6_wheel_37 : decode cX6_wheel 37 = .ok (.aload_n 0, 1) := by decide +kernel
theorem dX6_wheel_38 : decode cX6_wheel 38 = .ok (.getfield 10, 3) := by decide +kernel
theorem dX6_wheel_41 : decode cX6_wheel 41 = .ok (.iload_n 1, 1) := by decide +kernel
theorem dX6_wheel_42 : decode cX6_wheel 42 = .ok (.iload_n 2, 1) := by decide +kernel
theorem dX6_wheel_43 : decode cX6_wheel 43 = .ok (.invokevirtual 157, 3) := by decide +kernel
theorem dX6_wheel_46 : decode cX6_wheel 46 = .ok (.ireturn, 1) := by decide +kernel
theorem dX6_friction_0 : decode cX6_friction 0 = .ok (.iload_n 1, 1) := by decide +kernel
theorem dX6_friction_1 : decode cX6_friction 1 = .ok (.invokestatic 104, 3) := by decide +kernel
theorem dX6_friction_4 : decode cX6_friction 4 = .ok (.ifCond .ne 13, 3) := by decide +kernel
theorem dX6_friction_7 : decode cX6_friction 7 = .ok (.new 107, 3) := by decide +kernel
theorem dX6_friction_10 : decode cX6_friction 10 = .ok (.dup, 1) := by decide +kernel
theorem dX6_friction_11 : decode cX6_friction 11 = .ok (.ldc 109, 2) := by decide +kernel
theorem dX6_friction_13 : decode cX6_friction 13 = .ok (.invokespecial 111, 3) := by decide +kernel
theorem dX6_friction_16 : decode cX6_friction 16 = .ok (.athrow, 1) := by decide +kernel
theorem dX6_friction_17 : decode cX6_friction 17 = .ok (.aload_n 0, 1) := by decide +kernel
theorem dX6_friction_18 : decode cX6_friction 18 = .ok (.getfield 10, 3) := by decide +kernel
theorem dX6_friction_21 : decode cX6_friction 21 = .ok (.iload_n 1, 1) := by decide +kernel
theorem dX6_friction_22 : decode cX6_friction 22 = .ok (.invokevirtual 161, 3) := by decide +kernel
theorem dX6_friction_25 : decode cX6_friction 25 = .ok (.ireturn, 1) := by decide +kernel
theorem dX6_frictionFor_0 : decode cX6_frictionFor 0 = .ok (.iload_n 1, 1) := by decide +kernel
theorem dX6_frictionFor_1 : decode cX6_frictionFor 1 = .ok (.invokestatic 53, 3) := by decide +kernel
theorem dX6_frictionFor_4 : decode cX6_frictionFor 4 = .ok (.ifCond .eq 14, 3) := by decide +kernel
theorem dX6_frictionFor_7 : decode cX6_frictionFor 7 = .ok (.iload_n 2, 1) := by decide +kernel
theorem dX6_frictionFor_8 : decode cX6_frictionFor 8 = .ok (.iconst 0, 1) := by decide +kernel
theorem dX6_frictionFor_9 : decode cX6_frictionFor 9 = .ok (.sipush 1000, 3) := by decide +kernel
theorem dX6_frictionFor_12 : decode cX6_frictionFor 12 = .ok (.invokestatic 28, 3) := by decide +kernel
theorem dX6_frictionFor_15 : decode cX6_frictionFor 15 = .ok (.ifCond .ne 13, 3) := by decide +kernel
theorem dX6_frictionFor_18 : decode cX6_frictionFor 18 = .ok (.new 32, 3) := by decide +kernel
theorem dX6_frictionFor_21 : decode cX6_frictionFor 21 = .ok (.dup, 1) := by decide +kernel
theorem dX6_frictionFor_22 : decode cX6_frictionFor 22 = .ok (.ldc 57, 2) := by decide +kernel
theorem dX6_frictionFor_24 : decode cX6_frictionFor 24 = .ok (.invokespecial 36, 3) := by decide +kernel
theorem dX6_frictionFor_27 : decode cX6_frictionFor 27 = .ok (.athrow, 1) := by decide +kernel
theorem dX6_frictionFor_28 : decode cX6_frictionFor 28 = .ok (.iload_n 1, 1) := by decide +kernel
theorem dX6_frictionFor_29 : decode cX6_frictionFor 29 = .ok (.iload_n 2, 1) := by decide +kernel
theorem dX6_frictionFor_30 : decode cX6_frictionFor 30 = .ok (.invokestatic 164, 3) := by decide +kernel
theorem dX6_frictionFor_33 : decode cX6_frictionFor 33 = .ok (.ireturn, 1) := by decide +kernel
theorem dX6_segments_0 : decode cX6_segments 0 = .ok (.aload_n 0, 1) := by decide +kernel
theorem dX6_segments_1 : decode cX6_segments 1 = .ok (.getfield 10, 3) := by decide +kernel
theorem dX6_segments_4 : decode cX6_segments 4 = .ok (.getfield 59, 3) := by decide +kernel
theorem dX6_segments_7 : decode cX6_segments 7 = .ok (.getfield 77, 3) := by decide +kernel
theorem dX6_segments_10 : decode cX6_segments 10 = .ok (.ireturn, 1) := by decide +kernel
theorem dX6_segment_0 : decode cX6_segment 0 = .ok (.iload_n 1, 1) := by decide +kernel
theorem dX6_segment_1 : decode cX6_segment 1 = .ok (.iconst 0, 1) := by decide +kernel
theorem dX6_segment_2 : decode cX6_segment 2 = .ok (.aload_n 0, 1) := by decide +kernel
theorem dX6_segment_3 : decode cX6_segment 3 = .ok (.getfield 10, 3) := by decide +kernel
theorem dX6_segment_6 : decode cX6_segment 6 = .ok (.getfield 59, 3) := by decide +kernel
theorem dX6_segment_9 : decode cX6_segment 9 = .ok (.getfield 77, 3) := by decide +kernel
theorem dX6_segment_12 : decode cX6_segment 12 = .ok (.iconst 1, 1) := by decide +kernel
theorem dX6_segment_13 : decode cX6_segment 13 = .ok (.isub, 1) := by decide +kernel
theorem dX6_segment_14 : decode cX6_segment 14 = .ok (.invokestatic 28, 3) := by decide +kernel
theorem dX6_segment_17 : decode cX6_segment 17 = .ok (.ifCond .ne 13, 3) := by decide +kernel
theorem dX6_segment_20 : decode cX6_segment 20 = .ok (.new 107, 3) := by decide +kernel
theorem dX6_segment_23 : decode cX6_segment 23 = .ok (.dup, 1) := by decide +kernel
theorem dX6_segment_24 : decode cX6_segment 24 = .ok (.ldc 167, 2) := by decide +kernel
theorem dX6_segment_26 : decode cX6_segment 26 = .ok (.invokespecial 111, 3) := by decide +kernel
theorem dX6_segment_29 : decode cX6_segment 29 = .ok (.athrow, 1) := by decide +kernel
theorem dX6_segment_30 : decode cX6_segment 30 = .ok (.iload_n 2, 1) := by decide +kernel
theorem dX6_segment_31 : decode cX6_segment 31 = .ok (.iconst 0, 1) := by decide +kernel
theorem dX6_segment_32 : decode cX6_segment 32 = .ok (.iconst 2, 1) := by decide +kernel
theorem dX6_segment_33 : decode cX6_segment 33 = .ok (.invokestatic 28, 3) := by decide +kernel
theorem dX6_segment_36 : decode cX6_segment 36 = .ok (.ifCond .ne 13, 3) := by decide +kernel
theorem dX6_segment_39 : decode cX6_segment 39 = .ok (.new 32, 3) := by decide +kernel
theorem dX6_segment_42 : decode cX6_segment 42 = .ok (.dup, 1) := by decide +kernel
theorem dX6_segment_43 : decode cX6_segment 43 = .ok (.ldc 151, 2) := by decide +kernel
theorem dX6_segment_45 : decode cX6_segment 45 = .ok (.invokespecial 36, 3) := by decide +kernel
theorem dX6_segment_48 : decode cX6_segment 48 = .ok (.athrow, 1) := by decide +kernel
theorem dX6_segment_49 : decode cX6_segment 49 = .ok (.aload_n 0, 1) := by decide +kernel
theorem dX6_segment_50 : decode cX6_segment 50 = .ok (.getfield 10, 3) := by decide +kernel
theorem dX6_segment_53 : decode cX6_segment 53 = .ok (.getfield 59, 3) := by decide +kernel
theorem dX6_segment_56 : decode cX6_segment 56 = .ok (.iload_n 1, 1) := by decide +kernel
theorem dX6_segment_57 : decode cX6_segment 57 = .ok (.iload_n 2, 1) := by decide +kernel
theorem dX6_segment_58 : decode cX6_segment 58 = .ok (.invokevirtual 169, 3) := by decide +kernel
theorem dX6_segment_61 : decode cX6_segment 61 = .ok (.ireturn, 1) := by decide +kernel
theorem dX6_planned_0 : decode cX6_planned 0 = .ok (.aload_n 0, 1) := by decide +kernel
theorem dX6_planned_1 : decode cX6_planned 1 = .ok (.getfield 10, 3) := by decide +kernel
theorem dX6_planned_4 : decode cX6_planned 4 = .ok (.getfield 85, 3) := by decide +kernel
theorem dX6_planned_7 : decode cX6_planned 7 = .ok (.getfield 103, 3) := by decide +kernel
theorem dX6_planned_10 : decode cX6_planned 10 = .ok (.ireturn, 1) := by decide +kernel
theorem dX6_events_0 : decode cX6_events 0 = .ok (.aload_n 0, 1) := by decide +kernel
theorem dX6_events_1 : decode cX6_events 1 = .ok (.getfield 10, 3) := by decide +kernel
theorem dX6_events_4 : decode cX6_events 4 = .ok (.getfield 172, 3) := by decide +kernel
theorem dX6_events_7 : decode cX6_events 7 = .ok (.getfield 176, 3) := by decide +kernel
theorem dX6_events_10 : decode cX6_events 10 = .ok (.ireturn, 1) := by decide +kernel
theorem dX6_event_0 : decode cX6_event 0 = .ok (.iload_n 1, 1) := by decide +kernel
theorem dX6_event_1 : decode cX6_event 1 = .ok (.iconst 0, 1) := by decide +kernel
theorem dX6_event_2 : decode cX6_event 2 = .ok (.aload_n 0, 1) := by decide +kernel
theorem dX6_event_3 : decode cX6_event 3 = .ok (.getfield 10, 3) := by decide +kernel
theorem dX6_event_6 : decode cX6_event 6 = .ok (.getfield 172, 3) := by decide +kernel
theorem dX6_event_9 : decode cX6_event 9 = .ok (.getfield 176, 3) := by decide +kernel
theorem dX6_event_12 : decode cX6_event 12 = .ok (.iconst 1, 1) := by decide +kernel
theorem dX6_event_13 : decode cX6_event 13 = .ok (.isub, 1) := by decide +kernel
theorem dX6_event_14 : decode cX6_event 14 = .ok (.invokestatic 28, 3) := by decide +kernel
theorem dX6_event_17 : decode cX6_event 17 = .ok (.ifCond .ne 13, 3) := by decide +kernel
theorem dX6_event_20 : decode cX6_event 20 = .ok (.new 107, 3) := by decide +kernel
theorem dX6_event_23 : decode cX6_event 23 = .ok (.dup, 1) := by decide +kernel
theorem dX6_event_24 : decode cX6_event 24 = .ok (.ldc 179, 2) := by decide +kernel
theorem dX6_event_26 : decode cX6_event 26 = .ok (.invokespecial 111, 3) := by decide +kernel
theorem dX6_event_29 : decode cX6_event 29 = .ok (.athrow, 1) := by decide +kernel
theorem dX6_event_30 : decode cX6_event 30 = .ok (.iload_n 2, 1) := by decide +kernel
theorem dX6_event_31 : decode cX6_event 31 = .ok (.iconst 0, 1) := by decide +kernel
theorem dX6_event_32 : decode cX6_event 32 = .ok (.iconst 2, 1) := by decide +kernel
theorem dX6_event_33 : decode cX6_event 33 = .ok (.invokestatic 28, 3) := by decide +kernel
theorem dX6_event_36 : decode cX6_event 36 = .ok (.ifCond .ne 13, 3) := by decide +kernel
theorem dX6_event_39 : decode cX6_event 39 = .ok (.new 32, 3) := by decide +kernel
theorem dX6_event_42 : decode cX6_event 42 = .ok (.dup, 1) := by decide +kernel
theorem dX6_event_43 : decode cX6_event 43 = .ok (.ldc 151, 2) := by decide +kernel
theorem dX6_event_45 : decode cX6_event 45 = .ok (.invokespecial 36, 3) := by decide +kernel
theorem dX6_event_48 : decode cX6_event 48 = .ok (.athrow, 1) := by decide +kernel
theorem dX6_event_49 : decode cX6_event 49 = .ok (.aload_n 0, 1) := by decide +kernel
theorem dX6_event_50 : decode cX6_event 50 = .ok (.getfield 10, 3) := by decide +kernel
theorem dX6_event_53 : decode cX6_event 53 = .ok (.getfield 172, 3) := by decide +kernel
theorem dX6_event_56 : decode cX6_event 56 = .ok (.iload_n 1, 1) := by decide +kernel
theorem dX6_event_57 : decode cX6_event 57 = .ok (.iload_n 2, 1) := by decide +kernel
theorem dX6_event_58 : decode cX6_event 58 = .ok (.invokevirtual 181, 3) := by decide +kernel
theorem dX6_event_61 : decode cX6_event 61 = .ok (.ireturn, 1) := by decide +kernel
theorem dX6_undo_0 : decode cX6_undo 0 = .ok (.aload_n 0, 1) := by decide +kernel
theorem dX6_undo_1 : decode cX6_undo 1 = .ok (.getfield 23, 3) := by decide +kernel
theorem dX6_undo_4 : decode cX6_undo 4 = .ok (.ifCond .gt 13, 3) := by decide +kernel
theorem dX6_undo_7 : decode cX6_undo 7 = .ok (.new 68, 3) := by decide +kernel
theorem dX6_undo_10 : decode cX6_undo 10 = .ok (.dup, 1) := by decide +kernel
theorem dX6_undo_11 : decode cX6_undo 11 = .ok (.ldc 182, 2) := by decide +kernel
theorem dX6_undo_13 : decode cX6_undo 13 = .ok (.invokespecial 72, 3) := by decide +kernel
theorem dX6_undo_16 : decode cX6_undo 16 = .ok (.athrow, 1) := by decide +kernel
theorem dX6_undo_17 : decode cX6_undo 17 = .ok (.aload_n 0, 1) := by decide +kernel
theorem dX6_undo_18 : decode cX6_undo 18 = .ok (.dup, 1) := by decide +kernel
theorem dX6_undo_19 : decode cX6_undo 19 = .ok (.getfield 23, 3) := by decide +kernel
theorem dX6_undo_22 : decode cX6_undo 22 = .ok (.iconst 1, 1) := by decide +kernel
theorem dX6_undo_23 : decode cX6_undo 23 = .ok (.isub, 1) := by decide +kernel
theorem dX6_undo_24 : decode cX6_undo 24 = .ok (.putfield 23, 3) := by decide +kernel
theorem dX6_undo_27 : decode cX6_undo 27 = .ok (.aload_n 0, 1) := by decide +kernel
theorem dX6_undo_28 : decode cX6_undo 28 = .ok (.getfield 10, 3) := by decide +kernel
theorem dX6_undo_31 : decode cX6_undo 31 = .ok (.aload_n 0, 1) := by decide +kernel
theorem dX6_undo_32 : decode cX6_undo 32 = .ok (.getfield 19, 3) := by decide +kernel
theorem dX6_undo_35 : decode cX6_undo 35 = .ok (.aload_n 0, 1) := by decide +kernel
theorem dX6_undo_36 : decode cX6_undo 36 = .ok (.getfield 23, 3) := by decide +kernel
theorem dX6_undo_39 : decode cX6_undo 39 = .ok (.aaload, 1) := by decide +kernel
theorem dX6_undo_40 : decode cX6_undo 40 = .ok (.invokevirtual 184, 3) := by decide +kernel
theorem dX6_undo_43 : decode cX6_undo 43 = .ok (.aload_n 0, 1) := by decide +kernel
theorem dX6_undo_44 : decode cX6_undo 44 = .ok (.getfield 23, 3) := by decide +kernel
theorem dX6_undo_47 : decode cX6_undo 47 = .ok (.ireturn, 1) := by decide +kernel
theorem dX6_digest_0 : decode cX6_digest 0 = .ok (.aload_n 0, 1) := by decide +kernel
theorem dX6_digest_1 : decode cX6_digest 1 = .ok (.getfield 10, 3) := by decide +kernel
theorem dX6_digest_4 : decode cX6_digest 4 = .ok (.ldc2_w 188, 3) := by decide +kernel
theorem dX6_digest_7 : decode cX6_digest 7 = .ok (.aload_n 0, 1) := by decide +kernel
theorem dX6_digest_8 : decode cX6_digest 8 = .ok (.getfield 23, 3) := by decide +kernel
theorem dX6_digest_11 : decode cX6_digest 11 = .ok (.invokestatic 190, 3) := by decide +kernel
theorem dX6_digest_14 : decode cX6_digest 14 = .ok (.invokevirtual 194, 3) := by decide +kernel
theorem dX6_digest_17 : decode cX6_digest 17 = .ok (.lreturn, 1) := by decide +kernel
theorem dX6_saveState_0 : decode cX6_saveState 0 = .ok (.aload_n 0, 1) := by decide +kernel
theorem dX6_saveState_1 : decode cX6_saveState 1 = .ok (.getfield 23, 3) := by decide +kernel
theorem dX6_saveState_4 : decode cX6_saveState 4 = .ok (.iconst 3, 1) := by decide +kernel
theorem dX6_saveState_5 : decode cX6_saveState 5 = .ok (.if_icmp .lt 7, 3) := by decide +kernel
theorem dX6_saveState_8 : decode cX6_saveState 8 = .ok (.aload_n 0, 1) := by decide +kernel
theorem dX6_saveState_9 : decode cX6_saveState 9 = .ok (.invokevirtual 198, 3) := by decide +kernel
theorem dX6_saveState_12 : decode cX6_saveState 12 = .ok (.aload_n 0, 1) := by decide +kernel
theorem dX6_saveState_13 : decode cX6_saveState 13 = .ok (.getfield 19, 3) := by decide +kernel
theorem dX6_saveState_16 : decode cX6_saveState 16 = .ok (.aload_n 0, 1) := by decide +kernel
theorem dX6_saveState_17 : decode cX6_saveState 17 = .ok (.getfield 23, 3) := by decide +kernel
theorem dX6_saveState_20 : decode cX6_saveState 20 = .ok (.aaload, 1) := by decide +kernel
theorem dX6_saveState_21 : decode cX6_saveState 21 = .ok (.aload_n 0, 1) := by decide +kernel
theorem dX6_saveState_22 : decode cX6_saveState 22 = .ok (.getfield 10, 3) := by decide +kernel
theorem dX6_saveState_25 : decode cX6_saveState 25 = .ok (.invokevirtual 184, 3) := by decide +kernel
theorem dX6_saveState_28 : decode cX6_saveState 28 = .ok (.aload_n 0, 1) := by decide +kernel
theorem dX6_saveState_29 : decode cX6_saveState 29 = .ok (.dup, 1) := by decide +kernel
theorem dX6_saveState_30 : decode cX6_saveState 30 = .ok (.getfield 23, 3) := by decide +kernel
theorem dX6_saveState_33 : decode cX6_saveState 33 = .ok (.iconst 1, 1) := by decide +kernel
theorem dX6_saveState_34 : decode cX6_saveState 34 = .ok (.iadd, 1) := by decide +kernel
theorem dX6_saveState_35 : decode cX6_saveState 35 = .ok (.putfield 23, 3) := by decide +kernel
theorem dX6_saveState_38 : decode cX6_saveState 38 = .ok (.return_, 1) := by decide +kernel
theorem dX6_dropOldestSaved_0 : decode cX6_dropOldestSaved 0 = .ok (.aload_n 0, 1) := by decide +kernel
theorem dX6_dropOldestSaved_1 : decode cX6_dropOldestSaved 1 = .ok (.getfield 19, 3) := by decide +kernel
theorem dX6_dropOldestSaved_4 : decode cX6_dropOldestSaved 4 = .ok (.iconst 0, 1) := by decide +kernel
theorem dX6_dropOldestSaved_5 : decode cX6_dropOldestSaved 5 = .ok (.aaload, 1) := by decide +kernel
theorem dX6_dropOldestSaved_6 : decode cX6_dropOldestSaved 6 = .ok (.astore_n 1, 1) := by decide +kernel
theorem dX6_dropOldestSaved_7 : decode cX6_dropOldestSaved 7 = .ok (.iconst 1, 1) := by decide +kernel
theorem dX6_dropOldestSaved_8 : decode cX6_dropOldestSaved 8 = .ok (.istore_n 2, 1) := by decide +kernel
theorem dX6_dropOldestSaved_9 : decode cX6_dropOldestSaved 9 = .ok (.iload_n 2, 1) := by decide +kernel
theorem dX6_dropOldestSaved_10 : decode cX6_dropOldestSaved 10 = .ok (.iconst 3, 1) := by decide +kernel
theorem dX6_dropOldestSaved_11 : decode cX6_dropOldestSaved 11 = .ok (.if_icmp .ge 23, 3) := by decide +kernel
theorem dX6_dropOldestSaved_14 : decode cX6_dropOldestSaved 14 = .ok (.aload_n 0, 1) := by decide +kernel
theorem dX6_dropOldestSaved_15 : decode cX6_dropOldestSaved 15 = .ok (.getfield 19, 3) := by decide +kernel
theorem dX6_dropOldestSaved_18 : decode cX6_dropOldestSaved 18 = .ok (.iload_n 2, 1) := by decide +kernel
theorem dX6_dropOldestSaved_19 : decode cX6_dropOldestSaved 19 = .ok (.iconst 1, 1) := by decide +kernel
theorem dX6_dropOldestSaved_20 : decode cX6_dropOldestSaved 20 = .ok (.isub, 1) := by decide +kernel
theorem dX6_dropOldestSaved_21 : decode cX6_dropOldestSaved 21 = .ok (.aload_n 0, 1) := by decide +kernel
theorem dX6_dropOldestSaved_22 : decode cX6_dropOldestSaved 22 = .ok (.getfield 19, 3) := by decide +kernel
theorem dX6_dropOldestSaved_25 : decode cX6_dropOldestSaved 25 = .ok (.iload_n 2, 1) := by decide +kernel
theorem dX6_dropOldestSaved_26 : decode cX6_dropOldestSaved 26 = .ok (.aaload, 1) := by decide +kernel
theorem dX6_dropOldestSaved_27 : decode cX6_dropOldestSaved 27 = .ok (.aastore, 1) := by decide +kernel
theorem dX6_dropOldestSaved_28 : decode cX6_dropOldestSaved 28 = .ok (.iinc 2 1, 3) := by decide +kernel
theorem dX6_dropOldestSaved_31 : decode cX6_dropOldestSaved 31 = .ok (.goto (-22), 3) := by decide +kernel
theorem dX6_dropOldestSaved_34 : decode cX6_dropOldestSaved 34 = .ok (.aload_n 0, 1) := by decide +kernel
theorem dX6_dropOldestSaved_35 : decode cX6_dropOldestSaved 35 = .ok (.getfield 19, 3) := by decide +kernel
theorem dX6_dropOldestSaved_38 : decode cX6_dropOldestSaved 38 = .ok (.iconst 2, 1) := by decide +kernel
theorem dX6_dropOldestSaved_39 : decode cX6_dropOldestSaved 39 = .ok (.aload_n 1, 1) := by decide +kernel
theorem dX6_dropOldestSaved_40 : decode cX6_dropOldestSaved 40 = .ok (.aastore, 1) := by decide +kernel
theorem dX6_dropOldestSaved_41 : decode cX6_dropOldestSaved 41 = .ok (.aload_n 0, 1) := by decide +kernel
theorem dX6_dropOldestSaved_42 : decode cX6_dropOldestSaved 42 = .ok (.iconst 2, 1) := by decide +kernel
theorem dX6_dropOldestSaved_43 : decode cX6_dropOldestSaved 43 = .ok (.putfield 23, 3) := by decide +kernel
theorem dX6_dropOldestSaved_46 : decode cX6_dropOldestSaved 46 = .ok (.return_, 1) := by decide +kernel
theorem dX6_isWithin_0 : decode cX6_isWithin 0 = .ok (.iload_n 0, 1) := by decide +kernel
theorem dX6_isWithin_1 : decode cX6_isWithin 1 = .ok (.iload_n 1, 1) := by decide +kernel
theorem dX6_isWithin_2 : decode cX6_isWithin 2 = .ok (.if_icmp .lt 12, 3) := by decide +kernel
theorem dX6_isWithin_5 : decode cX6_isWithin 5 = .ok (.iload_n 0, 1) := by decide +kernel
theorem dX6_isWithin_6 : decode cX6_isWithin 6 = .ok (.iload_n 2, 1) := by decide +kernel
theorem dX6_isWithin_7 : decode cX6_isWithin 7 = .ok (.if_icmp .gt 7, 3) := by decide +kernel
theorem dX6_isWithin_10 : decode cX6_isWithin 10 = .ok (.iconst 1, 1) := by decide +kernel
theorem dX6_isWithin_11 : decode cX6_isWithin 11 = .ok (.goto 4, 3) := by decide +kernel
theorem dX6_isWithin_14 : decode cX6_isWithin 14 = .ok (.iconst 0, 1) := by decide +kernel
theorem dX6_isWithin_15 : decode cX6_isWithin 15 = .ok (.ireturn, 1) := by decide +kernel
theorem dX6_isWheel_0 : decode cX6_isWheel 0 = .ok (.iload_n 0, 1) := by decide +kernel
theorem dX6_isWheel_1 : decode cX6_isWheel 1 = .ok (.iconst 0, 1) := by decide +kernel
theorem dX6_isWheel_2 : decode cX6_isWheel 2 = .ok (.iconst 3, 1) := by decide +kernel
theorem dX6_isWheel_3 : decode cX6_isWheel 3 = .ok (.invokestatic 28, 3) := by decide +kernel
theorem dX6_isWheel_6 : decode cX6_isWheel 6 = .ok (.ireturn, 1) := by decide +kernel
theorem dX6_isSurface_0 : decode cX6_isSurface 0 = .ok (.iload_n 0, 1) := by decide +kernel
theorem dX6_isSurface_1 : decode cX6_isSurface 1 = .ok (.iconst 0, 1) := by decide +kernel
theorem dX6_isSurface_2 : decode cX6_isSurface 2 = .ok (.iconst 2, 1) := by decide +kernel
theorem dX6_isSurface_3 : decode cX6_isSurface 3 = .ok (.invokestatic 28, 3) := by decide +kernel
theorem dX6_isSurface_6 : decode cX6_isSurface 6 = .ok (.ireturn, 1) := by decide +kernel
theorem dX6_isSurfacePair_0 : decode cX6_isSurfacePair 0 = .ok (.iload_n 0, 1) := by decide +kernel
theorem dX6_isSurfacePair_1 : decode cX6_isSurfacePair 1 = .ok (.ifCond .lt 27, 3) := by decide +kernel
theorem dX6_isSurfacePair_4 : decode cX6_isSurfacePair 4 = .ok (.iload_n 0, 1) := by decide +kernel
theorem dX6_isSurfacePair_5 : decode cX6_isSurfacePair 5 = .ok (.bipush 10, 2) := by decide +kernel
theorem dX6_isSurfacePair_7 : decode cX6_isSurfacePair 7 = .ok (.idiv, 1) := by decide +kernel
theorem dX6_isSurfacePair_8 : decode cX6_isSurfacePair 8 = .ok (.invokestatic 53, 3) := by decide +kernel
theorem dX6_isSurfacePair_11 : decode cX6_isSurfacePair 11 = .ok (.ifCond .eq 17, 3) := by decide +kernel
theorem dX6_isSurfacePair_14 : decode cX6_isSurfacePair 14 = .ok (.iload_n 0, 1) := by decide +kernel
theorem dX6_isSurfacePair_15 : decode cX6_isSurfacePair 15 = .ok (.bipush 10, 2) := by decide +kernel
theorem dX6_isSurfacePair_17 : decode cX6_isSurfacePair 17 = .ok (.irem, 1) := by decide +kernel
theorem dX6_isSurfacePair_18 : decode cX6_isSurfacePair 18 = .ok (.invokestatic 53, 3) := by decide +kernel
theorem dX6_isSurfacePair_21 : decode cX6_isSurfacePair 21 = .ok (.ifCond .eq 7, 3) := by decide +kernel
theorem dX6_isSurfacePair_24 : decode cX6_isSurfacePair 24 = .ok (.iconst 1, 1) := by decide +kernel
theorem dX6_isSurfacePair_25 : decode cX6_isSurfacePair 25 = .ok (.goto 4, 3) := by decide +kernel
theorem dX6_isSurfacePair_28 : decode cX6_isSurfacePair 28 = .ok (.iconst 0, 1) := by decide +kernel
theorem dX6_isSurfacePair_29 : decode cX6_isSurfacePair 29 = .ok (.ireturn, 1) := by decide +kernel
theorem dX6_peakOf_0 : decode cX6_peakOf 0 = .ok (.iload_n 0, 1) := by decide +kernel
theorem dX6_peakOf_1 : decode cX6_peakOf 1 = .ok (.ifCond .ne 9, 3) := by decide +kernel
theorem dX6_peakOf_4 : decode cX6_peakOf 4 = .ok (.sipush 1000, 3) := by decide +kernel
theorem dX6_peakOf_7 : decode cX6_peakOf 7 = .ok (.goto 17, 3) := by decide +kernel
theorem dX6_peakOf_10 : decode cX6_peakOf 10 = .ok (.iload_n 0, 1) := by decide +kernel
theorem dX6_peakOf_11 : decode cX6_peakOf 11 = .ok (.iconst 1, 1) := by decide +kernel
theorem dX6_peakOf_12 : decode cX6_peakOf 12 = .ok (.if_icmp .ne 9, 3) := by decide +kernel
theorem dX6_peakOf_15 : decode cX6_peakOf 15 = .ok (.sipush 600, 3) := by decide +kernel
theorem dX6_peakOf_18 : decode cX6_peakOf 18 = .ok (.goto 6, 3) := by decide +kernel
theorem dX6_peakOf_21 : decode cX6_peakOf 21 = .ok (.sipush 150, 3) := by decide +kernel
theorem dX6_peakOf_24 : decode cX6_peakOf 24 = .ok (.ireturn, 1) := by decide +kernel
theorem dX6_slideShareOf_0 : decode cX6_slideShareOf 0 = .ok (.iload_n 0, 1) := by decide +kernel
theorem dX6_slideShareOf_1 : decode cX6_slideShareOf 1 = .ok (.ifCond .ne 9, 3) := by decide +kernel
theorem dX6_slideShareOf_4 : decode cX6_slideShareOf 4 = .ok (.sipush 750, 3) := by decide +kernel
theorem dX6_slideShareOf_7 : decode cX6_slideShareOf 7 = .ok (.goto 17, 3) := by decide +kernel
theorem dX6_slideShareOf_10 : decode cX6_slideShareOf 10 = .ok (.iload_n 0, 1) := by decide +kernel
theorem dX6_slideShareOf_11 : decode cX6_slideShareOf 11 = .ok (.iconst 1, 1) := by decide +kernel
theorem dX6_slideShareOf_12 : decode cX6_slideShareOf 12 = .ok (.if_icmp .ne 9, 3) := by decide +kernel
theorem dX6_slideShareOf_15 : decode cX6_slideShareOf 15 = .ok (.sipush 700, 3) := by decide +kernel
theorem dX6_slideShareOf_18 : decode cX6_slideShareOf 18 = .ok (.goto 6, 3) := by decide +kernel
theorem dX6_slideShareOf_21 : decode cX6_slideShareOf 21 = .ok (.sipush 600, 3) := by decide +kernel
theorem dX6_slideShareOf_24 : decode cX6_slideShareOf 24 = .ok (.ireturn, 1) := by decide +kernel
theorem dX6_gripFor_0 : decode cX6_gripFor 0 = .ok (.iload_n 0, 1) := by decide +kernel
theorem dX6_gripFor_1 : decode cX6_gripFor 1 = .ok (.invokestatic 201, 3) := by decide +kernel
theorem dX6_gripFor_4 : decode cX6_gripFor 4 = .ok (.istore_n 2, 1) := by decide +kernel
theorem dX6_gripFor_5 : decode cX6_gripFor 5 = .ok (.iload_n 1, 1) := by decide +kernel
theorem dX6_gripFor_6 : decode cX6_gripFor 6 = .ok (.sipush 150, 3) := by decide +kernel
theorem dX6_gripFor_9 : decode cX6_gripFor 9 = .ok (.if_icmp .gt 13, 3) := by decide +kernel
theorem dX6_gripFor_12 : decode cX6_gripFor 12 = .ok (.iload_n 2, 1) := by decide +kernel
theorem dX6_gripFor_13 : decode cX6_gripFor 13 = .ok (.iload_n 1, 1) := by decide +kernel
theorem dX6_gripFor_14 : decode cX6_gripFor 14 = .ok (.imul, 1) := by decide +kernel
theorem dX6_gripFor_15 : decode cX6_gripFor 15 = .ok (.sipush 150, 3) := by decide +kernel
theorem dX6_gripFor_18 : decode cX6_gripFor 18 = .ok (.invokestatic 204, 3) := by decide +kernel
theorem dX6_gripFor_21 : decode cX6_gripFor 21 = .ok (.ireturn, 1) := by decide +kernel
theorem dX6_gripFor_22 : decode cX6_gripFor 22 = .ok (.iload_n 2, 1) := by decide +kernel
theorem dX6_gripFor_23 : decode cX6_gripFor 23 = .ok (.iload_n 2, 1) := by decide +kernel
theorem dX6_gripFor_24 : decode cX6_gripFor 24 = .ok (.sipush 1000, 3) := by decide +kernel
theorem dX6_gripFor_27 : decode cX6_gripFor 27 = .ok (.iload_n 0, 1) := by decide +kernel
theorem dX6_gripFor_28 : decode cX6_gripFor 28 = .ok (.invokestatic 209, 3) := by decide +kernel
theorem dX6_gripFor_31 : decode cX6_gripFor 31 = .ok (.isub, 1) := by decide +kernel
theorem dX6_gripFor_32 : decode cX6_gripFor 32 = .ok (.imul, 1) := by decide +kernel
theorem dX6_gripFor_33 : decode cX6_gripFor 33 = .ok (.iload_n 1, 1) := by decide +kernel
theorem dX6_gripFor_34 : decode cX6_gripFor 34 = .ok (.sipush 150, 3) := by decide +kernel
theorem dX6_gripFor_37 : decode cX6_gripFor 37 = .ok (.isub, 1) := by decide +kernel
theorem dX6_gripFor_38 : decode cX6_gripFor 38 = .ok (.imul, 1) := by decide +kernel
theorem dX6_gripFor_39 : decode cX6_gripFor 39 = .ok (.ldc 212, 2) := by decide +kernel
theorem dX6_gripFor_41 : decode cX6_gripFor 41 = .ok (.invokestatic 204, 3) := by decide +kernel
theorem dX6_gripFor_44 : decode cX6_gripFor 44 = .ok (.isub, 1) := by decide +kernel
theorem dX6_gripFor_45 : decode cX6_gripFor 45 = .ok (.ireturn, 1) := by decide +kernel
theorem dX6_mix_0 : decode cX6_mix 0 = .ok (.ldc2_w 213, 3) := by decide +kernel
theorem dX6_mix_3 : decode cX6_mix 3 = .ok (.lload_n 0, 1) := by decide +kernel
theorem dX6_mix_4 : decode cX6_mix 4 = .ok (.lmul, 1) := by decide +kernel
theorem dX6_mix_5 : decode cX6_mix 5 = .ok (.iload_n 2, 1) := by decide +kernel
theorem dX6_mix_6 : decode cX6_mix 6 = .ok (.i2l, 1) := by decide +kernel
theorem dX6_mix_7 : decode cX6_mix 7 = .ok (.ladd, 1) := by decide +kernel
theorem dX6_mix_8 : decode cX6_mix 8 = .ok (.lreturn, 1) := by decide +kernel
theorem dX6_asNumber_0 : decode cX6_asNumber 0 = .ok (.iload_n 0, 1) := by decide +kernel
theorem dX6_asNumber_1 : decode cX6_asNumber 1 = .ok (.ifCond .eq 7, 3) := by decide +kernel
theorem dX6_asNumber_4 : decode cX6_asNumber 4 = .ok (.iconst 1, 1) := by decide +kernel
theorem dX6_asNumber_5 : decode cX6_asNumber 5 = .ok (.goto 4, 3) := by decide +kernel
theorem dX6_asNumber_8 : decode cX6_asNumber 8 = .ok (.iconst 0, 1) := by decide +kernel
theorem dX6_asNumber_9 : decode cX6_asNumber 9 = .ok (.ireturn, 1) := by decide +kernel
theorem dX7_init_0 : decode cX7_init 0 = .ok (.aload_n 0, 1) := by decide +kernel
theorem dX7_init_1 : decode cX7_init 1 = .ok (.invokespecial 1, 3) := by decide +kernel
theorem dX7_init_4 : decode cX7_init 4 = .ok (.aload_n 0, 1) := by decide +kernel
theorem dX7_init_5 : decode cX7_init 5 = .ok (.sipush 253, 3) := by decide +kernel
theorem dX7_init_8 : decode cX7_init 8 = .ok (.newarray .int, 2) := by decide +kernel
theorem dX7_init_10 : decode cX7_init 10 = .ok (.putfield 7, 3) := by decide +kernel
theorem dX7_init_13 : decode cX7_init 13 = .ok (.aload_n 0, 1) := by decide +kernel
theorem dX7_init_14 : decode cX7_init 14 = .ok (.sipush 759, 3) := by decide +kernel
theorem dX7_init_17 : decode cX7_init 17 = .ok (.newarray .int, 2) := by decide +kernel
theorem dX7_init_19 : decode cX7_init 19 = .ok (.putfield 13, 3) := by decide +kernel
theorem dX7_init_22 : decode cX7_init 22 = .ok (.aload_n 0, 1) := by decide +kernel
theorem dX7_init_23 : decode cX7_init 23 = .ok (.sipush 253, 3) := by decide +kernel
theorem dX7_init_26 : decode cX7_init 26 = .ok (.newarray .int, 2) := by decide +kernel
theorem dX7_init_28 : decode cX7_init 28 = .ok (.putfield 16, 3) := by decide +kernel
theorem dX7_init_31 : decode cX7_init 31 = .ok (.aload_n 0, 1) := by decide +kernel
theorem dX7_init_32 : decode cX7_init 32 = .ok (.invokevirtual 19, 3) := by decide +kernel
theorem dX7_init_35 : decode cX7_init 35 = .ok (.return_, 1) := by decide +kernel
theorem dX7_begins_0 : decode cX7_begins 0 = .ok (.iconst 0, 1) := by decide +kernel
theorem dX7_begins_1 : decode cX7_begins 1 = .ok (.istore_n 1, 1) := by decide +kernel
theorem dX7_begins_2 : decode cX7_begins 2 = .ok (.iload_n 1, 1) := by decide +kernel
theorem dX7_begins_3 : decode cX7_begins 3 = .ok (.sipush 253, 3) := by decide +kernel
theorem dX7_begins_6 : decode cX7_begins 6 = .ok (.if_icmp .ge 16, 3) := by decide +kernel
theorem dX7_begins_9 : decode cX7_begins 9 = .ok (.aload_n 0, 1) := by decide +kernel
theorem dX7_begins_10 : decode cX7_begins 10 = .ok (.getfield 7, 3) := by decide +kernel
theorem dX7_begins_13 : decode cX7_begins 13 = .ok (.iload_n 1, 1) := by decide +kernel
theorem dX7_begins_14 : decode cX7_begins 14 = .ok (.iconst 0, 1) := by decide +kernel
theorem dX7_begins_15 : decode cX7_begins 15 = .ok (.iastore, 1) := by decide +kernel
theorem dX7_begins_16 : decode cX7_begins 16 = .ok (.iinc 1 1, 3) := by decide +kernel
theorem dX7_begins_19 : decode cX7_begins 19 = .ok (.goto (-17), 3) := by decide +kernel
theorem dX7_begins_22 : decode cX7_begins 22 = .ok (.aload_n 0, 1) := by decide +kernel
theorem dX7_begins_23 : decode cX7_begins 23 = .ok (.getfield 7, 3) := by decide +kernel
theorem dX7_begins_26 : decode cX7_begins 26 = .ok (.bipush 7, 2) := by decide +kernel
theorem dX7_begins_28 : decode cX7_begins 28 = .ok (.sipush 150, 3) := by decide +kernel
theorem dX7_begins_31 : decode cX7_begins 31 = .ok (.iastore, 1) := by decide +kernel
theorem dX7_begins_32 : decode cX7_begins 32 = .ok (.aload_n 0, 1) := by decide +kernel
theorem dX7_begins_33 : decode cX7_begins 33 = .ok (.getfield 7, 3) := by decide +kernel
theorem dX7_begins_36 : decode cX7_begins 36 = .ok (.bipush 8, 2) := by decide +kernel
theorem dX7_begins_38 : decode cX7_begins 38 = .ok (.iconst 1, 1) := by decide +kernel
theorem dX7_begins_39 : decode cX7_begins 39 = .ok (.iastore, 1) := by decide +kernel
theorem dX7_begins_40 : decode cX7_begins 40 = .ok (.aload_n 0, 1) := by decide +kernel
theorem dX7_begins_41 : decode cX7_begins 41 = .ok (.getfield 7, 3) := by decide +kernel
theorem dX7_begins_44 : decode cX7_begins 44 = .ok (.bipush 74, 2) := by decide +kernel
theorem dX7_begins_46 : decode cX7_begins 46 = .ok (.iconst 1, 1) := by decide +kernel
theorem dX7_begins_47 : decode cX7_begins 47 = .ok (.iastore, 1) := by decide +kernel
theorem dX7_begins_48 : decode cX7_begins 48 = .ok (.return_, 1) := by decide +kernel
theorem dX7_thrown_0 : decode cX7_thrown 0 = .ok (.aload_n 0, 1) := by decide +kernel
theorem dX7_thrown_1 : decode cX7_thrown 1 = .ok (.getfield 22, 3) := by decide +kernel
theorem dX7_thrown_4 : decode cX7_thrown 4 = .ok (.ireturn, 1) := by decide +kernel
theorem dX7_refused_0 : decode cX7_refused 0 = .ok (.aload_n 0, 1) := by decide +kernel
theorem dX7_refused_1 : decode cX7_refused 1 = .ok (.iload_n 1, 1) := by decide +kernel
theorem dX7_refused_2 : decode cX7_refused 2 = .ok (.putfield 22, 3) := by decide +kernel
theorem dX7_refused_5 : decode cX7_refused 5 = .ok (.iload_n 1, 1) := by decide +kernel
theorem dX7_refused_6 : decode cX7_refused 6 = .ok (.ifCond .le 7, 3) := by decide +kernel
theorem dX7_refused_9 : decode cX7_refused 9 = .ok (.iconst 1, 1) := by decide +kernel
theorem dX7_refused_10 : decode cX7_refused 10 = .ok (.goto 4, 3) := by decide +kernel
theorem dX7_refused_13 : decode cX7_refused 13 = .ok (.iconst 0, 1) := by decide +kernel
theorem dX7_refused_14 : decode cX7_refused 14 = .ok (.ireturn, 1) := by decide +kernel
theorem dX7_within_0 : decode cX7_within 0 = .ok (.iload_n 0, 1) := by decide +kernel
theorem dX7_within_1 : decode cX7_within 1 = .ok (.iload_n 1, 1) := by decide +kernel
theorem dX7_within_2 : decode cX7_within 2 = .ok (.if_icmp .lt 12, 3) := by decide +kernel
theorem dX7_within_5 : decode cX7_within 5 = .ok (.iload_n 0, 1) := by decide +kernel
theorem dX7_within_6 : decode cX7_within 6 = .ok (.iload_n 2, 1) := by decide +kernel
theorem dX7_within_7 : decode cX7_within 7 = .ok (.if_icmp .gt 7, 3) := by decide +kernel
theorem dX7_within_10 : decode cX7_within 10 = .ok (.iconst 1, 1) := by decide +kernel
theorem dX7_within_11 : decode cX7_within 11 = .ok (.goto 4, 3) := by decide +kernel
theorem dX7_within_14 : decode cX7_within 14 = .ok (.iconst 0, 1) := by decide +kernel
theorem dX7_within_15 : decode cX7_within 15 = .ok (.ireturn, 1) := by decide +kernel
theorem dX7_floor_0 : decode cX7_floor 0 = .ok (.lload_n 0, 1) := by decide +kernel
theorem dX7_floor_1 : decode cX7_floor 1 = .ok (.lload_n 2, 1) := by decide +kernel
theorem dX7_floor_2 : decode cX7_floor 2 = .ok (.ldiv, 1) := by decide +kernel
theorem dX7_floor_3 : decode cX7_floor 3 = .ok (.lstore 4, 2) := by decide +kernel
theorem dX7_floor_5 : decode cX7_floor 5 = .ok (.lload_n 0, 1) := by decide +kernel
theorem dX7_floor_6 : decode cX7_floor 6 = .ok (.lload_n 2, 1) := by decide +kernel
theorem dX7_floor_7 : decode cX7_floor 7 = .ok (.lrem, 1) := by decide +kernel
theorem dX7_floor_8 : decode cX7_floor 8 = .ok (.lconst 0, 1) := by decide +kernel
theorem dX7_floor_9 : decode cX7_floor 9 = .ok (.lcmp, 1) := by decide +kernel
theorem dX7_floor_10 : decode cX7_floor 10 = .ok (.ifCond .ge 10, 3) := by decide +kernel
theorem dX7_floor_13 : decode cX7_floor 13 = .ok (.lload 4, 2) := by decide +kernel
theorem dX7_floor_15 : decode cX7_floor 15 = .ok (.lconst 1, 1) := by decide +kernel
theorem dX7_floor_16 : decode cX7_floor 16 = .ok (.lsub, 1) := by decide +kernel
theorem dX7_floor_17 : decode cX7_floor 17 = .ok (.goto 5, 3) := by decide +kernel
theorem dX7_floor_20 : decode cX7_floor 20 = .ok (.lload 4, 2) := by decide +kernel
theorem dX7_floor_22 : decode cX7_floor 22 = .ok (.l2i, 1) := by decide +kernel
theorem dX7_floor_23 : decode cX7_floor 23 = .ok (.ireturn, 1) := by decide +kernel
theorem dX7_lesser_0 : decode cX7_lesser 0 = .ok (.iload_n 0, 1) := by decide +kernel
theorem dX7_lesser_1 : decode cX7_lesser 1 = .ok (.iload_n 1, 1) := by decide +kernel
theorem dX7_lesser_2 : decode cX7_lesser 2 = .ok (.if_icmp .ge 7, 3) := by decide +kernel
theorem dX7_lesser_5 : decode cX7_lesser 5 = .ok (.iload_n 0, 1) := by decide +kernel
theorem dX7_lesser_6 : decode cX7_lesser 6 = .ok (.goto 4, 3) := by decide +kernel
theorem dX7_lesser_9 : decode cX7_lesser 9 = .ok (.iload_n 1, 1) := by decide +kernel
theorem dX7_lesser_10 : decode cX7_lesser 10 = .ok (.ireturn, 1) := by decide +kernel
theorem dX7_greater_0 : decode cX7_greater 0 = .ok (.iload_n 0, 1) := by decide +kernel
theorem dX7_greater_1 : decode cX7_greater 1 = .ok (.iload_n 1, 1) := by decide +kernel
theorem dX7_greater_2 : decode cX7_greater 2 = .ok (.if_icmp .le 7, 3) := by decide +kernel
theorem dX7_greater_5 : decode cX7_greater 5 = .ok (.iload_n 0, 1) := by decide +kernel
theorem dX7_greater_6 : decode cX7_greater 6 = .ok (.goto 4, 3) := by decide +kernel
theorem dX7_greater_9 : decode cX7_greater 9 = .ok (.iload_n 1, 1) := by decide +kernel
theorem dX7_greater_10 : decode cX7_greater 10 = .ok (.ireturn, 1) := by decide +kernel
theorem dX7_saves_0 : decode cX7_saves 0 = .ok (.aload_n 0, 1) := by decide +kernel
theorem dX7_saves_1 : decode cX7_saves 1 = .ok (.getfield 26, 3) := by decide +kernel
theorem dX7_saves_4 : decode cX7_saves 4 = .ok (.iconst 3, 1) := by decide +kernel
theorem dX7_saves_5 : decode cX7_saves 5 = .ok (.if_icmp .ne 44, 3) := by decide +kernel
theorem dX7_saves_8 : decode cX7_saves 8 = .ok (.iconst 0, 1) := by decide +kernel
theorem dX7_saves_9 : decode cX7_saves 9 = .ok (.istore_n 1, 1) := by decide +kernel
theorem dX7_saves_10 : decode cX7_saves 10 = .ok (.iload_n 1, 1) := by decide +kernel
theorem dX7_saves_11 : decode cX7_saves 11 = .ok (.sipush 506, 3) := by decide +kernel
theorem dX7_saves_14 : decode cX7_saves 14 = .ok (.if_icmp .ge 25, 3) := by decide +kernel
theorem dX7_saves_17 : decode cX7_saves 17 = .ok (.aload_n 0, 1) := by decide +kernel
theorem dX7_saves_18 : decode cX7_saves 18 = .ok (.getfield 13, 3) := by decide +kernel
theorem dX7_saves_21 : decode cX7_saves 21 = .ok (.iload_n 1, 1) := by decide +kernel
theorem dX7_saves_22 : decode cX7_saves 22 = .ok (.aload_n 0, 1) := by decide +kernel
theorem dX7_saves_23 : decode cX7_saves 23 = .ok (.getfield 13, 3) := by decide +kernel
theorem dX7_saves_26 : decode cX7_saves 26 = .ok (.iload_n 1, 1) := by decide +kernel
theorem dX7_saves_27 : decode cX7_saves 27 = .ok (.sipush 253, 3) := by decide +kernel
theorem dX7_saves_30 : decode cX7_saves 30 = .ok (.iadd, 1) := by decide +kernel
theorem dX7_saves_31 : decode cX7_saves 31 = .ok (.iaload, 1) := by decide +kernel
theorem dX7_saves_32 : decode cX7_saves 32 = .ok (.iastore, 1) := by decide +kernel
theorem dX7_saves_33 : decode cX7_saves 33 = .ok (.iinc 1 1, 3) := by decide +kernel
theorem dX7_saves_36 : decode cX7_saves 36 = .ok (.goto (-26), 3) := by decide +kernel
theorem dX7_saves_39 : decode cX7_saves 39 = .ok (.aload_n 0, 1) := by decide +kernel
theorem dX7_saves_40 : decode cX7_saves 40 = .ok (.dup, 1) := by decide +kernel
theorem dX7_saves_41 : decode cX7_saves 41 = .ok (.getfield 26, 3) := by decide +kernel
theorem dX7_saves_44 : decode cX7_saves 44 = .ok (.iconst 1, 1) := by decide +kernel
theorem dX7_saves_45 : decode cX7_saves 45 = .ok (.isub, 1) := by decide +kernel
theorem dX7_saves_46 : decode cX7_saves 46 = .ok (.putfield 26, 3) := by decide +kernel
theorem dX7_saves_49 : decode cX7_saves 49 = .ok (.iconst 0, 1) := by decide +kernel
theorem dX7_saves_50 : decode cX7_saves 50 = .ok (.istore_n 1, 1) := by decide +kernel
theorem dX7_saves_51 : decode cX7_saves 51 = .ok (.iload_n 1, 1) := by decide +kernel
theorem dX7_saves_52 : decode cX7_saves 52 = .ok (.sipush 253, 3) := by decide +kernel
theorem dX7_saves_55 : decode cX7_saves 55 = .ok (.if_icmp .ge 30, 3) := by decide +kernel
theorem dX7_saves_58 : decode cX7_saves 58 = .ok (.aload_n 0, 1) := by decide +kernel
theorem dX7_saves_59 : decode cX7_saves 59 = .ok (.getfield 13, 3) := by decide +kernel
theorem dX7_saves_62 : decode cX7_saves 62 = .ok (.sipush 253, 3) := by decide +kernel
theorem dX7_saves_65 : decode cX7_saves 65 = .ok (.aload_n 0, 1) := by decide +kernel
theorem dX7_saves_66 : decode cX7_saves 66 = .ok (.getfield 26, 3) := by decide +kernel
theorem dX7_saves_69 : decode cX7_saves 69 = .ok (.imul, 1) := by decide +kernel
theorem dX7_saves_70 : decode cX7_saves 70 = .ok (.iload_n 1, 1) := by decide +kernel
theorem dX7_saves_71 : decode cX7_saves 71 = .ok (.iadd, 1) := by decide +kernel
theorem dX7_saves_72 : decode cX7_saves 72 = .ok (.aload_n 0, 1) := by decide +kernel
theorem dX7_saves_73 : decode cX7_saves 73 = .ok (.getfield 7, 3) := by decide +kernel
theorem dX7_saves_76 : decode cX7_saves 76 = .ok (.iload_n 1, 1) := by decide +kernel
theorem dX7_saves_77 : decode cX7_saves 77 = .ok (.iaload, 1) := by decide +kernel
theorem dX7_saves_78 : decode cX7_saves 78 = .ok (.iastore, 1) := by decide +kernel
theorem dX7_saves_79 : decode cX7_saves 79 = .ok (.iinc 1 1, 3) := by decide +kernel
theorem dX7_saves_82 : decode cX7_saves 82 = .ok (.goto (-31), 3) := by decide +kernel
theorem dX7_saves_85 : decode cX7_saves 85 = .ok (.aload_n 0, 1) := by decide +kernel
theorem dX7_saves_86 : decode cX7_saves 86 = .ok (.dup, 1) := by decide +kernel
theorem dX7_saves_87 : decode cX7_saves 87 = .ok (.getfield 26, 3) := by decide +kernel
theorem dX7_saves_90 : decode cX7_saves 90 = .ok (.iconst 1, 1) := by decide +kernel
theorem dX7_saves_91 : decode cX7_saves 91 = .ok (.iadd, 1) := by decide +kernel
theorem dX7_saves_92 : decode cX7_saves 92 = .ok (.putfield 26, 3) := by decide +kernel
theorem dX7_saves_95 : decode cX7_saves 95 = .ok (.return_, 1) := by decide +kernel
theorem dX7_undo_0 : decode cX7_undo 0 = .ok (.aload_n 0, 1) := by decide +kernel
theorem dX7_undo_1 : decode cX7_undo 1 = .ok (.aload_n 0, 1) := by decide +kernel
theorem dX7_undo_2 : decode cX7_undo 2 = .ok (.getfield 26, 3) := by decide +kernel
theorem dX7_undo_5 : decode cX7_undo 5 = .ok (.ifCond .ne 7, 3) := by decide +kernel
theorem dX7_undo_8 : decode cX7_undo 8 = .ok (.iconst 1, 1) := by decide +kernel
theorem dX7_undo_9 : decode cX7_undo 9 = .ok (.goto 4, 3) := by decide +kernel
theorem dX7_undo_12 : decode cX7_undo 12 = .ok (.iconst 0, 1) := by decide +kernel
theorem dX7_undo_13 : decode cX7_undo 13 = .ok (.invokevirtual 29, 3) := by decide +kernel
theorem dX7_undo_16 : decode cX7_undo 16 = .ok (.ifCond .eq 5, 3) := by decide +kernel
theorem dX7_undo_19 : decode cX7_undo 19 = .ok (.iconst 0, 1) := by decide +kernel
theorem dX7_undo_20 : decode cX7_undo 20 = .ok (.ireturn, 1) := by decide +kernel
theorem dX7_undo_21 : decode cX7_undo 21 = .ok (.aload_n 0, 1) := by decide +kernel
theorem dX7_undo_22 : decode cX7_undo 22 = .ok (.dup, 1) := by decide +kernel
theorem dX7_undo_23 : decode cX7_undo 23 = .ok (.getfield 26, 3) := by decide +kernel
theorem dX7_undo_26 : decode cX7_undo 26 = .ok (.iconst 1, 1) := by decide +kernel
theorem dX7_undo_27 : decode cX7_undo 27 = .ok (.isub, 1) := by decide +kernel
theorem dX7_undo_28 : decode cX7_undo 28 = .ok (.putfield 26, 3) := by decide +kernel
theorem dX7_undo_31 : decode cX7_undo 31 = .ok (.iconst 0, 1) := by decide +kernel
theorem dX7_undo_32 : decode cX7_undo 32 = .ok (.istore_n 1, 1) := by decide +kernel
theorem dX7_undo_33 : decode cX7_undo 33 = .ok (.iload_n 1, 1) := by decide +kernel
theorem dX7_undo_34 : decode cX7_undo 34 = .ok (.sipush 253, 3) := by decide +kernel
theorem dX7_undo_37 : decode cX7_undo 37 = .ok (.if_icmp .ge 30, 3) := by decide +kernel
theorem dX7_undo_40 : decode cX7_undo 40 = .ok (.aload_n 0, 1) := by decide +kernel
theorem dX7_undo_41 : decode cX7_undo 41 = .ok (.getfield 7, 3) := by decide +kernel
theorem dX7_undo_44 : decode cX7_undo 44 = .ok (.iload_n 1, 1) := by decide +kernel
theorem dX7_undo_45 : decode cX7_undo 45 = .ok (.aload_n 0, 1) := by decide +kernel
theorem dX7_undo_46 : decode cX7_undo 46 = .ok (.getfield 13, 3) := by decide +kernel
theorem dX7_undo_49 : decode cX7_undo 49 = .ok (.sipush 253, 3) := by decide +kernel
theorem dX7_undo_52 : decode cX7_undo 52 = .ok (.aload_n 0, 1) := by decide +kernel
theorem dX7_undo_53 : decode cX7_undo 53 = .ok (.getfield 26, 3) := by decide +kernel
theorem dX7_undo_56 : decode cX7_undo 56 = .ok (.imul, 1) := by decide +kernel
theorem dX7_undo_57 : decode cX7_undo 57 = .ok (.iload_n 1, 1) := by decide +kernel
theorem dX7_undo_58 : decode cX7_undo 58 = .ok (.iadd, 1) := by decide +kernel
theorem dX7_undo_59 : decode cX7_undo 59 = .ok (.iaload, 1) := by decide +kernel
theorem dX7_undo_60 : decode cX7_undo 60 = .ok (.iastore, 1) := by decide +kernel
theorem dX7_undo_61 : decode cX7_undo 61 = .ok (.iinc 1 1, 3) := by decide +kernel
theorem dX7_undo_64 : decode cX7_undo 64 = .ok (.goto (-31), 3) := by decide +kernel
theorem dX7_undo_67 : decode cX7_undo 67 = .ok (.aload_n 0, 1) := by decide +kernel
theorem dX7_undo_68 : decode cX7_undo 68 = .ok (.getfield 26, 3) := by decide +kernel
theorem dX7_undo_71 : decode cX7_undo 71 = .ok (.ireturn, 1) := by decide +kernel
theorem dX7_at_0 : decode cX7_at 0 = .ok (.bipush 10, 2) := by decide +kernel
theorem dX7_at_2 : decode cX7_at 2 = .ok (.bipush 16, 2) := by decide +kernel
theorem dX7_at_4 : decode cX7_at 4 = .ok (.iload_n 0, 1) := by decide +kernel
theorem dX7_at_5 : decode cX7_at 5 = .ok (.imul, 1) := by decide +kernel
theorem dX7_at_6 : decode cX7_at 6 = .ok (.iadd, 1) := by decide +kernel
theorem dX7_at_7 : decode cX7_at 7 = .ok (.iload_n 1, 1) := by decide +kernel
theorem dX7_at_8 : decode cX7_at 8 = .ok (.iadd, 1) := by decide +kernel
theorem dX7_at_9 : decode cX7_at 9 = .ok (.ireturn, 1) := by decide +kernel
theorem dX7_get_0 : decode cX7_get 0 = .ok (.aload_n 0, 1) := by decide +kernel
theorem dX7_get_1 : decode cX7_get 1 = .ok (.getfield 7, 3) := by decide +kernel
theorem dX7_get_4 : decode cX7_get 4 = .ok (.iload_n 1, 1) := by decide +kernel
theorem dX7_get_5 : decode cX7_get 5 = .ok (.iload_n 2, 1) := by decide +kernel
theorem dX7_get_6 : decode cX7_get 6 = .ok (.invokestatic 33, 3) := by decide +kernel
theorem dX7_get_9 : decode cX7_get 9 = .ok (.iaload, 1) := by decide +kernel
theorem dX7_get_10 : decode cX7_get 10 = .ok (.ireturn, 1) := by decide +kernel
theorem dX7_sets_0 : decode cX7_sets 0 = .ok (.aload_n 0, 1) := by decide +kernel
theorem dX7_sets_1 : decode cX7_sets 1 = .ok (.getfield 7, 3) := by decide +kernel
theorem dX7_sets_4 : decode cX7_sets 4 = .ok (.iload_n 1, 1) := by decide +kernel
theorem dX7_sets_5 : decode cX7_sets 5 = .ok (.iload_n 2, 1) := by decide +kernel
theorem dX7_sets_6 : decode cX7_sets 6 = .ok (.invokestatic 33, 3) := by decide +kernel
theorem dX7_sets_9 : decode cX7_sets 9 = .ok (.iload_n 3, 1) := by decide +kernel
theorem dX7_sets_10 : decode cX7_sets 10 = .ok (.iastore, 1) := by decide +kernel
theorem dX7_sets_11 : decode cX7_sets 11 = .ok (.return_, 1) := by decide +kernel
theorem dX7_isWheel_0 : decode cX7_isWheel 0 = .ok (.iload_n 0, 1) := by decide +kernel
theorem dX7_isWheel_1 : decode cX7_isWheel 1 = .ok (.iconst 0, 1) := by decide +kernel
theorem dX7_isWheel_2 : decode cX7_isWheel 2 = .ok (.iconst 3, 1) := by decide +kernel
theorem dX7_isWheel_3 : decode cX7_isWheel 3 = .ok (.invokestatic 37, 3) := by decide +kernel
theorem dX7_isWheel_6 : decode cX7_isWheel 6 = .ok (.ireturn, 1) := by decide +kernel
theorem dX7_present_0 : decode cX7_present 0 = .ok (.iconst 0, 1) := by decide +kernel
theorem dX7_present_1 : decode cX7_present 1 = .ok (.istore_n 1, 1) := by decide +kernel
theorem dX7_present_2 : decode cX7_present 2 = .ok (.iconst 0, 1) := by decide +kernel
theorem dX7_present_3 : decode cX7_present 3 = .ok (.istore_n 2, 1) := by decide +kernel
theorem dX7_present_4 : decode cX7_present 4 = .ok (.iload_n 2, 1) := by decide +kernel
theorem dX7_present_5 : decode cX7_present 5 = .ok (.aload_n 0, 1) := by decide +kernel
theorem dX7_present_6 : decode cX7_present 6 = .ok (.getfield 7, 3) := by decide +kernel
theorem dX7_present_9 : decode cX7_present 9 = .ok (.bipush 74, 2) := by decide +kernel
theorem dX7_present_11 : decode cX7_present 11 = .ok (.iaload, 1) := by decide +kernel
theorem dX7_present_12 : decode cX7_present 12 = .ok (.if_icmp .ge 35, 3) := by decide +kernel
theorem dX7_present_15 : decode cX7_present 15 = .ok (.aload_n 0, 1) := by decide +kernel
theorem dX7_present_16 : decode cX7_present 16 = .ok (.getfield 7, 3) := by decide +kernel
theorem dX7_present_19 : decode cX7_present 19 = .ok (.bipush 75, 2) := by decide +kernel
theorem dX7_present_21 : decode cX7_present 21 = .ok (.iconst 3, 1) := by decide +kernel
theorem dX7_present_22 : decode cX7_present 22 = .ok (.iload_n 2, 1) := by decide +kernel
theorem dX7_present_23 : decode cX7_present 23 = .ok (.imul, 1) := by decide +kernel
theorem dX7_present_24 : decode cX7_present 24 = .ok (.iadd, 1) := by decide +kernel
theorem dX7_present_25 : decode cX7_present 25 = .ok (.iaload, 1) := by decide +kernel
theorem dX7_present_26 : decode cX7_present 26 = .ok (.aload_n 0, 1) := by decide +kernel
theorem dX7_present_27 : decode cX7_present 27 = .ok (.getfield 7, 3) := by decide +kernel
theorem dX7_present_30 : decode cX7_present 30 = .ok (.iconst 1, 1) := by decide +kernel
theorem dX7_present_31 : decode cX7_present 31 = .ok (.iaload, 1) := by decide +kernel
theorem dX7_present_32 : decode cX7_present 32 = .ok (.if_icmp .gt 7, 3) := by decide +kernel
theorem dX7_present_35 : decode cX7_present 35 = .ok (.iload_n 2, 1) := by decide +kernel
theorem dX7_present_36 : decode cX7_present 36 = .ok (.goto 4, 3) := by decide +kernel
theorem dX7_present_39 : decode cX7_present 39 = .ok (.iload_n 1, 1) := by decide +kernel
theorem dX7_present_40 : decode cX7_present 40 = .ok (.istore_n 1, 1) := by decide +kernel
theorem dX7_present_41 : decode cX7_present 41 = .ok (.iinc 2 1, 3) := by decide +kernel
theorem dX7_present_44 : decode cX7_present 44 = .ok (.goto (-40), 3) := by decide +kernel
theorem dX7_present_47 : decode cX7_present 47 = .ok (.iload_n 1, 1) := by decide +kernel
theorem dX7_present_48 : decode cX7_present 48 = .ok (.ireturn, 1) := by decide +kernel
theorem dX7_frictionOf_0 : decode cX7_frictionOf 0 = .ok (.iload_n 0, 1) := by decide +kernel
theorem dX7_frictionOf_1 : decode cX7_frictionOf 1 = .ok (.ifCond .ne 9, 3) := by decide +kernel
theorem dX7_frictionOf_4 : decode cX7_frictionOf 4 = .ok (.sipush 1000, 3) := by decide +kernel
theorem dX7_frictionOf_7 : decode cX7_frictionOf 7 = .ok (.goto 17, 3) := by decide +kernel
theorem dX7_frictionOf_10 : decode cX7_frictionOf 10 = .ok (.iload_n 0, 1) := by decide +kernel
theorem dX7_frictionOf_11 : decode cX7_frictionOf 11 = .ok (.iconst 1, 1) := by decide +kernel
theorem dX7_frictionOf_12 : decode cX7_frictionOf 12 = .ok (.if_icmp .ne 9, 3) := by decide +kernel
theorem dX7_frictionOf_15 : decode cX7_frictionOf 15 = .ok (.sipush 600, 3) := by decide +kernel
theorem dX7_frictionOf_18 : decode cX7_frictionOf 18 = .ok (.goto 6, 3) := by decide +kernel
theorem dX7_frictionOf_21 : decode cX7_frictionOf 21 = .ok (.sipush 150, 3) := by decide +kernel
theorem dX7_frictionOf_24 : decode cX7_frictionOf 24 = .ok (.istore_n 2, 1) := by decide +kernel
theorem dX7_frictionOf_25 : decode cX7_frictionOf 25 = .ok (.iload_n 0, 1) := by decide +kernel
theorem dX7_frictionOf_26 : decode cX7_frictionOf 26 = .ok (.ifCond .ne 9, 3) := by decide +kernel
theorem dX7_frictionOf_29 : decode cX7_frictionOf 29 = .ok (.sipush 750, 3) := by decide +kernel
theorem dX7_frictionOf_32 : decode cX7_frictionOf 32 = .ok (.goto 17, 3) := by decide +kernel
theorem dX7_frictionOf_35 : decode cX7_frictionOf 35 = .ok (.iload_n 0, 1) := by decide +kernel
theorem dX7_frictionOf_36 : decode cX7_frictionOf 36 = .ok (.iconst 1, 1) := by decide +kernel
theorem dX7_frictionOf_37 : decode cX7_frictionOf 37 = .ok (.if_icmp .ne 9, 3) := by decide +kernel
theorem dX7_frictionOf_40 : decode cX7_frictionOf 40 = .ok (.sipush 700, 3) := by decide +kernel
theorem dX7_frictionOf_43 : decode cX7_frictionOf 43 = .ok (.goto 6, 3) := by decide +kernel
theorem dX7_frictionOf_46 : decode cX7_frictionOf 46 = .ok (.sipush 600, 3) := by decide +kernel
theorem dX7_frictionOf_49 : decode cX7_frictionOf 49 = .ok (.istore_n 3, 1) := by decide +kernel
theorem dX7_frictionOf_50 : decode cX7_frictionOf 50 = .ok (.iload_n 1, 1) := by decide +kernel
theorem dX7_frictionOf_51 : decode cX7_frictionOf 51 = .ok (.sipush 150, 3) := by decide +kernel
theorem dX7_frictionOf_54 : decode cX7_frictionOf 54 = .ok (.if_icmp .gt 13, 3) := by decide +kernel
theorem dX7_frictionOf_57 : decode cX7_frictionOf 57 = .ok (.iload_n 2, 1) := by decide +kernel
theorem dX7_frictionOf_58 : decode cX7_frictionOf 58 = .ok (.iload_n 1, 1) := by decide +kernel
theorem dX7_frictionOf_59 : decode cX7_frictionOf 59 = .ok (.imul, 1) := by decide +kernel
theorem dX7_frictionOf_60 : decode cX7_frictionOf 60 = .ok (.sipush 150, 3) := by decide +kernel
theorem dX7_frictionOf_63 : decode cX7_frictionOf 63 = .ok (.idiv, 1) := by decide +kernel
theorem dX7_frictionOf_64 : decode cX7_frictionOf 64 = .ok (.goto 26, 3) := by decide +kernel
theorem dX7_frictionOf_67 : decode cX7_frictionOf 67 = .ok (.iload_n 2, 1) := by decide +kernel
theorem dX7_frictionOf_68 : decode cX7_frictionOf 68 = .ok (.iload_n 2, 1) := by decide +kernel
theorem dX7_frictionOf_69 : decode cX7_frictionOf 69 = .ok (.i2l, 1) := by decide +kernel
theorem dX7_frictionOf_70 : decode cX7_frictionOf 70 = .ok (.sipush 1000, 3) := by decide +kernel
theorem dX7_frictionOf_73 : decode cX7_frictionOf 73 = .ok (.iload_n 3, 1) := by decide +kernel
theorem dX7_frictionOf_74 : decode cX7_frictionOf 74 = .ok (.isub, 1) := by decide +kernel
theorem dX7_frictionOf_75 : decode cX7_frictionOf 75 = .ok (.i2l, 1) := by decide +kernel
theorem dX7_frictionOf_76 : decode cX7_frictionOf 76 = .ok (.lmul, 1) := by decide +kernel
theorem dX7_frictionOf_77 : decode cX7_frictionOf 77 = .ok (.iload_n 1, 1) := by decide +kernel
theorem dX7_frictionOf_78 : decode cX7_frictionOf 78 = .ok (.sipush 150, 3) := by decide +kernel
theorem dX7_frictionOf_81 : decode cX7_frictionOf 81 = .ok (.isub, 1) := by decide +kernel
theorem dX7_frictionOf_82 : decode cX7_frictionOf 82 = .ok (.i2l, 1) := by decide +kernel
theorem dX7_frictionOf_83 : decode cX7_frictionOf 83 = .ok (.lmul, 1) := by decide +kernel
theorem dX7_frictionOf_84 : decode cX7_frictionOf 84 = .ok (.ldc2_w 41, 3) := by decide +kernel
theorem dX7_frictionOf_87 : decode cX7_frictionOf 87 = .ok (.ldiv, 1) := by decide +kernel
theorem dX7_frictionOf_88 : decode cX7_frictionOf 88 = .ok (.l2i, 1) := by decide +kernel
theorem dX7_frictionOf_89 : decode cX7_frictionOf 89 = .ok (.isub, 1) := by decide +kernel
theorem dX7_frictionOf_90 : decode cX7_frictionOf 90 = .ok (.ireturn, 1) := by decide +kernel
theorem dX7_slipOf_0 : decode cX7_slipOf 0 = .ok (.aload_n 0, 1) := by decide +kernel
theorem dX7_slipOf_1 : decode cX7_slipOf 1 = .ok (.getfield 7, 3) := by decide +kernel
theorem dX7_slipOf_4 : decode cX7_slipOf 4 = .ok (.iconst 0, 1) := by decide +kernel
theorem dX7_slipOf_5 : decode cX7_slipOf 5 = .ok (.iaload, 1) := by decide +kernel
theorem dX7_slipOf_6 : decode cX7_slipOf 6 = .ok (.ifCond .ne 7, 3) := by decide +kernel
theorem dX7_slipOf_9 : decode cX7_slipOf 9 = .ok (.iconst 0, 1) := by decide +kernel
theorem dX7_slipOf_10 : decode cX7_slipOf 10 = .ok (.goto 30, 3) := by decide +kernel
theorem dX7_slipOf_13 : decode cX7_slipOf 13 = .ok (.ldc2_w 43, 3) := by decide +kernel
theorem dX7_slipOf_16 : decode cX7_slipOf 16 = .ok (.aload_n 0, 1) := by decide +kernel
theorem dX7_slipOf_17 : decode cX7_slipOf 17 = .ok (.getfield 7, 3) := by decide +kernel
theorem dX7_slipOf_20 : decode cX7_slipOf 20 = .ok (.iconst 0, 1) := by decide +kernel
theorem dX7_slipOf_21 : decode cX7_slipOf 21 = .ok (.iaload, 1) := by decide +kernel
theorem dX7_slipOf_22 : decode cX7_slipOf 22 = .ok (.aload_n 0, 1) := by decide +kernel
theorem dX7_slipOf_23 : decode cX7_slipOf 23 = .ok (.iload_n 1, 1) := by decide +kernel
theorem dX7_slipOf_24 : decode cX7_slipOf 24 = .ok (.iconst 0, 1) := by decide +kernel
theorem dX7_slipOf_25 : decode cX7_slipOf 25 = .ok (.invokevirtual 45, 3) := by decide +kernel
theorem dX7_slipOf_28 : decode cX7_slipOf 28 = .ok (.isub, 1) := by decide +kernel
theorem dX7_slipOf_29 : decode cX7_slipOf 29 = .ok (.i2l, 1) := by decide +kernel
theorem dX7_slipOf_30 : decode cX7_slipOf 30 = .ok (.lmul, 1) := by decide +kernel
theorem dX7_slipOf_31 : decode cX7_slipOf 31 = .ok (.aload_n 0, 1) := by decide +kernel
theorem dX7_slipOf_32 : decode cX7_slipOf 32 = .ok (.getfield 7, 3) := by decide +kernel
theorem dX7_slipOf_35 : decode cX7_slipOf 35 = .ok (.iconst 0, 1) := by decide +kernel
theorem dX7_slipOf_36 : decode cX7_slipOf 36 = .ok (.iaload, 1) := by decide +kernel
theorem dX7_slipOf_37 : decode cX7_slipOf 37 = .ok (.i2l, 1) := by decide +kernel
theorem dX7_slipOf_38 : decode cX7_slipOf 38 = .ok (.ldiv, 1) := by decide +kernel
theorem dX7_slipOf_39 : decode cX7_slipOf 39 = .ok (.l2i, 1) := by decide +kernel
theorem dX7_slipOf_40 : decode cX7_slipOf 40 = .ok (.ireturn, 1) := by decide +kernel
theorem dX7_frictionAt_0 : decode cX7_frictionAt 0 = .ok (.aload_n 0, 1) := by decide +kernel
theorem dX7_frictionAt_1 : decode cX7_frictionAt 1 = .ok (.getfield 7, 3) := by decide +kernel
theorem dX7_frictionAt_4 : decode cX7_frictionAt 4 = .ok (.bipush 75, 2) := by decide +kernel
theorem dX7_frictionAt_6 : decode cX7_frictionAt 6 = .ok (.iconst 3, 1) := by decide +kernel
theorem dX7_frictionAt_7 : decode cX7_frictionAt 7 = .ok (.aload_n 0, 1) := by decide +kernel
theorem dX7_frictionAt_8 : decode cX7_frictionAt 8 = .ok (.invokevirtual 48, 3) := by decide +kernel
theorem dX7_frictionAt_11 : decode cX7_frictionAt 11 = .ok (.imul, 1) := by decide +kernel
theorem dX7_frictionAt_12 : decode cX7_frictionAt 12 = .ok (.iadd, 1) := by decide +kernel
theorem dX7_frictionAt_13 : decode cX7_frictionAt 13 = .ok (.iconst 1, 1) := by decide +kernel
theorem dX7_frictionAt_14 : decode cX7_frictionAt 14 = .ok (.iadd, 1) := by decide +kernel
theorem dX7_frictionAt_15 : decode cX7_frictionAt 15 = .ok (.iload_n 1, 1) := by decide +kernel
theorem dX7_frictionAt_16 : decode cX7_frictionAt 16 = .ok (.iconst 2, 1) := by decide +kernel
theorem dX7_frictionAt_17 : decode cX7_frictionAt 17 = .ok (.irem, 1) := by decide +kernel
theorem dX7_frictionAt_18 : decode cX7_frictionAt 18 = .ok (.iadd, 1) := by decide +kernel
theorem dX7_frictionAt_19 : decode cX7_frictionAt 19 = .ok (.iaload, 1) := by decide +kernel
theorem dX7_frictionAt_20 : decode cX7_frictionAt 20 = .ok (.aload_n 0, 1) := by decide +kernel
theorem dX7_frictionAt_21 : decode cX7_frictionAt 21 = .ok (.iload_n 1, 1) := by decide +kernel
theorem dX7_frictionAt_22 : decode cX7_frictionAt 22 = .ok (.invokevirtual 52, 3) := by decide +kernel
theorem dX7_frictionAt_25 : decode cX7_frictionAt 25 = .ok (.invokestatic 56, 3) := by decide +kernel
theorem dX7_frictionAt_28 : decode cX7_frictionAt 28 = .ok (.ireturn, 1) := by decide +kernel
theorem dX7_dropsSegments_0 : decode cX7_dropsSegments 0 = .ok (.aload_n 0, 1) := by decide +kernel
theorem dX7_dropsSegments_1 : decode cX7_dropsSegments 1 = .ok (.invokevirtual 48, 3) := by decide +kernel
theorem dX7_dropsSegments_4 : decode cX7_dropsSegments 4 = .ok (.istore_n 1, 1) := by decide +kernel
theorem dX7_dropsSegments_5 : decode cX7_dropsSegments 5 = .ok (.aload_n 0, 1) := by decide +kernel
theorem dX7_dropsSegments_6 : decode cX7_dropsSegments 6 = .ok (.getfield 7, 3) := by decide +kernel
theorem dX7_dropsSegments_9 : decode cX7_dropsSegments 9 = .ok (.bipush 74, 2) := by decide +kernel
theorem dX7_dropsSegments_11 : decode cX7_dropsSegments 11 = .ok (.dup2, 1) := by decide +kernel
theorem dX7_dropsSegments_12 : decode cX7_dropsSegments 12 = .ok (.iaload, 1) := by decide +kernel
theorem dX7_dropsSegments_13 : decode cX7_dropsSegments 13 = .ok (.iload_n 1, 1) := by decide +kernel
theorem dX7_dropsSegments_14 : decode cX7_dropsSegments 14 = .ok (.isub, 1) := by decide +kernel
theorem dX7_dropsSegments_15 : decode cX7_dropsSegments 15 = .ok (.iastore, 1) := by decide +kernel
theorem dX7_dropsSegments_16 : decode cX7_dropsSegments 16 = .ok (.iconst 0, 1) := by decide +kernel
theorem dX7_dropsSegments_17 : decode cX7_dropsSegments 17 = .ok (.istore_n 2, 1) := by decide +kernel
theorem dX7_dropsSegments_18 : decode cX7_dropsSegments 18 = .ok (.iload_n 2, 1) := by decide +kernel
theorem dX7_dropsSegments_19 : decode cX7_dropsSegments 19 = .ok (.iconst 3, 1) := by decide +kernel
theorem dX7_dropsSegments_20 : decode cX7_dropsSegments 20 = .ok (.aload_n 0, 1) := by decide +kernel
theorem dX7_dropsSegments_21 : decode cX7_dropsSegments 21 = .ok (.getfield 7, 3) := by decide +kernel
theorem dX7_dropsSegments_24 : decode cX7_dropsSegments 24 = .ok (.bipush 74, 2) := by decide +kernel
theorem dX7_dropsSegments_26 : decode cX7_dropsSegments 26 = .ok (.iaload, 1) := by decide +kernel
theorem dX7_dropsSegments_27 : decode cX7_dropsSegments 27 = .ok (.imul, 1) := by decide +kernel
theorem dX7_dropsSegments_28 : decode cX7_dropsSegments 28 = .ok (.if_icmp .ge 31, 3) := by decide +kernel
theorem dX7_dropsSegments_31 : decode cX7_dropsSegments 31 = .ok (.aload_n 0, 1) := by decide +kernel
theorem dX7_dropsSegments_32 : decode cX7_dropsSegments 32 = .ok (.getfield 7, 3) := by decide +kernel
theorem dX7_dropsSegments_35 : decode cX7_dropsSegments 35 = .ok (.bipush 75, 2) := by decide +kernel
theorem dX7_dropsSegments_37 : decode cX7_dropsSegments 37 = .ok (.iload_n 2, 1) := by decide +kernel
theorem dX7_dropsSegments_38 : decode cX7_dropsSegments 38 = .ok (.iadd, 1) := by decide +kernel
theorem dX7_dropsSegments_39 : decode cX7_dropsSegments 39 = .ok (.aload_n 0, 1) := by decide +kernel
theorem dX7_dropsSegments_40 : decode cX7_dropsSegments 40 = .ok (.getfield 7, 3) := by decide +kernel
theorem dX7_dropsSegments_43 : decode cX7_dropsSegments 43 = .ok (.bipush 75, 2) := by decide +kernel
theorem dX7_dropsSegments_45 : decode cX7_dropsSegments 45 = .ok (.iload_n 2, 1) := by decide +kernel
theorem dX7_dropsSegments_46 : decode cX7_dropsSegments 46 = .ok (.iadd, 1) := by decide +kernel
theorem dX7_dropsSegments_47 : decode cX7_dropsSegments 47 = .ok (.iconst 3, 1) := by decide +kernel
theorem dX7_dropsSegments_48 : decode cX7_dropsSegments 48 = .ok (.iload_n 1, 1) := by decide +kernel
theorem dX7_dropsSegments_49 : decode cX7_dropsSegments 49 = .ok (.imul, 1) := by decide +kernel
theorem dX7_dropsSegments_50 : decode cX7_dropsSegments 50 = .ok (.iadd, 1) := by decide +kernel
theorem dX7_dropsSegments_51 : decode cX7_dropsSegments 51 = .ok (.iaload, 1) := by decide +kernel
theorem dX7_dropsSegments_52 : decode cX7_dropsSegments 52 = .ok (.iastore, 1) := by decide +kernel
theorem dX7_dropsSegments_53 : decode cX7_dropsSegments 53 = .ok (.iinc 2 1, 3) := by decide +kernel
theorem dX7_dropsSegments_56 : decode cX7_dropsSegments 56 = .ok (.goto (-38), 3) := by decide +kernel
theorem dX7_dropsSegments_59 : decode cX7_dropsSegments 59 = .ok (.return_, 1) := by decide +kernel
theorem dX7_logs_0 : decode cX7_logs 0 = .ok (.aload_n 0, 1) := by decide +kernel
theorem dX7_logs_1 : decode cX7_logs 1 = .ok (.getfield 7, 3) := by decide +kernel
theorem dX7_logs_4 : decode cX7_logs 4 = .ok (.sipush 132, 3) := by decide +kernel
theorem dX7_logs_7 : decode cX7_logs 7 = .ok (.iaload, 1) := by decide +kernel
theorem dX7_logs_8 : decode cX7_logs 8 = .ok (.bipush 40, 2) := by decide +kernel
theorem dX7_logs_10 : decode cX7_logs 10 = .ok (.if_icmp .ne 51, 3) := by decide +kernel
theorem dX7_logs_13 : decode cX7_logs 13 = .ok (.iconst 0, 1) := by decide +kernel
theorem dX7_logs_14 : decode cX7_logs 14 = .ok (.istore_n 3, 1) := by decide +kernel
theorem dX7_logs_15 : decode cX7_logs 15 = .ok (.iload_n 3, 1) := by decide +kernel
theorem dX7_logs_16 : decode cX7_logs 16 = .ok (.bipush 117, 2) := by decide +kernel
theorem dX7_logs_18 : decode cX7_logs 18 = .ok (.if_icmp .ge 31, 3) := by decide +kernel
theorem dX7_logs_21 : decode cX7_logs 21 = .ok (.aload_n 0, 1) := by decide +kernel
theorem dX7_logs_22 : decode cX7_logs 22 = .ok (.getfield 7, 3) := by decide +kernel
theorem dX7_logs_25 : decode cX7_logs 25 = .ok (.sipush 133, 3) := by decide +kernel
theorem dX7_logs_28 : decode cX7_logs 28 = .ok (.iload_n 3, 1) := by decide +kernel
theorem dX7_logs_29 : decode cX7_logs 29 = .ok (.iadd, 1) := by decide +kernel
theorem dX7_logs_30 : decode cX7_logs 30 = .ok (.aload_n 0, 1) := by decide +kernel
theorem dX7_logs_31 : decode cX7_logs 31 = .ok (.getfield 7, 3) := by decide +kernel
theorem dX7_logs_34 : decode cX7_logs 34 = .ok (.sipush 133, 3) := by decide +kernel
theorem dX7_logs_37 : decode cX7_logs 37 = .ok (.iload_n 3, 1) := by decide +kernel
theorem dX7_logs_38 : decode cX7_logs 38 = .ok (.iadd, 1) := by decide +kernel
theorem dX7_logs_39 : decode cX7_logs 39 = .ok (.iconst 3, 1) := by decide +kernel
theorem dX7_logs_40 : decode cX7_logs 40 = .ok (.iadd, 1) := by decide +kernel
theorem dX7_logs_41 : decode cX7_logs 41 = .ok (.iaload, 1) := by decide +kernel
theorem dX7_logs_42 : decode cX7_logs 42 = .ok (.iastore, 1) := by decide +kernel
theorem dX7_logs_43 : decode cX7_logs 43 = .ok (.iinc 3 1, 3) := by decide +kernel
theorem dX7_logs_46 : decode cX7_logs 46 = .ok (.goto (-31), 3) := by decide +kernel
theorem dX7_logs_49 : decode cX7_logs 49 = .ok (.aload_n 0, 1) := by decide +kernel
theorem dX7_logs_50 : decode cX7_logs 50 = .ok (.getfield 7, 3) := by decide +kernel
theorem dX7_logs_53 : decode cX7_logs 53 = .ok (.sipush 132, 3) := by decide +kernel
theorem dX7_logs_56 : decode cX7_logs 56 = .ok (.dup2, 1) := by decide +kernel
theorem dX7_logs_57 : decode cX7_logs 57 = .ok (.iaload, 1) := by decide +kernel
theorem dX7_logs_58 : decode cX7_logs 58 = .ok (.iconst 1, 1) := by decide +kernel
theorem dX7_logs_59 : decode cX7_logs 59 = .ok (.isub, 1) := by decide +kernel
theorem dX7_logs_60 : decode cX7_logs 60 = .ok (.iastore, 1) := by decide +kernel
theorem dX7_logs_61 : decode cX7_logs 61 = .ok (.sipush 133, 3) := by decide +kernel
theorem dX7_logs_64 : decode cX7_logs 64 = .ok (.iconst 3, 1) := by decide +kernel
theorem dX7_logs_65 : decode cX7_logs 65 = .ok (.aload_n 0, 1) := by decide +kernel
theorem dX7_logs_66 : decode cX7_logs 66 = .ok (.getfield 7, 3) := by decide +kernel
theorem dX7_logs_69 : decode cX7_logs 69 = .ok (.sipush 132, 3) := by decide +kernel
theorem dX7_logs_72 : decode cX7_logs 72 = .ok (.iaload, 1) := by decide +kernel
theorem dX7_logs_73 : decode cX7_logs 73 = .ok (.imul, 1) := by decide +kernel
theorem dX7_logs_74 : decode cX7_logs 74 = .ok (.iadd, 1) := by decide +kernel
theorem dX7_logs_75 : decode cX7_logs 75 = .ok (.istore_n 3, 1) := by decide +kernel
theorem dX7_logs_76 : decode cX7_logs 76 = .ok (.aload_n 0, 1) := by decide +kernel
theorem dX7_logs_77 : decode cX7_logs 77 = .ok (.getfield 7, 3) := by decide +kernel
theorem dX7_logs_80 : decode cX7_logs 80 = .ok (.iload_n 3, 1) := by decide +kernel
theorem dX7_logs_81 : decode cX7_logs 81 = .ok (.aload_n 0, 1) := by decide +kernel
theorem dX7_logs_82 : decode cX7_logs 82 = .ok (.getfield 7, 3) := by decide +kernel
theorem dX7_logs_85 : decode cX7_logs 85 = .ok (.iconst 2, 1) := by decide +kernel
theorem dX7_logs_86 : decode cX7_logs 86 = .ok (.iaload, 1) := by decide +kernel
theorem dX7_logs_87 : decode cX7_logs 87 = .ok (.iastore, 1) := by decide +kernel
theorem dX7_logs_88 : decode cX7_logs 88 = .ok (.aload_n 0, 1) := by decide +kernel
theorem dX7_logs_89 : decode cX7_logs 89 = .ok (.getfield 7, 3) := by decide +kernel
theorem dX7_logs_92 : decode cX7_logs 92 = .ok (.iload_n 3, 1) := by decide +kernel
theorem dX7_logs_93 : decode cX7_logs 93 = .ok (.iconst 1, 1) := by decide +kernel
theorem dX7_logs_94 : decode cX7_logs 94 = .ok (.iadd, 1) := by decide +kernel
theorem dX7_logs_95 : decode cX7_logs 95 = .ok (.iload_n 1, 1) := by decide +kernel
theorem dX7_logs_96 : decode cX7_logs 96 = .ok (.iastore, 1) := by decide +kernel
theorem dX7_logs_97 : decode cX7_logs 97 = .ok (.aload_n 0, 1) := by decide +kernel
theorem dX7_logs_98 : decode cX7_logs 98 = .ok (.getfield 7, 3) := by decide +kernel
theorem dX7_logs_101 : decode cX7_logs 101 = .ok (.iload_n 3, 1) := by decide +kernel
theorem dX7_logs_102 : decode cX7_logs 102 = .ok (.iconst 2, 1) := by decide +kernel
theorem dX7_logs_103 : decode cX7_logs 103 = .ok (.iadd, 1) := by decide +kernel
theorem dX7_logs_104 : decode cX7_logs 104 = .ok (.iload_n 2, 1) := by decide +kernel
theorem dX7_logs_105 : decode cX7_logs 105 = .ok (.iastore, 1) := by decide +kernel
theorem dX7_logs_106 : decode cX7_logs 106 = .ok (.aload_n 0, 1) := by decide +kernel
theorem dX7_logs_107 : decode cX7_logs 107 = .ok (.getfield 7, 3) := by decide +kernel
theorem dX7_logs_110 : decode cX7_logs 110 = .ok (.sipush 132, 3) := by decide +kernel
theorem dX7_logs_113 : decode cX7_logs 113 = .ok (.dup2, 1) := by decide +kernel
theorem dX7_logs_114 : decode cX7_logs 114 = .ok (.iaload, 1) := by decide +kernel
theorem dX7_logs_115 : decode cX7_logs 115 = .ok (.iconst 1, 1) := by decide +kernel
theorem dX7_logs_116 : decode cX7_logs 116 = .ok (.iadd, 1) := by decide +kernel
theorem dX7_logs_117 : decode cX7_logs 117 = .ok (.iastore, 1) := by decide +kernel
theorem dX7_logs_118 : decode cX7_logs 118 = .ok (.return_, 1) := by decide +kernel
theorem dX7_followsPlan_0 : decode cX7_followsPlan 0 = .ok (.aload_n 0, 1) := by decide +kernel
theorem dX7_followsPlan_1 : decode cX7_followsPlan 1 = .ok (.getfield 7, 3) := by decide +kernel
theorem dX7_followsPlan_4 : decode cX7_followsPlan 4 = .ok (.bipush 111, 2) := by decide +kernel
theorem dX7_followsPlan_6 : decode cX7_followsPlan 6 = .ok (.iaload, 1) := by decide +kernel
theorem dX7_followsPlan_7 : decode cX7_followsPlan 7 = .ok (.ifCond .le 87, 3) := by decide +kernel
theorem dX7_followsPlan_10 : decode cX7_followsPlan 10 = .ok (.aload_n 0, 1) := by decide +kernel
theorem dX7_followsPlan_11 : decode cX7_followsPlan 11 = .ok (.getfield 7, 3) := by decide +kernel
theorem dX7_followsPlan_14 : decode cX7_followsPlan 14 = .ok (.bipush 112, 2) := by decide +kernel
theorem dX7_followsPlan_16 : decode cX7_followsPlan 16 = .ok (.iaload, 1) := by decide +kernel
theorem dX7_followsPlan_17 : decode cX7_followsPlan 17 = .ok (.aload_n 0, 1) := by decide +kernel
theorem dX7_followsPlan_18 : decode cX7_followsPlan 18 = .ok (.getfield 7, 3) := by decide +kernel
theorem dX7_followsPlan_21 : decode cX7_followsPlan 21 = .ok (.iconst 2, 1) := by decide +kernel
theorem dX7_followsPlan_22 : decode cX7_followsPlan 22 = .ok (.iaload, 1) := by decide +kernel
theorem dX7_followsPlan_23 : decode cX7_followsPlan 23 = .ok (.if_icmp .gt 71, 3) := by decide +kernel
theorem dX7_followsPlan_26 : decode cX7_followsPlan 26 = .ok (.aload_n 0, 1) := by decide +kernel
theorem dX7_followsPlan_27 : decode cX7_followsPlan 27 = .ok (.getfield 7, 3) := by decide +kernel
theorem dX7_followsPlan_30 : decode cX7_followsPlan 30 = .ok (.iconst 3, 1) := by decide +kernel
theorem dX7_followsPlan_31 : decode cX7_followsPlan 31 = .ok (.aload_n 0, 1) := by decide +kernel
theorem dX7_followsPlan_32 : decode cX7_followsPlan 32 = .ok (.getfield 7, 3) := by decide +kernel
theorem dX7_followsPlan_35 : decode cX7_followsPlan 35 = .ok (.bipush 113, 2) := by decide +kernel
theorem dX7_followsPlan_37 : decode cX7_followsPlan 37 = .ok (.iaload, 1) := by decide +kernel
theorem dX7_followsPlan_38 : decode cX7_followsPlan 38 = .ok (.iastore, 1) := by decide +kernel
theorem dX7_followsPlan_39 : decode cX7_followsPlan 39 = .ok (.aload_n 0, 1) := by decide +kernel
theorem dX7_followsPlan_40 : decode cX7_followsPlan 40 = .ok (.getfield 7, 3) := by decide +kernel
theorem dX7_followsPlan_43 : decode cX7_followsPlan 43 = .ok (.bipush 111, 2) := by decide +kernel
theorem dX7_followsPlan_45 : decode cX7_followsPlan 45 = .ok (.dup2, 1) := by decide +kernel
theorem dX7_followsPlan_46 : decode cX7_followsPlan 46 = .ok (.iaload, 1) := by decide +kernel
theorem dX7_followsPlan_47 : decode cX7_followsPlan 47 = .ok (.iconst 1, 1) := by decide +kernel
theorem dX7_followsPlan_48 : decode cX7_followsPlan 48 = .ok (.isub, 1) := by decide +kernel
theorem dX7_followsPlan_49 : decode cX7_followsPlan 49 = .ok (.iastore, 1) := by decide +kernel
theorem dX7_followsPlan_50 : decode cX7_followsPlan 50 = .ok (.iconst 0, 1) := by decide +kernel
theorem dX7_followsPlan_51 : decode cX7_followsPlan 51 = .ok (.istore_n 1, 1) := by decide +kernel
theorem dX7_followsPlan_52 : decode cX7_followsPlan 52 = .ok (.iload_n 1, 1) := by decide +kernel
theorem dX7_followsPlan_53 : decode cX7_followsPlan 53 = .ok (.iconst 2, 1) := by decide +kernel
theorem dX7_followsPlan_54 : decode cX7_followsPlan 54 = .ok (.aload_n 0, 1) := by decide +kernel
theorem dX7_followsPlan_55 : decode cX7_followsPlan 55 = .ok (.getfield 7, 3) := by decide +kernel
theorem dX7_followsPlan_58 : decode cX7_followsPlan 58 = .ok (.bipush 111, 2) := by decide +kernel
theorem dX7_followsPlan_60 : decode cX7_followsPlan 60 = .ok (.iaload, 1) := by decide +kernel
theorem dX7_followsPlan_61 : decode cX7_followsPlan 61 = .ok (.imul, 1) := by decide +kernel
theorem dX7_followsPlan_62 : decode cX7_followsPlan 62 = .ok (.if_icmp .ge 29, 3) := by decide +kernel
theorem dX7_followsPlan_65 : decode cX7_followsPlan 65 = .ok (.aload_n 0, 1) := by decide +kernel
theorem dX7_followsPlan_66 : decode cX7_followsPlan 66 = .ok (.getfield 7, 3) := by decide +kernel
theorem dX7_followsPlan_69 : decode cX7_followsPlan 69 = .ok (.bipush 112, 2) := by decide +kernel
theorem dX7_followsPlan_71 : decode cX7_followsPlan 71 = .ok (.iload_n 1, 1) := by decide +kernel
