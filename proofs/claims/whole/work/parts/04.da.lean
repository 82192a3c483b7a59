theorem dX0_init_0 : decode cX0_init 0 = .ok (.aload_n 0, 1) := by decide +kernel
theorem dX0_init_1 : decode cX0_init 1 = .ok (.invokespecial 3, 3) := by decide +kernel
theorem dX0_init_4 : decode cX0_init 4 = .ok (.aload_n 0, 1) := by decide +kernel
theorem dX0_init_5 : decode cX0_init 5 = .ok (.bipush 41, 2) := by decide +kernel
theorem dX0_init_7 : decode cX0_init 7 = .ok (.anewarray 9, 3) := by decide +kernel
theorem dX0_init_10 : decode cX0_init 10 = .ok (.putfield 11, 3) := by decide +kernel
theorem dX0_init_13 : decode cX0_init 13 = .ok (.aload_n 0, 1) := by decide +kernel
theorem dX0_init_14 : decode cX0_init 14 = .ok (.iconst 0, 1) := by decide +kernel
theorem dX0_init_15 : decode cX0_init 15 = .ok (.putfield 17, 3) := by decide +kernel
theorem dX0_init_18 : decode cX0_init 18 = .ok (.aload_n 0, 1) := by decide +kernel
theorem dX0_init_19 : decode cX0_init 19 = .ok (.iconst 0, 1) := by decide +kernel
theorem dX0_init_20 : decode cX0_init 20 = .ok (.putfield 21, 3) := by decide +kernel
theorem dX0_init_23 : decode cX0_init 23 = .ok (.aload_n 0, 1) := by decide +kernel
theorem dX0_init_24 : decode cX0_init 24 = .ok (.aload_n 1, 1) := by decide +kernel
theorem dX0_init_25 : decode cX0_init 25 = .ok (.putfield 24, 3) := by decide +kernel
theorem dX0_init_28 : decode cX0_init 28 = .ok (.return_, 1) := by decide +kernel
theorem dX0_clear_0 : decode cX0_clear 0 = .ok (.aload_n 0, 1) := by decide +kernel
theorem dX0_clear_1 : decode cX0_clear 1 = .ok (.iconst 0, 1) := by decide +kernel
theorem dX0_clear_2 : decode cX0_clear 2 = .ok (.putfield 17, 3) := by decide +kernel
theorem dX0_clear_5 : decode cX0_clear 5 = .ok (.aload_n 0, 1) := by decide +kernel
theorem dX0_clear_6 : decode cX0_clear 6 = .ok (.iconst 0, 1) := by decide +kernel
theorem dX0_clear_7 : decode cX0_clear 7 = .ok (.putfield 21, 3) := by decide +kernel
theorem dX0_clear_10 : decode cX0_clear 10 = .ok (.return_, 1) := by decide +kernel
theorem dX0_stateAt_0 : decode cX0_stateAt 0 = .ok (.aload_n 0, 1) := by decide +kernel
theorem dX0_stateAt_1 : decode cX0_stateAt 1 = .ok (.getfield 17, 3) := by decide +kernel
theorem dX0_stateAt_4 : decode cX0_stateAt 4 = .ok (.iload_n 1, 1) := by decide +kernel
theorem dX0_stateAt_5 : decode cX0_stateAt 5 = .ok (.iadd, 1) := by decide +kernel
theorem dX0_stateAt_6 : decode cX0_stateAt 6 = .ok (.bipush 41, 2) := by decide +kernel
theorem dX0_stateAt_8 : decode cX0_stateAt 8 = .ok (.irem, 1) := by decide +kernel
theorem dX0_stateAt_9 : decode cX0_stateAt 9 = .ok (.istore_n 2, 1) := by decide +kernel
theorem dX0_stateAt_10 : decode cX0_stateAt 10 = .ok (.aload_n 0, 1) := by decide +kernel
theorem dX0_stateAt_11 : decode cX0_stateAt 11 = .ok (.getfield 11, 3) := by decide +kernel
theorem dX0_stateAt_14 : decode cX0_stateAt 14 = .ok (.iload_n 2, 1) := by decide +kernel
theorem dX0_stateAt_15 : decode cX0_stateAt 15 = .ok (.aaload, 1) := by decide +kernel
theorem dX0_stateAt_16 : decode cX0_stateAt 16 = .ok (.ifnonnull 20, 3) := by decide +kernel
theorem dX0_stateAt_19 : decode cX0_stateAt 19 = .ok (.aload_n 0, 1) := by decide +kernel
theorem dX0_stateAt_20 : decode cX0_stateAt 20 = .ok (.getfield 11, 3) := by decide +kernel
theorem dX0_stateAt_23 : decode cX0_stateAt 23 = .ok (.iload_n 2, 1) := by decide +kernel
theorem dX0_stateAt_24 : decode cX0_stateAt 24 = .ok (.new 9, 3) := by decide +kernel
theorem dX0_stateAt_27 : decode cX0_stateAt 27 = .ok (.dup, 1) := by decide +kernel
theorem dX0_stateAt_28 : decode cX0_stateAt 28 = .ok (.aload_n 0, 1) := by decide +kernel
theorem dX0_stateAt_29 : decode cX0_stateAt 29 = .ok (.getfield 24, 3) := by decide +kernel
theorem dX0_stateAt_32 : decode cX0_stateAt 32 = .ok (.invokespecial 28, 3) := by decide +kernel
theorem dX0_stateAt_35 : decode cX0_stateAt 35 = .ok (.aastore, 1) := by decide +kernel
theorem dX0_stateAt_36 : decode cX0_stateAt 36 = .ok (.aload_n 0, 1) := by decide +kernel
theorem dX0_stateAt_37 : decode cX0_stateAt 37 = .ok (.getfield 11, 3) := by decide +kernel
theorem dX0_stateAt_40 : decode cX0_stateAt 40 = .ok (.iload_n 2, 1) := by decide +kernel
theorem dX0_stateAt_41 : decode cX0_stateAt 41 = .ok (.aaload, 1) := by decide +kernel
theorem dX0_stateAt_42 : decode cX0_stateAt 42 = .ok (.areturn, 1) := by decide +kernel
theorem dX0_ahead_0 : decode cX0_ahead 0 = .ok (.aload_n 0, 1) := by decide +kernel
theorem dX0_ahead_1 : decode cX0_ahead 1 = .ok (.aload_n 0, 1) := by decide +kernel
theorem dX0_ahead_2 : decode cX0_ahead 2 = .ok (.getfield 21, 3) := by decide +kernel
theorem dX0_ahead_5 : decode cX0_ahead 5 = .ok (.invokevirtual 31, 3) := by decide +kernel
theorem dX0_ahead_8 : decode cX0_ahead 8 = .ok (.aload_n 1, 1) := by decide +kernel
theorem dX0_ahead_9 : decode cX0_ahead 9 = .ok (.invokevirtual 35, 3) := by decide +kernel
theorem dX0_ahead_12 : decode cX0_ahead 12 = .ok (.return_, 1) := by decide +kernel
theorem dX0_stand_0 : decode cX0_stand 0 = .ok (.aload_n 0, 1) := by decide +kernel
theorem dX0_stand_1 : decode cX0_stand 1 = .ok (.getfield 21, 3) := by decide +kernel
theorem dX0_stand_4 : decode cX0_stand 4 = .ok (.bipush 40, 2) := by decide +kernel
theorem dX0_stand_6 : decode cX0_stand 6 = .ok (.if_icmp .ge 16, 3) := by decide +kernel
theorem dX0_stand_9 : decode cX0_stand 9 = .ok (.aload_n 0, 1) := by decide +kernel
theorem dX0_stand_10 : decode cX0_stand 10 = .ok (.dup, 1) := by decide +kernel
theorem dX0_stand_11 : decode cX0_stand 11 = .ok (.getfield 21, 3) := by decide +kernel
theorem dX0_stand_14 : decode cX0_stand 14 = .ok (.iconst 1, 1) := by decide +kernel
theorem dX0_stand_15 : decode cX0_stand 15 = .ok (.iadd, 1) := by decide +kernel
theorem dX0_stand_16 : decode cX0_stand 16 = .ok (.putfield 21, 3) := by decide +kernel
theorem dX0_stand_19 : decode cX0_stand 19 = .ok (.goto 16, 3) := by decide +kernel
theorem dX0_stand_22 : decode cX0_stand 22 = .ok (.aload_n 0, 1) := by decide +kernel
theorem dX0_stand_23 : decode cX0_stand 23 = .ok (.aload_n 0, 1) := by decide +kernel
theorem dX0_stand_24 : decode cX0_stand 24 = .ok (.getfield 17, 3) := by decide +kernel
theorem dX0_stand_27 : decode cX0_stand 27 = .ok (.iconst 1, 1) := by decide +kernel
theorem dX0_stand_28 : decode cX0_stand 28 = .ok (.iadd, 1) := by decide +kernel
theorem dX0_stand_29 : decode cX0_stand 29 = .ok (.bipush 41, 2) := by decide +kernel
theorem dX0_stand_31 : decode cX0_stand 31 = .ok (.irem, 1) := by decide +kernel
theorem dX0_stand_32 : decode cX0_stand 32 = .ok (.putfield 17, 3) := by decide +kernel
theorem dX0_stand_35 : decode cX0_stand 35 = .ok (.return_, 1) := by decide +kernel
theorem dX0_giveUp_0 : decode cX0_giveUp 0 = .ok (.aload_n 1, 1) := by decide +kernel
theorem dX0_giveUp_1 : decode cX0_giveUp 1 = .ok (.aload_n 0, 1) := by decide +kernel
theorem dX0_giveUp_2 : decode cX0_giveUp 2 = .ok (.aload_n 0, 1) := by decide +kernel
theorem dX0_giveUp_3 : decode cX0_giveUp 3 = .ok (.getfield 21, 3) := by decide +kernel
theorem dX0_giveUp_6 : decode cX0_giveUp 6 = .ok (.invokevirtual 31, 3) := by decide +kernel
theorem dX0_giveUp_9 : decode cX0_giveUp 9 = .ok (.invokevirtual 35, 3) := by decide +kernel
theorem dX0_giveUp_12 : decode cX0_giveUp 12 = .ok (.return_, 1) := by decide +kernel
theorem dX0_back_0 : decode cX0_back 0 = .ok (.aload_n 0, 1) := by decide +kernel
theorem dX0_back_1 : decode cX0_back 1 = .ok (.getfield 21, 3) := by decide +kernel
theorem dX0_back_4 : decode cX0_back 4 = .ok (.ifCond .ne 5, 3) := by decide +kernel
theorem dX0_back_7 : decode cX0_back 7 = .ok (.iconst 0, 1) := by decide +kernel
theorem dX0_back_8 : decode cX0_back 8 = .ok (.ireturn, 1) := by decide +kernel
theorem dX0_back_9 : decode cX0_back 9 = .ok (.aload_n 0, 1) := by decide +kernel
theorem dX0_back_10 : decode cX0_back 10 = .ok (.dup, 1) := by decide +kernel
theorem dX0_back_11 : decode cX0_back 11 = .ok (.getfield 21, 3) := by decide +kernel
theorem dX0_back_14 : decode cX0_back 14 = .ok (.iconst 1, 1) := by decide +kernel
theorem dX0_back_15 : decode cX0_back 15 = .ok (.isub, 1) := by decide +kernel
theorem dX0_back_16 : decode cX0_back 16 = .ok (.putfield 21, 3) := by decide +kernel
theorem dX0_back_19 : decode cX0_back 19 = .ok (.aload_n 1, 1) := by decide +kernel
theorem dX0_back_20 : decode cX0_back 20 = .ok (.aload_n 0, 1) := by decide +kernel
theorem dX0_back_21 : decode cX0_back 21 = .ok (.aload_n 0, 1) := by decide +kernel
theorem dX0_back_22 : decode cX0_back 22 = .ok (.getfield 21, 3) := by decide +kernel
theorem dX0_back_25 : decode cX0_back 25 = .ok (.invokevirtual 31, 3) := by decide +kernel
theorem dX0_back_28 : decode cX0_back 28 = .ok (.invokevirtual 35, 3) := by decide +kernel
theorem dX0_back_31 : decode cX0_back 31 = .ok (.iconst 1, 1) := by decide +kernel
theorem dX0_back_32 : decode cX0_back 32 = .ok (.ireturn, 1) := by decide +kernel
theorem dX0_become_0 : decode cX0_become 0 = .ok (.aload_n 0, 1) := by decide +kernel
theorem dX0_become_1 : decode cX0_become 1 = .ok (.iconst 0, 1) := by decide +kernel
theorem dX0_become_2 : decode cX0_become 2 = .ok (.putfield 17, 3) := by decide +kernel
theorem dX0_become_5 : decode cX0_become 5 = .ok (.aload_n 0, 1) := by decide +kernel
theorem dX0_become_6 : decode cX0_become 6 = .ok (.aload_n 1, 1) := by decide +kernel
theorem dX0_become_7 : decode cX0_become 7 = .ok (.getfield 21, 3) := by decide +kernel
theorem dX0_become_10 : decode cX0_become 10 = .ok (.putfield 21, 3) := by decide +kernel
theorem dX0_become_13 : decode cX0_become 13 = .ok (.iconst 0, 1) := by decide +kernel
theorem dX0_become_14 : decode cX0_become 14 = .ok (.istore_n 2, 1) := by decide +kernel
theorem dX0_become_15 : decode cX0_become 15 = .ok (.iload_n 2, 1) := by decide +kernel
theorem dX0_become_16 : decode cX0_become 16 = .ok (.aload_n 0, 1) := by decide +kernel
theorem dX0_become_17 : decode cX0_become 17 = .ok (.getfield 21, 3) := by decide +kernel
theorem dX0_become_20 : decode cX0_become 20 = .ok (.if_icmp .ge 22, 3) := by decide +kernel
theorem dX0_become_23 : decode cX0_become 23 = .ok (.aload_n 0, 1) := by decide +kernel
theorem dX0_become_24 : decode cX0_become 24 = .ok (.iload_n 2, 1) := by decide +kernel
theorem dX0_become_25 : decode cX0_become 25 = .ok (.invokevirtual 31, 3) := by decide +kernel
theorem dX0_become_28 : decode cX0_become 28 = .ok (.aload_n 1, 1) := by decide +kernel
theorem dX0_become_29 : decode cX0_become 29 = .ok (.iload_n 2, 1) := by decide +kernel
theorem dX0_become_30 : decode cX0_become 30 = .ok (.invokevirtual 31, 3) := by decide +kernel
theorem dX0_become_33 : decode cX0_become 33 = .ok (.invokevirtual 35, 3) := by decide +kernel
theorem dX0_become_36 : decode cX0_become 36 = .ok (.iinc 2 1, 3) := by decide +kernel
theorem dX0_become_39 : decode cX0_become 39 = .ok (.goto (-24), 3) := by decide +kernel
theorem dX0_become_42 : decode cX0_become 42 = .ok (.return_, 1) := by decide +kernel
theorem dX1_init_0 : decode cX1_init 0 = .ok (.aload_n 0, 1) := by decide +kernel
theorem dX1_init_1 : decode cX1_init 1 = .ok (.invokespecial 3, 3) := by decide +kernel
theorem dX1_init_4 : decode cX1_init 4 = .ok (.aload_n 0, 1) := by decide +kernel
theorem dX1_init_5 : decode cX1_init 5 = .ok (.bipush 8, 2) := by decide +kernel
theorem dX1_init_7 : decode cX1_init 7 = .ok (.newarray .int, 2) := by decide +kernel
theorem dX1_init_9 : decode cX1_init 9 = .ok (.putfield 9, 3) := by decide +kernel
theorem dX1_init_12 : decode cX1_init 12 = .ok (.aload_n 0, 1) := by decide +kernel
theorem dX1_init_13 : decode cX1_init 13 = .ok (.bipush 8, 2) := by decide +kernel
theorem dX1_init_15 : decode cX1_init 15 = .ok (.newarray .int, 2) := by decide +kernel
theorem dX1_init_17 : decode cX1_init 17 = .ok (.putfield 15, 3) := by decide +kernel
theorem dX1_init_20 : decode cX1_init 20 = .ok (.aload_n 0, 1) := by decide +kernel
theorem dX1_init_21 : decode cX1_init 21 = .ok (.iconst 3, 1) := by decide +kernel
theorem dX1_init_22 : decode cX1_init 22 = .ok (.newarray .int, 2) := by decide +kernel
theorem dX1_init_24 : decode cX1_init 24 = .ok (.putfield 18, 3) := by decide +kernel
theorem dX1_init_27 : decode cX1_init 27 = .ok (.aload_n 0, 1) := by decide +kernel
theorem dX1_init_28 : decode cX1_init 28 = .ok (.iconst 0, 1) := by decide +kernel
theorem dX1_init_29 : decode cX1_init 29 = .ok (.putfield 21, 3) := by decide +kernel
theorem dX1_init_32 : decode cX1_init 32 = .ok (.aload_n 0, 1) := by decide +kernel
theorem dX1_init_33 : decode cX1_init 33 = .ok (.new 25, 3) := by decide +kernel
theorem dX1_init_36 : decode cX1_init 36 = .ok (.dup, 1) := by decide +kernel
theorem dX1_init_37 : decode cX1_init 37 = .ok (.aload_n 1, 1) := by decide +kernel
theorem dX1_init_38 : decode cX1_init 38 = .ok (.invokespecial 27, 3) := by decide +kernel
theorem dX1_init_41 : decode cX1_init 41 = .ok (.putfield 30, 3) := by decide +kernel
theorem dX1_init_44 : decode cX1_init 44 = .ok (.aload_n 0, 1) := by decide +kernel
theorem dX1_init_45 : decode cX1_init 45 = .ok (.new 34, 3) := by decide +kernel
theorem dX1_init_48 : decode cX1_init 48 = .ok (.dup, 1) := by decide +kernel
theorem dX1_init_49 : decode cX1_init 49 = .ok (.aload_n 1, 1) := by decide +kernel
theorem dX1_init_50 : decode cX1_init 50 = .ok (.invokespecial 36, 3) := by decide +kernel
theorem dX1_init_53 : decode cX1_init 53 = .ok (.putfield 37, 3) := by decide +kernel
theorem dX1_init_56 : decode cX1_init 56 = .ok (.return_, 1) := by decide +kernel
theorem dX1_become_0 : decode cX1_become 0 = .ok (.aload_n 0, 1) := by decide +kernel
theorem dX1_become_1 : decode cX1_become 1 = .ok (.getfield 30, 3) := by decide +kernel
theorem dX1_become_4 : decode cX1_become 4 = .ok (.aload_n 1, 1) := by decide +kernel
theorem dX1_become_5 : decode cX1_become 5 = .ok (.getfield 30, 3) := by decide +kernel
theorem dX1_become_8 : decode cX1_become 8 = .ok (.invokevirtual 41, 3) := by decide +kernel
theorem dX1_become_11 : decode cX1_become 11 = .ok (.aload_n 0, 1) := by decide +kernel
theorem dX1_become_12 : decode cX1_become 12 = .ok (.getfield 37, 3) := by decide +kernel
theorem dX1_become_15 : decode cX1_become 15 = .ok (.aload_n 1, 1) := by decide +kernel
theorem dX1_become_16 : decode cX1_become 16 = .ok (.getfield 37, 3) := by decide +kernel
theorem dX1_become_19 : decode cX1_become 19 = .ok (.invokevirtual 45, 3) := by decide +kernel
theorem dX1_become_22 : decode cX1_become 22 = .ok (.aload_n 1, 1) := by decide +kernel
theorem dX1_become_23 : decode cX1_become 23 = .ok (.getfield 9, 3) := by decide +kernel
theorem dX1_become_26 : decode cX1_become 26 = .ok (.iconst 0, 1) := by decide +kernel
theorem dX1_become_27 : decode cX1_become 27 = .ok (.aload_n 0, 1) := by decide +kernel
theorem dX1_become_28 : decode cX1_become 28 = .ok (.getfield 9, 3) := by decide +kernel
theorem dX1_become_31 : decode cX1_become 31 = .ok (.iconst 0, 1) := by decide +kernel
theorem dX1_become_32 : decode cX1_become 32 = .ok (.bipush 8, 2) := by decide +kernel
theorem dX1_become_34 : decode cX1_become 34 = .ok (.invokestatic 48, 3) := by decide +kernel
theorem dX1_become_37 : decode cX1_become 37 = .ok (.aload_n 1, 1) := by decide +kernel
theorem dX1_become_38 : decode cX1_become 38 = .ok (.getfield 15, 3) := by decide +kernel
theorem dX1_become_41 : decode cX1_become 41 = .ok (.iconst 0, 1) := by decide +kernel
theorem dX1_become_42 : decode cX1_become 42 = .ok (.aload_n 0, 1) := by decide +kernel
theorem dX1_become_43 : decode cX1_become 43 = .ok (.getfield 15, 3) := by decide +kernel
theorem dX1_become_46 : decode cX1_become 46 = .ok (.iconst 0, 1) := by decide +kernel
theorem dX1_become_47 : decode cX1_become 47 = .ok (.bipush 8, 2) := by decide +kernel
theorem dX1_become_49 : decode cX1_become 49 = .ok (.invokestatic 48, 3) := by decide +kernel
theorem dX1_become_52 : decode cX1_become 52 = .ok (.aload_n 1, 1) := by decide +kernel
theorem dX1_become_53 : decode cX1_become 53 = .ok (.getfield 18, 3) := by decide +kernel
theorem dX1_become_56 : decode cX1_become 56 = .ok (.iconst 0, 1) := by decide +kernel
theorem dX1_become_57 : decode cX1_become 57 = .ok (.aload_n 0, 1) := by decide +kernel
theorem dX1_become_58 : decode cX1_become 58 = .ok (.getfield 18, 3) := by decide +kernel
theorem dX1_become_61 : decode cX1_become 61 = .ok (.iconst 0, 1) := by decide +kernel
theorem dX1_become_62 : decode cX1_become 62 = .ok (.iconst 3, 1) := by decide +kernel
theorem dX1_become_63 : decode cX1_become 63 = .ok (.invokestatic 48, 3) := by decide +kernel
theorem dX1_become_66 : decode cX1_become 66 = .ok (.aload_n 0, 1) := by decide +kernel
theorem dX1_become_67 : decode cX1_become 67 = .ok (.aload_n 1, 1) := by decide +kernel
theorem dX1_become_68 : decode cX1_become 68 = .ok (.getfield 21, 3) := by decide +kernel
theorem dX1_become_71 : decode cX1_become 71 = .ok (.putfield 21, 3) := by decide +kernel
theorem dX1_become_74 : decode cX1_become 74 = .ok (.return_, 1) := by decide +kernel
theorem dX1_lastNoted_0 : decode cX1_lastNoted 0 = .ok (.iconst 0, 1) := by decide +kernel
theorem dX1_lastNoted_1 : decode cX1_lastNoted 1 = .ok (.istore_n 1, 1) := by decide +kernel
theorem dX1_lastNoted_2 : decode cX1_lastNoted 2 = .ok (.iconst 0, 1) := by decide +kernel
theorem dX1_lastNoted_3 : decode cX1_lastNoted 3 = .ok (.istore_n 2, 1) := by decide +kernel
theorem dX1_lastNoted_4 : decode cX1_lastNoted 4 = .ok (.iload_n 2, 1) := by decide +kernel
theorem dX1_lastNoted_5 : decode cX1_lastNoted 5 = .ok (.aload_n 0, 1) := by decide +kernel
theorem dX1_lastNoted_6 : decode cX1_lastNoted 6 = .ok (.getfield 21, 3) := by decide +kernel
theorem dX1_lastNoted_9 : decode cX1_lastNoted 9 = .ok (.if_icmp .ge 30, 3) := by decide +kernel
theorem dX1_lastNoted_12 : decode cX1_lastNoted 12 = .ok (.aload_n 0, 1) := by decide +kernel
theorem dX1_lastNoted_13 : decode cX1_lastNoted 13 = .ok (.getfield 9, 3) := by decide +kernel
theorem dX1_lastNoted_16 : decode cX1_lastNoted 16 = .ok (.iload_n 2, 1) := by decide +kernel
theorem dX1_lastNoted_17 : decode cX1_lastNoted 17 = .ok (.iaload, 1) := by decide +kernel
theorem dX1_lastNoted_18 : decode cX1_lastNoted 18 = .ok (.iload_n 1, 1) := by decide +kernel
theorem dX1_lastNoted_19 : decode cX1_lastNoted 19 = .ok (.if_icmp .le 12, 3) := by decide +kernel
theorem dX1_lastNoted_22 : decode cX1_lastNoted 22 = .ok (.aload_n 0, 1) := by decide +kernel
theorem dX1_lastNoted_23 : decode cX1_lastNoted 23 = .ok (.getfield 9, 3) := by decide +kernel
theorem dX1_lastNoted_26 : decode cX1_lastNoted 26 = .ok (.iload_n 2, 1) := by decide +kernel
theorem dX1_lastNoted_27 : decode cX1_lastNoted 27 = .ok (.iaload, 1) := by decide +kernel
theorem dX1_lastNoted_28 : decode cX1_lastNoted 28 = .ok (.goto 4, 3) := by decide +kernel
theorem dX1_lastNoted_31 : decode cX1_lastNoted 31 = .ok (.iload_n 1, 1) := by decide +kernel
theorem dX1_lastNoted_32 : decode cX1_lastNoted 32 = .ok (.istore_n 1, 1) := by decide +kernel
theorem dX1_lastNoted_33 : decode cX1_lastNoted 33 = .ok (.iinc 2 1, 3) := by decide +kernel
theorem dX1_lastNoted_36 : decode cX1_lastNoted 36 = .ok (.goto (-32), 3) := by decide +kernel
theorem dX1_lastNoted_39 : decode cX1_lastNoted 39 = .ok (.iload_n 1, 1) := by decide +kernel
theorem dX1_lastNoted_40 : decode cX1_lastNoted 40 = .ok (.ireturn, 1) := by decide +kernel
theorem dX2_init_0 : decode cX2_init 0 = .ok (.aload_n 0, 1) := by decide +kernel
theorem dX2_init_1 : decode cX2_init 1 = .ok (.invokespecial 1, 3) := by decide +kernel
theorem dX2_init_4 : decode cX2_init 4 = .ok (.aload_n 0, 1) := by decide +kernel
theorem dX2_init_5 : decode cX2_init 5 = .ok (.iconst 0, 1) := by decide +kernel
theorem dX2_init_6 : decode cX2_init 6 = .ok (.putfield 7, 3) := by decide +kernel
theorem dX2_init_9 : decode cX2_init 9 = .ok (.return_, 1) := by decide +kernel
theorem dX2_drawOf_0 : decode cX2_drawOf 0 = .ok (.aload_n 0, 1) := by decide +kernel
theorem dX2_drawOf_1 : decode cX2_drawOf 1 = .ok (.aload_n 0, 1) := by decide +kernel
theorem dX2_drawOf_2 : decode cX2_drawOf 2 = .ok (.getfield 7, 3) := by decide +kernel
theorem dX2_drawOf_5 : decode cX2_drawOf 5 = .ok (.ldc 13, 2) := by decide +kernel
theorem dX2_drawOf_7 : decode cX2_drawOf 7 = .ok (.imul, 1) := by decide +kernel
theorem dX2_drawOf_8 : decode cX2_drawOf 8 = .ok (.sipush 12345, 3) := by decide +kernel
theorem dX2_drawOf_11 : decode cX2_drawOf 11 = .ok (.iadd, 1) := by decide +kernel
theorem dX2_drawOf_12 : decode cX2_drawOf 12 = .ok (.putfield 7, 3) := by decide +kernel
theorem dX2_drawOf_15 : decode cX2_drawOf 15 = .ok (.iload_n 1, 1) := by decide +kernel
theorem dX2_drawOf_16 : decode cX2_drawOf 16 = .ok (.ifCond .le 19, 3) := by decide +kernel
theorem dX2_drawOf_19 : decode cX2_drawOf 19 = .ok (.aload_n 0, 1) := by decide +kernel
theorem dX2_drawOf_20 : decode cX2_drawOf 20 = .ok (.getfield 7, 3) := by decide +kernel
theorem dX2_drawOf_23 : decode cX2_drawOf 23 = .ok (.bipush 16, 2) := by decide +kernel
theorem dX2_drawOf_25 : decode cX2_drawOf 25 = .ok (.iushr, 1) := by decide +kernel
theorem dX2_drawOf_26 : decode cX2_drawOf 26 = .ok (.sipush 32767, 3) := by decide +kernel
theorem dX2_drawOf_29 : decode cX2_drawOf 29 = .ok (.iand, 1) := by decide +kernel
theorem dX2_drawOf_30 : decode cX2_drawOf 30 = .ok (.iload_n 1, 1) := by decide +kernel
theorem dX2_drawOf_31 : decode cX2_drawOf 31 = .ok (.irem, 1) := by decide +kernel
theorem dX2_drawOf_32 : decode cX2_drawOf 32 = .ok (.goto 4, 3) := by decide +kernel
theorem dX2_drawOf_35 : decode cX2_drawOf 35 = .ok (.iconst 0, 1) := by decide +kernel
theorem dX2_drawOf_36 : decode cX2_drawOf 36 = .ok (.ireturn, 1) := by decide +kernel
theorem dX3_init_0 : decode cX3_init 0 = .ok (.aload_n 0, 1) := by decide +kernel
theorem dX3_init_1 : decode cX3_init 1 = .ok (.invokespecial 3, 3) := by decide +kernel
theorem dX3_init_4 : decode cX3_init 4 = .ok (.aload_n 0, 1) := by decide +kernel
theorem dX3_init_5 : decode cX3_init 5 = .ok (.iconst 0, 1) := by decide +kernel
theorem dX3_init_6 : decode cX3_init 6 = .ok (.putfield 9, 3) := by decide +kernel
theorem dX3_init_9 : decode cX3_init 9 = .ok (.aload_n 0, 1) := by decide +kernel
theorem dX3_init_10 : decode cX3_init 10 = .ok (.iconst 0, 1) := by decide +kernel
theorem dX3_init_11 : decode cX3_init 11 = .ok (.putfield 15, 3) := by decide +kernel
theorem dX3_init_14 : decode cX3_init 14 = .ok (.aload_n 0, 1) := by decide +kernel
theorem dX3_init_15 : decode cX3_init 15 = .ok (.aload_n 1, 1) := by decide +kernel
theorem dX3_init_16 : decode cX3_init 16 = .ok (.putfield 18, 3) := by decide +kernel
theorem dX3_init_19 : decode cX3_init 19 = .ok (.aload_n 0, 1) := by decide +kernel
theorem dX3_init_20 : decode cX3_init 20 = .ok (.aload_n 2, 1) := by decide +kernel
theorem dX3_init_21 : decode cX3_init 21 = .ok (.putfield 22, 3) := by decide +kernel
theorem dX3_init_24 : decode cX3_init 24 = .ok (.aload_n 0, 1) := by decide +kernel
theorem dX3_init_25 : decode cX3_init 25 = .ok (.aload_n 3, 1) := by decide +kernel
theorem dX3_init_26 : decode cX3_init 26 = .ok (.putfield 26, 3) := by decide +kernel
theorem dX3_init_29 : decode cX3_init 29 = .ok (.return_, 1) := by decide +kernel
theorem dX3_makeAll_0 : decode cX3_makeAll 0 = .ok (.aload_n 0, 1) := by decide +kernel
theorem dX3_makeAll_1 : decode cX3_makeAll 1 = .ok (.getfield 22, 3) := by decide +kernel
theorem dX3_makeAll_4 : decode cX3_makeAll 4 = .ok (.invokevirtual 30, 3) := by decide +kernel
theorem dX3_makeAll_7 : decode cX3_makeAll 7 = .ok (.aload_n 0, 1) := by decide +kernel
theorem dX3_makeAll_8 : decode cX3_makeAll 8 = .ok (.getfield 26, 3) := by decide +kernel
theorem dX3_makeAll_11 : decode cX3_makeAll 11 = .ok (.invokevirtual 35, 3) := by decide +kernel
theorem dX3_makeAll_14 : decode cX3_makeAll 14 = .ok (.aload_n 0, 1) := by decide +kernel
theorem dX3_makeAll_15 : decode cX3_makeAll 15 = .ok (.iconst 0, 1) := by decide +kernel
theorem dX3_makeAll_16 : decode cX3_makeAll 16 = .ok (.putfield 9, 3) := by decide +kernel
theorem dX3_makeAll_19 : decode cX3_makeAll 19 = .ok (.aload_n 0, 1) := by decide +kernel
theorem dX3_makeAll_20 : decode cX3_makeAll 20 = .ok (.iconst 0, 1) := by decide +kernel
theorem dX3_makeAll_21 : decode cX3_makeAll 21 = .ok (.putfield 15, 3) := by decide +kernel
theorem dX3_makeAll_24 : decode cX3_makeAll 24 = .ok (.iconst 0, 1) := by decide +kernel
theorem dX3_makeAll_25 : decode cX3_makeAll 25 = .ok (.istore_n 1, 1) := by decide +kernel
theorem dX3_makeAll_26 : decode cX3_makeAll 26 = .ok (.iload_n 1, 1) := by decide +kernel
theorem dX3_makeAll_27 : decode cX3_makeAll 27 = .ok (.sipush 700, 3) := by decide +kernel
theorem dX3_makeAll_30 : decode cX3_makeAll 30 = .ok (.if_icmp .ge 23, 3) := by decide +kernel
theorem dX3_makeAll_33 : decode cX3_makeAll 33 = .ok (.aload_n 0, 1) := by decide +kernel
theorem dX3_makeAll_34 : decode cX3_makeAll 34 = .ok (.getfield 18, 3) := by decide +kernel
theorem dX3_makeAll_37 : decode cX3_makeAll 37 = .ok (.invokevirtual 38, 3) := by decide +kernel
theorem dX3_makeAll_40 : decode cX3_makeAll 40 = .ok (.ifCond .eq 13, 3) := by decide +kernel
theorem dX3_makeAll_43 : decode cX3_makeAll 43 = .ok (.aload_n 0, 1) := by decide +kernel
theorem dX3_makeAll_44 : decode cX3_makeAll 44 = .ok (.invokevirtual 44, 3) := by decide +kernel
theorem dX3_makeAll_47 : decode cX3_makeAll 47 = .ok (.iinc 1 1, 3) := by decide +kernel
theorem dX3_makeAll_50 : decode cX3_makeAll 50 = .ok (.goto (-24), 3) := by decide +kernel
theorem dX3_makeAll_53 : decode cX3_makeAll 53 = .ok (.return_, 1) := by decide +kernel
theorem dX3_makeClause_0 : decode cX3_makeClause 0 = .ok (.aload_n 0, 1) := by decide +kernel
theorem dX3_makeClause_1 : decode cX3_makeClause 1 = .ok (.getfield 18, 3) := by decide +kernel
theorem dX3_makeClause_4 : decode cX3_makeClause 4 = .ok (.ldc 47, 2) := by decide +kernel
theorem dX3_makeClause_6 : decode cX3_makeClause 6 = .ok (.invokevirtual 49, 3) := by decide +kernel
theorem dX3_makeClause_9 : decode cX3_makeClause 9 = .ok (.ifCond .eq 43, 3) := by decide +kernel
theorem dX3_makeClause_12 : decode cX3_makeClause 12 = .ok (.aload_n 0, 1) := by decide +kernel
theorem dX3_makeClause_13 : decode cX3_makeClause 13 = .ok (.getfield 15, 3) := by decide +kernel
theorem dX3_makeClause_16 : decode cX3_makeClause 16 = .ok (.ifCond .le 11, 3) := by decide +kernel
theorem dX3_makeClause_19 : decode cX3_makeClause 19 = .ok (.aload_n 0, 1) := by decide +kernel
theorem dX3_makeClause_20 : decode cX3_makeClause 20 = .ok (.getfield 18, 3) := by decide +kernel
theorem dX3_makeClause_23 : decode cX3_makeClause 23 = .ok (.iconst 4, 1) := by decide +kernel
theorem dX3_makeClause_24 : decode cX3_makeClause 24 = .ok (.invokevirtual 53, 3) := by decide +kernel
theorem dX3_makeClause_27 : decode cX3_makeClause 27 = .ok (.aload_n 0, 1) := by decide +kernel
theorem dX3_makeClause_28 : decode cX3_makeClause 28 = .ok (.iconst 1, 1) := by decide +kernel
theorem dX3_makeClause_29 : decode cX3_makeClause 29 = .ok (.invokevirtual 57, 3) := by decide +kernel
theorem dX3_makeClause_32 : decode cX3_makeClause 32 = .ok (.aload_n 0, 1) := by decide +kernel
theorem dX3_makeClause_33 : decode cX3_makeClause 33 = .ok (.getfield 22, 3) := by decide +kernel
theorem dX3_makeClause_36 : decode cX3_makeClause 36 = .ok (.aload_n 0, 1) := by decide +kernel
theorem dX3_makeClause_37 : decode cX3_makeClause 37 = .ok (.getfield 18, 3) := by decide +kernel
theorem dX3_makeClause_40 : decode cX3_makeClause 40 = .ok (.iconst 1, 1) := by decide +kernel
theorem dX3_makeClause_41 : decode cX3_makeClause 41 = .ok (.bipush 48, 2) := by decide +kernel
theorem dX3_makeClause_43 : decode cX3_makeClause 43 = .ok (.invokevirtual 60, 3) := by decide +kernel
theorem dX3_makeClause_46 : decode cX3_makeClause 46 = .ok (.putfield 64, 3) := by decide +kernel
theorem dX3_makeClause_49 : decode cX3_makeClause 49 = .ok (.goto 223, 3) := by decide +kernel
theorem dX3_makeClause_52 : decode cX3_makeClause 52 = .ok (.aload_n 0, 1) := by decide +kernel
theorem dX3_makeClause_53 : decode cX3_makeClause 53 = .ok (.getfield 18, 3) := by decide +kernel
theorem dX3_makeClause_56 : decode cX3_makeClause 56 = .ok (.ldc 66, 2) := by decide +kernel
theorem dX3_makeClause_58 : decode cX3_makeClause 58 = .ok (.invokevirtual 49, 3) := by decide +kernel
theorem dX3_makeClause_61 : decode cX3_makeClause 61 = .ok (.ifCond .eq 28, 3) := by decide +kernel
theorem dX3_makeClause_64 : decode cX3_makeClause 64 = .ok (.aload_n 0, 1) := by decide +kernel
theorem dX3_makeClause_65 : decode cX3_makeClause 65 = .ok (.iconst 2, 1) := by decide +kernel
theorem dX3_makeClause_66 : decode cX3_makeClause 66 = .ok (.invokevirtual 57, 3) := by decide +kernel
theorem dX3_makeClause_69 : decode cX3_makeClause 69 = .ok (.aload_n 0, 1) := by decide +kernel
theorem dX3_makeClause_70 : decode cX3_makeClause 70 = .ok (.getfield 22, 3) := by decide +kernel
theorem dX3_makeClause_73 : decode cX3_makeClause 73 = .ok (.aload_n 0, 1) := by decide +kernel
theorem dX3_makeClause_74 : decode cX3_makeClause 74 = .ok (.getfield 18, 3) := by decide +kernel
theorem dX3_makeClause_77 : decode cX3_makeClause 77 = .ok (.iconst 2, 1) := by decide +kernel
theorem dX3_makeClause_78 : decode cX3_makeClause 78 = .ok (.bipush 8, 2) := by decide +kernel
theorem dX3_makeClause_80 : decode cX3_makeClause 80 = .ok (.invokevirtual 60, 3) := by decide +kernel
theorem dX3_makeClause_83 : decode cX3_makeClause 83 = .ok (.putfield 68, 3) := by decide +kernel
theorem dX3_makeClause_86 : decode cX3_makeClause 86 = .ok (.goto 186, 3) := by decide +kernel
theorem dX3_makeClause_89 : decode cX3_makeClause 89 = .ok (.aload_n 0, 1) := by decide +kernel
theorem dX3_makeClause_90 : decode cX3_makeClause 90 = .ok (.getfield 18, 3) := by decide +kernel
theorem dX3_makeClause_93 : decode cX3_makeClause 93 = .ok (.ldc 70, 2) := by decide +kernel
theorem dX3_makeClause_95 : decode cX3_makeClause 95 = .ok (.invokevirtual 49, 3) := by decide +kernel
theorem dX3_makeClause_98 : decode cX3_makeClause 98 = .ok (.ifCond .eq 51, 3) := by decide +kernel
theorem dX3_makeClause_101 : decode cX3_makeClause 101 = .ok (.aload_n 0, 1) := by decide +kernel
theorem dX3_makeClause_102 : decode cX3_makeClause 102 = .ok (.iconst 4, 1) := by decide +kernel
theorem dX3_makeClause_103 : decode cX3_makeClause 103 = .ok (.invokevirtual 57, 3) := by decide +kernel
theorem dX3_makeClause_106 : decode cX3_makeClause 106 = .ok (.aload_n 0, 1) := by decide +kernel
theorem dX3_makeClause_107 : decode cX3_makeClause 107 = .ok (.getfield 22, 3) := by decide +kernel
theorem dX3_makeClause_110 : decode cX3_makeClause 110 = .ok (.aload_n 0, 1) := by decide +kernel
theorem dX3_makeClause_111 : decode cX3_makeClause 111 = .ok (.getfield 18, 3) := by decide +kernel
theorem dX3_makeClause_114 : decode cX3_makeClause 114 = .ok (.iconst 1, 1) := by decide +kernel
theorem dX3_makeClause_115 : decode cX3_makeClause 115 = .ok (.bipush 16, 2) := by decide +kernel
theorem dX3_makeClause_117 : decode cX3_makeClause 117 = .ok (.invokevirtual 60, 3) := by decide +kernel
theorem dX3_makeClause_120 : decode cX3_makeClause 120 = .ok (.putfield 72, 3) := by decide +kernel
theorem dX3_makeClause_123 : decode cX3_makeClause 123 = .ok (.aload_n 0, 1) := by decide +kernel
theorem dX3_makeClause_124 : decode cX3_makeClause 124 = .ok (.getfield 22, 3) := by decide +kernel
theorem dX3_makeClause_127 : decode cX3_makeClause 127 = .ok (.aload_n 0, 1) := by decide +kernel
theorem dX3_makeClause_128 : decode cX3_makeClause 128 = .ok (.getfield 18, 3) := by decide +kernel
theorem dX3_makeClause_131 : decode cX3_makeClause 131 = .ok (.aload_n 0, 1) := by decide +kernel
theorem dX3_makeClause_132 : decode cX3_makeClause 132 = .ok (.getfield 22, 3) := by decide +kernel
theorem dX3_makeClause_135 : decode cX3_makeClause 135 = .ok (.getfield 72, 3) := by decide +kernel
theorem dX3_makeClause_138 : decode cX3_makeClause 138 = .ok (.bipush 16, 2) := by decide +kernel
theorem dX3_makeClause_140 : decode cX3_makeClause 140 = .ok (.invokevirtual 60, 3) := by decide +kernel
theorem dX3_makeClause_143 : decode cX3_makeClause 143 = .ok (.putfield 75, 3) := by decide +kernel
theorem dX3_makeClause_146 : decode cX3_makeClause 146 = .ok (.goto 126, 3) := by decide +kernel
theorem dX3_makeClause_149 : decode cX3_makeClause 149 = .ok (.aload_n 0, 1) := by decide +kernel
theorem dX3_makeClause_150 : decode cX3_makeClause 150 = .ok (.getfield 18, 3) := by decide +kernel
theorem dX3_makeClause_153 : decode cX3_makeClause 153 = .ok (.ldc 78, 2) := by decide +kernel
theorem dX3_makeClause_155 : decode cX3_makeClause 155 = .ok (.invokevirtual 49, 3) := by decide +kernel
theorem dX3_makeClause_158 : decode cX3_makeClause 158 = .ok (.ifCond .eq 20, 3) := by decide +kernel
theorem dX3_makeClause_161 : decode cX3_makeClause 161 = .ok (.aload_n 0, 1) := by decide +kernel
theorem dX3_makeClause_162 : decode cX3_makeClause 162 = .ok (.bipush 8, 2) := by decide +kernel
theorem dX3_makeClause_164 : decode cX3_makeClause 164 = .ok (.invokevirtual 57, 3) := by decide +kernel
theorem dX3_makeClause_167 : decode cX3_makeClause 167 = .ok (.aload_n 0, 1) := by decide +kernel
theorem dX3_makeClause_168 : decode cX3_makeClause 168 = .ok (.getfield 22, 3) := by decide +kernel
theorem dX3_makeClause_171 : decode cX3_makeClause 171 = .ok (.iconst 1, 1) := by decide +kernel
theorem dX3_makeClause_172 : decode cX3_makeClause 172 = .ok (.putfield 80, 3) := by decide +kernel
theorem dX3_makeClause_175 : decode cX3_makeClause 175 = .ok (.goto 97, 3) := by decide +kernel
theorem dX3_makeClause_178 : decode cX3_makeClause 178 = .ok (.aload_n 0, 1) := by decide +kernel
theorem dX3_makeClause_179 : decode cX3_makeClause 179 = .ok (.getfield 18, 3) := by decide +kernel
theorem dX3_makeClause_182 : decode cX3_makeClause 182 = .ok (.ldc 83, 2) := by decide +kernel
theorem dX3_makeClause_184 : decode cX3_makeClause 184 = .ok (.invokevirtual 49, 3) := by decide +kernel
theorem dX3_makeClause_187 : decode cX3_makeClause 187 = .ok (.ifCond .eq 20, 3) := by decide +kernel
theorem dX3_makeClause_190 : decode cX3_makeClause 190 = .ok (.aload_n 0, 1) := by decide +kernel
theorem dX3_makeClause_191 : decode cX3_makeClause 191 = .ok (.bipush 16, 2) := by decide +kernel
theorem dX3_makeClause_193 : decode cX3_makeClause 193 = .ok (.invokevirtual 57, 3) := by decide +kernel
theorem dX3_makeClause_196 : decode cX3_makeClause 196 = .ok (.aload_n 0, 1) := by decide +kernel
theorem dX3_makeClause_197 : decode cX3_makeClause 197 = .ok (.getfield 22, 3) := by decide +kernel
theorem dX3_makeClause_200 : decode cX3_makeClause 200 = .ok (.iconst 1, 1) := by decide +kernel
theorem dX3_makeClause_201 : decode cX3_makeClause 201 = .ok (.putfield 85, 3) := by decide +kernel
theorem dX3_makeClause_204 : decode cX3_makeClause 204 = .ok (.goto 68, 3) := by decide +kernel
theorem dX3_makeClause_207 : decode cX3_makeClause 207 = .ok (.aload_n 0, 1) := by decide +kernel
theorem dX3_makeClause_208 : decode cX3_makeClause 208 = .ok (.getfield 18, 3) := by decide +kernel
theorem dX3_makeClause_211 : decode cX3_makeClause 211 = .ok (.ldc 87, 2) := by decide +kernel
theorem dX3_makeClause_213 : decode cX3_makeClause 213 = .ok (.invokevirtual 49, 3) := by decide +kernel
theorem dX3_makeClause_216 : decode cX3_makeClause 216 = .ok (.ifCond .eq 10, 3) := by decide +kernel
theorem dX3_makeClause_219 : decode cX3_makeClause 219 = .ok (.aload_n 0, 1) := by decide +kernel
theorem dX3_makeClause_220 : decode cX3_makeClause 220 = .ok (.invokevirtual 89, 3) := by decide +kernel
theorem dX3_makeClause_223 : decode cX3_makeClause 223 = .ok (.goto 49, 3) := by decide +kernel
theorem dX3_makeClause_226 : decode cX3_makeClause 226 = .ok (.aload_n 0, 1) := by decide +kernel
theorem dX3_makeClause_227 : decode cX3_makeClause 227 = .ok (.getfield 18, 3) := by decide +kernel
theorem dX3_makeClause_230 : decode cX3_makeClause 230 = .ok (.ldc 92, 2) := by decide +kernel
theorem dX3_makeClause_232 : decode cX3_makeClause 232 = .ok (.invokevirtual 49, 3) := by decide +kernel
theorem dX3_makeClause_235 : decode cX3_makeClause 235 = .ok (.ifCond .eq 10, 3) := by decide +kernel
theorem dX3_makeClause_238 : decode cX3_makeClause 238 = .ok (.aload_n 0, 1) := by decide +kernel
theorem dX3_makeClause_239 : decode cX3_makeClause 239 = .ok (.invokevirtual 94, 3) := by decide +kernel
theorem dX3_makeClause_242 : decode cX3_makeClause 242 = .ok (.goto 30, 3) := by decide +kernel
theorem dX3_makeClause_245 : decode cX3_makeClause 245 = .ok (.aload_n 0, 1) := by decide +kernel
theorem dX3_makeClause_246 : decode cX3_makeClause 246 = .ok (.getfield 18, 3) := by decide +kernel
theorem dX3_makeClause_249 : decode cX3_makeClause 249 = .ok (.ldc 97, 2) := by decide +kernel
theorem dX3_makeClause_251 : decode cX3_makeClause 251 = .ok (.invokevirtual 49, 3) := by decide +kernel
theorem dX3_makeClause_254 : decode cX3_makeClause 254 = .ok (.ifCond .eq 10, 3) := by decide +kernel
theorem dX3_makeClause_257 : decode cX3_makeClause 257 = .ok (.aload_n 0, 1) := by decide +kernel
theorem dX3_makeClause_258 : decode cX3_makeClause 258 = .ok (.invokevirtual 99, 3) := by decide +kernel
theorem dX3_makeClause_261 : decode cX3_makeClause 261 = .ok (.goto 11, 3) := by decide +kernel
theorem dX3_makeClause_264 : decode cX3_makeClause 264 = .ok (.aload_n 0, 1) := by decide +kernel
theorem dX3_makeClause_265 : decode cX3_makeClause 265 = .ok (.getfield 18, 3) := by decide +kernel
theorem dX3_makeClause_268 : decode cX3_makeClause 268 = .ok (.iconst 1, 1) := by decide +kernel
theorem dX3_makeClause_269 : decode cX3_makeClause 269 = .ok (.invokevirtual 53, 3) := by decide +kernel
theorem dX3_makeClause_272 : decode cX3_makeClause 272 = .ok (.aload_n 0, 1) := by decide +kernel
theorem dX3_makeClause_273 : decode cX3_makeClause 273 = .ok (.getfield 18, 3) := by decide +kernel
theorem dX3_makeClause_276 : decode cX3_makeClause 276 = .ok (.invokevirtual 102, 3) := by decide +kernel
theorem dX3_makeClause_279 : decode cX3_makeClause 279 = .ok (.return_, 1) := by decide +kernel
theorem dX3_tellOnce_0 : decode cX3_tellOnce 0 = .ok (.aload_n 0, 1) := by decide +kernel
theorem dX3_tellOnce_1 : decode cX3_tellOnce 1 = .ok (.getfield 9, 3) := by decide +kernel
theorem dX3_tellOnce_4 : decode cX3_tellOnce 4 = .ok (.iload_n 1, 1) := by decide +kernel
theorem dX3_tellOnce_5 : decode cX3_tellOnce 5 = .ok (.iand, 1) := by decide +kernel
theorem dX3_tellOnce_6 : decode cX3_tellOnce 6 = .ok (.ifCond .eq 11, 3) := by decide +kernel
theorem dX3_tellOnce_9 : decode cX3_tellOnce 9 = .ok (.aload_n 0, 1) := by decide +kernel
theorem dX3_tellOnce_10 : decode cX3_tellOnce 10 = .ok (.getfield 18, 3) := by decide +kernel
theorem dX3_tellOnce_13 : decode cX3_tellOnce 13 = .ok (.iconst 5, 1) := by decide +kernel
theorem dX3_tellOnce_14 : decode cX3_tellOnce 14 = .ok (.invokevirtual 53, 3) := by decide +kernel
theorem dX3_tellOnce_17 : decode cX3_tellOnce 17 = .ok (.aload_n 0, 1) := by decide +kernel
theorem dX3_tellOnce_18 : decode cX3_tellOnce 18 = .ok (.dup, 1) := by decide +kernel
theorem dX3_tellOnce_19 : decode cX3_tellOnce 19 = .ok (.getfield 9, 3) := by decide +kernel
theorem dX3_tellOnce_22 : decode cX3_tellOnce 22 = .ok (.iload_n 1, 1) := by decide +kernel
theorem dX3_tellOnce_23 : decode cX3_tellOnce 23 = .ok (.ior, 1) := by decide +kernel
theorem dX3_tellOnce_24 : decode cX3_tellOnce 24 = .ok (.putfield 9, 3) := by decide +kernel
theorem dX3_tellOnce_27 : decode cX3_tellOnce 27 = .ok (.return_, 1) := by decide +kernel
theorem dX3_makeGuest_0 : decode cX3_makeGuest 0 = .ok (.aload_n 0, 1) := by decide +kernel
theorem dX3_makeGuest_1 : decode cX3_makeGuest 1 = .ok (.getfield 22, 3) := by decide +kernel
theorem dX3_makeGuest_4 : decode cX3_makeGuest 4 = .ok (.getfield 105, 3) := by decide +kernel
theorem dX3_makeGuest_7 : decode cX3_makeGuest 7 = .ok (.iconst 4, 1) := by decide +kernel
theorem dX3_makeGuest_8 : decode cX3_makeGuest 8 = .ok (.if_icmp .lt 11, 3) := by decide +kernel
theorem dX3_makeGuest_11 : decode cX3_makeGuest 11 = .ok (.aload_n 0, 1) := by decide +kernel
theorem dX3_makeGuest_12 : decode cX3_makeGuest 12 = .ok (.getfield 18, 3) := by decide +kernel
theorem dX3_makeGuest_15 : decode cX3_makeGuest 15 = .ok (.iconst 2, 1) := by decide +kernel
theorem dX3_makeGuest_16 : decode cX3_makeGuest 16 = .ok (.invokevirtual 53, 3) := by decide +kernel
theorem dX3_makeGuest_19 : decode cX3_makeGuest 19 = .ok (.aload_n 0, 1) := by decide +kernel
theorem dX3_makeGuest_20 : decode cX3_makeGuest 20 = .ok (.getfield 18, 3) := by decide +kernel
theorem dX3_makeGuest_23 : decode cX3_makeGuest 23 = .ok (.iconst 1, 1) := by decide +kernel
theorem dX3_makeGuest_24 : decode cX3_makeGuest 24 = .ok (.bipush 12, 2) := by decide +kernel
theorem dX3_makeGuest_26 : decode cX3_makeGuest 26 = .ok (.invokevirtual 60, 3) := by decide +kernel
theorem dX3_makeGuest_29 : decode cX3_makeGuest 29 = .ok (.istore_n 1, 1) := by decide +kernel
theorem dX3_makeGuest_30 : decode cX3_makeGuest 30 = .ok (.aload_n 0, 1) := by decide +kernel
theorem dX3_makeGuest_31 : decode cX3_makeGuest 31 = .ok (.getfield 18, 3) := by decide +kernel
theorem dX3_makeGuest_34 : decode cX3_makeGuest 34 = .ok (.invokevirtual 108, 3) := by decide +kernel
theorem dX3_makeGuest_37 : decode cX3_makeGuest 37 = .ok (.ifCond .eq 15, 3) := by decide +kernel
theorem dX3_makeGuest_40 : decode cX3_makeGuest 40 = .ok (.aload_n 0, 1) := by decide +kernel
theorem dX3_makeGuest_41 : decode cX3_makeGuest 41 = .ok (.getfield 18, 3) := by decide +kernel
theorem dX3_makeGuest_44 : decode cX3_makeGuest 44 = .ok (.iconst 0, 1) := by decide +kernel
theorem dX3_makeGuest_45 : decode cX3_makeGuest 45 = .ok (.iconst 2, 1) := by decide +kernel
theorem dX3_makeGuest_46 : decode cX3_makeGuest 46 = .ok (.invokevirtual 60, 3) := by decide +kernel
theorem dX3_makeGuest_49 : decode cX3_makeGuest 49 = .ok (.goto 4, 3) := by decide +kernel
theorem dX3_makeGuest_52 : decode cX3_makeGuest 52 = .ok (.iconst 0, 1) := by decide +kernel
theorem dX3_makeGuest_53 : decode cX3_makeGuest 53 = .ok (.istore_n 2, 1) := by decide +kernel
theorem dX3_makeGuest_54 : decode cX3_makeGuest 54 = .ok (.aload_n 0, 1) := by decide +kernel
theorem dX3_makeGuest_55 : decode cX3_makeGuest 55 = .ok (.getfield 18, 3) := by decide +kernel
theorem dX3_makeGuest_58 : decode cX3_makeGuest 58 = .ok (.getfield 111, 3) := by decide +kernel
theorem dX3_makeGuest_61 : decode cX3_makeGuest 61 = .ok (.ifCond .ne 12, 3) := by decide +kernel
theorem dX3_makeGuest_64 : decode cX3_makeGuest 64 = .ok (.aload_n 0, 1) := by decide +kernel
theorem dX3_makeGuest_65 : decode cX3_makeGuest 65 = .ok (.getfield 22, 3) := by decide +kernel
theorem dX3_makeGuest_68 : decode cX3_makeGuest 68 = .ok (.iload_n 1, 1) := by decide +kernel
theorem dX3_makeGuest_69 : decode cX3_makeGuest 69 = .ok (.iload_n 2, 1) := by decide +kernel
theorem dX3_makeGuest_70 : decode cX3_makeGuest 70 = .ok (.invokevirtual 114, 3) := by decide +kernel
theorem dX3_makeGuest_73 : decode cX3_makeGuest 73 = .ok (.return_, 1) := by decide +kernel
theorem dX3_makePage_0 : decode cX3_makePage 0 = .ok (.aload_n 0, 1) := by decide +kernel
theorem dX3_makePage_1 : decode cX3_makePage 1 = .ok (.getfield 15, 3) := by decide +kernel
theorem dX3_makePage_4 : decode cX3_makePage 4 = .ok (.aload_n 0, 1) := by decide +kernel
theorem dX3_makePage_5 : decode cX3_makePage 5 = .ok (.getfield 22, 3) := by decide +kernel
theorem dX3_makePage_8 : decode cX3_makePage 8 = .ok (.getfield 64, 3) := by decide +kernel
theorem dX3_makePage_11 : decode cX3_makePage 11 = .ok (.if_icmp .lt 11, 3) := by decide +kernel
theorem dX3_makePage_14 : decode cX3_makePage 14 = .ok (.aload_n 0, 1) := by decide +kernel
theorem dX3_makePage_15 : decode cX3_makePage 15 = .ok (.getfield 18, 3) := by decide +kernel
theorem dX3_makePage_18 : decode cX3_makePage 18 = .ok (.iconst 2, 1) := by decide +kernel
theorem dX3_makePage_19 : decode cX3_makePage 19 = .ok (.invokevirtual 53, 3) := by decide +kernel
theorem dX3_makePage_22 : decode cX3_makePage 22 = .ok (.aload_n 0, 1) := by decide +kernel
theorem dX3_makePage_23 : decode cX3_makePage 23 = .ok (.getfield 18, 3) := by decide +kernel
theorem dX3_makePage_26 : decode cX3_makePage 26 = .ok (.aload_n 0, 1) := by decide +kernel
theorem dX3_makePage_27 : decode cX3_makePage 27 = .ok (.getfield 22, 3) := by decide +kernel
theorem dX3_makePage_30 : decode cX3_makePage 30 = .ok (.invokevirtual 118, 3) := by decide +kernel
theorem dX3_makePage_33 : decode cX3_makePage 33 = .ok (.istore_n 1, 1) := by decide +kernel
theorem dX3_makePage_34 : decode cX3_makePage 34 = .ok (.iload_n 1, 1) := by decide +kernel
theorem dX3_makePage_35 : decode cX3_makePage 35 = .ok (.iconst (-1), 1) := by decide +kernel
theorem dX3_makePage_36 : decode cX3_makePage 36 = .ok (.if_icmp .eq 27, 3) := by decide +kernel
theorem dX3_makePage_39 : decode cX3_makePage 39 = .ok (.aload_n 0, 1) := by decide +kernel
theorem dX3_makePage_40 : decode cX3_makePage 40 = .ok (.getfield 26, 3) := by decide +kernel
theorem dX3_makePage_43 : decode cX3_makePage 43 = .ok (.getfield 122, 3) := by decide +kernel
theorem dX3_makePage_46 : decode cX3_makePage 46 = .ok (.getfield 126, 3) := by decide +kernel
theorem dX3_makePage_49 : decode cX3_makePage 49 = .ok (.iload_n 1, 1) := by decide +kernel
theorem dX3_makePage_50 : decode cX3_makePage 50 = .ok (.iaload, 1) := by decide +kernel
theorem dX3_makePage_51 : decode cX3_makePage 51 = .ok (.iconst (-1), 1) := by decide +kernel
theorem dX3_makePage_52 : decode cX3_makePage 52 = .ok (.if_icmp .eq 11, 3) := by decide +kernel
theorem dX3_makePage_55 : decode cX3_makePage 55 = .ok (.aload_n 0, 1) := by decide +kernel
theorem dX3_makePage_56 : decode cX3_makePage 56 = .ok (.getfield 18, 3) := by decide +kernel
theorem dX3_makePage_59 : decode cX3_makePage 59 = .ok (.iconst 4, 1) := by decide +kernel
theorem dX3_makePage_60 : decode cX3_makePage 60 = .ok (.invokevirtual 53, 3) := by decide +kernel
theorem dX3_makePage_63 : decode cX3_makePage 63 = .ok (.iconst 0, 1) := by decide +kernel
theorem dX3_makePage_64 : decode cX3_makePage 64 = .ok (.istore_n 2, 1) := by decide +kernel
theorem dX3_makePage_65 : decode cX3_makePage 65 = .ok (.iconst 0, 1) := by decide +kernel
theorem dX3_makePage_66 : decode cX3_makePage 66 = .ok (.istore_n 3, 1) := by decide +kernel
theorem dX3_makePage_67 : decode cX3_makePage 67 = .ok (.iload_n 3, 1) := by decide +kernel
theorem dX3_makePage_68 : decode cX3_makePage 68 = .ok (.iconst 4, 1) := by decide +kernel
theorem dX3_makePage_69 : decode cX3_makePage 69 = .ok (.if_icmp .ge 24, 3) := by decide +kernel
theorem dX3_makePage_72 : decode cX3_makePage 72 = .ok (.iload_n 2, 1) := by decide +kernel
theorem dX3_makePage_73 : decode cX3_makePage 73 = .ok (.iconst 4, 1) := by decide +kernel
theorem dX3_makePage_74 : decode cX3_makePage 74 = .ok (.ishl, 1) := by decide +kernel
theorem dX3_makePage_75 : decode cX3_makePage 75 = .ok (.aload_n 0, 1) := by decide +kernel
theorem dX3_makePage_76 : decode cX3_makePage 76 = .ok (.getfield 18, 3) := by decide +kernel
theorem dX3_makePage_79 : decode cX3_makePage 79 = .ok (.iconst 0, 1) := by decide +kernel
theorem dX3_makePage_80 : decode cX3_makePage 80 = .ok (.bipush 15, 2) := by decide +kernel
theorem dX3_makePage_82 : decode cX3_makePage 82 = .ok (.invokevirtual 60, 3) := by decide +kernel
theorem dX3_makePage_85 : decode cX3_makePage 85 = .ok (.ior, 1) := by decide +kernel
theorem dX3_makePage_86 : decode cX3_makePage 86 = .ok (.istore_n 2, 1) := by decide +kernel
theorem dX3_makePage_87 : decode cX3_makePage 87 = .ok (.iinc 3 1, 3) := by decide +kernel
theorem dX3_makePage_90 : decode cX3_makePage 90 = .ok (.goto (-23), 3) := by decide +kernel
theorem dX3_makePage_93 : decode cX3_makePage 93 = .ok (.aload_n 0, 1) := by decide +kernel
theorem dX3_makePage_94 : decode cX3_makePage 94 = .ok (.getfield 18, 3) := by decide +kernel
theorem dX3_makePage_97 : decode cX3_makePage 97 = .ok (.getfield 111, 3) := by decide +kernel
theorem dX3_makePage_100 : decode cX3_makePage 100 = .ok (.ifCond .ne 55, 3) := by decide +kernel
theorem dX3_makePage_103 : decode cX3_makePage 103 = .ok (.iload_n 1, 1) := by decide +kernel
theorem dX3_makePage_104 : decode cX3_makePage 104 = .ok (.iconst (-1), 1) := by decide +kernel
theorem dX3_makePage_105 : decode cX3_makePage 105 = .ok (.if_icmp .eq 50, 3) := by decide +kernel
theorem dX3_makePage_108 : decode cX3_makePage 108 = .ok (.aload_n 0, 1) := by decide +kernel
theorem dX3_makePage_109 : decode cX3_makePage 109 = .ok (.getfield 15, 3) := by decide +kernel
theorem dX3_makePage_112 : decode cX3_makePage 112 = .ok (.bipush 48, 2) := by decide +kernel
theorem dX3_makePage_114 : decode cX3_makePage 114 = .ok (.if_icmp .ge 41, 3) := by decide +kernel
theorem dX3_makePage_117 : decode cX3_makePage 117 = .ok (.aload_n 0, 1) := by decide +kernel
theorem dX3_makePage_118 : decode cX3_makePage 118 = .ok (.getfield 26, 3) := by decide +kernel
theorem dX3_makePage_121 : decode cX3_makePage 121 = .ok (.getfield 122, 3) := by decide +kernel
theorem dX3_makePage_124 : decode cX3_makePage 124 = .ok (.aload_n 0, 1) := by decide +kernel
theorem dX3_makePage_125 : decode cX3_makePage 125 = .ok (.getfield 15, 3) := by decide +kernel
theorem dX3_makePage_128 : decode cX3_makePage 128 = .ok (.iload_n 1, 1) := by decide +kernel
theorem dX3_makePage_129 : decode cX3_makePage 129 = .ok (.invokevirtual 132, 3) := by decide +kernel
theorem dX3_makePage_132 : decode cX3_makePage 132 = .ok (.aload_n 0, 1) := by decide +kernel
theorem dX3_makePage_133 : decode cX3_makePage 133 = .ok (.getfield 26, 3) := by decide +kernel
theorem dX3_makePage_136 : decode cX3_makePage 136 = .ok (.getfield 135, 3) := by decide +kernel
theorem dX3_makePage_139 : decode cX3_makePage 139 = .ok (.aload_n 0, 1) := by decide +kernel
theorem dX3_makePage_140 : decode cX3_makePage 140 = .ok (.getfield 15, 3) := by decide +kernel
theorem dX3_makePage_143 : decode cX3_makePage 143 = .ok (.iload_n 2, 1) := by decide +kernel
theorem dX3_makePage_144 : decode cX3_makePage 144 = .ok (.iastore, 1) := by decide +kernel
theorem dX3_makePage_145 : decode cX3_makePage 145 = .ok (.aload_n 0, 1) := by decide +kernel
theorem dX3_makePage_146 : decode cX3_makePage 146 = .ok (.dup, 1) := by decide +kernel
theorem dX3_makePage_147 : decode cX3_makePage 147 = .ok (.getfield 15, 3) := by decide +kernel
theorem dX3_makePage_150 : decode cX3_makePage 150 = .ok (.iconst 1, 1) := by decide +kernel
theorem dX3_makePage_151 : decode cX3_makePage 151 = .ok (.iadd, 1) := by decide +kernel
theorem dX3_makePage_152 : decode cX3_makePage 152 = .ok (.putfield 15, 3) := by decide +kernel
theorem dX3_makePage_155 : decode cX3_makePage 155 = .ok (.return_, 1) := by decide +kernel
theorem dX3_makeAdvised_0 : decode cX3_makeAdvised 0 = .ok (.aload_n 0, 1) := by decide +kernel
theorem dX3_makeAdvised_1 : decode cX3_makeAdvised 1 = .ok (.getfield 18, 3) := by decide +kernel
theorem dX3_makeAdvised_4 : decode cX3_makeAdvised 4 = .ok (.aload_n 0, 1) := by decide +kernel
theorem dX3_makeAdvised_5 : decode cX3_makeAdvised 5 = .ok (.getfield 22, 3) := by decide +kernel
theorem dX3_makeAdvised_8 : decode cX3_makeAdvised 8 = .ok (.invokevirtual 118, 3) := by decide +kernel
theorem dX3_makeAdvised_11 : decode cX3_makeAdvised 11 = .ok (.istore_n 1, 1) := by decide +kernel
theorem dX3_makeAdvised_12 : decode cX3_makeAdvised 12 = .ok (.aload_n 0, 1) := by decide +kernel
theorem dX3_makeAdvised_13 : decode cX3_makeAdvised 13 = .ok (.getfield 18, 3) := by decide +kernel
theorem dX3_makeAdvised_16 : decode cX3_makeAdvised 16 = .ok (.iconst 0, 1) := by decide +kernel
theorem dX3_makeAdvised_17 : decode cX3_makeAdvised 17 = .ok (.bipush 11, 2) := by decide +kernel
theorem dX3_makeAdvised_19 : decode cX3_makeAdvised 19 = .ok (.invokevirtual 60, 3) := by decide +kernel
theorem dX3_makeAdvised_22 : decode cX3_makeAdvised 22 = .ok (.istore_n 2, 1) := by decide +kernel
theorem dX3_makeAdvised_23 : decode cX3_makeAdvised 23 = .ok (.iload_n 1, 1) := by decide +kernel
theorem dX3_makeAdvised_24 : decode cX3_makeAdvised 24 = .ok (.iconst (-1), 1) := by decide +kernel
theorem dX3_makeAdvised_25 : decode cX3_makeAdvised 25 = .ok (.if_icmp .eq 13, 3) := by decide +kernel
theorem dX3_makeAdvised_28 : decode cX3_makeAdvised 28 = .ok (.aload_n 0, 1) := by decide +kernel
theorem dX3_makeAdvised_29 : decode cX3_makeAdvised 29 = .ok (.getfield 18, 3) := by decide +kernel
theorem dX3_makeAdvised_32 : decode cX3_makeAdvised 32 = .ok (.getfield 111, 3) := by decide +kernel
theorem dX3_makeAdvised_35 : decode cX3_makeAdvised 35 = .ok (.ifCond .eq 4, 3) := by decide +kernel
theorem dX3_makeAdvised_38 : decode cX3_makeAdvised 38 = .ok (.return_, 1) := by decide +kernel
theorem dX3_makeAdvised_39 : decode cX3_makeAdvised 39 = .ok (.aload_n 0, 1) := by decide +kernel
theorem dX3_makeAdvised_40 : decode cX3_makeAdvised 40 = .ok (.getfield 22, 3) := by decide +kernel
theorem dX3_makeAdvised_43 : decode cX3_makeAdvised 43 = .ok (.aload_n 0, 1) := by decide +kernel
theorem dX3_makeAdvised_44 : decode cX3_makeAdvised 44 = .ok (.getfield 22, 3) := by decide +kernel
theorem dX3_makeAdvised_47 : decode cX3_makeAdvised 47 = .ok (.getfield 138, 3) := by decide +kernel
theorem dX3_makeAdvised_50 : decode cX3_makeAdvised 50 = .ok (.iload_n 1, 1) := by decide +kernel
theorem dX3_makeAdvised_51 : decode cX3_makeAdvised 51 = .ok (.iaload, 1) := by decide +kernel
theorem dX3_makeAdvised_52 : decode cX3_makeAdvised 52 = .ok (.iload_n 2, 1) := by decide +kernel
theorem dX3_makeAdvised_53 : decode cX3_makeAdvised 53 = .ok (.invokevirtual 141, 3) := by decide +kernel
theorem dX3_makeAdvised_56 : decode cX3_makeAdvised 56 = .ok (.istore_n 3, 1) := by decide +kernel
theorem dX3_makeAdvised_57 : decode cX3_makeAdvised 57 = .ok (.iload_n 3, 1) := by decide +kernel
theorem dX3_makeAdvised_58 : decode cX3_makeAdvised 58 = .ok (.iconst (-1), 1) := by decide +kernel
theorem dX3_makeAdvised_59 : decode cX3_makeAdvised 59 = .ok (.if_icmp .eq 8, 3) := by decide +kernel
theorem dX3_makeAdvised_62 : decode cX3_makeAdvised 62 = .ok (.iload_n 3, 1) := by decide +kernel
theorem dX3_makeAdvised_63 : decode cX3_makeAdvised 63 = .ok (.iload_n 1, 1) := by decide +kernel
theorem dX3_makeAdvised_64 : decode cX3_makeAdvised 64 = .ok (.if_icmp .ge 12, 3) := by decide +kernel
theorem dX3_makeAdvised_67 : decode cX3_makeAdvised 67 = .ok (.aload_n 0, 1) := by decide +kernel
theorem dX3_makeAdvised_68 : decode cX3_makeAdvised 68 = .ok (.getfield 18, 3) := by decide +kernel
theorem dX3_makeAdvised_71 : decode cX3_makeAdvised 71 = .ok (.iconst 3, 1) := by decide +kernel
theorem dX3_makeAdvised_72 : decode cX3_makeAdvised 72 = .ok (.invokevirtual 53, 3) := by decide +kernel
theorem dX3_makeAdvised_75 : decode cX3_makeAdvised 75 = .ok (.return_, 1) := by decide +kernel
theorem dX3_makeAdvised_76 : decode cX3_makeAdvised 76 = .ok (.aload_n 0, 1) := by decide +kernel
theorem dX3_makeAdvised_77 : decode cX3_makeAdvised 77 = .ok (.getfield 26, 3) := by decide +kernel
theorem dX3_makeAdvised_80 : decode cX3_makeAdvised 80 = .ok (.iload_n 1, 1) := by decide +kernel
theorem dX3_makeAdvised_81 : decode cX3_makeAdvised 81 = .ok (.iload_n 3, 1) := by decide +kernel
theorem dX3_makeAdvised_82 : decode cX3_makeAdvised 82 = .ok (.invokevirtual 144, 3) := by decide +kernel
theorem dX3_makeAdvised_85 : decode cX3_makeAdvised 85 = .ok (.pop, 1) := by decide +kernel
theorem dX3_makeAdvised_86 : decode cX3_makeAdvised 86 = .ok (.return_, 1) := by decide +kernel
theorem dX4_init_0 : decode cX4_init 0 = .ok (.aload_n 0, 1) := by decide +kernel
theorem dX4_init_1 : decode cX4_init 1 = .ok (.invokespecial 3, 3) := by decide +kernel
theorem dX4_init_4 : decode cX4_init 4 = .ok (.aload_n 0, 1) := by decide +kernel
theorem dX4_init_5 : decode cX4_init 5 = .ok (.iconst (-1), 1) := by decide +kernel
theorem dX4_init_6 : decode cX4_init 6 = .ok (.putfield 9, 3) := by decide +kernel
theorem dX4_init_9 : decode cX4_init 9 = .ok (.aload_n 0, 1) := by decide +kernel
theorem dX4_init_10 : decode cX4_init 10 = .ok (.iconst (-1), 1) := by decide +kernel
theorem dX4_init_11 : decode cX4_init 11 = .ok (.putfield 15, 3) := by decide +kernel
theorem dX4_init_14 : decode cX4_init 14 = .ok (.aload_n 0, 1) := by decide +kernel
theorem dX4_init_15 : decode cX4_init 15 = .ok (.iconst (-1), 1) := by decide +kernel
theorem dX4_init_16 : decode cX4_init 16 = .ok (.putfield 18, 3) := by decide +kernel
theorem dX4_init_19 : decode cX4_init 19 = .ok (.aload_n 0, 1) := by decide +kernel
theorem dX4_init_20 : decode cX4_init 20 = .ok (.iconst 0, 1) := by decide +kernel
theorem dX4_init_21 : decode cX4_init 21 = .ok (.putfield 21, 3) := by decide +kernel
theorem dX4_init_24 : decode cX4_init 24 = .ok (.aload_n 0, 1) := by decide +kernel
theorem dX4_init_25 : decode cX4_init 25 = .ok (.iconst 0, 1) := by decide +kernel
theorem dX4_init_26 : decode cX4_init 26 = .ok (.putfield 24, 3) := by decide +kernel
theorem dX4_init_29 : decode cX4_init 29 = .ok (.aload_n 0, 1) := by decide +kernel
theorem dX4_init_30 : decode cX4_init 30 = .ok (.aload_n 1, 1) := by decide +kernel
theorem dX4_init_31 : decode cX4_init 31 = .ok (.putfield 27, 3) := by decide +kernel
theorem dX4_init_34 : decode cX4_init 34 = .ok (.aload_n 0, 1) := by decide +kernel
theorem dX4_init_35 : decode cX4_init 35 = .ok (.aload_n 2, 1) := by decide +kernel
theorem dX4_init_36 : decode cX4_init 36 = .ok (.putfield 31, 3) := by decide +kernel
theorem dX4_init_39 : decode cX4_init 39 = .ok (.return_, 1) := by decide +kernel
theorem dX4_countAll_0 : decode cX4_countAll 0 = .ok (.iconst 0, 1) := by decide +kernel
theorem dX4_countAll_1 : decode cX4_countAll 1 = .ok (.istore_n 1, 1) := by decide +kernel
theorem dX4_countAll_2 : decode cX4_countAll 2 = .ok (.iload_n 1, 1) := by decide +kernel
theorem dX4_countAll_3 : decode cX4_countAll 3 = .ok (.sipush 700, 3) := by decide +kernel
theorem dX4_countAll_6 : decode cX4_countAll 6 = .ok (.if_icmp .ge 16, 3) := by decide +kernel
theorem dX4_countAll_9 : decode cX4_countAll 9 = .ok (.aload_n 0, 1) := by decide +kernel
theorem dX4_countAll_10 : decode cX4_countAll 10 = .ok (.invokevirtual 35, 3) := by decide +kernel
theorem dX4_countAll_13 : decode cX4_countAll 13 = .ok (.ifCond .eq 9, 3) := by decide +kernel
theorem dX4_countAll_16 : decode cX4_countAll 16 = .ok (.iinc 1 1, 3) := by decide +kernel
theorem dX4_countAll_19 : decode cX4_countAll 19 = .ok (.goto (-17), 3) := by decide +kernel
theorem dX4_countAll_22 : decode cX4_countAll 22 = .ok (.iload_n 1, 1) := by decide +kernel
theorem dX4_countAll_23 : decode cX4_countAll 23 = .ok (.ireturn, 1) := by decide +kernel
theorem dX4_isNext_0 : decode cX4_isNext 0 = .ok (.aload_n 0, 1) := by decide +kernel
theorem dX4_isNext_1 : decode cX4_isNext 1 = .ok (.getfield 27, 3) := by decide +kernel
theorem dX4_isNext_4 : decode cX4_isNext 4 = .ok (.invokevirtual 39, 3) := by decide +kernel
theorem dX4_isNext_7 : decode cX4_isNext 7 = .ok (.ifCond .ne 5, 3) := by decide +kernel
theorem dX4_isNext_10 : decode cX4_isNext 10 = .ok (.iconst 0, 1) := by decide +kernel
theorem dX4_isNext_11 : decode cX4_isNext 11 = .ok (.ireturn, 1) := by decide +kernel
theorem dX4_isNext_12 : decode cX4_isNext 12 = .ok (.aload_n 0, 1) := by decide +kernel
theorem dX4_isNext_13 : decode cX4_isNext 13 = .ok (.getfield 27, 3) := by decide +kernel
theorem dX4_isNext_16 : decode cX4_isNext 16 = .ok (.ldc 44, 2) := by decide +kernel
theorem dX4_isNext_18 : decode cX4_isNext 18 = .ok (.invokevirtual 46, 3) := by decide +kernel
theorem dX4_isNext_21 : decode cX4_isNext 21 = .ok (.ifCond .eq 53, 3) := by decide +kernel
theorem dX4_isNext_24 : decode cX4_isNext 24 = .ok (.aload_n 0, 1) := by decide +kernel
theorem dX4_isNext_25 : decode cX4_isNext 25 = .ok (.iconst 0, 1) := by decide +kernel
theorem dX4_isNext_26 : decode cX4_isNext 26 = .ok (.putfield 9, 3) := by decide +kernel
theorem dX4_isNext_29 : decode cX4_isNext 29 = .ok (.aload_n 0, 1) := by decide +kernel
theorem dX4_isNext_30 : decode cX4_isNext 30 = .ok (.aload_n 0, 1) := by decide +kernel
theorem dX4_isNext_31 : decode cX4_isNext 31 = .ok (.getfield 27, 3) := by decide +kernel
theorem dX4_isNext_34 : decode cX4_isNext 34 = .ok (.aload_n 0, 1) := by decide +kernel
theorem dX4_isNext_35 : decode cX4_isNext 35 = .ok (.getfield 31, 3) := by decide +kernel
theorem dX4_isNext_38 : decode cX4_isNext 38 = .ok (.invokevirtual 50, 3) := by decide +kernel
theorem dX4_isNext_41 : decode cX4_isNext 41 = .ok (.putfield 15, 3) := by decide +kernel
theorem dX4_isNext_44 : decode cX4_isNext 44 = .ok (.aload_n 0, 1) := by decide +kernel
theorem dX4_isNext_45 : decode cX4_isNext 45 = .ok (.aload_n 0, 1) := by decide +kernel
theorem dX4_isNext_46 : decode cX4_isNext 46 = .ok (.getfield 27, 3) := by decide +kernel
theorem dX4_isNext_49 : decode cX4_isNext 49 = .ok (.iconst 0, 1) := by decide +kernel
theorem dX4_isNext_50 : decode cX4_isNext 50 = .ok (.iconst 3, 1) := by decide +kernel
theorem dX4_isNext_51 : decode cX4_isNext 51 = .ok (.invokevirtual 54, 3) := by decide +kernel
theorem dX4_isNext_54 : decode cX4_isNext 54 = .ok (.putfield 21, 3) := by decide +kernel
theorem dX4_isNext_57 : decode cX4_isNext 57 = .ok (.aload_n 0, 1) := by decide +kernel
theorem dX4_isNext_58 : decode cX4_isNext 58 = .ok (.aload_n 0, 1) := by decide +kernel
theorem dX4_isNext_59 : decode cX4_isNext 59 = .ok (.getfield 27, 3) := by decide +kernel
theorem dX4_isNext_62 : decode cX4_isNext 62 = .ok (.iconst 0, 1) := by decide +kernel
theorem dX4_isNext_63 : decode cX4_isNext 63 = .ok (.bipush 15, 2) := by decide +kernel
theorem dX4_isNext_65 : decode cX4_isNext 65 = .ok (.invokevirtual 54, 3) := by decide +kernel
theorem dX4_isNext_68 : decode cX4_isNext 68 = .ok (.putfield 24, 3) := by decide +kernel
theorem dX4_isNext_71 : decode cX4_isNext 71 = .ok (.goto 164, 3) := by decide +kernel
theorem dX4_isNext_74 : decode cX4_isNext 74 = .ok (.aload_n 0, 1) := by decide +kernel
theorem dX4_isNext_75 : decode cX4_isNext 75 = .ok (.getfield 27, 3) := by decide +kernel
theorem dX4_isNext_78 : decode cX4_isNext 78 = .ok (.ldc 58, 2) := by decide +kernel
theorem dX4_isNext_80 : decode cX4_isNext 80 = .ok (.invokevirtual 46, 3) := by decide +kernel
theorem dX4_isNext_83 : decode cX4_isNext 83 = .ok (.ifCond .eq 41, 3) := by decide +kernel
theorem dX4_isNext_86 : decode cX4_isNext 86 = .ok (.aload_n 0, 1) := by decide +kernel
theorem dX4_isNext_87 : decode cX4_isNext 87 = .ok (.iconst 1, 1) := by decide +kernel
theorem dX4_isNext_88 : decode cX4_isNext 88 = .ok (.putfield 9, 3) := by decide +kernel
theorem dX4_isNext_91 : decode cX4_isNext 91 = .ok (.aload_n 0, 1) := by decide +kernel
theorem dX4_isNext_92 : decode cX4_isNext 92 = .ok (.aload_n 0, 1) := by decide +kernel
theorem dX4_isNext_93 : decode cX4_isNext 93 = .ok (.getfield 27, 3) := by decide +kernel
theorem dX4_isNext_96 : decode cX4_isNext 96 = .ok (.aload_n 0, 1) := by decide +kernel
theorem dX4_isNext_97 : decode cX4_isNext 97 = .ok (.getfield 31, 3) := by decide +kernel
theorem dX4_isNext_100 : decode cX4_isNext 100 = .ok (.invokevirtual 50, 3) := by decide +kernel
theorem dX4_isNext_103 : decode cX4_isNext 103 = .ok (.putfield 15, 3) := by decide +kernel
theorem dX4_isNext_106 : decode cX4_isNext 106 = .ok (.aload_n 0, 1) := by decide +kernel
theorem dX4_isNext_107 : decode cX4_isNext 107 = .ok (.aload_n 0, 1) := by decide +kernel
theorem dX4_isNext_108 : decode cX4_isNext 108 = .ok (.getfield 27, 3) := by decide +kernel
theorem dX4_isNext_111 : decode cX4_isNext 111 = .ok (.aload_n 0, 1) := by decide +kernel
theorem dX4_isNext_112 : decode cX4_isNext 112 = .ok (.getfield 31, 3) := by decide +kernel
theorem dX4_isNext_115 : decode cX4_isNext 115 = .ok (.invokevirtual 50, 3) := by decide +kernel
theorem dX4_isNext_118 : decode cX4_isNext 118 = .ok (.putfield 18, 3) := by decide +kernel
theorem dX4_isNext_121 : decode cX4_isNext 121 = .ok (.goto 114, 3) := by decide +kernel
theorem dX4_isNext_124 : decode cX4_isNext 124 = .ok (.aload_n 0, 1) := by decide +kernel
theorem dX4_isNext_125 : decode cX4_isNext 125 = .ok (.getfield 27, 3) := by decide +kernel
theorem dX4_isNext_128 : decode cX4_isNext 128 = .ok (.ldc 60, 2) := by decide +kernel
theorem dX4_isNext_130 : decode cX4_isNext 130 = .ok (.invokevirtual 46, 3) := by decide +kernel
theorem dX4_isNext_133 : decode cX4_isNext 133 = .ok (.ifCond .eq 26, 3) := by decide +kernel
theorem dX4_isNext_136 : decode cX4_isNext 136 = .ok (.aload_n 0, 1) := by decide +kernel
theorem dX4_isNext_137 : decode cX4_isNext 137 = .ok (.iconst 2, 1) := by decide +kernel
theorem dX4_isNext_138 : decode cX4_isNext 138 = .ok (.putfield 9, 3) := by decide +kernel
theorem dX4_isNext_141 : decode cX4_isNext 141 = .ok (.aload_n 0, 1) := by decide +kernel
theorem dX4_isNext_142 : decode cX4_isNext 142 = .ok (.aload_n 0, 1) := by decide +kernel
theorem dX4_isNext_143 : decode cX4_isNext 143 = .ok (.getfield 27, 3) := by decide +kernel
theorem dX4_isNext_146 : decode cX4_isNext 146 = .ok (.aload_n 0, 1) := by decide +kernel
theorem dX4_isNext_147 : decode cX4_isNext 147 = .ok (.getfield 31, 3) := by decide +kernel
theorem dX4_isNext_150 : decode cX4_isNext 150 = .ok (.invokevirtual 50, 3) := by decide +kernel
theorem dX4_isNext_153 : decode cX4_isNext 153 = .ok (.putfield 15, 3) := by decide +kernel
theorem dX4_isNext_156 : decode cX4_isNext 156 = .ok (.goto 79, 3) := by decide +kernel
theorem dX4_isNext_159 : decode cX4_isNext 159 = .ok (.aload_n 0, 1) := by decide +kernel
theorem dX4_isNext_160 : decode cX4_isNext 160 = .ok (.getfield 27, 3) := by decide +kernel
theorem dX4_isNext_163 : decode cX4_isNext 163 = .ok (.ldc 62, 2) := by decide +kernel
theorem dX4_isNext_165 : decode cX4_isNext 165 = .ok (.invokevirtual 46, 3) := by decide +kernel
theorem dX4_isNext_168 : decode cX4_isNext 168 = .ok (.ifCond .eq 25, 3) := by decide +kernel
theorem dX4_isNext_171 : decode cX4_isNext 171 = .ok (.aload_n 0, 1) := by decide +kernel
theorem dX4_isNext_172 : decode cX4_isNext 172 = .ok (.iconst 3, 1) := by decide +kernel
theorem dX4_isNext_173 : decode cX4_isNext 173 = .ok (.putfield 9, 3) := by decide +kernel
theorem dX4_isNext_176 : decode cX4_isNext 176 = .ok (.aload_n 0, 1) := by decide +kernel
theorem dX4_isNext_177 : decode cX4_isNext 177 = .ok (.aload_n 0, 1) := by decide +kernel
theorem dX4_isNext_178 : decode cX4_isNext 178 = .ok (.getfield 27, 3) := by decide +kernel
theorem dX4_isNext_181 : decode cX4_isNext 181 = .ok (.iconst 1, 1) := by decide +kernel
theorem dX4_isNext_182 : decode cX4_isNext 182 = .ok (.bipush 100, 2) := by decide +kernel
theorem dX4_isNext_184 : decode cX4_isNext 184 = .ok (.invokevirtual 54, 3) := by decide +kernel
theorem dX4_isNext_187 : decode cX4_isNext 187 = .ok (.putfield 21, 3) := by decide +kernel
theorem dX4_isNext_190 : decode cX4_isNext 190 = .ok (.goto 45, 3) := by decide +kernel
theorem dX4_isNext_193 : decode cX4_isNext 193 = .ok (.aload_n 0, 1) := by decide +kernel
theorem dX4_isNext_194 : decode cX4_isNext 194 = .ok (.getfield 27, 3) := by decide +kernel
theorem dX4_isNext_197 : decode cX4_isNext 197 = .ok (.ldc 64, 2) := by decide +kernel
theorem dX4_isNext_199 : decode cX4_isNext 199 = .ok (.invokevirtual 46, 3) := by decide +kernel
theorem dX4_isNext_202 : decode cX4_isNext 202 = .ok (.ifCond .eq 25, 3) := by decide +kernel
theorem dX4_isNext_205 : decode cX4_isNext 205 = .ok (.aload_n 0, 1) := by decide +kernel
theorem dX4_isNext_206 : decode cX4_isNext 206 = .ok (.iconst 4, 1) := by decide +kernel
theorem dX4_isNext_207 : decode cX4_isNext 207 = .ok (.putfield 9, 3) := by decide +kernel
theorem dX4_isNext_210 : decode cX4_isNext 210 = .ok (.aload_n 0, 1) := by decide +kernel
theorem dX4_isNext_211 : decode cX4_isNext 211 = .ok (.aload_n 0, 1) := by decide +kernel
theorem dX4_isNext_212 : decode cX4_isNext 212 = .ok (.getfield 27, 3) := by decide +kernel
theorem dX4_isNext_215 : decode cX4_isNext 215 = .ok (.iconst 1, 1) := by decide +kernel
theorem dX4_isNext_216 : decode cX4_isNext 216 = .ok (.bipush 20, 2) := by decide +kernel
theorem dX4_isNext_218 : decode cX4_isNext 218 = .ok (.invokevirtual 54, 3) := by decide +kernel
theorem dX4_isNext_221 : decode cX4_isNext 221 = .ok (.putfield 21, 3) := by decide +kernel
theorem dX4_isNext_224 : decode cX4_isNext 224 = .ok (.goto 11, 3) := by decide +kernel
theorem dX4_isNext_227 : decode cX4_isNext 227 = .ok (.aload_n 0, 1) := by decide +kernel
theorem dX4_isNext_228 : decode cX4_isNext 228 = .ok (.getfield 27, 3) := by decide +kernel
theorem dX4_isNext_231 : decode cX4_isNext 231 = .ok (.iconst 1, 1) := by decide +kernel
theorem dX4_isNext_232 : decode cX4_isNext 232 = .ok (.invokevirtual 66, 3) := by decide +kernel
theorem dX4_isNext_235 : decode cX4_isNext 235 = .ok (.aload_n 0, 1) := by decide +kernel
theorem dX4_isNext_236 : decode cX4_isNext 236 = .ok (.getfield 27, 3) := by decide +kernel
theorem dX4_isNext_239 : decode cX4_isNext 239 = .ok (.invokevirtual 70, 3) := by decide +kernel
theorem dX4_isNext_242 : decode cX4_isNext 242 = .ok (.aload_n 0, 1) := by decide +kernel
theorem dX4_isNext_243 : decode cX4_isNext 243 = .ok (.getfield 27, 3) := by decide +kernel
theorem dX4_isNext_246 : decode cX4_isNext 246 = .ok (.getfield 73, 3) := by decide +kernel
theorem dX4_isNext_249 : decode cX4_isNext 249 = .ok (.ifCond .ne 7, 3) := by decide +kernel
theorem dX4_isNext_252 : decode cX4_isNext 252 = .ok (.iconst 1, 1) := by decide +kernel
theorem dX4_isNext_253 : decode cX4_isNext 253 = .ok (.goto 4, 3) := by decide +kernel
theorem dX4_isNext_256 : decode cX4_isNext 256 = .ok (.iconst 0, 1) := by decide +kernel
theorem dX4_isNext_257 : decode cX4_isNext 257 = .ok (.ireturn, 1) := by decide +kernel
theorem dX5_init_0 : decode cX5_init 0 = .ok (.aload_n 0, 1) := by decide +kernel
theorem dX5_init_1 : decode cX5_init 1 = .ok (.invokespecial 3, 3) := by decide +kernel
theorem dX5_init_4 : decode cX5_init 4 = .ok (.aload_n 0, 1) := by decide +kernel
theorem dX5_init_5 : decode cX5_init 5 = .ok (.iconst 4, 1) := by decide +kernel
theorem dX5_init_6 : decode cX5_init 6 = .ok (.newarray .int, 2) := by decide +kernel
theorem dX5_init_8 : decode cX5_init 8 = .ok (.putfield 9, 3) := by decide +kernel
theorem dX5_init_11 : decode cX5_init 11 = .ok (.aload_n 0, 1) := by decide +kernel
theorem dX5_init_12 : decode cX5_init 12 = .ok (.iconst 4, 1) := by decide +kernel
theorem dX5_init_13 : decode cX5_init 13 = .ok (.newarray .int, 2) := by decide +kernel
theorem dX5_init_15 : decode cX5_init 15 = .ok (.putfield 15, 3) := by decide +kernel
theorem dX5_init_18 : decode cX5_init 18 = .ok (.aload_n 0, 1) := by decide +kernel
theorem dX5_init_19 : decode cX5_init 19 = .ok (.iconst 4, 1) := by decide +kernel
theorem dX5_init_20 : decode cX5_init 20 = .ok (.newarray .int, 2) := by decide +kernel
theorem dX5_init_22 : decode cX5_init 22 = .ok (.putfield 18, 3) := by decide +kernel
theorem dX5_init_25 : decode cX5_init 25 = .ok (.aload_n 0, 1) := by decide +kernel
theorem dX5_init_26 : decode cX5_init 26 = .ok (.bipush 48, 2) := by decide +kernel
theorem dX5_init_28 : decode cX5_init 28 = .ok (.newarray .int, 2) := by decide +kernel
theorem dX5_init_30 : decode cX5_init 30 = .ok (.putfield 21, 3) := by decide +kernel
theorem dX5_init_33 : decode cX5_init 33 = .ok (.aload_n 0, 1) := by decide +kernel
theorem dX5_init_34 : decode cX5_init 34 = .ok (.invokevirtual 24, 3) := by decide +kernel
theorem dX5_init_37 : decode cX5_init 37 = .ok (.return_, 1) := by decide +kernel
theorem dX5_clear_0 : decode cX5_clear 0 = .ok (.aload_n 0, 1) := by decide +kernel
theorem dX5_clear_1 : decode cX5_clear 1 = .ok (.bipush 24, 2) := by decide +kernel
theorem dX5_clear_3 : decode cX5_clear 3 = .ok (.putfield 27, 3) := by decide +kernel
theorem dX5_clear_6 : decode cX5_clear 6 = .ok (.aload_n 0, 1) := by decide +kernel
theorem dX5_clear_7 : decode cX5_clear 7 = .ok (.iconst 4, 1) := by decide +kernel
theorem dX5_clear_8 : decode cX5_clear 8 = .ok (.putfield 31, 3) := by decide +kernel
theorem dX5_clear_11 : decode cX5_clear 11 = .ok (.aload_n 0, 1) := by decide +kernel
theorem dX5_clear_12 : decode cX5_clear 12 = .ok (.iconst 1, 1) := by decide +kernel
theorem dX5_clear_13 : decode cX5_clear 13 = .ok (.putfield 34, 3) := by decide +kernel
theorem dX5_clear_16 : decode cX5_clear 16 = .ok (.aload_n 0, 1) := by decide +kernel
theorem dX5_clear_17 : decode cX5_clear 17 = .ok (.bipush 8, 2) := by decide +kernel
theorem dX5_clear_19 : decode cX5_clear 19 = .ok (.putfield 37, 3) := by decide +kernel
theorem dX5_clear_22 : decode cX5_clear 22 = .ok (.aload_n 0, 1) := by decide +kernel
theorem dX5_clear_23 : decode cX5_clear 23 = .ok (.iconst 0, 1) := by decide +kernel
theorem dX5_clear_24 : decode cX5_clear 24 = .ok (.putfield 40, 3) := by decide +kernel
theorem dX5_clear_27 : decode cX5_clear 27 = .ok (.aload_n 0, 1) := by decide +kernel
theorem dX5_clear_28 : decode cX5_clear 28 = .ok (.iconst 0, 1) := by decide +kernel
theorem dX5_clear_29 : decode cX5_clear 29 = .ok (.putfield 44, 3) := by decide +kernel
theorem dX5_clear_32 : decode cX5_clear 32 = .ok (.aload_n 0, 1) := by decide +kernel
theorem dX5_clear_33 : decode cX5_clear 33 = .ok (.iconst 0, 1) := by decide +kernel
theorem dX5_clear_34 : decode cX5_clear 34 = .ok (.putfield 47, 3) := by decide +kernel
theorem dX5_clear_37 : decode cX5_clear 37 = .ok (.aload_n 0, 1) := by decide +kernel
theorem dX5_clear_38 : decode cX5_clear 38 = .ok (.iconst 0, 1) := by decide +kernel
theorem dX5_clear_39 : decode cX5_clear 39 = .ok (.putfield 50, 3) := by decide +kernel
theorem dX5_clear_42 : decode cX5_clear 42 = .ok (.return_, 1) := by decide +kernel
theorem dX5_become_0 : decode cX5_become 0 = .ok (.aload_n 0, 1) := by decide +kernel
theorem dX5_become_1 : decode cX5_become 1 = .ok (.aload_n 1, 1) := by decide +kernel
theorem dX5_become_2 : decode cX5_become 2 = .ok (.getfield 27, 3) := by decide +kernel
theorem dX5_become_5 : decode cX5_become 5 = .ok (.putfield 27, 3) := by decide +kernel
theorem dX5_become_8 : decode cX5_become 8 = .ok (.aload_n 0, 1) := by decide +kernel
theorem dX5_become_9 : decode cX5_become 9 = .ok (.aload_n 1, 1) := by decide +kernel
theorem dX5_become_10 : decode cX5_become 10 = .ok (.getfield 31, 3) := by decide +kernel
theorem dX5_become_13 : decode cX5_become 13 = .ok (.putfield 31, 3) := by decide +kernel
theorem dX5_become_16 : decode cX5_become 16 = .ok (.aload_n 0, 1) := by decide +kernel
theorem dX5_become_17 : decode cX5_become 17 = .ok (.aload_n 1, 1) := by decide +kernel
theorem dX5_become_18 : decode cX5_become 18 = .ok (.getfield 34, 3) := by decide +kernel
theorem dX5_become_21 : decode cX5_become 21 = .ok (.putfield 34, 3) := by decide +kernel
theorem dX5_become_24 : decode cX5_become 24 = .ok (.aload_n 0, 1) := by decide +kernel
theorem dX5_become_25 : decode cX5_become 25 = .ok (.aload_n 1, 1) := by decide +kernel
theorem dX5_become_26 : decode cX5_become 26 = .ok (.getfield 37, 3) := by decide +kernel
theorem dX5_become_29 : decode cX5_become 29 = .ok (.putfield 37, 3) := by decide +kernel
theorem dX5_become_32 : decode cX5_become 32 = .ok (.aload_n 0, 1) := by decide +kernel
theorem dX5_become_33 : decode cX5_become 33 = .ok (.aload_n 1, 1) := by decide +kernel
theorem dX5_become_34 : decode cX5_become 34 = .ok (.getfield 40, 3) := by decide +kernel
theorem dX5_become_37 : decode cX5_become 37 = .ok (.putfield 40, 3) := by decide +kernel
theorem dX5_become_40 : decode cX5_become 40 = .ok (.aload_n 0, 1) := by decide +kernel
theorem dX5_become_41 : decode cX5_become 41 = .ok (.aload_n 1, 1) := by decide +kernel
theorem dX5_become_42 : decode cX5_become 42 = .ok (.getfield 44, 3) := by decide +kernel
theorem dX5_become_45 : decode cX5_become 45 = .ok (.putfield 44, 3) := by decide +kernel
theorem dX5_become_48 : decode cX5_become 48 = .ok (.aload_n 0, 1) := by decide +kernel
theorem dX5_become_49 : decode cX5_become 49 = .ok (.aload_n 1, 1) := by decide +kernel
theorem dX5_become_50 : decode cX5_become 50 = .ok (.getfield 47, 3) := by decide +kernel
theorem dX5_become_53 : decode cX5_become 53 = .ok (.putfield 47, 3) := by decide +kernel
theorem dX5_become_56 : decode cX5_become 56 = .ok (.aload_n 0, 1) := by decide +kernel
theorem dX5_become_57 : decode cX5_become 57 = .ok (.aload_n 1, 1) := by decide +kernel
theorem dX5_become_58 : decode cX5_become 58 = .ok (.getfield 50, 3) := by decide +kernel
theorem dX5_become_61 : decode cX5_become 61 = .ok (.putfield 50, 3) := by decide +kernel
theorem dX5_become_64 : decode cX5_become 64 = .ok (.aload_n 1, 1) := by decide +kernel
theorem dX5_become_65 : decode cX5_become 65 = .ok (.getfield 9, 3) := by decide +kernel
theorem dX5_become_68 : decode cX5_become 68 = .ok (.iconst 0, 1) := by decide +kernel
theorem dX5_become_69 : decode cX5_become 69 = .ok (.aload_n 0, 1) := by decide +kernel
theorem dX5_become_70 : decode cX5_become 70 = .ok (.getfield 9, 3) := by decide +kernel
theorem dX5_become_73 : decode cX5_become 73 = .ok (.iconst 0, 1) := by decide +kernel
theorem dX5_become_74 : decode cX5_become 74 = .ok (.iconst 4, 1) := by decide +kernel
theorem dX5_become_75 : decode cX5_become 75 = .ok (.invokestatic 53, 3) := by decide +kernel
theorem dX5_become_78 : decode cX5_become 78 = .ok (.aload_n 1, 1) := by decide +kernel
theorem dX5_become_79 : decode cX5_become 79 = .ok (.getfield 15, 3) := by decide +kernel
theorem dX5_become_82 : decode cX5_become 82 = .ok (.iconst 0, 1) := by decide +kernel
theorem dX5_become_83 : decode cX5_become 83 = .ok (.aload_n 0, 1) := by decide +kernel
theorem dX5_become_84 : decode cX5_become 84 = .ok (.getfield 15, 3) := by decide +kernel
theorem dX5_become_87 : decode cX5_become 87 = .ok (.iconst 0, 1) := by decide +kernel
theorem dX5_become_88 : decode cX5_become 88 = .ok (.iconst 4, 1) := by decide +kernel
theorem dX5_become_89 : decode cX5_become 89 = .ok (.invokestatic 53, 3) := by decide +kernel
theorem dX5_become_92 : decode cX5_become 92 = .ok (.aload_n 1, 1) := by decide +kernel
theorem dX5_become_93 : decode cX5_become 93 = .ok (.getfield 18, 3) := by decide +kernel
theorem dX5_become_96 : decode cX5_become 96 = .ok (.iconst 0, 1) := by decide +kernel
theorem dX5_become_97 : decode cX5_become 97 = .ok (.aload_n 0, 1) := by decide +kernel
theorem dX5_become_98 : decode cX5_become 98 = .ok (.getfield 18, 3) := by decide +kernel
theorem dX5_become_101 : decode cX5_become 101 = .ok (.iconst 0, 1) := by decide +kernel
theorem dX5_become_102 : decode cX5_become 102 = .ok (.iconst 4, 1) := by decide +kernel
theorem dX5_become_103 : decode cX5_become 103 = .ok (.invokestatic 53, 3) := by decide +kernel
theorem dX5_become_106 : decode cX5_become 106 = .ok (.aload_n 1, 1) := by decide +kernel
theorem dX5_become_107 : decode cX5_become 107 = .ok (.getfield 21, 3) := by decide +kernel
theorem dX5_become_110 : decode cX5_become 110 = .ok (.iconst 0, 1) := by decide +kernel
theorem dX5_become_111 : decode cX5_become 111 = .ok (.aload_n 0, 1) := by decide +kernel
theorem dX5_become_112 : decode cX5_become 112 = .ok (.getfield 21, 3) := by decide +kernel
theorem dX5_become_115 : decode cX5_become 115 = .ok (.iconst 0, 1) := by decide +kernel
theorem dX5_become_116 : decode cX5_become 116 = .ok (.bipush 48, 2) := by decide +kernel
theorem dX5_become_118 : decode cX5_become 118 = .ok (.invokestatic 53, 3) := by decide +kernel
theorem dX5_become_121 : decode cX5_become 121 = .ok (.return_, 1) := by decide +kernel
theorem dX5_addGuest_0 : decode cX5_addGuest 0 = .ok (.aload_n 0, 1) := by decide +kernel
theorem dX5_addGuest_1 : decode cX5_addGuest 1 = .ok (.getfield 47, 3) := by decide +kernel
theorem dX5_addGuest_4 : decode cX5_addGuest 4 = .ok (.iconst 4, 1) := by decide +kernel
theorem dX5_addGuest_5 : decode cX5_addGuest 5 = .ok (.if_icmp .ge 14, 3) := by decide +kernel
theorem dX5_addGuest_8 : decode cX5_addGuest 8 = .ok (.aload_n 0, 1) := by decide +kernel
theorem dX5_addGuest_9 : decode cX5_addGuest 9 = .ok (.getfield 50, 3) := by decide +kernel
theorem dX5_addGuest_12 : decode cX5_addGuest 12 = .ok (.iload_n 1, 1) := by decide +kernel
theorem dX5_addGuest_13 : decode cX5_addGuest 13 = .ok (.iadd, 1) := by decide +kernel
theorem dX5_addGuest_14 : decode cX5_addGuest 14 = .ok (.bipush 48, 2) := by decide +kernel
theorem dX5_addGuest_16 : decode cX5_addGuest 16 = .ok (.if_icmp .le 4, 3) := by decide +kernel
theorem dX5_addGuest_19 : decode cX5_addGuest 19 = .ok (.return_, 1) := by decide +kernel
theorem dX5_addGuest_20 : decode cX5_addGuest 20 = .ok (.aload_n 0, 1) := by decide +kernel
theorem dX5_addGuest_21 : decode cX5_addGuest 21 = .ok (.getfield 9, 3) := by decide +kernel
theorem dX5_addGuest_24 : decode cX5_addGuest 24 = .ok (.aload_n 0, 1) := by decide +kernel
theorem dX5_addGuest_25 : decode cX5_addGuest 25 = .ok (.getfield 47, 3) := by decide +kernel
theorem dX5_addGuest_28 : decode cX5_addGuest 28 = .ok (.iload_n 1, 1) := by decide +kernel
theorem dX5_addGuest_29 : decode cX5_addGuest 29 = .ok (.iastore, 1) := by decide +kernel
theorem dX5_addGuest_30 : decode cX5_addGuest 30 = .ok (.aload_n 0, 1) := by decide +kernel
theorem dX5_addGuest_31 : decode cX5_addGuest 31 = .ok (.getfield 15, 3) := by decide +kernel
theorem dX5_addGuest_34 : decode cX5_addGuest 34 = .ok (.aload_n 0, 1) := by decide +kernel
theorem dX5_addGuest_35 : decode cX5_addGuest 35 = .ok (.getfield 47, 3) := by decide +kernel
theorem dX5_addGuest_38 : decode cX5_addGuest 38 = .ok (.iload_n 2, 1) := by decide +kernel
theorem dX5_addGuest_39 : decode cX5_addGuest 39 = .ok (.iastore, 1) := by decide +kernel
theorem dX5_addGuest_40 : decode cX5_addGuest 40 = .ok (.aload_n 0, 1) := by decide +kernel
theorem dX5_addGuest_41 : decode cX5_addGuest 41 = .ok (.getfield 18, 3) := by decide +kernel
theorem dX5_addGuest_44 : decode cX5_addGuest 44 = .ok (.aload_n 0, 1) := by decide +kernel
theorem dX5_addGuest_45 : decode cX5_addGuest 45 = .ok (.getfield 47, 3) := by decide +kernel
theorem dX5_addGuest_48 : decode cX5_addGuest 48 = .ok (.aload_n 0, 1) := by decide +kernel
theorem dX5_addGuest_49 : decode cX5_addGuest 49 = .ok (.getfield 50, 3) := by decide +kernel
theorem dX5_addGuest_52 : decode cX5_addGuest 52 = .ok (.iastore, 1) := by decide +kernel
theorem dX5_addGuest_53 : decode cX5_addGuest 53 = .ok (.iconst 0, 1) := by decide +kernel
theorem dX5_addGuest_54 : decode cX5_addGuest 54 = .ok (.istore_n 3, 1) := by decide +kernel
theorem dX5_addGuest_55 : decode cX5_addGuest 55 = .ok (.iload_n 3, 1) := by decide +kernel
theorem dX5_addGuest_56 : decode cX5_addGuest 56 = .ok (.iload_n 1, 1) := by decide +kernel
theorem dX5_addGuest_57 : decode cX5_addGuest 57 = .ok (.if_icmp .ge 24, 3) := by decide +kernel
theorem dX5_addGuest_60 : decode cX5_addGuest 60 = .ok (.aload_n 0, 1) := by decide +kernel
theorem dX5_addGuest_61 : decode cX5_addGuest 61 = .ok (.getfield 21, 3) := by decide +kernel
theorem dX5_addGuest_64 : decode cX5_addGuest 64 = .ok (.aload_n 0, 1) := by decide +kernel
theorem dX5_addGuest_65 : decode cX5_addGuest 65 = .ok (.getfield 50, 3) := by decide +kernel
theorem dX5_addGuest_68 : decode cX5_addGuest 68 = .ok (.iload_n 3, 1) := by decide +kernel
theorem dX5_addGuest_69 : decode cX5_addGuest 69 = .ok (.iadd, 1) := by decide +kernel
theorem dX5_addGuest_70 : decode cX5_addGuest 70 = .ok (.aload_n 0, 1) := by decide +kernel
theorem dX5_addGuest_71 : decode cX5_addGuest 71 = .ok (.getfield 47, 3) := by decide +kernel
theorem dX5_addGuest_74 : decode cX5_addGuest 74 = .ok (.iastore, 1) := by decide +kernel
theorem dX5_addGuest_75 : decode cX5_addGuest 75 = .ok (.iinc 3 1, 3) := by decide +kernel
theorem dX5_addGuest_78 : decode cX5_addGuest 78 = .ok (.goto (-23), 3) := by decide +kernel
theorem dX5_addGuest_81 : decode cX5_addGuest 81 = .ok (.aload_n 0, 1) := by decide +kernel
theorem dX5_addGuest_82 : decode cX5_addGuest 82 = .ok (.dup, 1) := by decide +kernel
theorem dX5_addGuest_83 : decode cX5_addGuest 83 = .ok (.getfield 50, 3) := by decide +kernel
theorem dX5_addGuest_86 : decode cX5_addGuest 86 = .ok (.iload_n 1, 1) := by decide +kernel
theorem dX5_addGuest_87 : decode cX5_addGuest 87 = .ok (.iadd, 1) := by decide +kernel
theorem dX5_addGuest_88 : decode cX5_addGuest 88 = .ok (.putfield 50, 3) := by decide +kernel
theorem dX5_addGuest_91 : decode cX5_addGuest 91 = .ok (.aload_n 0, 1) := by decide +kernel
theorem dX5_addGuest_92 : decode cX5_addGuest 92 = .ok (.dup, 1) := by decide +kernel
theorem dX5_addGuest_93 : decode cX5_addGuest 93 = .ok (.getfield 47, 3) := by decide +kernel
theorem dX5_addGuest_96 : decode cX5_addGuest 96 = .ok (.iconst 1, 1) := by decide +kernel
theorem dX5_addGuest_97 : decode cX5_addGuest 97 = .ok (.iadd, 1) := by decide +kernel
theorem dX5_addGuest_98 : decode cX5_addGuest 98 = .ok (.putfield 47, 3) := by decide +kernel
theorem dX5_addGuest_101 : decode cX5_addGuest 101 = .ok (.return_, 1) := by decide +kernel
theorem dX5_placeAt_0 : decode cX5_placeAt 0 = .ok (.iload_n 1, 1) := by decide +kernel
theorem dX5_placeAt_1 : decode cX5_placeAt 1 = .ok (.ifCond .lt 25, 3) := by decide +kernel
theorem dX5_placeAt_4 : decode cX5_placeAt 4 = .ok (.iload_n 1, 1) := by decide +kernel
theorem dX5_placeAt_5 : decode cX5_placeAt 5 = .ok (.aload_n 0, 1) := by decide +kernel
theorem dX5_placeAt_6 : decode cX5_placeAt 6 = .ok (.getfield 47, 3) := by decide +kernel
theorem dX5_placeAt_9 : decode cX5_placeAt 9 = .ok (.if_icmp .ge 17, 3) := by decide +kernel
theorem dX5_placeAt_12 : decode cX5_placeAt 12 = .ok (.iload_n 2, 1) := by decide +kernel
theorem dX5_placeAt_13 : decode cX5_placeAt 13 = .ok (.ifCond .lt 13, 3) := by decide +kernel
theorem dX5_placeAt_16 : decode cX5_placeAt 16 = .ok (.iload_n 2, 1) := by decide +kernel
theorem dX5_placeAt_17 : decode cX5_placeAt 17 = .ok (.aload_n 0, 1) := by decide +kernel
theorem dX5_placeAt_18 : decode cX5_placeAt 18 = .ok (.getfield 9, 3) := by decide +kernel
theorem dX5_placeAt_21 : decode cX5_placeAt 21 = .ok (.iload_n 1, 1) := by decide +kernel
theorem dX5_placeAt_22 : decode cX5_placeAt 22 = .ok (.iaload, 1) := by decide +kernel
theorem dX5_placeAt_23 : decode cX5_placeAt 23 = .ok (.if_icmp .lt 5, 3) := by decide +kernel
theorem dX5_placeAt_26 : decode cX5_placeAt 26 = .ok (.iconst (-1), 1) := by decide +kernel
theorem dX5_placeAt_27 : decode cX5_placeAt 27 = .ok (.ireturn, 1) := by decide +kernel
theorem dX5_placeAt_28 : decode cX5_placeAt 28 = .ok (.aload_n 0, 1) := by decide +kernel
theorem dX5_placeAt_29 : decode cX5_placeAt 29 = .ok (.getfield 18, 3) := by decide +kernel
theorem dX5_placeAt_32 : decode cX5_placeAt 32 = .ok (.iload_n 1, 1) := by decide +kernel
theorem dX5_placeAt_33 : decode cX5_placeAt 33 = .ok (.iaload, 1) := by decide +kernel
theorem dX5_placeAt_34 : decode cX5_placeAt 34 = .ok (.iload_n 2, 1) := by decide +kernel
theorem dX5_placeAt_35 : decode cX5_placeAt 35 = .ok (.iadd, 1) := by decide +kernel
theorem dX5_placeAt_36 : decode cX5_placeAt 36 = .ok (.ireturn, 1) := by decide +kernel
theorem dX5_labelOf_0 : decode cX5_labelOf 0 = .ok (.iload_n 1, 1) := by decide +kernel
theorem dX5_labelOf_1 : decode cX5_labelOf 1 = .ok (.ifCond .lt 11, 3) := by decide +kernel
theorem dX5_labelOf_4 : decode cX5_labelOf 4 = .ok (.iload_n 1, 1) := by decide +kernel
theorem dX5_labelOf_5 : decode cX5_labelOf 5 = .ok (.aload_n 0, 1) := by decide +kernel
theorem dX5_labelOf_6 : decode cX5_labelOf 6 = .ok (.getfield 50, 3) := by decide +kernel
theorem dX5_labelOf_9 : decode cX5_labelOf 9 = .ok (.if_icmp .lt 5, 3) := by decide +kernel
theorem dX5_labelOf_12 : decode cX5_labelOf 12 = .ok (.iconst (-1), 1) := by decide +kernel
theorem dX5_labelOf_13 : decode cX5_labelOf 13 = .ok (.ireturn, 1) := by decide +kernel
theorem dX5_labelOf_14 : decode cX5_labelOf 14 = .ok (.aload_n 0, 1) := by decide +kernel
theorem dX5_labelOf_15 : decode cX5_labelOf 15 = .ok (.getfield 21, 3) := by decide +kernel
theorem dX5_labelOf_18 : decode cX5_labelOf 18 = .ok (.iload_n 1, 1) := by decide +kernel
theorem dX5_labelOf_19 : decode cX5_labelOf 19 = .ok (.iaload, 1) := by decide +kernel
theorem dX5_labelOf_20 : decode cX5_labelOf 20 = .ok (.istore_n 2, 1) := by decide +kernel
theorem dX5_labelOf_21 : decode cX5_labelOf 21 = .ok (.bipush 12, 2) := by decide +kernel
theorem dX5_labelOf_23 : decode cX5_labelOf 23 = .ok (.iload_n 2, 1) := by decide +kernel
theorem dX5_labelOf_24 : decode cX5_labelOf 24 = .ok (.imul, 1) := by decide +kernel
theorem dX5_labelOf_25 : decode cX5_labelOf 25 = .ok (.iload_n 1, 1) := by decide +kernel
theorem dX5_labelOf_26 : decode cX5_labelOf 26 = .ok (.iadd, 1) := by decide +kernel
theorem dX5_labelOf_27 : decode cX5_labelOf 27 = .ok (.aload_n 0, 1) := by decide +kernel
theorem dX5_labelOf_28 : decode cX5_labelOf 28 = .ok (.getfield 18, 3) := by decide +kernel
theorem dX5_labelOf_31 : decode cX5_labelOf 31 = .ok (.iload_n 2, 1) := by decide +kernel
theorem dX5_labelOf_32 : decode cX5_labelOf 32 = .ok (.iaload, 1) := by decide +kernel
theorem dX5_labelOf_33 : decode cX5_labelOf 33 = .ok (.isub, 1) := by decide +kernel
theorem dX5_labelOf_34 : decode cX5_labelOf 34 = .ok (.ireturn, 1) := by decide +kernel
theorem dX5_realmOf_0 : decode cX5_realmOf 0 = .ok (.iload_n 1, 1) := by decide +kernel
theorem dX5_realmOf_1 : decode cX5_realmOf 1 = .ok (.ifCond .lt 25, 3) := by decide +kernel
theorem dX5_realmOf_4 : decode cX5_realmOf 4 = .ok (.iload_n 1, 1) := by decide +kernel
theorem dX5_realmOf_5 : decode cX5_realmOf 5 = .ok (.aload_n 0, 1) := by decide +kernel
theorem dX5_realmOf_6 : decode cX5_realmOf 6 = .ok (.getfield 50, 3) := by decide +kernel
theorem dX5_realmOf_9 : decode cX5_realmOf 9 = .ok (.if_icmp .ge 17, 3) := by decide +kernel
theorem dX5_realmOf_12 : decode cX5_realmOf 12 = .ok (.aload_n 0, 1) := by decide +kernel
theorem dX5_realmOf_13 : decode cX5_realmOf 13 = .ok (.getfield 15, 3) := by decide +kernel
theorem dX5_realmOf_16 : decode cX5_realmOf 16 = .ok (.aload_n 0, 1) := by decide +kernel
theorem dX5_realmOf_17 : decode cX5_realmOf 17 = .ok (.getfield 21, 3) := by decide +kernel
theorem dX5_realmOf_20 : decode cX5_realmOf 20 = .ok (.iload_n 1, 1) := by decide +kernel
theorem dX5_realmOf_21 : decode cX5_realmOf 21 = .ok (.iaload, 1) := by decide +kernel
theorem dX5_realmOf_22 : decode cX5_realmOf 22 = .ok (.iaload, 1) := by decide +kernel
theorem dX5_realmOf_23 : decode cX5_realmOf 23 = .ok (.goto 4, 3) := by decide +kernel
theorem dX5_realmOf_26 : decode cX5_realmOf 26 = .ok (.iconst 0, 1) := by decide +kernel
theorem dX5_realmOf_27 : decode cX5_realmOf 27 = .ok (.ireturn, 1) := by decide +kernel
theorem dX6_init_0 : decode cX6_init 0 = .ok (.aload_n 0, 1) := by decide +kernel
theorem dX6_init_1 : decode cX6_init 1 = .ok (.invokespecial 3, 3) := by decide +kernel
theorem dX6_init_4 : decode cX6_init 4 = .ok (.aload_n 0, 1) := by decide +kernel
theorem dX6_init_5 : decode cX6_init 5 = .ok (.bipush 48, 2) := by decide +kernel
theorem dX6_init_7 : decode cX6_init 7 = .ok (.newarray .int, 2) := by decide +kernel
theorem dX6_init_9 : decode cX6_init 9 = .ok (.putfield 9, 3) := by decide +kernel
theorem dX6_init_12 : decode cX6_init 12 = .ok (.aload_n 0, 1) := by decide +kernel
theorem dX6_init_13 : decode cX6_init 13 = .ok (.bipush 48, 2) := by decide +kernel
theorem dX6_init_15 : decode cX6_init 15 = .ok (.newarray .int, 2) := by decide +kernel
theorem dX6_init_17 : decode cX6_init 17 = .ok (.putfield 15, 3) := by decide +kernel
theorem dX6_init_20 : decode cX6_init 20 = .ok (.aload_n 0, 1) := by decide +kernel
theorem dX6_init_21 : decode cX6_init 21 = .ok (.bipush 48, 2) := by decide +kernel
theorem dX6_init_23 : decode cX6_init 23 = .ok (.newarray .int, 2) := by decide +kernel
theorem dX6_init_25 : decode cX6_init 25 = .ok (.putfield 18, 3) := by decide +kernel
theorem dX6_init_28 : decode cX6_init 28 = .ok (.aload_n 0, 1) := by decide +kernel
theorem dX6_init_29 : decode cX6_init 29 = .ok (.invokevirtual 21, 3) := by decide +kernel
theorem dX6_init_32 : decode cX6_init 32 = .ok (.return_, 1) := by decide +kernel
theorem dX6_clear_0 : decode cX6_clear 0 = .ok (.aload_n 0, 1) := by decide +kernel
theorem dX6_clear_1 : decode cX6_clear 1 = .ok (.getfield 9, 3) := by decide +kernel
theorem dX6_clear_4 : decode cX6_clear 4 = .ok (.iconst (-1), 1) := by decide +kernel
theorem dX6_clear_5 : decode cX6_clear 5 = .ok (.invokestatic 24, 3) := by decide +kernel
theorem dX6_clear_8 : decode cX6_clear 8 = .ok (.aload_n 0, 1) := by decide +kernel
theorem dX6_clear_9 : decode cX6_clear 9 = .ok (.getfield 15, 3) := by decide +kernel
theorem dX6_clear_12 : decode cX6_clear 12 = .ok (.iconst (-1), 1) := by decide +kernel
theorem dX6_clear_13 : decode cX6_clear 13 = .ok (.invokestatic 24, 3) := by decide +kernel
theorem dX6_clear_16 : decode cX6_clear 16 = .ok (.aload_n 0, 1) := by decide +kernel
theorem dX6_clear_17 : decode cX6_clear 17 = .ok (.getfield 18, 3) := by decide +kernel
theorem dX6_clear_20 : decode cX6_clear 20 = .ok (.iconst (-1), 1) := by decide +kernel
theorem dX6_clear_21 : decode cX6_clear 21 = .ok (.invokestatic 24, 3) := by decide +kernel
theorem dX6_clear_24 : decode cX6_clear 24 = .ok (.return_, 1) := by decide +kernel
theorem dX6_become_0 : decode cX6_become 0 = .ok (.aload_n 1, 1) := by decide +kernel
theorem dX6_become_1 : decode cX6_become 1 = .ok (.getfield 9, 3) := by decide +kernel
theorem dX6_become_4 : decode cX6_become 4 = .ok (.iconst 0, 1) := by decide +kernel
theorem dX6_become_5 : decode cX6_become 5 = .ok (.aload_n 0, 1) := by decide +kernel
theorem dX6_become_6 : decode cX6_become 6 = .ok (.getfield 9, 3) := by decide +kernel
theorem dX6_become_9 : decode cX6_become 9 = .ok (.iconst 0, 1) := by decide +kernel
theorem dX6_become_10 : decode cX6_become 10 = .ok (.bipush 48, 2) := by decide +kernel
theorem dX6_become_12 : decode cX6_become 12 = .ok (.invokestatic 30, 3) := by decide +kernel
theorem dX6_become_15 : decode cX6_become 15 = .ok (.aload_n 1, 1) := by decide +kernel
theorem dX6_become_16 : decode cX6_become 16 = .ok (.getfield 15, 3) := by decide +kernel
theorem dX6_become_19 : decode cX6_become 19 = .ok (.iconst 0, 1) := by decide +kernel
theorem dX6_become_20 : decode cX6_become 20 = .ok (.aload_n 0, 1) := by decide +kernel
theorem dX6_become_21 : decode cX6_become 21 = .ok (.getfield 15, 3) := by decide +kernel
theorem dX6_become_24 : decode cX6_become 24 = .ok (.iconst 0, 1) := by decide +kernel
theorem dX6_become_25 : decode cX6_become 25 = .ok (.bipush 48, 2) := by decide +kernel
theorem dX6_become_27 : decode cX6_become 27 = .ok (.invokestatic 30, 3) := by decide +kernel
theorem dX6_become_30 : decode cX6_become 30 = .ok (.aload_n 1, 1) := by decide +kernel
theorem dX6_become_31 : decode cX6_become 31 = .ok (.getfield 18, 3) := by decide +kernel
theorem dX6_become_34 : decode cX6_become 34 = .ok (.iconst 0, 1) := by decide +kernel
theorem dX6_become_35 : decode cX6_become 35 = .ok (.aload_n 0, 1) := by decide +kernel
theorem dX6_become_36 : decode cX6_become 36 = .ok (.getfield 18, 3) := by decide +kernel
theorem dX6_become_39 : decode cX6_become 39 = .ok (.iconst 0, 1) := by decide +kernel
theorem dX6_become_40 : decode cX6_become 40 = .ok (.bipush 48, 2) := by decide +kernel
theorem dX6_become_42 : decode cX6_become 42 = .ok (.invokestatic 30, 3) := by decide +kernel
theorem dX6_become_45 : decode cX6_become 45 = .ok (.return_, 1) := by decide +kernel
theorem dX6_add_0 : decode cX6_add 0 = .ok (.iload_n 1, 1) := by decide +kernel
theorem dX6_add_1 : decode cX6_add 1 = .ok (.ifCond .lt 19, 3) := by decide +kernel
theorem dX6_add_4 : decode cX6_add 4 = .ok (.iload_n 1, 1) := by decide +kernel
theorem dX6_add_5 : decode cX6_add 5 = .ok (.bipush 48, 2) := by decide +kernel
theorem dX6_add_7 : decode cX6_add 7 = .ok (.if_icmp .ge 13, 3) := by decide +kernel
theorem dX6_add_10 : decode cX6_add 10 = .ok (.iload_n 2, 1) := by decide +kernel
theorem dX6_add_11 : decode cX6_add 11 = .ok (.ifCond .lt 9, 3) := by decide +kernel
theorem dX6_add_14 : decode cX6_add 14 = .ok (.iload_n 2, 1) := by decide +kernel
theorem dX6_add_15 : decode cX6_add 15 = .ok (.bipush 48, 2) := by decide +kernel
theorem dX6_add_17 : decode cX6_add 17 = .ok (.if_icmp .lt 4, 3) := by decide +kernel
theorem dX6_add_20 : decode cX6_add 20 = .ok (.return_, 1) := by decide +kernel
theorem dX6_add_21 : decode cX6_add 21 = .ok (.iconst (-1), 1) := by decide +kernel
theorem dX6_add_22 : decode cX6_add 22 = .ok (.istore_n 3, 1) := by decide +kernel
theorem dX6_add_23 : decode cX6_add 23 = .ok (.aload_n 0, 1) := by decide +kernel
theorem dX6_add_24 : decode cX6_add 24 = .ok (.getfield 18, 3) := by decide +kernel
theorem dX6_add_27 : decode cX6_add 27 = .ok (.iload_n 1, 1) := by decide +kernel
theorem dX6_add_28 : decode cX6_add 28 = .ok (.iaload, 1) := by decide +kernel
theorem dX6_add_29 : decode cX6_add 29 = .ok (.istore 4, 2) := by decide +kernel
theorem dX6_add_31 : decode cX6_add 31 = .ok (.iconst 0, 1) := by decide +kernel
theorem dX6_add_32 : decode cX6_add 32 = .ok (.istore 5, 2) := by decide +kernel
theorem dX6_add_34 : decode cX6_add 34 = .ok (.iload 5, 2) := by decide +kernel
theorem dX6_add_36 : decode cX6_add 36 = .ok (.bipush 48, 2) := by decide +kernel
theorem dX6_add_38 : decode cX6_add 38 = .ok (.if_icmp .ge 27, 3) := by decide +kernel
theorem dX6_add_41 : decode cX6_add 41 = .ok (.iload 4, 2) := by decide +kernel
theorem dX6_add_43 : decode cX6_add 43 = .ok (.iconst (-1), 1) := by decide +kernel
theorem dX6_add_44 : decode cX6_add 44 = .ok (.if_icmp .eq 21, 3) := by decide +kernel
theorem dX6_add_47 : decode cX6_add 47 = .ok (.iload 4, 2) := by decide +kernel
theorem dX6_add_49 : decode cX6_add 49 = .ok (.istore_n 3, 1) := by decide +kernel
theorem dX6_add_50 : decode cX6_add 50 = .ok (.aload_n 0, 1) := by decide +kernel
theorem dX6_add_51 : decode cX6_add 51 = .ok (.getfield 15, 3) := by decide +kernel
theorem dX6_add_54 : decode cX6_add 54 = .ok (.iload 4, 2) := by decide +kernel
theorem dX6_add_56 : decode cX6_add 56 = .ok (.iaload, 1) := by decide +kernel
theorem dX6_add_57 : decode cX6_add 57 = .ok (.istore 4, 2) := by decide +kernel
theorem dX6_add_59 : decode cX6_add 59 = .ok (.iinc 5 1, 3) := by decide +kernel
theorem dX6_add_62 : decode cX6_add 62 = .ok (.goto (-28), 3) := by decide +kernel
theorem dX6_add_65 : decode cX6_add 65 = .ok (.iload_n 3, 1) := by decide +kernel
theorem dX6_add_66 : decode cX6_add 66 = .ok (.iconst (-1), 1) := by decide +kernel
theorem dX6_add_67 : decode cX6_add 67 = .ok (.if_icmp .ne 13, 3) := by decide +kernel
theorem dX6_add_70 : decode cX6_add 70 = .ok (.aload_n 0, 1) := by decide +kernel
theorem dX6_add_71 : decode cX6_add 71 = .ok (.getfield 18, 3) := by decide +kernel
theorem dX6_add_74 : decode cX6_add 74 = .ok (.iload_n 1, 1) := by decide +kernel
theorem dX6_add_75 : decode cX6_add 75 = .ok (.iload_n 2, 1) := by decide +kernel
theorem dX6_add_76 : decode cX6_add 76 = .ok (.iastore, 1) := by decide +kernel
theorem dX6_add_77 : decode cX6_add 77 = .ok (.goto 10, 3) := by decide +kernel
theorem dX6_add_80 : decode cX6_add 80 = .ok (.aload_n 0, 1) := by decide +kernel
theorem dX6_add_81 : decode cX6_add 81 = .ok (.getfield 15, 3) := by decide +kernel
theorem dX6_add_84 : decode cX6_add 84 = .ok (.iload_n 3, 1) := by decide +kernel
theorem dX6_add_85 : decode cX6_add 85 = .ok (.iload_n 2, 1) := by decide +kernel
theorem dX6_add_86 : decode cX6_add 86 = .ok (.iastore, 1) := by decide +kernel
theorem dX6_add_87 : decode cX6_add 87 = .ok (.aload_n 0, 1) := by decide +kernel
theorem dX6_add_88 : decode cX6_add 88 = .ok (.getfield 15, 3) := by decide +kernel
theorem dX6_add_91 : decode cX6_add 91 = .ok (.iload_n 2, 1) := by decide +kernel
theorem dX6_add_92 : decode cX6_add 92 = .ok (.iconst (-1), 1) := by decide +kernel
theorem dX6_add_93 : decode cX6_add 93 = .ok (.iastore, 1) := by decide +kernel
theorem dX6_add_94 : decode cX6_add 94 = .ok (.aload_n 0, 1) := by decide +kernel
theorem dX6_add_95 : decode cX6_add 95 = .ok (.getfield 9, 3) := by decide +kernel
theorem dX6_add_98 : decode cX6_add 98 = .ok (.iload_n 2, 1) := by decide +kernel
theorem dX6_add_99 : decode cX6_add 99 = .ok (.iload_n 1, 1) := by decide +kernel
theorem dX6_add_100 : decode cX6_add 100 = .ok (.iastore, 1) := by decide +kernel
theorem dX6_add_101 : decode cX6_add 101 = .ok (.return_, 1) := by decide +kernel
theorem dX6_remove_0 : decode cX6_remove 0 = .ok (.iload_n 1, 1) := by decide +kernel
theorem dX6_remove_1 : decode cX6_remove 1 = .ok (.ifCond .lt 19, 3) := by decide +kernel
theorem dX6_remove_4 : decode cX6_remove 4 = .ok (.iload_n 1, 1) := by decide +kernel
theorem dX6_remove_5 : decode cX6_remove 5 = .ok (.bipush 48, 2) := by decide +kernel
theorem dX6_remove_7 : decode cX6_remove 7 = .ok (.if_icmp .ge 13, 3) := by decide +kernel
theorem dX6_remove_10 : decode cX6_remove 10 = .ok (.aload_n 0, 1) := by decide +kernel
theorem dX6_remove_11 : decode cX6_remove 11 = .ok (.getfield 9, 3) := by decide +kernel
theorem dX6_remove_14 : decode cX6_remove 14 = .ok (.iload_n 1, 1) := by decide +kernel
theorem dX6_remove_15 : decode cX6_remove 15 = .ok (.iaload, 1) := by decide +kernel
theorem dX6_remove_16 : decode cX6_remove 16 = .ok (.iconst (-1), 1) := by decide +kernel
theorem dX6_remove_17 : decode cX6_remove 17 = .ok (.if_icmp .ne 4, 3) := by decide +kernel
theorem dX6_remove_20 : decode cX6_remove 20 = .ok (.return_, 1) := by decide +kernel
theorem dX6_remove_21 : decode cX6_remove 21 = .ok (.aload_n 0, 1) := by decide +kernel
theorem dX6_remove_22 : decode cX6_remove 22 = .ok (.getfield 9, 3) := by decide +kernel
theorem dX6_remove_25 : decode cX6_remove 25 = .ok (.iload_n 1, 1) := by decide +kernel
theorem dX6_remove_26 : decode cX6_remove 26 = .ok (.iaload, 1) := by decide +kernel
theorem dX6_remove_27 : decode cX6_remove 27 = .ok (.istore_n 2, 1) := by decide +kernel
theorem dX6_remove_28 : decode cX6_remove 28 = .ok (.iconst (-1), 1) := by decide +kernel
theorem dX6_remove_29 : decode cX6_remove 29 = .ok (.istore_n 3, 1) := by decide +kernel
theorem dX6_remove_30 : decode cX6_remove 30 = .ok (.aload_n 0, 1) := by decide +kernel
theorem dX6_remove_31 : decode cX6_remove 31 = .ok (.getfield 18, 3) := by decide +kernel
theorem dX6_remove_34 : decode cX6_remove 34 = .ok (.iload_n 2, 1) := by decide +kernel
theorem dX6_remove_35 : decode cX6_remove 35 = .ok (.iaload, 1) := by decide +kernel
theorem dX6_remove_36 : decode cX6_remove 36 = .ok (.istore 4, 2) := by decide +kernel
theorem dX6_remove_38 : decode cX6_remove 38 = .ok (.iconst 0, 1) := by decide +kernel
theorem dX6_remove_39 : decode cX6_remove 39 = .ok (.istore 5, 2) := by decide +kernel
theorem dX6_remove_41 : decode cX6_remove 41 = .ok (.iload 5, 2) := by decide +kernel
theorem dX6_remove_43 : decode cX6_remove 43 = .ok (.bipush 48, 2) := by decide +kernel
theorem dX6_remove_45 : decode cX6_remove 45 = .ok (.if_icmp .ge 33, 3) := by decide +kernel
theorem dX6_remove_48 : decode cX6_remove 48 = .ok (.iload 4, 2) := by decide +kernel
theorem dX6_remove_50 : decode cX6_remove 50 = .ok (.iload_n 1, 1) := by decide +kernel
theorem dX6_remove_51 : decode cX6_remove 51 = .ok (.if_icmp .eq 27, 3) := by decide +kernel
theorem dX6_remove_54 : decode cX6_remove 54 = .ok (.iload 4, 2) := by decide +kernel
theorem dX6_remove_56 : decode cX6_remove 56 = .ok (.iconst (-1), 1) := by decide +kernel
theorem dX6_remove_57 : decode cX6_remove 57 = .ok (.if_icmp .eq 21, 3) := by decide +kernel
theorem dX6_remove_60 : decode cX6_remove 60 = .ok (.iload 4, 2) := by decide +kernel
theorem dX6_remove_62 : decode cX6_remove 62 = .ok (.istore_n 3, 1) := by decide +kernel
theorem dX6_remove_63 : decode cX6_remove 63 = .ok (.aload_n 0, 1) := by decide +kernel
theorem dX6_remove_64 : decode cX6_remove 64 = .ok (.getfield 15, 3) := by decide +kernel
theorem dX6_remove_67 : decode cX6_remove 67 = .ok (.iload 4, 2) := by decide +kernel
theorem dX6_remove_69 : decode cX6_remove 69 = .ok (.iaload, 1) := by decide +kernel
theorem dX6_remove_70 : decode cX6_remove 70 = .ok (.istore 4, 2) := by decide +kernel
theorem dX6_remove_72 : decode cX6_remove 72 = .ok (.iinc 5 1, 3) := by decide +kernel
theorem dX6_remove_75 : decode cX6_remove 75 = .ok (.goto (-34), 3) := by decide +kernel
theorem dX6_remove_78 : decode cX6_remove 78 = .ok (.iload_n 3, 1) := by decide +kernel
theorem dX6_remove_79 : decode cX6_remove 79 = .ok (.iconst (-1), 1) := by decide +kernel
theorem dX6_remove_80 : decode cX6_remove 80 = .ok (.if_icmp .ne 18, 3) := by decide +kernel
theorem dX6_remove_83 : decode cX6_remove 83 = .ok (.aload_n 0, 1) := by decide +kernel
theorem dX6_remove_84 : decode cX6_remove 84 = .ok (.getfield 18, 3) := by decide +kernel
theorem dX6_remove_87 : decode cX6_remove 87 = .ok (.iload_n 2, 1) := by decide +kernel
theorem dX6_remove_88 : decode cX6_remove 88 = .ok (.aload_n 0, 1) := by decide +kernel
theorem dX6_remove_89 : decode cX6_remove 89 = .ok (.getfield 15, 3) := by decide +kernel
theorem dX6_remove_92 : decode cX6_remove 92 = .ok (.iload_n 1, 1) := by decide +kernel
theorem dX6_remove_93 : decode cX6_remove 93 = .ok (.iaload, 1) := by decide +kernel
theorem dX6_remove_94 : decode cX6_remove 94 = .ok (.iastore, 1) := by decide +kernel
theorem dX6_remove_95 : decode cX6_remove 95 = .ok (.goto 15, 3) := by decide +kernel
theorem dX6_remove_98 : decode cX6_remove 98 = .ok (.aload_n 0, 1) := by decide +kernel
theorem dX6_remove_99 : decode cX6_remove 99 = .ok (.getfield 15, 3) := by decide +kernel
theorem dX6_remove_102 : decode cX6_remove 102 = .ok (.iload_n 3, 1) := by decide +kernel
theorem dX6_remove_103 : decode cX6_remove 103 = .ok (.aload_n 0, 1) := by decide +kernel
theorem dX6_remove_104 : decode cX6_remove 104 = .ok (.getfield 15, 3) := by decide +kernel
theorem dX6_remove_107 : decode cX6_remove 107 = .ok (.iload_n 1, 1) := by decide +kernel
theorem dX6_remove_108 : decode cX6_remove 108 = .ok (.iaload, 1) := by decide +kernel
theorem dX6_remove_109 : decode cX6_remove 109 = .ok (.iastore, 1) := by decide +kernel
theorem dX6_remove_110 : decode cX6_remove 110 = .ok (.aload_n 0, 1) := by decide +kernel
theorem dX6_remove_111 : decode cX6_remove 111 = .ok (.getfield 15, 3) := by decide +kernel
theorem dX6_remove_114 : decode cX6_remove 114 = .ok (.iload_n 1, 1) := by decide +kernel
theorem dX6_remove_115 : decode cX6_remove 115 = .ok (.iconst (-1), 1) := by decide +kernel
theorem dX6_remove_116 : decode cX6_remove 116 = .ok (.iastore, 1) := by decide +kernel
theorem dX6_remove_117 : decode cX6_remove 117 = .ok (.aload_n 0, 1) := by decide +kernel
theorem dX6_remove_118 : decode cX6_remove 118 = .ok (.getfield 9, 3) := by decide +kernel
theorem dX6_remove_121 : decode cX6_remove 121 = .ok (.iload_n 1, 1) := by decide +kernel
theorem dX6_remove_122 : decode cX6_remove 122 = .ok (.iconst (-1), 1) := by decide +kernel
theorem dX6_remove_123 : decode cX6_remove 123 = .ok (.iastore, 1) := by decide +kernel
theorem dX6_remove_124 : decode cX6_remove 124 = .ok (.return_, 1) := by decide +kernel
theorem dX6_sizeOf_0 : decode cX6_sizeOf 0 = .ok (.iload_n 1, 1) := by decide +kernel
theorem dX6_sizeOf_1 : decode cX6_sizeOf 1 = .ok (.ifCond .lt 9, 3) := by decide +kernel
theorem dX6_sizeOf_4 : decode cX6_sizeOf 4 = .ok (.iload_n 1, 1) := by decide +kernel
theorem dX6_sizeOf_5 : decode cX6_sizeOf 5 = .ok (.bipush 48, 2) := by decide +kernel
theorem dX6_sizeOf_7 : decode cX6_sizeOf 7 = .ok (.if_icmp .lt 5, 3) := by decide +kernel
theorem dX6_sizeOf_10 : decode cX6_sizeOf 10 = .ok (.iconst 0, 1) := by decide +kernel
theorem dX6_sizeOf_11 : decode cX6_sizeOf 11 = .ok (.ireturn, 1) := by decide +kernel
theorem dX6_sizeOf_12 : decode cX6_sizeOf 12 = .ok (.iconst 0, 1) := by decide +kernel
theorem dX6_sizeOf_13 : decode cX6_sizeOf 13 = .ok (.istore_n 2, 1) := by decide +kernel
theorem dX6_sizeOf_14 : decode cX6_sizeOf 14 = .ok (.aload_n 0, 1) := by decide +kernel
theorem dX6_sizeOf_15 : decode cX6_sizeOf 15 = .ok (.getfield 18, 3) := by decide +kernel
theorem dX6_sizeOf_18 : decode cX6_sizeOf 18 = .ok (.iload_n 1, 1) := by decide +kernel
theorem dX6_sizeOf_19 : decode cX6_sizeOf 19 = .ok (.iaload, 1) := by decide +kernel
theorem dX6_sizeOf_20 : decode cX6_sizeOf 20 = .ok (.istore_n 3, 1) := by decide +kernel
theorem dX6_sizeOf_21 : decode cX6_sizeOf 21 = .ok (.iload_n 2, 1) := by decide +kernel
theorem dX6_sizeOf_22 : decode cX6_sizeOf 22 = .ok (.bipush 48, 2) := by decide +kernel
theorem dX6_sizeOf_24 : decode cX6_sizeOf 24 = .ok (.if_icmp .ge 21, 3) := by decide +kernel
theorem dX6_sizeOf_27 : decode cX6_sizeOf 27 = .ok (.iload_n 3, 1) := by decide +kernel
theorem dX6_sizeOf_28 : decode cX6_sizeOf 28 = .ok (.iconst (-1), 1) := by decide +kernel
theorem dX6_sizeOf_29 : decode cX6_sizeOf 29 = .ok (.if_icmp .eq 16, 3) := by decide +kernel
theorem dX6_sizeOf_32 : decode cX6_sizeOf 32 = .ok (.iinc 2 1, 3) := by decide +kernel
theorem dX6_sizeOf_35 : decode cX6_sizeOf 35 = .ok (.aload_n 0, 1) := by decide +kernel
theorem dX6_sizeOf_36 : decode cX6_sizeOf 36 = .ok (.getfield 15, 3) := by decide +kernel
theorem dX6_sizeOf_39 : decode cX6_sizeOf 39 = .ok (.iload_n 3, 1) := by decide +kernel
theorem dX6_sizeOf_40 : decode cX6_sizeOf 40 = .ok (.iaload, 1) := by decide +kernel
theorem dX6_sizeOf_41 : decode cX6_sizeOf 41 = .ok (.istore_n 3, 1) := by decide +kernel
theorem dX6_sizeOf_42 : decode cX6_sizeOf 42 = .ok (.goto (-21), 3) := by decide +kernel
theorem dX6_sizeOf_45 : decode cX6_sizeOf 45 = .ok (.iload_n 2, 1) := by decide +kernel
theorem dX6_sizeOf_46 : decode cX6_sizeOf 46 = .ok (.ireturn, 1) := by decide +kernel
theorem dX6_nth_0 : decode cX6_nth 0 = .ok (.iload_n 1, 1) := by decide +kernel
theorem dX6_nth_1 : decode cX6_nth 1 = .ok (.ifCond .lt 19, 3) := by decide +kernel
theorem dX6_nth_4 : decode cX6_nth 4 = .ok (.iload_n 1, 1) := by decide +kernel
theorem dX6_nth_5 : decode cX6_nth 5 = .ok (.bipush 48, 2) := by decide +kernel
theorem dX6_nth_7 : decode cX6_nth 7 = .ok (.if_icmp .ge 13, 3) := by decide +kernel
theorem dX6_nth_10 : decode cX6_nth 10 = .ok (.iload_n 2, 1) := by decide +kernel
theorem dX6_nth_11 : decode cX6_nth 11 = .ok (.ifCond .lt 9, 3) := by decide +kernel
theorem dX6_nth_14 : decode cX6_nth 14 = .ok (.iload_n 2, 1) := by decide +kernel
theorem dX6_nth_15 : decode cX6_nth 15 = .ok (.bipush 48, 2) := by decide +kernel
theorem dX6_nth_17 : decode cX6_nth 17 = .ok (.if_icmp .lt 5, 3) := by decide +kernel
theorem dX6_nth_20 : decode cX6_nth 20 = .ok (.iconst (-1), 1) := by decide +kernel
theorem dX6_nth_21 : decode cX6_nth 21 = .ok (.ireturn, 1) := by decide +kernel
theorem dX6_nth_22 : decode cX6_nth 22 = .ok (.aload_n 0, 1) := by decide +kernel
theorem dX6_nth_23 : decode cX6_nth 23 = .ok (.getfield 18, 3) := by decide +kernel
theorem dX6_nth_26 : decode cX6_nth 26 = .ok (.iload_n 1, 1) := by decide +kernel
theorem dX6_nth_27 : decode cX6_nth 27 = .ok (.iaload, 1) := by decide +kernel
theorem dX6_nth_28 : decode cX6_nth 28 = .ok (.istore_n 3, 1) := by decide +kernel
theorem dX6_nth_29 : decode cX6_nth 29 = .ok (.iconst 0, 1) := by decide +kernel
theorem dX6_nth_30 : decode cX6_nth 30 = .ok (.istore 4, 2) := by decide +kernel
theorem dX6_nth_32 : decode cX6_nth 32 = .ok (.iload 4, 2) := by decide +kernel
theorem dX6_nth_34 : decode cX6_nth 34 = .ok (.iload_n 2, 1) := by decide +kernel
theorem dX6_nth_35 : decode cX6_nth 35 = .ok (.if_icmp .ge 21, 3) := by decide +kernel
theorem dX6_nth_38 : decode cX6_nth 38 = .ok (.iload_n 3, 1) := by decide +kernel
theorem dX6_nth_39 : decode cX6_nth 39 = .ok (.iconst (-1), 1) := by decide +kernel
theorem dX6_nth_40 : decode cX6_nth 40 = .ok (.if_icmp .eq 16, 3) := by decide +kernel
theorem dX6_nth_43 : decode cX6_nth 43 = .ok (.aload_n 0, 1) := by decide +kernel
theorem dX6_nth_44 : decode cX6_nth 44 = .ok (.getfield 15, 3) := by decide +kernel
theorem dX6_nth_47 : decode cX6_nth 47 = .ok (.iload_n 3, 1) := by decide +kernel
theorem dX6_nth_48 : decode cX6_nth 48 = .ok (.iaload, 1) := by decide +kernel
theorem dX6_nth_49 : decode cX6_nth 49 = .ok (.istore_n 3, 1) := by decide +kernel
theorem dX6_nth_50 : decode cX6_nth 50 = .ok (.iinc 4 1, 3) := by decide +kernel
theorem dX6_nth_53 : decode cX6_nth 53 = .ok (.goto (-21), 3) := by decide +kernel
theorem dX6_nth_56 : decode cX6_nth 56 = .ok (.iload_n 3, 1) := by decide +kernel
theorem dX6_nth_57 : decode cX6_nth 57 = .ok (.ireturn, 1) := by decide +kernel
theorem dX7_init_0 : decode cX7_init 0 = .ok (.aload_n 0, 1) := by decide +kernel
theorem dX7_init_1 : decode cX7_init 1 = .ok (.invokespecial 3, 3) := by decide +kernel
theorem dX7_init_4 : decode cX7_init 4 = .ok (.aload_n 0, 1) := by decide +kernel
theorem dX7_init_5 : decode cX7_init 5 = .ok (.new 9, 3) := by decide +kernel
theorem dX7_init_8 : decode cX7_init 8 = .ok (.dup, 1) := by decide +kernel
theorem dX7_init_9 : decode cX7_init 9 = .ok (.invokespecial 11, 3) := by decide +kernel
theorem dX7_init_12 : decode cX7_init 12 = .ok (.putfield 12, 3) := by decide +kernel
theorem dX7_init_15 : decode cX7_init 15 = .ok (.aload_n 0, 1) := by decide +kernel
theorem dX7_init_16 : decode cX7_init 16 = .ok (.new 9, 3) := by decide +kernel
theorem dX7_init_19 : decode cX7_init 19 = .ok (.dup, 1) := by decide +kernel
theorem dX7_init_20 : decode cX7_init 20 = .ok (.invokespecial 11, 3) := by decide +kernel
theorem dX7_init_23 : decode cX7_init 23 = .ok (.putfield 18, 3) := by decide +kernel
theorem dX7_init_26 : decode cX7_init 26 = .ok (.aload_n 0, 1) := by decide +kernel
theorem dX7_init_27 : decode cX7_init 27 = .ok (.new 21, 3) := by decide +kernel
theorem dX7_init_30 : decode cX7_init 30 = .ok (.dup, 1) := by decide +kernel
theorem dX7_init_31 : decode cX7_init 31 = .ok (.invokespecial 23, 3) := by decide +kernel
theorem dX7_init_34 : decode cX7_init 34 = .ok (.putfield 24, 3) := by decide +kernel
theorem dX7_init_37 : decode cX7_init 37 = .ok (.aload_n 0, 1) := by decide +kernel
theorem dX7_init_38 : decode cX7_init 38 = .ok (.new 21, 3) := by decide +kernel
theorem dX7_init_41 : decode cX7_init 41 = .ok (.dup, 1) := by decide +kernel
theorem dX7_init_42 : decode cX7_init 42 = .ok (.invokespecial 23, 3) := by decide +kernel
theorem dX7_init_45 : decode cX7_init 45 = .ok (.putfield 28, 3) := by decide +kernel
theorem dX7_init_48 : decode cX7_init 48 = .ok (.aload_n 0, 1) := by decide +kernel
theorem dX7_init_49 : decode cX7_init 49 = .ok (.bipush 48, 2) := by decide +kernel
theorem dX7_init_51 : decode cX7_init 51 = .ok (.newarray .int, 2) := by decide +kernel
theorem dX7_init_53 : decode cX7_init 53 = .ok (.putfield 31, 3) := by decide +kernel
theorem dX7_init_56 : decode cX7_init 56 = .ok (.aload_n 0, 1) := by decide +kernel
theorem dX7_init_57 : decode cX7_init 57 = .ok (.bipush 48, 2) := by decide +kernel
theorem dX7_init_59 : decode cX7_init 59 = .ok (.newarray .int, 2) := by decide +kernel
theorem dX7_init_61 : decode cX7_init 61 = .ok (.putfield 35, 3) := by decide +kernel
theorem dX7_init_64 : decode cX7_init 64 = .ok (.aload_n 0, 1) := by decide +kernel
theorem dX7_init_65 : decode cX7_init 65 = .ok (.bipush 48, 2) := by decide +kernel
theorem dX7_init_67 : decode cX7_init 67 = .ok (.newarray .int, 2) := by decide +kernel
theorem dX7_init_69 : decode cX7_init 69 = .ok (.putfield 38, 3) := by decide +kernel
theorem dX7_init_72 : decode cX7_init 72 = .ok (.aload_n 0, 1) := by decide +kernel
theorem dX7_init_73 : decode cX7_init 73 = .ok (.bipush 48, 2) := by decide +kernel
theorem dX7_init_75 : decode cX7_init 75 = .ok (.newarray .int, 2) := by decide +kernel
theorem dX7_init_77 : decode cX7_init 77 = .ok (.putfield 41, 3) := by decide +kernel
theorem dX7_init_80 : decode cX7_init 80 = .ok (.aload_n 0, 1) := by decide +kernel
theorem dX7_init_81 : decode cX7_init 81 = .ok (.bipush 48, 2) := by decide +kernel
theorem dX7_init_83 : decode cX7_init 83 = .ok (.newarray .int, 2) := by decide +kernel
theorem dX7_init_85 : decode cX7_init 85 = .ok (.putfield 44, 3) := by decide +kernel
theorem dX7_init_88 : decode cX7_init 88 = .ok (.aload_n 0, 1) := by decide +kernel
theorem dX7_init_89 : decode cX7_init 89 = .ok (.bipush 48, 2) := by decide +kernel
theorem dX7_init_91 : decode cX7_init 91 = .ok (.newarray .int, 2) := by decide +kernel
theorem dX7_init_93 : decode cX7_init 93 = .ok (.putfield 47, 3) := by decide +kernel
theorem dX7_init_96 : decode cX7_init 96 = .ok (.aload_n 0, 1) := by decide +kernel
theorem dX7_init_97 : decode cX7_init 97 = .ok (.bipush 12, 2) := by decide +kernel
theorem dX7_init_99 : decode cX7_init 99 = .ok (.newarray .int, 2) := by decide +kernel
theorem dX7_init_101 : decode cX7_init 101 = .ok (.putfield 50, 3) := by decide +kernel
theorem dX7_init_104 : decode cX7_init 104 = .ok (.aload_n 0, 1) := by decide +kernel
theorem dX7_init_105 : decode cX7_init 105 = .ok (.aload_n 1, 1) := by decide +kernel
theorem dX7_init_106 : decode cX7_init 106 = .ok (.putfield 53, 3) := by decide +kernel
theorem dX7_init_109 : decode cX7_init 109 = .ok (.aload_n 0, 1) := by decide +kernel
theorem dX7_init_110 : decode cX7_init 110 = .ok (.invokevirtual 57, 3) := by decide +kernel
theorem dX7_init_113 : decode cX7_init 113 = .ok (.return_, 1) := by decide +kernel
theorem dX7_clear_0 : decode cX7_clear 0 = .ok (.aload_n 0, 1) := by decide +kernel
theorem dX7_clear_1 : decode cX7_clear 1 = .ok (.getfield 12, 3) := by decide +kernel
theorem dX7_clear_4 : decode cX7_clear 4 = .ok (.invokevirtual 60, 3) := by decide +kernel
theorem dX7_clear_7 : decode cX7_clear 7 = .ok (.aload_n 0, 1) := by decide +kernel
theorem dX7_clear_8 : decode cX7_clear 8 = .ok (.getfield 18, 3) := by decide +kernel
theorem dX7_clear_11 : decode cX7_clear 11 = .ok (.invokevirtual 60, 3) := by decide +kernel
theorem dX7_clear_14 : decode cX7_clear 14 = .ok (.aload_n 0, 1) := by decide +kernel
theorem dX7_clear_15 : decode cX7_clear 15 = .ok (.getfield 24, 3) := by decide +kernel
theorem dX7_clear_18 : decode cX7_clear 18 = .ok (.invokevirtual 61, 3) := by decide +kernel
theorem dX7_clear_21 : decode cX7_clear 21 = .ok (.aload_n 0, 1) := by decide +kernel
theorem dX7_clear_22 : decode cX7_clear 22 = .ok (.getfield 28, 3) := by decide +kernel
theorem dX7_clear_25 : decode cX7_clear 25 = .ok (.invokevirtual 61, 3) := by decide +kernel
theorem dX7_clear_28 : decode cX7_clear 28 = .ok (.aload_n 0, 1) := by decide +kernel
theorem dX7_clear_29 : decode cX7_clear 29 = .ok (.getfield 31, 3) := by decide +kernel
theorem dX7_clear_32 : decode cX7_clear 32 = .ok (.iconst 0, 1) := by decide +kernel
theorem dX7_clear_33 : decode cX7_clear 33 = .ok (.invokestatic 62, 3) := by decide +kernel
theorem dX7_clear_36 : decode cX7_clear 36 = .ok (.aload_n 0, 1) := by decide +kernel
theorem dX7_clear_37 : decode cX7_clear 37 = .ok (.getfield 35, 3) := by decide +kernel
theorem dX7_clear_40 : decode cX7_clear 40 = .ok (.iconst 0, 1) := by decide +kernel
theorem dX7_clear_41 : decode cX7_clear 41 = .ok (.invokestatic 62, 3) := by decide +kernel
theorem dX7_clear_44 : decode cX7_clear 44 = .ok (.aload_n 0, 1) := by decide +kernel
theorem dX7_clear_45 : decode cX7_clear 45 = .ok (.getfield 38, 3) := by decide +kernel
theorem dX7_clear_48 : decode cX7_clear 48 = .ok (.iconst 0, 1) := by decide +kernel
theorem dX7_clear_49 : decode cX7_clear 49 = .ok (.invokestatic 62, 3) := by decide +kernel
theorem dX7_clear_52 : decode cX7_clear 52 = .ok (.aload_n 0, 1) := by decide +kernel
theorem dX7_clear_53 : decode cX7_clear 53 = .ok (.getfield 41, 3) := by decide +kernel
theorem dX7_clear_56 : decode cX7_clear 56 = .ok (.iconst (-1), 1) := by decide +kernel
theorem dX7_clear_57 : decode cX7_clear 57 = .ok (.invokestatic 62, 3) := by decide +kernel
theorem dX7_clear_60 : decode cX7_clear 60 = .ok (.aload_n 0, 1) := by decide +kernel
theorem dX7_clear_61 : decode cX7_clear 61 = .ok (.getfield 44, 3) := by decide +kernel
theorem dX7_clear_64 : decode cX7_clear 64 = .ok (.iconst 0, 1) := by decide +kernel
theorem dX7_clear_65 : decode cX7_clear 65 = .ok (.invokestatic 62, 3) := by decide +kernel
theorem dX7_clear_68 : decode cX7_clear 68 = .ok (.aload_n 0, 1) := by decide +kernel
theorem dX7_clear_69 : decode cX7_clear 69 = .ok (.getfield 47, 3) := by decide +kernel
theorem dX7_clear_72 : decode cX7_clear 72 = .ok (.iconst 0, 1) := by decide +kernel
theorem dX7_clear_73 : decode cX7_clear 73 = .ok (.invokestatic 62, 3) := by decide +kernel
theorem dX7_clear_76 : decode cX7_clear 76 = .ok (.aload_n 0, 1) := by decide +kernel
theorem dX7_clear_77 : decode cX7_clear 77 = .ok (.getfield 50, 3) := by decide +kernel
theorem dX7_clear_80 : decode cX7_clear 80 = .ok (.iconst 0, 1) := by decide +kernel
theorem dX7_clear_81 : decode cX7_clear 81 = .ok (.invokestatic 62, 3) := by decide +kernel
theorem dX7_clear_84 : decode cX7_clear 84 = .ok (.aload_n 0, 1) := by decide +kernel
theorem dX7_clear_85 : decode cX7_clear 85 = .ok (.getfield 50, 3) := by decide +kernel
theorem dX7_clear_88 : decode cX7_clear 88 = .ok (.iconst 0, 1) := by decide +kernel
theorem dX7_clear_89 : decode cX7_clear 89 = .ok (.aload_n 0, 1) := by decide +kernel
theorem dX7_clear_90 : decode cX7_clear 90 = .ok (.getfield 53, 3) := by decide +kernel
theorem dX7_clear_93 : decode cX7_clear 93 = .ok (.getfield 68, 3) := by decide +kernel
theorem dX7_clear_96 : decode cX7_clear 96 = .ok (.iastore, 1) := by decide +kernel
theorem dX7_clear_97 : decode cX7_clear 97 = .ok (.return_, 1) := by decide +kernel
theorem dX7_become_0 : decode cX7_become 0 = .ok (.aload_n 0, 1) := by decide +kernel
theorem dX7_become_1 : decode cX7_become 1 = .ok (.getfield 12, 3) := by decide +kernel
theorem dX7_become_4 : decode cX7_become 4 = .ok (.aload_n 1, 1) := by decide +kernel
theorem dX7_become_5 : decode cX7_become 5 = .ok (.getfield 12, 3) := by decide +kernel
theorem dX7_become_8 : decode cX7_become 8 = .ok (.invokevirtual 74, 3) := by decide +kernel
theorem dX7_become_11 : decode cX7_become 11 = .ok (.aload_n 0, 1) := by decide +kernel
theorem dX7_become_12 : decode cX7_become 12 = .ok (.getfield 18, 3) := by decide +kernel
theorem dX7_become_15 : decode cX7_become 15 = .ok (.aload_n 1, 1) := by decide +kernel
theorem dX7_become_16 : decode cX7_become 16 = .ok (.getfield 18, 3) := by decide +kernel
theorem dX7_become_19 : decode cX7_become 19 = .ok (.invokevirtual 74, 3) := by decide +kernel
theorem dX7_become_22 : decode cX7_become 22 = .ok (.aload_n 0, 1) := by decide +kernel
theorem dX7_become_23 : decode cX7_become 23 = .ok (.getfield 24, 3) := by decide +kernel
theorem dX7_become_26 : decode cX7_become 26 = .ok (.aload_n 1, 1) := by decide +kernel
theorem dX7_become_27 : decode cX7_become 27 = .ok (.getfield 24, 3) := by decide +kernel
theorem dX7_become_30 : decode cX7_become 30 = .ok (.invokevirtual 78, 3) := by decide +kernel
theorem dX7_become_33 : decode cX7_become 33 = .ok (.aload_n 0, 1) := by decide +kernel
theorem dX7_become_34 : decode cX7_become 34 = .ok (.getfield 28, 3) := by decide +kernel
theorem dX7_become_37 : decode cX7_become 37 = .ok (.aload_n 1, 1) := by decide +kernel
theorem dX7_become_38 : decode cX7_become 38 = .ok (.getfield 28, 3) := by decide +kernel
theorem dX7_become_41 : decode cX7_become 41 = .ok (.invokevirtual 78, 3) := by decide +kernel
theorem dX7_become_44 : decode cX7_become 44 = .ok (.aload_n 1, 1) := by decide +kernel
theorem dX7_become_45 : decode cX7_become 45 = .ok (.getfield 31, 3) := by decide +kernel
theorem dX7_become_48 : decode cX7_become 48 = .ok (.iconst 0, 1) := by decide +kernel
theorem dX7_become_49 : decode cX7_become 49 = .ok (.aload_n 0, 1) := by decide +kernel
theorem dX7_become_50 : decode cX7_become 50 = .ok (.getfield 31, 3) := by decide +kernel
theorem dX7_become_53 : decode cX7_become 53 = .ok (.iconst 0, 1) := by decide +kernel
theorem dX7_become_54 : decode cX7_become 54 = .ok (.bipush 48, 2) := by decide +kernel
theorem dX7_become_56 : decode cX7_become 56 = .ok (.invokestatic 81, 3) := by decide +kernel
theorem dX7_become_59 : decode cX7_become 59 = .ok (.aload_n 1, 1) := by decide +kernel
theorem dX7_become_60 : decode cX7_become 60 = .ok (.getfield 35, 3) := by decide +kernel
theorem dX7_become_63 : decode cX7_become 63 = .ok (.iconst 0, 1) := by decide +kernel
theorem dX7_become_64 : decode cX7_become 64 = .ok (.aload_n 0, 1) := by decide +kernel
theorem dX7_become_65 : decode cX7_become 65 = .ok (.getfield 35, 3) := by decide +kernel
theorem dX7_become_68 : decode cX7_become 68 = .ok (.iconst 0, 1) := by decide +kernel
theorem dX7_become_69 : decode cX7_become 69 = .ok (.bipush 48, 2) := by decide +kernel
theorem dX7_become_71 : decode cX7_become 71 = .ok (.invokestatic 81, 3) := by decide +kernel
theorem dX7_become_74 : decode cX7_become 74 = .ok (.aload_n 1, 1) := by decide +kernel
theorem dX7_become_75 : decode cX7_become 75 = .ok (.getfield 38, 3) := by decide +kernel
theorem dX7_become_78 : decode cX7_become 78 = .ok (.iconst 0, 1) := by decide +kernel
theorem dX7_become_79 : decode cX7_become 79 = .ok (.aload_n 0, 1) := by decide +kernel
theorem dX7_become_80 : decode cX7_become 80 = .ok (.getfield 38, 3) := by decide +kernel
theorem dX7_become_83 : decode cX7_become 83 = .ok (.iconst 0, 1) := by decide +kernel
theorem dX7_become_84 : decode cX7_become 84 = .ok (.bipush 48, 2) := by decide +kernel
theorem dX7_become_86 : decode cX7_become 86 = .ok (.invokestatic 81, 3) := by decide +kernel
theorem dX7_become_89 : decode cX7_become 89 = .ok (.aload_n 1, 1) := by decide +kernel
theorem dX7_become_90 : decode cX7_become 90 = .ok (.getfield 41, 3) := by decide +kernel
theorem dX7_become_93 : decode cX7_become 93 = .ok (.iconst 0, 1) := by decide +kernel
theorem dX7_become_94 : decode cX7_become 94 = .ok (.aload_n 0, 1) := by decide +kernel
theorem dX7_become_95 : decode cX7_become 95 = .ok (.getfield 41, 3) := by decide +kernel
theorem dX7_become_98 : decode cX7_become 98 = .ok (.iconst 0, 1) := by decide +kernel
theorem dX7_become_99 : decode cX7_become 99 = .ok (.bipush 48, 2) := by decide +kernel
theorem dX7_become_101 : decode cX7_become 101 = .ok (.invokestatic 81, 3) := by decide +kernel
theorem dX7_become_104 : decode cX7_become 104 = .ok (.aload_n 1, 1) := by decide +kernel
theorem dX7_become_105 : decode cX7_become 105 = .ok (.getfield 44, 3) := by decide +kernel
theorem dX7_become_108 : decode cX7_become 108 = .ok (.iconst 0, 1) := by decide +kernel
theorem dX7_become_109 : decode cX7_become 109 = .ok (.aload_n 0, 1) := by decide +kernel
theorem dX7_become_110 : decode cX7_become 110 = .ok (.getfield 44, 3) := by decide +kernel
theorem dX7_become_113 : decode cX7_become 113 = .ok (.iconst 0, 1) := by decide +kernel
theorem dX7_become_114 : decode cX7_become 114 = .ok (.bipush 48, 2) := by decide +kernel
theorem dX7_become_116 : decode cX7_become 116 = .ok (.invokestatic 81, 3) := by decide +kernel
theorem dX7_become_119 : decode cX7_become 119 = .ok (.aload_n 1, 1) := by decide +kernel
theorem dX7_become_120 : decode cX7_become 120 = .ok (.getfield 47, 3) := by decide +kernel
theorem dX7_become_123 : decode cX7_become 123 = .ok (.iconst 0, 1) := by decide +kernel
theorem dX7_become_124 : decode cX7_become 124 = .ok (.aload_n 0, 1) := by decide +kernel
theorem dX7_become_125 : decode cX7_become 125 = .ok (.getfield 47, 3) := by decide +kernel
theorem dX7_become_128 : decode cX7_become 128 = .ok (.iconst 0, 1) := by decide +kernel
theorem dX7_become_129 : decode cX7_become 129 = .ok (.bipush 48, 2) := by decide +kernel
theorem dX7_become_131 : decode cX7_become 131 = .ok (.invokestatic 81, 3) := by decide +kernel
theorem dX7_become_134 : decode cX7_become 134 = .ok (.aload_n 1, 1) := by decide +kernel
theorem dX7_become_135 : decode cX7_become 135 = .ok (.getfield 50, 3) := by decide +kernel
theorem dX7_become_138 : decode cX7_become 138 = .ok (.iconst 0, 1) := by decide +kernel
theorem dX7_become_139 : decode cX7_become 139 = .ok (.aload_n 0, 1) := by decide +kernel
theorem dX7_become_140 : decode cX7_become 140 = .ok (.getfield 50, 3) := by decide +kernel
theorem dX7_become_143 : decode cX7_become 143 = .ok (.iconst 0, 1) := by decide +kernel
theorem dX7_become_144 : decode cX7_become 144 = .ok (.bipush 12, 2) := by decide +kernel
theorem dX7_become_146 : decode cX7_become 146 = .ok (.invokestatic 81, 3) := by decide +kernel
theorem dX7_become_149 : decode cX7_become 149 = .ok (.return_, 1) := by decide +kernel
theorem dX7_used_0 : decode cX7_used 0 = .ok (.iconst 0, 1) := by decide +kernel
theorem dX7_used_1 : decode cX7_used 1 = .ok (.istore_n 1, 1) := by decide +kernel
theorem dX7_used_2 : decode cX7_used 2 = .ok (.iconst 0, 1) := by decide +kernel
theorem dX7_used_3 : decode cX7_used 3 = .ok (.istore_n 2, 1) := by decide +kernel
theorem dX7_used_4 : decode cX7_used 4 = .ok (.iload_n 2, 1) := by decide +kernel
theorem dX7_used_5 : decode cX7_used 5 = .ok (.aload_n 0, 1) := by decide +kernel
theorem dX7_used_6 : decode cX7_used 6 = .ok (.getfield 53, 3) := by decide +kernel
theorem dX7_used_9 : decode cX7_used 9 = .ok (.getfield 87, 3) := by decide +kernel
theorem dX7_used_12 : decode cX7_used 12 = .ok (.if_icmp .ge 25, 3) := by decide +kernel
theorem dX7_used_15 : decode cX7_used 15 = .ok (.aload_n 0, 1) := by decide +kernel
theorem dX7_used_16 : decode cX7_used 16 = .ok (.getfield 12, 3) := by decide +kernel
theorem dX7_used_19 : decode cX7_used 19 = .ok (.getfield 90, 3) := by decide +kernel
theorem dX7_used_22 : decode cX7_used 22 = .ok (.iload_n 2, 1) := by decide +kernel
theorem dX7_used_23 : decode cX7_used 23 = .ok (.iaload, 1) := by decide +kernel
theorem dX7_used_24 : decode cX7_used 24 = .ok (.iconst (-1), 1) := by decide +kernel
theorem dX7_used_25 : decode cX7_used 25 = .ok (.if_icmp .eq 6, 3) := by decide +kernel
theorem dX7_used_28 : decode cX7_used 28 = .ok (.iinc 1 1, 3) := by decide +kernel
theorem dX7_used_31 : decode cX7_used 31 = .ok (.iinc 2 1, 3) := by decide +kernel
theorem dX7_used_34 : decode cX7_used 34 = .ok (.goto (-30), 3) := by decide +kernel
theorem dX7_used_37 : decode cX7_used 37 = .ok (.iload_n 1, 1) := by decide +kernel
theorem dX7_used_38 : decode cX7_used 38 = .ok (.ireturn, 1) := by decide +kernel
theorem dX7_mergedFrames_0 : decode cX7_mergedFrames 0 = .ok (.iconst 0, 1) := by decide +kernel
theorem dX7_mergedFrames_1 : decode cX7_mergedFrames 1 = .ok (.istore_n 1, 1) := by decide +kernel
theorem dX7_mergedFrames_2 : decode cX7_mergedFrames 2 = .ok (.iconst 0, 1) := by decide +kernel
theorem dX7_mergedFrames_3 : decode cX7_mergedFrames 3 = .ok (.istore_n 2, 1) := by decide +kernel
theorem dX7_mergedFrames_4 : decode cX7_mergedFrames 4 = .ok (.iload_n 2, 1) := by decide +kernel
theorem dX7_mergedFrames_5 : decode cX7_mergedFrames 5 = .ok (.aload_n 0, 1) := by decide +kernel
theorem dX7_mergedFrames_6 : decode cX7_mergedFrames 6 = .ok (.getfield 53, 3) := by decide +kernel
theorem dX7_mergedFrames_9 : decode cX7_mergedFrames 9 = .ok (.getfield 87, 3) := by decide +kernel
theorem dX7_mergedFrames_12 : decode cX7_mergedFrames 12 = .ok (.if_icmp .ge 25, 3) := by decide +kernel
theorem dX7_mergedFrames_15 : decode cX7_mergedFrames 15 = .ok (.aload_n 0, 1) := by decide +kernel
theorem dX7_mergedFrames_16 : decode cX7_mergedFrames 16 = .ok (.getfield 18, 3) := by decide +kernel
theorem dX7_mergedFrames_19 : decode cX7_mergedFrames 19 = .ok (.getfield 93, 3) := by decide +kernel
theorem dX7_mergedFrames_22 : decode cX7_mergedFrames 22 = .ok (.iload_n 2, 1) := by decide +kernel
theorem dX7_mergedFrames_23 : decode cX7_mergedFrames 23 = .ok (.iaload, 1) := by decide +kernel
theorem dX7_mergedFrames_24 : decode cX7_mergedFrames 24 = .ok (.iconst (-1), 1) := by decide +kernel
theorem dX7_mergedFrames_25 : decode cX7_mergedFrames 25 = .ok (.if_icmp .eq 6, 3) := by decide +kernel
theorem dX7_mergedFrames_28 : decode cX7_mergedFrames 28 = .ok (.iinc 1 1, 3) := by decide +kernel
theorem dX7_mergedFrames_31 : decode cX7_mergedFrames 31 = .ok (.iinc 2 1, 3) := by decide +kernel
theorem dX7_mergedFrames_34 : decode cX7_mergedFrames 34 = .ok (.goto (-30), 3) := by decide +kernel
theorem dX7_mergedFrames_37 : decode cX7_mergedFrames 37 = .ok (.iload_n 1, 1) := by decide +kernel
theorem dX7_mergedFrames_38 : decode cX7_mergedFrames 38 = .ok (.ireturn, 1) := by decide +kernel
theorem dX7_mergedPages_0 : decode cX7_mergedPages 0 = .ok (.iconst 0, 1) := by decide +kernel
theorem dX7_mergedPages_1 : decode cX7_mergedPages 1 = .ok (.istore_n 3, 1) := by decide +kernel
theorem dX7_mergedPages_2 : decode cX7_mergedPages 2 = .ok (.iload_n 1, 1) := by decide +kernel
theorem dX7_mergedPages_3 : decode cX7_mergedPages 3 = .ok (.istore 4, 2) := by decide +kernel
theorem dX7_mergedPages_5 : decode cX7_mergedPages 5 = .ok (.iload 4, 2) := by decide +kernel
theorem dX7_mergedPages_7 : decode cX7_mergedPages 7 = .ok (.iload_n 2, 1) := by decide +kernel
theorem dX7_mergedPages_8 : decode cX7_mergedPages 8 = .ok (.if_icmp .ge 21, 3) := by decide +kernel
theorem dX7_mergedPages_11 : decode cX7_mergedPages 11 = .ok (.aload_n 0, 1) := by decide +kernel
theorem dX7_mergedPages_12 : decode cX7_mergedPages 12 = .ok (.iload 4, 2) := by decide +kernel
theorem dX7_mergedPages_14 : decode cX7_mergedPages 14 = .ok (.invokevirtual 96, 3) := by decide +kernel
theorem dX7_mergedPages_17 : decode cX7_mergedPages 17 = .ok (.ifCond .eq 6, 3) := by decide +kernel
theorem dX7_mergedPages_20 : decode cX7_mergedPages 20 = .ok (.iinc 3 1, 3) := by decide +kernel
theorem dX7_mergedPages_23 : decode cX7_mergedPages 23 = .ok (.iinc 4 1, 3) := by decide +kernel
theorem dX7_mergedPages_26 : decode cX7_mergedPages 26 = .ok (.goto (-21), 3) := by decide +kernel
theorem dX7_mergedPages_29 : decode cX7_mergedPages 29 = .ok (.iload_n 3, 1) := by decide +kernel
theorem dX7_mergedPages_30 : decode cX7_mergedPages 30 = .ok (.ireturn, 1) := by decide +kernel
theorem dX7_absentPages_0 : decode cX7_absentPages 0 = .ok (.iconst 0, 1) := by decide +kernel
theorem dX7_absentPages_1 : decode cX7_absentPages 1 = .ok (.istore_n 3, 1) := by decide +kernel
theorem dX7_absentPages_2 : decode cX7_absentPages 2 = .ok (.iload_n 1, 1) := by decide +kernel
theorem dX7_absentPages_3 : decode cX7_absentPages 3 = .ok (.istore 4, 2) := by decide +kernel
theorem dX7_absentPages_5 : decode cX7_absentPages 5 = .ok (.iload 4, 2) := by decide +kernel
theorem dX7_absentPages_7 : decode cX7_absentPages 7 = .ok (.iload_n 2, 1) := by decide +kernel
theorem dX7_absentPages_8 : decode cX7_absentPages 8 = .ok (.if_icmp .ge 26, 3) := by decide +kernel
theorem dX7_absentPages_11 : decode cX7_absentPages 11 = .ok (.aload_n 0, 1) := by decide +kernel
theorem dX7_absentPages_12 : decode cX7_absentPages 12 = .ok (.getfield 12, 3) := by decide +kernel
theorem dX7_absentPages_15 : decode cX7_absentPages 15 = .ok (.getfield 93, 3) := by decide +kernel
theorem dX7_absentPages_18 : decode cX7_absentPages 18 = .ok (.iload 4, 2) := by decide +kernel
theorem dX7_absentPages_20 : decode cX7_absentPages 20 = .ok (.iaload, 1) := by decide +kernel
theorem dX7_absentPages_21 : decode cX7_absentPages 21 = .ok (.iconst (-1), 1) := by decide +kernel
theorem dX7_absentPages_22 : decode cX7_absentPages 22 = .ok (.if_icmp .ne 6, 3) := by decide +kernel
theorem dX7_absentPages_25 : decode cX7_absentPages 25 = .ok (.iinc 3 1, 3) := by decide +kernel
theorem dX7_absentPages_28 : decode cX7_absentPages 28 = .ok (.iinc 4 1, 3) := by decide +kernel
theorem dX7_absentPages_31 : decode cX7_absentPages 31 = .ok (.goto (-26), 3) := by decide +kernel
theorem dX7_absentPages_34 : decode cX7_absentPages 34 = .ok (.iload_n 3, 1) := by decide +kernel
theorem dX7_absentPages_35 : decode cX7_absentPages 35 = .ok (.ireturn, 1) := by decide +kernel
theorem dX7_advisedPages_0 : decode cX7_advisedPages 0 = .ok (.iconst 0, 1) := by decide +kernel
theorem dX7_advisedPages_1 : decode cX7_advisedPages 1 = .ok (.istore_n 3, 1) := by decide +kernel
theorem dX7_advisedPages_2 : decode cX7_advisedPages 2 = .ok (.iload_n 1, 1) := by decide +kernel
theorem dX7_advisedPages_3 : decode cX7_advisedPages 3 = .ok (.istore 4, 2) := by decide +kernel
theorem dX7_advisedPages_5 : decode cX7_advisedPages 5 = .ok (.iload 4, 2) := by decide +kernel
theorem dX7_advisedPages_7 : decode cX7_advisedPages 7 = .ok (.iload_n 2, 1) := by decide +kernel
theorem dX7_advisedPages_8 : decode cX7_advisedPages 8 = .ok (.if_icmp .ge 23, 3) := by decide +kernel
theorem dX7_advisedPages_11 : decode cX7_advisedPages 11 = .ok (.aload_n 0, 1) := by decide +kernel
theorem dX7_advisedPages_12 : decode cX7_advisedPages 12 = .ok (.getfield 35, 3) := by decide +kernel
theorem dX7_advisedPages_15 : decode cX7_advisedPages 15 = .ok (.iload 4, 2) := by decide +kernel
theorem dX7_advisedPages_17 : decode cX7_advisedPages 17 = .ok (.iaload, 1) := by decide +kernel
theorem dX7_advisedPages_18 : decode cX7_advisedPages 18 = .ok (.iconst 1, 1) := by decide +kernel
theorem dX7_advisedPages_19 : decode cX7_advisedPages 19 = .ok (.if_icmp .ne 6, 3) := by decide +kernel
theorem dX7_advisedPages_22 : decode cX7_advisedPages 22 = .ok (.iinc 3 1, 3) := by decide +kernel
theorem dX7_advisedPages_25 : decode cX7_advisedPages 25 = .ok (.iinc 4 1, 3) := by decide +kernel
theorem dX7_advisedPages_28 : decode cX7_advisedPages 28 = .ok (.goto (-23), 3) := by decide +kernel
theorem dX7_advisedPages_31 : decode cX7_advisedPages 31 = .ok (.iload_n 3, 1) := by decide +kernel
theorem dX7_advisedPages_32 : decode cX7_advisedPages 32 = .ok (.ireturn, 1) := by decide +kernel
theorem dX7_framesOf_0 : decode cX7_framesOf 0 = .ok (.lconst 0, 1) := by decide +kernel
theorem dX7_framesOf_1 : decode cX7_framesOf 1 = .ok (.lstore_n 3, 1) := by decide +kernel
theorem dX7_framesOf_2 : decode cX7_framesOf 2 = .ok (.iload_n 1, 1) := by decide +kernel
theorem dX7_framesOf_3 : decode cX7_framesOf 3 = .ok (.istore 5, 2) := by decide +kernel
theorem dX7_framesOf_5 : decode cX7_framesOf 5 = .ok (.iload 5, 2) := by decide +kernel
theorem dX7_framesOf_7 : decode cX7_framesOf 7 = .ok (.iload_n 2, 1) := by decide +kernel
theorem dX7_framesOf_8 : decode cX7_framesOf 8 = .ok (.if_icmp .ge 38, 3) := by decide +kernel
theorem dX7_framesOf_11 : decode cX7_framesOf 11 = .ok (.aload_n 0, 1) := by decide +kernel
theorem dX7_framesOf_12 : decode cX7_framesOf 12 = .ok (.getfield 12, 3) := by decide +kernel
theorem dX7_framesOf_15 : decode cX7_framesOf 15 = .ok (.getfield 93, 3) := by decide +kernel
theorem dX7_framesOf_18 : decode cX7_framesOf 18 = .ok (.iload 5, 2) := by decide +kernel
theorem dX7_framesOf_20 : decode cX7_framesOf 20 = .ok (.iaload, 1) := by decide +kernel
theorem dX7_framesOf_21 : decode cX7_framesOf 21 = .ok (.iconst (-1), 1) := by decide +kernel
theorem dX7_framesOf_22 : decode cX7_framesOf 22 = .ok (.if_icmp .eq 18, 3) := by decide +kernel
theorem dX7_framesOf_25 : decode cX7_framesOf 25 = .ok (.lload_n 3, 1) := by decide +kernel
theorem dX7_framesOf_26 : decode cX7_framesOf 26 = .ok (.lconst 1, 1) := by decide +kernel
theorem dX7_framesOf_27 : decode cX7_framesOf 27 = .ok (.aload_n 0, 1) := by decide +kernel
theorem dX7_framesOf_28 : decode cX7_framesOf 28 = .ok (.getfield 12, 3) := by decide +kernel
theorem dX7_framesOf_31 : decode cX7_framesOf 31 = .ok (.getfield 93, 3) := by decide +kernel
theorem dX7_framesOf_34 : decode cX7_framesOf 34 = .ok (.iload 5, 2) := by decide +kernel
theorem dX7_framesOf_36 : decode cX7_framesOf 36 = .ok (.iaload, 1) := by decide +kernel
theorem dX7_framesOf_37 : decode cX7_framesOf 37 = .ok (.lshl, 1) := by decide +kernel
theorem dX7_framesOf_38 : decode cX7_framesOf 38 = .ok (.lor, 1) := by decide +kernel
theorem dX7_framesOf_39 : decode cX7_framesOf 39 = .ok (.lstore_n 3, 1) := by decide +kernel
theorem dX7_framesOf_40 : decode cX7_framesOf 40 = .ok (.iinc 5 1, 3) := by decide +kernel
theorem dX7_framesOf_43 : decode cX7_framesOf 43 = .ok (.goto (-38), 3) := by decide +kernel
theorem dX7_framesOf_46 : decode cX7_framesOf 46 = .ok (.lload_n 3, 1) := by decide +kernel
theorem dX7_framesOf_47 : decode cX7_framesOf 47 = .ok (.invokestatic 100, 3) := by decide +kernel
theorem dX7_framesOf_50 : decode cX7_framesOf 50 = .ok (.ireturn, 1) := by decide +kernel
theorem dX7_isMerged_0 : decode cX7_isMerged 0 = .ok (.aload_n 0, 1) := by decide +kernel
theorem dX7_isMerged_1 : decode cX7_isMerged 1 = .ok (.getfield 12, 3) := by decide +kernel
theorem dX7_isMerged_4 : decode cX7_isMerged 4 = .ok (.getfield 93, 3) := by decide +kernel
theorem dX7_isMerged_7 : decode cX7_isMerged 7 = .ok (.iload_n 1, 1) := by decide +kernel
theorem dX7_isMerged_8 : decode cX7_isMerged 8 = .ok (.iaload, 1) := by decide +kernel
theorem dX7_isMerged_9 : decode cX7_isMerged 9 = .ok (.istore_n 2, 1) := by decide +kernel
theorem dX7_isMerged_10 : decode cX7_isMerged 10 = .ok (.iload_n 2, 1) := by decide +kernel
theorem dX7_isMerged_11 : decode cX7_isMerged 11 = .ok (.iconst (-1), 1) := by decide +kernel
theorem dX7_isMerged_12 : decode cX7_isMerged 12 = .ok (.if_icmp .eq 20, 3) := by decide +kernel
theorem dX7_isMerged_15 : decode cX7_isMerged 15 = .ok (.aload_n 0, 1) := by decide +kernel
theorem dX7_isMerged_16 : decode cX7_isMerged 16 = .ok (.getfield 18, 3) := by decide +kernel
theorem dX7_isMerged_19 : decode cX7_isMerged 19 = .ok (.getfield 93, 3) := by decide +kernel
theorem dX7_isMerged_22 : decode cX7_isMerged 22 = .ok (.iload_n 2, 1) := by decide +kernel
theorem dX7_isMerged_23 : decode cX7_isMerged 23 = .ok (.iaload, 1) := by decide +kernel
theorem dX7_isMerged_24 : decode cX7_isMerged 24 = .ok (.iconst (-1), 1) := by decide +kernel
theorem dX7_isMerged_25 : decode cX7_isMerged 25 = .ok (.if_icmp .eq 7, 3) := by decide +kernel
theorem dX7_isMerged_28 : decode cX7_isMerged 28 = .ok (.iconst 1, 1) := by decide +kernel
theorem dX7_isMerged_29 : decode cX7_isMerged 29 = .ok (.goto 4, 3) := by decide +kernel
theorem dX7_isMerged_32 : decode cX7_isMerged 32 = .ok (.iconst 0, 1) := by decide +kernel
theorem dX7_isMerged_33 : decode cX7_isMerged 33 = .ok (.ireturn, 1) := by decide +kernel
theorem dX7_cellsAt_0 : decode cX7_cellsAt 0 = .ok (.aload_n 0, 1) := by decide +kernel
theorem dX7_cellsAt_1 : decode cX7_cellsAt 1 = .ok (.getfield 12, 3) := by decide +kernel
theorem dX7_cellsAt_4 : decode cX7_cellsAt 4 = .ok (.getfield 93, 3) := by decide +kernel
theorem dX7_cellsAt_7 : decode cX7_cellsAt 7 = .ok (.iload_n 1, 1) := by decide +kernel
theorem dX7_cellsAt_8 : decode cX7_cellsAt 8 = .ok (.iaload, 1) := by decide +kernel
theorem dX7_cellsAt_9 : decode cX7_cellsAt 9 = .ok (.istore_n 2, 1) := by decide +kernel
theorem dX7_cellsAt_10 : decode cX7_cellsAt 10 = .ok (.iload_n 2, 1) := by decide +kernel
theorem dX7_cellsAt_11 : decode cX7_cellsAt 11 = .ok (.iconst (-1), 1) := by decide +kernel
theorem dX7_cellsAt_12 : decode cX7_cellsAt 12 = .ok (.if_icmp .ne 7, 3) := by decide +kernel
theorem dX7_cellsAt_15 : decode cX7_cellsAt 15 = .ok (.iconst 0, 1) := by decide +kernel
theorem dX7_cellsAt_16 : decode cX7_cellsAt 16 = .ok (.goto 9, 3) := by decide +kernel
theorem dX7_cellsAt_19 : decode cX7_cellsAt 19 = .ok (.aload_n 0, 1) := by decide +kernel
theorem dX7_cellsAt_20 : decode cX7_cellsAt 20 = .ok (.getfield 31, 3) := by decide +kernel
theorem dX7_cellsAt_23 : decode cX7_cellsAt 23 = .ok (.iload_n 2, 1) := by decide +kernel
theorem dX7_cellsAt_24 : decode cX7_cellsAt 24 = .ok (.iaload, 1) := by decide +kernel
theorem dX7_cellsAt_25 : decode cX7_cellsAt 25 = .ok (.ireturn, 1) := by decide +kernel
theorem dX7_freeFrame_0 : decode cX7_freeFrame 0 = .ok (.iconst 0, 1) := by decide +kernel
theorem dX7_freeFrame_1 : decode cX7_freeFrame 1 = .ok (.istore_n 1, 1) := by decide +kernel
theorem dX7_freeFrame_2 : decode cX7_freeFrame 2 = .ok (.iload_n 1, 1) := by decide +kernel
theorem dX7_freeFrame_3 : decode cX7_freeFrame 3 = .ok (.aload_n 0, 1) := by decide +kernel
theorem dX7_freeFrame_4 : decode cX7_freeFrame 4 = .ok (.getfield 53, 3) := by decide +kernel
theorem dX7_freeFrame_7 : decode cX7_freeFrame 7 = .ok (.getfield 87, 3) := by decide +kernel
theorem dX7_freeFrame_10 : decode cX7_freeFrame 10 = .ok (.if_icmp .ge 24, 3) := by decide +kernel
theorem dX7_freeFrame_13 : decode cX7_freeFrame 13 = .ok (.aload_n 0, 1) := by decide +kernel
theorem dX7_freeFrame_14 : decode cX7_freeFrame 14 = .ok (.getfield 12, 3) := by decide +kernel
theorem dX7_freeFrame_17 : decode cX7_freeFrame 17 = .ok (.getfield 90, 3) := by decide +kernel
theorem dX7_freeFrame_20 : decode cX7_freeFrame 20 = .ok (.iload_n 1, 1) := by decide +kernel
theorem dX7_freeFrame_21 : decode cX7_freeFrame 21 = .ok (.iaload, 1) := by decide +kernel
theorem dX7_freeFrame_22 : decode cX7_freeFrame 22 = .ok (.iconst (-1), 1) := by decide +kernel
theorem dX7_freeFrame_23 : decode cX7_freeFrame 23 = .ok (.if_icmp .ne 5, 3) := by decide +kernel
theorem dX7_freeFrame_26 : decode cX7_freeFrame 26 = .ok (.iload_n 1, 1) := by decide +kernel
theorem dX7_freeFrame_27 : decode cX7_freeFrame 27 = .ok (.ireturn, 1) := by decide +kernel
theorem dX7_freeFrame_28 : decode cX7_freeFrame 28 = .ok (.iinc 1 1, 3) := by decide +kernel
theorem dX7_freeFrame_31 : decode cX7_freeFrame 31 = .ok (.goto (-29), 3) := by decide +kernel
theorem dX7_freeFrame_34 : decode cX7_freeFrame 34 = .ok (.iconst (-1), 1) := by decide +kernel
theorem dX7_freeFrame_35 : decode cX7_freeFrame 35 = .ok (.ireturn, 1) := by decide +kernel
theorem dX7_put_0 : decode cX7_put 0 = .ok (.aload_n 0, 1) := by decide +kernel
theorem dX7_put_1 : decode cX7_put 1 = .ok (.iload_n 1, 1) := by decide +kernel
theorem dX7_put_2 : decode cX7_put 2 = .ok (.invokevirtual 106, 3) := by decide +kernel
theorem dX7_put_5 : decode cX7_put 5 = .ok (.istore_n 3, 1) := by decide +kernel
theorem dX7_put_6 : decode cX7_put 6 = .ok (.aload_n 0, 1) := by decide +kernel
theorem dX7_put_7 : decode cX7_put 7 = .ok (.getfield 12, 3) := by decide +kernel
theorem dX7_put_10 : decode cX7_put 10 = .ok (.getfield 93, 3) := by decide +kernel
theorem dX7_put_13 : decode cX7_put 13 = .ok (.iload_n 1, 1) := by decide +kernel
theorem dX7_put_14 : decode cX7_put 14 = .ok (.iaload, 1) := by decide +kernel
theorem dX7_put_15 : decode cX7_put 15 = .ok (.istore 4, 2) := by decide +kernel
theorem dX7_put_17 : decode cX7_put 17 = .ok (.iload_n 3, 1) := by decide +kernel
theorem dX7_put_18 : decode cX7_put 18 = .ok (.iconst (-1), 1) := by decide +kernel
theorem dX7_put_19 : decode cX7_put 19 = .ok (.if_icmp .eq 17, 3) := by decide +kernel
theorem dX7_put_22 : decode cX7_put 22 = .ok (.iload 4, 2) := by decide +kernel
theorem dX7_put_24 : decode cX7_put 24 = .ok (.iconst (-1), 1) := by decide +kernel
theorem dX7_put_25 : decode cX7_put 25 = .ok (.if_icmp .eq 11, 3) := by decide +kernel
theorem dX7_put_28 : decode cX7_put 28 = .ok (.aload_n 0, 1) := by decide +kernel
theorem dX7_put_29 : decode cX7_put 29 = .ok (.getfield 31, 3) := by decide +kernel
theorem dX7_put_32 : decode cX7_put 32 = .ok (.iload 4, 2) := by decide +kernel
theorem dX7_put_34 : decode cX7_put 34 = .ok (.iload_n 2, 1) := by decide +kernel
theorem dX7_put_35 : decode cX7_put 35 = .ok (.iastore, 1) := by decide +kernel
theorem dX7_put_36 : decode cX7_put 36 = .ok (.iload_n 3, 1) := by decide +kernel
theorem dX7_put_37 : decode cX7_put 37 = .ok (.ireturn, 1) := by decide +kernel
theorem dX7_putCell_0 : decode cX7_putCell 0 = .ok (.bipush 12, 2) := by decide +kernel
theorem dX7_putCell_2 : decode cX7_putCell 2 = .ok (.iconst 4, 1) := by decide +kernel
theorem dX7_putCell_3 : decode cX7_putCell 3 = .ok (.iload_n 2, 1) := by decide +kernel
theorem dX7_putCell_4 : decode cX7_putCell 4 = .ok (.imul, 1) := by decide +kernel
theorem dX7_putCell_5 : decode cX7_putCell 5 = .ok (.isub, 1) := by decide +kernel
theorem dX7_putCell_6 : decode cX7_putCell 6 = .ok (.istore 4, 2) := by decide +kernel
theorem dX7_putCell_8 : decode cX7_putCell 8 = .ok (.aload_n 0, 1) := by decide +kernel
theorem dX7_putCell_9 : decode cX7_putCell 9 = .ok (.iload_n 1, 1) := by decide +kernel
theorem dX7_putCell_10 : decode cX7_putCell 10 = .ok (.aload_n 0, 1) := by decide +kernel
theorem dX7_putCell_11 : decode cX7_putCell 11 = .ok (.iload_n 1, 1) := by decide +kernel
theorem dX7_putCell_12 : decode cX7_putCell 12 = .ok (.invokevirtual 110, 3) := by decide +kernel
theorem dX7_putCell_15 : decode cX7_putCell 15 = .ok (.bipush 15, 2) := by decide +kernel
theorem dX7_putCell_17 : decode cX7_putCell 17 = .ok (.iload 4, 2) := by decide +kernel
theorem dX7_putCell_19 : decode cX7_putCell 19 = .ok (.ishl, 1) := by decide +kernel
theorem dX7_putCell_20 : decode cX7_putCell 20 = .ok (.iconst (-1), 1) := by decide +kernel
theorem dX7_putCell_21 : decode cX7_putCell 21 = .ok (.ixor, 1) := by decide +kernel
theorem dX7_putCell_22 : decode cX7_putCell 22 = .ok (.iand, 1) := by decide +kernel
theorem dX7_putCell_23 : decode cX7_putCell 23 = .ok (.iload_n 3, 1) := by decide +kernel
theorem dX7_putCell_24 : decode cX7_putCell 24 = .ok (.iload 4, 2) := by decide +kernel
theorem dX7_putCell_26 : decode cX7_putCell 26 = .ok (.ishl, 1) := by decide +kernel
theorem dX7_putCell_27 : decode cX7_putCell 27 = .ok (.ior, 1) := by decide +kernel
theorem dX7_putCell_28 : decode cX7_putCell 28 = .ok (.invokevirtual 113, 3) := by decide +kernel
theorem dX7_putCell_31 : decode cX7_putCell 31 = .ok (.ireturn, 1) := by decide +kernel
theorem dX7_makeOwn_0 : decode cX7_makeOwn 0 = .ok (.aload_n 0, 1) := by decide +kernel
theorem dX7_makeOwn_1 : decode cX7_makeOwn 1 = .ok (.getfield 12, 3) := by decide +kernel
theorem dX7_makeOwn_4 : decode cX7_makeOwn 4 = .ok (.getfield 93, 3) := by decide +kernel
theorem dX7_makeOwn_7 : decode cX7_makeOwn 7 = .ok (.iload_n 1, 1) := by decide +kernel
theorem dX7_makeOwn_8 : decode cX7_makeOwn 8 = .ok (.iaload, 1) := by decide +kernel
theorem dX7_makeOwn_9 : decode cX7_makeOwn 9 = .ok (.istore_n 2, 1) := by decide +kernel
theorem dX7_makeOwn_10 : decode cX7_makeOwn 10 = .ok (.iload_n 2, 1) := by decide +kernel
theorem dX7_makeOwn_11 : decode cX7_makeOwn 11 = .ok (.iconst (-1), 1) := by decide +kernel
theorem dX7_makeOwn_12 : decode cX7_makeOwn 12 = .ok (.if_icmp .eq 18, 3) := by decide +kernel
theorem dX7_makeOwn_15 : decode cX7_makeOwn 15 = .ok (.aload_n 0, 1) := by decide +kernel
theorem dX7_makeOwn_16 : decode cX7_makeOwn 16 = .ok (.getfield 18, 3) := by decide +kernel
theorem dX7_makeOwn_19 : decode cX7_makeOwn 19 = .ok (.getfield 93, 3) := by decide +kernel
theorem dX7_makeOwn_22 : decode cX7_makeOwn 22 = .ok (.iload_n 2, 1) := by decide +kernel
theorem dX7_makeOwn_23 : decode cX7_makeOwn 23 = .ok (.iaload, 1) := by decide +kernel
theorem dX7_makeOwn_24 : decode cX7_makeOwn 24 = .ok (.iconst (-1), 1) := by decide +kernel
theorem dX7_makeOwn_25 : decode cX7_makeOwn 25 = .ok (.if_icmp .ne 5, 3) := by decide +kernel
theorem dX7_makeOwn_28 : decode cX7_makeOwn 28 = .ok (.iconst 0, 1) := by decide +kernel
theorem dX7_makeOwn_29 : decode cX7_makeOwn 29 = .ok (.ireturn, 1) := by decide +kernel
theorem dX7_makeOwn_30 : decode cX7_makeOwn 30 = .ok (.iload_n 2, 1) := by decide +kernel
theorem dX7_makeOwn_31 : decode cX7_makeOwn 31 = .ok (.iconst (-1), 1) := by decide +kernel
theorem dX7_makeOwn_32 : decode cX7_makeOwn 32 = .ok (.if_icmp .eq 22, 3) := by decide +kernel
theorem dX7_makeOwn_35 : decode cX7_makeOwn 35 = .ok (.aload_n 0, 1) := by decide +kernel
theorem dX7_makeOwn_36 : decode cX7_makeOwn 36 = .ok (.getfield 12, 3) := by decide +kernel
theorem dX7_makeOwn_39 : decode cX7_makeOwn 39 = .ok (.iload_n 2, 1) := by decide +kernel
theorem dX7_makeOwn_40 : decode cX7_makeOwn 40 = .ok (.invokevirtual 117, 3) := by decide +kernel
theorem dX7_makeOwn_43 : decode cX7_makeOwn 43 = .ok (.iconst 1, 1) := by decide +kernel
theorem dX7_makeOwn_44 : decode cX7_makeOwn 44 = .ok (.if_icmp .ne 10, 3) := by decide +kernel
theorem dX7_makeOwn_47 : decode cX7_makeOwn 47 = .ok (.aload_n 0, 1) := by decide +kernel
theorem dX7_makeOwn_48 : decode cX7_makeOwn 48 = .ok (.iload_n 2, 1) := by decide +kernel
theorem dX7_makeOwn_49 : decode cX7_makeOwn 49 = .ok (.invokevirtual 120, 3) := by decide +kernel
theorem dX7_makeOwn_52 : decode cX7_makeOwn 52 = .ok (.iconst 3, 1) := by decide +kernel
theorem dX7_makeOwn_53 : decode cX7_makeOwn 53 = .ok (.ireturn, 1) := by decide +kernel
theorem dX7_makeOwn_54 : decode cX7_makeOwn 54 = .ok (.aload_n 0, 1) := by decide +kernel
theorem dX7_makeOwn_55 : decode cX7_makeOwn 55 = .ok (.invokevirtual 124, 3) := by decide +kernel
theorem dX7_makeOwn_58 : decode cX7_makeOwn 58 = .ok (.istore_n 3, 1) := by decide +kernel
theorem dX7_makeOwn_59 : decode cX7_makeOwn 59 = .ok (.iload_n 3, 1) := by decide +kernel
theorem dX7_makeOwn_60 : decode cX7_makeOwn 60 = .ok (.iconst (-1), 1) := by decide +kernel
theorem dX7_makeOwn_61 : decode cX7_makeOwn 61 = .ok (.if_icmp .ne 5, 3) := by decide +kernel
theorem dX7_makeOwn_64 : decode cX7_makeOwn 64 = .ok (.iconst (-1), 1) := by decide +kernel
theorem dX7_makeOwn_65 : decode cX7_makeOwn 65 = .ok (.ireturn, 1) := by decide +kernel
theorem dX7_makeOwn_66 : decode cX7_makeOwn 66 = .ok (.aload_n 0, 1) := by decide +kernel
theorem dX7_makeOwn_67 : decode cX7_makeOwn 67 = .ok (.getfield 31, 3) := by decide +kernel
theorem dX7_makeOwn_70 : decode cX7_makeOwn 70 = .ok (.iload_n 3, 1) := by decide +kernel
theorem dX7_makeOwn_71 : decode cX7_makeOwn 71 = .ok (.aload_n 0, 1) := by decide +kernel
theorem dX7_makeOwn_72 : decode cX7_makeOwn 72 = .ok (.iload_n 1, 1) := by decide +kernel
theorem dX7_makeOwn_73 : decode cX7_makeOwn 73 = .ok (.invokevirtual 110, 3) := by decide +kernel
theorem dX7_makeOwn_76 : decode cX7_makeOwn 76 = .ok (.iastore, 1) := by decide +kernel
theorem dX7_makeOwn_77 : decode cX7_makeOwn 77 = .ok (.aload_n 0, 1) := by decide +kernel
theorem dX7_makeOwn_78 : decode cX7_makeOwn 78 = .ok (.getfield 12, 3) := by decide +kernel
theorem dX7_makeOwn_81 : decode cX7_makeOwn 81 = .ok (.iload_n 1, 1) := by decide +kernel
theorem dX7_makeOwn_82 : decode cX7_makeOwn 82 = .ok (.invokevirtual 128, 3) := by decide +kernel
theorem dX7_makeOwn_85 : decode cX7_makeOwn 85 = .ok (.aload_n 0, 1) := by decide +kernel
theorem dX7_makeOwn_86 : decode cX7_makeOwn 86 = .ok (.getfield 12, 3) := by decide +kernel
theorem dX7_makeOwn_89 : decode cX7_makeOwn 89 = .ok (.iload_n 3, 1) := by decide +kernel
theorem dX7_makeOwn_90 : decode cX7_makeOwn 90 = .ok (.iload_n 1, 1) := by decide +kernel
theorem dX7_makeOwn_91 : decode cX7_makeOwn 91 = .ok (.invokevirtual 131, 3) := by decide +kernel
theorem dX7_makeOwn_94 : decode cX7_makeOwn 94 = .ok (.iload_n 2, 1) := by decide +kernel
theorem dX7_makeOwn_95 : decode cX7_makeOwn 95 = .ok (.iconst (-1), 1) := by decide +kernel
theorem dX7_makeOwn_96 : decode cX7_makeOwn 96 = .ok (.if_icmp .ne 5, 3) := by decide +kernel
theorem dX7_makeOwn_99 : decode cX7_makeOwn 99 = .ok (.iconst 1, 1) := by decide +kernel
theorem dX7_makeOwn_100 : decode cX7_makeOwn 100 = .ok (.ireturn, 1) := by decide +kernel
theorem dX7_makeOwn_101 : decode cX7_makeOwn 101 = .ok (.aload_n 0, 1) := by decide +kernel
theorem dX7_makeOwn_102 : decode cX7_makeOwn 102 = .ok (.getfield 50, 3) := by decide +kernel
theorem dX7_makeOwn_105 : decode cX7_makeOwn 105 = .ok (.bipush 8, 2) := by decide +kernel
theorem dX7_makeOwn_107 : decode cX7_makeOwn 107 = .ok (.dup2, 1) := by decide +kernel
theorem dX7_makeOwn_108 : decode cX7_makeOwn 108 = .ok (.iaload, 1) := by decide +kernel
theorem dX7_makeOwn_109 : decode cX7_makeOwn 109 = .ok (.iconst 1, 1) := by decide +kernel
theorem dX7_makeOwn_110 : decode cX7_makeOwn 110 = .ok (.iadd, 1) := by decide +kernel
theorem dX7_makeOwn_111 : decode cX7_makeOwn 111 = .ok (.iastore, 1) := by decide +kernel
theorem dX7_makeOwn_112 : decode cX7_makeOwn 112 = .ok (.iconst 2, 1) := by decide +kernel
theorem dX7_makeOwn_113 : decode cX7_makeOwn 113 = .ok (.ireturn, 1) := by decide +kernel
theorem dX7_leaveKnot_0 : decode cX7_leaveKnot 0 = .ok (.aload_n 0, 1) := by decide +kernel
theorem dX7_leaveKnot_1 : decode cX7_leaveKnot 1 = .ok (.getfield 18, 3) := by decide +kernel
theorem dX7_leaveKnot_4 : decode cX7_leaveKnot 4 = .ok (.getfield 93, 3) := by decide +kernel
theorem dX7_leaveKnot_7 : decode cX7_leaveKnot 7 = .ok (.iload_n 1, 1) := by decide +kernel
theorem dX7_leaveKnot_8 : decode cX7_leaveKnot 8 = .ok (.iaload, 1) := by decide +kernel
theorem dX7_leaveKnot_9 : decode cX7_leaveKnot 9 = .ok (.istore_n 2, 1) := by decide +kernel
theorem dX7_leaveKnot_10 : decode cX7_leaveKnot 10 = .ok (.iload_n 2, 1) := by decide +kernel
theorem dX7_leaveKnot_11 : decode cX7_leaveKnot 11 = .ok (.iconst (-1), 1) := by decide +kernel
theorem dX7_leaveKnot_12 : decode cX7_leaveKnot 12 = .ok (.if_icmp .ne 4, 3) := by decide +kernel
theorem dX7_leaveKnot_15 : decode cX7_leaveKnot 15 = .ok (.return_, 1) := by decide +kernel
theorem dX7_leaveKnot_16 : decode cX7_leaveKnot 16 = .ok (.aload_n 0, 1) := by decide +kernel
theorem dX7_leaveKnot_17 : decode cX7_leaveKnot 17 = .ok (.getfield 18, 3) := by decide +kernel
theorem dX7_leaveKnot_20 : decode cX7_leaveKnot 20 = .ok (.iload_n 1, 1) := by decide +kernel
theorem dX7_leaveKnot_21 : decode cX7_leaveKnot 21 = .ok (.invokevirtual 128, 3) := by decide +kernel
theorem dX7_leaveKnot_24 : decode cX7_leaveKnot 24 = .ok (.aload_n 0, 1) := by decide +kernel
theorem dX7_leaveKnot_25 : decode cX7_leaveKnot 25 = .ok (.getfield 18, 3) := by decide +kernel
theorem dX7_leaveKnot_28 : decode cX7_leaveKnot 28 = .ok (.getfield 90, 3) := by decide +kernel
theorem dX7_leaveKnot_31 : decode cX7_leaveKnot 31 = .ok (.iload_n 2, 1) := by decide +kernel
theorem dX7_leaveKnot_32 : decode cX7_leaveKnot 32 = .ok (.iaload, 1) := by decide +kernel
theorem dX7_leaveKnot_33 : decode cX7_leaveKnot 33 = .ok (.iconst (-1), 1) := by decide +kernel
theorem dX7_leaveKnot_34 : decode cX7_leaveKnot 34 = .ok (.if_icmp .ne 11, 3) := by decide +kernel
theorem dX7_leaveKnot_37 : decode cX7_leaveKnot 37 = .ok (.aload_n 0, 1) := by decide +kernel
theorem dX7_leaveKnot_38 : decode cX7_leaveKnot 38 = .ok (.getfield 24, 3) := by decide +kernel
theorem dX7_leaveKnot_41 : decode cX7_leaveKnot 41 = .ok (.iload_n 2, 1) := by decide +kernel
theorem dX7_leaveKnot_42 : decode cX7_leaveKnot 42 = .ok (.invokevirtual 135, 3) := by decide +kernel
theorem dX7_leaveKnot_45 : decode cX7_leaveKnot 45 = .ok (.return_, 1) := by decide +kernel
theorem dX7_dropPage_0 : decode cX7_dropPage 0 = .ok (.aload_n 0, 1) := by decide +kernel
theorem dX7_dropPage_1 : decode cX7_dropPage 1 = .ok (.getfield 12, 3) := by decide +kernel
theorem dX7_dropPage_4 : decode cX7_dropPage 4 = .ok (.getfield 93, 3) := by decide +kernel
theorem dX7_dropPage_7 : decode cX7_dropPage 7 = .ok (.iload_n 1, 1) := by decide +kernel
theorem dX7_dropPage_8 : decode cX7_dropPage 8 = .ok (.iaload, 1) := by decide +kernel
theorem dX7_dropPage_9 : decode cX7_dropPage 9 = .ok (.istore_n 2, 1) := by decide +kernel
theorem dX7_dropPage_10 : decode cX7_dropPage 10 = .ok (.iload_n 2, 1) := by decide +kernel
theorem dX7_dropPage_11 : decode cX7_dropPage 11 = .ok (.iconst (-1), 1) := by decide +kernel
theorem dX7_dropPage_12 : decode cX7_dropPage 12 = .ok (.if_icmp .ne 5, 3) := by decide +kernel
theorem dX7_dropPage_15 : decode cX7_dropPage 15 = .ok (.iconst (-1), 1) := by decide +kernel
theorem dX7_dropPage_16 : decode cX7_dropPage 16 = .ok (.ireturn, 1) := by decide +kernel
theorem dX7_dropPage_17 : decode cX7_dropPage 17 = .ok (.aload_n 0, 1) := by decide +kernel
theorem dX7_dropPage_18 : decode cX7_dropPage 18 = .ok (.getfield 12, 3) := by decide +kernel
theorem dX7_dropPage_21 : decode cX7_dropPage 21 = .ok (.iload_n 1, 1) := by decide +kernel
theorem dX7_dropPage_22 : decode cX7_dropPage 22 = .ok (.invokevirtual 128, 3) := by decide +kernel
theorem dX7_dropPage_25 : decode cX7_dropPage 25 = .ok (.aload_n 0, 1) := by decide +kernel
theorem dX7_dropPage_26 : decode cX7_dropPage 26 = .ok (.getfield 12, 3) := by decide +kernel
theorem dX7_dropPage_29 : decode cX7_dropPage 29 = .ok (.getfield 90, 3) := by decide +kernel
theorem dX7_dropPage_32 : decode cX7_dropPage 32 = .ok (.iload_n 2, 1) := by decide +kernel
theorem dX7_dropPage_33 : decode cX7_dropPage 33 = .ok (.iaload, 1) := by decide +kernel
theorem dX7_dropPage_34 : decode cX7_dropPage 34 = .ok (.iconst (-1), 1) := by decide +kernel
theorem dX7_dropPage_35 : decode cX7_dropPage 35 = .ok (.if_icmp .eq 5, 3) := by decide +kernel
theorem dX7_dropPage_38 : decode cX7_dropPage 38 = .ok (.iconst 0, 1) := by decide +kernel
theorem dX7_dropPage_39 : decode cX7_dropPage 39 = .ok (.ireturn, 1) := by decide +kernel
theorem dX7_dropPage_40 : decode cX7_dropPage 40 = .ok (.aload_n 0, 1) := by decide +kernel
theorem dX7_dropPage_41 : decode cX7_dropPage 41 = .ok (.iload_n 2, 1) := by decide +kernel
theorem dX7_dropPage_42 : decode cX7_dropPage 42 = .ok (.invokevirtual 120, 3) := by decide +kernel
theorem dX7_dropPage_45 : decode cX7_dropPage 45 = .ok (.iconst 1, 1) := by decide +kernel
theorem dX7_dropPage_46 : decode cX7_dropPage 46 = .ok (.ireturn, 1) := by decide +kernel
theorem dX7_adviseAll_0 : decode cX7_adviseAll 0 = .ok (.iconst 0, 1) := by decide +kernel
theorem dX7_adviseAll_1 : decode cX7_adviseAll 1 = .ok (.istore_n 3, 1) := by decide +kernel
theorem dX7_adviseAll_2 : decode cX7_adviseAll 2 = .ok (.iload_n 1, 1) := by decide +kernel
theorem dX7_adviseAll_3 : decode cX7_adviseAll 3 = .ok (.istore 4, 2) := by decide +kernel
theorem dX7_adviseAll_5 : decode cX7_adviseAll 5 = .ok (.iload 4, 2) := by decide +kernel
theorem dX7_adviseAll_7 : decode cX7_adviseAll 7 = .ok (.iload_n 2, 1) := by decide +kernel
theorem dX7_adviseAll_8 : decode cX7_adviseAll 8 = .ok (.if_icmp .gt 30, 3) := by decide +kernel
theorem dX7_adviseAll_11 : decode cX7_adviseAll 11 = .ok (.aload_n 0, 1) := by decide +kernel
theorem dX7_adviseAll_12 : decode cX7_adviseAll 12 = .ok (.getfield 35, 3) := by decide +kernel
theorem dX7_adviseAll_15 : decode cX7_adviseAll 15 = .ok (.iload 4, 2) := by decide +kernel
theorem dX7_adviseAll_17 : decode cX7_adviseAll 17 = .ok (.iaload, 1) := by decide +kernel
theorem dX7_adviseAll_18 : decode cX7_adviseAll 18 = .ok (.ifCond .ne 14, 3) := by decide +kernel
theorem dX7_adviseAll_21 : decode cX7_adviseAll 21 = .ok (.aload_n 0, 1) := by decide +kernel
theorem dX7_adviseAll_22 : decode cX7_adviseAll 22 = .ok (.getfield 35, 3) := by decide +kernel
theorem dX7_adviseAll_25 : decode cX7_adviseAll 25 = .ok (.iload 4, 2) := by decide +kernel
theorem dX7_adviseAll_27 : decode cX7_adviseAll 27 = .ok (.iconst 1, 1) := by decide +kernel
theorem dX7_adviseAll_28 : decode cX7_adviseAll 28 = .ok (.iastore, 1) := by decide +kernel
theorem dX7_adviseAll_29 : decode cX7_adviseAll 29 = .ok (.iinc 3 1, 3) := by decide +kernel
theorem dX7_adviseAll_32 : decode cX7_adviseAll 32 = .ok (.iinc 4 1, 3) := by decide +kernel
theorem dX7_adviseAll_35 : decode cX7_adviseAll 35 = .ok (.goto (-30), 3) := by decide +kernel
theorem dX7_adviseAll_38 : decode cX7_adviseAll 38 = .ok (.iload_n 3, 1) := by decide +kernel
theorem dX7_adviseAll_39 : decode cX7_adviseAll 39 = .ok (.ireturn, 1) := by decide +kernel
theorem dX7_adviseNoMore_0 : decode cX7_adviseNoMore 0 = .ok (.iconst 0, 1) := by decide +kernel
theorem dX7_adviseNoMore_1 : decode cX7_adviseNoMore 1 = .ok (.istore_n 3, 1) := by decide +kernel
theorem dX7_adviseNoMore_2 : decode cX7_adviseNoMore 2 = .ok (.iload_n 1, 1) := by decide +kernel
theorem dX7_adviseNoMore_3 : decode cX7_adviseNoMore 3 = .ok (.istore 4, 2) := by decide +kernel
theorem dX7_adviseNoMore_5 : decode cX7_adviseNoMore 5 = .ok (.iload 4, 2) := by decide +kernel
theorem dX7_adviseNoMore_7 : decode cX7_adviseNoMore 7 = .ok (.iload_n 2, 1) := by decide +kernel
theorem dX7_adviseNoMore_8 : decode cX7_adviseNoMore 8 = .ok (.if_icmp .gt 63, 3) := by decide +kernel
theorem dX7_adviseNoMore_11 : decode cX7_adviseNoMore 11 = .ok (.aload_n 0, 1) := by decide +kernel
theorem dX7_adviseNoMore_12 : decode cX7_adviseNoMore 12 = .ok (.getfield 35, 3) := by decide +kernel
theorem dX7_adviseNoMore_15 : decode cX7_adviseNoMore 15 = .ok (.iload 4, 2) := by decide +kernel
theorem dX7_adviseNoMore_17 : decode cX7_adviseNoMore 17 = .ok (.iaload, 1) := by decide +kernel
theorem dX7_adviseNoMore_18 : decode cX7_adviseNoMore 18 = .ok (.ifCond .ne 6, 3) := by decide +kernel
theorem dX7_adviseNoMore_21 : decode cX7_adviseNoMore 21 = .ok (.goto 44, 3) := by decide +kernel
theorem dX7_adviseNoMore_24 : decode cX7_adviseNoMore 24 = .ok (.aload_n 0, 1) := by decide +kernel
theorem dX7_adviseNoMore_25 : decode cX7_adviseNoMore 25 = .ok (.iload 4, 2) := by decide +kernel
theorem dX7_adviseNoMore_27 : decode cX7_adviseNoMore 27 = .ok (.invokevirtual 96, 3) := by decide +kernel
theorem dX7_adviseNoMore_30 : decode cX7_adviseNoMore 30 = .ok (.ifCond .eq 15, 3) := by decide +kernel
theorem dX7_adviseNoMore_33 : decode cX7_adviseNoMore 33 = .ok (.aload_n 0, 1) := by decide +kernel
theorem dX7_adviseNoMore_34 : decode cX7_adviseNoMore 34 = .ok (.iload 4, 2) := by decide +kernel
theorem dX7_adviseNoMore_36 : decode cX7_adviseNoMore 36 = .ok (.invokevirtual 106, 3) := by decide +kernel
theorem dX7_adviseNoMore_39 : decode cX7_adviseNoMore 39 = .ok (.iconst (-1), 1) := by decide +kernel
theorem dX7_adviseNoMore_40 : decode cX7_adviseNoMore 40 = .ok (.if_icmp .ne 5, 3) := by decide +kernel
theorem dX7_adviseNoMore_43 : decode cX7_adviseNoMore 43 = .ok (.iload_n 3, 1) := by decide +kernel
theorem dX7_adviseNoMore_44 : decode cX7_adviseNoMore 44 = .ok (.ireturn, 1) := by decide +kernel
theorem dX7_adviseNoMore_45 : decode cX7_adviseNoMore 45 = .ok (.aload_n 0, 1) := by decide +kernel
theorem dX7_adviseNoMore_46 : decode cX7_adviseNoMore 46 = .ok (.getfield 28, 3) := by decide +kernel
theorem dX7_adviseNoMore_49 : decode cX7_adviseNoMore 49 = .ok (.iload 4, 2) := by decide +kernel
theorem dX7_adviseNoMore_51 : decode cX7_adviseNoMore 51 = .ok (.invokevirtual 135, 3) := by decide +kernel
theorem dX7_adviseNoMore_54 : decode cX7_adviseNoMore 54 = .ok (.aload_n 0, 1) := by decide +kernel
theorem dX7_adviseNoMore_55 : decode cX7_adviseNoMore 55 = .ok (.getfield 35, 3) := by decide +kernel
theorem dX7_adviseNoMore_58 : decode cX7_adviseNoMore 58 = .ok (.iload 4, 2) := by decide +kernel
theorem dX7_adviseNoMore_60 : decode cX7_adviseNoMore 60 = .ok (.iconst 0, 1) := by decide +kernel
theorem dX7_adviseNoMore_61 : decode cX7_adviseNoMore 61 = .ok (.iastore, 1) := by decide +kernel
theorem dX7_adviseNoMore_62 : decode cX7_adviseNoMore 62 = .ok (.iinc 3 1, 3) := by decide +kernel
theorem dX7_adviseNoMore_65 : decode cX7_adviseNoMore 65 = .ok (.iinc 4 1, 3) := by decide +kernel
theorem dX7_adviseNoMore_68 : decode cX7_adviseNoMore 68 = .ok (.goto (-63), 3) := by decide +kernel
theorem dX7_adviseNoMore_71 : decode cX7_adviseNoMore 71 = .ok (.iload_n 3, 1) := by decide +kernel
theorem dX7_adviseNoMore_72 : decode cX7_adviseNoMore 72 = .ok (.ireturn, 1) := by decide +kernel
theorem dX7_scanMany_0 : decode cX7_scanMany 0 = .ok (.iconst 0, 1) := by decide +kernel
theorem dX7_scanMany_1 : decode cX7_scanMany 1 = .ok (.istore_n 2, 1) := by decide +kernel
theorem dX7_scanMany_2 : decode cX7_scanMany 2 = .ok (.iconst 0, 1) := by decide +kernel
theorem dX7_scanMany_3 : decode cX7_scanMany 3 = .ok (.istore_n 3, 1) := by decide +kernel
theorem dX7_scanMany_4 : decode cX7_scanMany 4 = .ok (.iload_n 3, 1) := by decide +kernel
theorem dX7_scanMany_5 : decode cX7_scanMany 5 = .ok (.iload_n 1, 1) := by decide +kernel
theorem dX7_scanMany_6 : decode cX7_scanMany 6 = .ok (.if_icmp .ge 16, 3) := by decide +kernel
theorem dX7_scanMany_9 : decode cX7_scanMany 9 = .ok (.iload_n 2, 1) := by decide +kernel
theorem dX7_scanMany_10 : decode cX7_scanMany 10 = .ok (.aload_n 0, 1) := by decide +kernel
theorem dX7_scanMany_11 : decode cX7_scanMany 11 = .ok (.invokevirtual 138, 3) := by decide +kernel
theorem dX7_scanMany_14 : decode cX7_scanMany 14 = .ok (.iadd, 1) := by decide +kernel
theorem dX7_scanMany_15 : decode cX7_scanMany 15 = .ok (.istore_n 2, 1) := by decide +kernel
theorem dX7_scanMany_16 : decode cX7_scanMany 16 = .ok (.iinc 3 1, 3) := by decide +kernel
theorem dX7_scanMany_19 : decode cX7_scanMany 19 = .ok (.goto (-15), 3) := by decide +kernel
theorem dX7_scanMany_22 : decode cX7_scanMany 22 = .ok (.iload_n 2, 1) := by decide +kernel
theorem dX7_scanMany_23 : decode cX7_scanMany 23 = .ok (.ireturn, 1) := by decide +kernel
theorem dX7_hasTimeFor_0 : decode cX7_hasTimeFor 0 = .ok (.aload_n 0, 1) := by decide +kernel
theorem dX7_hasTimeFor_1 : decode cX7_hasTimeFor 1 = .ok (.getfield 50, 3) := by decide +kernel
theorem dX7_hasTimeFor_4 : decode cX7_hasTimeFor 4 = .ok (.iconst 2, 1) := by decide +kernel
theorem dX7_hasTimeFor_5 : decode cX7_hasTimeFor 5 = .ok (.iaload, 1) := by decide +kernel
theorem dX7_hasTimeFor_6 : decode cX7_hasTimeFor 6 = .ok (.iload_n 1, 1) := by decide +kernel
theorem dX7_hasTimeFor_7 : decode cX7_hasTimeFor 7 = .ok (.iadd, 1) := by decide +kernel
theorem dX7_hasTimeFor_8 : decode cX7_hasTimeFor 8 = .ok (.sipush 9999, 3) := by decide +kernel
theorem dX7_hasTimeFor_11 : decode cX7_hasTimeFor 11 = .ok (.if_icmp .gt 7, 3) := by decide +kernel
theorem dX7_hasTimeFor_14 : decode cX7_hasTimeFor 14 = .ok (.iconst 1, 1) := by decide +kernel
theorem dX7_hasTimeFor_15 : decode cX7_hasTimeFor 15 = .ok (.goto 4, 3) := by decide +kernel
theorem dX7_hasTimeFor_18 : decode cX7_hasTimeFor 18 = .ok (.iconst 0, 1) := by decide +kernel
theorem dX7_hasTimeFor_19 : decode cX7_hasTimeFor 19 = .ok (.ireturn, 1) := by decide +kernel
theorem dX7_tick_0 : decode cX7_tick 0 = .ok (.iconst 0, 1) := by decide +kernel
theorem dX7_tick_1 : decode cX7_tick 1 = .ok (.istore_n 2, 1) := by decide +kernel
theorem dX7_tick_2 : decode cX7_tick 2 = .ok (.iconst 0, 1) := by decide +kernel
theorem dX7_tick_3 : decode cX7_tick 3 = .ok (.istore_n 3, 1) := by decide +kernel
theorem dX7_tick_4 : decode cX7_tick 4 = .ok (.iload_n 3, 1) := by decide +kernel
theorem dX7_tick_5 : decode cX7_tick 5 = .ok (.iload_n 1, 1) := by decide +kernel
theorem dX7_tick_6 : decode cX7_tick 6 = .ok (.if_icmp .ge 50, 3) := by decide +kernel
theorem dX7_tick_9 : decode cX7_tick 9 = .ok (.aload_n 0, 1) := by decide +kernel
theorem dX7_tick_10 : decode cX7_tick 10 = .ok (.getfield 50, 3) := by decide +kernel
theorem dX7_tick_13 : decode cX7_tick 13 = .ok (.iconst 0, 1) := by decide +kernel
theorem dX7_tick_14 : decode cX7_tick 14 = .ok (.iaload, 1) := by decide +kernel
theorem dX7_tick_15 : decode cX7_tick 15 = .ok (.istore 4, 2) := by decide +kernel
theorem dX7_tick_17 : decode cX7_tick 17 = .ok (.iconst 0, 1) := by decide +kernel
theorem dX7_tick_18 : decode cX7_tick 18 = .ok (.istore 5, 2) := by decide +kernel
theorem dX7_tick_20 : decode cX7_tick 20 = .ok (.iload 5, 2) := by decide +kernel
theorem dX7_tick_22 : decode cX7_tick 22 = .ok (.iload 4, 2) := by decide +kernel
theorem dX7_tick_24 : decode cX7_tick 24 = .ok (.if_icmp .ge 16, 3) := by decide +kernel
theorem dX7_tick_27 : decode cX7_tick 27 = .ok (.iload_n 2, 1) := by decide +kernel
theorem dX7_tick_28 : decode cX7_tick 28 = .ok (.aload_n 0, 1) := by decide +kernel
theorem dX7_tick_29 : decode cX7_tick 29 = .ok (.invokevirtual 138, 3) := by decide +kernel
theorem dX7_tick_32 : decode cX7_tick 32 = .ok (.iadd, 1) := by decide +kernel
theorem dX7_tick_33 : decode cX7_tick 33 = .ok (.istore_n 2, 1) := by decide +kernel
theorem dX7_tick_34 : decode cX7_tick 34 = .ok (.iinc 5 1, 3) := by decide +kernel
theorem dX7_tick_37 : decode cX7_tick 37 = .ok (.goto (-17), 3) := by decide +kernel
theorem dX7_tick_40 : decode cX7_tick 40 = .ok (.aload_n 0, 1) := by decide +kernel
theorem dX7_tick_41 : decode cX7_tick 41 = .ok (.getfield 50, 3) := by decide +kernel
theorem dX7_tick_44 : decode cX7_tick 44 = .ok (.iconst 2, 1) := by decide +kernel
theorem dX7_tick_45 : decode cX7_tick 45 = .ok (.dup2, 1) := by decide +kernel
theorem dX7_tick_46 : decode cX7_tick 46 = .ok (.iaload, 1) := by decide +kernel
theorem dX7_tick_47 : decode cX7_tick 47 = .ok (.iconst 1, 1) := by decide +kernel
theorem dX7_tick_48 : decode cX7_tick 48 = .ok (.iadd, 1) := by decide +kernel
theorem dX7_tick_49 : decode cX7_tick 49 = .ok (.iastore, 1) := by decide +kernel
theorem dX7_tick_50 : decode cX7_tick 50 = .ok (.iinc 3 1, 3) := by decide +kernel
theorem dX7_tick_53 : decode cX7_tick 53 = .ok (.goto (-49), 3) := by decide +kernel
theorem dX7_tick_56 : decode cX7_tick 56 = .ok (.iload_n 2, 1) := by decide +kernel
theorem dX7_tick_57 : decode cX7_tick 57 = .ok (.ireturn, 1) := by decide +kernel
theorem dX7_scanNext_0 : decode cX7_scanNext 0 = .ok (.aload_n 0, 1) := by decide +kernel
theorem dX7_scanNext_1 : decode cX7_scanNext 1 = .ok (.aload_n 0, 1) := by decide +kernel
theorem dX7_scanNext_2 : decode cX7_scanNext 2 = .ok (.getfield 50, 3) := by decide +kernel
theorem dX7_scanNext_5 : decode cX7_scanNext 5 = .ok (.bipush 9, 2) := by decide +kernel
theorem dX7_scanNext_7 : decode cX7_scanNext 7 = .ok (.iaload, 1) := by decide +kernel
theorem dX7_scanNext_8 : decode cX7_scanNext 8 = .ok (.invokevirtual 141, 3) := by decide +kernel
theorem dX7_scanNext_11 : decode cX7_scanNext 11 = .ok (.istore_n 1, 1) := by decide +kernel
theorem dX7_scanNext_12 : decode cX7_scanNext 12 = .ok (.iload_n 1, 1) := by decide +kernel
theorem dX7_scanNext_13 : decode cX7_scanNext 13 = .ok (.iconst (-1), 1) := by decide +kernel
theorem dX7_scanNext_14 : decode cX7_scanNext 14 = .ok (.if_icmp .ne 20, 3) := by decide +kernel
theorem dX7_scanNext_17 : decode cX7_scanNext 17 = .ok (.aload_n 0, 1) := by decide +kernel
theorem dX7_scanNext_18 : decode cX7_scanNext 18 = .ok (.iconst 0, 1) := by decide +kernel
theorem dX7_scanNext_19 : decode cX7_scanNext 19 = .ok (.invokevirtual 141, 3) := by decide +kernel
theorem dX7_scanNext_22 : decode cX7_scanNext 22 = .ok (.istore_n 1, 1) := by decide +kernel
theorem dX7_scanNext_23 : decode cX7_scanNext 23 = .ok (.iload_n 1, 1) := by decide +kernel
theorem dX7_scanNext_24 : decode cX7_scanNext 24 = .ok (.iconst (-1), 1) := by decide +kernel
theorem dX7_scanNext_25 : decode cX7_scanNext 25 = .ok (.if_icmp .ne 5, 3) := by decide +kernel
theorem dX7_scanNext_28 : decode cX7_scanNext 28 = .ok (.iconst 0, 1) := by decide +kernel
theorem dX7_scanNext_29 : decode cX7_scanNext 29 = .ok (.ireturn, 1) := by decide +kernel
theorem dX7_scanNext_30 : decode cX7_scanNext 30 = .ok (.aload_n 0, 1) := by decide +kernel
theorem dX7_scanNext_31 : decode cX7_scanNext 31 = .ok (.invokevirtual 144, 3) := by decide +kernel
theorem dX7_scanNext_34 : decode cX7_scanNext 34 = .ok (.aload_n 0, 1) := by decide +kernel
theorem dX7_scanNext_35 : decode cX7_scanNext 35 = .ok (.getfield 50, 3) := by decide +kernel
theorem dX7_scanNext_38 : decode cX7_scanNext 38 = .ok (.bipush 9, 2) := by decide +kernel
theorem dX7_scanNext_40 : decode cX7_scanNext 40 = .ok (.iload_n 1, 1) := by decide +kernel
theorem dX7_scanNext_41 : decode cX7_scanNext 41 = .ok (.iconst 1, 1) := by decide +kernel
theorem dX7_scanNext_42 : decode cX7_scanNext 42 = .ok (.iadd, 1) := by decide +kernel
theorem dX7_scanNext_43 : decode cX7_scanNext 43 = .ok (.iastore, 1) := by decide +kernel
theorem dX7_scanNext_44 : decode cX7_scanNext 44 = .ok (.aload_n 0, 1) := by decide +kernel
theorem dX7_scanNext_45 : decode cX7_scanNext 45 = .ok (.getfield 50, 3) := by decide +kernel
theorem dX7_scanNext_48 : decode cX7_scanNext 48 = .ok (.iconst 4, 1) := by decide +kernel
theorem dX7_scanNext_49 : decode cX7_scanNext 49 = .ok (.dup2, 1) := by decide +kernel
theorem dX7_scanNext_50 : decode cX7_scanNext 50 = .ok (.iaload, 1) := by decide +kernel
theorem dX7_scanNext_51 : decode cX7_scanNext 51 = .ok (.iconst 1, 1) := by decide +kernel
theorem dX7_scanNext_52 : decode cX7_scanNext 52 = .ok (.iadd, 1) := by decide +kernel
theorem dX7_scanNext_53 : decode cX7_scanNext 53 = .ok (.iastore, 1) := by decide +kernel
theorem dX7_scanNext_54 : decode cX7_scanNext 54 = .ok (.aload_n 0, 1) := by decide +kernel
theorem dX7_scanNext_55 : decode cX7_scanNext 55 = .ok (.getfield 50, 3) := by decide +kernel
theorem dX7_scanNext_58 : decode cX7_scanNext 58 = .ok (.bipush 11, 2) := by decide +kernel
theorem dX7_scanNext_60 : decode cX7_scanNext 60 = .ok (.dup2, 1) := by decide +kernel
theorem dX7_scanNext_61 : decode cX7_scanNext 61 = .ok (.iaload, 1) := by decide +kernel
theorem dX7_scanNext_62 : decode cX7_scanNext 62 = .ok (.iconst 1, 1) := by decide +kernel
theorem dX7_scanNext_63 : decode cX7_scanNext 63 = .ok (.iadd, 1) := by decide +kernel
theorem dX7_scanNext_64 : decode cX7_scanNext 64 = .ok (.iastore, 1) := by decide +kernel
theorem dX7_scanNext_65 : decode cX7_scanNext 65 = .ok (.aload_n 0, 1) := by decide +kernel
theorem dX7_scanNext_66 : decode cX7_scanNext 66 = .ok (.iload_n 1, 1) := by decide +kernel
theorem dX7_scanNext_67 : decode cX7_scanNext 67 = .ok (.invokevirtual 147, 3) := by decide +kernel
theorem dX7_scanNext_70 : decode cX7_scanNext 70 = .ok (.istore_n 2, 1) := by decide +kernel
theorem dX7_scanNext_71 : decode cX7_scanNext 71 = .ok (.aload_n 0, 1) := by decide +kernel
theorem dX7_scanNext_72 : decode cX7_scanNext 72 = .ok (.getfield 38, 3) := by decide +kernel
theorem dX7_scanNext_75 : decode cX7_scanNext 75 = .ok (.iload_n 1, 1) := by decide +kernel
theorem dX7_scanNext_76 : decode cX7_scanNext 76 = .ok (.iload_n 2, 1) := by decide +kernel
theorem dX7_scanNext_77 : decode cX7_scanNext 77 = .ok (.iastore, 1) := by decide +kernel
theorem dX7_scanNext_78 : decode cX7_scanNext 78 = .ok (.iload_n 2, 1) := by decide +kernel
theorem dX7_scanNext_79 : decode cX7_scanNext 79 = .ok (.iconst 3, 1) := by decide +kernel
theorem dX7_scanNext_80 : decode cX7_scanNext 80 = .ok (.if_icmp .eq 48, 3) := by decide +kernel
theorem dX7_scanNext_83 : decode cX7_scanNext 83 = .ok (.aload_n 0, 1) := by decide +kernel
theorem dX7_scanNext_84 : decode cX7_scanNext 84 = .ok (.getfield 44, 3) := by decide +kernel
theorem dX7_scanNext_87 : decode cX7_scanNext 87 = .ok (.iload_n 1, 1) := by decide +kernel
theorem dX7_scanNext_88 : decode cX7_scanNext 88 = .ok (.iload_n 2, 1) := by decide +kernel
theorem dX7_scanNext_89 : decode cX7_scanNext 89 = .ok (.bipush 7, 2) := by decide +kernel
theorem dX7_scanNext_91 : decode cX7_scanNext 91 = .ok (.if_icmp .eq 9, 3) := by decide +kernel
theorem dX7_scanNext_94 : decode cX7_scanNext 94 = .ok (.iload_n 2, 1) := by decide +kernel
theorem dX7_scanNext_95 : decode cX7_scanNext 95 = .ok (.bipush 9, 2) := by decide +kernel
theorem dX7_scanNext_97 : decode cX7_scanNext 97 = .ok (.if_icmp .ne 14, 3) := by decide +kernel
theorem dX7_scanNext_100 : decode cX7_scanNext 100 = .ok (.aload_n 0, 1) := by decide +kernel
theorem dX7_scanNext_101 : decode cX7_scanNext 101 = .ok (.getfield 44, 3) := by decide +kernel
theorem dX7_scanNext_104 : decode cX7_scanNext 104 = .ok (.iload_n 1, 1) := by decide +kernel
theorem dX7_scanNext_105 : decode cX7_scanNext 105 = .ok (.iaload, 1) := by decide +kernel
theorem dX7_scanNext_106 : decode cX7_scanNext 106 = .ok (.iconst 1, 1) := by decide +kernel
theorem dX7_scanNext_107 : decode cX7_scanNext 107 = .ok (.iadd, 1) := by decide +kernel
theorem dX7_scanNext_108 : decode cX7_scanNext 108 = .ok (.goto 4, 3) := by decide +kernel
theorem dX7_scanNext_111 : decode cX7_scanNext 111 = .ok (.iconst 0, 1) := by decide +kernel
theorem dX7_scanNext_112 : decode cX7_scanNext 112 = .ok (.iastore, 1) := by decide +kernel
theorem dX7_scanNext_113 : decode cX7_scanNext 113 = .ok (.aload_n 0, 1) := by decide +kernel
theorem dX7_scanNext_114 : decode cX7_scanNext 114 = .ok (.getfield 47, 3) := by decide +kernel
theorem dX7_scanNext_117 : decode cX7_scanNext 117 = .ok (.iload_n 1, 1) := by decide +kernel
theorem dX7_scanNext_118 : decode cX7_scanNext 118 = .ok (.aload_n 0, 1) := by decide +kernel
theorem dX7_scanNext_119 : decode cX7_scanNext 119 = .ok (.getfield 44, 3) := by decide +kernel
theorem dX7_scanNext_122 : decode cX7_scanNext 122 = .ok (.iload_n 1, 1) := by decide +kernel
theorem dX7_scanNext_123 : decode cX7_scanNext 123 = .ok (.iaload, 1) := by decide +kernel
theorem dX7_scanNext_124 : decode cX7_scanNext 124 = .ok (.invokestatic 150, 3) := by decide +kernel
theorem dX7_scanNext_127 : decode cX7_scanNext 127 = .ok (.iastore, 1) := by decide +kernel
theorem dX7_scanNext_128 : decode cX7_scanNext 128 = .ok (.iload_n 2, 1) := by decide +kernel
theorem dX7_scanNext_129 : decode cX7_scanNext 129 = .ok (.iconst 4, 1) := by decide +kernel
theorem dX7_scanNext_130 : decode cX7_scanNext 130 = .ok (.if_icmp .eq 16, 3) := by decide +kernel
theorem dX7_scanNext_133 : decode cX7_scanNext 133 = .ok (.iload_n 2, 1) := by decide +kernel
theorem dX7_scanNext_134 : decode cX7_scanNext 134 = .ok (.iconst 5, 1) := by decide +kernel
theorem dX7_scanNext_135 : decode cX7_scanNext 135 = .ok (.if_icmp .eq 11, 3) := by decide +kernel
theorem dX7_scanNext_138 : decode cX7_scanNext 138 = .ok (.iload_n 2, 1) := by decide +kernel
theorem dX7_scanNext_139 : decode cX7_scanNext 139 = .ok (.bipush 8, 2) := by decide +kernel
theorem dX7_scanNext_141 : decode cX7_scanNext 141 = .ok (.if_icmp .eq 5, 3) := by decide +kernel
theorem dX7_scanNext_144 : decode cX7_scanNext 144 = .ok (.iconst 0, 1) := by decide +kernel
theorem dX7_scanNext_145 : decode cX7_scanNext 145 = .ok (.ireturn, 1) := by decide +kernel
theorem dX7_scanNext_146 : decode cX7_scanNext 146 = .ok (.aload_n 0, 1) := by decide +kernel
theorem dX7_scanNext_147 : decode cX7_scanNext 147 = .ok (.getfield 50, 3) := by decide +kernel
theorem dX7_scanNext_150 : decode cX7_scanNext 150 = .ok (.iload_n 2, 1) := by decide +kernel
theorem dX7_scanNext_151 : decode cX7_scanNext 151 = .ok (.iconst 4, 1) := by decide +kernel
theorem dX7_scanNext_152 : decode cX7_scanNext 152 = .ok (.if_icmp .ne 8, 3) := by decide +kernel
theorem dX7_scanNext_155 : decode cX7_scanNext 155 = .ok (.bipush 7, 2) := by decide +kernel
theorem dX7_scanNext_157 : decode cX7_scanNext 157 = .ok (.goto 14, 3) := by decide +kernel
theorem dX7_scanNext_160 : decode cX7_scanNext 160 = .ok (.iload_n 2, 1) := by decide +kernel
theorem dX7_scanNext_161 : decode cX7_scanNext 161 = .ok (.iconst 5, 1) := by decide +kernel
theorem dX7_scanNext_162 : decode cX7_scanNext 162 = .ok (.if_icmp .ne 7, 3) := by decide +kernel
theorem dX7_scanNext_165 : decode cX7_scanNext 165 = .ok (.iconst 5, 1) := by decide +kernel
theorem dX7_scanNext_166 : decode cX7_scanNext 166 = .ok (.goto 5, 3) := by decide +kernel
theorem dX7_scanNext_169 : decode cX7_scanNext 169 = .ok (.bipush 6, 2) := by decide +kernel
theorem dX7_scanNext_171 : decode cX7_scanNext 171 = .ok (.dup2, 1) := by decide +kernel
theorem dX7_scanNext_172 : decode cX7_scanNext 172 = .ok (.iaload, 1) := by decide +kernel
theorem dX7_scanNext_173 : decode cX7_scanNext 173 = .ok (.iconst 1, 1) := by decide +kernel
theorem dX7_scanNext_174 : decode cX7_scanNext 174 = .ok (.iadd, 1) := by decide +kernel
theorem dX7_scanNext_175 : decode cX7_scanNext 175 = .ok (.iastore, 1) := by decide +kernel
theorem dX7_scanNext_176 : decode cX7_scanNext 176 = .ok (.aload_n 0, 1) := by decide +kernel
theorem dX7_scanNext_177 : decode cX7_scanNext 177 = .ok (.getfield 50, 3) := by decide +kernel
theorem dX7_scanNext_180 : decode cX7_scanNext 180 = .ok (.bipush 10, 2) := by decide +kernel
theorem dX7_scanNext_182 : decode cX7_scanNext 182 = .ok (.dup2, 1) := by decide +kernel
theorem dX7_scanNext_183 : decode cX7_scanNext 183 = .ok (.iaload, 1) := by decide +kernel
theorem dX7_scanNext_184 : decode cX7_scanNext 184 = .ok (.iconst 1, 1) := by decide +kernel
theorem dX7_scanNext_185 : decode cX7_scanNext 185 = .ok (.iadd, 1) := by decide +kernel
theorem dX7_scanNext_186 : decode cX7_scanNext 186 = .ok (.iastore, 1) := by decide +kernel
theorem dX7_scanNext_187 : decode cX7_scanNext 187 = .ok (.iconst 1, 1) := by decide +kernel
theorem dX7_scanNext_188 : decode cX7_scanNext 188 = .ok (.ireturn, 1) := by decide +kernel
theorem dX7_advisedFrom_0 : decode cX7_advisedFrom 0 = .ok (.iload_n 1, 1) := by decide +kernel
theorem dX7_advisedFrom_1 : decode cX7_advisedFrom 1 = .ok (.istore_n 2, 1) := by decide +kernel
theorem dX7_advisedFrom_2 : decode cX7_advisedFrom 2 = .ok (.iload_n 2, 1) := by decide +kernel
theorem dX7_advisedFrom_3 : decode cX7_advisedFrom 3 = .ok (.aload_n 0, 1) := by decide +kernel
theorem dX7_advisedFrom_4 : decode cX7_advisedFrom 4 = .ok (.getfield 53, 3) := by decide +kernel
theorem dX7_advisedFrom_7 : decode cX7_advisedFrom 7 = .ok (.getfield 153, 3) := by decide +kernel
theorem dX7_advisedFrom_10 : decode cX7_advisedFrom 10 = .ok (.if_icmp .ge 21, 3) := by decide +kernel
theorem dX7_advisedFrom_13 : decode cX7_advisedFrom 13 = .ok (.aload_n 0, 1) := by decide +kernel
theorem dX7_advisedFrom_14 : decode cX7_advisedFrom 14 = .ok (.getfield 35, 3) := by decide +kernel
theorem dX7_advisedFrom_17 : decode cX7_advisedFrom 17 = .ok (.iload_n 2, 1) := by decide +kernel
theorem dX7_advisedFrom_18 : decode cX7_advisedFrom 18 = .ok (.iaload, 1) := by decide +kernel
theorem dX7_advisedFrom_19 : decode cX7_advisedFrom 19 = .ok (.iconst 1, 1) := by decide +kernel
theorem dX7_advisedFrom_20 : decode cX7_advisedFrom 20 = .ok (.if_icmp .ne 5, 3) := by decide +kernel
theorem dX7_advisedFrom_23 : decode cX7_advisedFrom 23 = .ok (.iload_n 2, 1) := by decide +kernel
theorem dX7_advisedFrom_24 : decode cX7_advisedFrom 24 = .ok (.ireturn, 1) := by decide +kernel
theorem dX7_advisedFrom_25 : decode cX7_advisedFrom 25 = .ok (.iinc 2 1, 3) := by decide +kernel
theorem dX7_advisedFrom_28 : decode cX7_advisedFrom 28 = .ok (.goto (-26), 3) := by decide +kernel
theorem dX7_advisedFrom_31 : decode cX7_advisedFrom 31 = .ok (.iconst (-1), 1) := by decide +kernel
theorem dX7_advisedFrom_32 : decode cX7_advisedFrom 32 = .ok (.ireturn, 1) := by decide +kernel
theorem dX7_endRound_0 : decode cX7_endRound 0 = .ok (.aload_n 0, 1) := by decide +kernel
theorem dX7_endRound_1 : decode cX7_endRound 1 = .ok (.getfield 28, 3) := by decide +kernel
theorem dX7_endRound_4 : decode cX7_endRound 4 = .ok (.invokevirtual 61, 3) := by decide +kernel
theorem dX7_endRound_7 : decode cX7_endRound 7 = .ok (.aload_n 0, 1) := by decide +kernel
theorem dX7_endRound_8 : decode cX7_endRound 8 = .ok (.getfield 50, 3) := by decide +kernel
theorem dX7_endRound_11 : decode cX7_endRound 11 = .ok (.iconst 0, 1) := by decide +kernel
theorem dX7_endRound_12 : decode cX7_endRound 12 = .ok (.iaload, 1) := by decide +kernel
theorem dX7_endRound_13 : decode cX7_endRound 13 = .ok (.istore_n 1, 1) := by decide +kernel
theorem dX7_endRound_14 : decode cX7_endRound 14 = .ok (.iconst 4, 1) := by decide +kernel
theorem dX7_endRound_15 : decode cX7_endRound 15 = .ok (.aload_n 0, 1) := by decide +kernel
theorem dX7_endRound_16 : decode cX7_endRound 16 = .ok (.getfield 50, 3) := by decide +kernel
theorem dX7_endRound_19 : decode cX7_endRound 19 = .ok (.bipush 10, 2) := by decide +kernel
theorem dX7_endRound_21 : decode cX7_endRound 21 = .ok (.iaload, 1) := by decide +kernel
theorem dX7_endRound_22 : decode cX7_endRound 22 = .ok (.imul, 1) := by decide +kernel
theorem dX7_endRound_23 : decode cX7_endRound 23 = .ok (.aload_n 0, 1) := by decide +kernel
theorem dX7_endRound_24 : decode cX7_endRound 24 = .ok (.getfield 50, 3) := by decide +kernel
theorem dX7_endRound_27 : decode cX7_endRound 27 = .ok (.bipush 11, 2) := by decide +kernel
theorem dX7_endRound_29 : decode cX7_endRound 29 = .ok (.iaload, 1) := by decide +kernel
theorem dX7_endRound_30 : decode cX7_endRound 30 = .ok (.if_icmp .lt 38, 3) := by decide +kernel
theorem dX7_endRound_33 : decode cX7_endRound 33 = .ok (.aload_n 0, 1) := by decide +kernel
theorem dX7_endRound_34 : decode cX7_endRound 34 = .ok (.getfield 50, 3) := by decide +kernel
theorem dX7_endRound_37 : decode cX7_endRound 37 = .ok (.iconst 0, 1) := by decide +kernel
theorem dX7_endRound_38 : decode cX7_endRound 38 = .ok (.iconst 2, 1) := by decide +kernel
theorem dX7_endRound_39 : decode cX7_endRound 39 = .ok (.iload_n 1, 1) := by decide +kernel
theorem dX7_endRound_40 : decode cX7_endRound 40 = .ok (.imul, 1) := by decide +kernel
theorem dX7_endRound_41 : decode cX7_endRound 41 = .ok (.aload_n 0, 1) := by decide +kernel
theorem dX7_endRound_42 : decode cX7_endRound 42 = .ok (.getfield 53, 3) := by decide +kernel
theorem dX7_endRound_45 : decode cX7_endRound 45 = .ok (.getfield 156, 3) := by decide +kernel
theorem dX7_endRound_48 : decode cX7_endRound 48 = .ok (.if_icmp .ge 9, 3) := by decide +kernel
theorem dX7_endRound_51 : decode cX7_endRound 51 = .ok (.iconst 2, 1) := by decide +kernel
theorem dX7_endRound_52 : decode cX7_endRound 52 = .ok (.iload_n 1, 1) := by decide +kernel
theorem dX7_endRound_53 : decode cX7_endRound 53 = .ok (.imul, 1) := by decide +kernel
theorem dX7_endRound_54 : decode cX7_endRound 54 = .ok (.goto 10, 3) := by decide +kernel
theorem dX7_endRound_57 : decode cX7_endRound 57 = .ok (.aload_n 0, 1) := by decide +kernel
theorem dX7_endRound_58 : decode cX7_endRound 58 = .ok (.getfield 53, 3) := by decide +kernel
theorem dX7_endRound_61 : decode cX7_endRound 61 = .ok (.getfield 156, 3) := by decide +kernel
theorem dX7_endRound_64 : decode cX7_endRound 64 = .ok (.iastore, 1) := by decide +kernel
theorem dX7_endRound_65 : decode cX7_endRound 65 = .ok (.goto 45, 3) := by decide +kernel
theorem dX7_endRound_68 : decode cX7_endRound 68 = .ok (.aload_n 0, 1) := by decide +kernel
theorem dX7_endRound_69 : decode cX7_endRound 69 = .ok (.getfield 50, 3) := by decide +kernel
theorem dX7_endRound_72 : decode cX7_endRound 72 = .ok (.bipush 10, 2) := by decide +kernel
theorem dX7_endRound_74 : decode cX7_endRound 74 = .ok (.iaload, 1) := by decide +kernel
theorem dX7_endRound_75 : decode cX7_endRound 75 = .ok (.ifCond .ne 35, 3) := by decide +kernel
theorem dX7_endRound_78 : decode cX7_endRound 78 = .ok (.aload_n 0, 1) := by decide +kernel
theorem dX7_endRound_79 : decode cX7_endRound 79 = .ok (.getfield 50, 3) := by decide +kernel
theorem dX7_endRound_82 : decode cX7_endRound 82 = .ok (.iconst 0, 1) := by decide +kernel
theorem dX7_endRound_83 : decode cX7_endRound 83 = .ok (.iload_n 1, 1) := by decide +kernel
theorem dX7_endRound_84 : decode cX7_endRound 84 = .ok (.iconst 2, 1) := by decide +kernel
theorem dX7_endRound_85 : decode cX7_endRound 85 = .ok (.idiv, 1) := by decide +kernel
theorem dX7_endRound_86 : decode cX7_endRound 86 = .ok (.aload_n 0, 1) := by decide +kernel
theorem dX7_endRound_87 : decode cX7_endRound 87 = .ok (.getfield 53, 3) := by decide +kernel
theorem dX7_endRound_90 : decode cX7_endRound 90 = .ok (.getfield 68, 3) := by decide +kernel
theorem dX7_endRound_93 : decode cX7_endRound 93 = .ok (.if_icmp .le 9, 3) := by decide +kernel
theorem dX7_endRound_96 : decode cX7_endRound 96 = .ok (.iload_n 1, 1) := by decide +kernel
theorem dX7_endRound_97 : decode cX7_endRound 97 = .ok (.iconst 2, 1) := by decide +kernel
theorem dX7_endRound_98 : decode cX7_endRound 98 = .ok (.idiv, 1) := by decide +kernel
theorem dX7_endRound_99 : decode cX7_endRound 99 = .ok (.goto 10, 3) := by decide +kernel
theorem dX7_endRound_102 : decode cX7_endRound 102 = .ok (.aload_n 0, 1) := by decide +kernel
theorem dX7_endRound_103 : decode cX7_endRound 103 = .ok (.getfield 53, 3) := by decide +kernel
theorem dX7_endRound_106 : decode cX7_endRound 106 = .ok (.getfield 68, 3) := by decide +kernel
theorem dX7_endRound_109 : decode cX7_endRound 109 = .ok (.iastore, 1) := by decide +kernel
theorem dX7_endRound_110 : decode cX7_endRound 110 = .ok (.aload_n 0, 1) := by decide +kernel
theorem dX7_endRound_111 : decode cX7_endRound 111 = .ok (.getfield 50, 3) := by decide +kernel
theorem dX7_endRound_114 : decode cX7_endRound 114 = .ok (.bipush 10, 2) := by decide +kernel
theorem dX7_endRound_116 : decode cX7_endRound 116 = .ok (.iconst 0, 1) := by decide +kernel
theorem dX7_endRound_117 : decode cX7_endRound 117 = .ok (.iastore, 1) := by decide +kernel
theorem dX7_endRound_118 : decode cX7_endRound 118 = .ok (.aload_n 0, 1) := by decide +kernel
theorem dX7_endRound_119 : decode cX7_endRound 119 = .ok (.getfield 50, 3) := by decide +kernel
theorem dX7_endRound_122 : decode cX7_endRound 122 = .ok (.bipush 11, 2) := by decide +kernel
theorem dX7_endRound_124 : decode cX7_endRound 124 = .ok (.iconst 0, 1) := by decide +kernel
theorem dX7_endRound_125 : decode cX7_endRound 125 = .ok (.iastore, 1) := by decide +kernel
theorem dX7_endRound_126 : decode cX7_endRound 126 = .ok (.aload_n 0, 1) := by decide +kernel
theorem dX7_endRound_127 : decode cX7_endRound 127 = .ok (.getfield 50, 3) := by decide +kernel
theorem dX7_endRound_130 : decode cX7_endRound 130 = .ok (.bipush 9, 2) := by decide +kernel
theorem dX7_endRound_132 : decode cX7_endRound 132 = .ok (.iconst 0, 1) := by decide +kernel
theorem dX7_endRound_133 : decode cX7_endRound 133 = .ok (.iastore, 1) := by decide +kernel
theorem dX7_endRound_134 : decode cX7_endRound 134 = .ok (.aload_n 0, 1) := by decide +kernel
theorem dX7_endRound_135 : decode cX7_endRound 135 = .ok (.getfield 50, 3) := by decide +kernel
theorem dX7_endRound_138 : decode cX7_endRound 138 = .ok (.iconst 1, 1) := by decide +kernel
theorem dX7_endRound_139 : decode cX7_endRound 139 = .ok (.dup2, 1) := by decide +kernel
theorem dX7_endRound_140 : decode cX7_endRound 140 = .ok (.iaload, 1) := by decide +kernel
theorem dX7_endRound_141 : decode cX7_endRound 141 = .ok (.iconst 1, 1) := by decide +kernel
theorem dX7_endRound_142 : decode cX7_endRound 142 = .ok (.iadd, 1) := by decide +kernel
theorem dX7_endRound_143 : decode cX7_endRound 143 = .ok (.iastore, 1) := by decide +kernel
theorem dX7_endRound_144 : decode cX7_endRound 144 = .ok (.return_, 1) := by decide +kernel
theorem dX7_restAt_0 : decode cX7_restAt 0 = .ok (.iload_n 0, 1) := by decide +kernel
theorem dX7_restAt_1 : decode cX7_restAt 1 = .ok (.iconst 5, 1) := by decide +kernel
theorem dX7_restAt_2 : decode cX7_restAt 2 = .ok (.if_icmp .ge 14, 3) := by decide +kernel
theorem dX7_restAt_5 : decode cX7_restAt 5 = .ok (.iload_n 0, 1) := by decide +kernel
theorem dX7_restAt_6 : decode cX7_restAt 6 = .ok (.iconst 3, 1) := by decide +kernel
theorem dX7_restAt_7 : decode cX7_restAt 7 = .ok (.if_icmp .ge 7, 3) := by decide +kernel
theorem dX7_restAt_10 : decode cX7_restAt 10 = .ok (.iconst 0, 1) := by decide +kernel
theorem dX7_restAt_11 : decode cX7_restAt 11 = .ok (.goto 4, 3) := by decide +kernel
theorem dX7_restAt_14 : decode cX7_restAt 14 = .ok (.iconst 1, 1) := by decide +kernel
theorem dX7_restAt_15 : decode cX7_restAt 15 = .ok (.ireturn, 1) := by decide +kernel
theorem dX7_restAt_16 : decode cX7_restAt 16 = .ok (.iload_n 0, 1) := by decide +kernel
theorem dX7_restAt_17 : decode cX7_restAt 17 = .ok (.bipush 8, 2) := by decide +kernel
theorem dX7_restAt_19 : decode cX7_restAt 19 = .ok (.if_icmp .ge 7, 3) := by decide +kernel
theorem dX7_restAt_22 : decode cX7_restAt 22 = .ok (.iconst 2, 1) := by decide +kernel
theorem dX7_restAt_23 : decode cX7_restAt 23 = .ok (.goto 4, 3) := by decide +kernel
theorem dX7_restAt_26 : decode cX7_restAt 26 = .ok (.iconst 4, 1) := by decide +kernel
theorem dX7_restAt_27 : decode cX7_restAt 27 = .ok (.ireturn, 1) := by decide +kernel
theorem dX7_befall_0 : decode cX7_befall 0 = .ok (.aload_n 0, 1) := by decide +kernel
theorem dX7_befall_1 : decode cX7_befall 1 = .ok (.getfield 12, 3) := by decide +kernel
theorem dX7_befall_4 : decode cX7_befall 4 = .ok (.getfield 93, 3) := by decide +kernel
theorem dX7_befall_7 : decode cX7_befall 7 = .ok (.iload_n 1, 1) := by decide +kernel
theorem dX7_befall_8 : decode cX7_befall 8 = .ok (.iaload, 1) := by decide +kernel
theorem dX7_befall_9 : decode cX7_befall 9 = .ok (.istore_n 2, 1) := by decide +kernel
theorem dX7_befall_10 : decode cX7_befall 10 = .ok (.iload_n 2, 1) := by decide +kernel
theorem dX7_befall_11 : decode cX7_befall 11 = .ok (.iconst (-1), 1) := by decide +kernel
theorem dX7_befall_12 : decode cX7_befall 12 = .ok (.if_icmp .ne 12, 3) := by decide +kernel
theorem dX7_befall_15 : decode cX7_befall 15 = .ok (.aload_n 0, 1) := by decide +kernel
theorem dX7_befall_16 : decode cX7_befall 16 = .ok (.getfield 41, 3) := by decide +kernel
theorem dX7_befall_19 : decode cX7_befall 19 = .ok (.iload_n 1, 1) := by decide +kernel
theorem dX7_befall_20 : decode cX7_befall 20 = .ok (.iconst (-1), 1) := by decide +kernel
theorem dX7_befall_21 : decode cX7_befall 21 = .ok (.iastore, 1) := by decide +kernel
theorem dX7_befall_22 : decode cX7_befall 22 = .ok (.iconst 1, 1) := by decide +kernel
theorem dX7_befall_23 : decode cX7_befall 23 = .ok (.ireturn, 1) := by decide +kernel
theorem dX7_befall_24 : decode cX7_befall 24 = .ok (.aload_n 0, 1) := by decide +kernel
theorem dX7_befall_25 : decode cX7_befall 25 = .ok (.getfield 18, 3) := by decide +kernel
theorem dX7_befall_28 : decode cX7_befall 28 = .ok (.getfield 93, 3) := by decide +kernel
theorem dX7_befall_31 : decode cX7_befall 31 = .ok (.iload_n 2, 1) := by decide +kernel
theorem dX7_befall_32 : decode cX7_befall 32 = .ok (.iaload, 1) := by decide +kernel
theorem dX7_befall_33 : decode cX7_befall 33 = .ok (.iconst (-1), 1) := by decide +kernel
theorem dX7_befall_34 : decode cX7_befall 34 = .ok (.if_icmp .eq 5, 3) := by decide +kernel
theorem dX7_befall_37 : decode cX7_befall 37 = .ok (.iconst 2, 1) := by decide +kernel
theorem dX7_befall_38 : decode cX7_befall 38 = .ok (.ireturn, 1) := by decide +kernel
theorem dX7_befall_39 : decode cX7_befall 39 = .ok (.aload_n 0, 1) := by decide +kernel
theorem dX7_befall_40 : decode cX7_befall 40 = .ok (.getfield 53, 3) := by decide +kernel
theorem dX7_befall_43 : decode cX7_befall 43 = .ok (.getfield 159, 3) := by decide +kernel
theorem dX7_befall_46 : decode cX7_befall 46 = .ok (.ifCond .eq 24, 3) := by decide +kernel
theorem dX7_befall_49 : decode cX7_befall 49 = .ok (.aload_n 0, 1) := by decide +kernel
theorem dX7_befall_50 : decode cX7_befall 50 = .ok (.getfield 47, 3) := by decide +kernel
theorem dX7_befall_53 : decode cX7_befall 53 = .ok (.iload_n 1, 1) := by decide +kernel
theorem dX7_befall_54 : decode cX7_befall 54 = .ok (.iaload, 1) := by decide +kernel
theorem dX7_befall_55 : decode cX7_befall 55 = .ok (.ifCond .le 15, 3) := by decide +kernel
theorem dX7_befall_58 : decode cX7_befall 58 = .ok (.aload_n 0, 1) := by decide +kernel
theorem dX7_befall_59 : decode cX7_befall 59 = .ok (.getfield 47, 3) := by decide +kernel
theorem dX7_befall_62 : decode cX7_befall 62 = .ok (.iload_n 1, 1) := by decide +kernel
theorem dX7_befall_63 : decode cX7_befall 63 = .ok (.dup2, 1) := by decide +kernel
theorem dX7_befall_64 : decode cX7_befall 64 = .ok (.iaload, 1) := by decide +kernel
theorem dX7_befall_65 : decode cX7_befall 65 = .ok (.iconst 1, 1) := by decide +kernel
theorem dX7_befall_66 : decode cX7_befall 66 = .ok (.isub, 1) := by decide +kernel
theorem dX7_befall_67 : decode cX7_befall 67 = .ok (.iastore, 1) := by decide +kernel
theorem dX7_befall_68 : decode cX7_befall 68 = .ok (.iconst 3, 1) := by decide +kernel
theorem dX7_befall_69 : decode cX7_befall 69 = .ok (.ireturn, 1) := by decide +kernel
theorem dX7_befall_70 : decode cX7_befall 70 = .ok (.aload_n 0, 1) := by decide +kernel
theorem dX7_befall_71 : decode cX7_befall 71 = .ok (.getfield 31, 3) := by decide +kernel
theorem dX7_befall_74 : decode cX7_befall 74 = .ok (.iload_n 2, 1) := by decide +kernel
theorem dX7_befall_75 : decode cX7_befall 75 = .ok (.iaload, 1) := by decide +kernel
theorem dX7_befall_76 : decode cX7_befall 76 = .ok (.istore_n 3, 1) := by decide +kernel
theorem dX7_befall_77 : decode cX7_befall 77 = .ok (.aload_n 0, 1) := by decide +kernel
theorem dX7_befall_78 : decode cX7_befall 78 = .ok (.getfield 53, 3) := by decide +kernel
theorem dX7_befall_81 : decode cX7_befall 81 = .ok (.getfield 163, 3) := by decide +kernel
theorem dX7_befall_84 : decode cX7_befall 84 = .ok (.ifCond .eq 24, 3) := by decide +kernel
theorem dX7_befall_87 : decode cX7_befall 87 = .ok (.iload_n 3, 1) := by decide +kernel
theorem dX7_befall_88 : decode cX7_befall 88 = .ok (.ifCond .ne 20, 3) := by decide +kernel
theorem dX7_befall_91 : decode cX7_befall 91 = .ok (.aload_n 0, 1) := by decide +kernel
theorem dX7_befall_92 : decode cX7_befall 92 = .ok (.getfield 12, 3) := by decide +kernel
theorem dX7_befall_95 : decode cX7_befall 95 = .ok (.iload_n 1, 1) := by decide +kernel
theorem dX7_befall_96 : decode cX7_befall 96 = .ok (.invokevirtual 128, 3) := by decide +kernel
theorem dX7_befall_99 : decode cX7_befall 99 = .ok (.aload_n 0, 1) := by decide +kernel
theorem dX7_befall_100 : decode cX7_befall 100 = .ok (.getfield 41, 3) := by decide +kernel
theorem dX7_befall_103 : decode cX7_befall 103 = .ok (.iload_n 1, 1) := by decide +kernel
theorem dX7_befall_104 : decode cX7_befall 104 = .ok (.iconst (-1), 1) := by decide +kernel
theorem dX7_befall_105 : decode cX7_befall 105 = .ok (.iastore, 1) := by decide +kernel
theorem dX7_befall_106 : decode cX7_befall 106 = .ok (.iconst 4, 1) := by decide +kernel
theorem dX7_befall_107 : decode cX7_befall 107 = .ok (.ireturn, 1) := by decide +kernel
theorem dX7_befall_108 : decode cX7_befall 108 = .ok (.aload_n 0, 1) := by decide +kernel
theorem dX7_befall_109 : decode cX7_befall 109 = .ok (.iconst 1, 1) := by decide +kernel
theorem dX7_befall_110 : decode cX7_befall 110 = .ok (.aload_n 0, 1) := by decide +kernel
theorem dX7_befall_111 : decode cX7_befall 111 = .ok (.getfield 53, 3) := by decide +kernel
theorem dX7_befall_114 : decode cX7_befall 114 = .ok (.iload_n 1, 1) := by decide +kernel
theorem dX7_befall_115 : decode cX7_befall 115 = .ok (.invokevirtual 166, 3) := by decide +kernel
theorem dX7_befall_118 : decode cX7_befall 118 = .ok (.iload_n 3, 1) := by decide +kernel
theorem dX7_befall_119 : decode cX7_befall 119 = .ok (.invokevirtual 169, 3) := by decide +kernel
theorem dX7_befall_122 : decode cX7_befall 122 = .ok (.istore 4, 2) := by decide +kernel
theorem dX7_befall_124 : decode cX7_befall 124 = .ok (.aload_n 0, 1) := by decide +kernel
theorem dX7_befall_125 : decode cX7_befall 125 = .ok (.aload_n 0, 1) := by decide +kernel
theorem dX7_befall_126 : decode cX7_befall 126 = .ok (.getfield 24, 3) := by decide +kernel
theorem dX7_befall_129 : decode cX7_befall 129 = .ok (.getfield 173, 3) := by decide +kernel
theorem dX7_befall_132 : decode cX7_befall 132 = .ok (.iload 4, 2) := by decide +kernel
theorem dX7_befall_134 : decode cX7_befall 134 = .ok (.iaload, 1) := by decide +kernel
theorem dX7_befall_135 : decode cX7_befall 135 = .ok (.invokevirtual 176, 3) := by decide +kernel
theorem dX7_befall_138 : decode cX7_befall 138 = .ok (.istore 5, 2) := by decide +kernel
theorem dX7_befall_140 : decode cX7_befall 140 = .ok (.iload 5, 2) := by decide +kernel
theorem dX7_befall_142 : decode cX7_befall 142 = .ok (.iconst (-1), 1) := by decide +kernel
theorem dX7_befall_143 : decode cX7_befall 143 = .ok (.if_icmp .eq 23, 3) := by decide +kernel
theorem dX7_befall_146 : decode cX7_befall 146 = .ok (.aload_n 0, 1) := by decide +kernel
theorem dX7_befall_147 : decode cX7_befall 147 = .ok (.getfield 12, 3) := by decide +kernel
theorem dX7_befall_150 : decode cX7_befall 150 = .ok (.iload_n 1, 1) := by decide +kernel
theorem dX7_befall_151 : decode cX7_befall 151 = .ok (.invokevirtual 128, 3) := by decide +kernel
theorem dX7_befall_154 : decode cX7_befall 154 = .ok (.aload_n 0, 1) := by decide +kernel
theorem dX7_befall_155 : decode cX7_befall 155 = .ok (.getfield 12, 3) := by decide +kernel
theorem dX7_befall_158 : decode cX7_befall 158 = .ok (.iload 5, 2) := by decide +kernel
theorem dX7_befall_160 : decode cX7_befall 160 = .ok (.iload_n 1, 1) := by decide +kernel
theorem dX7_befall_161 : decode cX7_befall 161 = .ok (.invokevirtual 131, 3) := by decide +kernel
theorem dX7_befall_164 : decode cX7_befall 164 = .ok (.iconst 5, 1) := by decide +kernel
theorem dX7_befall_165 : decode cX7_befall 165 = .ok (.ireturn, 1) := by decide +kernel
theorem dX7_befall_166 : decode cX7_befall 166 = .ok (.iload_n 3, 1) := by decide +kernel
theorem dX7_befall_167 : decode cX7_befall 167 = .ok (.invokestatic 179, 3) := by decide +kernel
theorem dX7_befall_170 : decode cX7_befall 170 = .ok (.istore 6, 2) := by decide +kernel
theorem dX7_befall_172 : decode cX7_befall 172 = .ok (.aload_n 0, 1) := by decide +kernel
theorem dX7_befall_173 : decode cX7_befall 173 = .ok (.getfield 41, 3) := by decide +kernel
theorem dX7_befall_176 : decode cX7_befall 176 = .ok (.iload_n 1, 1) := by decide +kernel
theorem dX7_befall_177 : decode cX7_befall 177 = .ok (.iaload, 1) := by decide +kernel
theorem dX7_befall_178 : decode cX7_befall 178 = .ok (.iload 6, 2) := by decide +kernel
theorem dX7_befall_180 : decode cX7_befall 180 = .ok (.if_icmp .eq 14, 3) := by decide +kernel
theorem dX7_befall_183 : decode cX7_befall 183 = .ok (.aload_n 0, 1) := by decide +kernel
theorem dX7_befall_184 : decode cX7_befall 184 = .ok (.getfield 41, 3) := by decide +kernel
theorem dX7_befall_187 : decode cX7_befall 187 = .ok (.iload_n 1, 1) := by decide +kernel
theorem dX7_befall_188 : decode cX7_befall 188 = .ok (.iload 6, 2) := by decide +kernel
theorem dX7_befall_190 : decode cX7_befall 190 = .ok (.iastore, 1) := by decide +kernel
theorem dX7_befall_191 : decode cX7_befall 191 = .ok (.bipush 6, 2) := by decide +kernel
theorem dX7_befall_193 : decode cX7_befall 193 = .ok (.ireturn, 1) := by decide +kernel
theorem dX7_befall_194 : decode cX7_befall 194 = .ok (.aload_n 0, 1) := by decide +kernel
theorem dX7_befall_195 : decode cX7_befall 195 = .ok (.iconst 0, 1) := by decide +kernel
theorem dX7_befall_196 : decode cX7_befall 196 = .ok (.aload_n 0, 1) := by decide +kernel
theorem dX7_befall_197 : decode cX7_befall 197 = .ok (.getfield 53, 3) := by decide +kernel
theorem dX7_befall_200 : decode cX7_befall 200 = .ok (.iload_n 1, 1) := by decide +kernel
theorem dX7_befall_201 : decode cX7_befall 201 = .ok (.invokevirtual 166, 3) := by decide +kernel
theorem dX7_befall_204 : decode cX7_befall 204 = .ok (.iload_n 3, 1) := by decide +kernel
theorem dX7_befall_205 : decode cX7_befall 205 = .ok (.invokevirtual 169, 3) := by decide +kernel
theorem dX7_befall_208 : decode cX7_befall 208 = .ok (.istore 7, 2) := by decide +kernel
theorem dX7_befall_210 : decode cX7_befall 210 = .ok (.aload_n 0, 1) := by decide +kernel
theorem dX7_befall_211 : decode cX7_befall 211 = .ok (.getfield 28, 3) := by decide +kernel
theorem dX7_befall_214 : decode cX7_befall 214 = .ok (.getfield 173, 3) := by decide +kernel
theorem dX7_befall_217 : decode cX7_befall 217 = .ok (.iload 7, 2) := by decide +kernel
theorem dX7_befall_219 : decode cX7_befall 219 = .ok (.iaload, 1) := by decide +kernel
theorem dX7_befall_220 : decode cX7_befall 220 = .ok (.istore 8, 2) := by decide +kernel
theorem dX7_befall_222 : decode cX7_befall 222 = .ok (.iload 8, 2) := by decide +kernel
theorem dX7_befall_224 : decode cX7_befall 224 = .ok (.iconst (-1), 1) := by decide +kernel
theorem dX7_befall_225 : decode cX7_befall 225 = .ok (.if_icmp .ne 17, 3) := by decide +kernel
theorem dX7_befall_228 : decode cX7_befall 228 = .ok (.aload_n 0, 1) := by decide +kernel
theorem dX7_befall_229 : decode cX7_befall 229 = .ok (.getfield 28, 3) := by decide +kernel
theorem dX7_befall_232 : decode cX7_befall 232 = .ok (.getfield 173, 3) := by decide +kernel
theorem dX7_befall_235 : decode cX7_befall 235 = .ok (.iload 7, 2) := by decide +kernel
theorem dX7_befall_237 : decode cX7_befall 237 = .ok (.iload_n 1, 1) := by decide +kernel
theorem dX7_befall_238 : decode cX7_befall 238 = .ok (.iastore, 1) := by decide +kernel
theorem dX7_befall_239 : decode cX7_befall 239 = .ok (.bipush 9, 2) := by decide +kernel
theorem dX7_befall_241 : decode cX7_befall 241 = .ok (.ireturn, 1) := by decide +kernel
theorem dX7_befall_242 : decode cX7_befall 242 = .ok (.aload_n 0, 1) := by decide +kernel
theorem dX7_befall_243 : decode cX7_befall 243 = .ok (.getfield 12, 3) := by decide +kernel
theorem dX7_befall_246 : decode cX7_befall 246 = .ok (.getfield 93, 3) := by decide +kernel
theorem dX7_befall_249 : decode cX7_befall 249 = .ok (.iload 8, 2) := by decide +kernel
theorem dX7_befall_251 : decode cX7_befall 251 = .ok (.iaload, 1) := by decide +kernel
theorem dX7_befall_252 : decode cX7_befall 252 = .ok (.iconst (-1), 1) := by decide +kernel
theorem dX7_befall_253 : decode cX7_befall 253 = .ok (.if_icmp .ne 6, 3) := by decide +kernel
theorem dX7_befall_256 : decode cX7_befall 256 = .ok (.bipush 7, 2) := by decide +kernel
theorem dX7_befall_258 : decode cX7_befall 258 = .ok (.ireturn, 1) := by decide +kernel
theorem dX7_befall_259 : decode cX7_befall 259 = .ok (.aload_n 0, 1) := by decide +kernel
theorem dX7_befall_260 : decode cX7_befall 260 = .ok (.iload_n 1, 1) := by decide +kernel
theorem dX7_befall_261 : decode cX7_befall 261 = .ok (.iload 8, 2) := by decide +kernel
theorem dX7_befall_263 : decode cX7_befall 263 = .ok (.iload 4, 2) := by decide +kernel
theorem dX7_befall_265 : decode cX7_befall 265 = .ok (.invokevirtual 182, 3) := by decide +kernel
theorem dX7_befall_268 : decode cX7_befall 268 = .ok (.bipush 8, 2) := by decide +kernel
theorem dX7_befall_270 : decode cX7_befall 270 = .ok (.ireturn, 1) := by decide +kernel
theorem dX7_seek_0 : decode cX7_seek 0 = .ok (.iload_n 1, 1) := by decide +kernel
theorem dX7_seek_1 : decode cX7_seek 1 = .ok (.ifCond .eq 13, 3) := by decide +kernel
theorem dX7_seek_4 : decode cX7_seek 4 = .ok (.aload_n 0, 1) := by decide +kernel
theorem dX7_seek_5 : decode cX7_seek 5 = .ok (.getfield 24, 3) := by decide +kernel
theorem dX7_seek_8 : decode cX7_seek 8 = .ok (.getfield 173, 3) := by decide +kernel
theorem dX7_seek_11 : decode cX7_seek 11 = .ok (.goto 10, 3) := by decide +kernel
theorem dX7_seek_14 : decode cX7_seek 14 = .ok (.aload_n 0, 1) := by decide +kernel
theorem dX7_seek_15 : decode cX7_seek 15 = .ok (.getfield 28, 3) := by decide +kernel
theorem dX7_seek_18 : decode cX7_seek 18 = .ok (.getfield 173, 3) := by decide +kernel
theorem dX7_seek_21 : decode cX7_seek 21 = .ok (.astore 4, 2) := by decide +kernel
theorem dX7_seek_23 : decode cX7_seek 23 = .ok (.bipush 96, 2) := by decide +kernel
theorem dX7_seek_25 : decode cX7_seek 25 = .ok (.iload_n 2, 1) := by decide +kernel
theorem dX7_seek_26 : decode cX7_seek 26 = .ok (.iadd, 1) := by decide +kernel
theorem dX7_seek_27 : decode cX7_seek 27 = .ok (.istore 5, 2) := by decide +kernel
theorem dX7_seek_29 : decode cX7_seek 29 = .ok (.aload 4, 2) := by decide +kernel
theorem dX7_seek_31 : decode cX7_seek 31 = .ok (.iload 5, 2) := by decide +kernel
theorem dX7_seek_33 : decode cX7_seek 33 = .ok (.iaload, 1) := by decide +kernel
theorem dX7_seek_34 : decode cX7_seek 34 = .ok (.istore 6, 2) := by decide +kernel
theorem dX7_seek_36 : decode cX7_seek 36 = .ok (.iconst 0, 1) := by decide +kernel
theorem dX7_seek_37 : decode cX7_seek 37 = .ok (.istore 7, 2) := by decide +kernel
theorem dX7_seek_39 : decode cX7_seek 39 = .ok (.iload 7, 2) := by decide +kernel
theorem dX7_seek_41 : decode cX7_seek 41 = .ok (.bipush 48, 2) := by decide +kernel
theorem dX7_seek_43 : decode cX7_seek 43 = .ok (.if_icmp .ge 103, 3) := by decide +kernel
theorem dX7_seek_46 : decode cX7_seek 46 = .ok (.iload 6, 2) := by decide +kernel
theorem dX7_seek_48 : decode cX7_seek 48 = .ok (.iconst (-1), 1) := by decide +kernel
theorem dX7_seek_49 : decode cX7_seek 49 = .ok (.if_icmp .eq 97, 3) := by decide +kernel
theorem dX7_seek_52 : decode cX7_seek 52 = .ok (.iload_n 1, 1) := by decide +kernel
theorem dX7_seek_53 : decode cX7_seek 53 = .ok (.ifCond .eq 16, 3) := by decide +kernel
theorem dX7_seek_56 : decode cX7_seek 56 = .ok (.aload_n 0, 1) := by decide +kernel
theorem dX7_seek_57 : decode cX7_seek 57 = .ok (.getfield 18, 3) := by decide +kernel
theorem dX7_seek_60 : decode cX7_seek 60 = .ok (.getfield 90, 3) := by decide +kernel
theorem dX7_seek_63 : decode cX7_seek 63 = .ok (.iload 6, 2) := by decide +kernel
theorem dX7_seek_65 : decode cX7_seek 65 = .ok (.iaload, 1) := by decide +kernel
theorem dX7_seek_66 : decode cX7_seek 66 = .ok (.goto 13, 3) := by decide +kernel
theorem dX7_seek_69 : decode cX7_seek 69 = .ok (.aload_n 0, 1) := by decide +kernel
theorem dX7_seek_70 : decode cX7_seek 70 = .ok (.getfield 12, 3) := by decide +kernel
theorem dX7_seek_73 : decode cX7_seek 73 = .ok (.getfield 93, 3) := by decide +kernel
theorem dX7_seek_76 : decode cX7_seek 76 = .ok (.iload 6, 2) := by decide +kernel
theorem dX7_seek_78 : decode cX7_seek 78 = .ok (.iaload, 1) := by decide +kernel
theorem dX7_seek_79 : decode cX7_seek 79 = .ok (.istore 8, 2) := by decide +kernel
theorem dX7_seek_81 : decode cX7_seek 81 = .ok (.iload 8, 2) := by decide +kernel
theorem dX7_seek_83 : decode cX7_seek 83 = .ok (.iconst (-1), 1) := by decide +kernel
theorem dX7_seek_84 : decode cX7_seek 84 = .ok (.if_icmp .ne 7, 3) := by decide +kernel
theorem dX7_seek_87 : decode cX7_seek 87 = .ok (.iconst 0, 1) := by decide +kernel
theorem dX7_seek_88 : decode cX7_seek 88 = .ok (.goto 15, 3) := by decide +kernel
theorem dX7_seek_91 : decode cX7_seek 91 = .ok (.aload_n 0, 1) := by decide +kernel
theorem dX7_seek_92 : decode cX7_seek 92 = .ok (.iload_n 3, 1) := by decide +kernel
theorem dX7_seek_93 : decode cX7_seek 93 = .ok (.aload_n 0, 1) := by decide +kernel
theorem dX7_seek_94 : decode cX7_seek 94 = .ok (.getfield 31, 3) := by decide +kernel
theorem dX7_seek_97 : decode cX7_seek 97 = .ok (.iload 8, 2) := by decide +kernel
theorem dX7_seek_99 : decode cX7_seek 99 = .ok (.iaload, 1) := by decide +kernel
theorem dX7_seek_100 : decode cX7_seek 100 = .ok (.invokevirtual 186, 3) := by decide +kernel
theorem dX7_seek_103 : decode cX7_seek 103 = .ok (.istore 9, 2) := by decide +kernel
theorem dX7_seek_105 : decode cX7_seek 105 = .ok (.iload 9, 2) := by decide +kernel
theorem dX7_seek_107 : decode cX7_seek 107 = .ok (.ifCond .ne 6, 3) := by decide +kernel
theorem dX7_seek_110 : decode cX7_seek 110 = .ok (.iload 5, 2) := by decide +kernel
theorem dX7_seek_112 : decode cX7_seek 112 = .ok (.ireturn, 1) := by decide +kernel
theorem dX7_seek_113 : decode cX7_seek 113 = .ok (.iload 9, 2) := by decide +kernel
theorem dX7_seek_115 : decode cX7_seek 115 = .ok (.ifCond .ge 10, 3) := by decide +kernel
theorem dX7_seek_118 : decode cX7_seek 118 = .ok (.iconst 2, 1) := by decide +kernel
theorem dX7_seek_119 : decode cX7_seek 119 = .ok (.iload 6, 2) := by decide +kernel
theorem dX7_seek_121 : decode cX7_seek 121 = .ok (.imul, 1) := by decide +kernel
theorem dX7_seek_122 : decode cX7_seek 122 = .ok (.goto 9, 3) := by decide +kernel
theorem dX7_seek_125 : decode cX7_seek 125 = .ok (.iconst 2, 1) := by decide +kernel
theorem dX7_seek_126 : decode cX7_seek 126 = .ok (.iload 6, 2) := by decide +kernel
theorem dX7_seek_128 : decode cX7_seek 128 = .ok (.imul, 1) := by decide +kernel
theorem dX7_seek_129 : decode cX7_seek 129 = .ok (.iconst 1, 1) := by decide +kernel
theorem dX7_seek_130 : decode cX7_seek 130 = .ok (.iadd, 1) := by decide +kernel
theorem dX7_seek_131 : decode cX7_seek 131 = .ok (.istore 5, 2) := by decide +kernel
theorem dX7_seek_133 : decode cX7_seek 133 = .ok (.aload 4, 2) := by decide +kernel
theorem dX7_seek_135 : decode cX7_seek 135 = .ok (.iload 5, 2) := by decide +kernel
theorem dX7_seek_137 : decode cX7_seek 137 = .ok (.iaload, 1) := by decide +kernel
theorem dX7_seek_138 : decode cX7_seek 138 = .ok (.istore 6, 2) := by decide +kernel
theorem dX7_seek_140 : decode cX7_seek 140 = .ok (.iinc 7 1, 3) := by decide +kernel
theorem dX7_seek_143 : decode cX7_seek 143 = .ok (.goto (-104), 3) := by decide +kernel
theorem dX7_seek_146 : decode cX7_seek 146 = .ok (.iload 5, 2) := by decide +kernel
theorem dX7_seek_148 : decode cX7_seek 148 = .ok (.ireturn, 1) := by decide +kernel
theorem dX7_compared_0 : decode cX7_compared 0 = .ok (.bipush 12, 2) := by decide +kernel
theorem dX7_compared_2 : decode cX7_compared 2 = .ok (.istore_n 3, 1) := by decide +kernel
theorem dX7_compared_3 : decode cX7_compared 3 = .ok (.iload_n 3, 1) := by decide +kernel
theorem dX7_compared_4 : decode cX7_compared 4 = .ok (.ifCond .lt 42, 3) := by decide +kernel
theorem dX7_compared_7 : decode cX7_compared 7 = .ok (.aload_n 0, 1) := by decide +kernel
theorem dX7_compared_8 : decode cX7_compared 8 = .ok (.getfield 50, 3) := by decide +kernel
theorem dX7_compared_11 : decode cX7_compared 11 = .ok (.iconst 3, 1) := by decide +kernel
theorem dX7_compared_12 : decode cX7_compared 12 = .ok (.dup2, 1) := by decide +kernel
theorem dX7_compared_13 : decode cX7_compared 13 = .ok (.iaload, 1) := by decide +kernel
theorem dX7_compared_14 : decode cX7_compared 14 = .ok (.iconst 1, 1) := by decide +kernel
theorem dX7_compared_15 : decode cX7_compared 15 = .ok (.iadd, 1) := by decide +kernel
theorem dX7_compared_16 : decode cX7_compared 16 = .ok (.iastore, 1) := by decide +kernel
theorem dX7_compared_17 : decode cX7_compared 17 = .ok (.iload_n 1, 1) := by decide +kernel
theorem dX7_compared_18 : decode cX7_compared 18 = .ok (.iload_n 3, 1) := by decide +kernel
theorem dX7_compared_19 : decode cX7_compared 19 = .ok (.ishr, 1) := by decide +kernel
theorem dX7_compared_20 : decode cX7_compared 20 = .ok (.bipush 15, 2) := by decide +kernel
theorem dX7_compared_22 : decode cX7_compared 22 = .ok (.iand, 1) := by decide +kernel
theorem dX7_compared_23 : decode cX7_compared 23 = .ok (.iload_n 2, 1) := by decide +kernel
theorem dX7_compared_24 : decode cX7_compared 24 = .ok (.iload_n 3, 1) := by decide +kernel
theorem dX7_compared_25 : decode cX7_compared 25 = .ok (.ishr, 1) := by decide +kernel
theorem dX7_compared_26 : decode cX7_compared 26 = .ok (.bipush 15, 2) := by decide +kernel
theorem dX7_compared_28 : decode cX7_compared 28 = .ok (.iand, 1) := by decide +kernel
theorem dX7_compared_29 : decode cX7_compared 29 = .ok (.isub, 1) := by decide +kernel
theorem dX7_compared_30 : decode cX7_compared 30 = .ok (.istore 4, 2) := by decide +kernel
theorem dX7_compared_32 : decode cX7_compared 32 = .ok (.iload 4, 2) := by decide +kernel
theorem dX7_compared_34 : decode cX7_compared 34 = .ok (.ifCond .eq 6, 3) := by decide +kernel
theorem dX7_compared_37 : decode cX7_compared 37 = .ok (.iload 4, 2) := by decide +kernel
theorem dX7_compared_39 : decode cX7_compared 39 = .ok (.ireturn, 1) := by decide +kernel
theorem dX7_compared_40 : decode cX7_compared 40 = .ok (.iinc 3 (-4), 3) := by decide +kernel
theorem dX7_compared_43 : decode cX7_compared 43 = .ok (.goto (-40), 3) := by decide +kernel
theorem dX7_compared_46 : decode cX7_compared 46 = .ok (.iconst 0, 1) := by decide +kernel
theorem dX7_compared_47 : decode cX7_compared 47 = .ok (.ireturn, 1) := by decide +kernel
theorem dX7_sumOf_0 : decode cX7_sumOf 0 = .ok (.sipush 343, 3) := by decide +kernel
theorem dX7_sumOf_3 : decode cX7_sumOf 3 = .ok (.iload_n 0, 1) := by decide +kernel
theorem dX7_sumOf_4 : decode cX7_sumOf 4 = .ok (.iconst 0, 1) := by decide +kernel
theorem dX7_sumOf_5 : decode cX7_sumOf 5 = .ok (.invokestatic 189, 3) := by decide +kernel
theorem dX7_sumOf_8 : decode cX7_sumOf 8 = .ok (.imul, 1) := by decide +kernel
theorem dX7_sumOf_9 : decode cX7_sumOf 9 = .ok (.bipush 49, 2) := by decide +kernel
theorem dX7_sumOf_11 : decode cX7_sumOf 11 = .ok (.iload_n 0, 1) := by decide +kernel
theorem dX7_sumOf_12 : decode cX7_sumOf 12 = .ok (.iconst 1, 1) := by decide +kernel
theorem dX7_sumOf_13 : decode cX7_sumOf 13 = .ok (.invokestatic 189, 3) := by decide +kernel
theorem dX7_sumOf_16 : decode cX7_sumOf 16 = .ok (.imul, 1) := by decide +kernel
theorem dX7_sumOf_17 : decode cX7_sumOf 17 = .ok (.iadd, 1) := by decide +kernel
theorem dX7_sumOf_18 : decode cX7_sumOf 18 = .ok (.bipush 7, 2) := by decide +kernel
theorem dX7_sumOf_20 : decode cX7_sumOf 20 = .ok (.iload_n 0, 1) := by decide +kernel
theorem dX7_sumOf_21 : decode cX7_sumOf 21 = .ok (.iconst 2, 1) := by decide +kernel
theorem dX7_sumOf_22 : decode cX7_sumOf 22 = .ok (.invokestatic 189, 3) := by decide +kernel
theorem dX7_sumOf_25 : decode cX7_sumOf 25 = .ok (.imul, 1) := by decide +kernel
theorem dX7_sumOf_26 : decode cX7_sumOf 26 = .ok (.iadd, 1) := by decide +kernel
theorem dX7_sumOf_27 : decode cX7_sumOf 27 = .ok (.iload_n 0, 1) := by decide +kernel
theorem dX7_sumOf_28 : decode cX7_sumOf 28 = .ok (.iconst 3, 1) := by decide +kernel
theorem dX7_sumOf_29 : decode cX7_sumOf 29 = .ok (.invokestatic 189, 3) := by decide +kernel
theorem dX7_sumOf_32 : decode cX7_sumOf 32 = .ok (.iadd, 1) := by decide +kernel
theorem dX7_sumOf_33 : decode cX7_sumOf 33 = .ok (.bipush 64, 2) := by decide +kernel
theorem dX7_sumOf_35 : decode cX7_sumOf 35 = .ok (.irem, 1) := by decide +kernel
theorem dX7_sumOf_36 : decode cX7_sumOf 36 = .ok (.ireturn, 1) := by decide +kernel
theorem dX7_roomIn_0 : decode cX7_roomIn 0 = .ok (.iload_n 1, 1) := by decide +kernel
theorem dX7_roomIn_1 : decode cX7_roomIn 1 = .ok (.iconst (-1), 1) := by decide +kernel
theorem dX7_roomIn_2 : decode cX7_roomIn 2 = .ok (.if_icmp .ne 5, 3) := by decide +kernel
theorem dX7_roomIn_5 : decode cX7_roomIn 5 = .ok (.iconst (-1), 1) := by decide +kernel
theorem dX7_roomIn_6 : decode cX7_roomIn 6 = .ok (.ireturn, 1) := by decide +kernel
theorem dX7_roomIn_7 : decode cX7_roomIn 7 = .ok (.iconst (-1), 1) := by decide +kernel
theorem dX7_roomIn_8 : decode cX7_roomIn 8 = .ok (.istore_n 2, 1) := by decide +kernel
theorem dX7_roomIn_9 : decode cX7_roomIn 9 = .ok (.iconst 0, 1) := by decide +kernel
theorem dX7_roomIn_10 : decode cX7_roomIn 10 = .ok (.istore_n 3, 1) := by decide +kernel
theorem dX7_roomIn_11 : decode cX7_roomIn 11 = .ok (.aload_n 0, 1) := by decide +kernel
theorem dX7_roomIn_12 : decode cX7_roomIn 12 = .ok (.getfield 18, 3) := by decide +kernel
theorem dX7_roomIn_15 : decode cX7_roomIn 15 = .ok (.getfield 90, 3) := by decide +kernel
theorem dX7_roomIn_18 : decode cX7_roomIn 18 = .ok (.iload_n 1, 1) := by decide +kernel
theorem dX7_roomIn_19 : decode cX7_roomIn 19 = .ok (.iaload, 1) := by decide +kernel
theorem dX7_roomIn_20 : decode cX7_roomIn 20 = .ok (.istore 4, 2) := by decide +kernel
theorem dX7_roomIn_22 : decode cX7_roomIn 22 = .ok (.iconst 0, 1) := by decide +kernel
theorem dX7_roomIn_23 : decode cX7_roomIn 23 = .ok (.istore 5, 2) := by decide +kernel
theorem dX7_roomIn_25 : decode cX7_roomIn 25 = .ok (.iload 5, 2) := by decide +kernel
theorem dX7_roomIn_27 : decode cX7_roomIn 27 = .ok (.bipush 48, 2) := by decide +kernel
theorem dX7_roomIn_29 : decode cX7_roomIn 29 = .ok (.if_icmp .ge 62, 3) := by decide +kernel
theorem dX7_roomIn_32 : decode cX7_roomIn 32 = .ok (.iload 4, 2) := by decide +kernel
theorem dX7_roomIn_34 : decode cX7_roomIn 34 = .ok (.iconst (-1), 1) := by decide +kernel
theorem dX7_roomIn_35 : decode cX7_roomIn 35 = .ok (.if_icmp .eq 56, 3) := by decide +kernel
theorem dX7_roomIn_38 : decode cX7_roomIn 38 = .ok (.aload_n 0, 1) := by decide +kernel
theorem dX7_roomIn_39 : decode cX7_roomIn 39 = .ok (.getfield 12, 3) := by decide +kernel
theorem dX7_roomIn_42 : decode cX7_roomIn 42 = .ok (.iload 4, 2) := by decide +kernel
theorem dX7_roomIn_44 : decode cX7_roomIn 44 = .ok (.invokevirtual 117, 3) := by decide +kernel
theorem dX7_roomIn_47 : decode cX7_roomIn 47 = .ok (.istore 6, 2) := by decide +kernel
theorem dX7_roomIn_49 : decode cX7_roomIn 49 = .ok (.iload 6, 2) := by decide +kernel
theorem dX7_roomIn_51 : decode cX7_roomIn 51 = .ok (.aload_n 0, 1) := by decide +kernel
theorem dX7_roomIn_52 : decode cX7_roomIn 52 = .ok (.getfield 53, 3) := by decide +kernel
theorem dX7_roomIn_55 : decode cX7_roomIn 55 = .ok (.getfield 192, 3) := by decide +kernel
theorem dX7_roomIn_58 : decode cX7_roomIn 58 = .ok (.if_icmp .ge 15, 3) := by decide +kernel
theorem dX7_roomIn_61 : decode cX7_roomIn 61 = .ok (.iload 6, 2) := by decide +kernel
theorem dX7_roomIn_63 : decode cX7_roomIn 63 = .ok (.iload_n 3, 1) := by decide +kernel
theorem dX7_roomIn_64 : decode cX7_roomIn 64 = .ok (.if_icmp .le 9, 3) := by decide +kernel
theorem dX7_roomIn_67 : decode cX7_roomIn 67 = .ok (.iload 4, 2) := by decide +kernel
theorem dX7_roomIn_69 : decode cX7_roomIn 69 = .ok (.istore_n 2, 1) := by decide +kernel
theorem dX7_roomIn_70 : decode cX7_roomIn 70 = .ok (.iload 6, 2) := by decide +kernel
theorem dX7_roomIn_72 : decode cX7_roomIn 72 = .ok (.istore_n 3, 1) := by decide +kernel
theorem dX7_roomIn_73 : decode cX7_roomIn 73 = .ok (.aload_n 0, 1) := by decide +kernel
theorem dX7_roomIn_74 : decode cX7_roomIn 74 = .ok (.getfield 18, 3) := by decide +kernel
theorem dX7_roomIn_77 : decode cX7_roomIn 77 = .ok (.getfield 195, 3) := by decide +kernel
theorem dX7_roomIn_80 : decode cX7_roomIn 80 = .ok (.iload 4, 2) := by decide +kernel
theorem dX7_roomIn_82 : decode cX7_roomIn 82 = .ok (.iaload, 1) := by decide +kernel
theorem dX7_roomIn_83 : decode cX7_roomIn 83 = .ok (.istore 4, 2) := by decide +kernel
theorem dX7_roomIn_85 : decode cX7_roomIn 85 = .ok (.iinc 5 1, 3) := by decide +kernel
theorem dX7_roomIn_88 : decode cX7_roomIn 88 = .ok (.goto (-63), 3) := by decide +kernel
theorem dX7_roomIn_91 : decode cX7_roomIn 91 = .ok (.iload_n 2, 1) := by decide +kernel
theorem dX7_roomIn_92 : decode cX7_roomIn 92 = .ok (.ireturn, 1) := by decide +kernel
theorem dX7_pairUp_0 : decode cX7_pairUp 0 = .ok (.aload_n 0, 1) := by decide +kernel
theorem dX7_pairUp_1 : decode cX7_pairUp 1 = .ok (.getfield 28, 3) := by decide +kernel
theorem dX7_pairUp_4 : decode cX7_pairUp 4 = .ok (.iload_n 2, 1) := by decide +kernel
theorem dX7_pairUp_5 : decode cX7_pairUp 5 = .ok (.invokevirtual 135, 3) := by decide +kernel
theorem dX7_pairUp_8 : decode cX7_pairUp 8 = .ok (.aload_n 0, 1) := by decide +kernel
theorem dX7_pairUp_9 : decode cX7_pairUp 9 = .ok (.getfield 44, 3) := by decide +kernel
theorem dX7_pairUp_12 : decode cX7_pairUp 12 = .ok (.iload_n 2, 1) := by decide +kernel
theorem dX7_pairUp_13 : decode cX7_pairUp 13 = .ok (.iconst 0, 1) := by decide +kernel
theorem dX7_pairUp_14 : decode cX7_pairUp 14 = .ok (.iastore, 1) := by decide +kernel
theorem dX7_pairUp_15 : decode cX7_pairUp 15 = .ok (.aload_n 0, 1) := by decide +kernel
theorem dX7_pairUp_16 : decode cX7_pairUp 16 = .ok (.getfield 47, 3) := by decide +kernel
theorem dX7_pairUp_19 : decode cX7_pairUp 19 = .ok (.iload_n 2, 1) := by decide +kernel
theorem dX7_pairUp_20 : decode cX7_pairUp 20 = .ok (.iconst 0, 1) := by decide +kernel
theorem dX7_pairUp_21 : decode cX7_pairUp 21 = .ok (.iastore, 1) := by decide +kernel
theorem dX7_pairUp_22 : decode cX7_pairUp 22 = .ok (.aload_n 0, 1) := by decide +kernel
theorem dX7_pairUp_23 : decode cX7_pairUp 23 = .ok (.getfield 24, 3) := by decide +kernel
theorem dX7_pairUp_26 : decode cX7_pairUp 26 = .ok (.getfield 173, 3) := by decide +kernel
theorem dX7_pairUp_29 : decode cX7_pairUp 29 = .ok (.iload_n 3, 1) := by decide +kernel
theorem dX7_pairUp_30 : decode cX7_pairUp 30 = .ok (.iaload, 1) := by decide +kernel
theorem dX7_pairUp_31 : decode cX7_pairUp 31 = .ok (.istore 4, 2) := by decide +kernel
theorem dX7_pairUp_33 : decode cX7_pairUp 33 = .ok (.iload 4, 2) := by decide +kernel
theorem dX7_pairUp_35 : decode cX7_pairUp 35 = .ok (.iconst (-1), 1) := by decide +kernel
theorem dX7_pairUp_36 : decode cX7_pairUp 36 = .ok (.if_icmp .ne 20, 3) := by decide +kernel
theorem dX7_pairUp_39 : decode cX7_pairUp 39 = .ok (.aload_n 0, 1) := by decide +kernel
theorem dX7_pairUp_40 : decode cX7_pairUp 40 = .ok (.invokevirtual 198, 3) := by decide +kernel
theorem dX7_pairUp_43 : decode cX7_pairUp 43 = .ok (.istore 4, 2) := by decide +kernel
theorem dX7_pairUp_45 : decode cX7_pairUp 45 = .ok (.aload_n 0, 1) := by decide +kernel
theorem dX7_pairUp_46 : decode cX7_pairUp 46 = .ok (.getfield 24, 3) := by decide +kernel
theorem dX7_pairUp_49 : decode cX7_pairUp 49 = .ok (.getfield 173, 3) := by decide +kernel
theorem dX7_pairUp_52 : decode cX7_pairUp 52 = .ok (.iload_n 3, 1) := by decide +kernel
theorem dX7_pairUp_53 : decode cX7_pairUp 53 = .ok (.iload 4, 2) := by decide +kernel
theorem dX7_pairUp_55 : decode cX7_pairUp 55 = .ok (.iastore, 1) := by decide +kernel
theorem dX7_pairUp_56 : decode cX7_pairUp 56 = .ok (.aload_n 0, 1) := by decide +kernel
theorem dX7_pairUp_57 : decode cX7_pairUp 57 = .ok (.getfield 12, 3) := by decide +kernel
theorem dX7_pairUp_60 : decode cX7_pairUp 60 = .ok (.getfield 93, 3) := by decide +kernel
theorem dX7_pairUp_63 : decode cX7_pairUp 63 = .ok (.iload_n 2, 1) := by decide +kernel
theorem dX7_pairUp_64 : decode cX7_pairUp 64 = .ok (.iaload, 1) := by decide +kernel
theorem dX7_pairUp_65 : decode cX7_pairUp 65 = .ok (.istore 5, 2) := by decide +kernel
theorem dX7_pairUp_67 : decode cX7_pairUp 67 = .ok (.aload_n 0, 1) := by decide +kernel
theorem dX7_pairUp_68 : decode cX7_pairUp 68 = .ok (.getfield 18, 3) := by decide +kernel
theorem dX7_pairUp_71 : decode cX7_pairUp 71 = .ok (.iload 4, 2) := by decide +kernel
theorem dX7_pairUp_73 : decode cX7_pairUp 73 = .ok (.iload 5, 2) := by decide +kernel
theorem dX7_pairUp_75 : decode cX7_pairUp 75 = .ok (.invokevirtual 131, 3) := by decide +kernel
theorem dX7_pairUp_78 : decode cX7_pairUp 78 = .ok (.aload_n 0, 1) := by decide +kernel
theorem dX7_pairUp_79 : decode cX7_pairUp 79 = .ok (.getfield 12, 3) := by decide +kernel
theorem dX7_pairUp_82 : decode cX7_pairUp 82 = .ok (.iload_n 1, 1) := by decide +kernel
theorem dX7_pairUp_83 : decode cX7_pairUp 83 = .ok (.invokevirtual 128, 3) := by decide +kernel
theorem dX7_pairUp_86 : decode cX7_pairUp 86 = .ok (.aload_n 0, 1) := by decide +kernel
theorem dX7_pairUp_87 : decode cX7_pairUp 87 = .ok (.getfield 12, 3) := by decide +kernel
theorem dX7_pairUp_90 : decode cX7_pairUp 90 = .ok (.iload 5, 2) := by decide +kernel
theorem dX7_pairUp_92 : decode cX7_pairUp 92 = .ok (.iload_n 1, 1) := by decide +kernel
theorem dX7_pairUp_93 : decode cX7_pairUp 93 = .ok (.invokevirtual 131, 3) := by decide +kernel
theorem dX7_pairUp_96 : decode cX7_pairUp 96 = .ok (.return_, 1) := by decide +kernel
theorem dX7_freeKnot_0 : decode cX7_freeKnot 0 = .ok (.iconst 0, 1) := by decide +kernel
theorem dX7_freeKnot_1 : decode cX7_freeKnot 1 = .ok (.istore_n 1, 1) := by decide +kernel
theorem dX7_freeKnot_2 : decode cX7_freeKnot 2 = .ok (.iload_n 1, 1) := by decide +kernel
theorem dX7_freeKnot_3 : decode cX7_freeKnot 3 = .ok (.bipush 47, 2) := by decide +kernel
theorem dX7_freeKnot_5 : decode cX7_freeKnot 5 = .ok (.if_icmp .ge 22, 3) := by decide +kernel
theorem dX7_freeKnot_8 : decode cX7_freeKnot 8 = .ok (.aload_n 0, 1) := by decide +kernel
theorem dX7_freeKnot_9 : decode cX7_freeKnot 9 = .ok (.getfield 18, 3) := by decide +kernel
theorem dX7_freeKnot_12 : decode cX7_freeKnot 12 = .ok (.getfield 90, 3) := by decide +kernel
theorem dX7_freeKnot_15 : decode cX7_freeKnot 15 = .ok (.iload_n 1, 1) := by decide +kernel
theorem dX7_freeKnot_16 : decode cX7_freeKnot 16 = .ok (.iaload, 1) := by decide +kernel
theorem dX7_freeKnot_17 : decode cX7_freeKnot 17 = .ok (.iconst (-1), 1) := by decide +kernel
theorem dX7_freeKnot_18 : decode cX7_freeKnot 18 = .ok (.if_icmp .eq 9, 3) := by decide +kernel
theorem dX7_freeKnot_21 : decode cX7_freeKnot 21 = .ok (.iinc 1 1, 3) := by decide +kernel
theorem dX7_freeKnot_24 : decode cX7_freeKnot 24 = .ok (.goto (-22), 3) := by decide +kernel
theorem dX7_freeKnot_27 : decode cX7_freeKnot 27 = .ok (.iload_n 1, 1) := by decide +kernel
theorem dX7_freeKnot_28 : decode cX7_freeKnot 28 = .ok (.ireturn, 1) := by decide +kernel
theorem dX7_fewest_0 : decode cX7_fewest 0 = .ok (.iconst 0, 1) := by decide +kernel
theorem dX7_fewest_1 : decode cX7_fewest 1 = .ok (.istore_n 1, 1) := by decide +kernel
theorem dX7_fewest_2 : decode cX7_fewest 2 = .ok (.iconst 0, 1) := by decide +kernel
theorem dX7_fewest_3 : decode cX7_fewest 3 = .ok (.istore_n 2, 1) := by decide +kernel
theorem dX7_fewest_4 : decode cX7_fewest 4 = .ok (.iload_n 2, 1) := by decide +kernel
theorem dX7_fewest_5 : decode cX7_fewest 5 = .ok (.aload_n 0, 1) := by decide +kernel
theorem dX7_fewest_6 : decode cX7_fewest 6 = .ok (.getfield 53, 3) := by decide +kernel
theorem dX7_fewest_9 : decode cX7_fewest 9 = .ok (.getfield 153, 3) := by decide +kernel
theorem dX7_fewest_12 : decode cX7_fewest 12 = .ok (.if_icmp .ge 87, 3) := by decide +kernel
theorem dX7_fewest_15 : decode cX7_fewest 15 = .ok (.aload_n 0, 1) := by decide +kernel
theorem dX7_fewest_16 : decode cX7_fewest 16 = .ok (.getfield 12, 3) := by decide +kernel
theorem dX7_fewest_19 : decode cX7_fewest 19 = .ok (.getfield 93, 3) := by decide +kernel
theorem dX7_fewest_22 : decode cX7_fewest 22 = .ok (.iload_n 2, 1) := by decide +kernel
theorem dX7_fewest_23 : decode cX7_fewest 23 = .ok (.iaload, 1) := by decide +kernel
theorem dX7_fewest_24 : decode cX7_fewest 24 = .ok (.iconst (-1), 1) := by decide +kernel
theorem dX7_fewest_25 : decode cX7_fewest 25 = .ok (.if_icmp .ne 6, 3) := by decide +kernel
theorem dX7_fewest_28 : decode cX7_fewest 28 = .ok (.goto 65, 3) := by decide +kernel
theorem dX7_fewest_31 : decode cX7_fewest 31 = .ok (.aload_n 0, 1) := by decide +kernel
theorem dX7_fewest_32 : decode cX7_fewest 32 = .ok (.getfield 35, 3) := by decide +kernel
theorem dX7_fewest_35 : decode cX7_fewest 35 = .ok (.iload_n 2, 1) := by decide +kernel
theorem dX7_fewest_36 : decode cX7_fewest 36 = .ok (.iaload, 1) := by decide +kernel
theorem dX7_fewest_37 : decode cX7_fewest 37 = .ok (.ifCond .ne 9, 3) := by decide +kernel
theorem dX7_fewest_40 : decode cX7_fewest 40 = .ok (.iinc 1 1, 3) := by decide +kernel
theorem dX7_fewest_43 : decode cX7_fewest 43 = .ok (.goto 50, 3) := by decide +kernel
theorem dX7_fewest_46 : decode cX7_fewest 46 = .ok (.aload_n 0, 1) := by decide +kernel
theorem dX7_fewest_47 : decode cX7_fewest 47 = .ok (.getfield 53, 3) := by decide +kernel
theorem dX7_fewest_50 : decode cX7_fewest 50 = .ok (.getfield 163, 3) := by decide +kernel
theorem dX7_fewest_53 : decode cX7_fewest 53 = .ok (.ifCond .eq 11, 3) := by decide +kernel
theorem dX7_fewest_56 : decode cX7_fewest 56 = .ok (.aload_n 0, 1) := by decide +kernel
theorem dX7_fewest_57 : decode cX7_fewest 57 = .ok (.iload_n 2, 1) := by decide +kernel
theorem dX7_fewest_58 : decode cX7_fewest 58 = .ok (.invokevirtual 110, 3) := by decide +kernel
theorem dX7_fewest_61 : decode cX7_fewest 61 = .ok (.ifCond .eq 32, 3) := by decide +kernel
theorem dX7_fewest_64 : decode cX7_fewest 64 = .ok (.aload_n 0, 1) := by decide +kernel
theorem dX7_fewest_65 : decode cX7_fewest 65 = .ok (.getfield 53, 3) := by decide +kernel
theorem dX7_fewest_68 : decode cX7_fewest 68 = .ok (.getfield 192, 3) := by decide +kernel
theorem dX7_fewest_71 : decode cX7_fewest 71 = .ok (.ifCond .le 22, 3) := by decide +kernel
theorem dX7_fewest_74 : decode cX7_fewest 74 = .ok (.aload_n 0, 1) := by decide +kernel
theorem dX7_fewest_75 : decode cX7_fewest 75 = .ok (.iload_n 2, 1) := by decide +kernel
theorem dX7_fewest_76 : decode cX7_fewest 76 = .ok (.invokevirtual 201, 3) := by decide +kernel
theorem dX7_fewest_79 : decode cX7_fewest 79 = .ok (.aload_n 0, 1) := by decide +kernel
theorem dX7_fewest_80 : decode cX7_fewest 80 = .ok (.getfield 53, 3) := by decide +kernel
theorem dX7_fewest_83 : decode cX7_fewest 83 = .ok (.getfield 192, 3) := by decide +kernel
theorem dX7_fewest_86 : decode cX7_fewest 86 = .ok (.irem, 1) := by decide +kernel
theorem dX7_fewest_87 : decode cX7_fewest 87 = .ok (.ifCond .ne 6, 3) := by decide +kernel
theorem dX7_fewest_90 : decode cX7_fewest 90 = .ok (.iinc 1 1, 3) := by decide +kernel
theorem dX7_fewest_93 : decode cX7_fewest 93 = .ok (.iinc 2 1, 3) := by decide +kernel
theorem dX7_fewest_96 : decode cX7_fewest 96 = .ok (.goto (-92), 3) := by decide +kernel
theorem dX7_fewest_99 : decode cX7_fewest 99 = .ok (.iload_n 1, 1) := by decide +kernel
theorem dX7_fewest_100 : decode cX7_fewest 100 = .ok (.ireturn, 1) := by decide +kernel
theorem dX7_likeAhead_0 : decode cX7_likeAhead 0 = .ok (.iconst 0, 1) := by decide +kernel
theorem dX7_likeAhead_1 : decode cX7_likeAhead 1 = .ok (.istore_n 2, 1) := by decide +kernel
theorem dX7_likeAhead_2 : decode cX7_likeAhead 2 = .ok (.iconst 0, 1) := by decide +kernel
theorem dX7_likeAhead_3 : decode cX7_likeAhead 3 = .ok (.istore_n 3, 1) := by decide +kernel
theorem dX7_likeAhead_4 : decode cX7_likeAhead 4 = .ok (.iload_n 3, 1) := by decide +kernel
theorem dX7_likeAhead_5 : decode cX7_likeAhead 5 = .ok (.iload_n 1, 1) := by decide +kernel
theorem dX7_likeAhead_6 : decode cX7_likeAhead 6 = .ok (.if_icmp .ge 67, 3) := by decide +kernel
theorem dX7_likeAhead_9 : decode cX7_likeAhead 9 = .ok (.aload_n 0, 1) := by decide +kernel
theorem dX7_likeAhead_10 : decode cX7_likeAhead 10 = .ok (.getfield 35, 3) := by decide +kernel
theorem dX7_likeAhead_13 : decode cX7_likeAhead 13 = .ok (.iload_n 3, 1) := by decide +kernel
theorem dX7_likeAhead_14 : decode cX7_likeAhead 14 = .ok (.iaload, 1) := by decide +kernel
theorem dX7_likeAhead_15 : decode cX7_likeAhead 15 = .ok (.iconst 1, 1) := by decide +kernel
theorem dX7_likeAhead_16 : decode cX7_likeAhead 16 = .ok (.if_icmp .ne 51, 3) := by decide +kernel
theorem dX7_likeAhead_19 : decode cX7_likeAhead 19 = .ok (.aload_n 0, 1) := by decide +kernel
theorem dX7_likeAhead_20 : decode cX7_likeAhead 20 = .ok (.getfield 12, 3) := by decide +kernel
theorem dX7_likeAhead_23 : decode cX7_likeAhead 23 = .ok (.getfield 93, 3) := by decide +kernel
theorem dX7_likeAhead_26 : decode cX7_likeAhead 26 = .ok (.iload_n 3, 1) := by decide +kernel
theorem dX7_likeAhead_27 : decode cX7_likeAhead 27 = .ok (.iaload, 1) := by decide +kernel
theorem dX7_likeAhead_28 : decode cX7_likeAhead 28 = .ok (.iconst (-1), 1) := by decide +kernel
theorem dX7_likeAhead_29 : decode cX7_likeAhead 29 = .ok (.if_icmp .eq 38, 3) := by decide +kernel
theorem dX7_likeAhead_32 : decode cX7_likeAhead 32 = .ok (.aload_n 0, 1) := by decide +kernel
theorem dX7_likeAhead_33 : decode cX7_likeAhead 33 = .ok (.getfield 53, 3) := by decide +kernel
theorem dX7_likeAhead_36 : decode cX7_likeAhead 36 = .ok (.iload_n 3, 1) := by decide +kernel
theorem dX7_likeAhead_37 : decode cX7_likeAhead 37 = .ok (.invokevirtual 166, 3) := by decide +kernel
theorem dX7_likeAhead_40 : decode cX7_likeAhead 40 = .ok (.aload_n 0, 1) := by decide +kernel
theorem dX7_likeAhead_41 : decode cX7_likeAhead 41 = .ok (.getfield 53, 3) := by decide +kernel
theorem dX7_likeAhead_44 : decode cX7_likeAhead 44 = .ok (.iload_n 1, 1) := by decide +kernel
theorem dX7_likeAhead_45 : decode cX7_likeAhead 45 = .ok (.invokevirtual 166, 3) := by decide +kernel
theorem dX7_likeAhead_48 : decode cX7_likeAhead 48 = .ok (.if_icmp .ne 19, 3) := by decide +kernel
theorem dX7_likeAhead_51 : decode cX7_likeAhead 51 = .ok (.aload_n 0, 1) := by decide +kernel
theorem dX7_likeAhead_52 : decode cX7_likeAhead 52 = .ok (.iload_n 3, 1) := by decide +kernel
theorem dX7_likeAhead_53 : decode cX7_likeAhead 53 = .ok (.invokevirtual 110, 3) := by decide +kernel
theorem dX7_likeAhead_56 : decode cX7_likeAhead 56 = .ok (.aload_n 0, 1) := by decide +kernel
theorem dX7_likeAhead_57 : decode cX7_likeAhead 57 = .ok (.iload_n 1, 1) := by decide +kernel
theorem dX7_likeAhead_58 : decode cX7_likeAhead 58 = .ok (.invokevirtual 110, 3) := by decide +kernel
theorem dX7_likeAhead_61 : decode cX7_likeAhead 61 = .ok (.if_icmp .ne 6, 3) := by decide +kernel
theorem dX7_likeAhead_64 : decode cX7_likeAhead 64 = .ok (.iinc 2 1, 3) := by decide +kernel
theorem dX7_likeAhead_67 : decode cX7_likeAhead 67 = .ok (.iinc 3 1, 3) := by decide +kernel
theorem dX7_likeAhead_70 : decode cX7_likeAhead 70 = .ok (.goto (-66), 3) := by decide +kernel
theorem dX7_likeAhead_73 : decode cX7_likeAhead 73 = .ok (.iload_n 2, 1) := by decide +kernel
theorem dX7_likeAhead_74 : decode cX7_likeAhead 74 = .ok (.ireturn, 1) := by decide +kernel
theorem dX7_risk_0 : decode cX7_risk 0 = .ok (.aload_n 0, 1) := by decide +kernel
theorem dX7_risk_1 : decode cX7_risk 1 = .ok (.invokevirtual 204, 3) := by decide +kernel
theorem dX7_risk_4 : decode cX7_risk 4 = .ok (.istore_n 1, 1) := by decide +kernel
theorem dX7_risk_5 : decode cX7_risk 5 = .ok (.aload_n 0, 1) := by decide +kernel
theorem dX7_risk_6 : decode cX7_risk 6 = .ok (.getfield 53, 3) := by decide +kernel
theorem dX7_risk_9 : decode cX7_risk 9 = .ok (.getfield 87, 3) := by decide +kernel
theorem dX7_risk_12 : decode cX7_risk 12 = .ok (.iload_n 1, 1) := by decide +kernel
theorem dX7_risk_13 : decode cX7_risk 13 = .ok (.isub, 1) := by decide +kernel
theorem dX7_risk_14 : decode cX7_risk 14 = .ok (.istore_n 2, 1) := by decide +kernel
theorem dX7_risk_15 : decode cX7_risk 15 = .ok (.aload_n 0, 1) := by decide +kernel
theorem dX7_risk_16 : decode cX7_risk 16 = .ok (.getfield 53, 3) := by decide +kernel
theorem dX7_risk_19 : decode cX7_risk 19 = .ok (.getfield 153, 3) := by decide +kernel
theorem dX7_risk_22 : decode cX7_risk 22 = .ok (.iload_n 1, 1) := by decide +kernel
theorem dX7_risk_23 : decode cX7_risk 23 = .ok (.isub, 1) := by decide +kernel
theorem dX7_risk_24 : decode cX7_risk 24 = .ok (.istore_n 3, 1) := by decide +kernel
theorem dX7_risk_25 : decode cX7_risk 25 = .ok (.iload_n 3, 1) := by decide +kernel
theorem dX7_risk_26 : decode cX7_risk 26 = .ok (.iload_n 2, 1) := by decide +kernel
theorem dX7_risk_27 : decode cX7_risk 27 = .ok (.if_icmp .le 9, 3) := by decide +kernel
theorem dX7_risk_30 : decode cX7_risk 30 = .ok (.iload_n 2, 1) := by decide +kernel
theorem dX7_risk_31 : decode cX7_risk 31 = .ok (.iconst 1, 1) := by decide +kernel
theorem dX7_risk_32 : decode cX7_risk 32 = .ok (.iadd, 1) := by decide +kernel
theorem dX7_risk_33 : decode cX7_risk 33 = .ok (.goto 4, 3) := by decide +kernel
theorem dX7_risk_36 : decode cX7_risk 36 = .ok (.iconst (-1), 1) := by decide +kernel
theorem dX7_risk_37 : decode cX7_risk 37 = .ok (.ireturn, 1) := by decide +kernel
theorem dX8_init_0 : decode cX8_init 0 = .ok (.aload_n 0, 1) := by decide +kernel
theorem dX8_init_1 : decode cX8_init 1 = .ok (.invokespecial 3, 3) := by decide +kernel
theorem dX8_init_4 : decode cX8_init 4 = .ok (.aload_n 0, 1) := by decide +kernel
theorem dX8_init_5 : decode cX8_init 5 = .ok (.sipush 700, 3) := by decide +kernel
theorem dX8_init_8 : decode cX8_init 8 = .ok (.newarray .byte, 2) := by decide +kernel
theorem dX8_init_10 : decode cX8_init 10 = .ok (.putfield 9, 3) := by decide +kernel
theorem dX8_init_13 : decode cX8_init 13 = .ok (.aload_n 0, 1) := by decide +kernel
theorem dX8_init_14 : decode cX8_init 14 = .ok (.iconst 0, 1) := by decide +kernel
theorem dX8_init_15 : decode cX8_init 15 = .ok (.putfield 15, 3) := by decide +kernel
theorem dX8_init_18 : decode cX8_init 18 = .ok (.aload_n 0, 1) := by decide +kernel
theorem dX8_init_19 : decode cX8_init 19 = .ok (.iconst 0, 1) := by decide +kernel
theorem dX8_init_20 : decode cX8_init 20 = .ok (.putfield 19, 3) := by decide +kernel
theorem dX8_init_23 : decode cX8_init 23 = .ok (.aload_n 0, 1) := by decide +kernel
theorem dX8_init_24 : decode cX8_init 24 = .ok (.iconst 0, 1) := by decide +kernel
theorem dX8_init_25 : decode cX8_init 25 = .ok (.putfield 22, 3) := by decide +kernel
theorem dX8_init_28 : decode cX8_init 28 = .ok (.aload_n 0, 1) := by decide +kernel
theorem dX8_init_29 : decode cX8_init 29 = .ok (.iconst 0, 1) := by decide +kernel
theorem dX8_init_30 : decode cX8_init 30 = .ok (.putfield 25, 3) := by decide +kernel
theorem dX8_init_33 : decode cX8_init 33 = .ok (.aload_n 0, 1) := by decide +kernel
theorem dX8_init_34 : decode cX8_init 34 = .ok (.iconst 0, 1) := by decide +kernel
theorem dX8_init_35 : decode cX8_init 35 = .ok (.putfield 28, 3) := by decide +kernel
theorem dX8_init_38 : decode cX8_init 38 = .ok (.aload_n 0, 1) := by decide +kernel
theorem dX8_init_39 : decode cX8_init 39 = .ok (.iconst 0, 1) := by decide +kernel
theorem dX8_init_40 : decode cX8_init 40 = .ok (.putfield 31, 3) := by decide +kernel
theorem dX8_init_43 : decode cX8_init 43 = .ok (.aload_n 0, 1) := by decide +kernel
theorem dX8_init_44 : decode cX8_init 44 = .ok (.iconst (-1), 1) := by decide +kernel
theorem dX8_init_45 : decode cX8_init 45 = .ok (.putfield 34, 3) := by decide +kernel
theorem dX8_init_48 : decode cX8_init 48 = .ok (.return_, 1) := by decide +kernel
theorem dX8_append_0 : decode cX8_append 0 = .ok (.aload_n 0, 1) := by decide +kernel
theorem dX8_append_1 : decode cX8_append 1 = .ok (.getfield 15, 3) := by decide +kernel
theorem dX8_append_4 : decode cX8_append 4 = .ok (.iconst 4, 1) := by decide +kernel
theorem dX8_append_5 : decode cX8_append 5 = .ok (.iadd, 1) := by decide +kernel
theorem dX8_append_6 : decode cX8_append 6 = .ok (.sipush 700, 3) := by decide +kernel
theorem dX8_append_9 : decode cX8_append 9 = .ok (.if_icmp .le 4, 3) := by decide +kernel
theorem dX8_append_12 : decode cX8_append 12 = .ok (.return_, 1) := by decide +kernel
theorem dX8_append_13 : decode cX8_append 13 = .ok (.bipush 24, 2) := by decide +kernel
theorem dX8_append_15 : decode cX8_append 15 = .ok (.istore_n 2, 1) := by decide +kernel
theorem dX8_append_16 : decode cX8_append 16 = .ok (.iload_n 2, 1) := by decide +kernel
theorem dX8_append_17 : decode cX8_append 17 = .ok (.ifCond .lt 32, 3) := by decide +kernel
theorem dX8_append_20 : decode cX8_append 20 = .ok (.aload_n 0, 1) := by decide +kernel
theorem dX8_append_21 : decode cX8_append 21 = .ok (.getfield 9, 3) := by decide +kernel
theorem dX8_append_24 : decode cX8_append 24 = .ok (.aload_n 0, 1) := by decide +kernel
theorem dX8_append_25 : decode cX8_append 25 = .ok (.getfield 15, 3) := by decide +kernel
theorem dX8_append_28 : decode cX8_append 28 = .ok (.iload_n 1, 1) := by decide +kernel
theorem dX8_append_29 : decode cX8_append 29 = .ok (.iload_n 2, 1) := by decide +kernel
theorem dX8_append_30 : decode cX8_append 30 = .ok (.ishr, 1) := by decide +kernel
theorem dX8_append_31 : decode cX8_append 31 = .ok (.i2b, 1) := by decide +kernel
theorem dX8_append_32 : decode cX8_append 32 = .ok (.bastore, 1) := by decide +kernel
theorem dX8_append_33 : decode cX8_append 33 = .ok (.aload_n 0, 1) := by decide +kernel
theorem dX8_append_34 : decode cX8_append 34 = .ok (.dup, 1) := by decide +kernel
theorem dX8_append_35 : decode cX8_append 35 = .ok (.getfield 15, 3) := by decide +kernel
theorem dX8_append_38 : decode cX8_append 38 = .ok (.iconst 1, 1) := by decide +kernel
theorem dX8_append_39 : decode cX8_append 39 = .ok (.iadd, 1) := by decide +kernel
theorem dX8_append_40 : decode cX8_append 40 = .ok (.putfield 15, 3) := by decide +kernel
theorem dX8_append_43 : decode cX8_append 43 = .ok (.iinc 2 (-8), 3) := by decide +kernel
theorem dX8_append_46 : decode cX8_append 46 = .ok (.goto (-30), 3) := by decide +kernel
theorem dX8_append_49 : decode cX8_append 49 = .ok (.return_, 1) := by decide +kernel
theorem dX8_begin_0 : decode cX8_begin 0 = .ok (.aload_n 0, 1) := by decide +kernel
theorem dX8_begin_1 : decode cX8_begin 1 = .ok (.iload_n 1, 1) := by decide +kernel
theorem dX8_begin_2 : decode cX8_begin 2 = .ok (.sipush 700, 3) := by decide +kernel
theorem dX8_begin_5 : decode cX8_begin 5 = .ok (.if_icmp .ge 7, 3) := by decide +kernel
theorem dX8_begin_8 : decode cX8_begin 8 = .ok (.iload_n 1, 1) := by decide +kernel
theorem dX8_begin_9 : decode cX8_begin 9 = .ok (.goto 6, 3) := by decide +kernel
theorem dX8_begin_12 : decode cX8_begin 12 = .ok (.sipush 700, 3) := by decide +kernel
theorem dX8_begin_15 : decode cX8_begin 15 = .ok (.putfield 19, 3) := by decide +kernel
theorem dX8_begin_18 : decode cX8_begin 18 = .ok (.aload_n 0, 1) := by decide +kernel
theorem dX8_begin_19 : decode cX8_begin 19 = .ok (.iconst 0, 1) := by decide +kernel
theorem dX8_begin_20 : decode cX8_begin 20 = .ok (.putfield 22, 3) := by decide +kernel
theorem dX8_begin_23 : decode cX8_begin 23 = .ok (.aload_n 0, 1) := by decide +kernel
theorem dX8_begin_24 : decode cX8_begin 24 = .ok (.iconst 0, 1) := by decide +kernel
theorem dX8_begin_25 : decode cX8_begin 25 = .ok (.putfield 25, 3) := by decide +kernel
theorem dX8_begin_28 : decode cX8_begin 28 = .ok (.aload_n 0, 1) := by decide +kernel
theorem dX8_begin_29 : decode cX8_begin 29 = .ok (.iconst 0, 1) := by decide +kernel
theorem dX8_begin_30 : decode cX8_begin 30 = .ok (.putfield 28, 3) := by decide +kernel
theorem dX8_begin_33 : decode cX8_begin 33 = .ok (.aload_n 0, 1) := by decide +kernel
theorem dX8_begin_34 : decode cX8_begin 34 = .ok (.iconst 0, 1) := by decide +kernel
theorem dX8_begin_35 : decode cX8_begin 35 = .ok (.putfield 31, 3) := by decide +kernel
theorem dX8_begin_38 : decode cX8_begin 38 = .ok (.aload_n 0, 1) := by decide +kernel
theorem dX8_begin_39 : decode cX8_begin 39 = .ok (.iconst (-1), 1) := by decide +kernel
theorem dX8_begin_40 : decode cX8_begin 40 = .ok (.putfield 34, 3) := by decide +kernel
theorem dX8_begin_43 : decode cX8_begin 43 = .ok (.return_, 1) := by decide +kernel
theorem dX8_kindOf_0 : decode cX8_kindOf 0 = .ok (.iload_n 0, 1) := by decide +kernel
theorem dX8_kindOf_1 : decode cX8_kindOf 1 = .ok (.bipush 97, 2) := by decide +kernel
theorem dX8_kindOf_3 : decode cX8_kindOf 3 = .ok (.if_icmp .lt 11, 3) := by decide +kernel
theorem dX8_kindOf_6 : decode cX8_kindOf 6 = .ok (.iload_n 0, 1) := by decide +kernel
theorem dX8_kindOf_7 : decode cX8_kindOf 7 = .ok (.bipush 122, 2) := by decide +kernel
theorem dX8_kindOf_9 : decode cX8_kindOf 9 = .ok (.if_icmp .gt 5, 3) := by decide +kernel
theorem dX8_kindOf_12 : decode cX8_kindOf 12 = .ok (.iconst 1, 1) := by decide +kernel
theorem dX8_kindOf_13 : decode cX8_kindOf 13 = .ok (.ireturn, 1) := by decide +kernel
theorem dX8_kindOf_14 : decode cX8_kindOf 14 = .ok (.iload_n 0, 1) := by decide +kernel
theorem dX8_kindOf_15 : decode cX8_kindOf 15 = .ok (.bipush 48, 2) := by decide +kernel
theorem dX8_kindOf_17 : decode cX8_kindOf 17 = .ok (.if_icmp .lt 11, 3) := by decide +kernel
theorem dX8_kindOf_20 : decode cX8_kindOf 20 = .ok (.iload_n 0, 1) := by decide +kernel
theorem dX8_kindOf_21 : decode cX8_kindOf 21 = .ok (.bipush 57, 2) := by decide +kernel
theorem dX8_kindOf_23 : decode cX8_kindOf 23 = .ok (.if_icmp .gt 5, 3) := by decide +kernel
theorem dX8_kindOf_26 : decode cX8_kindOf 26 = .ok (.iconst 2, 1) := by decide +kernel
theorem dX8_kindOf_27 : decode cX8_kindOf 27 = .ok (.ireturn, 1) := by decide +kernel
theorem dX8_kindOf_28 : decode cX8_kindOf 28 = .ok (.iload_n 0, 1) := by decide +kernel
theorem dX8_kindOf_29 : decode cX8_kindOf 29 = .ok (.bipush 59, 2) := by decide +kernel
theorem dX8_kindOf_31 : decode cX8_kindOf 31 = .ok (.if_icmp .ne 7, 3) := by decide +kernel
theorem dX8_kindOf_34 : decode cX8_kindOf 34 = .ok (.iconst 3, 1) := by decide +kernel
theorem dX8_kindOf_35 : decode cX8_kindOf 35 = .ok (.goto 4, 3) := by decide +kernel
theorem dX8_kindOf_38 : decode cX8_kindOf 38 = .ok (.iconst 4, 1) := by decide +kernel
theorem dX8_kindOf_39 : decode cX8_kindOf 39 = .ok (.ireturn, 1) := by decide +kernel
theorem dX8_step_0 : decode cX8_step 0 = .ok (.aload_n 0, 1) := by decide +kernel
theorem dX8_step_1 : decode cX8_step 1 = .ok (.getfield 25, 3) := by decide +kernel
theorem dX8_step_4 : decode cX8_step 4 = .ok (.istore_n 1, 1) := by decide +kernel
theorem dX8_step_5 : decode cX8_step 5 = .ok (.iload_n 1, 1) := by decide +kernel
theorem dX8_step_6 : decode cX8_step 6 = .ok (.aload_n 0, 1) := by decide +kernel
theorem dX8_step_7 : decode cX8_step 7 = .ok (.getfield 19, 3) := by decide +kernel
theorem dX8_step_10 : decode cX8_step 10 = .ok (.if_icmp .ge 31, 3) := by decide +kernel
theorem dX8_step_13 : decode cX8_step 13 = .ok (.aload_n 0, 1) := by decide +kernel
theorem dX8_step_14 : decode cX8_step 14 = .ok (.getfield 9, 3) := by decide +kernel
theorem dX8_step_17 : decode cX8_step 17 = .ok (.iload_n 1, 1) := by decide +kernel
theorem dX8_step_18 : decode cX8_step 18 = .ok (.baload, 1) := by decide +kernel
theorem dX8_step_19 : decode cX8_step 19 = .ok (.bipush 32, 2) := by decide +kernel
theorem dX8_step_21 : decode cX8_step 21 = .ok (.if_icmp .eq 14, 3) := by decide +kernel
theorem dX8_step_24 : decode cX8_step 24 = .ok (.aload_n 0, 1) := by decide +kernel
theorem dX8_step_25 : decode cX8_step 25 = .ok (.getfield 9, 3) := by decide +kernel
theorem dX8_step_28 : decode cX8_step 28 = .ok (.iload_n 1, 1) := by decide +kernel
theorem dX8_step_29 : decode cX8_step 29 = .ok (.baload, 1) := by decide +kernel
theorem dX8_step_30 : decode cX8_step 30 = .ok (.bipush 10, 2) := by decide +kernel
theorem dX8_step_32 : decode cX8_step 32 = .ok (.if_icmp .ne 9, 3) := by decide +kernel
theorem dX8_step_35 : decode cX8_step 35 = .ok (.iinc 1 1, 3) := by decide +kernel
theorem dX8_step_38 : decode cX8_step 38 = .ok (.goto (-33), 3) := by decide +kernel
theorem dX8_step_41 : decode cX8_step 41 = .ok (.aload_n 0, 1) := by decide +kernel
theorem dX8_step_42 : decode cX8_step 42 = .ok (.iload_n 1, 1) := by decide +kernel
theorem dX8_step_43 : decode cX8_step 43 = .ok (.putfield 22, 3) := by decide +kernel
theorem dX8_step_46 : decode cX8_step 46 = .ok (.aload_n 0, 1) := by decide +kernel
theorem dX8_step_47 : decode cX8_step 47 = .ok (.iconst 0, 1) := by decide +kernel
theorem dX8_step_48 : decode cX8_step 48 = .ok (.putfield 28, 3) := by decide +kernel
theorem dX8_step_51 : decode cX8_step 51 = .ok (.iload_n 1, 1) := by decide +kernel
theorem dX8_step_52 : decode cX8_step 52 = .ok (.aload_n 0, 1) := by decide +kernel
theorem dX8_step_53 : decode cX8_step 53 = .ok (.getfield 19, 3) := by decide +kernel
theorem dX8_step_56 : decode cX8_step 56 = .ok (.if_icmp .ge 65, 3) := by decide +kernel
theorem dX8_step_59 : decode cX8_step 59 = .ok (.aload_n 0, 1) := by decide +kernel
theorem dX8_step_60 : decode cX8_step 60 = .ok (.aload_n 0, 1) := by decide +kernel
theorem dX8_step_61 : decode cX8_step 61 = .ok (.getfield 9, 3) := by decide +kernel
theorem dX8_step_64 : decode cX8_step 64 = .ok (.iload_n 1, 1) := by decide +kernel
theorem dX8_step_65 : decode cX8_step 65 = .ok (.baload, 1) := by decide +kernel
theorem dX8_step_66 : decode cX8_step 66 = .ok (.invokestatic 37, 3) := by decide +kernel
theorem dX8_step_69 : decode cX8_step 69 = .ok (.putfield 28, 3) := by decide +kernel
theorem dX8_step_72 : decode cX8_step 72 = .ok (.iinc 1 1, 3) := by decide +kernel
theorem dX8_step_75 : decode cX8_step 75 = .ok (.iload_n 1, 1) := by decide +kernel
theorem dX8_step_76 : decode cX8_step 76 = .ok (.aload_n 0, 1) := by decide +kernel
theorem dX8_step_77 : decode cX8_step 77 = .ok (.getfield 19, 3) := by decide +kernel
theorem dX8_step_80 : decode cX8_step 80 = .ok (.if_icmp .ge 41, 3) := by decide +kernel
theorem dX8_step_83 : decode cX8_step 83 = .ok (.aload_n 0, 1) := by decide +kernel
theorem dX8_step_84 : decode cX8_step 84 = .ok (.getfield 28, 3) := by decide +kernel
theorem dX8_step_87 : decode cX8_step 87 = .ok (.iconst 1, 1) := by decide +kernel
theorem dX8_step_88 : decode cX8_step 88 = .ok (.if_icmp .eq 11, 3) := by decide +kernel
theorem dX8_step_91 : decode cX8_step 91 = .ok (.aload_n 0, 1) := by decide +kernel
theorem dX8_step_92 : decode cX8_step 92 = .ok (.getfield 28, 3) := by decide +kernel
theorem dX8_step_95 : decode cX8_step 95 = .ok (.iconst 2, 1) := by decide +kernel
theorem dX8_step_96 : decode cX8_step 96 = .ok (.if_icmp .ne 25, 3) := by decide +kernel
theorem dX8_step_99 : decode cX8_step 99 = .ok (.aload_n 0, 1) := by decide +kernel
theorem dX8_step_100 : decode cX8_step 100 = .ok (.getfield 9, 3) := by decide +kernel
theorem dX8_step_103 : decode cX8_step 103 = .ok (.iload_n 1, 1) := by decide +kernel
theorem dX8_step_104 : decode cX8_step 104 = .ok (.baload, 1) := by decide +kernel
theorem dX8_step_105 : decode cX8_step 105 = .ok (.invokestatic 37, 3) := by decide +kernel
theorem dX8_step_108 : decode cX8_step 108 = .ok (.aload_n 0, 1) := by decide +kernel
theorem dX8_step_109 : decode cX8_step 109 = .ok (.getfield 28, 3) := by decide +kernel
theorem dX8_step_112 : decode cX8_step 112 = .ok (.if_icmp .ne 9, 3) := by decide +kernel
theorem dX8_step_115 : decode cX8_step 115 = .ok (.iinc 1 1, 3) := by decide +kernel
theorem dX8_step_118 : decode cX8_step 118 = .ok (.goto (-43), 3) := by decide +kernel
theorem dX8_step_121 : decode cX8_step 121 = .ok (.aload_n 0, 1) := by decide +kernel
theorem dX8_step_122 : decode cX8_step 122 = .ok (.iload_n 1, 1) := by decide +kernel
theorem dX8_step_123 : decode cX8_step 123 = .ok (.putfield 25, 3) := by decide +kernel
theorem dX8_step_126 : decode cX8_step 126 = .ok (.return_, 1) := by decide +kernel
theorem dX8_fail_0 : decode cX8_fail 0 = .ok (.aload_n 0, 1) := by decide +kernel
theorem dX8_fail_1 : decode cX8_fail 1 = .ok (.getfield 31, 3) := by decide +kernel
theorem dX8_fail_4 : decode cX8_fail 4 = .ok (.ifCond .ne 16, 3) := by decide +kernel
theorem dX8_fail_7 : decode cX8_fail 7 = .ok (.aload_n 0, 1) := by decide +kernel
theorem dX8_fail_8 : decode cX8_fail 8 = .ok (.iload_n 1, 1) := by decide +kernel
theorem dX8_fail_9 : decode cX8_fail 9 = .ok (.putfield 31, 3) := by decide +kernel
theorem dX8_fail_12 : decode cX8_fail 12 = .ok (.aload_n 0, 1) := by decide +kernel
theorem dX8_fail_13 : decode cX8_fail 13 = .ok (.aload_n 0, 1) := by decide +kernel
theorem dX8_fail_14 : decode cX8_fail 14 = .ok (.getfield 22, 3) := by decide +kernel
theorem dX8_fail_17 : decode cX8_fail 17 = .ok (.putfield 34, 3) := by decide +kernel
theorem dX8_fail_20 : decode cX8_fail 20 = .ok (.return_, 1) := by decide +kernel
theorem dX8_atClause_0 : decode cX8_atClause 0 = .ok (.aload_n 0, 1) := by decide +kernel
theorem dX8_atClause_1 : decode cX8_atClause 1 = .ok (.getfield 31, 3) := by decide +kernel
theorem dX8_atClause_4 : decode cX8_atClause 4 = .ok (.ifCond .eq 5, 3) := by decide +kernel
theorem dX8_atClause_7 : decode cX8_atClause 7 = .ok (.iconst 0, 1) := by decide +kernel
theorem dX8_atClause_8 : decode cX8_atClause 8 = .ok (.ireturn, 1) := by decide +kernel
theorem dX8_atClause_9 : decode cX8_atClause 9 = .ok (.aload_n 0, 1) := by decide +kernel
theorem dX8_atClause_10 : decode cX8_atClause 10 = .ok (.invokevirtual 41, 3) := by decide +kernel
theorem dX8_atClause_13 : decode cX8_atClause 13 = .ok (.aload_n 0, 1) := by decide +kernel
theorem dX8_atClause_14 : decode cX8_atClause 14 = .ok (.getfield 28, 3) := by decide +kernel
theorem dX8_atClause_17 : decode cX8_atClause 17 = .ok (.ifCond .eq 7, 3) := by decide +kernel
theorem dX8_atClause_20 : decode cX8_atClause 20 = .ok (.iconst 1, 1) := by decide +kernel
theorem dX8_atClause_21 : decode cX8_atClause 21 = .ok (.goto 4, 3) := by decide +kernel
theorem dX8_atClause_24 : decode cX8_atClause 24 = .ok (.iconst 0, 1) := by decide +kernel
theorem dX8_atClause_25 : decode cX8_atClause 25 = .ok (.ireturn, 1) := by decide +kernel
theorem dX8_isWord_0 : decode cX8_isWord 0 = .ok (.aload_n 0, 1) := by decide +kernel
theorem dX8_isWord_1 : decode cX8_isWord 1 = .ok (.getfield 28, 3) := by decide +kernel
theorem dX8_isWord_4 : decode cX8_isWord 4 = .ok (.iconst 1, 1) := by decide +kernel
theorem dX8_isWord_5 : decode cX8_isWord 5 = .ok (.if_icmp .ne 19, 3) := by decide +kernel
theorem dX8_isWord_8 : decode cX8_isWord 8 = .ok (.aload_n 0, 1) := by decide +kernel
theorem dX8_isWord_9 : decode cX8_isWord 9 = .ok (.getfield 25, 3) := by decide +kernel
theorem dX8_isWord_12 : decode cX8_isWord 12 = .ok (.aload_n 0, 1) := by decide +kernel
theorem dX8_isWord_13 : decode cX8_isWord 13 = .ok (.getfield 22, 3) := by decide +kernel
theorem dX8_isWord_16 : decode cX8_isWord 16 = .ok (.isub, 1) := by decide +kernel
theorem dX8_isWord_17 : decode cX8_isWord 17 = .ok (.aload_n 1, 1) := by decide +kernel
theorem dX8_isWord_18 : decode cX8_isWord 18 = .ok (.invokevirtual 44, 3) := by decide +kernel
theorem dX8_isWord_21 : decode cX8_isWord 21 = .ok (.if_icmp .eq 5, 3) := by decide +kernel
theorem dX8_isWord_24 : decode cX8_isWord 24 = .ok (.iconst 0, 1) := by decide +kernel
theorem dX8_isWord_25 : decode cX8_isWord 25 = .ok (.ireturn, 1) := by decide +kernel
theorem dX8_isWord_26 : decode cX8_isWord 26 = .ok (.iconst 0, 1) := by decide +kernel
theorem dX8_isWord_27 : decode cX8_isWord 27 = .ok (.istore_n 2, 1) := by decide +kernel
theorem dX8_isWord_28 : decode cX8_isWord 28 = .ok (.iload_n 2, 1) := by decide +kernel
theorem dX8_isWord_29 : decode cX8_isWord 29 = .ok (.aload_n 1, 1) := by decide +kernel
theorem dX8_isWord_30 : decode cX8_isWord 30 = .ok (.invokevirtual 44, 3) := by decide +kernel
theorem dX8_isWord_33 : decode cX8_isWord 33 = .ok (.if_icmp .ge 30, 3) := by decide +kernel
theorem dX8_isWord_36 : decode cX8_isWord 36 = .ok (.aload_n 0, 1) := by decide +kernel
theorem dX8_isWord_37 : decode cX8_isWord 37 = .ok (.getfield 9, 3) := by decide +kernel
theorem dX8_isWord_40 : decode cX8_isWord 40 = .ok (.aload_n 0, 1) := by decide +kernel
theorem dX8_isWord_41 : decode cX8_isWord 41 = .ok (.getfield 22, 3) := by decide +kernel
theorem dX8_isWord_44 : decode cX8_isWord 44 = .ok (.iload_n 2, 1) := by decide +kernel
theorem dX8_isWord_45 : decode cX8_isWord 45 = .ok (.iadd, 1) := by decide +kernel
theorem dX8_isWord_46 : decode cX8_isWord 46 = .ok (.baload, 1) := by decide +kernel
theorem dX8_isWord_47 : decode cX8_isWord 47 = .ok (.aload_n 1, 1) := by decide +kernel
theorem dX8_isWord_48 : decode cX8_isWord 48 = .ok (.iload_n 2, 1) := by decide +kernel
theorem dX8_isWord_49 : decode cX8_isWord 49 = .ok (.invokevirtual 49, 3) := by decide +kernel
theorem dX8_isWord_52 : decode cX8_isWord 52 = .ok (.if_icmp .eq 5, 3) := by decide +kernel
theorem dX8_isWord_55 : decode cX8_isWord 55 = .ok (.iconst 0, 1) := by decide +kernel
theorem dX8_isWord_56 : decode cX8_isWord 56 = .ok (.ireturn, 1) := by decide +kernel
theorem dX8_isWord_57 : decode cX8_isWord 57 = .ok (.iinc 2 1, 3) := by decide +kernel
theorem dX8_isWord_60 : decode cX8_isWord 60 = .ok (.goto (-32), 3) := by decide +kernel
theorem dX8_isWord_63 : decode cX8_isWord 63 = .ok (.iconst 1, 1) := by decide +kernel
theorem dX8_isWord_64 : decode cX8_isWord 64 = .ok (.ireturn, 1) := by decide +kernel
theorem dX8_numberIn_0 : decode cX8_numberIn 0 = .ok (.aload_n 0, 1) := by decide +kernel
theorem dX8_numberIn_1 : decode cX8_numberIn 1 = .ok (.getfield 31, 3) := by decide +kernel
theorem dX8_numberIn_4 : decode cX8_numberIn 4 = .ok (.ifCond .eq 5, 3) := by decide +kernel
theorem dX8_numberIn_7 : decode cX8_numberIn 7 = .ok (.iconst 0, 1) := by decide +kernel
theorem dX8_numberIn_8 : decode cX8_numberIn 8 = .ok (.ireturn, 1) := by decide +kernel
theorem dX8_numberIn_9 : decode cX8_numberIn 9 = .ok (.aload_n 0, 1) := by decide +kernel
theorem dX8_numberIn_10 : decode cX8_numberIn 10 = .ok (.invokevirtual 41, 3) := by decide +kernel
theorem dX8_numberIn_13 : decode cX8_numberIn 13 = .ok (.aload_n 0, 1) := by decide +kernel
theorem dX8_numberIn_14 : decode cX8_numberIn 14 = .ok (.getfield 28, 3) := by decide +kernel
theorem dX8_numberIn_17 : decode cX8_numberIn 17 = .ok (.iconst 2, 1) := by decide +kernel
theorem dX8_numberIn_18 : decode cX8_numberIn 18 = .ok (.if_icmp .eq 10, 3) := by decide +kernel
theorem dX8_numberIn_21 : decode cX8_numberIn 21 = .ok (.aload_n 0, 1) := by decide +kernel
theorem dX8_numberIn_22 : decode cX8_numberIn 22 = .ok (.iconst 1, 1) := by decide +kernel
theorem dX8_numberIn_23 : decode cX8_numberIn 23 = .ok (.invokevirtual 53, 3) := by decide +kernel
theorem dX8_numberIn_26 : decode cX8_numberIn 26 = .ok (.iconst 0, 1) := by decide +kernel
theorem dX8_numberIn_27 : decode cX8_numberIn 27 = .ok (.ireturn, 1) := by decide +kernel
theorem dX8_numberIn_28 : decode cX8_numberIn 28 = .ok (.aload_n 0, 1) := by decide +kernel
theorem dX8_numberIn_29 : decode cX8_numberIn 29 = .ok (.getfield 25, 3) := by decide +kernel
theorem dX8_numberIn_32 : decode cX8_numberIn 32 = .ok (.aload_n 0, 1) := by decide +kernel
theorem dX8_numberIn_33 : decode cX8_numberIn 33 = .ok (.getfield 22, 3) := by decide +kernel
theorem dX8_numberIn_36 : decode cX8_numberIn 36 = .ok (.isub, 1) := by decide +kernel
theorem dX8_numberIn_37 : decode cX8_numberIn 37 = .ok (.iconst 3, 1) := by decide +kernel
theorem dX8_numberIn_38 : decode cX8_numberIn 38 = .ok (.if_icmp .le 7, 3) := by decide +kernel
theorem dX8_numberIn_41 : decode cX8_numberIn 41 = .ok (.iconst (-1), 1) := by decide +kernel
theorem dX8_numberIn_42 : decode cX8_numberIn 42 = .ok (.goto 4, 3) := by decide +kernel
theorem dX8_numberIn_45 : decode cX8_numberIn 45 = .ok (.iconst 0, 1) := by decide +kernel
theorem dX8_numberIn_46 : decode cX8_numberIn 46 = .ok (.istore_n 3, 1) := by decide +kernel
theorem dX8_numberIn_47 : decode cX8_numberIn 47 = .ok (.aload_n 0, 1) := by decide +kernel
theorem dX8_numberIn_48 : decode cX8_numberIn 48 = .ok (.getfield 22, 3) := by decide +kernel
theorem dX8_numberIn_51 : decode cX8_numberIn 51 = .ok (.istore 4, 2) := by decide +kernel
theorem dX8_numberIn_53 : decode cX8_numberIn 53 = .ok (.iload_n 3, 1) := by decide +kernel
theorem dX8_numberIn_54 : decode cX8_numberIn 54 = .ok (.iconst (-1), 1) := by decide +kernel
theorem dX8_numberIn_55 : decode cX8_numberIn 55 = .ok (.if_icmp .eq 34, 3) := by decide +kernel
theorem dX8_numberIn_58 : decode cX8_numberIn 58 = .ok (.iload 4, 2) := by decide +kernel
theorem dX8_numberIn_60 : decode cX8_numberIn 60 = .ok (.aload_n 0, 1) := by decide +kernel
theorem dX8_numberIn_61 : decode cX8_numberIn 61 = .ok (.getfield 25, 3) := by decide +kernel
theorem dX8_numberIn_64 : decode cX8_numberIn 64 = .ok (.if_icmp .ge 25, 3) := by decide +kernel
theorem dX8_numberIn_67 : decode cX8_numberIn 67 = .ok (.bipush 10, 2) := by decide +kernel
theorem dX8_numberIn_69 : decode cX8_numberIn 69 = .ok (.iload_n 3, 1) := by decide +kernel
theorem dX8_numberIn_70 : decode cX8_numberIn 70 = .ok (.imul, 1) := by decide +kernel
theorem dX8_numberIn_71 : decode cX8_numberIn 71 = .ok (.aload_n 0, 1) := by decide +kernel
theorem dX8_numberIn_72 : decode cX8_numberIn 72 = .ok (.getfield 9, 3) := by decide +kernel
theorem dX8_numberIn_75 : decode cX8_numberIn 75 = .ok (.iload 4, 2) := by decide +kernel
theorem dX8_numberIn_77 : decode cX8_numberIn 77 = .ok (.baload, 1) := by decide +kernel
theorem dX8_numberIn_78 : decode cX8_numberIn 78 = .ok (.iadd, 1) := by decide +kernel
theorem dX8_numberIn_79 : decode cX8_numberIn 79 = .ok (.bipush 48, 2) := by decide +kernel
theorem dX8_numberIn_81 : decode cX8_numberIn 81 = .ok (.isub, 1) := by decide +kernel
theorem dX8_numberIn_82 : decode cX8_numberIn 82 = .ok (.istore_n 3, 1) := by decide +kernel
theorem dX8_numberIn_83 : decode cX8_numberIn 83 = .ok (.iinc 4 1, 3) := by decide +kernel
theorem dX8_numberIn_86 : decode cX8_numberIn 86 = .ok (.goto (-33), 3) := by decide +kernel
theorem dX8_numberIn_89 : decode cX8_numberIn 89 = .ok (.iload_n 3, 1) := by decide +kernel
theorem dX8_numberIn_90 : decode cX8_numberIn 90 = .ok (.iload_n 1, 1) := by decide +kernel
theorem dX8_numberIn_91 : decode cX8_numberIn 91 = .ok (.if_icmp .lt 8, 3) := by decide +kernel
theorem dX8_numberIn_94 : decode cX8_numberIn 94 = .ok (.iload_n 3, 1) := by decide +kernel
theorem dX8_numberIn_95 : decode cX8_numberIn 95 = .ok (.iload_n 2, 1) := by decide +kernel
theorem dX8_numberIn_96 : decode cX8_numberIn 96 = .ok (.if_icmp .le 10, 3) := by decide +kernel
theorem dX8_numberIn_99 : decode cX8_numberIn 99 = .ok (.aload_n 0, 1) := by decide +kernel
theorem dX8_numberIn_100 : decode cX8_numberIn 100 = .ok (.iconst 2, 1) := by decide +kernel
theorem dX8_numberIn_101 : decode cX8_numberIn 101 = .ok (.invokevirtual 53, 3) := by decide +kernel
theorem dX8_numberIn_104 : decode cX8_numberIn 104 = .ok (.iconst 0, 1) := by decide +kernel
theorem dX8_numberIn_105 : decode cX8_numberIn 105 = .ok (.ireturn, 1) := by decide +kernel
theorem dX8_numberIn_106 : decode cX8_numberIn 106 = .ok (.iload_n 3, 1) := by decide +kernel
theorem dX8_numberIn_107 : decode cX8_numberIn 107 = .ok (.ireturn, 1) := by decide +kernel
theorem dX8_numberIsNext_0 : decode cX8_numberIsNext 0 = .ok (.aload_n 0, 1) := by decide +kernel
theorem dX8_numberIsNext_1 : decode cX8_numberIsNext 1 = .ok (.getfield 31, 3) := by decide +kernel
theorem dX8_numberIsNext_4 : decode cX8_numberIsNext 4 = .ok (.ifCond .eq 5, 3) := by decide +kernel
theorem dX8_numberIsNext_7 : decode cX8_numberIsNext 7 = .ok (.iconst 0, 1) := by decide +kernel
theorem dX8_numberIsNext_8 : decode cX8_numberIsNext 8 = .ok (.ireturn, 1) := by decide +kernel
theorem dX8_numberIsNext_9 : decode cX8_numberIsNext 9 = .ok (.aload_n 0, 1) := by decide +kernel
theorem dX8_numberIsNext_10 : decode cX8_numberIsNext 10 = .ok (.getfield 25, 3) := by decide +kernel
theorem dX8_numberIsNext_13 : decode cX8_numberIsNext 13 = .ok (.istore_n 1, 1) := by decide +kernel
theorem dX8_numberIsNext_14 : decode cX8_numberIsNext 14 = .ok (.aload_n 0, 1) := by decide +kernel
theorem dX8_numberIsNext_15 : decode cX8_numberIsNext 15 = .ok (.invokevirtual 41, 3) := by decide +kernel
theorem dX8_numberIsNext_18 : decode cX8_numberIsNext 18 = .ok (.aload_n 0, 1) := by decide +kernel
theorem dX8_numberIsNext_19 : decode cX8_numberIsNext 19 = .ok (.iload_n 1, 1) := by decide +kernel
theorem dX8_numberIsNext_20 : decode cX8_numberIsNext 20 = .ok (.putfield 25, 3) := by decide +kernel
theorem dX8_numberIsNext_23 : decode cX8_numberIsNext 23 = .ok (.aload_n 0, 1) := by decide +kernel
theorem dX8_numberIsNext_24 : decode cX8_numberIsNext 24 = .ok (.getfield 28, 3) := by decide +kernel
theorem dX8_numberIsNext_27 : decode cX8_numberIsNext 27 = .ok (.iconst 2, 1) := by decide +kernel
theorem dX8_numberIsNext_28 : decode cX8_numberIsNext 28 = .ok (.if_icmp .ne 7, 3) := by decide +kernel
theorem dX8_numberIsNext_31 : decode cX8_numberIsNext 31 = .ok (.iconst 1, 1) := by decide +kernel
theorem dX8_numberIsNext_32 : decode cX8_numberIsNext 32 = .ok (.goto 4, 3) := by decide +kernel
theorem dX8_numberIsNext_35 : decode cX8_numberIsNext 35 = .ok (.iconst 0, 1) := by decide +kernel
theorem dX8_numberIsNext_36 : decode cX8_numberIsNext 36 = .ok (.ireturn, 1) := by decide +kernel
theorem dX8_clauseEnds_0 : decode cX8_clauseEnds 0 = .ok (.aload_n 0, 1) := by decide +kernel
theorem dX8_clauseEnds_1 : decode cX8_clauseEnds 1 = .ok (.getfield 31, 3) := by decide +kernel
theorem dX8_clauseEnds_4 : decode cX8_clauseEnds 4 = .ok (.ifCond .eq 4, 3) := by decide +kernel
theorem dX8_clauseEnds_7 : decode cX8_clauseEnds 7 = .ok (.return_, 1) := by decide +kernel
theorem dX8_clauseEnds_8 : decode cX8_clauseEnds 8 = .ok (.aload_n 0, 1) := by decide +kernel
theorem dX8_clauseEnds_9 : decode cX8_clauseEnds 9 = .ok (.invokevirtual 41, 3) := by decide +kernel
theorem dX8_clauseEnds_12 : decode cX8_clauseEnds 12 = .ok (.aload_n 0, 1) := by decide +kernel
theorem dX8_clauseEnds_13 : decode cX8_clauseEnds 13 = .ok (.getfield 28, 3) := by decide +kernel
theorem dX8_clauseEnds_16 : decode cX8_clauseEnds 16 = .ok (.iconst 3, 1) := by decide +kernel
theorem dX8_clauseEnds_17 : decode cX8_clauseEnds 17 = .ok (.if_icmp .eq 8, 3) := by decide +kernel
theorem dX8_clauseEnds_20 : decode cX8_clauseEnds 20 = .ok (.aload_n 0, 1) := by decide +kernel
theorem dX8_clauseEnds_21 : decode cX8_clauseEnds 21 = .ok (.iconst 1, 1) := by decide +kernel
theorem dX8_clauseEnds_22 : decode cX8_clauseEnds 22 = .ok (.invokevirtual 53, 3) := by decide +kernel
theorem dX8_clauseEnds_25 : decode cX8_clauseEnds 25 = .ok (.return_, 1) := by decide +kernel
theorem dX8_pageIn_0 : decode cX8_pageIn 0 = .ok (.aload_n 0, 1) := by decide +kernel
theorem dX8_pageIn_1 : decode cX8_pageIn 1 = .ok (.iconst 0, 1) := by decide +kernel
theorem dX8_pageIn_2 : decode cX8_pageIn 2 = .ok (.iconst 3, 1) := by decide +kernel
theorem dX8_pageIn_3 : decode cX8_pageIn 3 = .ok (.invokevirtual 57, 3) := by decide +kernel
theorem dX8_pageIn_6 : decode cX8_pageIn 6 = .ok (.istore_n 2, 1) := by decide +kernel
theorem dX8_pageIn_7 : decode cX8_pageIn 7 = .ok (.iload_n 2, 1) := by decide +kernel
theorem dX8_pageIn_8 : decode cX8_pageIn 8 = .ok (.aload_n 1, 1) := by decide +kernel
theorem dX8_pageIn_9 : decode cX8_pageIn 9 = .ok (.getfield 61, 3) := by decide +kernel
theorem dX8_pageIn_12 : decode cX8_pageIn 12 = .ok (.if_icmp .lt 8, 3) := by decide +kernel
theorem dX8_pageIn_15 : decode cX8_pageIn 15 = .ok (.aload_n 0, 1) := by decide +kernel
theorem dX8_pageIn_16 : decode cX8_pageIn 16 = .ok (.iconst 3, 1) := by decide +kernel
theorem dX8_pageIn_17 : decode cX8_pageIn 17 = .ok (.invokevirtual 53, 3) := by decide +kernel
theorem dX8_pageIn_20 : decode cX8_pageIn 20 = .ok (.aload_n 0, 1) := by decide +kernel
theorem dX8_pageIn_21 : decode cX8_pageIn 21 = .ok (.iconst 0, 1) := by decide +kernel
theorem dX8_pageIn_22 : decode cX8_pageIn 22 = .ok (.bipush 11, 2) := by decide +kernel
theorem dX8_pageIn_24 : decode cX8_pageIn 24 = .ok (.invokevirtual 57, 3) := by decide +kernel
theorem dX8_pageIn_27 : decode cX8_pageIn 27 = .ok (.istore_n 3, 1) := by decide +kernel
theorem dX8_pageIn_28 : decode cX8_pageIn 28 = .ok (.aload_n 1, 1) := by decide +kernel
theorem dX8_pageIn_29 : decode cX8_pageIn 29 = .ok (.iload_n 2, 1) := by decide +kernel
theorem dX8_pageIn_30 : decode cX8_pageIn 30 = .ok (.iload_n 3, 1) := by decide +kernel
theorem dX8_pageIn_31 : decode cX8_pageIn 31 = .ok (.invokevirtual 66, 3) := by decide +kernel
theorem dX8_pageIn_34 : decode cX8_pageIn 34 = .ok (.istore 4, 2) := by decide +kernel
theorem dX8_pageIn_36 : decode cX8_pageIn 36 = .ok (.iload 4, 2) := by decide +kernel
theorem dX8_pageIn_38 : decode cX8_pageIn 38 = .ok (.iconst (-1), 1) := by decide +kernel
theorem dX8_pageIn_39 : decode cX8_pageIn 39 = .ok (.if_icmp .ne 8, 3) := by decide +kernel
theorem dX8_pageIn_42 : decode cX8_pageIn 42 = .ok (.aload_n 0, 1) := by decide +kernel
theorem dX8_pageIn_43 : decode cX8_pageIn 43 = .ok (.iconst 3, 1) := by decide +kernel
theorem dX8_pageIn_44 : decode cX8_pageIn 44 = .ok (.invokevirtual 53, 3) := by decide +kernel
theorem dX8_pageIn_47 : decode cX8_pageIn 47 = .ok (.aload_n 0, 1) := by decide +kernel
theorem dX8_pageIn_48 : decode cX8_pageIn 48 = .ok (.getfield 31, 3) := by decide +kernel
theorem dX8_pageIn_51 : decode cX8_pageIn 51 = .ok (.ifCond .ne 8, 3) := by decide +kernel
theorem dX8_pageIn_54 : decode cX8_pageIn 54 = .ok (.iload 4, 2) := by decide +kernel
theorem dX8_pageIn_56 : decode cX8_pageIn 56 = .ok (.goto 4, 3) := by decide +kernel
theorem dX8_pageIn_59 : decode cX8_pageIn 59 = .ok (.iconst (-1), 1) := by decide +kernel
theorem dX8_pageIn_60 : decode cX8_pageIn 60 = .ok (.ireturn, 1) := by decide +kernel
theorem dX9_init_0 : decode cX9_init 0 = .ok (.aload_n 0, 1) := by decide +kernel
theorem dX9_init_1 : decode cX9_init 1 = .ok (.invokespecial 5, 3) := by decide +kernel
theorem dX9_init_4 : decode cX9_init 4 = .ok (.aload_n 0, 1) := by decide +kernel
theorem dX9_init_5 : decode cX9_init 5 = .ok (.bipush 99, 2) := by decide +kernel
theorem dX9_init_7 : decode cX9_init 7 = .ok (.newarray .int, 2) := by decide +kernel
theorem dX9_init_9 : decode cX9_init 9 = .ok (.putfield 11, 3) := by decide +kernel
theorem dX9_init_12 : decode cX9_init 12 = .ok (.aload_n 0, 1) := by decide +kernel
theorem dX9_init_13 : decode cX9_init 13 = .ok (.invokevirtual 15, 3) := by decide +kernel
theorem dX9_init_16 : decode cX9_init 16 = .ok (.return_, 1) := by decide +kernel
theorem dX9_clear_0 : decode cX9_clear 0 = .ok (.aload_n 0, 1) := by decide +kernel
theorem dX9_clear_1 : decode cX9_clear 1 = .ok (.getfield 11, 3) := by decide +kernel
theorem dX9_clear_4 : decode cX9_clear 4 = .ok (.iconst (-1), 1) := by decide +kernel
theorem dX9_clear_5 : decode cX9_clear 5 = .ok (.invokestatic 18, 3) := by decide +kernel
theorem dX9_clear_8 : decode cX9_clear 8 = .ok (.return_, 1) := by decide +kernel
theorem dX9_become_0 : decode cX9_become 0 = .ok (.aload_n 1, 1) := by decide +kernel
theorem dX9_become_1 : decode cX9_become 1 = .ok (.getfield 11, 3) := by decide +kernel
theorem dX9_become_4 : decode cX9_become 4 = .ok (.iconst 0, 1) := by decide +kernel
theorem dX9_become_5 : decode cX9_become 5 = .ok (.aload_n 0, 1) := by decide +kernel
theorem dX9_become_6 : decode cX9_become 6 = .ok (.getfield 11, 3) := by decide +kernel
theorem dX9_become_9 : decode cX9_become 9 = .ok (.iconst 0, 1) := by decide +kernel
theorem dX9_become_10 : decode cX9_become 10 = .ok (.bipush 99, 2) := by decide +kernel
theorem dX9_become_12 : decode cX9_become 12 = .ok (.invokestatic 24, 3) := by decide +kernel
theorem dX9_become_15 : decode cX9_become 15 = .ok (.return_, 1) := by decide +kernel
theorem dX9_size_0 : decode cX9_size 0 = .ok (.iconst 0, 1) := by decide +kernel
theorem dX9_size_1 : decode cX9_size 1 = .ok (.istore_n 1, 1) := by decide +kernel
theorem dX9_size_2 : decode cX9_size 2 = .ok (.iconst 0, 1) := by decide +kernel
theorem dX9_size_3 : decode cX9_size 3 = .ok (.istore_n 2, 1) := by decide +kernel
theorem dX9_size_4 : decode cX9_size 4 = .ok (.iload_n 2, 1) := by decide +kernel
theorem dX9_size_5 : decode cX9_size 5 = .ok (.bipush 99, 2) := by decide +kernel
theorem dX9_size_7 : decode cX9_size 7 = .ok (.if_icmp .ge 22, 3) := by decide +kernel
theorem dX9_size_10 : decode cX9_size 10 = .ok (.aload_n 0, 1) := by decide +kernel
theorem dX9_size_11 : decode cX9_size 11 = .ok (.getfield 11, 3) := by decide +kernel
theorem dX9_size_14 : decode cX9_size 14 = .ok (.iload_n 2, 1) := by decide +kernel
theorem dX9_size_15 : decode cX9_size 15 = .ok (.iaload, 1) := by decide +kernel
theorem dX9_size_16 : decode cX9_size 16 = .ok (.iconst (-1), 1) := by decide +kernel
theorem dX9_size_17 : decode cX9_size 17 = .ok (.if_icmp .eq 6, 3) := by decide +kernel
theorem dX9_size_20 : decode cX9_size 20 = .ok (.iinc 1 1, 3) := by decide +kernel
theorem dX9_size_23 : decode cX9_size 23 = .ok (.iinc 2 1, 3) := by decide +kernel
theorem dX9_size_26 : decode cX9_size 26 = .ok (.goto (-22), 3) := by decide +kernel
theorem dX9_size_29 : decode cX9_size 29 = .ok (.iload_n 1, 1) := by decide +kernel
theorem dX9_size_30 : decode cX9_size 30 = .ok (.ireturn, 1) := by decide +kernel
theorem dX9_slotOf_0 : decode cX9_slotOf 0 = .ok (.iconst 0, 1) := by decide +kernel
theorem dX9_slotOf_1 : decode cX9_slotOf 1 = .ok (.istore_n 2, 1) := by decide +kernel
theorem dX9_slotOf_2 : decode cX9_slotOf 2 = .ok (.iload_n 2, 1) := by decide +kernel
theorem dX9_slotOf_3 : decode cX9_slotOf 3 = .ok (.bipush 99, 2) := by decide +kernel
theorem dX9_slotOf_5 : decode cX9_slotOf 5 = .ok (.if_icmp .ge 21, 3) := by decide +kernel
theorem dX9_slotOf_8 : decode cX9_slotOf 8 = .ok (.aload_n 0, 1) := by decide +kernel
theorem dX9_slotOf_9 : decode cX9_slotOf 9 = .ok (.getfield 11, 3) := by decide +kernel
theorem dX9_slotOf_12 : decode cX9_slotOf 12 = .ok (.iload_n 2, 1) := by decide +kernel
theorem dX9_slotOf_13 : decode cX9_slotOf 13 = .ok (.iaload, 1) := by decide +kernel
theorem dX9_slotOf_14 : decode cX9_slotOf 14 = .ok (.iload_n 1, 1) := by decide +kernel
theorem dX9_slotOf_15 : decode cX9_slotOf 15 = .ok (.if_icmp .ne 5, 3) := by decide +kernel
theorem dX9_slotOf_18 : decode cX9_slotOf 18 = .ok (.iload_n 2, 1) := by decide +kernel
theorem dX9_slotOf_19 : decode cX9_slotOf 19 = .ok (.ireturn, 1) := by decide +kernel
theorem dX9_slotOf_20 : decode cX9_slotOf 20 = .ok (.iinc 2 1, 3) := by decide +kernel
theorem dX9_slotOf_23 : decode cX9_slotOf 23 = .ok (.goto (-21), 3) := by decide +kernel
theorem dX9_slotOf_26 : decode cX9_slotOf 26 = .ok (.iconst (-1), 1) := by decide +kernel
theorem dX9_slotOf_27 : decode cX9_slotOf 27 = .ok (.ireturn, 1) := by decide +kernel
theorem dX9_leave_0 : decode cX9_leave 0 = .ok (.aload_n 0, 1) := by decide +kernel
theorem dX9_leave_1 : decode cX9_leave 1 = .ok (.iload_n 1, 1) := by decide +kernel
theorem dX9_leave_2 : decode cX9_leave 2 = .ok (.invokevirtual 30, 3) := by decide +kernel
theorem dX9_leave_5 : decode cX9_leave 5 = .ok (.istore_n 2, 1) := by decide +kernel
theorem dX9_leave_6 : decode cX9_leave 6 = .ok (.iload_n 2, 1) := by decide +kernel
theorem dX9_leave_7 : decode cX9_leave 7 = .ok (.iconst (-1), 1) := by decide +kernel
theorem dX9_leave_8 : decode cX9_leave 8 = .ok (.if_icmp .eq 13, 3) := by decide +kernel
theorem dX9_leave_11 : decode cX9_leave 11 = .ok (.iload_n 1, 1) := by decide +kernel
theorem dX9_leave_12 : decode cX9_leave 12 = .ok (.ifCond .lt 9, 3) := by decide +kernel
theorem dX9_leave_15 : decode cX9_leave 15 = .ok (.iload_n 1, 1) := by decide +kernel
theorem dX9_leave_16 : decode cX9_leave 16 = .ok (.bipush 48, 2) := by decide +kernel
theorem dX9_leave_18 : decode cX9_leave 18 = .ok (.if_icmp .lt 4, 3) := by decide +kernel
theorem dX9_leave_21 : decode cX9_leave 21 = .ok (.return_, 1) := by decide +kernel
theorem dX9_leave_22 : decode cX9_leave 22 = .ok (.aload_n 0, 1) := by decide +kernel
theorem dX9_leave_23 : decode cX9_leave 23 = .ok (.getfield 11, 3) := by decide +kernel
theorem dX9_leave_26 : decode cX9_leave 26 = .ok (.iconst 2, 1) := by decide +kernel
theorem dX9_leave_27 : decode cX9_leave 27 = .ok (.iload_n 1, 1) := by decide +kernel
theorem dX9_leave_28 : decode cX9_leave 28 = .ok (.imul, 1) := by decide +kernel
theorem dX9_leave_29 : decode cX9_leave 29 = .ok (.iaload, 1) := by decide +kernel
theorem dX9_leave_30 : decode cX9_leave 30 = .ok (.istore_n 3, 1) := by decide +kernel
theorem dX9_leave_31 : decode cX9_leave 31 = .ok (.aload_n 0, 1) := by decide +kernel
theorem dX9_leave_32 : decode cX9_leave 32 = .ok (.getfield 11, 3) := by decide +kernel
theorem dX9_leave_35 : decode cX9_leave 35 = .ok (.iconst 2, 1) := by decide +kernel
theorem dX9_leave_36 : decode cX9_leave 36 = .ok (.iload_n 1, 1) := by decide +kernel
theorem dX9_leave_37 : decode cX9_leave 37 = .ok (.imul, 1) := by decide +kernel
theorem dX9_leave_38 : decode cX9_leave 38 = .ok (.iconst 1, 1) := by decide +kernel
theorem dX9_leave_39 : decode cX9_leave 39 = .ok (.iadd, 1) := by decide +kernel
theorem dX9_leave_40 : decode cX9_leave 40 = .ok (.iaload, 1) := by decide +kernel
theorem dX9_leave_41 : decode cX9_leave 41 = .ok (.istore 4, 2) := by decide +kernel
theorem dX9_leave_43 : decode cX9_leave 43 = .ok (.iload_n 3, 1) := by decide +kernel
theorem dX9_leave_44 : decode cX9_leave 44 = .ok (.iconst (-1), 1) := by decide +kernel
theorem dX9_leave_45 : decode cX9_leave 45 = .ok (.if_icmp .eq 9, 3) := by decide +kernel
theorem dX9_leave_48 : decode cX9_leave 48 = .ok (.iload 4, 2) := by decide +kernel
theorem dX9_leave_50 : decode cX9_leave 50 = .ok (.iconst (-1), 1) := by decide +kernel
theorem dX9_leave_51 : decode cX9_leave 51 = .ok (.if_icmp .ne 23, 3) := by decide +kernel
theorem dX9_leave_54 : decode cX9_leave 54 = .ok (.aload_n 0, 1) := by decide +kernel
theorem dX9_leave_55 : decode cX9_leave 55 = .ok (.getfield 11, 3) := by decide +kernel
theorem dX9_leave_58 : decode cX9_leave 58 = .ok (.iload_n 2, 1) := by decide +kernel
theorem dX9_leave_59 : decode cX9_leave 59 = .ok (.iload_n 3, 1) := by decide +kernel
theorem dX9_leave_60 : decode cX9_leave 60 = .ok (.iconst (-1), 1) := by decide +kernel
theorem dX9_leave_61 : decode cX9_leave 61 = .ok (.if_icmp .ne 8, 3) := by decide +kernel
theorem dX9_leave_64 : decode cX9_leave 64 = .ok (.iload 4, 2) := by decide +kernel
theorem dX9_leave_66 : decode cX9_leave 66 = .ok (.goto 4, 3) := by decide +kernel
theorem dX9_leave_69 : decode cX9_leave 69 = .ok (.iload_n 3, 1) := by decide +kernel
theorem dX9_leave_70 : decode cX9_leave 70 = .ok (.iastore, 1) := by decide +kernel
theorem dX9_leave_71 : decode cX9_leave 71 = .ok (.goto 122, 3) := by decide +kernel
theorem dX9_leave_74 : decode cX9_leave 74 = .ok (.iconst 2, 1) := by decide +kernel
theorem dX9_leave_75 : decode cX9_leave 75 = .ok (.iload_n 1, 1) := by decide +kernel
theorem dX9_leave_76 : decode cX9_leave 76 = .ok (.imul, 1) := by decide +kernel
theorem dX9_leave_77 : decode cX9_leave 77 = .ok (.iconst 1, 1) := by decide +kernel
theorem dX9_leave_78 : decode cX9_leave 78 = .ok (.iadd, 1) := by decide +kernel
theorem dX9_leave_79 : decode cX9_leave 79 = .ok (.istore 5, 2) := by decide +kernel
theorem dX9_leave_81 : decode cX9_leave 81 = .ok (.iload 4, 2) := by decide +kernel
theorem dX9_leave_83 : decode cX9_leave 83 = .ok (.istore 6, 2) := by decide +kernel
theorem dX9_leave_85 : decode cX9_leave 85 = .ok (.iconst 0, 1) := by decide +kernel
theorem dX9_leave_86 : decode cX9_leave 86 = .ok (.istore 7, 2) := by decide +kernel
theorem dX9_leave_88 : decode cX9_leave 88 = .ok (.iload 7, 2) := by decide +kernel
theorem dX9_leave_90 : decode cX9_leave 90 = .ok (.bipush 48, 2) := by decide +kernel
theorem dX9_leave_92 : decode cX9_leave 92 = .ok (.if_icmp .ge 37, 3) := by decide +kernel
theorem dX9_leave_95 : decode cX9_leave 95 = .ok (.aload_n 0, 1) := by decide +kernel
theorem dX9_leave_96 : decode cX9_leave 96 = .ok (.getfield 11, 3) := by decide +kernel
theorem dX9_leave_99 : decode cX9_leave 99 = .ok (.iconst 2, 1) := by decide +kernel
theorem dX9_leave_100 : decode cX9_leave 100 = .ok (.iload 6, 2) := by decide +kernel
theorem dX9_leave_102 : decode cX9_leave 102 = .ok (.imul, 1) := by decide +kernel
theorem dX9_leave_103 : decode cX9_leave 103 = .ok (.iaload, 1) := by decide +kernel
theorem dX9_leave_104 : decode cX9_leave 104 = .ok (.iconst (-1), 1) := by decide +kernel
theorem dX9_leave_105 : decode cX9_leave 105 = .ok (.if_icmp .eq 24, 3) := by decide +kernel
theorem dX9_leave_108 : decode cX9_leave 108 = .ok (.iconst 2, 1) := by decide +kernel
theorem dX9_leave_109 : decode cX9_leave 109 = .ok (.iload 6, 2) := by decide +kernel
theorem dX9_leave_111 : decode cX9_leave 111 = .ok (.imul, 1) := by decide +kernel
theorem dX9_leave_112 : decode cX9_leave 112 = .ok (.istore 5, 2) := by decide +kernel
theorem dX9_leave_114 : decode cX9_leave 114 = .ok (.aload_n 0, 1) := by decide +kernel
theorem dX9_leave_115 : decode cX9_leave 115 = .ok (.getfield 11, 3) := by decide +kernel
theorem dX9_leave_118 : decode cX9_leave 118 = .ok (.iload 5, 2) := by decide +kernel
theorem dX9_leave_120 : decode cX9_leave 120 = .ok (.iaload, 1) := by decide +kernel
theorem dX9_leave_121 : decode cX9_leave 121 = .ok (.istore 6, 2) := by decide +kernel
theorem dX9_leave_123 : decode cX9_leave 123 = .ok (.iinc 7 1, 3) := by decide +kernel
theorem dX9_leave_126 : decode cX9_leave 126 = .ok (.goto (-38), 3) := by decide +kernel
theorem dX9_leave_129 : decode cX9_leave 129 = .ok (.aload_n 0, 1) := by decide +kernel
theorem dX9_leave_130 : decode cX9_leave 130 = .ok (.getfield 11, 3) := by decide +kernel
theorem dX9_leave_133 : decode cX9_leave 133 = .ok (.iload 5, 2) := by decide +kernel
theorem dX9_leave_135 : decode cX9_leave 135 = .ok (.aload_n 0, 1) := by decide +kernel
theorem dX9_leave_136 : decode cX9_leave 136 = .ok (.getfield 11, 3) := by decide +kernel
theorem dX9_leave_139 : decode cX9_leave 139 = .ok (.iconst 2, 1) := by decide +kernel
theorem dX9_leave_140 : decode cX9_leave 140 = .ok (.iload 6, 2) := by decide +kernel
theorem dX9_leave_142 : decode cX9_leave 142 = .ok (.imul, 1) := by decide +kernel
theorem dX9_leave_143 : decode cX9_leave 143 = .ok (.iconst 1, 1) := by decide +kernel
theorem dX9_leave_144 : decode cX9_leave 144 = .ok (.iadd, 1) := by decide +kernel
theorem dX9_leave_145 : decode cX9_leave 145 = .ok (.iaload, 1) := by decide +kernel
theorem dX9_leave_146 : decode cX9_leave 146 = .ok (.iastore, 1) := by decide +kernel
theorem dX9_leave_147 : decode cX9_leave 147 = .ok (.aload_n 0, 1) := by decide +kernel
theorem dX9_leave_148 : decode cX9_leave 148 = .ok (.getfield 11, 3) := by decide +kernel
theorem dX9_leave_151 : decode cX9_leave 151 = .ok (.iconst 2, 1) := by decide +kernel
theorem dX9_leave_152 : decode cX9_leave 152 = .ok (.iload 6, 2) := by decide +kernel
theorem dX9_leave_154 : decode cX9_leave 154 = .ok (.imul, 1) := by decide +kernel
theorem dX9_leave_155 : decode cX9_leave 155 = .ok (.aload_n 0, 1) := by decide +kernel
theorem dX9_leave_156 : decode cX9_leave 156 = .ok (.getfield 11, 3) := by decide +kernel
theorem dX9_leave_159 : decode cX9_leave 159 = .ok (.iconst 2, 1) := by decide +kernel
theorem dX9_leave_160 : decode cX9_leave 160 = .ok (.iload_n 1, 1) := by decide +kernel
theorem dX9_leave_161 : decode cX9_leave 161 = .ok (.imul, 1) := by decide +kernel
theorem dX9_leave_162 : decode cX9_leave 162 = .ok (.iaload, 1) := by decide +kernel
theorem dX9_leave_163 : decode cX9_leave 163 = .ok (.iastore, 1) := by decide +kernel
theorem dX9_leave_164 : decode cX9_leave 164 = .ok (.aload_n 0, 1) := by decide +kernel
theorem dX9_leave_165 : decode cX9_leave 165 = .ok (.getfield 11, 3) := by decide +kernel
theorem dX9_leave_168 : decode cX9_leave 168 = .ok (.iconst 2, 1) := by decide +kernel
theorem dX9_leave_169 : decode cX9_leave 169 = .ok (.iload 6, 2) := by decide +kernel
theorem dX9_leave_171 : decode cX9_leave 171 = .ok (.imul, 1) := by decide +kernel
theorem dX9_leave_172 : decode cX9_leave 172 = .ok (.iconst 1, 1) := by decide +kernel
theorem dX9_leave_173 : decode cX9_leave 173 = .ok (.iadd, 1) := by decide +kernel
theorem dX9_leave_174 : decode cX9_leave 174 = .ok (.aload_n 0, 1) := by decide +kernel
theorem dX9_leave_175 : decode cX9_leave 175 = .ok (.getfield 11, 3) := by decide +kernel
theorem dX9_leave_178 : decode cX9_leave 178 = .ok (.iconst 2, 1) := by decide +kernel
theorem dX9_leave_179 : decode cX9_leave 179 = .ok (.iload_n 1, 1) := by decide +kernel
theorem dX9_leave_180 : decode cX9_leave 180 = .ok (.imul, 1) := by decide +kernel
theorem dX9_leave_181 : decode cX9_leave 181 = .ok (.iconst 1, 1) := by decide +kernel
theorem dX9_leave_182 : decode cX9_leave 182 = .ok (.iadd, 1) := by decide +kernel
theorem dX9_leave_183 : decode cX9_leave 183 = .ok (.iaload, 1) := by decide +kernel
theorem dX9_leave_184 : decode cX9_leave 184 = .ok (.iastore, 1) := by decide +kernel
theorem dX9_leave_185 : decode cX9_leave 185 = .ok (.aload_n 0, 1) := by decide +kernel
theorem dX9_leave_186 : decode cX9_leave 186 = .ok (.getfield 11, 3) := by decide +kernel
theorem dX9_leave_189 : decode cX9_leave 189 = .ok (.iload_n 2, 1) := by decide +kernel
theorem dX9_leave_190 : decode cX9_leave 190 = .ok (.iload 6, 2) := by decide +kernel
theorem dX9_leave_192 : decode cX9_leave 192 = .ok (.iastore, 1) := by decide +kernel
theorem dX9_leave_193 : decode cX9_leave 193 = .ok (.aload_n 0, 1) := by decide +kernel
theorem dX9_leave_194 : decode cX9_leave 194 = .ok (.getfield 11, 3) := by decide +kernel
theorem dX9_leave_197 : decode cX9_leave 197 = .ok (.iconst 2, 1) := by decide +kernel
theorem dX9_leave_198 : decode cX9_leave 198 = .ok (.iload_n 1, 1) := by decide +kernel
theorem dX9_leave_199 : decode cX9_leave 199 = .ok (.imul, 1) := by decide +kernel
theorem dX9_leave_200 : decode cX9_leave 200 = .ok (.iconst (-1), 1) := by decide +kernel
theorem dX9_leave_201 : decode cX9_leave 201 = .ok (.iastore, 1) := by decide +kernel
theorem dX9_leave_202 : decode cX9_leave 202 = .ok (.aload_n 0, 1) := by decide +kernel
theorem dX9_leave_203 : decode cX9_leave 203 = .ok (.getfield 11, 3) := by decide +kernel
theorem dX9_leave_206 : decode cX9_leave 206 = .ok (.iconst 2, 1) := by decide +kernel
theorem dX9_leave_207 : decode cX9_leave 207 = .ok (.iload_n 1, 1) := by decide +kernel
theorem dX9_leave_208 : decode cX9_leave 208 = .ok (.imul, 1) := by decide +kernel
theorem dX9_leave_209 : decode cX9_leave 209 = .ok (.iconst 1, 1) := by decide +kernel
theorem dX9_leave_210 : decode cX9_leave 210 = .ok (.iadd, 1) := by decide +kernel
theorem dX9_leave_211 : decode cX9_leave 211 = .ok (.iconst (-1), 1) := by decide +kernel
theorem dX9_leave_212 : decode cX9_leave 212 = .ok (.iastore, 1) := by decide +kernel
theorem dX9_leave_213 : decode cX9_leave 213 = .ok (.return_, 1) := by decide +kernel
theorem dX9_above_0 : decode cX9_above 0 = .ok (.iconst 0, 1) := by decide +kernel
theorem dX9_above_1 : decode cX9_above 1 = .ok (.istore_n 2, 1) := by decide +kernel
theorem dX9_above_2 : decode cX9_above 2 = .ok (.aload_n 0, 1) := by decide +kernel
theorem dX9_above_3 : decode cX9_above 3 = .ok (.iload_n 1, 1) := by decide +kernel
theorem dX9_above_4 : decode cX9_above 4 = .ok (.invokevirtual 30, 3) := by decide +kernel
theorem dX9_above_7 : decode cX9_above 7 = .ok (.istore_n 3, 1) := by decide +kernel
theorem dX9_above_8 : decode cX9_above 8 = .ok (.iload_n 2, 1) := by decide +kernel
theorem dX9_above_9 : decode cX9_above 9 = .ok (.bipush 48, 2) := by decide +kernel
theorem dX9_above_11 : decode cX9_above 11 = .ok (.if_icmp .ge 28, 3) := by decide +kernel
theorem dX9_above_14 : decode cX9_above 14 = .ok (.iload_n 3, 1) := by decide +kernel
theorem dX9_above_15 : decode cX9_above 15 = .ok (.iconst (-1), 1) := by decide +kernel
theorem dX9_above_16 : decode cX9_above 16 = .ok (.if_icmp .eq 23, 3) := by decide +kernel
theorem dX9_above_19 : decode cX9_above 19 = .ok (.iload_n 3, 1) := by decide +kernel
theorem dX9_above_20 : decode cX9_above 20 = .ok (.bipush 96, 2) := by decide +kernel
theorem dX9_above_22 : decode cX9_above 22 = .ok (.if_icmp .ge 17, 3) := by decide +kernel
theorem dX9_above_25 : decode cX9_above 25 = .ok (.iinc 2 1, 3) := by decide +kernel
theorem dX9_above_28 : decode cX9_above 28 = .ok (.aload_n 0, 1) := by decide +kernel
theorem dX9_above_29 : decode cX9_above 29 = .ok (.iload_n 3, 1) := by decide +kernel
theorem dX9_above_30 : decode cX9_above 30 = .ok (.iconst 2, 1) := by decide +kernel
theorem dX9_above_31 : decode cX9_above 31 = .ok (.idiv, 1) := by decide +kernel
theorem dX9_above_32 : decode cX9_above 32 = .ok (.invokevirtual 30, 3) := by decide +kernel
theorem dX9_above_35 : decode cX9_above 35 = .ok (.istore_n 3, 1) := by decide +kernel
theorem dX9_above_36 : decode cX9_above 36 = .ok (.goto (-28), 3) := by decide +kernel
theorem dX9_above_39 : decode cX9_above 39 = .ok (.iload_n 2, 1) := by decide +kernel
theorem dX9_above_40 : decode cX9_above 40 = .ok (.ireturn, 1) := by decide +kernel
theorem dX9_leftmost_0 : decode cX9_leftmost 0 = .ok (.iload_n 1, 1) := by decide +kernel
theorem dX9_leftmost_1 : decode cX9_leftmost 1 = .ok (.ifCond .lt 9, 3) := by decide +kernel
theorem dX9_leftmost_4 : decode cX9_leftmost 4 = .ok (.iload_n 1, 1) := by decide +kernel
theorem dX9_leftmost_5 : decode cX9_leftmost 5 = .ok (.bipush 99, 2) := by decide +kernel
theorem dX9_leftmost_7 : decode cX9_leftmost 7 = .ok (.if_icmp .lt 5, 3) := by decide +kernel
theorem dX9_leftmost_10 : decode cX9_leftmost 10 = .ok (.iconst (-1), 1) := by decide +kernel
theorem dX9_leftmost_11 : decode cX9_leftmost 11 = .ok (.ireturn, 1) := by decide +kernel
theorem dX9_leftmost_12 : decode cX9_leftmost 12 = .ok (.iconst (-1), 1) := by decide +kernel
theorem dX9_leftmost_13 : decode cX9_leftmost 13 = .ok (.istore_n 2, 1) := by decide +kernel
theorem dX9_leftmost_14 : decode cX9_leftmost 14 = .ok (.aload_n 0, 1) := by decide +kernel
theorem dX9_leftmost_15 : decode cX9_leftmost 15 = .ok (.getfield 11, 3) := by decide +kernel
theorem dX9_leftmost_18 : decode cX9_leftmost 18 = .ok (.iload_n 1, 1) := by decide +kernel
theorem dX9_leftmost_19 : decode cX9_leftmost 19 = .ok (.iaload, 1) := by decide +kernel
theorem dX9_leftmost_20 : decode cX9_leftmost 20 = .ok (.istore_n 3, 1) := by decide +kernel
theorem dX9_leftmost_21 : decode cX9_leftmost 21 = .ok (.iconst 0, 1) := by decide +kernel
theorem dX9_leftmost_22 : decode cX9_leftmost 22 = .ok (.istore 4, 2) := by decide +kernel
theorem dX9_leftmost_24 : decode cX9_leftmost 24 = .ok (.iload 4, 2) := by decide +kernel
theorem dX9_leftmost_26 : decode cX9_leftmost 26 = .ok (.bipush 48, 2) := by decide +kernel
theorem dX9_leftmost_28 : decode cX9_leftmost 28 = .ok (.if_icmp .ge 25, 3) := by decide +kernel
theorem dX9_leftmost_31 : decode cX9_leftmost 31 = .ok (.iload_n 3, 1) := by decide +kernel
theorem dX9_leftmost_32 : decode cX9_leftmost 32 = .ok (.iconst (-1), 1) := by decide +kernel
theorem dX9_leftmost_33 : decode cX9_leftmost 33 = .ok (.if_icmp .eq 20, 3) := by decide +kernel
theorem dX9_leftmost_36 : decode cX9_leftmost 36 = .ok (.iload_n 3, 1) := by decide +kernel
theorem dX9_leftmost_37 : decode cX9_leftmost 37 = .ok (.istore_n 2, 1) := by decide +kernel
theorem dX9_leftmost_38 : decode cX9_leftmost 38 = .ok (.aload_n 0, 1) := by decide +kernel
theorem dX9_leftmost_39 : decode cX9_leftmost 39 = .ok (.getfield 11, 3) := by decide +kernel
theorem dX9_leftmost_42 : decode cX9_leftmost 42 = .ok (.iconst 2, 1) := by decide +kernel
theorem dX9_leftmost_43 : decode cX9_leftmost 43 = .ok (.iload_n 3, 1) := by decide +kernel
theorem dX9_leftmost_44 : decode cX9_leftmost 44 = .ok (.imul, 1) := by decide +kernel
theorem dX9_leftmost_45 : decode cX9_leftmost 45 = .ok (.iaload, 1) := by decide +kernel
theorem dX9_leftmost_46 : decode cX9_leftmost 46 = .ok (.istore_n 3, 1) := by decide +kernel
theorem dX9_leftmost_47 : decode cX9_leftmost 47 = .ok (.iinc 4 1, 3) := by decide +kernel
theorem dX9_leftmost_50 : decode cX9_leftmost 50 = .ok (.goto (-26), 3) := by decide +kernel
theorem dX9_leftmost_53 : decode cX9_leftmost 53 = .ok (.iload_n 2, 1) := by decide +kernel
theorem dX9_leftmost_54 : decode cX9_leftmost 54 = .ok (.ireturn, 1) := by decide +kernel
theorem dX9_after_0 : decode cX9_after 0 = .ok (.aload_n 0, 1) := by decide +kernel
theorem dX9_after_1 : decode cX9_after 1 = .ok (.iconst 2, 1) := by decide +kernel
theorem dX9_after_2 : decode cX9_after 2 = .ok (.iload_n 1, 1) := by decide +kernel
theorem dX9_after_3 : decode cX9_after 3 = .ok (.imul, 1) := by decide +kernel
theorem dX9_after_4 : decode cX9_after 4 = .ok (.iconst 1, 1) := by decide +kernel
theorem dX9_after_5 : decode cX9_after 5 = .ok (.iadd, 1) := by decide +kernel
theorem dX9_after_6 : decode cX9_after 6 = .ok (.invokevirtual 34, 3) := by decide +kernel
theorem dX9_after_9 : decode cX9_after 9 = .ok (.istore_n 2, 1) := by decide +kernel
theorem dX9_after_10 : decode cX9_after 10 = .ok (.iload_n 2, 1) := by decide +kernel
theorem dX9_after_11 : decode cX9_after 11 = .ok (.iconst (-1), 1) := by decide +kernel
theorem dX9_after_12 : decode cX9_after 12 = .ok (.if_icmp .eq 5, 3) := by decide +kernel
theorem dX9_after_15 : decode cX9_after 15 = .ok (.iload_n 2, 1) := by decide +kernel
theorem dX9_after_16 : decode cX9_after 16 = .ok (.ireturn, 1) := by decide +kernel
theorem dX9_after_17 : decode cX9_after 17 = .ok (.aload_n 0, 1) := by decide +kernel
theorem dX9_after_18 : decode cX9_after 18 = .ok (.iload_n 1, 1) := by decide +kernel
theorem dX9_after_19 : decode cX9_after 19 = .ok (.invokevirtual 30, 3) := by decide +kernel
theorem dX9_after_22 : decode cX9_after 22 = .ok (.istore_n 3, 1) := by decide +kernel
theorem dX9_after_23 : decode cX9_after 23 = .ok (.iconst 0, 1) := by decide +kernel
theorem dX9_after_24 : decode cX9_after 24 = .ok (.istore 4, 2) := by decide +kernel
theorem dX9_after_26 : decode cX9_after 26 = .ok (.iload 4, 2) := by decide +kernel
theorem dX9_after_28 : decode cX9_after 28 = .ok (.bipush 48, 2) := by decide +kernel
theorem dX9_after_30 : decode cX9_after 30 = .ok (.if_icmp .ge 38, 3) := by decide +kernel
theorem dX9_after_33 : decode cX9_after 33 = .ok (.iload_n 3, 1) := by decide +kernel
theorem dX9_after_34 : decode cX9_after 34 = .ok (.iconst (-1), 1) := by decide +kernel
theorem dX9_after_35 : decode cX9_after 35 = .ok (.if_icmp .eq 33, 3) := by decide +kernel
theorem dX9_after_38 : decode cX9_after 38 = .ok (.iload_n 3, 1) := by decide +kernel
theorem dX9_after_39 : decode cX9_after 39 = .ok (.bipush 96, 2) := by decide +kernel
theorem dX9_after_41 : decode cX9_after 41 = .ok (.if_icmp .ge 27, 3) := by decide +kernel
theorem dX9_after_44 : decode cX9_after 44 = .ok (.iload_n 3, 1) := by decide +kernel
theorem dX9_after_45 : decode cX9_after 45 = .ok (.iconst 2, 1) := by decide +kernel
theorem dX9_after_46 : decode cX9_after 46 = .ok (.irem, 1) := by decide +kernel
theorem dX9_after_47 : decode cX9_after 47 = .ok (.ifCond .ne 7, 3) := by decide +kernel
theorem dX9_after_50 : decode cX9_after 50 = .ok (.iload_n 3, 1) := by decide +kernel
theorem dX9_after_51 : decode cX9_after 51 = .ok (.iconst 2, 1) := by decide +kernel
theorem dX9_after_52 : decode cX9_after 52 = .ok (.idiv, 1) := by decide +kernel
theorem dX9_after_53 : decode cX9_after 53 = .ok (.ireturn, 1) := by decide +kernel
theorem dX9_after_54 : decode cX9_after 54 = .ok (.aload_n 0, 1) := by decide +kernel
theorem dX9_after_55 : decode cX9_after 55 = .ok (.iload_n 3, 1) := by decide +kernel
theorem dX9_after_56 : decode cX9_after 56 = .ok (.iconst 2, 1) := by decide +kernel
theorem dX9_after_57 : decode cX9_after 57 = .ok (.idiv, 1) := by decide +kernel
theorem dX9_after_58 : decode cX9_after 58 = .ok (.invokevirtual 30, 3) := by decide +kernel
theorem dX9_after_61 : decode cX9_after 61 = .ok (.istore_n 3, 1) := by decide +kernel
theorem dX9_after_62 : decode cX9_after 62 = .ok (.iinc 4 1, 3) := by decide +kernel
theorem dX9_after_65 : decode cX9_after 65 = .ok (.goto (-39), 3) := by decide +kernel
theorem dX9_after_68 : decode cX9_after 68 = .ok (.iconst (-1), 1) := by decide +kernel
theorem dX9_after_69 : decode cX9_after 69 = .ok (.ireturn, 1) := by decide +kernel
theorem dX9_sizeOf_0 : decode cX9_sizeOf 0 = .ok (.iconst 0, 1) := by decide +kernel
theorem dX9_sizeOf_1 : decode cX9_sizeOf 1 = .ok (.istore_n 2, 1) := by decide +kernel
theorem dX9_sizeOf_2 : decode cX9_sizeOf 2 = .ok (.aload_n 0, 1) := by decide +kernel
theorem dX9_sizeOf_3 : decode cX9_sizeOf 3 = .ok (.bipush 96, 2) := by decide +kernel
theorem dX9_sizeOf_5 : decode cX9_sizeOf 5 = .ok (.iload_n 1, 1) := by decide +kernel
theorem dX9_sizeOf_6 : decode cX9_sizeOf 6 = .ok (.iadd, 1) := by decide +kernel
theorem dX9_sizeOf_7 : decode cX9_sizeOf 7 = .ok (.invokevirtual 34, 3) := by decide +kernel
theorem dX9_sizeOf_10 : decode cX9_sizeOf 10 = .ok (.istore_n 3, 1) := by decide +kernel
theorem dX9_sizeOf_11 : decode cX9_sizeOf 11 = .ok (.iload_n 2, 1) := by decide +kernel
theorem dX9_sizeOf_12 : decode cX9_sizeOf 12 = .ok (.bipush 48, 2) := by decide +kernel
theorem dX9_sizeOf_14 : decode cX9_sizeOf 14 = .ok (.if_icmp .ge 20, 3) := by decide +kernel
theorem dX9_sizeOf_17 : decode cX9_sizeOf 17 = .ok (.iload_n 3, 1) := by decide +kernel
theorem dX9_sizeOf_18 : decode cX9_sizeOf 18 = .ok (.iconst (-1), 1) := by decide +kernel
theorem dX9_sizeOf_19 : decode cX9_sizeOf 19 = .ok (.if_icmp .eq 15, 3) := by decide +kernel
theorem dX9_sizeOf_22 : decode cX9_sizeOf 22 = .ok (.iinc 2 1, 3) := by decide +kernel
theorem dX9_sizeOf_25 : decode cX9_sizeOf 25 = .ok (.aload_n 0, 1) := by decide +kernel
theorem dX9_sizeOf_26 : decode cX9_sizeOf 26 = .ok (.iload_n 3, 1) := by decide +kernel
theorem dX9_sizeOf_27 : decode cX9_sizeOf 27 = .ok (.invokevirtual 37, 3) := by decide +kernel
theorem dX9_sizeOf_30 : decode cX9_sizeOf 30 = .ok (.istore_n 3, 1) := by decide +kernel
theorem dX9_sizeOf_31 : decode cX9_sizeOf 31 = .ok (.goto (-20), 3) := by decide +kernel
theorem dX9_sizeOf_34 : decode cX9_sizeOf 34 = .ok (.iload_n 2, 1) := by decide +kernel
theorem dX9_sizeOf_35 : decode cX9_sizeOf 35 = .ok (.ireturn, 1) := by decide +kernel
theorem dX9_nth_0 : decode cX9_nth 0 = .ok (.iload_n 2, 1) := by decide +kernel
theorem dX9_nth_1 : decode cX9_nth 1 = .ok (.ifCond .lt 9, 3) := by decide +kernel
theorem dX9_nth_4 : decode cX9_nth 4 = .ok (.iload_n 2, 1) := by decide +kernel
theorem dX9_nth_5 : decode cX9_nth 5 = .ok (.bipush 48, 2) := by decide +kernel
theorem dX9_nth_7 : decode cX9_nth 7 = .ok (.if_icmp .lt 5, 3) := by decide +kernel
theorem dX9_nth_10 : decode cX9_nth 10 = .ok (.iconst (-1), 1) := by decide +kernel
theorem dX9_nth_11 : decode cX9_nth 11 = .ok (.ireturn, 1) := by decide +kernel
theorem dX9_nth_12 : decode cX9_nth 12 = .ok (.aload_n 0, 1) := by decide +kernel
theorem dX9_nth_13 : decode cX9_nth 13 = .ok (.bipush 96, 2) := by decide +kernel
theorem dX9_nth_15 : decode cX9_nth 15 = .ok (.iload_n 1, 1) := by decide +kernel
theorem dX9_nth_16 : decode cX9_nth 16 = .ok (.iadd, 1) := by decide +kernel
theorem dX9_nth_17 : decode cX9_nth 17 = .ok (.invokevirtual 34, 3) := by decide +kernel
theorem dX9_nth_20 : decode cX9_nth 20 = .ok (.istore_n 3, 1) := by decide +kernel
theorem dX9_nth_21 : decode cX9_nth 21 = .ok (.iconst 0, 1) := by decide +kernel
theorem dX9_nth_22 : decode cX9_nth 22 = .ok (.istore 4, 2) := by decide +kernel
theorem dX9_nth_24 : decode cX9_nth 24 = .ok (.iload 4, 2) := by decide +kernel
theorem dX9_nth_26 : decode cX9_nth 26 = .ok (.iload_n 2, 1) := by decide +kernel
theorem dX9_nth_27 : decode cX9_nth 27 = .ok (.if_icmp .ge 20, 3) := by decide +kernel
theorem dX9_nth_30 : decode cX9_nth 30 = .ok (.iload_n 3, 1) := by decide +kernel
theorem dX9_nth_31 : decode cX9_nth 31 = .ok (.iconst (-1), 1) := by decide +kernel
theorem dX9_nth_32 : decode cX9_nth 32 = .ok (.if_icmp .eq 15, 3) := by decide +kernel
theorem dX9_nth_35 : decode cX9_nth 35 = .ok (.aload_n 0, 1) := by decide +kernel
theorem dX9_nth_36 : decode cX9_nth 36 = .ok (.iload_n 3, 1) := by decide +kernel
theorem dX9_nth_37 : decode cX9_nth 37 = .ok (.invokevirtual 37, 3) := by decide +kernel
theorem dX9_nth_40 : decode cX9_nth 40 = .ok (.istore_n 3, 1) := by decide +kernel
theorem dX9_nth_41 : decode cX9_nth 41 = .ok (.iinc 4 1, 3) := by decide +kernel
theorem dX9_nth_44 : decode cX9_nth 44 = .ok (.goto (-20), 3) := by decide +kernel
theorem dX9_nth_47 : decode cX9_nth 47 = .ok (.iload_n 3, 1) := by decide +kernel
theorem dX9_nth_48 : decode cX9_nth 48 = .ok (.ireturn, 1) := by decide +kernel
theorem dJ13_bitCount_95d88_0 : decode cJ13_bitCount_95d88 0 = .ok (.lload_n 0, 1) := by decide +kernel
theorem dJ13_bitCount_95d88_1 : decode cJ13_bitCount_95d88 1 = .ok (.lload_n 0, 1) := by decide +kernel
theorem dJ13_bitCount_95d88_2 : decode cJ13_bitCount_95d88 2 = .ok (.iconst 1, 1) := by decide +kernel
theorem dJ13_bitCount_95d88_3 : decode cJ13_bitCount_95d88 3 = .ok (.lushr, 1) := by decide +kernel
theorem dJ13_bitCount_95d88_4 : decode cJ13_bitCount_95d88 4 = .ok (.ldc2_w 314, 3) := by decide +kernel
theorem dJ13_bitCount_95d88_7 : decode cJ13_bitCount_95d88 7 = .ok (.land, 1) := by decide +kernel
theorem dJ13_bitCount_95d88_8 : decode cJ13_bitCount_95d88 8 = .ok (.lsub, 1) := by decide +kernel
theorem dJ13_bitCount_95d88_9 : decode cJ13_bitCount_95d88 9 = .ok (.lstore_n 0, 1) := by decide +kernel
theorem dJ13_bitCount_95d88_10 : decode cJ13_bitCount_95d88 10 = .ok (.lload_n 0, 1) := by decide +kernel
theorem dJ13_bitCount_95d88_11 : decode cJ13_bitCount_95d88 11 = .ok (.ldc2_w 316, 3) := by decide +kernel
theorem dJ13_bitCount_95d88_14 : decode cJ13_bitCount_95d88 14 = .ok (.land, 1) := by decide +kernel
theorem dJ13_bitCount_95d88_15 : decode cJ13_bitCount_95d88 15 = .ok (.lload_n 0, 1) := by decide +kernel
theorem dJ13_bitCount_95d88_16 : decode cJ13_bitCount_95d88 16 = .ok (.iconst 2, 1) := by decide +kernel
theorem dJ13_bitCount_95d88_17 : decode cJ13_bitCount_95d88 17 = .ok (.lushr, 1) := by decide +kernel
theorem dJ13_bitCount_95d88_18 : decode cJ13_bitCount_95d88 18 = .ok (.ldc2_w 316, 3) := by decide +kernel
theorem dJ13_bitCount_95d88_21 : decode cJ13_bitCount_95d88 21 = .ok (.land, 1) := by decide +kernel
theorem dJ13_bitCount_95d88_22 : decode cJ13_bitCount_95d88 22 = .ok (.ladd, 1) := by decide +kernel
theorem dJ13_bitCount_95d88_23 : decode cJ13_bitCount_95d88 23 = .ok (.lstore_n 0, 1) := by decide +kernel
theorem dJ13_bitCount_95d88_24 : decode cJ13_bitCount_95d88 24 = .ok (.lload_n 0, 1) := by decide +kernel
theorem dJ13_bitCount_95d88_25 : decode cJ13_bitCount_95d88 25 = .ok (.lload_n 0, 1) := by decide +kernel
theorem dJ13_bitCount_95d88_26 : decode cJ13_bitCount_95d88 26 = .ok (.iconst 4, 1) := by decide +kernel
theorem dJ13_bitCount_95d88_27 : decode cJ13_bitCount_95d88 27 = .ok (.lushr, 1) := by decide +kernel
theorem dJ13_bitCount_95d88_28 : decode cJ13_bitCount_95d88 28 = .ok (.ladd, 1) := by decide +kernel
theorem dJ13_bitCount_95d88_29 : decode cJ13_bitCount_95d88 29 = .ok (.ldc2_w 318, 3) := by decide +kernel
theorem dJ13_bitCount_95d88_32 : decode cJ13_bitCount_95d88 32 = .ok (.land, 1) := by decide +kernel
theorem dJ13_bitCount_95d88_33 : decode cJ13_bitCount_95d88 33 = .ok (.lstore_n 0, 1) := by decide +kernel
theorem dJ13_bitCount_95d88_34 : decode cJ13_bitCount_95d88 34 = .ok (.lload_n 0, 1) := by decide +kernel
theorem dJ13_bitCount_95d88_35 : decode cJ13_bitCount_95d88 35 = .ok (.lload_n 0, 1) := by decide +kernel
theorem dJ13_bitCount_95d88_36 : decode cJ13_bitCount_95d88 36 = .ok (.bipush 8, 2) := by decide +kernel
theorem dJ13_bitCount_95d88_38 : decode cJ13_bitCount_95d88 38 = .ok (.lushr, 1) := by decide +kernel
theorem dJ13_bitCount_95d88_39 : decode cJ13_bitCount_95d88 39 = .ok (.ladd, 1) := by decide +kernel
theorem dJ13_bitCount_95d88_40 : decode cJ13_bitCount_95d88 40 = .ok (.lstore_n 0, 1) := by decide +kernel
theorem dJ13_bitCount_95d88_41 : decode cJ13_bitCount_95d88 41 = .ok (.lload_n 0, 1) := by decide +kernel
theorem dJ13_bitCount_95d88_42 : decode cJ13_bitCount_95d88 42 = .ok (.lload_n 0, 1) := by decide +kernel
theorem dJ13_bitCount_95d88_43 : decode cJ13_bitCount_95d88 43 = .ok (.bipush 16, 2) := by decide +kernel
theorem dJ13_bitCount_95d88_45 : decode cJ13_bitCount_95d88 45 = .ok (.lushr, 1) := by decide +kernel
theorem dJ13_bitCount_95d88_46 : decode cJ13_bitCount_95d88 46 = .ok (.ladd, 1) := by decide +kernel
theorem dJ13_bitCount_95d88_47 : decode cJ13_bitCount_95d88 47 = .ok (.lstore_n 0, 1) := by decide +kernel
theorem dJ13_bitCount_95d88_48 : decode cJ13_bitCount_95d88 48 = .ok (.lload_n 0, 1) := by decide +kernel
theorem dJ13_bitCount_95d88_49 : decode cJ13_bitCount_95d88 49 = .ok (.lload_n 0, 1) := by decide +kernel
theorem dJ13_bitCount_95d88_50 : decode cJ13_bitCount_95d88 50 = .ok (.bipush 32, 2) := by decide +kernel
theorem dJ13_bitCount_95d88_52 : decode cJ13_bitCount_95d88 52 = .ok (.lushr, 1) := by decide +kernel
theorem dJ13_bitCount_95d88_53 : decode cJ13_bitCount_95d88 53 = .ok (.ladd, 1) := by decide +kernel
theorem dJ13_bitCount_95d88_54 : decode cJ13_bitCount_95d88 54 = .ok (.lstore_n 0, 1) := by decide +kernel
theorem dJ13_bitCount_95d88_55 : decode cJ13_bitCount_95d88 55 = .ok (.lload_n 0, 1) := by decide +kernel
theorem dJ13_bitCount_95d88_56 : decode cJ13_bitCount_95d88 56 = .ok (.l2i, 1) := by decide +kernel
theorem dJ13_bitCount_95d88_57 : decode cJ13_bitCount_95d88 57 = .ok (.bipush 127, 2) := by decide +kernel
theorem dJ13_bitCount_95d88_59 : decode cJ13_bitCount_95d88 59 = .ok (.iand, 1) := by decide +kernel
theorem dJ13_bitCount_95d88_60 : decode cJ13_bitCount_95d88 60 = .ok (.ireturn, 1) := by decide +kernel
theorem dJ0_length_8abf5_0 : decode cJ0_length_8abf5 0 = .ok (.aload_n 0, 1) := by decide +kernel
theorem dJ0_length_8abf5_1 : decode cJ0_length_8abf5 1 = .ok (.getfield 9, 3) := by decide +kernel
theorem dJ0_length_8abf5_4 : decode cJ0_length_8abf5 4 = .ok (.arraylength, 1) := by decide +kernel
theorem dJ0_length_8abf5_5 : decode cJ0_length_8abf5 5 = .ok (.aload_n 0, 1) := by decide +kernel
theorem dJ0_length_8abf5_6 : decode cJ0_length_8abf5 6 = .ok (.invokevirtual 335, 3) := by decide +kernel
theorem dJ0_length_8abf5_9 : decode cJ0_length_8abf5 9 = .ok (.ishr, 1) := by decide +kernel
theorem dJ0_length_8abf5_10 : decode cJ0_length_8abf5 10 = .ok (.ireturn, 1) := by decide +kernel
theorem dJ0_charAt_5068e_0 : decode cJ0_charAt_5068e 0 = .ok (.aload_n 0, 1) := by decide +kernel
theorem dJ0_charAt_5068e_1 : decode cJ0_charAt_5068e 1 = .ok (.invokevirtual 492, 3) := by decide +kernel
theorem dJ0_charAt_5068e_4 : decode cJ0_charAt_5068e 4 = .ok (.ifCond .eq 12, 3) := by decide +kernel
theorem dJ0_charAt_5068e_7 : decode cJ0_charAt_5068e 7 = .ok (.aload_n 0, 1) := by decide +kernel
theorem dJ0_charAt_5068e_8 : decode cJ0_charAt_5068e 8 = .ok (.getfield 9, 3) := by decide +kernel
theorem dJ0_charAt_5068e_11 : decode cJ0_charAt_5068e 11 = .ok (.iload_n 1, 1) := by decide +kernel
theorem dJ0_charAt_5068e_12 : decode cJ0_charAt_5068e 12 = .ok (.invokestatic 495, 3) := by decide +kernel
theorem dJ0_charAt_5068e_15 : decode cJ0_charAt_5068e 15 = .ok (.ireturn, 1) := by decide +kernel
theorem dJ0_charAt_5068e_16 : decode cJ0_charAt_5068e 16 = .ok (.aload_n 0, 1) := by decide +kernel
theorem dJ0_charAt_5068e_17 : decode cJ0_charAt_5068e 17 = .ok (.getfield 9, 3) := by decide +kernel
theorem dJ0_charAt_5068e_20 : decode cJ0_charAt_5068e 20 = .ok (.iload_n 1, 1) := by decide +kernel
theorem dJ0_charAt_5068e_21 : decode cJ0_charAt_5068e 21 = .ok (.invokestatic 498, 3) := by decide +kernel
theorem dJ0_charAt_5068e_24 : decode cJ0_charAt_5068e 24 = .ok (.ireturn, 1) := by decide +kernel
theorem dJ0_coder_7d493_0 : decode cJ0_coder_7d493 0 = .ok (.getstatic 38, 3) := by decide +kernel
theorem dJ0_coder_7d493_3 : decode cJ0_coder_7d493 3 = .ok (.ifCond .eq 10, 3) := by decide +kernel
theorem dJ0_coder_7d493_6 : decode cJ0_coder_7d493 6 = .ok (.aload_n 0, 1) := by decide +kernel
theorem dJ0_coder_7d493_7 : decode cJ0_coder_7d493 7 = .ok (.getfield 15, 3) := by decide +kernel
theorem dJ0_coder_7d493_10 : decode cJ0_coder_7d493 10 = .ok (.goto 4, 3) := by decide +kernel
theorem dJ0_coder_7d493_13 : decode cJ0_coder_7d493 13 = .ok (.iconst 1, 1) := by decide +kernel
theorem dJ0_coder_7d493_14 : decode cJ0_coder_7d493 14 = .ok (.ireturn, 1) := by decide +kernel
theorem dJ0_isLatin1_aae02_0 : decode cJ0_isLatin1_aae02 0 = .ok (.getstatic 38, 3) := by decide +kernel
theorem dJ0_isLatin1_aae02_3 : decode cJ0_isLatin1_aae02 3 = .ok (.ifCond .eq 14, 3) := by decide +kernel
theorem dJ0_isLatin1_aae02_6 : decode cJ0_isLatin1_aae02 6 = .ok (.aload_n 0, 1) := by decide +kernel
theorem dJ0_isLatin1_aae02_7 : decode cJ0_isLatin1_aae02 7 = .ok (.getfield 15, 3) := by decide +kernel
theorem dJ0_isLatin1_aae02_10 : decode cJ0_isLatin1_aae02 10 = .ok (.ifCond .ne 7, 3) := by decide +kernel
theorem dJ0_isLatin1_aae02_13 : decode cJ0_isLatin1_aae02 13 = .ok (.iconst 1, 1) := by decide +kernel
theorem dJ0_isLatin1_aae02_14 : decode cJ0_isLatin1_aae02 14 = .ok (.goto 4, 3) := by decide +kernel
theorem dJ0_isLatin1_aae02_17 : decode cJ0_isLatin1_aae02 17 = .ok (.iconst 0, 1) := by decide +kernel
theorem dJ0_isLatin1_aae02_18 : decode cJ0_isLatin1_aae02 18 = .ok (.ireturn, 1) := by decide +kernel
theorem dJ0_checkIndex_df160_0 : decode cJ0_checkIndex_df160 0 = .ok (.iload_n 0, 1) := by decide +kernel
theorem dJ0_checkIndex_df160_1 : decode cJ0_checkIndex_df160 1 = .ok (.iload_n 1, 1) := by decide +kernel
theorem dJ0_checkIndex_df160_2 : decode cJ0_checkIndex_df160 2 = .ok (.getstatic 1053, 3) := by decide +kernel
theorem dJ0_checkIndex_df160_5 : decode cJ0_checkIndex_df160 5 = .ok (.invokestatic 1059, 3) := by decide +kernel
theorem dJ0_checkIndex_df160_8 : decode cJ0_checkIndex_df160 8 = .ok (.pop, 1) := by decide +kernel
theorem dJ0_checkIndex_df160_9 : decode cJ0_checkIndex_df160 9 = .ok (.return_, 1) := by decide +kernel
theorem dJ1_charAt_3b067_0 : decode cJ1_charAt_3b067 0 = .ok (.iload_n 1, 1) := by decide +kernel
theorem dJ1_charAt_3b067_1 : decode cJ1_charAt_3b067 1 = .ok (.aload_n 0, 1) := by decide +kernel
theorem dJ1_charAt_3b067_2 : decode cJ1_charAt_3b067 2 = .ok (.arraylength, 1) := by decide +kernel
theorem dJ1_charAt_3b067_3 : decode cJ1_charAt_3b067 3 = .ok (.invokestatic 9, 3) := by decide +kernel
theorem dJ1_charAt_3b067_6 : decode cJ1_charAt_3b067 6 = .ok (.aload_n 0, 1) := by decide +kernel
theorem dJ1_charAt_3b067_7 : decode cJ1_charAt_3b067 7 = .ok (.iload_n 1, 1) := by decide +kernel
theorem dJ1_charAt_3b067_8 : decode cJ1_charAt_3b067 8 = .ok (.baload, 1) := by decide +kernel
theorem dJ1_charAt_3b067_9 : decode cJ1_charAt_3b067 9 = .ok (.sipush 255, 3) := by decide +kernel
theorem dJ1_charAt_3b067_12 : decode cJ1_charAt_3b067 12 = .ok (.iand, 1) := by decide +kernel
theorem dJ1_charAt_3b067_13 : decode cJ1_charAt_3b067 13 = .ok (.i2c, 1) := by decide +kernel
theorem dJ1_charAt_3b067_14 : decode cJ1_charAt_3b067 14 = .ok (.ireturn, 1) := by decide +kernel
theorem dJ2_getChar_3b067_0 : decode cJ2_getChar_3b067 0 = .ok (.getstatic 44, 3) := by decide +kernel
theorem dJ2_getChar_3b067_3 : decode cJ2_getChar_3b067 3 = .ok (.ifCond .ne 25, 3) := by decide +kernel
theorem dJ2_getChar_3b067_6 : decode cJ2_getChar_3b067 6 = .ok (.iload_n 1, 1) := by decide +kernel
theorem dJ2_getChar_3b067_7 : decode cJ2_getChar_3b067 7 = .ok (.ifCond .lt 11, 3) := by decide +kernel
theorem dJ2_getChar_3b067_10 : decode cJ2_getChar_3b067 10 = .ok (.iload_n 1, 1) := by decide +kernel
theorem dJ2_getChar_3b067_11 : decode cJ2_getChar_3b067 11 = .ok (.aload_n 0, 1) := by decide +kernel
theorem dJ2_getChar_3b067_12 : decode cJ2_getChar_3b067 12 = .ok (.invokestatic 48, 3) := by decide +kernel
theorem dJ2_getChar_3b067_15 : decode cJ2_getChar_3b067 15 = .ok (.if_icmp .lt 13, 3) := by decide +kernel
theorem dJ2_getChar_3b067_18 : decode cJ2_getChar_3b067 18 = .ok (.new 52, 3) := by decide +kernel
theorem dJ2_getChar_3b067_21 : decode cJ2_getChar_3b067 21 = .ok (.dup, 1) := by decide +kernel
theorem dJ2_getChar_3b067_22 : decode cJ2_getChar_3b067 22 = .ok (.ldc 54, 2) := by decide +kernel
theorem dJ2_getChar_3b067_24 : decode cJ2_getChar_3b067 24 = .ok (.invokespecial 56, 3) := by decide +kernel
theorem dJ2_getChar_3b067_27 : decode cJ2_getChar_3b067 27 = .ok (.athrow, 1) := by decide +kernel
theorem dJ2_getChar_3b067_28 : decode cJ2_getChar_3b067 28 = .ok (.iload_n 1, 1) := by decide +kernel
theorem dJ2_getChar_3b067_29 : decode cJ2_getChar_3b067 29 = .ok (.iconst 1, 1) := by decide +kernel
theorem dJ2_getChar_3b067_30 : decode cJ2_getChar_3b067 30 = .ok (.ishl, 1) := by decide +kernel
theorem dJ2_getChar_3b067_31 : decode cJ2_getChar_3b067 31 = .ok (.istore_n 1, 1) := by decide +kernel
theorem dJ2_getChar_3b067_32 : decode cJ2_getChar_3b067 32 = .ok (.aload_n 0, 1) := by decide +kernel
theorem dJ2_getChar_3b067_33 : decode cJ2_getChar_3b067 33 = .ok (.iload_n 1, 1) := by decide +kernel
theorem dJ2_getChar_3b067_34 : decode cJ2_getChar_3b067 34 = .ok (.iinc 1 1, 3) := by decide +kernel
theorem dJ2_getChar_3b067_37 : decode cJ2_getChar_3b067 37 = .ok (.baload, 1) := by decide +kernel
theorem dJ2_getChar_3b067_38 : decode cJ2_getChar_3b067 38 = .ok (.sipush 255, 3) := by decide +kernel
theorem dJ2_getChar_3b067_41 : decode cJ2_getChar_3b067 41 = .ok (.iand, 1) := by decide +kernel
theorem dJ2_getChar_3b067_42 : decode cJ2_getChar_3b067 42 = .ok (.getstatic 59, 3) := by decide +kernel
theorem dJ2_getChar_3b067_45 : decode cJ2_getChar_3b067 45 = .ok (.ishl, 1) := by decide +kernel
theorem dJ2_getChar_3b067_46 : decode cJ2_getChar_3b067 46 = .ok (.aload_n 0, 1) := by decide +kernel
theorem dJ2_getChar_3b067_47 : decode cJ2_getChar_3b067 47 = .ok (.iload_n 1, 1) := by decide +kernel
theorem dJ2_getChar_3b067_48 : decode cJ2_getChar_3b067 48 = .ok (.baload, 1) := by decide +kernel
theorem dJ2_getChar_3b067_49 : decode cJ2_getChar_3b067 49 = .ok (.sipush 255, 3) := by decide +kernel
theorem dJ2_getChar_3b067_52 : decode cJ2_getChar_3b067 52 = .ok (.iand, 1) := by decide +kernel
theorem dJ2_getChar_3b067_53 : decode cJ2_getChar_3b067 53 = .ok (.getstatic 63, 3) := by decide +kernel
theorem dJ2_getChar_3b067_56 : decode cJ2_getChar_3b067 56 = .ok (.ishl, 1) := by decide +kernel
theorem dJ2_getChar_3b067_57 : decode cJ2_getChar_3b067 57 = .ok (.ior, 1) := by decide +kernel
theorem dJ2_getChar_3b067_58 : decode cJ2_getChar_3b067 58 = .ok (.i2c, 1) := by decide +kernel
theorem dJ2_getChar_3b067_59 : decode cJ2_getChar_3b067 59 = .ok (.ireturn, 1) := by decide +kernel
theorem dJ2_length_9d52b_0 : decode cJ2_length_9d52b 0 = .ok (.aload_n 0, 1) := by decide +kernel
theorem dJ2_length_9d52b_1 : decode cJ2_length_9d52b 1 = .ok (.arraylength, 1) := by decide +kernel
theorem dJ2_length_9d52b_2 : decode cJ2_length_9d52b 2 = .ok (.iconst 1, 1) := by decide +kernel
theorem dJ2_length_9d52b_3 : decode cJ2_length_9d52b 3 = .ok (.ishr, 1) := by decide +kernel
theorem dJ2_length_9d52b_4 : decode cJ2_length_9d52b 4 = .ok (.ireturn, 1) := by decide +kernel
theorem dJ2_charAt_3b067_0 : decode cJ2_charAt_3b067 0 = .ok (.iload_n 1, 1) := by decide +kernel
theorem dJ2_charAt_3b067_1 : decode cJ2_charAt_3b067 1 = .ok (.aload_n 0, 1) := by decide +kernel
theorem dJ2_charAt_3b067_2 : decode cJ2_charAt_3b067 2 = .ok (.invokestatic 67, 3) := by decide +kernel
theorem dJ2_charAt_3b067_5 : decode cJ2_charAt_3b067 5 = .ok (.aload_n 0, 1) := by decide +kernel
theorem dJ2_charAt_3b067_6 : decode cJ2_charAt_3b067 6 = .ok (.iload_n 1, 1) := by decide +kernel
theorem dJ2_charAt_3b067_7 : decode cJ2_charAt_3b067 7 = .ok (.invokestatic 71, 3) := by decide +kernel
theorem dJ2_charAt_3b067_10 : decode cJ2_charAt_3b067 10 = .ok (.ireturn, 1) := by decide +kernel
theorem dJ2_checkIndex_2214a_0 : decode cJ2_checkIndex_2214a 0 = .ok (.iload_n 0, 1) := by decide +kernel
theorem dJ2_checkIndex_2214a_1 : decode cJ2_checkIndex_2214a 1 = .ok (.aload_n 1, 1) := by decide +kernel
theorem dJ2_checkIndex_2214a_2 : decode cJ2_checkIndex_2214a 2 = .ok (.invokestatic 48, 3) := by decide +kernel
theorem dJ2_checkIndex_2214a_5 : decode cJ2_checkIndex_2214a 5 = .ok (.invokestatic 414, 3) := by decide +kernel
theorem dJ2_checkIndex_2214a_8 : decode cJ2_checkIndex_2214a 8 = .ok (.return_, 1) := by decide +kernel
theorem dJ7_fill_d0a16_0 : decode cJ7_fill_d0a16 0 = .ok (.iconst 0, 1) := by decide +kernel
theorem dJ7_fill_d0a16_1 : decode cJ7_fill_d0a16 1 = .ok (.istore_n 3, 1) := by decide +kernel
theorem dJ7_fill_d0a16_2 : decode cJ7_fill_d0a16 2 = .ok (.aload_n 0, 1) := by decide +kernel
theorem dJ7_fill_d0a16_3 : decode cJ7_fill_d0a16 3 = .ok (.arraylength, 1) := by decide +kernel
theorem dJ7_fill_d0a16_4 : decode cJ7_fill_d0a16 4 = .ok (.istore 4, 2) := by decide +kernel
theorem dJ7_fill_d0a16_6 : decode cJ7_fill_d0a16 6 = .ok (.iload_n 3, 1) := by decide +kernel
theorem dJ7_fill_d0a16_7 : decode cJ7_fill_d0a16 7 = .ok (.iload 4, 2) := by decide +kernel
theorem dJ7_fill_d0a16_9 : decode cJ7_fill_d0a16 9 = .ok (.if_icmp .ge 13, 3) := by decide +kernel
theorem dJ7_fill_d0a16_12 : decode cJ7_fill_d0a16 12 = .ok (.aload_n 0, 1) := by decide +kernel
theorem dJ7_fill_d0a16_13 : decode cJ7_fill_d0a16 13 = .ok (.iload_n 3, 1) := by decide +kernel
theorem dJ7_fill_d0a16_14 : decode cJ7_fill_d0a16 14 = .ok (.lload_n 1, 1) := by decide +kernel
theorem dJ7_fill_d0a16_15 : decode cJ7_fill_d0a16 15 = .ok (.lastore, 1) := by decide +kernel
theorem dJ7_fill_d0a16_16 : decode cJ7_fill_d0a16 16 = .ok (.iinc 3 1, 3) := by decide +kernel
theorem dJ7_fill_d0a16_19 : decode cJ7_fill_d0a16 19 = .ok (.goto (-13), 3) := by decide +kernel
theorem dJ7_fill_d0a16_22 : decode cJ7_fill_d0a16 22 = .ok (.return_, 1) := by decide +kernel
theorem dJ7_fill_53178_0 : decode cJ7_fill_53178 0 = .ok (.iconst 0, 1) := by decide +kernel
theorem dJ7_fill_53178_1 : decode cJ7_fill_53178 1 = .ok (.istore_n 2, 1) := by decide +kernel
theorem dJ7_fill_53178_2 : decode cJ7_fill_53178 2 = .ok (.aload_n 0, 1) := by decide +kernel
theorem dJ7_fill_53178_3 : decode cJ7_fill_53178 3 = .ok (.arraylength, 1) := by decide +kernel
theorem dJ7_fill_53178_4 : decode cJ7_fill_53178 4 = .ok (.istore_n 3, 1) := by decide +kernel
theorem dJ7_fill_53178_5 : decode cJ7_fill_53178 5 = .ok (.iload_n 2, 1) := by decide +kernel
theorem dJ7_fill_53178_6 : decode cJ7_fill_53178 6 = .ok (.iload_n 3, 1) := by decide +kernel
theorem dJ7_fill_53178_7 : decode cJ7_fill_53178 7 = .ok (.if_icmp .ge 13, 3) := by decide +kernel
theorem dJ7_fill_53178_10 : decode cJ7_fill_53178 10 = .ok (.aload_n 0, 1) := by decide +kernel
theorem dJ7_fill_53178_11 : decode cJ7_fill_53178 11 = .ok (.iload_n 2, 1) := by decide +kernel
theorem dJ7_fill_53178_12 : decode cJ7_fill_53178 12 = .ok (.iload_n 1, 1) := by decide +kernel
theorem dJ7_fill_53178_13 : decode cJ7_fill_53178 13 = .ok (.iastore, 1) := by decide +kernel
theorem dJ7_fill_53178_14 : decode cJ7_fill_53178 14 = .ok (.iinc 2 1, 3) := by decide +kernel
theorem dJ7_fill_53178_17 : decode cJ7_fill_53178 17 = .ok (.goto (-12), 3) := by decide +kernel
theorem dJ7_fill_53178_20 : decode cJ7_fill_53178 20 = .ok (.return_, 1) := by decide +kernel
theorem dJ3_checkIndex_8e157_0 : decode cJ3_checkIndex_8e157 0 = .ok (.iload_n 0, 1) := by decide +kernel
theorem dJ3_checkIndex_8e157_1 : decode cJ3_checkIndex_8e157 1 = .ok (.ifCond .lt 8, 3) := by decide +kernel
theorem dJ3_checkIndex_8e157_4 : decode cJ3_checkIndex_8e157 4 = .ok (.iload_n 0, 1) := by decide +kernel
theorem dJ3_checkIndex_8e157_5 : decode cJ3_checkIndex_8e157 5 = .ok (.iload_n 1, 1) := by decide +kernel
theorem dJ3_checkIndex_8e157_6 : decode cJ3_checkIndex_8e157 6 = .ok (.if_icmp .lt 10, 3) := by decide +kernel
theorem dJ3_checkIndex_8e157_9 : decode cJ3_checkIndex_8e157 9 = .ok (.aload_n 2, 1) := by decide +kernel
theorem dJ3_checkIndex_8e157_10 : decode cJ3_checkIndex_8e157 10 = .ok (.iload_n 0, 1) := by decide +kernel
theorem dJ3_checkIndex_8e157_11 : decode cJ3_checkIndex_8e157 11 = .ok (.iload_n 1, 1) := by decide +kernel
theorem dJ3_checkIndex_8e157_12 : decode cJ3_checkIndex_8e157 12 = .ok (.invokestatic 95, 3) := by decide +kernel
theorem dJ3_checkIndex_8e157_15 : decode cJ3_checkIndex_8e157 15 = .ok (.athrow, 1) := by decide +kernel
theorem dJ3_checkIndex_8e157_16 : decode cJ3_checkIndex_8e157 16 = .ok (.iload_n 0, 1) := by decide +kernel
theorem dJ3_checkIndex_8e157_17 : decode cJ3_checkIndex_8e157 17 = .ok (.ireturn, 1) := by decide +kernel
