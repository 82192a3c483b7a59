theorem dX11_write_59 : decode cX11_write 59 = .ok (.iload 4, 2) := by decide +kernel
theorem dX11_write_61 : decode cX11_write 61 = .ok (.invokevirtual 386, 3) := by decide +kernel
theorem dX11_write_64 : decode cX11_write 64 = .ok (.goto 4, 3) := by decide +kernel
theorem dX11_write_67 : decode cX11_write 67 = .ok (.iconst (-1), 1) := by decide +kernel
theorem dX11_write_68 : decode cX11_write 68 = .ok (.invokevirtual 451, 3) := by decide +kernel
theorem dX11_write_71 : decode cX11_write 71 = .ok (.ireturn, 1) := by decide +kernel
theorem dX11_copy_0 : decode cX11_copy 0 = .ok (.aload_n 0, 1) := by decide +kernel
theorem dX11_copy_1 : decode cX11_copy 1 = .ok (.iconst 0, 1) := by decide +kernel
theorem dX11_copy_2 : decode cX11_copy 2 = .ok (.putfield 88, 3) := by decide +kernel
theorem dX11_copy_5 : decode cX11_copy 5 = .ok (.aload_n 0, 1) := by decide +kernel
theorem dX11_copy_6 : decode cX11_copy 6 = .ok (.iload_n 1, 1) := by decide +kernel
theorem dX11_copy_7 : decode cX11_copy 7 = .ok (.iload_n 2, 1) := by decide +kernel
theorem dX11_copy_8 : decode cX11_copy 8 = .ok (.invokevirtual 430, 3) := by decide +kernel
theorem dX11_copy_11 : decode cX11_copy 11 = .ok (.ifCond .eq 13, 3) := by decide +kernel
theorem dX11_copy_14 : decode cX11_copy 14 = .ok (.aload_n 0, 1) := by decide +kernel
theorem dX11_copy_15 : decode cX11_copy 15 = .ok (.iload_n 3, 1) := by decide +kernel
theorem dX11_copy_16 : decode cX11_copy 16 = .ok (.iload 4, 2) := by decide +kernel
theorem dX11_copy_18 : decode cX11_copy 18 = .ok (.invokevirtual 430, 3) := by decide +kernel
theorem dX11_copy_21 : decode cX11_copy 21 = .ok (.ifCond .ne 5, 3) := by decide +kernel
theorem dX11_copy_24 : decode cX11_copy 24 = .ok (.iconst 0, 1) := by decide +kernel
theorem dX11_copy_25 : decode cX11_copy 25 = .ok (.ireturn, 1) := by decide +kernel
theorem dX11_copy_26 : decode cX11_copy 26 = .ok (.aload_n 0, 1) := by decide +kernel
theorem dX11_copy_27 : decode cX11_copy 27 = .ok (.invokevirtual 448, 3) := by decide +kernel
theorem dX11_copy_30 : decode cX11_copy 30 = .ok (.aload_n 0, 1) := by decide +kernel
theorem dX11_copy_31 : decode cX11_copy 31 = .ok (.sipush 1654, 3) := by decide +kernel
theorem dX11_copy_34 : decode cX11_copy 34 = .ok (.aload_n 0, 1) := by decide +kernel
theorem dX11_copy_35 : decode cX11_copy 35 = .ok (.getfield 42, 3) := by decide +kernel
theorem dX11_copy_38 : decode cX11_copy 38 = .ok (.iload_n 3, 1) := by decide +kernel
theorem dX11_copy_39 : decode cX11_copy 39 = .ok (.iaload, 1) := by decide +kernel
theorem dX11_copy_40 : decode cX11_copy 40 = .ok (.iload 4, 2) := by decide +kernel
theorem dX11_copy_42 : decode cX11_copy 42 = .ok (.iadd, 1) := by decide +kernel
theorem dX11_copy_43 : decode cX11_copy 43 = .ok (.invokevirtual 162, 3) := by decide +kernel
theorem dX11_copy_46 : decode cX11_copy 46 = .ok (.aload_n 0, 1) := by decide +kernel
theorem dX11_copy_47 : decode cX11_copy 47 = .ok (.aload_n 0, 1) := by decide +kernel
theorem dX11_copy_48 : decode cX11_copy 48 = .ok (.sipush 1654, 3) := by decide +kernel
theorem dX11_copy_51 : decode cX11_copy 51 = .ok (.aload_n 0, 1) := by decide +kernel
theorem dX11_copy_52 : decode cX11_copy 52 = .ok (.getfield 42, 3) := by decide +kernel
theorem dX11_copy_55 : decode cX11_copy 55 = .ok (.iload_n 1, 1) := by decide +kernel
theorem dX11_copy_56 : decode cX11_copy 56 = .ok (.iaload, 1) := by decide +kernel
theorem dX11_copy_57 : decode cX11_copy 57 = .ok (.iload_n 2, 1) := by decide +kernel
theorem dX11_copy_58 : decode cX11_copy 58 = .ok (.iadd, 1) := by decide +kernel
theorem dX11_copy_59 : decode cX11_copy 59 = .ok (.invokevirtual 165, 3) := by decide +kernel
theorem dX11_copy_62 : decode cX11_copy 62 = .ok (.invokevirtual 451, 3) := by decide +kernel
theorem dX11_copy_65 : decode cX11_copy 65 = .ok (.ireturn, 1) := by decide +kernel
theorem dX11_drop_0 : decode cX11_drop 0 = .ok (.aload_n 0, 1) := by decide +kernel
theorem dX11_drop_1 : decode cX11_drop 1 = .ok (.iconst 0, 1) := by decide +kernel
theorem dX11_drop_2 : decode cX11_drop 2 = .ok (.putfield 88, 3) := by decide +kernel
theorem dX11_drop_5 : decode cX11_drop 5 = .ok (.aload_n 0, 1) := by decide +kernel
theorem dX11_drop_6 : decode cX11_drop 6 = .ok (.iload_n 1, 1) := by decide +kernel
theorem dX11_drop_7 : decode cX11_drop 7 = .ok (.iload_n 2, 1) := by decide +kernel
theorem dX11_drop_8 : decode cX11_drop 8 = .ok (.invokevirtual 430, 3) := by decide +kernel
theorem dX11_drop_11 : decode cX11_drop 11 = .ok (.ifCond .ne 5, 3) := by decide +kernel
theorem dX11_drop_14 : decode cX11_drop 14 = .ok (.iconst 0, 1) := by decide +kernel
theorem dX11_drop_15 : decode cX11_drop 15 = .ok (.ireturn, 1) := by decide +kernel
theorem dX11_drop_16 : decode cX11_drop 16 = .ok (.aload_n 0, 1) := by decide +kernel
theorem dX11_drop_17 : decode cX11_drop 17 = .ok (.invokevirtual 448, 3) := by decide +kernel
theorem dX11_drop_20 : decode cX11_drop 20 = .ok (.aload_n 0, 1) := by decide +kernel
theorem dX11_drop_21 : decode cX11_drop 21 = .ok (.aload_n 0, 1) := by decide +kernel
theorem dX11_drop_22 : decode cX11_drop 22 = .ok (.sipush 1654, 3) := by decide +kernel
theorem dX11_drop_25 : decode cX11_drop 25 = .ok (.aload_n 0, 1) := by decide +kernel
theorem dX11_drop_26 : decode cX11_drop 26 = .ok (.getfield 42, 3) := by decide +kernel
theorem dX11_drop_29 : decode cX11_drop 29 = .ok (.iload_n 1, 1) := by decide +kernel
theorem dX11_drop_30 : decode cX11_drop 30 = .ok (.iaload, 1) := by decide +kernel
theorem dX11_drop_31 : decode cX11_drop 31 = .ok (.iload_n 2, 1) := by decide +kernel
theorem dX11_drop_32 : decode cX11_drop 32 = .ok (.iadd, 1) := by decide +kernel
theorem dX11_drop_33 : decode cX11_drop 33 = .ok (.invokevirtual 228, 3) := by decide +kernel
theorem dX11_drop_36 : decode cX11_drop 36 = .ok (.invokevirtual 451, 3) := by decide +kernel
theorem dX11_drop_39 : decode cX11_drop 39 = .ok (.ireturn, 1) := by decide +kernel
theorem dX11_advise_0 : decode cX11_advise 0 = .ok (.aload_n 0, 1) := by decide +kernel
theorem dX11_advise_1 : decode cX11_advise 1 = .ok (.iconst 0, 1) := by decide +kernel
theorem dX11_advise_2 : decode cX11_advise 2 = .ok (.putfield 88, 3) := by decide +kernel
theorem dX11_advise_5 : decode cX11_advise 5 = .ok (.aload_n 0, 1) := by decide +kernel
theorem dX11_advise_6 : decode cX11_advise 6 = .ok (.iload_n 1, 1) := by decide +kernel
theorem dX11_advise_7 : decode cX11_advise 7 = .ok (.iload_n 2, 1) := by decide +kernel
theorem dX11_advise_8 : decode cX11_advise 8 = .ok (.invokevirtual 430, 3) := by decide +kernel
theorem dX11_advise_11 : decode cX11_advise 11 = .ok (.ifCond .eq 12, 3) := by decide +kernel
theorem dX11_advise_14 : decode cX11_advise 14 = .ok (.aload_n 0, 1) := by decide +kernel
theorem dX11_advise_15 : decode cX11_advise 15 = .ok (.iload_n 1, 1) := by decide +kernel
theorem dX11_advise_16 : decode cX11_advise 16 = .ok (.iload_n 3, 1) := by decide +kernel
theorem dX11_advise_17 : decode cX11_advise 17 = .ok (.invokevirtual 430, 3) := by decide +kernel
theorem dX11_advise_20 : decode cX11_advise 20 = .ok (.ifCond .ne 5, 3) := by decide +kernel
theorem dX11_advise_23 : decode cX11_advise 23 = .ok (.iconst 0, 1) := by decide +kernel
theorem dX11_advise_24 : decode cX11_advise 24 = .ok (.ireturn, 1) := by decide +kernel
theorem dX11_advise_25 : decode cX11_advise 25 = .ok (.aload_n 0, 1) := by decide +kernel
theorem dX11_advise_26 : decode cX11_advise 26 = .ok (.invokevirtual 448, 3) := by decide +kernel
theorem dX11_advise_29 : decode cX11_advise 29 = .ok (.aload_n 0, 1) := by decide +kernel
theorem dX11_advise_30 : decode cX11_advise 30 = .ok (.sipush 1654, 3) := by decide +kernel
theorem dX11_advise_33 : decode cX11_advise 33 = .ok (.aload_n 0, 1) := by decide +kernel
theorem dX11_advise_34 : decode cX11_advise 34 = .ok (.getfield 42, 3) := by decide +kernel
theorem dX11_advise_37 : decode cX11_advise 37 = .ok (.iload_n 1, 1) := by decide +kernel
theorem dX11_advise_38 : decode cX11_advise 38 = .ok (.iaload, 1) := by decide +kernel
theorem dX11_advise_39 : decode cX11_advise 39 = .ok (.iload_n 2, 1) := by decide +kernel
theorem dX11_advise_40 : decode cX11_advise 40 = .ok (.iadd, 1) := by decide +kernel
theorem dX11_advise_41 : decode cX11_advise 41 = .ok (.aload_n 0, 1) := by decide +kernel
theorem dX11_advise_42 : decode cX11_advise 42 = .ok (.getfield 42, 3) := by decide +kernel
theorem dX11_advise_45 : decode cX11_advise 45 = .ok (.iload_n 1, 1) := by decide +kernel
theorem dX11_advise_46 : decode cX11_advise 46 = .ok (.iaload, 1) := by decide +kernel
theorem dX11_advise_47 : decode cX11_advise 47 = .ok (.iload_n 3, 1) := by decide +kernel
theorem dX11_advise_48 : decode cX11_advise 48 = .ok (.iadd, 1) := by decide +kernel
theorem dX11_advise_49 : decode cX11_advise 49 = .ok (.iload 4, 2) := by decide +kernel
theorem dX11_advise_51 : decode cX11_advise 51 = .ok (.ifCond .eq 7, 3) := by decide +kernel
theorem dX11_advise_54 : decode cX11_advise 54 = .ok (.iconst 1, 1) := by decide +kernel
theorem dX11_advise_55 : decode cX11_advise 55 = .ok (.goto 4, 3) := by decide +kernel
theorem dX11_advise_58 : decode cX11_advise 58 = .ok (.iconst 0, 1) := by decide +kernel
theorem dX11_advise_59 : decode cX11_advise 59 = .ok (.invokevirtual 454, 3) := by decide +kernel
theorem dX11_advise_62 : decode cX11_advise 62 = .ok (.istore 5, 2) := by decide +kernel
theorem dX11_advise_64 : decode cX11_advise 64 = .ok (.aload_n 0, 1) := by decide +kernel
theorem dX11_advise_65 : decode cX11_advise 65 = .ok (.iload 5, 2) := by decide +kernel
theorem dX11_advise_67 : decode cX11_advise 67 = .ok (.ifCond .ne 7, 3) := by decide +kernel
theorem dX11_advise_70 : decode cX11_advise 70 = .ok (.iconst (-1), 1) := by decide +kernel
theorem dX11_advise_71 : decode cX11_advise 71 = .ok (.goto 5, 3) := by decide +kernel
theorem dX11_advise_74 : decode cX11_advise 74 = .ok (.iload 5, 2) := by decide +kernel
theorem dX11_advise_76 : decode cX11_advise 76 = .ok (.invokevirtual 451, 3) := by decide +kernel
theorem dX11_advise_79 : decode cX11_advise 79 = .ok (.ireturn, 1) := by decide +kernel
theorem dX11_scan_0 : decode cX11_scan 0 = .ok (.aload_n 0, 1) := by decide +kernel
theorem dX11_scan_1 : decode cX11_scan 1 = .ok (.iconst 0, 1) := by decide +kernel
theorem dX11_scan_2 : decode cX11_scan 2 = .ok (.putfield 88, 3) := by decide +kernel
theorem dX11_scan_5 : decode cX11_scan 5 = .ok (.iload_n 1, 1) := by decide +kernel
theorem dX11_scan_6 : decode cX11_scan 6 = .ok (.iconst 1, 1) := by decide +kernel
theorem dX11_scan_7 : decode cX11_scan 7 = .ok (.bipush 100, 2) := by decide +kernel
theorem dX11_scan_9 : decode cX11_scan 9 = .ok (.invokestatic 286, 3) := by decide +kernel
theorem dX11_scan_12 : decode cX11_scan 12 = .ok (.ifCond .ne 9, 3) := by decide +kernel
theorem dX11_scan_15 : decode cX11_scan 15 = .ok (.aload_n 0, 1) := by decide +kernel
theorem dX11_scan_16 : decode cX11_scan 16 = .ok (.iconst 1, 1) := by decide +kernel
theorem dX11_scan_17 : decode cX11_scan 17 = .ok (.invokevirtual 445, 3) := by decide +kernel
theorem dX11_scan_20 : decode cX11_scan 20 = .ok (.ireturn, 1) := by decide +kernel
theorem dX11_scan_21 : decode cX11_scan 21 = .ok (.aload_n 0, 1) := by decide +kernel
theorem dX11_scan_22 : decode cX11_scan 22 = .ok (.invokevirtual 448, 3) := by decide +kernel
theorem dX11_scan_25 : decode cX11_scan 25 = .ok (.aload_n 0, 1) := by decide +kernel
theorem dX11_scan_26 : decode cX11_scan 26 = .ok (.aload_n 0, 1) := by decide +kernel
theorem dX11_scan_27 : decode cX11_scan 27 = .ok (.sipush 1654, 3) := by decide +kernel
theorem dX11_scan_30 : decode cX11_scan 30 = .ok (.iload_n 1, 1) := by decide +kernel
theorem dX11_scan_31 : decode cX11_scan 31 = .ok (.invokevirtual 244, 3) := by decide +kernel
theorem dX11_scan_34 : decode cX11_scan 34 = .ok (.invokevirtual 451, 3) := by decide +kernel
theorem dX11_scan_37 : decode cX11_scan 37 = .ok (.ireturn, 1) := by decide +kernel
theorem dX11_ticks_0 : decode cX11_ticks 0 = .ok (.aload_n 0, 1) := by decide +kernel
theorem dX11_ticks_1 : decode cX11_ticks 1 = .ok (.iconst 0, 1) := by decide +kernel
theorem dX11_ticks_2 : decode cX11_ticks 2 = .ok (.putfield 88, 3) := by decide +kernel
theorem dX11_ticks_5 : decode cX11_ticks 5 = .ok (.iload_n 1, 1) := by decide +kernel
theorem dX11_ticks_6 : decode cX11_ticks 6 = .ok (.iconst 1, 1) := by decide +kernel
theorem dX11_ticks_7 : decode cX11_ticks 7 = .ok (.bipush 20, 2) := by decide +kernel
theorem dX11_ticks_9 : decode cX11_ticks 9 = .ok (.invokestatic 286, 3) := by decide +kernel
theorem dX11_ticks_12 : decode cX11_ticks 12 = .ok (.ifCond .eq 17, 3) := by decide +kernel
theorem dX11_ticks_15 : decode cX11_ticks 15 = .ok (.aload_n 0, 1) := by decide +kernel
theorem dX11_ticks_16 : decode cX11_ticks 16 = .ok (.getfield 10, 3) := by decide +kernel
theorem dX11_ticks_19 : decode cX11_ticks 19 = .ok (.iconst 2, 1) := by decide +kernel
theorem dX11_ticks_20 : decode cX11_ticks 20 = .ok (.iaload, 1) := by decide +kernel
theorem dX11_ticks_21 : decode cX11_ticks 21 = .ok (.iload_n 1, 1) := by decide +kernel
theorem dX11_ticks_22 : decode cX11_ticks 22 = .ok (.iadd, 1) := by decide +kernel
theorem dX11_ticks_23 : decode cX11_ticks 23 = .ok (.sipush 9999, 3) := by decide +kernel
theorem dX11_ticks_26 : decode cX11_ticks 26 = .ok (.if_icmp .le 9, 3) := by decide +kernel
theorem dX11_ticks_29 : decode cX11_ticks 29 = .ok (.aload_n 0, 1) := by decide +kernel
theorem dX11_ticks_30 : decode cX11_ticks 30 = .ok (.iconst 1, 1) := by decide +kernel
theorem dX11_ticks_31 : decode cX11_ticks 31 = .ok (.invokevirtual 445, 3) := by decide +kernel
theorem dX11_ticks_34 : decode cX11_ticks 34 = .ok (.ireturn, 1) := by decide +kernel
theorem dX11_ticks_35 : decode cX11_ticks 35 = .ok (.aload_n 0, 1) := by decide +kernel
theorem dX11_ticks_36 : decode cX11_ticks 36 = .ok (.invokevirtual 448, 3) := by decide +kernel
theorem dX11_ticks_39 : decode cX11_ticks 39 = .ok (.aload_n 0, 1) := by decide +kernel
theorem dX11_ticks_40 : decode cX11_ticks 40 = .ok (.sipush 1654, 3) := by decide +kernel
theorem dX11_ticks_43 : decode cX11_ticks 43 = .ok (.iload_n 1, 1) := by decide +kernel
theorem dX11_ticks_44 : decode cX11_ticks 44 = .ok (.invokevirtual 389, 3) := by decide +kernel
theorem dX11_ticks_47 : decode cX11_ticks 47 = .ok (.pop, 1) := by decide +kernel
theorem dX11_ticks_48 : decode cX11_ticks 48 = .ok (.aload_n 0, 1) := by decide +kernel
theorem dX11_ticks_49 : decode cX11_ticks 49 = .ok (.iconst 0, 1) := by decide +kernel
theorem dX11_ticks_50 : decode cX11_ticks 50 = .ok (.invokevirtual 451, 3) := by decide +kernel
theorem dX11_ticks_53 : decode cX11_ticks 53 = .ok (.pop, 1) := by decide +kernel
theorem dX11_ticks_54 : decode cX11_ticks 54 = .ok (.aload_n 0, 1) := by decide +kernel
theorem dX11_ticks_55 : decode cX11_ticks 55 = .ok (.getfield 10, 3) := by decide +kernel
theorem dX11_ticks_58 : decode cX11_ticks 58 = .ok (.iconst 2, 1) := by decide +kernel
theorem dX11_ticks_59 : decode cX11_ticks 59 = .ok (.iaload, 1) := by decide +kernel
theorem dX11_ticks_60 : decode cX11_ticks 60 = .ok (.ireturn, 1) := by decide +kernel
theorem dX11_rate_0 : decode cX11_rate 0 = .ok (.aload_n 0, 1) := by decide +kernel
theorem dX11_rate_1 : decode cX11_rate 1 = .ok (.iconst 0, 1) := by decide +kernel
theorem dX11_rate_2 : decode cX11_rate 2 = .ok (.putfield 88, 3) := by decide +kernel
theorem dX11_rate_5 : decode cX11_rate 5 = .ok (.aload_n 0, 1) := by decide +kernel
theorem dX11_rate_6 : decode cX11_rate 6 = .ok (.getfield 10, 3) := by decide +kernel
theorem dX11_rate_9 : decode cX11_rate 9 = .ok (.iconst 0, 1) := by decide +kernel
theorem dX11_rate_10 : decode cX11_rate 10 = .ok (.iaload, 1) := by decide +kernel
theorem dX11_rate_11 : decode cX11_rate 11 = .ok (.istore_n 2, 1) := by decide +kernel
theorem dX11_rate_12 : decode cX11_rate 12 = .ok (.iload_n 1, 1) := by decide +kernel
theorem dX11_rate_13 : decode cX11_rate 13 = .ok (.aload_n 0, 1) := by decide +kernel
theorem dX11_rate_14 : decode cX11_rate 14 = .ok (.getfield 30, 3) := by decide +kernel
theorem dX11_rate_17 : decode cX11_rate 17 = .ok (.aload_n 0, 1) := by decide +kernel
theorem dX11_rate_18 : decode cX11_rate 18 = .ok (.getfield 33, 3) := by decide +kernel
theorem dX11_rate_21 : decode cX11_rate 21 = .ok (.invokestatic 286, 3) := by decide +kernel
theorem dX11_rate_24 : decode cX11_rate 24 = .ok (.ifCond .eq 8, 3) := by decide +kernel
theorem dX11_rate_27 : decode cX11_rate 27 = .ok (.iload_n 1, 1) := by decide +kernel
theorem dX11_rate_28 : decode cX11_rate 28 = .ok (.iload_n 2, 1) := by decide +kernel
theorem dX11_rate_29 : decode cX11_rate 29 = .ok (.if_icmp .ne 9, 3) := by decide +kernel
theorem dX11_rate_32 : decode cX11_rate 32 = .ok (.aload_n 0, 1) := by decide +kernel
theorem dX11_rate_33 : decode cX11_rate 33 = .ok (.iconst 1, 1) := by decide +kernel
theorem dX11_rate_34 : decode cX11_rate 34 = .ok (.invokevirtual 445, 3) := by decide +kernel
theorem dX11_rate_37 : decode cX11_rate 37 = .ok (.ireturn, 1) := by decide +kernel
theorem dX11_rate_38 : decode cX11_rate 38 = .ok (.aload_n 0, 1) := by decide +kernel
theorem dX11_rate_39 : decode cX11_rate 39 = .ok (.invokevirtual 448, 3) := by decide +kernel
theorem dX11_rate_42 : decode cX11_rate 42 = .ok (.aload_n 0, 1) := by decide +kernel
theorem dX11_rate_43 : decode cX11_rate 43 = .ok (.getfield 10, 3) := by decide +kernel
theorem dX11_rate_46 : decode cX11_rate 46 = .ok (.sipush 1654, 3) := by decide +kernel
theorem dX11_rate_49 : decode cX11_rate 49 = .ok (.iload_n 1, 1) := by decide +kernel
theorem dX11_rate_50 : decode cX11_rate 50 = .ok (.iastore, 1) := by decide +kernel
theorem dX11_rate_51 : decode cX11_rate 51 = .ok (.aload_n 0, 1) := by decide +kernel
theorem dX11_rate_52 : decode cX11_rate 52 = .ok (.iload_n 2, 1) := by decide +kernel
theorem dX11_rate_53 : decode cX11_rate 53 = .ok (.invokevirtual 451, 3) := by decide +kernel
theorem dX11_rate_56 : decode cX11_rate 56 = .ok (.ireturn, 1) := by decide +kernel
theorem dX11_undo_0 : decode cX11_undo 0 = .ok (.aload_n 0, 1) := by decide +kernel
theorem dX11_undo_1 : decode cX11_undo 1 = .ok (.iconst 0, 1) := by decide +kernel
theorem dX11_undo_2 : decode cX11_undo 2 = .ok (.putfield 88, 3) := by decide +kernel
theorem dX11_undo_5 : decode cX11_undo 5 = .ok (.aload_n 0, 1) := by decide +kernel
theorem dX11_undo_6 : decode cX11_undo 6 = .ok (.getfield 352, 3) := by decide +kernel
theorem dX11_undo_9 : decode cX11_undo 9 = .ok (.ifCond .ne 5, 3) := by decide +kernel
theorem dX11_undo_12 : decode cX11_undo 12 = .ok (.iconst (-1), 1) := by decide +kernel
theorem dX11_undo_13 : decode cX11_undo 13 = .ok (.ireturn, 1) := by decide +kernel
theorem dX11_undo_14 : decode cX11_undo 14 = .ok (.aload_n 0, 1) := by decide +kernel
theorem dX11_undo_15 : decode cX11_undo 15 = .ok (.dup, 1) := by decide +kernel
theorem dX11_undo_16 : decode cX11_undo 16 = .ok (.getfield 352, 3) := by decide +kernel
theorem dX11_undo_19 : decode cX11_undo 19 = .ok (.iconst 1, 1) := by decide +kernel
theorem dX11_undo_20 : decode cX11_undo 20 = .ok (.isub, 1) := by decide +kernel
theorem dX11_undo_21 : decode cX11_undo 21 = .ok (.putfield 352, 3) := by decide +kernel
theorem dX11_undo_24 : decode cX11_undo 24 = .ok (.aload_n 0, 1) := by decide +kernel
theorem dX11_undo_25 : decode cX11_undo 25 = .ok (.aload_n 0, 1) := by decide +kernel
theorem dX11_undo_26 : decode cX11_undo 26 = .ok (.getfield 349, 3) := by decide +kernel
theorem dX11_undo_29 : decode cX11_undo 29 = .ok (.aload_n 0, 1) := by decide +kernel
theorem dX11_undo_30 : decode cX11_undo 30 = .ok (.getfield 352, 3) := by decide +kernel
theorem dX11_undo_33 : decode cX11_undo 33 = .ok (.invokestatic 442, 3) := by decide +kernel
theorem dX11_undo_36 : decode cX11_undo 36 = .ok (.iconst 0, 1) := by decide +kernel
theorem dX11_undo_37 : decode cX11_undo 37 = .ok (.sipush 1654, 3) := by decide +kernel
theorem dX11_undo_40 : decode cX11_undo 40 = .ok (.invokevirtual 394, 3) := by decide +kernel
theorem dX11_undo_43 : decode cX11_undo 43 = .ok (.aload_n 0, 1) := by decide +kernel
theorem dX11_undo_44 : decode cX11_undo 44 = .ok (.getfield 352, 3) := by decide +kernel
theorem dX11_undo_47 : decode cX11_undo 47 = .ok (.ireturn, 1) := by decide +kernel
theorem dX11_toldOf_0 : decode cX11_toldOf 0 = .ok (.iload_n 2, 1) := by decide +kernel
theorem dX11_toldOf_1 : decode cX11_toldOf 1 = .ok (.tableswitch 71 0 4 #[35, 41, 47, 53, 62], 35) := by decide +kernel
theorem dX11_toldOf_36 : decode cX11_toldOf 36 = .ok (.aload_n 0, 1) := by decide +kernel
theorem dX11_toldOf_37 : decode cX11_toldOf 37 = .ok (.iload_n 1, 1) := by decide +kernel
theorem dX11_toldOf_38 : decode cX11_toldOf 38 = .ok (.invokevirtual 403, 3) := by decide +kernel
theorem dX11_toldOf_41 : decode cX11_toldOf 41 = .ok (.ireturn, 1) := by decide +kernel
theorem dX11_toldOf_42 : decode cX11_toldOf 42 = .ok (.aload_n 0, 1) := by decide +kernel
theorem dX11_toldOf_43 : decode cX11_toldOf 43 = .ok (.iload_n 1, 1) := by decide +kernel
theorem dX11_toldOf_44 : decode cX11_toldOf 44 = .ok (.invokevirtual 409, 3) := by decide +kernel
theorem dX11_toldOf_47 : decode cX11_toldOf 47 = .ok (.ireturn, 1) := by decide +kernel
theorem dX11_toldOf_48 : decode cX11_toldOf 48 = .ok (.aload_n 0, 1) := by decide +kernel
theorem dX11_toldOf_49 : decode cX11_toldOf 49 = .ok (.iload_n 1, 1) := by decide +kernel
theorem dX11_toldOf_50 : decode cX11_toldOf 50 = .ok (.invokevirtual 418, 3) := by decide +kernel
theorem dX11_toldOf_53 : decode cX11_toldOf 53 = .ok (.ireturn, 1) := by decide +kernel
theorem dX11_toldOf_54 : decode cX11_toldOf 54 = .ok (.aload_n 0, 1) := by decide +kernel
theorem dX11_toldOf_55 : decode cX11_toldOf 55 = .ok (.getfield 10, 3) := by decide +kernel
theorem dX11_toldOf_58 : decode cX11_toldOf 58 = .ok (.iload_n 1, 1) := by decide +kernel
theorem dX11_toldOf_59 : decode cX11_toldOf 59 = .ok (.iconst 0, 1) := by decide +kernel
theorem dX11_toldOf_60 : decode cX11_toldOf 60 = .ok (.iadd, 1) := by decide +kernel
theorem dX11_toldOf_61 : decode cX11_toldOf 61 = .ok (.iaload, 1) := by decide +kernel
theorem dX11_toldOf_62 : decode cX11_toldOf 62 = .ok (.ireturn, 1) := by decide +kernel
theorem dX11_toldOf_63 : decode cX11_toldOf 63 = .ok (.aload_n 0, 1) := by decide +kernel
theorem dX11_toldOf_64 : decode cX11_toldOf 64 = .ok (.getfield 10, 3) := by decide +kernel
theorem dX11_toldOf_67 : decode cX11_toldOf 67 = .ok (.iload_n 1, 1) := by decide +kernel
theorem dX11_toldOf_68 : decode cX11_toldOf 68 = .ok (.iconst 3, 1) := by decide +kernel
theorem dX11_toldOf_69 : decode cX11_toldOf 69 = .ok (.iadd, 1) := by decide +kernel
theorem dX11_toldOf_70 : decode cX11_toldOf 70 = .ok (.iaload, 1) := by decide +kernel
theorem dX11_toldOf_71 : decode cX11_toldOf 71 = .ok (.ireturn, 1) := by decide +kernel
theorem dX11_toldOf_72 : decode cX11_toldOf 72 = .ok (.aload_n 0, 1) := by decide +kernel
theorem dX11_toldOf_73 : decode cX11_toldOf 73 = .ok (.getfield 10, 3) := by decide +kernel
theorem dX11_toldOf_76 : decode cX11_toldOf 76 = .ok (.iload_n 1, 1) := by decide +kernel
theorem dX11_toldOf_77 : decode cX11_toldOf 77 = .ok (.iconst 1, 1) := by decide +kernel
theorem dX11_toldOf_78 : decode cX11_toldOf 78 = .ok (.iadd, 1) := by decide +kernel
theorem dX11_toldOf_79 : decode cX11_toldOf 79 = .ok (.iaload, 1) := by decide +kernel
theorem dX11_toldOf_80 : decode cX11_toldOf 80 = .ok (.ireturn, 1) := by decide +kernel
theorem dX11_then_0 : decode cX11_then 0 = .ok (.aload_n 0, 1) := by decide +kernel
theorem dX11_then_1 : decode cX11_then 1 = .ok (.iconst 0, 1) := by decide +kernel
theorem dX11_then_2 : decode cX11_then 2 = .ok (.putfield 88, 3) := by decide +kernel
theorem dX11_then_5 : decode cX11_then 5 = .ok (.aload_n 0, 1) := by decide +kernel
theorem dX11_then_6 : decode cX11_then 6 = .ok (.iload_n 2, 1) := by decide +kernel
theorem dX11_then_7 : decode cX11_then 7 = .ok (.iconst 0, 1) := by decide +kernel
theorem dX11_then_8 : decode cX11_then 8 = .ok (.iconst 5, 1) := by decide +kernel
theorem dX11_then_9 : decode cX11_then 9 = .ok (.invokestatic 286, 3) := by decide +kernel
theorem dX11_then_12 : decode cX11_then 12 = .ok (.iconst 1, 1) := by decide +kernel
theorem dX11_then_13 : decode cX11_then 13 = .ok (.invokevirtual 358, 3) := by decide +kernel
theorem dX11_then_16 : decode cX11_then 16 = .ok (.ifCond .eq 18, 3) := by decide +kernel
theorem dX11_then_19 : decode cX11_then 19 = .ok (.aload_n 0, 1) := by decide +kernel
theorem dX11_then_20 : decode cX11_then 20 = .ok (.iload_n 1, 1) := by decide +kernel
theorem dX11_then_21 : decode cX11_then 21 = .ok (.iconst 0, 1) := by decide +kernel
theorem dX11_then_22 : decode cX11_then 22 = .ok (.bipush 60, 2) := by decide +kernel
theorem dX11_then_24 : decode cX11_then 24 = .ok (.invokestatic 286, 3) := by decide +kernel
theorem dX11_then_27 : decode cX11_then 27 = .ok (.iconst 2, 1) := by decide +kernel
theorem dX11_then_28 : decode cX11_then 28 = .ok (.invokevirtual 358, 3) := by decide +kernel
theorem dX11_then_31 : decode cX11_then 31 = .ok (.ifCond .ne 5, 3) := by decide +kernel
theorem dX11_then_34 : decode cX11_then 34 = .ok (.iconst 0, 1) := by decide +kernel
theorem dX11_then_35 : decode cX11_then 35 = .ok (.ireturn, 1) := by decide +kernel
theorem dX11_then_36 : decode cX11_then 36 = .ok (.aload_n 0, 1) := by decide +kernel
theorem dX11_then_37 : decode cX11_then 37 = .ok (.invokevirtual 448, 3) := by decide +kernel
theorem dX11_then_40 : decode cX11_then 40 = .ok (.aload_n 0, 1) := by decide +kernel
theorem dX11_then_41 : decode cX11_then 41 = .ok (.sipush 1654, 3) := by decide +kernel
theorem dX11_then_44 : decode cX11_then 44 = .ok (.iload_n 1, 1) := by decide +kernel
theorem dX11_then_45 : decode cX11_then 45 = .ok (.invokevirtual 389, 3) := by decide +kernel
theorem dX11_then_48 : decode cX11_then 48 = .ok (.pop, 1) := by decide +kernel
theorem dX11_then_49 : decode cX11_then 49 = .ok (.aload_n 0, 1) := by decide +kernel
theorem dX11_then_50 : decode cX11_then 50 = .ok (.sipush 1654, 3) := by decide +kernel
theorem dX11_then_53 : decode cX11_then 53 = .ok (.iload_n 2, 1) := by decide +kernel
theorem dX11_then_54 : decode cX11_then 54 = .ok (.invokevirtual 457, 3) := by decide +kernel
theorem dX11_then_57 : decode cX11_then 57 = .ok (.ireturn, 1) := by decide +kernel
theorem dX11_quiet_0 : decode cX11_quiet 0 = .ok (.aload_n 0, 1) := by decide +kernel
theorem dX11_quiet_1 : decode cX11_quiet 1 = .ok (.iconst 0, 1) := by decide +kernel
theorem dX11_quiet_2 : decode cX11_quiet 2 = .ok (.putfield 88, 3) := by decide +kernel
theorem dX11_quiet_5 : decode cX11_quiet 5 = .ok (.aload_n 0, 1) := by decide +kernel
theorem dX11_quiet_6 : decode cX11_quiet 6 = .ok (.invokevirtual 448, 3) := by decide +kernel
theorem dX11_quiet_9 : decode cX11_quiet 9 = .ok (.iconst 0, 1) := by decide +kernel
theorem dX11_quiet_10 : decode cX11_quiet 10 = .ok (.istore_n 1, 1) := by decide +kernel
theorem dX11_quiet_11 : decode cX11_quiet 11 = .ok (.iconst 1, 1) := by decide +kernel
theorem dX11_quiet_12 : decode cX11_quiet 12 = .ok (.istore_n 2, 1) := by decide +kernel
theorem dX11_quiet_13 : decode cX11_quiet 13 = .ok (.iload_n 2, 1) := by decide +kernel
theorem dX11_quiet_14 : decode cX11_quiet 14 = .ok (.bipush 60, 2) := by decide +kernel
theorem dX11_quiet_16 : decode cX11_quiet 16 = .ok (.if_icmp .gt 22, 3) := by decide +kernel
theorem dX11_quiet_19 : decode cX11_quiet 19 = .ok (.aload_n 0, 1) := by decide +kernel
theorem dX11_quiet_20 : decode cX11_quiet 20 = .ok (.sipush 1654, 3) := by decide +kernel
theorem dX11_quiet_23 : decode cX11_quiet 23 = .ok (.iconst 1, 1) := by decide +kernel
theorem dX11_quiet_24 : decode cX11_quiet 24 = .ok (.invokevirtual 389, 3) := by decide +kernel
theorem dX11_quiet_27 : decode cX11_quiet 27 = .ok (.ifCond .le 5, 3) := by decide +kernel
theorem dX11_quiet_30 : decode cX11_quiet 30 = .ok (.iload_n 2, 1) := by decide +kernel
theorem dX11_quiet_31 : decode cX11_quiet 31 = .ok (.istore_n 1, 1) := by decide +kernel
theorem dX11_quiet_32 : decode cX11_quiet 32 = .ok (.iinc 2 1, 3) := by decide +kernel
theorem dX11_quiet_35 : decode cX11_quiet 35 = .ok (.goto (-22), 3) := by decide +kernel
theorem dX11_quiet_38 : decode cX11_quiet 38 = .ok (.iload_n 1, 1) := by decide +kernel
theorem dX11_quiet_39 : decode cX11_quiet 39 = .ok (.ireturn, 1) := by decide +kernel
theorem dX11_merges_0 : decode cX11_merges 0 = .ok (.aload_n 0, 1) := by decide +kernel
theorem dX11_merges_1 : decode cX11_merges 1 = .ok (.iconst 0, 1) := by decide +kernel
theorem dX11_merges_2 : decode cX11_merges 2 = .ok (.putfield 88, 3) := by decide +kernel
theorem dX11_merges_5 : decode cX11_merges 5 = .ok (.aload_n 0, 1) := by decide +kernel
theorem dX11_merges_6 : decode cX11_merges 6 = .ok (.iload_n 1, 1) := by decide +kernel
theorem dX11_merges_7 : decode cX11_merges 7 = .ok (.iload_n 2, 1) := by decide +kernel
theorem dX11_merges_8 : decode cX11_merges 8 = .ok (.invokevirtual 430, 3) := by decide +kernel
theorem dX11_merges_11 : decode cX11_merges 11 = .ok (.ifCond .ne 5, 3) := by decide +kernel
theorem dX11_merges_14 : decode cX11_merges 14 = .ok (.iconst 0, 1) := by decide +kernel
theorem dX11_merges_15 : decode cX11_merges 15 = .ok (.ireturn, 1) := by decide +kernel
theorem dX11_merges_16 : decode cX11_merges 16 = .ok (.aload_n 0, 1) := by decide +kernel
theorem dX11_merges_17 : decode cX11_merges 17 = .ok (.invokevirtual 448, 3) := by decide +kernel
theorem dX11_merges_20 : decode cX11_merges 20 = .ok (.iconst 0, 1) := by decide +kernel
theorem dX11_merges_21 : decode cX11_merges 21 = .ok (.istore_n 3, 1) := by decide +kernel
theorem dX11_merges_22 : decode cX11_merges 22 = .ok (.iload_n 3, 1) := by decide +kernel
theorem dX11_merges_23 : decode cX11_merges 23 = .ok (.sipush 400, 3) := by decide +kernel
theorem dX11_merges_26 : decode cX11_merges 26 = .ok (.if_icmp .gt 38, 3) := by decide +kernel
theorem dX11_merges_29 : decode cX11_merges 29 = .ok (.aload_n 0, 1) := by decide +kernel
theorem dX11_merges_30 : decode cX11_merges 30 = .ok (.sipush 1654, 3) := by decide +kernel
theorem dX11_merges_33 : decode cX11_merges 33 = .ok (.aload_n 0, 1) := by decide +kernel
theorem dX11_merges_34 : decode cX11_merges 34 = .ok (.getfield 42, 3) := by decide +kernel
theorem dX11_merges_37 : decode cX11_merges 37 = .ok (.iload_n 1, 1) := by decide +kernel
theorem dX11_merges_38 : decode cX11_merges 38 = .ok (.iaload, 1) := by decide +kernel
theorem dX11_merges_39 : decode cX11_merges 39 = .ok (.iload_n 2, 1) := by decide +kernel
theorem dX11_merges_40 : decode cX11_merges 40 = .ok (.iadd, 1) := by decide +kernel
theorem dX11_merges_41 : decode cX11_merges 41 = .ok (.invokevirtual 171, 3) := by decide +kernel
theorem dX11_merges_44 : decode cX11_merges 44 = .ok (.ifCond .eq 5, 3) := by decide +kernel
theorem dX11_merges_47 : decode cX11_merges 47 = .ok (.iload_n 3, 1) := by decide +kernel
theorem dX11_merges_48 : decode cX11_merges 48 = .ok (.ireturn, 1) := by decide +kernel
theorem dX11_merges_49 : decode cX11_merges 49 = .ok (.aload_n 0, 1) := by decide +kernel
theorem dX11_merges_50 : decode cX11_merges 50 = .ok (.sipush 1654, 3) := by decide +kernel
theorem dX11_merges_53 : decode cX11_merges 53 = .ok (.iconst 1, 1) := by decide +kernel
theorem dX11_merges_54 : decode cX11_merges 54 = .ok (.invokevirtual 244, 3) := by decide +kernel
theorem dX11_merges_57 : decode cX11_merges 57 = .ok (.pop, 1) := by decide +kernel
theorem dX11_merges_58 : decode cX11_merges 58 = .ok (.iinc 3 1, 3) := by decide +kernel
theorem dX11_merges_61 : decode cX11_merges 61 = .ok (.goto (-39), 3) := by decide +kernel
theorem dX11_merges_64 : decode cX11_merges 64 = .ok (.iconst (-1), 1) := by decide +kernel
theorem dX11_merges_65 : decode cX11_merges 65 = .ok (.ireturn, 1) := by decide +kernel
theorem dX11_isCounted_0 : decode cX11_isCounted 0 = .ok (.aload_n 0, 1) := by decide +kernel
theorem dX11_isCounted_1 : decode cX11_isCounted 1 = .ok (.getfield 10, 3) := by decide +kernel
theorem dX11_isCounted_4 : decode cX11_isCounted 4 = .ok (.bipush 64, 2) := by decide +kernel
theorem dX11_isCounted_6 : decode cX11_isCounted 6 = .ok (.iload_n 1, 1) := by decide +kernel
theorem dX11_isCounted_7 : decode cX11_isCounted 7 = .ok (.iadd, 1) := by decide +kernel
theorem dX11_isCounted_8 : decode cX11_isCounted 8 = .ok (.iaload, 1) := by decide +kernel
theorem dX11_isCounted_9 : decode cX11_isCounted 9 = .ok (.iconst 1, 1) := by decide +kernel
theorem dX11_isCounted_10 : decode cX11_isCounted 10 = .ok (.if_icmp .ne 20, 3) := by decide +kernel
theorem dX11_isCounted_13 : decode cX11_isCounted 13 = .ok (.aload_n 0, 1) := by decide +kernel
theorem dX11_isCounted_14 : decode cX11_isCounted 14 = .ok (.getfield 10, 3) := by decide +kernel
theorem dX11_isCounted_17 : decode cX11_isCounted 17 = .ok (.bipush 16, 2) := by decide +kernel
theorem dX11_isCounted_19 : decode cX11_isCounted 19 = .ok (.iload_n 1, 1) := by decide +kernel
theorem dX11_isCounted_20 : decode cX11_isCounted 20 = .ok (.iadd, 1) := by decide +kernel
theorem dX11_isCounted_21 : decode cX11_isCounted 21 = .ok (.iaload, 1) := by decide +kernel
theorem dX11_isCounted_22 : decode cX11_isCounted 22 = .ok (.iconst (-1), 1) := by decide +kernel
theorem dX11_isCounted_23 : decode cX11_isCounted 23 = .ok (.if_icmp .eq 7, 3) := by decide +kernel
theorem dX11_isCounted_26 : decode cX11_isCounted 26 = .ok (.iconst 1, 1) := by decide +kernel
theorem dX11_isCounted_27 : decode cX11_isCounted 27 = .ok (.goto 4, 3) := by decide +kernel
theorem dX11_isCounted_30 : decode cX11_isCounted 30 = .ok (.iconst 0, 1) := by decide +kernel
theorem dX11_isCounted_31 : decode cX11_isCounted 31 = .ok (.ireturn, 1) := by decide +kernel
theorem dX11_classOf_0 : decode cX11_classOf 0 = .ok (.iconst 0, 1) := by decide +kernel
theorem dX11_classOf_1 : decode cX11_classOf 1 = .ok (.istore_n 2, 1) := by decide +kernel
theorem dX11_classOf_2 : decode cX11_classOf 2 = .ok (.iconst 0, 1) := by decide +kernel
theorem dX11_classOf_3 : decode cX11_classOf 3 = .ok (.istore_n 3, 1) := by decide +kernel
theorem dX11_classOf_4 : decode cX11_classOf 4 = .ok (.iload_n 3, 1) := by decide +kernel
theorem dX11_classOf_5 : decode cX11_classOf 5 = .ok (.aload_n 0, 1) := by decide +kernel
theorem dX11_classOf_6 : decode cX11_classOf 6 = .ok (.getfield 178, 3) := by decide +kernel
theorem dX11_classOf_9 : decode cX11_classOf 9 = .ok (.if_icmp .ge 52, 3) := by decide +kernel
theorem dX11_classOf_12 : decode cX11_classOf 12 = .ok (.aload_n 0, 1) := by decide +kernel
theorem dX11_classOf_13 : decode cX11_classOf 13 = .ok (.iload_n 3, 1) := by decide +kernel
theorem dX11_classOf_14 : decode cX11_classOf 14 = .ok (.invokevirtual 460, 3) := by decide +kernel
theorem dX11_classOf_17 : decode cX11_classOf 17 = .ok (.ifCond .eq 38, 3) := by decide +kernel
theorem dX11_classOf_20 : decode cX11_classOf 20 = .ok (.aload_n 0, 1) := by decide +kernel
theorem dX11_classOf_21 : decode cX11_classOf 21 = .ok (.iload_n 3, 1) := by decide +kernel
theorem dX11_classOf_22 : decode cX11_classOf 22 = .ok (.invokevirtual 168, 3) := by decide +kernel
theorem dX11_classOf_25 : decode cX11_classOf 25 = .ok (.aload_n 0, 1) := by decide +kernel
theorem dX11_classOf_26 : decode cX11_classOf 26 = .ok (.iload_n 1, 1) := by decide +kernel
theorem dX11_classOf_27 : decode cX11_classOf 27 = .ok (.invokevirtual 168, 3) := by decide +kernel
theorem dX11_classOf_30 : decode cX11_classOf 30 = .ok (.if_icmp .ne 25, 3) := by decide +kernel
theorem dX11_classOf_33 : decode cX11_classOf 33 = .ok (.aload_n 0, 1) := by decide +kernel
theorem dX11_classOf_34 : decode cX11_classOf 34 = .ok (.iload_n 1, 1) := by decide +kernel
theorem dX11_classOf_35 : decode cX11_classOf 35 = .ok (.iload_n 3, 1) := by decide +kernel
theorem dX11_classOf_36 : decode cX11_classOf 36 = .ok (.invokevirtual 439, 3) := by decide +kernel
theorem dX11_classOf_39 : decode cX11_classOf 39 = .ok (.ifCond .ne 6, 3) := by decide +kernel
theorem dX11_classOf_42 : decode cX11_classOf 42 = .ok (.goto 13, 3) := by decide +kernel
theorem dX11_classOf_45 : decode cX11_classOf 45 = .ok (.iload_n 3, 1) := by decide +kernel
theorem dX11_classOf_46 : decode cX11_classOf 46 = .ok (.iload_n 1, 1) := by decide +kernel
theorem dX11_classOf_47 : decode cX11_classOf 47 = .ok (.if_icmp .ge 5, 3) := by decide +kernel
theorem dX11_classOf_50 : decode cX11_classOf 50 = .ok (.iconst (-1), 1) := by decide +kernel
theorem dX11_classOf_51 : decode cX11_classOf 51 = .ok (.ireturn, 1) := by decide +kernel
theorem dX11_classOf_52 : decode cX11_classOf 52 = .ok (.iinc 2 1, 3) := by decide +kernel
theorem dX11_classOf_55 : decode cX11_classOf 55 = .ok (.iinc 3 1, 3) := by decide +kernel
theorem dX11_classOf_58 : decode cX11_classOf 58 = .ok (.goto (-54), 3) := by decide +kernel
theorem dX11_classOf_61 : decode cX11_classOf 61 = .ok (.iload_n 2, 1) := by decide +kernel
theorem dX11_classOf_62 : decode cX11_classOf 62 = .ok (.ireturn, 1) := by decide +kernel
theorem dX11_least_0 : decode cX11_least 0 = .ok (.iconst 0, 1) := by decide +kernel
theorem dX11_least_1 : decode cX11_least 1 = .ok (.istore_n 1, 1) := by decide +kernel
theorem dX11_least_2 : decode cX11_least 2 = .ok (.iconst 0, 1) := by decide +kernel
theorem dX11_least_3 : decode cX11_least 3 = .ok (.istore_n 2, 1) := by decide +kernel
theorem dX11_least_4 : decode cX11_least 4 = .ok (.iload_n 2, 1) := by decide +kernel
theorem dX11_least_5 : decode cX11_least 5 = .ok (.aload_n 0, 1) := by decide +kernel
theorem dX11_least_6 : decode cX11_least 6 = .ok (.getfield 178, 3) := by decide +kernel
theorem dX11_least_9 : decode cX11_least 9 = .ok (.if_icmp .ge 91, 3) := by decide +kernel
theorem dX11_least_12 : decode cX11_least 12 = .ok (.aload_n 0, 1) := by decide +kernel
theorem dX11_least_13 : decode cX11_least 13 = .ok (.getfield 10, 3) := by decide +kernel
theorem dX11_least_16 : decode cX11_least 16 = .ok (.bipush 16, 2) := by decide +kernel
theorem dX11_least_18 : decode cX11_least 18 = .ok (.iload_n 2, 1) := by decide +kernel
theorem dX11_least_19 : decode cX11_least 19 = .ok (.iadd, 1) := by decide +kernel
theorem dX11_least_20 : decode cX11_least 20 = .ok (.iaload, 1) := by decide +kernel
theorem dX11_least_21 : decode cX11_least 21 = .ok (.iconst (-1), 1) := by decide +kernel
theorem dX11_least_22 : decode cX11_least 22 = .ok (.if_icmp .ne 6, 3) := by decide +kernel
theorem dX11_least_25 : decode cX11_least 25 = .ok (.goto 69, 3) := by decide +kernel
theorem dX11_least_28 : decode cX11_least 28 = .ok (.aload_n 0, 1) := by decide +kernel
theorem dX11_least_29 : decode cX11_least 29 = .ok (.getfield 10, 3) := by decide +kernel
theorem dX11_least_32 : decode cX11_least 32 = .ok (.bipush 64, 2) := by decide +kernel
theorem dX11_least_34 : decode cX11_least 34 = .ok (.iload_n 2, 1) := by decide +kernel
theorem dX11_least_35 : decode cX11_least 35 = .ok (.iadd, 1) := by decide +kernel
theorem dX11_least_36 : decode cX11_least 36 = .ok (.iaload, 1) := by decide +kernel
theorem dX11_least_37 : decode cX11_least 37 = .ok (.ifCond .ne 9, 3) := by decide +kernel
theorem dX11_least_40 : decode cX11_least 40 = .ok (.iinc 1 1, 3) := by decide +kernel
theorem dX11_least_43 : decode cX11_least 43 = .ok (.goto 51, 3) := by decide +kernel
theorem dX11_least_46 : decode cX11_least 46 = .ok (.aload_n 0, 1) := by decide +kernel
theorem dX11_least_47 : decode cX11_least 47 = .ok (.getfield 216, 3) := by decide +kernel
theorem dX11_least_50 : decode cX11_least 50 = .ok (.iconst 1, 1) := by decide +kernel
theorem dX11_least_51 : decode cX11_least 51 = .ok (.if_icmp .ne 16, 3) := by decide +kernel
theorem dX11_least_54 : decode cX11_least 54 = .ok (.aload_n 0, 1) := by decide +kernel
theorem dX11_least_55 : decode cX11_least 55 = .ok (.iconst 0, 1) := by decide +kernel
theorem dX11_least_56 : decode cX11_least 56 = .ok (.iload_n 2, 1) := by decide +kernel
theorem dX11_least_57 : decode cX11_least 57 = .ok (.invokevirtual 219, 3) := by decide +kernel
theorem dX11_least_60 : decode cX11_least 60 = .ok (.ifCond .eq 7, 3) := by decide +kernel
theorem dX11_least_63 : decode cX11_least 63 = .ok (.iconst (-1), 1) := by decide +kernel
theorem dX11_least_64 : decode cX11_least 64 = .ok (.goto 8, 3) := by decide +kernel
theorem dX11_least_67 : decode cX11_least 67 = .ok (.aload_n 0, 1) := by decide +kernel
theorem dX11_least_68 : decode cX11_least 68 = .ok (.iload_n 2, 1) := by decide +kernel
theorem dX11_least_69 : decode cX11_least 69 = .ok (.invokevirtual 463, 3) := by decide +kernel
theorem dX11_least_72 : decode cX11_least 72 = .ok (.istore_n 3, 1) := by decide +kernel
theorem dX11_least_73 : decode cX11_least 73 = .ok (.iload_n 3, 1) := by decide +kernel
theorem dX11_least_74 : decode cX11_least 74 = .ok (.iconst (-1), 1) := by decide +kernel
theorem dX11_least_75 : decode cX11_least 75 = .ok (.if_icmp .eq 19, 3) := by decide +kernel
theorem dX11_least_78 : decode cX11_least 78 = .ok (.iload_n 1, 1) := by decide +kernel
theorem dX11_least_79 : decode cX11_least 79 = .ok (.iload_n 3, 1) := by decide +kernel
theorem dX11_least_80 : decode cX11_least 80 = .ok (.aload_n 0, 1) := by decide +kernel
theorem dX11_least_81 : decode cX11_least 81 = .ok (.getfield 27, 3) := by decide +kernel
theorem dX11_least_84 : decode cX11_least 84 = .ok (.iadd, 1) := by decide +kernel
theorem dX11_least_85 : decode cX11_least 85 = .ok (.iconst 1, 1) := by decide +kernel
theorem dX11_least_86 : decode cX11_least 86 = .ok (.isub, 1) := by decide +kernel
theorem dX11_least_87 : decode cX11_least 87 = .ok (.aload_n 0, 1) := by decide +kernel
theorem dX11_least_88 : decode cX11_least 88 = .ok (.getfield 27, 3) := by decide +kernel
theorem dX11_least_91 : decode cX11_least 91 = .ok (.idiv, 1) := by decide +kernel
theorem dX11_least_92 : decode cX11_least 92 = .ok (.iadd, 1) := by decide +kernel
theorem dX11_least_93 : decode cX11_least 93 = .ok (.istore_n 1, 1) := by decide +kernel
theorem dX11_least_94 : decode cX11_least 94 = .ok (.iinc 2 1, 3) := by decide +kernel
theorem dX11_least_97 : decode cX11_least 97 = .ok (.goto (-93), 3) := by decide +kernel
theorem dX11_least_100 : decode cX11_least 100 = .ok (.iload_n 1, 1) := by decide +kernel
theorem dX11_least_101 : decode cX11_least 101 = .ok (.ireturn, 1) := by decide +kernel
theorem dX11_risk_0 : decode cX11_risk 0 = .ok (.aload_n 0, 1) := by decide +kernel
theorem dX11_risk_1 : decode cX11_risk 1 = .ok (.iconst 0, 1) := by decide +kernel
theorem dX11_risk_2 : decode cX11_risk 2 = .ok (.aload_n 0, 1) := by decide +kernel
theorem dX11_risk_3 : decode cX11_risk 3 = .ok (.getfield 178, 3) := by decide +kernel
theorem dX11_risk_6 : decode cX11_risk 6 = .ok (.invokevirtual 412, 3) := by decide +kernel
theorem dX11_risk_9 : decode cX11_risk 9 = .ok (.istore_n 1, 1) := by decide +kernel
theorem dX11_risk_10 : decode cX11_risk 10 = .ok (.iconst 0, 1) := by decide +kernel
theorem dX11_risk_11 : decode cX11_risk 11 = .ok (.istore_n 2, 1) := by decide +kernel
theorem dX11_risk_12 : decode cX11_risk 12 = .ok (.iload_n 2, 1) := by decide +kernel
theorem dX11_risk_13 : decode cX11_risk 13 = .ok (.aload_n 0, 1) := by decide +kernel
theorem dX11_risk_14 : decode cX11_risk 14 = .ok (.getfield 23, 3) := by decide +kernel
theorem dX11_risk_17 : decode cX11_risk 17 = .ok (.if_icmp .ge 42, 3) := by decide +kernel
theorem dX11_risk_20 : decode cX11_risk 20 = .ok (.iload_n 1, 1) := by decide +kernel
theorem dX11_risk_21 : decode cX11_risk 21 = .ok (.aload_n 0, 1) := by decide +kernel
theorem dX11_risk_22 : decode cX11_risk 22 = .ok (.getfield 10, 3) := by decide +kernel
theorem dX11_risk_25 : decode cX11_risk 25 = .ok (.sipush 976, 3) := by decide +kernel
theorem dX11_risk_28 : decode cX11_risk 28 = .ok (.iload_n 2, 1) := by decide +kernel
theorem dX11_risk_29 : decode cX11_risk 29 = .ok (.iadd, 1) := by decide +kernel
theorem dX11_risk_30 : decode cX11_risk 30 = .ok (.iaload, 1) := by decide +kernel
theorem dX11_risk_31 : decode cX11_risk 31 = .ok (.iconst (-1), 1) := by decide +kernel
theorem dX11_risk_32 : decode cX11_risk 32 = .ok (.if_icmp .eq 18, 3) := by decide +kernel
theorem dX11_risk_35 : decode cX11_risk 35 = .ok (.aload_n 0, 1) := by decide +kernel
theorem dX11_risk_36 : decode cX11_risk 36 = .ok (.getfield 10, 3) := by decide +kernel
theorem dX11_risk_39 : decode cX11_risk 39 = .ok (.sipush 544, 3) := by decide +kernel
theorem dX11_risk_42 : decode cX11_risk 42 = .ok (.iload_n 2, 1) := by decide +kernel
theorem dX11_risk_43 : decode cX11_risk 43 = .ok (.iadd, 1) := by decide +kernel
theorem dX11_risk_44 : decode cX11_risk 44 = .ok (.iaload, 1) := by decide +kernel
theorem dX11_risk_45 : decode cX11_risk 45 = .ok (.iconst 1, 1) := by decide +kernel
theorem dX11_risk_46 : decode cX11_risk 46 = .ok (.isub, 1) := by decide +kernel
theorem dX11_risk_47 : decode cX11_risk 47 = .ok (.goto 4, 3) := by decide +kernel
theorem dX11_risk_50 : decode cX11_risk 50 = .ok (.iconst 0, 1) := by decide +kernel
theorem dX11_risk_51 : decode cX11_risk 51 = .ok (.iadd, 1) := by decide +kernel
theorem dX11_risk_52 : decode cX11_risk 52 = .ok (.istore_n 1, 1) := by decide +kernel
theorem dX11_risk_53 : decode cX11_risk 53 = .ok (.iinc 2 1, 3) := by decide +kernel
theorem dX11_risk_56 : decode cX11_risk 56 = .ok (.goto (-44), 3) := by decide +kernel
theorem dX11_risk_59 : decode cX11_risk 59 = .ok (.aload_n 0, 1) := by decide +kernel
theorem dX11_risk_60 : decode cX11_risk 60 = .ok (.getfield 23, 3) := by decide +kernel
theorem dX11_risk_63 : decode cX11_risk 63 = .ok (.aload_n 0, 1) := by decide +kernel
theorem dX11_risk_64 : decode cX11_risk 64 = .ok (.iconst 0, 1) := by decide +kernel
theorem dX11_risk_65 : decode cX11_risk 65 = .ok (.invokevirtual 403, 3) := by decide +kernel
theorem dX11_risk_68 : decode cX11_risk 68 = .ok (.isub, 1) := by decide +kernel
theorem dX11_risk_69 : decode cX11_risk 69 = .ok (.istore_n 2, 1) := by decide +kernel
theorem dX11_risk_70 : decode cX11_risk 70 = .ok (.iload_n 1, 1) := by decide +kernel
theorem dX11_risk_71 : decode cX11_risk 71 = .ok (.iload_n 2, 1) := by decide +kernel
theorem dX11_risk_72 : decode cX11_risk 72 = .ok (.if_icmp .le 9, 3) := by decide +kernel
theorem dX11_risk_75 : decode cX11_risk 75 = .ok (.iload_n 2, 1) := by decide +kernel
theorem dX11_risk_76 : decode cX11_risk 76 = .ok (.iconst 1, 1) := by decide +kernel
theorem dX11_risk_77 : decode cX11_risk 77 = .ok (.iadd, 1) := by decide +kernel
theorem dX11_risk_78 : decode cX11_risk 78 = .ok (.goto 4, 3) := by decide +kernel
theorem dX11_risk_81 : decode cX11_risk 81 = .ok (.iconst (-1), 1) := by decide +kernel
theorem dX11_risk_82 : decode cX11_risk 82 = .ok (.ireturn, 1) := by decide +kernel
theorem dX11_ideal_0 : decode cX11_ideal 0 = .ok (.aload_n 0, 1) := by decide +kernel
theorem dX11_ideal_1 : decode cX11_ideal 1 = .ok (.iconst 0, 1) := by decide +kernel
theorem dX11_ideal_2 : decode cX11_ideal 2 = .ok (.putfield 88, 3) := by decide +kernel
theorem dX11_ideal_5 : decode cX11_ideal 5 = .ok (.aload_n 0, 1) := by decide +kernel
theorem dX11_ideal_6 : decode cX11_ideal 6 = .ok (.iload_n 1, 1) := by decide +kernel
theorem dX11_ideal_7 : decode cX11_ideal 7 = .ok (.iconst 0, 1) := by decide +kernel
theorem dX11_ideal_8 : decode cX11_ideal 8 = .ok (.iconst 2, 1) := by decide +kernel
theorem dX11_ideal_9 : decode cX11_ideal 9 = .ok (.invokestatic 286, 3) := by decide +kernel
theorem dX11_ideal_12 : decode cX11_ideal 12 = .ok (.iconst 1, 1) := by decide +kernel
theorem dX11_ideal_13 : decode cX11_ideal 13 = .ok (.invokevirtual 358, 3) := by decide +kernel
theorem dX11_ideal_16 : decode cX11_ideal 16 = .ok (.ifCond .ne 5, 3) := by decide +kernel
theorem dX11_ideal_19 : decode cX11_ideal 19 = .ok (.iconst 0, 1) := by decide +kernel
theorem dX11_ideal_20 : decode cX11_ideal 20 = .ok (.ireturn, 1) := by decide +kernel
theorem dX11_ideal_21 : decode cX11_ideal 21 = .ok (.iload_n 1, 1) := by decide +kernel
theorem dX11_ideal_22 : decode cX11_ideal 22 = .ok (.ifCond .ne 10, 3) := by decide +kernel
theorem dX11_ideal_25 : decode cX11_ideal 25 = .ok (.aload_n 0, 1) := by decide +kernel
theorem dX11_ideal_26 : decode cX11_ideal 26 = .ok (.invokevirtual 466, 3) := by decide +kernel
theorem dX11_ideal_29 : decode cX11_ideal 29 = .ok (.goto 25, 3) := by decide +kernel
theorem dX11_ideal_32 : decode cX11_ideal 32 = .ok (.iload_n 1, 1) := by decide +kernel
theorem dX11_ideal_33 : decode cX11_ideal 33 = .ok (.iconst 1, 1) := by decide +kernel
theorem dX11_ideal_34 : decode cX11_ideal 34 = .ok (.if_icmp .ne 16, 3) := by decide +kernel
theorem dX11_ideal_37 : decode cX11_ideal 37 = .ok (.aload_n 0, 1) := by decide +kernel
theorem dX11_ideal_38 : decode cX11_ideal 38 = .ok (.iconst 0, 1) := by decide +kernel
theorem dX11_ideal_39 : decode cX11_ideal 39 = .ok (.invokevirtual 403, 3) := by decide +kernel
theorem dX11_ideal_42 : decode cX11_ideal 42 = .ok (.aload_n 0, 1) := by decide +kernel
theorem dX11_ideal_43 : decode cX11_ideal 43 = .ok (.invokevirtual 466, 3) := by decide +kernel
theorem dX11_ideal_46 : decode cX11_ideal 46 = .ok (.isub, 1) := by decide +kernel
theorem dX11_ideal_47 : decode cX11_ideal 47 = .ok (.goto 7, 3) := by decide +kernel
theorem dX11_ideal_50 : decode cX11_ideal 50 = .ok (.aload_n 0, 1) := by decide +kernel
theorem dX11_ideal_51 : decode cX11_ideal 51 = .ok (.invokevirtual 469, 3) := by decide +kernel
theorem dX11_ideal_54 : decode cX11_ideal 54 = .ok (.ireturn, 1) := by decide +kernel
theorem dX11_probe_0 : decode cX11_probe 0 = .ok (.aload_n 0, 1) := by decide +kernel
theorem dX11_probe_1 : decode cX11_probe 1 = .ok (.iconst 0, 1) := by decide +kernel
theorem dX11_probe_2 : decode cX11_probe 2 = .ok (.putfield 88, 3) := by decide +kernel
theorem dX11_probe_5 : decode cX11_probe 5 = .ok (.aload_n 0, 1) := by decide +kernel
theorem dX11_probe_6 : decode cX11_probe 6 = .ok (.iload_n 1, 1) := by decide +kernel
theorem dX11_probe_7 : decode cX11_probe 7 = .ok (.iload_n 2, 1) := by decide +kernel
theorem dX11_probe_8 : decode cX11_probe 8 = .ok (.invokevirtual 430, 3) := by decide +kernel
theorem dX11_probe_11 : decode cX11_probe 11 = .ok (.ifCond .eq 38, 3) := by decide +kernel
theorem dX11_probe_14 : decode cX11_probe 14 = .ok (.aload_n 0, 1) := by decide +kernel
theorem dX11_probe_15 : decode cX11_probe 15 = .ok (.iload_n 3, 1) := by decide +kernel
theorem dX11_probe_16 : decode cX11_probe 16 = .ok (.iconst 0, 1) := by decide +kernel
theorem dX11_probe_17 : decode cX11_probe 17 = .ok (.ldc_w 472, 3) := by decide +kernel
theorem dX11_probe_20 : decode cX11_probe 20 = .ok (.invokestatic 286, 3) := by decide +kernel
theorem dX11_probe_23 : decode cX11_probe 23 = .ok (.ifCond .eq 18, 3) := by decide +kernel
theorem dX11_probe_26 : decode cX11_probe 26 = .ok (.iload 4, 2) := by decide +kernel
theorem dX11_probe_28 : decode cX11_probe 28 = .ok (.iconst 0, 1) := by decide +kernel
theorem dX11_probe_29 : decode cX11_probe 29 = .ok (.bipush 40, 2) := by decide +kernel
theorem dX11_probe_31 : decode cX11_probe 31 = .ok (.invokestatic 286, 3) := by decide +kernel
theorem dX11_probe_34 : decode cX11_probe 34 = .ok (.ifCond .eq 7, 3) := by decide +kernel
theorem dX11_probe_37 : decode cX11_probe 37 = .ok (.iconst 1, 1) := by decide +kernel
theorem dX11_probe_38 : decode cX11_probe 38 = .ok (.goto 4, 3) := by decide +kernel
theorem dX11_probe_41 : decode cX11_probe 41 = .ok (.iconst 0, 1) := by decide +kernel
theorem dX11_probe_42 : decode cX11_probe 42 = .ok (.iconst 2, 1) := by decide +kernel
theorem dX11_probe_43 : decode cX11_probe 43 = .ok (.invokevirtual 358, 3) := by decide +kernel
theorem dX11_probe_46 : decode cX11_probe 46 = .ok (.ifCond .ne 5, 3) := by decide +kernel
theorem dX11_probe_49 : decode cX11_probe 49 = .ok (.iconst 0, 1) := by decide +kernel
theorem dX11_probe_50 : decode cX11_probe 50 = .ok (.ireturn, 1) := by decide +kernel
theorem dX11_probe_51 : decode cX11_probe 51 = .ok (.aload_n 0, 1) := by decide +kernel
theorem dX11_probe_52 : decode cX11_probe 52 = .ok (.invokevirtual 448, 3) := by decide +kernel
theorem dX11_probe_55 : decode cX11_probe 55 = .ok (.iconst 0, 1) := by decide +kernel
theorem dX11_probe_56 : decode cX11_probe 56 = .ok (.istore 5, 2) := by decide +kernel
theorem dX11_probe_58 : decode cX11_probe 58 = .ok (.iload 5, 2) := by decide +kernel
theorem dX11_probe_60 : decode cX11_probe 60 = .ok (.iconst 4, 1) := by decide +kernel
theorem dX11_probe_61 : decode cX11_probe 61 = .ok (.if_icmp .ge 28, 3) := by decide +kernel
theorem dX11_probe_64 : decode cX11_probe 64 = .ok (.aload_n 0, 1) := by decide +kernel
theorem dX11_probe_65 : decode cX11_probe 65 = .ok (.getfield 57, 3) := by decide +kernel
theorem dX11_probe_68 : decode cX11_probe 68 = .ok (.iload 5, 2) := by decide +kernel
theorem dX11_probe_70 : decode cX11_probe 70 = .ok (.iload_n 3, 1) := by decide +kernel
theorem dX11_probe_71 : decode cX11_probe 71 = .ok (.bipush 12, 2) := by decide +kernel
theorem dX11_probe_73 : decode cX11_probe 73 = .ok (.iconst 4, 1) := by decide +kernel
theorem dX11_probe_74 : decode cX11_probe 74 = .ok (.iload 5, 2) := by decide +kernel
theorem dX11_probe_76 : decode cX11_probe 76 = .ok (.imul, 1) := by decide +kernel
theorem dX11_probe_77 : decode cX11_probe 77 = .ok (.isub, 1) := by decide +kernel
theorem dX11_probe_78 : decode cX11_probe 78 = .ok (.ishr, 1) := by decide +kernel
theorem dX11_probe_79 : decode cX11_probe 79 = .ok (.bipush 15, 2) := by decide +kernel
theorem dX11_probe_81 : decode cX11_probe 81 = .ok (.iand, 1) := by decide +kernel
theorem dX11_probe_82 : decode cX11_probe 82 = .ok (.iastore, 1) := by decide +kernel
theorem dX11_probe_83 : decode cX11_probe 83 = .ok (.iinc 5 1, 3) := by decide +kernel
theorem dX11_probe_86 : decode cX11_probe 86 = .ok (.goto (-28), 3) := by decide +kernel
theorem dX11_probe_89 : decode cX11_probe 89 = .ok (.aload_n 0, 1) := by decide +kernel
theorem dX11_probe_90 : decode cX11_probe 90 = .ok (.getfield 42, 3) := by decide +kernel
theorem dX11_probe_93 : decode cX11_probe 93 = .ok (.iload_n 1, 1) := by decide +kernel
theorem dX11_probe_94 : decode cX11_probe 94 = .ok (.iaload, 1) := by decide +kernel
theorem dX11_probe_95 : decode cX11_probe 95 = .ok (.iload_n 2, 1) := by decide +kernel
theorem dX11_probe_96 : decode cX11_probe 96 = .ok (.iadd, 1) := by decide +kernel
theorem dX11_probe_97 : decode cX11_probe 97 = .ok (.istore 5, 2) := by decide +kernel
theorem dX11_probe_99 : decode cX11_probe 99 = .ok (.aload_n 0, 1) := by decide +kernel
theorem dX11_probe_100 : decode cX11_probe 100 = .ok (.sipush 1654, 3) := by decide +kernel
theorem dX11_probe_103 : decode cX11_probe 103 = .ok (.iload 5, 2) := by decide +kernel
theorem dX11_probe_105 : decode cX11_probe 105 = .ok (.invokevirtual 165, 3) := by decide +kernel
theorem dX11_probe_108 : decode cX11_probe 108 = .ok (.iconst (-1), 1) := by decide +kernel
theorem dX11_probe_109 : decode cX11_probe 109 = .ok (.if_icmp .ne 5, 3) := by decide +kernel
theorem dX11_probe_112 : decode cX11_probe 112 = .ok (.iconst (-1), 1) := by decide +kernel
theorem dX11_probe_113 : decode cX11_probe 113 = .ok (.ireturn, 1) := by decide +kernel
theorem dX11_probe_114 : decode cX11_probe 114 = .ok (.aload_n 0, 1) := by decide +kernel
theorem dX11_probe_115 : decode cX11_probe 115 = .ok (.sipush 1654, 3) := by decide +kernel
theorem dX11_probe_118 : decode cX11_probe 118 = .ok (.iload 4, 2) := by decide +kernel
theorem dX11_probe_120 : decode cX11_probe 120 = .ok (.invokevirtual 389, 3) := by decide +kernel
theorem dX11_probe_123 : decode cX11_probe 123 = .ok (.pop, 1) := by decide +kernel
theorem dX11_probe_124 : decode cX11_probe 124 = .ok (.aload_n 0, 1) := by decide +kernel
theorem dX11_probe_125 : decode cX11_probe 125 = .ok (.getfield 10, 3) := by decide +kernel
theorem dX11_probe_128 : decode cX11_probe 128 = .ok (.sipush 1670, 3) := by decide +kernel
theorem dX11_probe_131 : decode cX11_probe 131 = .ok (.iload 5, 2) := by decide +kernel
theorem dX11_probe_133 : decode cX11_probe 133 = .ok (.iadd, 1) := by decide +kernel
theorem dX11_probe_134 : decode cX11_probe 134 = .ok (.iaload, 1) := by decide +kernel
theorem dX11_probe_135 : decode cX11_probe 135 = .ok (.istore 6, 2) := by decide +kernel
theorem dX11_probe_137 : decode cX11_probe 137 = .ok (.iload 6, 2) := by decide +kernel
theorem dX11_probe_139 : decode cX11_probe 139 = .ok (.iconst (-1), 1) := by decide +kernel
theorem dX11_probe_140 : decode cX11_probe 140 = .ok (.if_icmp .ne 7, 3) := by decide +kernel
theorem dX11_probe_143 : decode cX11_probe 143 = .ok (.iconst 0, 1) := by decide +kernel
theorem dX11_probe_144 : decode cX11_probe 144 = .ok (.goto 16, 3) := by decide +kernel
theorem dX11_probe_147 : decode cX11_probe 147 = .ok (.aload_n 0, 1) := by decide +kernel
theorem dX11_probe_148 : decode cX11_probe 148 = .ok (.getfield 10, 3) := by decide +kernel
theorem dX11_probe_151 : decode cX11_probe 151 = .ok (.sipush 2198, 3) := by decide +kernel
theorem dX11_probe_154 : decode cX11_probe 154 = .ok (.iload 6, 2) := by decide +kernel
theorem dX11_probe_156 : decode cX11_probe 156 = .ok (.iadd, 1) := by decide +kernel
theorem dX11_probe_157 : decode cX11_probe 157 = .ok (.iaload, 1) := by decide +kernel
theorem dX11_probe_158 : decode cX11_probe 158 = .ok (.iconst 1, 1) := by decide +kernel
theorem dX11_probe_159 : decode cX11_probe 159 = .ok (.isub, 1) := by decide +kernel
theorem dX11_probe_160 : decode cX11_probe 160 = .ok (.ireturn, 1) := by decide +kernel
theorem dX11_toAdvise_0 : decode cX11_toAdvise 0 = .ok (.aload_n 0, 1) := by decide +kernel
theorem dX11_toAdvise_1 : decode cX11_toAdvise 1 = .ok (.iconst 0, 1) := by decide +kernel
theorem dX11_toAdvise_2 : decode cX11_toAdvise 2 = .ok (.putfield 88, 3) := by decide +kernel
theorem dX11_toAdvise_5 : decode cX11_toAdvise 5 = .ok (.aload_n 0, 1) := by decide +kernel
theorem dX11_toAdvise_6 : decode cX11_toAdvise 6 = .ok (.iload_n 2, 1) := by decide +kernel
theorem dX11_toAdvise_7 : decode cX11_toAdvise 7 = .ok (.iconst 0, 1) := by decide +kernel
theorem dX11_toAdvise_8 : decode cX11_toAdvise 8 = .ok (.iconst 1, 1) := by decide +kernel
theorem dX11_toAdvise_9 : decode cX11_toAdvise 9 = .ok (.invokestatic 286, 3) := by decide +kernel
theorem dX11_toAdvise_12 : decode cX11_toAdvise 12 = .ok (.iconst 1, 1) := by decide +kernel
theorem dX11_toAdvise_13 : decode cX11_toAdvise 13 = .ok (.invokevirtual 358, 3) := by decide +kernel
theorem dX11_toAdvise_16 : decode cX11_toAdvise 16 = .ok (.ifCond .eq 18, 3) := by decide +kernel
theorem dX11_toAdvise_19 : decode cX11_toAdvise 19 = .ok (.aload_n 0, 1) := by decide +kernel
theorem dX11_toAdvise_20 : decode cX11_toAdvise 20 = .ok (.iload_n 1, 1) := by decide +kernel
theorem dX11_toAdvise_21 : decode cX11_toAdvise 21 = .ok (.iconst 0, 1) := by decide +kernel
theorem dX11_toAdvise_22 : decode cX11_toAdvise 22 = .ok (.bipush 40, 2) := by decide +kernel
theorem dX11_toAdvise_24 : decode cX11_toAdvise 24 = .ok (.invokestatic 286, 3) := by decide +kernel
theorem dX11_toAdvise_27 : decode cX11_toAdvise 27 = .ok (.iconst 2, 1) := by decide +kernel
theorem dX11_toAdvise_28 : decode cX11_toAdvise 28 = .ok (.invokevirtual 358, 3) := by decide +kernel
theorem dX11_toAdvise_31 : decode cX11_toAdvise 31 = .ok (.ifCond .ne 5, 3) := by decide +kernel
theorem dX11_toAdvise_34 : decode cX11_toAdvise 34 = .ok (.iconst 0, 1) := by decide +kernel
theorem dX11_toAdvise_35 : decode cX11_toAdvise 35 = .ok (.ireturn, 1) := by decide +kernel
theorem dX11_toAdvise_36 : decode cX11_toAdvise 36 = .ok (.iconst (-1), 1) := by decide +kernel
theorem dX11_toAdvise_37 : decode cX11_toAdvise 37 = .ok (.istore_n 3, 1) := by decide +kernel
theorem dX11_toAdvise_38 : decode cX11_toAdvise 38 = .ok (.iconst (-1), 1) := by decide +kernel
theorem dX11_toAdvise_39 : decode cX11_toAdvise 39 = .ok (.istore 4, 2) := by decide +kernel
theorem dX11_toAdvise_41 : decode cX11_toAdvise 41 = .ok (.iconst 0, 1) := by decide +kernel
theorem dX11_toAdvise_42 : decode cX11_toAdvise 42 = .ok (.istore 5, 2) := by decide +kernel
theorem dX11_toAdvise_44 : decode cX11_toAdvise 44 = .ok (.iload 5, 2) := by decide +kernel
theorem dX11_toAdvise_46 : decode cX11_toAdvise 46 = .ok (.aload_n 0, 1) := by decide +kernel
theorem dX11_toAdvise_47 : decode cX11_toAdvise 47 = .ok (.getfield 340, 3) := by decide +kernel
theorem dX11_toAdvise_50 : decode cX11_toAdvise 50 = .ok (.if_icmp .ge 86, 3) := by decide +kernel
theorem dX11_toAdvise_53 : decode cX11_toAdvise 53 = .ok (.aload_n 0, 1) := by decide +kernel
theorem dX11_toAdvise_54 : decode cX11_toAdvise 54 = .ok (.invokevirtual 448, 3) := by decide +kernel
theorem dX11_toAdvise_57 : decode cX11_toAdvise 57 = .ok (.aload_n 0, 1) := by decide +kernel
theorem dX11_toAdvise_58 : decode cX11_toAdvise 58 = .ok (.sipush 1654, 3) := by decide +kernel
theorem dX11_toAdvise_61 : decode cX11_toAdvise 61 = .ok (.aload_n 0, 1) := by decide +kernel
theorem dX11_toAdvise_62 : decode cX11_toAdvise 62 = .ok (.getfield 42, 3) := by decide +kernel
theorem dX11_toAdvise_65 : decode cX11_toAdvise 65 = .ok (.iload 5, 2) := by decide +kernel
theorem dX11_toAdvise_67 : decode cX11_toAdvise 67 = .ok (.iaload, 1) := by decide +kernel
theorem dX11_toAdvise_68 : decode cX11_toAdvise 68 = .ok (.aload_n 0, 1) := by decide +kernel
theorem dX11_toAdvise_69 : decode cX11_toAdvise 69 = .ok (.getfield 42, 3) := by decide +kernel
theorem dX11_toAdvise_72 : decode cX11_toAdvise 72 = .ok (.iload 5, 2) := by decide +kernel
theorem dX11_toAdvise_74 : decode cX11_toAdvise 74 = .ok (.iaload, 1) := by decide +kernel
theorem dX11_toAdvise_75 : decode cX11_toAdvise 75 = .ok (.aload_n 0, 1) := by decide +kernel
theorem dX11_toAdvise_76 : decode cX11_toAdvise 76 = .ok (.getfield 36, 3) := by decide +kernel
theorem dX11_toAdvise_79 : decode cX11_toAdvise 79 = .ok (.iload 5, 2) := by decide +kernel
theorem dX11_toAdvise_81 : decode cX11_toAdvise 81 = .ok (.iaload, 1) := by decide +kernel
theorem dX11_toAdvise_82 : decode cX11_toAdvise 82 = .ok (.iadd, 1) := by decide +kernel
theorem dX11_toAdvise_83 : decode cX11_toAdvise 83 = .ok (.iconst 1, 1) := by decide +kernel
theorem dX11_toAdvise_84 : decode cX11_toAdvise 84 = .ok (.isub, 1) := by decide +kernel
theorem dX11_toAdvise_85 : decode cX11_toAdvise 85 = .ok (.iconst 1, 1) := by decide +kernel
theorem dX11_toAdvise_86 : decode cX11_toAdvise 86 = .ok (.invokevirtual 454, 3) := by decide +kernel
theorem dX11_toAdvise_89 : decode cX11_toAdvise 89 = .ok (.pop, 1) := by decide +kernel
theorem dX11_toAdvise_90 : decode cX11_toAdvise 90 = .ok (.aload_n 0, 1) := by decide +kernel
theorem dX11_toAdvise_91 : decode cX11_toAdvise 91 = .ok (.sipush 1654, 3) := by decide +kernel
theorem dX11_toAdvise_94 : decode cX11_toAdvise 94 = .ok (.iload_n 1, 1) := by decide +kernel
theorem dX11_toAdvise_95 : decode cX11_toAdvise 95 = .ok (.invokevirtual 389, 3) := by decide +kernel
theorem dX11_toAdvise_98 : decode cX11_toAdvise 98 = .ok (.pop, 1) := by decide +kernel
theorem dX11_toAdvise_99 : decode cX11_toAdvise 99 = .ok (.aload_n 0, 1) := by decide +kernel
theorem dX11_toAdvise_100 : decode cX11_toAdvise 100 = .ok (.sipush 1654, 3) := by decide +kernel
theorem dX11_toAdvise_103 : decode cX11_toAdvise 103 = .ok (.invokevirtual 403, 3) := by decide +kernel
theorem dX11_toAdvise_106 : decode cX11_toAdvise 106 = .ok (.istore 6, 2) := by decide +kernel
theorem dX11_toAdvise_108 : decode cX11_toAdvise 108 = .ok (.iload_n 3, 1) := by decide +kernel
theorem dX11_toAdvise_109 : decode cX11_toAdvise 109 = .ok (.iconst (-1), 1) := by decide +kernel
theorem dX11_toAdvise_110 : decode cX11_toAdvise 110 = .ok (.if_icmp .eq 13, 3) := by decide +kernel
theorem dX11_toAdvise_113 : decode cX11_toAdvise 113 = .ok (.iload 6, 2) := by decide +kernel
theorem dX11_toAdvise_115 : decode cX11_toAdvise 115 = .ok (.iload 4, 2) := by decide +kernel
theorem dX11_toAdvise_117 : decode cX11_toAdvise 117 = .ok (.if_icmp .lt 6, 3) := by decide +kernel
theorem dX11_toAdvise_120 : decode cX11_toAdvise 120 = .ok (.goto 10, 3) := by decide +kernel
theorem dX11_toAdvise_123 : decode cX11_toAdvise 123 = .ok (.iload 5, 2) := by decide +kernel
theorem dX11_toAdvise_125 : decode cX11_toAdvise 125 = .ok (.istore_n 3, 1) := by decide +kernel
theorem dX11_toAdvise_126 : decode cX11_toAdvise 126 = .ok (.iload 6, 2) := by decide +kernel
theorem dX11_toAdvise_128 : decode cX11_toAdvise 128 = .ok (.istore 4, 2) := by decide +kernel
theorem dX11_toAdvise_130 : decode cX11_toAdvise 130 = .ok (.iinc 5 1, 3) := by decide +kernel
theorem dX11_toAdvise_133 : decode cX11_toAdvise 133 = .ok (.goto (-89), 3) := by decide +kernel
theorem dX11_toAdvise_136 : decode cX11_toAdvise 136 = .ok (.iload_n 2, 1) := by decide +kernel
theorem dX11_toAdvise_137 : decode cX11_toAdvise 137 = .ok (.ifCond .ne 7, 3) := by decide +kernel
theorem dX11_toAdvise_140 : decode cX11_toAdvise 140 = .ok (.iload_n 3, 1) := by decide +kernel
theorem dX11_toAdvise_141 : decode cX11_toAdvise 141 = .ok (.goto 5, 3) := by decide +kernel
theorem dX11_toAdvise_144 : decode cX11_toAdvise 144 = .ok (.iload 4, 2) := by decide +kernel
theorem dX11_toAdvise_146 : decode cX11_toAdvise 146 = .ok (.ireturn, 1) := by decide +kernel
theorem dX11_toRate_0 : decode cX11_toRate 0 = .ok (.aload_n 0, 1) := by decide +kernel
theorem dX11_toRate_1 : decode cX11_toRate 1 = .ok (.iconst 0, 1) := by decide +kernel
theorem dX11_toRate_2 : decode cX11_toRate 2 = .ok (.putfield 88, 3) := by decide +kernel
theorem dX11_toRate_5 : decode cX11_toRate 5 = .ok (.aload_n 0, 1) := by decide +kernel
theorem dX11_toRate_6 : decode cX11_toRate 6 = .ok (.iload_n 2, 1) := by decide +kernel
theorem dX11_toRate_7 : decode cX11_toRate 7 = .ok (.iconst 0, 1) := by decide +kernel
theorem dX11_toRate_8 : decode cX11_toRate 8 = .ok (.iconst 1, 1) := by decide +kernel
theorem dX11_toRate_9 : decode cX11_toRate 9 = .ok (.invokestatic 286, 3) := by decide +kernel
theorem dX11_toRate_12 : decode cX11_toRate 12 = .ok (.iconst 1, 1) := by decide +kernel
theorem dX11_toRate_13 : decode cX11_toRate 13 = .ok (.invokevirtual 358, 3) := by decide +kernel
theorem dX11_toRate_16 : decode cX11_toRate 16 = .ok (.ifCond .eq 18, 3) := by decide +kernel
theorem dX11_toRate_19 : decode cX11_toRate 19 = .ok (.aload_n 0, 1) := by decide +kernel
theorem dX11_toRate_20 : decode cX11_toRate 20 = .ok (.iload_n 1, 1) := by decide +kernel
theorem dX11_toRate_21 : decode cX11_toRate 21 = .ok (.iconst 1, 1) := by decide +kernel
theorem dX11_toRate_22 : decode cX11_toRate 22 = .ok (.bipush 20, 2) := by decide +kernel
theorem dX11_toRate_24 : decode cX11_toRate 24 = .ok (.invokestatic 286, 3) := by decide +kernel
theorem dX11_toRate_27 : decode cX11_toRate 27 = .ok (.iconst 2, 1) := by decide +kernel
theorem dX11_toRate_28 : decode cX11_toRate 28 = .ok (.invokevirtual 358, 3) := by decide +kernel
theorem dX11_toRate_31 : decode cX11_toRate 31 = .ok (.ifCond .ne 5, 3) := by decide +kernel
theorem dX11_toRate_34 : decode cX11_toRate 34 = .ok (.iconst 0, 1) := by decide +kernel
theorem dX11_toRate_35 : decode cX11_toRate 35 = .ok (.ireturn, 1) := by decide +kernel
theorem dX11_toRate_36 : decode cX11_toRate 36 = .ok (.iconst (-1), 1) := by decide +kernel
theorem dX11_toRate_37 : decode cX11_toRate 37 = .ok (.istore_n 3, 1) := by decide +kernel
theorem dX11_toRate_38 : decode cX11_toRate 38 = .ok (.iconst 0, 1) := by decide +kernel
theorem dX11_toRate_39 : decode cX11_toRate 39 = .ok (.istore 4, 2) := by decide +kernel
theorem dX11_toRate_41 : decode cX11_toRate 41 = .ok (.iconst 0, 1) := by decide +kernel
theorem dX11_toRate_42 : decode cX11_toRate 42 = .ok (.istore 5, 2) := by decide +kernel
theorem dX11_toRate_44 : decode cX11_toRate 44 = .ok (.aload_n 0, 1) := by decide +kernel
theorem dX11_toRate_45 : decode cX11_toRate 45 = .ok (.getfield 30, 3) := by decide +kernel
theorem dX11_toRate_48 : decode cX11_toRate 48 = .ok (.istore 6, 2) := by decide +kernel
theorem dX11_toRate_50 : decode cX11_toRate 50 = .ok (.iload 6, 2) := by decide +kernel
theorem dX11_toRate_52 : decode cX11_toRate 52 = .ok (.aload_n 0, 1) := by decide +kernel
theorem dX11_toRate_53 : decode cX11_toRate 53 = .ok (.getfield 33, 3) := by decide +kernel
theorem dX11_toRate_56 : decode cX11_toRate 56 = .ok (.if_icmp .gt 93, 3) := by decide +kernel
theorem dX11_toRate_59 : decode cX11_toRate 59 = .ok (.aload_n 0, 1) := by decide +kernel
theorem dX11_toRate_60 : decode cX11_toRate 60 = .ok (.invokevirtual 448, 3) := by decide +kernel
theorem dX11_toRate_63 : decode cX11_toRate 63 = .ok (.aload_n 0, 1) := by decide +kernel
theorem dX11_toRate_64 : decode cX11_toRate 64 = .ok (.getfield 10, 3) := by decide +kernel
theorem dX11_toRate_67 : decode cX11_toRate 67 = .ok (.sipush 1654, 3) := by decide +kernel
theorem dX11_toRate_70 : decode cX11_toRate 70 = .ok (.iload 6, 2) := by decide +kernel
theorem dX11_toRate_72 : decode cX11_toRate 72 = .ok (.iastore, 1) := by decide +kernel
theorem dX11_toRate_73 : decode cX11_toRate 73 = .ok (.aload_n 0, 1) := by decide +kernel
theorem dX11_toRate_74 : decode cX11_toRate 74 = .ok (.sipush 1654, 3) := by decide +kernel
theorem dX11_toRate_77 : decode cX11_toRate 77 = .ok (.iload_n 1, 1) := by decide +kernel
theorem dX11_toRate_78 : decode cX11_toRate 78 = .ok (.invokevirtual 389, 3) := by decide +kernel
theorem dX11_toRate_81 : decode cX11_toRate 81 = .ok (.pop, 1) := by decide +kernel
theorem dX11_toRate_82 : decode cX11_toRate 82 = .ok (.aload_n 0, 1) := by decide +kernel
theorem dX11_toRate_83 : decode cX11_toRate 83 = .ok (.sipush 1654, 3) := by decide +kernel
theorem dX11_toRate_86 : decode cX11_toRate 86 = .ok (.invokevirtual 403, 3) := by decide +kernel
theorem dX11_toRate_89 : decode cX11_toRate 89 = .ok (.istore 7, 2) := by decide +kernel
theorem dX11_toRate_91 : decode cX11_toRate 91 = .ok (.iload_n 3, 1) := by decide +kernel
theorem dX11_toRate_92 : decode cX11_toRate 92 = .ok (.iconst (-1), 1) := by decide +kernel
theorem dX11_toRate_93 : decode cX11_toRate 93 = .ok (.if_icmp .eq 33, 3) := by decide +kernel
theorem dX11_toRate_96 : decode cX11_toRate 96 = .ok (.iload 7, 2) := by decide +kernel
theorem dX11_toRate_98 : decode cX11_toRate 98 = .ok (.iload 4, 2) := by decide +kernel
theorem dX11_toRate_100 : decode cX11_toRate 100 = .ok (.if_icmp .gt 43, 3) := by decide +kernel
theorem dX11_toRate_103 : decode cX11_toRate 103 = .ok (.iload 7, 2) := by decide +kernel
theorem dX11_toRate_105 : decode cX11_toRate 105 = .ok (.iload 4, 2) := by decide +kernel
theorem dX11_toRate_107 : decode cX11_toRate 107 = .ok (.if_icmp .ne 19, 3) := by decide +kernel
theorem dX11_toRate_110 : decode cX11_toRate 110 = .ok (.aload_n 0, 1) := by decide +kernel
theorem dX11_toRate_111 : decode cX11_toRate 111 = .ok (.getfield 10, 3) := by decide +kernel
theorem dX11_toRate_114 : decode cX11_toRate 114 = .ok (.sipush 1657, 3) := by decide +kernel
theorem dX11_toRate_117 : decode cX11_toRate 117 = .ok (.iaload, 1) := by decide +kernel
theorem dX11_toRate_118 : decode cX11_toRate 118 = .ok (.iload 5, 2) := by decide +kernel
theorem dX11_toRate_120 : decode cX11_toRate 120 = .ok (.if_icmp .lt 6, 3) := by decide +kernel
theorem dX11_toRate_123 : decode cX11_toRate 123 = .ok (.goto 20, 3) := by decide +kernel
theorem dX11_toRate_126 : decode cX11_toRate 126 = .ok (.iload 6, 2) := by decide +kernel
theorem dX11_toRate_128 : decode cX11_toRate 128 = .ok (.istore_n 3, 1) := by decide +kernel
theorem dX11_toRate_129 : decode cX11_toRate 129 = .ok (.iload 7, 2) := by decide +kernel
theorem dX11_toRate_131 : decode cX11_toRate 131 = .ok (.istore 4, 2) := by decide +kernel
theorem dX11_toRate_133 : decode cX11_toRate 133 = .ok (.aload_n 0, 1) := by decide +kernel
theorem dX11_toRate_134 : decode cX11_toRate 134 = .ok (.getfield 10, 3) := by decide +kernel
theorem dX11_toRate_137 : decode cX11_toRate 137 = .ok (.sipush 1657, 3) := by decide +kernel
theorem dX11_toRate_140 : decode cX11_toRate 140 = .ok (.iaload, 1) := by decide +kernel
theorem dX11_toRate_141 : decode cX11_toRate 141 = .ok (.istore 5, 2) := by decide +kernel
theorem dX11_toRate_143 : decode cX11_toRate 143 = .ok (.iinc 6 1, 3) := by decide +kernel
theorem dX11_toRate_146 : decode cX11_toRate 146 = .ok (.goto (-96), 3) := by decide +kernel
theorem dX11_toRate_149 : decode cX11_toRate 149 = .ok (.iload_n 2, 1) := by decide +kernel
theorem dX11_toRate_150 : decode cX11_toRate 150 = .ok (.ifCond .ne 7, 3) := by decide +kernel
theorem dX11_toRate_153 : decode cX11_toRate 153 = .ok (.iload_n 3, 1) := by decide +kernel
theorem dX11_toRate_154 : decode cX11_toRate 154 = .ok (.goto 5, 3) := by decide +kernel
theorem dX11_toRate_157 : decode cX11_toRate 157 = .ok (.iload 4, 2) := by decide +kernel
theorem dX11_toRate_159 : decode cX11_toRate 159 = .ok (.ireturn, 1) := by decide +kernel
theorem dX11_note_0 : decode cX11_note 0 = .ok (.aload_n 0, 1) := by decide +kernel
theorem dX11_note_1 : decode cX11_note 1 = .ok (.iconst 0, 1) := by decide +kernel
theorem dX11_note_2 : decode cX11_note 2 = .ok (.putfield 88, 3) := by decide +kernel
theorem dX11_note_5 : decode cX11_note 5 = .ok (.aload_n 0, 1) := by decide +kernel
theorem dX11_note_6 : decode cX11_note 6 = .ok (.getfield 346, 3) := by decide +kernel
theorem dX11_note_9 : decode cX11_note 9 = .ok (.bipush 8, 2) := by decide +kernel
theorem dX11_note_11 : decode cX11_note 11 = .ok (.if_icmp .eq 23, 3) := by decide +kernel
theorem dX11_note_14 : decode cX11_note 14 = .ok (.iload_n 1, 1) := by decide +kernel
theorem dX11_note_15 : decode cX11_note 15 = .ok (.iconst 0, 1) := by decide +kernel
theorem dX11_note_16 : decode cX11_note 16 = .ok (.bipush 20, 2) := by decide +kernel
theorem dX11_note_18 : decode cX11_note 18 = .ok (.invokestatic 286, 3) := by decide +kernel
theorem dX11_note_21 : decode cX11_note 21 = .ok (.ifCond .eq 13, 3) := by decide +kernel
theorem dX11_note_24 : decode cX11_note 24 = .ok (.iload_n 2, 1) := by decide +kernel
theorem dX11_note_25 : decode cX11_note 25 = .ok (.iconst 0, 1) := by decide +kernel
theorem dX11_note_26 : decode cX11_note 26 = .ok (.bipush 48, 2) := by decide +kernel
theorem dX11_note_28 : decode cX11_note 28 = .ok (.invokestatic 286, 3) := by decide +kernel
theorem dX11_note_31 : decode cX11_note 31 = .ok (.ifCond .ne 9, 3) := by decide +kernel
theorem dX11_note_34 : decode cX11_note 34 = .ok (.aload_n 0, 1) := by decide +kernel
theorem dX11_note_35 : decode cX11_note 35 = .ok (.iconst 2, 1) := by decide +kernel
theorem dX11_note_36 : decode cX11_note 36 = .ok (.invokevirtual 445, 3) := by decide +kernel
theorem dX11_note_39 : decode cX11_note 39 = .ok (.ireturn, 1) := by decide +kernel
theorem dX11_note_40 : decode cX11_note 40 = .ok (.aload_n 0, 1) := by decide +kernel
theorem dX11_note_41 : decode cX11_note 41 = .ok (.getfield 14, 3) := by decide +kernel
theorem dX11_note_44 : decode cX11_note 44 = .ok (.aload_n 0, 1) := by decide +kernel
theorem dX11_note_45 : decode cX11_note 45 = .ok (.getfield 346, 3) := by decide +kernel
theorem dX11_note_48 : decode cX11_note 48 = .ok (.iload_n 1, 1) := by decide +kernel
theorem dX11_note_49 : decode cX11_note 49 = .ok (.iastore, 1) := by decide +kernel
theorem dX11_note_50 : decode cX11_note 50 = .ok (.aload_n 0, 1) := by decide +kernel
theorem dX11_note_51 : decode cX11_note 51 = .ok (.getfield 17, 3) := by decide +kernel
theorem dX11_note_54 : decode cX11_note 54 = .ok (.aload_n 0, 1) := by decide +kernel
theorem dX11_note_55 : decode cX11_note 55 = .ok (.getfield 346, 3) := by decide +kernel
theorem dX11_note_58 : decode cX11_note 58 = .ok (.iload_n 2, 1) := by decide +kernel
theorem dX11_note_59 : decode cX11_note 59 = .ok (.iastore, 1) := by decide +kernel
theorem dX11_note_60 : decode cX11_note 60 = .ok (.aload_n 0, 1) := by decide +kernel
theorem dX11_note_61 : decode cX11_note 61 = .ok (.dup, 1) := by decide +kernel
theorem dX11_note_62 : decode cX11_note 62 = .ok (.getfield 346, 3) := by decide +kernel
theorem dX11_note_65 : decode cX11_note 65 = .ok (.iconst 1, 1) := by decide +kernel
theorem dX11_note_66 : decode cX11_note 66 = .ok (.iadd, 1) := by decide +kernel
theorem dX11_note_67 : decode cX11_note 67 = .ok (.putfield 346, 3) := by decide +kernel
theorem dX11_note_70 : decode cX11_note 70 = .ok (.aload_n 0, 1) := by decide +kernel
theorem dX11_note_71 : decode cX11_note 71 = .ok (.getfield 346, 3) := by decide +kernel
theorem dX11_note_74 : decode cX11_note 74 = .ok (.ireturn, 1) := by decide +kernel
theorem dX11_isNoted_0 : decode cX11_isNoted 0 = .ok (.iconst 0, 1) := by decide +kernel
theorem dX11_isNoted_1 : decode cX11_isNoted 1 = .ok (.istore_n 1, 1) := by decide +kernel
theorem dX11_isNoted_2 : decode cX11_isNoted 2 = .ok (.iload_n 1, 1) := by decide +kernel
theorem dX11_isNoted_3 : decode cX11_isNoted 3 = .ok (.bipush 20, 2) := by decide +kernel
theorem dX11_isNoted_5 : decode cX11_isNoted 5 = .ok (.if_icmp .gt 31, 3) := by decide +kernel
theorem dX11_isNoted_8 : decode cX11_isNoted 8 = .ok (.aload_n 0, 1) := by decide +kernel
theorem dX11_isNoted_9 : decode cX11_isNoted 9 = .ok (.getfield 78, 3) := by decide +kernel
theorem dX11_isNoted_12 : decode cX11_isNoted 12 = .ok (.iload_n 1, 1) := by decide +kernel
theorem dX11_isNoted_13 : decode cX11_isNoted 13 = .ok (.aload_n 0, 1) := by decide +kernel
theorem dX11_isNoted_14 : decode cX11_isNoted 14 = .ok (.sipush 1654, 3) := by decide +kernel
theorem dX11_isNoted_17 : decode cX11_isNoted 17 = .ok (.invokevirtual 403, 3) := by decide +kernel
theorem dX11_isNoted_20 : decode cX11_isNoted 20 = .ok (.iastore, 1) := by decide +kernel
theorem dX11_isNoted_21 : decode cX11_isNoted 21 = .ok (.aload_n 0, 1) := by decide +kernel
theorem dX11_isNoted_22 : decode cX11_isNoted 22 = .ok (.sipush 1654, 3) := by decide +kernel
theorem dX11_isNoted_25 : decode cX11_isNoted 25 = .ok (.iconst 1, 1) := by decide +kernel
theorem dX11_isNoted_26 : decode cX11_isNoted 26 = .ok (.invokevirtual 389, 3) := by decide +kernel
theorem dX11_isNoted_29 : decode cX11_isNoted 29 = .ok (.pop, 1) := by decide +kernel
theorem dX11_isNoted_30 : decode cX11_isNoted 30 = .ok (.iinc 1 1, 3) := by decide +kernel
theorem dX11_isNoted_33 : decode cX11_isNoted 33 = .ok (.goto (-31), 3) := by decide +kernel
theorem dX11_isNoted_36 : decode cX11_isNoted 36 = .ok (.iconst 1, 1) := by decide +kernel
theorem dX11_isNoted_37 : decode cX11_isNoted 37 = .ok (.istore_n 1, 1) := by decide +kernel
theorem dX11_isNoted_38 : decode cX11_isNoted 38 = .ok (.iconst 0, 1) := by decide +kernel
theorem dX11_isNoted_39 : decode cX11_isNoted 39 = .ok (.istore_n 2, 1) := by decide +kernel
theorem dX11_isNoted_40 : decode cX11_isNoted 40 = .ok (.iload_n 2, 1) := by decide +kernel
theorem dX11_isNoted_41 : decode cX11_isNoted 41 = .ok (.aload_n 0, 1) := by decide +kernel
theorem dX11_isNoted_42 : decode cX11_isNoted 42 = .ok (.getfield 346, 3) := by decide +kernel
theorem dX11_isNoted_45 : decode cX11_isNoted 45 = .ok (.if_icmp .ge 39, 3) := by decide +kernel
theorem dX11_isNoted_48 : decode cX11_isNoted 48 = .ok (.iload_n 1, 1) := by decide +kernel
theorem dX11_isNoted_49 : decode cX11_isNoted 49 = .ok (.ifCond .eq 27, 3) := by decide +kernel
theorem dX11_isNoted_52 : decode cX11_isNoted 52 = .ok (.aload_n 0, 1) := by decide +kernel
theorem dX11_isNoted_53 : decode cX11_isNoted 53 = .ok (.getfield 78, 3) := by decide +kernel
theorem dX11_isNoted_56 : decode cX11_isNoted 56 = .ok (.aload_n 0, 1) := by decide +kernel
theorem dX11_isNoted_57 : decode cX11_isNoted 57 = .ok (.getfield 14, 3) := by decide +kernel
theorem dX11_isNoted_60 : decode cX11_isNoted 60 = .ok (.iload_n 2, 1) := by decide +kernel
theorem dX11_isNoted_61 : decode cX11_isNoted 61 = .ok (.iaload, 1) := by decide +kernel
theorem dX11_isNoted_62 : decode cX11_isNoted 62 = .ok (.iaload, 1) := by decide +kernel
theorem dX11_isNoted_63 : decode cX11_isNoted 63 = .ok (.aload_n 0, 1) := by decide +kernel
theorem dX11_isNoted_64 : decode cX11_isNoted 64 = .ok (.getfield 17, 3) := by decide +kernel
theorem dX11_isNoted_67 : decode cX11_isNoted 67 = .ok (.iload_n 2, 1) := by decide +kernel
theorem dX11_isNoted_68 : decode cX11_isNoted 68 = .ok (.iaload, 1) := by decide +kernel
theorem dX11_isNoted_69 : decode cX11_isNoted 69 = .ok (.if_icmp .ne 7, 3) := by decide +kernel
theorem dX11_isNoted_72 : decode cX11_isNoted 72 = .ok (.iconst 1, 1) := by decide +kernel
theorem dX11_isNoted_73 : decode cX11_isNoted 73 = .ok (.goto 4, 3) := by decide +kernel
theorem dX11_isNoted_76 : decode cX11_isNoted 76 = .ok (.iconst 0, 1) := by decide +kernel
theorem dX11_isNoted_77 : decode cX11_isNoted 77 = .ok (.istore_n 1, 1) := by decide +kernel
theorem dX11_isNoted_78 : decode cX11_isNoted 78 = .ok (.iinc 2 1, 3) := by decide +kernel
theorem dX11_isNoted_81 : decode cX11_isNoted 81 = .ok (.goto (-41), 3) := by decide +kernel
theorem dX11_isNoted_84 : decode cX11_isNoted 84 = .ok (.iload_n 1, 1) := by decide +kernel
theorem dX11_isNoted_85 : decode cX11_isNoted 85 = .ok (.ireturn, 1) := by decide +kernel
theorem dX11_isGuess_0 : decode cX11_isGuess 0 = .ok (.iload_n 3, 1) := by decide +kernel
theorem dX11_isGuess_1 : decode cX11_isGuess 1 = .ok (.aload_n 0, 1) := by decide +kernel
theorem dX11_isGuess_2 : decode cX11_isGuess 2 = .ok (.iconst 0, 1) := by decide +kernel
theorem dX11_isGuess_3 : decode cX11_isGuess 3 = .ok (.iload_n 1, 1) := by decide +kernel
theorem dX11_isGuess_4 : decode cX11_isGuess 4 = .ok (.iload_n 2, 1) := by decide +kernel
theorem dX11_isGuess_5 : decode cX11_isGuess 5 = .ok (.invokevirtual 117, 3) := by decide +kernel
theorem dX11_isGuess_8 : decode cX11_isGuess 8 = .ok (.if_icmp .ne 5, 3) := by decide +kernel
theorem dX11_isGuess_11 : decode cX11_isGuess 11 = .ok (.iconst 0, 1) := by decide +kernel
theorem dX11_isGuess_12 : decode cX11_isGuess 12 = .ok (.ireturn, 1) := by decide +kernel
theorem dX11_isGuess_13 : decode cX11_isGuess 13 = .ok (.aload_n 0, 1) := by decide +kernel
theorem dX11_isGuess_14 : decode cX11_isGuess 14 = .ok (.invokevirtual 448, 3) := by decide +kernel
theorem dX11_isGuess_17 : decode cX11_isGuess 17 = .ok (.aload_n 0, 1) := by decide +kernel
theorem dX11_isGuess_18 : decode cX11_isGuess 18 = .ok (.sipush 1654, 3) := by decide +kernel
theorem dX11_isGuess_21 : decode cX11_isGuess 21 = .ok (.iload_n 1, 1) := by decide +kernel
theorem dX11_isGuess_22 : decode cX11_isGuess 22 = .ok (.iload_n 2, 1) := by decide +kernel
theorem dX11_isGuess_23 : decode cX11_isGuess 23 = .ok (.iload_n 3, 1) := by decide +kernel
theorem dX11_isGuess_24 : decode cX11_isGuess 24 = .ok (.invokevirtual 386, 3) := by decide +kernel
theorem dX11_isGuess_27 : decode cX11_isGuess 27 = .ok (.iconst (-1), 1) := by decide +kernel
theorem dX11_isGuess_28 : decode cX11_isGuess 28 = .ok (.if_icmp .eq 14, 3) := by decide +kernel
theorem dX11_isGuess_31 : decode cX11_isGuess 31 = .ok (.aload_n 0, 1) := by decide +kernel
theorem dX11_isGuess_32 : decode cX11_isGuess 32 = .ok (.invokevirtual 473, 3) := by decide +kernel
theorem dX11_isGuess_35 : decode cX11_isGuess 35 = .ok (.ifCond .eq 7, 3) := by decide +kernel
theorem dX11_isGuess_38 : decode cX11_isGuess 38 = .ok (.iconst 1, 1) := by decide +kernel
theorem dX11_isGuess_39 : decode cX11_isGuess 39 = .ok (.goto 4, 3) := by decide +kernel
theorem dX11_isGuess_42 : decode cX11_isGuess 42 = .ok (.iconst 0, 1) := by decide +kernel
theorem dX11_isGuess_43 : decode cX11_isGuess 43 = .ok (.ireturn, 1) := by decide +kernel
theorem dX11_guess_0 : decode cX11_guess 0 = .ok (.aload_n 0, 1) := by decide +kernel
theorem dX11_guess_1 : decode cX11_guess 1 = .ok (.iconst 0, 1) := by decide +kernel
theorem dX11_guess_2 : decode cX11_guess 2 = .ok (.putfield 88, 3) := by decide +kernel
theorem dX11_guess_5 : decode cX11_guess 5 = .ok (.aload_n 0, 1) := by decide +kernel
theorem dX11_guess_6 : decode cX11_guess 6 = .ok (.iload_n 1, 1) := by decide +kernel
theorem dX11_guess_7 : decode cX11_guess 7 = .ok (.iload_n 2, 1) := by decide +kernel
theorem dX11_guess_8 : decode cX11_guess 8 = .ok (.invokevirtual 430, 3) := by decide +kernel
theorem dX11_guess_11 : decode cX11_guess 11 = .ok (.ifCond .eq 35, 3) := by decide +kernel
theorem dX11_guess_14 : decode cX11_guess 14 = .ok (.aload_n 0, 1) := by decide +kernel
theorem dX11_guess_15 : decode cX11_guess 15 = .ok (.iload_n 3, 1) := by decide +kernel
theorem dX11_guess_16 : decode cX11_guess 16 = .ok (.iconst 0, 1) := by decide +kernel
theorem dX11_guess_17 : decode cX11_guess 17 = .ok (.iconst 3, 1) := by decide +kernel
theorem dX11_guess_18 : decode cX11_guess 18 = .ok (.invokestatic 286, 3) := by decide +kernel
theorem dX11_guess_21 : decode cX11_guess 21 = .ok (.ifCond .eq 17, 3) := by decide +kernel
theorem dX11_guess_24 : decode cX11_guess 24 = .ok (.iload 4, 2) := by decide +kernel
theorem dX11_guess_26 : decode cX11_guess 26 = .ok (.iconst 0, 1) := by decide +kernel
theorem dX11_guess_27 : decode cX11_guess 27 = .ok (.iconst 2, 1) := by decide +kernel
theorem dX11_guess_28 : decode cX11_guess 28 = .ok (.invokestatic 286, 3) := by decide +kernel
theorem dX11_guess_31 : decode cX11_guess 31 = .ok (.ifCond .eq 7, 3) := by decide +kernel
theorem dX11_guess_34 : decode cX11_guess 34 = .ok (.iconst 1, 1) := by decide +kernel
theorem dX11_guess_35 : decode cX11_guess 35 = .ok (.goto 4, 3) := by decide +kernel
theorem dX11_guess_38 : decode cX11_guess 38 = .ok (.iconst 0, 1) := by decide +kernel
theorem dX11_guess_39 : decode cX11_guess 39 = .ok (.iconst 1, 1) := by decide +kernel
theorem dX11_guess_40 : decode cX11_guess 40 = .ok (.invokevirtual 358, 3) := by decide +kernel
theorem dX11_guess_43 : decode cX11_guess 43 = .ok (.ifCond .ne 5, 3) := by decide +kernel
theorem dX11_guess_46 : decode cX11_guess 46 = .ok (.iconst 0, 1) := by decide +kernel
theorem dX11_guess_47 : decode cX11_guess 47 = .ok (.ireturn, 1) := by decide +kernel
theorem dX11_guess_48 : decode cX11_guess 48 = .ok (.iload 4, 2) := by decide +kernel
theorem dX11_guess_50 : decode cX11_guess 50 = .ok (.iconst 2, 1) := by decide +kernel
theorem dX11_guess_51 : decode cX11_guess 51 = .ok (.if_icmp .ne 20, 3) := by decide +kernel
theorem dX11_guess_54 : decode cX11_guess 54 = .ok (.aload_n 0, 1) := by decide +kernel
theorem dX11_guess_55 : decode cX11_guess 55 = .ok (.invokevirtual 448, 3) := by decide +kernel
theorem dX11_guess_58 : decode cX11_guess 58 = .ok (.aload_n 0, 1) := by decide +kernel
theorem dX11_guess_59 : decode cX11_guess 59 = .ok (.invokevirtual 473, 3) := by decide +kernel
theorem dX11_guess_62 : decode cX11_guess 62 = .ok (.ifCond .eq 7, 3) := by decide +kernel
theorem dX11_guess_65 : decode cX11_guess 65 = .ok (.iconst 1, 1) := by decide +kernel
theorem dX11_guess_66 : decode cX11_guess 66 = .ok (.goto 4, 3) := by decide +kernel
theorem dX11_guess_69 : decode cX11_guess 69 = .ok (.iconst 0, 1) := by decide +kernel
theorem dX11_guess_70 : decode cX11_guess 70 = .ok (.ireturn, 1) := by decide +kernel
theorem dX11_guess_71 : decode cX11_guess 71 = .ok (.iconst 0, 1) := by decide +kernel
theorem dX11_guess_72 : decode cX11_guess 72 = .ok (.istore 5, 2) := by decide +kernel
theorem dX11_guess_74 : decode cX11_guess 74 = .ok (.iconst (-1), 1) := by decide +kernel
theorem dX11_guess_75 : decode cX11_guess 75 = .ok (.istore 6, 2) := by decide +kernel
theorem dX11_guess_77 : decode cX11_guess 77 = .ok (.bipush 15, 2) := by decide +kernel
theorem dX11_guess_79 : decode cX11_guess 79 = .ok (.istore 7, 2) := by decide +kernel
theorem dX11_guess_81 : decode cX11_guess 81 = .ok (.iload 7, 2) := by decide +kernel
theorem dX11_guess_83 : decode cX11_guess 83 = .ok (.ifCond .lt 37, 3) := by decide +kernel
theorem dX11_guess_86 : decode cX11_guess 86 = .ok (.aload_n 0, 1) := by decide +kernel
theorem dX11_guess_87 : decode cX11_guess 87 = .ok (.aload_n 0, 1) := by decide +kernel
theorem dX11_guess_88 : decode cX11_guess 88 = .ok (.getfield 42, 3) := by decide +kernel
theorem dX11_guess_91 : decode cX11_guess 91 = .ok (.iload_n 1, 1) := by decide +kernel
theorem dX11_guess_92 : decode cX11_guess 92 = .ok (.iaload, 1) := by decide +kernel
theorem dX11_guess_93 : decode cX11_guess 93 = .ok (.iload_n 2, 1) := by decide +kernel
theorem dX11_guess_94 : decode cX11_guess 94 = .ok (.iadd, 1) := by decide +kernel
theorem dX11_guess_95 : decode cX11_guess 95 = .ok (.iload_n 3, 1) := by decide +kernel
theorem dX11_guess_96 : decode cX11_guess 96 = .ok (.iload 7, 2) := by decide +kernel
theorem dX11_guess_98 : decode cX11_guess 98 = .ok (.invokevirtual 477, 3) := by decide +kernel
theorem dX11_guess_101 : decode cX11_guess 101 = .ok (.ifCond .ne 6, 3) := by decide +kernel
theorem dX11_guess_104 : decode cX11_guess 104 = .ok (.goto 10, 3) := by decide +kernel
theorem dX11_guess_107 : decode cX11_guess 107 = .ok (.iinc 5 1, 3) := by decide +kernel
theorem dX11_guess_110 : decode cX11_guess 110 = .ok (.iload 7, 2) := by decide +kernel
theorem dX11_guess_112 : decode cX11_guess 112 = .ok (.istore 6, 2) := by decide +kernel
theorem dX11_guess_114 : decode cX11_guess 114 = .ok (.iinc 7 (-1), 3) := by decide +kernel
theorem dX11_guess_117 : decode cX11_guess 117 = .ok (.goto (-36), 3) := by decide +kernel
theorem dX11_guess_120 : decode cX11_guess 120 = .ok (.iload 4, 2) := by decide +kernel
theorem dX11_guess_122 : decode cX11_guess 122 = .ok (.ifCond .ne 8, 3) := by decide +kernel
theorem dX11_guess_125 : decode cX11_guess 125 = .ok (.iload 5, 2) := by decide +kernel
theorem dX11_guess_127 : decode cX11_guess 127 = .ok (.goto 5, 3) := by decide +kernel
theorem dX11_guess_130 : decode cX11_guess 130 = .ok (.iload 6, 2) := by decide +kernel
theorem dX11_guess_132 : decode cX11_guess 132 = .ok (.ireturn, 1) := by decide +kernel
theorem dX11_ones_0 : decode cX11_ones 0 = .ok (.iconst 0, 1) := by decide +kernel
theorem dX11_ones_1 : decode cX11_ones 1 = .ok (.istore_n 2, 1) := by decide +kernel
theorem dX11_ones_2 : decode cX11_ones 2 = .ok (.iconst 0, 1) := by decide +kernel
theorem dX11_ones_3 : decode cX11_ones 3 = .ok (.istore_n 3, 1) := by decide +kernel
theorem dX11_ones_4 : decode cX11_ones 4 = .ok (.iload_n 3, 1) := by decide +kernel
theorem dX11_ones_5 : decode cX11_ones 5 = .ok (.bipush 48, 2) := by decide +kernel
theorem dX11_ones_7 : decode cX11_ones 7 = .ok (.if_icmp .gt 27, 3) := by decide +kernel
theorem dX11_ones_10 : decode cX11_ones 10 = .ok (.iload_n 2, 1) := by decide +kernel
theorem dX11_ones_11 : decode cX11_ones 11 = .ok (.lload_n 0, 1) := by decide +kernel
theorem dX11_ones_12 : decode cX11_ones 12 = .ok (.iload_n 3, 1) := by decide +kernel
theorem dX11_ones_13 : decode cX11_ones 13 = .ok (.lshr, 1) := by decide +kernel
theorem dX11_ones_14 : decode cX11_ones 14 = .ok (.lconst 1, 1) := by decide +kernel
theorem dX11_ones_15 : decode cX11_ones 15 = .ok (.land, 1) := by decide +kernel
theorem dX11_ones_16 : decode cX11_ones 16 = .ok (.lconst 1, 1) := by decide +kernel
theorem dX11_ones_17 : decode cX11_ones 17 = .ok (.lcmp, 1) := by decide +kernel
theorem dX11_ones_18 : decode cX11_ones 18 = .ok (.ifCond .ne 7, 3) := by decide +kernel
theorem dX11_ones_21 : decode cX11_ones 21 = .ok (.iconst 1, 1) := by decide +kernel
theorem dX11_ones_22 : decode cX11_ones 22 = .ok (.goto 4, 3) := by decide +kernel
theorem dX11_ones_25 : decode cX11_ones 25 = .ok (.iconst 0, 1) := by decide +kernel
theorem dX11_ones_26 : decode cX11_ones 26 = .ok (.iadd, 1) := by decide +kernel
theorem dX11_ones_27 : decode cX11_ones 27 = .ok (.istore_n 2, 1) := by decide +kernel
theorem dX11_ones_28 : decode cX11_ones 28 = .ok (.iinc 3 1, 3) := by decide +kernel
theorem dX11_ones_31 : decode cX11_ones 31 = .ok (.goto (-27), 3) := by decide +kernel
theorem dX11_ones_34 : decode cX11_ones 34 = .ok (.iload_n 2, 1) := by decide +kernel
theorem dX11_ones_35 : decode cX11_ones 35 = .ok (.ireturn, 1) := by decide +kernel
theorem dX11_look_0 : decode cX11_look 0 = .ok (.aload_n 0, 1) := by decide +kernel
theorem dX11_look_1 : decode cX11_look 1 = .ok (.iconst 0, 1) := by decide +kernel
theorem dX11_look_2 : decode cX11_look 2 = .ok (.putfield 88, 3) := by decide +kernel
theorem dX11_look_5 : decode cX11_look 5 = .ok (.aload_n 0, 1) := by decide +kernel
theorem dX11_look_6 : decode cX11_look 6 = .ok (.iload_n 1, 1) := by decide +kernel
theorem dX11_look_7 : decode cX11_look 7 = .ok (.iload_n 2, 1) := by decide +kernel
theorem dX11_look_8 : decode cX11_look 8 = .ok (.invokevirtual 430, 3) := by decide +kernel
theorem dX11_look_11 : decode cX11_look 11 = .ok (.ifCond .eq 35, 3) := by decide +kernel
theorem dX11_look_14 : decode cX11_look 14 = .ok (.aload_n 0, 1) := by decide +kernel
theorem dX11_look_15 : decode cX11_look 15 = .ok (.iload_n 3, 1) := by decide +kernel
theorem dX11_look_16 : decode cX11_look 16 = .ok (.iconst 0, 1) := by decide +kernel
theorem dX11_look_17 : decode cX11_look 17 = .ok (.iconst 3, 1) := by decide +kernel
theorem dX11_look_18 : decode cX11_look 18 = .ok (.invokestatic 286, 3) := by decide +kernel
theorem dX11_look_21 : decode cX11_look 21 = .ok (.ifCond .eq 17, 3) := by decide +kernel
theorem dX11_look_24 : decode cX11_look 24 = .ok (.iload 4, 2) := by decide +kernel
theorem dX11_look_26 : decode cX11_look 26 = .ok (.iconst 0, 1) := by decide +kernel
theorem dX11_look_27 : decode cX11_look 27 = .ok (.iconst 1, 1) := by decide +kernel
theorem dX11_look_28 : decode cX11_look 28 = .ok (.invokestatic 286, 3) := by decide +kernel
theorem dX11_look_31 : decode cX11_look 31 = .ok (.ifCond .eq 7, 3) := by decide +kernel
theorem dX11_look_34 : decode cX11_look 34 = .ok (.iconst 1, 1) := by decide +kernel
theorem dX11_look_35 : decode cX11_look 35 = .ok (.goto 4, 3) := by decide +kernel
theorem dX11_look_38 : decode cX11_look 38 = .ok (.iconst 0, 1) := by decide +kernel
theorem dX11_look_39 : decode cX11_look 39 = .ok (.iconst 1, 1) := by decide +kernel
theorem dX11_look_40 : decode cX11_look 40 = .ok (.invokevirtual 358, 3) := by decide +kernel
theorem dX11_look_43 : decode cX11_look 43 = .ok (.ifCond .ne 5, 3) := by decide +kernel
theorem dX11_look_46 : decode cX11_look 46 = .ok (.iconst 0, 1) := by decide +kernel
theorem dX11_look_47 : decode cX11_look 47 = .ok (.ireturn, 1) := by decide +kernel
theorem dX11_look_48 : decode cX11_look 48 = .ok (.iconst 0, 1) := by decide +kernel
theorem dX11_look_49 : decode cX11_look 49 = .ok (.istore 5, 2) := by decide +kernel
theorem dX11_look_51 : decode cX11_look 51 = .ok (.iload 5, 2) := by decide +kernel
theorem dX11_look_53 : decode cX11_look 53 = .ok (.bipush 20, 2) := by decide +kernel
theorem dX11_look_55 : decode cX11_look 55 = .ok (.if_icmp .gt 17, 3) := by decide +kernel
theorem dX11_look_58 : decode cX11_look 58 = .ok (.aload_n 0, 1) := by decide +kernel
theorem dX11_look_59 : decode cX11_look 59 = .ok (.getfield 81, 3) := by decide +kernel
theorem dX11_look_62 : decode cX11_look 62 = .ok (.iload 5, 2) := by decide +kernel
theorem dX11_look_64 : decode cX11_look 64 = .ok (.lconst 0, 1) := by decide +kernel
theorem dX11_look_65 : decode cX11_look 65 = .ok (.lastore, 1) := by decide +kernel
theorem dX11_look_66 : decode cX11_look 66 = .ok (.iinc 5 1, 3) := by decide +kernel
theorem dX11_look_69 : decode cX11_look 69 = .ok (.goto (-18), 3) := by decide +kernel
theorem dX11_look_72 : decode cX11_look 72 = .ok (.iconst 0, 1) := by decide +kernel
theorem dX11_look_73 : decode cX11_look 73 = .ok (.istore 5, 2) := by decide +kernel
theorem dX11_look_75 : decode cX11_look 75 = .ok (.iload 5, 2) := by decide +kernel
theorem dX11_look_77 : decode cX11_look 77 = .ok (.bipush 16, 2) := by decide +kernel
theorem dX11_look_79 : decode cX11_look 79 = .ok (.if_icmp .ge 65, 3) := by decide +kernel
theorem dX11_look_82 : decode cX11_look 82 = .ok (.aload_n 0, 1) := by decide +kernel
theorem dX11_look_83 : decode cX11_look 83 = .ok (.aload_n 0, 1) := by decide +kernel
theorem dX11_look_84 : decode cX11_look 84 = .ok (.getfield 42, 3) := by decide +kernel
theorem dX11_look_87 : decode cX11_look 87 = .ok (.iload_n 1, 1) := by decide +kernel
theorem dX11_look_88 : decode cX11_look 88 = .ok (.iaload, 1) := by decide +kernel
theorem dX11_look_89 : decode cX11_look 89 = .ok (.iload_n 2, 1) := by decide +kernel
theorem dX11_look_90 : decode cX11_look 90 = .ok (.iadd, 1) := by decide +kernel
theorem dX11_look_91 : decode cX11_look 91 = .ok (.iload_n 3, 1) := by decide +kernel
theorem dX11_look_92 : decode cX11_look 92 = .ok (.iload 5, 2) := by decide +kernel
theorem dX11_look_94 : decode cX11_look 94 = .ok (.invokevirtual 477, 3) := by decide +kernel
theorem dX11_look_97 : decode cX11_look 97 = .ok (.ifCond .ne 6, 3) := by decide +kernel
theorem dX11_look_100 : decode cX11_look 100 = .ok (.goto 38, 3) := by decide +kernel
theorem dX11_look_103 : decode cX11_look 103 = .ok (.iconst 1, 1) := by decide +kernel
theorem dX11_look_104 : decode cX11_look 104 = .ok (.istore 6, 2) := by decide +kernel
theorem dX11_look_106 : decode cX11_look 106 = .ok (.iload 6, 2) := by decide +kernel
theorem dX11_look_108 : decode cX11_look 108 = .ok (.bipush 20, 2) := by decide +kernel
theorem dX11_look_110 : decode cX11_look 110 = .ok (.if_icmp .gt 28, 3) := by decide +kernel
theorem dX11_look_113 : decode cX11_look 113 = .ok (.aload_n 0, 1) := by decide +kernel
theorem dX11_look_114 : decode cX11_look 114 = .ok (.getfield 81, 3) := by decide +kernel
theorem dX11_look_117 : decode cX11_look 117 = .ok (.iload 6, 2) := by decide +kernel
theorem dX11_look_119 : decode cX11_look 119 = .ok (.dup2, 1) := by decide +kernel
theorem dX11_look_120 : decode cX11_look 120 = .ok (.laload, 1) := by decide +kernel
theorem dX11_look_121 : decode cX11_look 121 = .ok (.lconst 1, 1) := by decide +kernel
theorem dX11_look_122 : decode cX11_look 122 = .ok (.aload_n 0, 1) := by decide +kernel
theorem dX11_look_123 : decode cX11_look 123 = .ok (.getfield 78, 3) := by decide +kernel
theorem dX11_look_126 : decode cX11_look 126 = .ok (.iload 6, 2) := by decide +kernel
theorem dX11_look_128 : decode cX11_look 128 = .ok (.iaload, 1) := by decide +kernel
theorem dX11_look_129 : decode cX11_look 129 = .ok (.lshl, 1) := by decide +kernel
theorem dX11_look_130 : decode cX11_look 130 = .ok (.lor, 1) := by decide +kernel
theorem dX11_look_131 : decode cX11_look 131 = .ok (.lastore, 1) := by decide +kernel
theorem dX11_look_132 : decode cX11_look 132 = .ok (.iinc 6 1, 3) := by decide +kernel
theorem dX11_look_135 : decode cX11_look 135 = .ok (.goto (-29), 3) := by decide +kernel
theorem dX11_look_138 : decode cX11_look 138 = .ok (.iinc 5 1, 3) := by decide +kernel
theorem dX11_look_141 : decode cX11_look 141 = .ok (.goto (-66), 3) := by decide +kernel
theorem dX11_look_144 : decode cX11_look 144 = .ok (.iconst (-1), 1) := by decide +kernel
theorem dX11_look_145 : decode cX11_look 145 = .ok (.istore 5, 2) := by decide +kernel
theorem dX11_look_147 : decode cX11_look 147 = .ok (.iconst 0, 1) := by decide +kernel
theorem dX11_look_148 : decode cX11_look 148 = .ok (.istore 6, 2) := by decide +kernel
theorem dX11_look_150 : decode cX11_look 150 = .ok (.iconst 1, 1) := by decide +kernel
theorem dX11_look_151 : decode cX11_look 151 = .ok (.istore 7, 2) := by decide +kernel
theorem dX11_look_153 : decode cX11_look 153 = .ok (.iload 7, 2) := by decide +kernel
theorem dX11_look_155 : decode cX11_look 155 = .ok (.bipush 20, 2) := by decide +kernel
theorem dX11_look_157 : decode cX11_look 157 = .ok (.if_icmp .gt 43, 3) := by decide +kernel
theorem dX11_look_160 : decode cX11_look 160 = .ok (.aload_n 0, 1) := by decide +kernel
theorem dX11_look_161 : decode cX11_look 161 = .ok (.getfield 81, 3) := by decide +kernel
theorem dX11_look_164 : decode cX11_look 164 = .ok (.iload 7, 2) := by decide +kernel
theorem dX11_look_166 : decode cX11_look 166 = .ok (.laload, 1) := by decide +kernel
theorem dX11_look_167 : decode cX11_look 167 = .ok (.invokestatic 480, 3) := by decide +kernel
theorem dX11_look_170 : decode cX11_look 170 = .ok (.iload 6, 2) := by decide +kernel
theorem dX11_look_172 : decode cX11_look 172 = .ok (.if_icmp .gt 6, 3) := by decide +kernel
theorem dX11_look_175 : decode cX11_look 175 = .ok (.goto 19, 3) := by decide +kernel
theorem dX11_look_178 : decode cX11_look 178 = .ok (.iload 7, 2) := by decide +kernel
theorem dX11_look_180 : decode cX11_look 180 = .ok (.istore 5, 2) := by decide +kernel
theorem dX11_look_182 : decode cX11_look 182 = .ok (.aload_n 0, 1) := by decide +kernel
theorem dX11_look_183 : decode cX11_look 183 = .ok (.getfield 81, 3) := by decide +kernel
theorem dX11_look_186 : decode cX11_look 186 = .ok (.iload 7, 2) := by decide +kernel
theorem dX11_look_188 : decode cX11_look 188 = .ok (.laload, 1) := by decide +kernel
theorem dX11_look_189 : decode cX11_look 189 = .ok (.invokestatic 480, 3) := by decide +kernel
theorem dX11_look_192 : decode cX11_look 192 = .ok (.istore 6, 2) := by decide +kernel
theorem dX11_look_194 : decode cX11_look 194 = .ok (.iinc 7 1, 3) := by decide +kernel
theorem dX11_look_197 : decode cX11_look 197 = .ok (.goto (-44), 3) := by decide +kernel
theorem dX11_look_200 : decode cX11_look 200 = .ok (.iload 4, 2) := by decide +kernel
theorem dX11_look_202 : decode cX11_look 202 = .ok (.ifCond .ne 8, 3) := by decide +kernel
theorem dX11_look_205 : decode cX11_look 205 = .ok (.iload 5, 2) := by decide +kernel
theorem dX11_look_207 : decode cX11_look 207 = .ok (.goto 5, 3) := by decide +kernel
theorem dX11_look_210 : decode cX11_look 210 = .ok (.iload 6, 2) := by decide +kernel
theorem dX11_look_212 : decode cX11_look 212 = .ok (.ireturn, 1) := by decide +kernel
theorem dX11_forget_0 : decode cX11_forget 0 = .ok (.aload_n 0, 1) := by decide +kernel
theorem dX11_forget_1 : decode cX11_forget 1 = .ok (.iconst 0, 1) := by decide +kernel
theorem dX11_forget_2 : decode cX11_forget 2 = .ok (.putfield 88, 3) := by decide +kernel
theorem dX11_forget_5 : decode cX11_forget 5 = .ok (.aload_n 0, 1) := by decide +kernel
theorem dX11_forget_6 : decode cX11_forget 6 = .ok (.iconst 0, 1) := by decide +kernel
theorem dX11_forget_7 : decode cX11_forget 7 = .ok (.putfield 346, 3) := by decide +kernel
theorem dX11_forget_10 : decode cX11_forget 10 = .ok (.return_, 1) := by decide +kernel
theorem dX11_dirt_0 : decode cX11_dirt 0 = .ok (.aload_n 0, 1) := by decide +kernel
theorem dX11_dirt_1 : decode cX11_dirt 1 = .ok (.iconst 0, 1) := by decide +kernel
theorem dX11_dirt_2 : decode cX11_dirt 2 = .ok (.putfield 88, 3) := by decide +kernel
theorem dX11_dirt_5 : decode cX11_dirt 5 = .ok (.aload_n 0, 1) := by decide +kernel
theorem dX11_dirt_6 : decode cX11_dirt 6 = .ok (.iload_n 1, 1) := by decide +kernel
theorem dX11_dirt_7 : decode cX11_dirt 7 = .ok (.iload_n 2, 1) := by decide +kernel
theorem dX11_dirt_8 : decode cX11_dirt 8 = .ok (.invokevirtual 430, 3) := by decide +kernel
theorem dX11_dirt_11 : decode cX11_dirt 11 = .ok (.ifCond .eq 36, 3) := by decide +kernel
theorem dX11_dirt_14 : decode cX11_dirt 14 = .ok (.aload_n 0, 1) := by decide +kernel
theorem dX11_dirt_15 : decode cX11_dirt 15 = .ok (.iload_n 3, 1) := by decide +kernel
theorem dX11_dirt_16 : decode cX11_dirt 16 = .ok (.iconst 1, 1) := by decide +kernel
theorem dX11_dirt_17 : decode cX11_dirt 17 = .ok (.iconst 4, 1) := by decide +kernel
theorem dX11_dirt_18 : decode cX11_dirt 18 = .ok (.invokestatic 286, 3) := by decide +kernel
theorem dX11_dirt_21 : decode cX11_dirt 21 = .ok (.ifCond .eq 18, 3) := by decide +kernel
theorem dX11_dirt_24 : decode cX11_dirt 24 = .ok (.iload 4, 2) := by decide +kernel
theorem dX11_dirt_26 : decode cX11_dirt 26 = .ok (.iconst 0, 1) := by decide +kernel
theorem dX11_dirt_27 : decode cX11_dirt 27 = .ok (.bipush 10, 2) := by decide +kernel
theorem dX11_dirt_29 : decode cX11_dirt 29 = .ok (.invokestatic 286, 3) := by decide +kernel
theorem dX11_dirt_32 : decode cX11_dirt 32 = .ok (.ifCond .eq 7, 3) := by decide +kernel
theorem dX11_dirt_35 : decode cX11_dirt 35 = .ok (.iconst 1, 1) := by decide +kernel
theorem dX11_dirt_36 : decode cX11_dirt 36 = .ok (.goto 4, 3) := by decide +kernel
theorem dX11_dirt_39 : decode cX11_dirt 39 = .ok (.iconst 0, 1) := by decide +kernel
theorem dX11_dirt_40 : decode cX11_dirt 40 = .ok (.iconst 2, 1) := by decide +kernel
theorem dX11_dirt_41 : decode cX11_dirt 41 = .ok (.invokevirtual 358, 3) := by decide +kernel
theorem dX11_dirt_44 : decode cX11_dirt 44 = .ok (.ifCond .ne 5, 3) := by decide +kernel
theorem dX11_dirt_47 : decode cX11_dirt 47 = .ok (.iconst 0, 1) := by decide +kernel
theorem dX11_dirt_48 : decode cX11_dirt 48 = .ok (.ireturn, 1) := by decide +kernel
theorem dX11_dirt_49 : decode cX11_dirt 49 = .ok (.aload_n 0, 1) := by decide +kernel
theorem dX11_dirt_50 : decode cX11_dirt 50 = .ok (.getfield 42, 3) := by decide +kernel
theorem dX11_dirt_53 : decode cX11_dirt 53 = .ok (.iload_n 1, 1) := by decide +kernel
theorem dX11_dirt_54 : decode cX11_dirt 54 = .ok (.iaload, 1) := by decide +kernel
theorem dX11_dirt_55 : decode cX11_dirt 55 = .ok (.iload_n 2, 1) := by decide +kernel
theorem dX11_dirt_56 : decode cX11_dirt 56 = .ok (.iadd, 1) := by decide +kernel
theorem dX11_dirt_57 : decode cX11_dirt 57 = .ok (.istore 6, 2) := by decide +kernel
theorem dX11_dirt_59 : decode cX11_dirt 59 = .ok (.iconst 0, 1) := by decide +kernel
theorem dX11_dirt_60 : decode cX11_dirt 60 = .ok (.istore 7, 2) := by decide +kernel
theorem dX11_dirt_62 : decode cX11_dirt 62 = .ok (.iconst 0, 1) := by decide +kernel
theorem dX11_dirt_63 : decode cX11_dirt 63 = .ok (.istore 8, 2) := by decide +kernel
theorem dX11_dirt_65 : decode cX11_dirt 65 = .ok (.iload 8, 2) := by decide +kernel
theorem dX11_dirt_67 : decode cX11_dirt 67 = .ok (.iconst 1, 1) := by decide +kernel
theorem dX11_dirt_68 : decode cX11_dirt 68 = .ok (.iload_n 3, 1) := by decide +kernel
theorem dX11_dirt_69 : decode cX11_dirt 69 = .ok (.ishl, 1) := by decide +kernel
theorem dX11_dirt_70 : decode cX11_dirt 70 = .ok (.if_icmp .ge 128, 3) := by decide +kernel
theorem dX11_dirt_73 : decode cX11_dirt 73 = .ok (.iconst 1, 1) := by decide +kernel
theorem dX11_dirt_74 : decode cX11_dirt 74 = .ok (.istore 9, 2) := by decide +kernel
theorem dX11_dirt_76 : decode cX11_dirt 76 = .ok (.aload_n 0, 1) := by decide +kernel
theorem dX11_dirt_77 : decode cX11_dirt 77 = .ok (.invokevirtual 448, 3) := by decide +kernel
theorem dX11_dirt_80 : decode cX11_dirt 80 = .ok (.iconst 0, 1) := by decide +kernel
theorem dX11_dirt_81 : decode cX11_dirt 81 = .ok (.istore 10, 2) := by decide +kernel
theorem dX11_dirt_83 : decode cX11_dirt 83 = .ok (.iload 10, 2) := by decide +kernel
theorem dX11_dirt_85 : decode cX11_dirt 85 = .ok (.iload_n 3, 1) := by decide +kernel
theorem dX11_dirt_86 : decode cX11_dirt 86 = .ok (.if_icmp .ge 87, 3) := by decide +kernel
theorem dX11_dirt_89 : decode cX11_dirt 89 = .ok (.iload 8, 2) := by decide +kernel
theorem dX11_dirt_91 : decode cX11_dirt 91 = .ok (.iload 10, 2) := by decide +kernel
theorem dX11_dirt_93 : decode cX11_dirt 93 = .ok (.ishr, 1) := by decide +kernel
theorem dX11_dirt_94 : decode cX11_dirt 94 = .ok (.iconst 1, 1) := by decide +kernel
theorem dX11_dirt_95 : decode cX11_dirt 95 = .ok (.iand, 1) := by decide +kernel
theorem dX11_dirt_96 : decode cX11_dirt 96 = .ok (.iconst 1, 1) := by decide +kernel
theorem dX11_dirt_97 : decode cX11_dirt 97 = .ok (.if_icmp .ne 7, 3) := by decide +kernel
theorem dX11_dirt_100 : decode cX11_dirt 100 = .ok (.iconst 1, 1) := by decide +kernel
theorem dX11_dirt_101 : decode cX11_dirt 101 = .ok (.goto 4, 3) := by decide +kernel
theorem dX11_dirt_104 : decode cX11_dirt 104 = .ok (.iconst 0, 1) := by decide +kernel
theorem dX11_dirt_105 : decode cX11_dirt 105 = .ok (.istore 11, 2) := by decide +kernel
theorem dX11_dirt_107 : decode cX11_dirt 107 = .ok (.iload 9, 2) := by decide +kernel
theorem dX11_dirt_109 : decode cX11_dirt 109 = .ok (.iload 11, 2) := by decide +kernel
theorem dX11_dirt_111 : decode cX11_dirt 111 = .ok (.ifCond .eq 8, 3) := by decide +kernel
theorem dX11_dirt_114 : decode cX11_dirt 114 = .ok (.iload 4, 2) := by decide +kernel
theorem dX11_dirt_116 : decode cX11_dirt 116 = .ok (.goto 8, 3) := by decide +kernel
theorem dX11_dirt_119 : decode cX11_dirt 119 = .ok (.bipush 10, 2) := by decide +kernel
theorem dX11_dirt_121 : decode cX11_dirt 121 = .ok (.iload 4, 2) := by decide +kernel
theorem dX11_dirt_123 : decode cX11_dirt 123 = .ok (.isub, 1) := by decide +kernel
theorem dX11_dirt_124 : decode cX11_dirt 124 = .ok (.imul, 1) := by decide +kernel
theorem dX11_dirt_125 : decode cX11_dirt 125 = .ok (.istore 9, 2) := by decide +kernel
theorem dX11_dirt_127 : decode cX11_dirt 127 = .ok (.iload 11, 2) := by decide +kernel
theorem dX11_dirt_129 : decode cX11_dirt 129 = .ok (.ifCond .eq 29, 3) := by decide +kernel
theorem dX11_dirt_132 : decode cX11_dirt 132 = .ok (.aload_n 0, 1) := by decide +kernel
theorem dX11_dirt_133 : decode cX11_dirt 133 = .ok (.sipush 1654, 3) := by decide +kernel
theorem dX11_dirt_136 : decode cX11_dirt 136 = .ok (.iload 6, 2) := by decide +kernel
theorem dX11_dirt_138 : decode cX11_dirt 138 = .ok (.iconst 0, 1) := by decide +kernel
theorem dX11_dirt_139 : decode cX11_dirt 139 = .ok (.aload_n 0, 1) := by decide +kernel
theorem dX11_dirt_140 : decode cX11_dirt 140 = .ok (.sipush 1654, 3) := by decide +kernel
theorem dX11_dirt_143 : decode cX11_dirt 143 = .ok (.iload 6, 2) := by decide +kernel
theorem dX11_dirt_145 : decode cX11_dirt 145 = .ok (.iconst 0, 1) := by decide +kernel
theorem dX11_dirt_146 : decode cX11_dirt 146 = .ok (.invokevirtual 117, 3) := by decide +kernel
theorem dX11_dirt_149 : decode cX11_dirt 149 = .ok (.iconst 1, 1) := by decide +kernel
theorem dX11_dirt_150 : decode cX11_dirt 150 = .ok (.iadd, 1) := by decide +kernel
theorem dX11_dirt_151 : decode cX11_dirt 151 = .ok (.bipush 16, 2) := by decide +kernel
theorem dX11_dirt_153 : decode cX11_dirt 153 = .ok (.irem, 1) := by decide +kernel
theorem dX11_dirt_154 : decode cX11_dirt 154 = .ok (.invokevirtual 386, 3) := by decide +kernel
theorem dX11_dirt_157 : decode cX11_dirt 157 = .ok (.pop, 1) := by decide +kernel
theorem dX11_dirt_158 : decode cX11_dirt 158 = .ok (.aload_n 0, 1) := by decide +kernel
theorem dX11_dirt_159 : decode cX11_dirt 159 = .ok (.sipush 1654, 3) := by decide +kernel
theorem dX11_dirt_162 : decode cX11_dirt 162 = .ok (.iconst 1, 1) := by decide +kernel
theorem dX11_dirt_163 : decode cX11_dirt 163 = .ok (.invokevirtual 389, 3) := by decide +kernel
theorem dX11_dirt_166 : decode cX11_dirt 166 = .ok (.pop, 1) := by decide +kernel
theorem dX11_dirt_167 : decode cX11_dirt 167 = .ok (.iinc 10 1, 3) := by decide +kernel
theorem dX11_dirt_170 : decode cX11_dirt 170 = .ok (.goto (-87), 3) := by decide +kernel
theorem dX11_dirt_173 : decode cX11_dirt 173 = .ok (.aload_n 0, 1) := by decide +kernel
theorem dX11_dirt_174 : decode cX11_dirt 174 = .ok (.sipush 1654, 3) := by decide +kernel
theorem dX11_dirt_177 : decode cX11_dirt 177 = .ok (.invokevirtual 403, 3) := by decide +kernel
theorem dX11_dirt_180 : decode cX11_dirt 180 = .ok (.iload 5, 2) := by decide +kernel
theorem dX11_dirt_182 : decode cX11_dirt 182 = .ok (.if_icmp .gt 10, 3) := by decide +kernel
theorem dX11_dirt_185 : decode cX11_dirt 185 = .ok (.iload 7, 2) := by decide +kernel
theorem dX11_dirt_187 : decode cX11_dirt 187 = .ok (.iload 9, 2) := by decide +kernel
theorem dX11_dirt_189 : decode cX11_dirt 189 = .ok (.iadd, 1) := by decide +kernel
theorem dX11_dirt_190 : decode cX11_dirt 190 = .ok (.istore 7, 2) := by decide +kernel
theorem dX11_dirt_192 : decode cX11_dirt 192 = .ok (.iinc 8 1, 3) := by decide +kernel
theorem dX11_dirt_195 : decode cX11_dirt 195 = .ok (.goto (-130), 3) := by decide +kernel
theorem dX11_dirt_198 : decode cX11_dirt 198 = .ok (.iload 7, 2) := by decide +kernel
theorem dX11_dirt_200 : decode cX11_dirt 200 = .ok (.ireturn, 1) := by decide +kernel
theorem dX11_draw_0 : decode cX11_draw 0 = .ok (.aload_n 0, 1) := by decide +kernel
theorem dX11_draw_1 : decode cX11_draw 1 = .ok (.aload_n 0, 1) := by decide +kernel
theorem dX11_draw_2 : decode cX11_draw 2 = .ok (.getfield 484, 3) := by decide +kernel
theorem dX11_draw_5 : decode cX11_draw 5 = .ok (.ldc_w 487, 3) := by decide +kernel
theorem dX11_draw_8 : decode cX11_draw 8 = .ok (.imul, 1) := by decide +kernel
theorem dX11_draw_9 : decode cX11_draw 9 = .ok (.sipush 12345, 3) := by decide +kernel
theorem dX11_draw_12 : decode cX11_draw 12 = .ok (.iadd, 1) := by decide +kernel
theorem dX11_draw_13 : decode cX11_draw 13 = .ok (.putfield 484, 3) := by decide +kernel
theorem dX11_draw_16 : decode cX11_draw 16 = .ok (.aload_n 0, 1) := by decide +kernel
theorem dX11_draw_17 : decode cX11_draw 17 = .ok (.getfield 484, 3) := by decide +kernel
theorem dX11_draw_20 : decode cX11_draw 20 = .ok (.bipush 16, 2) := by decide +kernel
theorem dX11_draw_22 : decode cX11_draw 22 = .ok (.ishr, 1) := by decide +kernel
theorem dX11_draw_23 : decode cX11_draw 23 = .ok (.sipush 32767, 3) := by decide +kernel
theorem dX11_draw_26 : decode cX11_draw 26 = .ok (.iand, 1) := by decide +kernel
theorem dX11_draw_27 : decode cX11_draw 27 = .ok (.iload_n 1, 1) := by decide +kernel
theorem dX11_draw_28 : decode cX11_draw 28 = .ok (.irem, 1) := by decide +kernel
theorem dX11_draw_29 : decode cX11_draw 29 = .ok (.ireturn, 1) := by decide +kernel
theorem dX11_fails_0 : decode cX11_fails 0 = .ok (.aload_n 0, 1) := by decide +kernel
theorem dX11_fails_1 : decode cX11_fails 1 = .ok (.iconst 4, 1) := by decide +kernel
theorem dX11_fails_2 : decode cX11_fails 2 = .ok (.invokevirtual 488, 3) := by decide +kernel
theorem dX11_fails_5 : decode cX11_fails 5 = .ok (.istore_n 1, 1) := by decide +kernel
theorem dX11_fails_6 : decode cX11_fails 6 = .ok (.iload_n 1, 1) := by decide +kernel
theorem dX11_fails_7 : decode cX11_fails 7 = .ok (.iconst 3, 1) := by decide +kernel
theorem dX11_fails_8 : decode cX11_fails 8 = .ok (.if_icmp .eq 10, 3) := by decide +kernel
theorem dX11_fails_11 : decode cX11_fails 11 = .ok (.aload_n 0, 1) := by decide +kernel
theorem dX11_fails_12 : decode cX11_fails 12 = .ok (.getfield 178, 3) := by decide +kernel
theorem dX11_fails_15 : decode cX11_fails 15 = .ok (.ifCond .ne 5, 3) := by decide +kernel
theorem dX11_fails_18 : decode cX11_fails 18 = .ok (.iconst 0, 1) := by decide +kernel
theorem dX11_fails_19 : decode cX11_fails 19 = .ok (.ireturn, 1) := by decide +kernel
theorem dX11_fails_20 : decode cX11_fails 20 = .ok (.aload_n 0, 1) := by decide +kernel
theorem dX11_fails_21 : decode cX11_fails 21 = .ok (.aload_n 0, 1) := by decide +kernel
theorem dX11_fails_22 : decode cX11_fails 22 = .ok (.getfield 178, 3) := by decide +kernel
theorem dX11_fails_25 : decode cX11_fails 25 = .ok (.invokevirtual 488, 3) := by decide +kernel
theorem dX11_fails_28 : decode cX11_fails 28 = .ok (.istore_n 2, 1) := by decide +kernel
theorem dX11_fails_29 : decode cX11_fails 29 = .ok (.iload_n 1, 1) := by decide +kernel
theorem dX11_fails_30 : decode cX11_fails 30 = .ok (.ifCond .ne 33, 3) := by decide +kernel
theorem dX11_fails_33 : decode cX11_fails 33 = .ok (.aload_n 0, 1) := by decide +kernel
theorem dX11_fails_34 : decode cX11_fails 34 = .ok (.iconst 4, 1) := by decide +kernel
theorem dX11_fails_35 : decode cX11_fails 35 = .ok (.invokevirtual 488, 3) := by decide +kernel
theorem dX11_fails_38 : decode cX11_fails 38 = .ok (.istore_n 3, 1) := by decide +kernel
theorem dX11_fails_39 : decode cX11_fails 39 = .ok (.aload_n 0, 1) := by decide +kernel
theorem dX11_fails_40 : decode cX11_fails 40 = .ok (.sipush 1654, 3) := by decide +kernel
theorem dX11_fails_43 : decode cX11_fails 43 = .ok (.iload_n 2, 1) := by decide +kernel
theorem dX11_fails_44 : decode cX11_fails 44 = .ok (.iload_n 3, 1) := by decide +kernel
theorem dX11_fails_45 : decode cX11_fails 45 = .ok (.aload_n 0, 1) := by decide +kernel
theorem dX11_fails_46 : decode cX11_fails 46 = .ok (.iconst 4, 1) := by decide +kernel
theorem dX11_fails_47 : decode cX11_fails 47 = .ok (.invokevirtual 488, 3) := by decide +kernel
theorem dX11_fails_50 : decode cX11_fails 50 = .ok (.invokevirtual 386, 3) := by decide +kernel
theorem dX11_fails_53 : decode cX11_fails 53 = .ok (.iconst (-1), 1) := by decide +kernel
theorem dX11_fails_54 : decode cX11_fails 54 = .ok (.if_icmp .ne 7, 3) := by decide +kernel
theorem dX11_fails_57 : decode cX11_fails 57 = .ok (.iconst 1, 1) := by decide +kernel
theorem dX11_fails_58 : decode cX11_fails 58 = .ok (.goto 4, 3) := by decide +kernel
theorem dX11_fails_61 : decode cX11_fails 61 = .ok (.iconst 0, 1) := by decide +kernel
theorem dX11_fails_62 : decode cX11_fails 62 = .ok (.ireturn, 1) := by decide +kernel
theorem dX11_fails_63 : decode cX11_fails 63 = .ok (.iload_n 1, 1) := by decide +kernel
theorem dX11_fails_64 : decode cX11_fails 64 = .ok (.iconst 1, 1) := by decide +kernel
theorem dX11_fails_65 : decode cX11_fails 65 = .ok (.if_icmp .ne 36, 3) := by decide +kernel
theorem dX11_fails_68 : decode cX11_fails 68 = .ok (.aload_n 0, 1) := by decide +kernel
theorem dX11_fails_69 : decode cX11_fails 69 = .ok (.sipush 1654, 3) := by decide +kernel
theorem dX11_fails_72 : decode cX11_fails 72 = .ok (.aload_n 0, 1) := by decide +kernel
theorem dX11_fails_73 : decode cX11_fails 73 = .ok (.aload_n 0, 1) := by decide +kernel
theorem dX11_fails_74 : decode cX11_fails 74 = .ok (.getfield 178, 3) := by decide +kernel
theorem dX11_fails_77 : decode cX11_fails 77 = .ok (.invokevirtual 488, 3) := by decide +kernel
theorem dX11_fails_80 : decode cX11_fails 80 = .ok (.invokevirtual 162, 3) := by decide +kernel
theorem dX11_fails_83 : decode cX11_fails 83 = .ok (.aload_n 0, 1) := by decide +kernel
theorem dX11_fails_84 : decode cX11_fails 84 = .ok (.sipush 1654, 3) := by decide +kernel
theorem dX11_fails_87 : decode cX11_fails 87 = .ok (.iload_n 2, 1) := by decide +kernel
theorem dX11_fails_88 : decode cX11_fails 88 = .ok (.invokevirtual 165, 3) := by decide +kernel
theorem dX11_fails_91 : decode cX11_fails 91 = .ok (.iconst (-1), 1) := by decide +kernel
theorem dX11_fails_92 : decode cX11_fails 92 = .ok (.if_icmp .ne 7, 3) := by decide +kernel
theorem dX11_fails_95 : decode cX11_fails 95 = .ok (.iconst 1, 1) := by decide +kernel
theorem dX11_fails_96 : decode cX11_fails 96 = .ok (.goto 4, 3) := by decide +kernel
theorem dX11_fails_99 : decode cX11_fails 99 = .ok (.iconst 0, 1) := by decide +kernel
theorem dX11_fails_100 : decode cX11_fails 100 = .ok (.ireturn, 1) := by decide +kernel
theorem dX11_fails_101 : decode cX11_fails 101 = .ok (.aload_n 0, 1) := by decide +kernel
theorem dX11_fails_102 : decode cX11_fails 102 = .ok (.sipush 1654, 3) := by decide +kernel
theorem dX11_fails_105 : decode cX11_fails 105 = .ok (.iload_n 2, 1) := by decide +kernel
theorem dX11_fails_106 : decode cX11_fails 106 = .ok (.invokevirtual 228, 3) := by decide +kernel
theorem dX11_fails_109 : decode cX11_fails 109 = .ok (.pop, 1) := by decide +kernel
theorem dX11_fails_110 : decode cX11_fails 110 = .ok (.iconst 0, 1) := by decide +kernel
theorem dX11_fails_111 : decode cX11_fails 111 = .ok (.ireturn, 1) := by decide +kernel
theorem dX11_years_0 : decode cX11_years 0 = .ok (.aload_n 0, 1) := by decide +kernel
theorem dX11_years_1 : decode cX11_years 1 = .ok (.iconst 0, 1) := by decide +kernel
theorem dX11_years_2 : decode cX11_years 2 = .ok (.putfield 88, 3) := by decide +kernel
theorem dX11_years_5 : decode cX11_years 5 = .ok (.aload_n 0, 1) := by decide +kernel
theorem dX11_years_6 : decode cX11_years 6 = .ok (.iload_n 3, 1) := by decide +kernel
theorem dX11_years_7 : decode cX11_years 7 = .ok (.iconst 0, 1) := by decide +kernel
theorem dX11_years_8 : decode cX11_years 8 = .ok (.iconst 2, 1) := by decide +kernel
theorem dX11_years_9 : decode cX11_years 9 = .ok (.invokestatic 286, 3) := by decide +kernel
theorem dX11_years_12 : decode cX11_years 12 = .ok (.iconst 1, 1) := by decide +kernel
theorem dX11_years_13 : decode cX11_years 13 = .ok (.invokevirtual 358, 3) := by decide +kernel
theorem dX11_years_16 : decode cX11_years 16 = .ok (.ifCond .eq 18, 3) := by decide +kernel
theorem dX11_years_19 : decode cX11_years 19 = .ok (.aload_n 0, 1) := by decide +kernel
theorem dX11_years_20 : decode cX11_years 20 = .ok (.iload_n 2, 1) := by decide +kernel
theorem dX11_years_21 : decode cX11_years 21 = .ok (.iconst 0, 1) := by decide +kernel
theorem dX11_years_22 : decode cX11_years 22 = .ok (.bipush 60, 2) := by decide +kernel
theorem dX11_years_24 : decode cX11_years 24 = .ok (.invokestatic 286, 3) := by decide +kernel
theorem dX11_years_27 : decode cX11_years 27 = .ok (.iconst 2, 1) := by decide +kernel
theorem dX11_years_28 : decode cX11_years 28 = .ok (.invokevirtual 358, 3) := by decide +kernel
theorem dX11_years_31 : decode cX11_years 31 = .ok (.ifCond .ne 5, 3) := by decide +kernel
theorem dX11_years_34 : decode cX11_years 34 = .ok (.iconst 0, 1) := by decide +kernel
theorem dX11_years_35 : decode cX11_years 35 = .ok (.ireturn, 1) := by decide +kernel
theorem dX11_years_36 : decode cX11_years 36 = .ok (.aload_n 0, 1) := by decide +kernel
theorem dX11_years_37 : decode cX11_years 37 = .ok (.invokevirtual 448, 3) := by decide +kernel
theorem dX11_years_40 : decode cX11_years 40 = .ok (.aload_n 0, 1) := by decide +kernel
theorem dX11_years_41 : decode cX11_years 41 = .ok (.iload_n 1, 1) := by decide +kernel
theorem dX11_years_42 : decode cX11_years 42 = .ok (.putfield 484, 3) := by decide +kernel
theorem dX11_years_45 : decode cX11_years 45 = .ok (.iconst 0, 1) := by decide +kernel
theorem dX11_years_46 : decode cX11_years 46 = .ok (.istore 4, 2) := by decide +kernel
theorem dX11_years_48 : decode cX11_years 48 = .ok (.iconst 0, 1) := by decide +kernel
theorem dX11_years_49 : decode cX11_years 49 = .ok (.istore 5, 2) := by decide +kernel
theorem dX11_years_51 : decode cX11_years 51 = .ok (.iconst 0, 1) := by decide +kernel
theorem dX11_years_52 : decode cX11_years 52 = .ok (.istore 6, 2) := by decide +kernel
theorem dX11_years_54 : decode cX11_years 54 = .ok (.iload 6, 2) := by decide +kernel
theorem dX11_years_56 : decode cX11_years 56 = .ok (.iload_n 2, 1) := by decide +kernel
theorem dX11_years_57 : decode cX11_years 57 = .ok (.if_icmp .ge 39, 3) := by decide +kernel
theorem dX11_years_60 : decode cX11_years 60 = .ok (.iload 5, 2) := by decide +kernel
theorem dX11_years_62 : decode cX11_years 62 = .ok (.aload_n 0, 1) := by decide +kernel
theorem dX11_years_63 : decode cX11_years 63 = .ok (.invokevirtual 491, 3) := by decide +kernel
theorem dX11_years_66 : decode cX11_years 66 = .ok (.ifCond .eq 7, 3) := by decide +kernel
theorem dX11_years_69 : decode cX11_years 69 = .ok (.iconst 1, 1) := by decide +kernel
theorem dX11_years_70 : decode cX11_years 70 = .ok (.goto 4, 3) := by decide +kernel
theorem dX11_years_73 : decode cX11_years 73 = .ok (.iconst 0, 1) := by decide +kernel
theorem dX11_years_74 : decode cX11_years 74 = .ok (.iadd, 1) := by decide +kernel
theorem dX11_years_75 : decode cX11_years 75 = .ok (.istore 5, 2) := by decide +kernel
theorem dX11_years_77 : decode cX11_years 77 = .ok (.iload 4, 2) := by decide +kernel
theorem dX11_years_79 : decode cX11_years 79 = .ok (.aload_n 0, 1) := by decide +kernel
theorem dX11_years_80 : decode cX11_years 80 = .ok (.sipush 1654, 3) := by decide +kernel
theorem dX11_years_83 : decode cX11_years 83 = .ok (.iconst 1, 1) := by decide +kernel
theorem dX11_years_84 : decode cX11_years 84 = .ok (.invokevirtual 389, 3) := by decide +kernel
theorem dX11_years_87 : decode cX11_years 87 = .ok (.iadd, 1) := by decide +kernel
theorem dX11_years_88 : decode cX11_years 88 = .ok (.istore 4, 2) := by decide +kernel
theorem dX11_years_90 : decode cX11_years 90 = .ok (.iinc 6 1, 3) := by decide +kernel
theorem dX11_years_93 : decode cX11_years 93 = .ok (.goto (-39), 3) := by decide +kernel
theorem dX11_years_96 : decode cX11_years 96 = .ok (.iload_n 3, 1) := by decide +kernel
theorem dX11_years_97 : decode cX11_years 97 = .ok (.ifCond .ne 8, 3) := by decide +kernel
theorem dX11_years_100 : decode cX11_years 100 = .ok (.iload 4, 2) := by decide +kernel
theorem dX11_years_102 : decode cX11_years 102 = .ok (.goto 20, 3) := by decide +kernel
theorem dX11_years_105 : decode cX11_years 105 = .ok (.iload_n 3, 1) := by decide +kernel
theorem dX11_years_106 : decode cX11_years 106 = .ok (.iconst 1, 1) := by decide +kernel
theorem dX11_years_107 : decode cX11_years 107 = .ok (.if_icmp .ne 13, 3) := by decide +kernel
theorem dX11_years_110 : decode cX11_years 110 = .ok (.aload_n 0, 1) := by decide +kernel
theorem dX11_years_111 : decode cX11_years 111 = .ok (.sipush 1654, 3) := by decide +kernel
theorem dX11_years_114 : decode cX11_years 114 = .ok (.invokevirtual 403, 3) := by decide +kernel
theorem dX11_years_117 : decode cX11_years 117 = .ok (.goto 5, 3) := by decide +kernel
theorem dX11_years_120 : decode cX11_years 120 = .ok (.iload 5, 2) := by decide +kernel
theorem dX11_years_122 : decode cX11_years 122 = .ok (.ireturn, 1) := by decide +kernel
theorem dX11_image_0 : decode cX11_image 0 = .ok (.aload_n 0, 1) := by decide +kernel
theorem dX11_image_1 : decode cX11_image 1 = .ok (.iconst 0, 1) := by decide +kernel
theorem dX11_image_2 : decode cX11_image 2 = .ok (.putfield 88, 3) := by decide +kernel
theorem dX11_image_5 : decode cX11_image 5 = .ok (.aload_n 0, 1) := by decide +kernel
theorem dX11_image_6 : decode cX11_image 6 = .ok (.iconst 0, 1) := by decide +kernel
theorem dX11_image_7 : decode cX11_image 7 = .ok (.ldc_w 494, 3) := by decide +kernel
theorem dX11_image_10 : decode cX11_image 10 = .ok (.sipush 1654, 3) := by decide +kernel
theorem dX11_image_13 : decode cX11_image 13 = .ok (.invokevirtual 394, 3) := by decide +kernel
theorem dX11_image_16 : decode cX11_image 16 = .ok (.aload_n 0, 1) := by decide +kernel
theorem dX11_image_17 : decode cX11_image 17 = .ok (.sipush 3308, 3) := by decide +kernel
theorem dX11_image_20 : decode cX11_image 20 = .ok (.ldc_w 495, 3) := by decide +kernel
theorem dX11_image_23 : decode cX11_image 23 = .ok (.ldc_w 496, 3) := by decide +kernel
theorem dX11_image_26 : decode cX11_image 26 = .ok (.invokevirtual 394, 3) := by decide +kernel
theorem dX11_image_29 : decode cX11_image 29 = .ok (.aload_n 0, 1) := by decide +kernel
theorem dX11_image_30 : decode cX11_image 30 = .ok (.aload_n 0, 1) := by decide +kernel
theorem dX11_image_31 : decode cX11_image 31 = .ok (.getfield 352, 3) := by decide +kernel
theorem dX11_image_34 : decode cX11_image 34 = .ok (.putfield 497, 3) := by decide +kernel
theorem dX11_image_37 : decode cX11_image 37 = .ok (.aload_n 0, 1) := by decide +kernel
theorem dX11_image_38 : decode cX11_image 38 = .ok (.aload_n 0, 1) := by decide +kernel
theorem dX11_image_39 : decode cX11_image 39 = .ok (.getfield 349, 3) := by decide +kernel
theorem dX11_image_42 : decode cX11_image 42 = .ok (.putfield 500, 3) := by decide +kernel
theorem dX11_image_45 : decode cX11_image 45 = .ok (.aload_n 0, 1) := by decide +kernel
theorem dX11_image_46 : decode cX11_image 46 = .ok (.aload_n 0, 1) := by decide +kernel
theorem dX11_image_47 : decode cX11_image 47 = .ok (.getfield 346, 3) := by decide +kernel
theorem dX11_image_50 : decode cX11_image 50 = .ok (.putfield 503, 3) := by decide +kernel
theorem dX11_image_53 : decode cX11_image 53 = .ok (.iconst 0, 1) := by decide +kernel
theorem dX11_image_54 : decode cX11_image 54 = .ok (.istore_n 1, 1) := by decide +kernel
theorem dX11_image_55 : decode cX11_image 55 = .ok (.iload_n 1, 1) := by decide +kernel
theorem dX11_image_56 : decode cX11_image 56 = .ok (.bipush 8, 2) := by decide +kernel
theorem dX11_image_58 : decode cX11_image 58 = .ok (.if_icmp .ge 39, 3) := by decide +kernel
theorem dX11_image_61 : decode cX11_image 61 = .ok (.aload_n 0, 1) := by decide +kernel
theorem dX11_image_62 : decode cX11_image 62 = .ok (.getfield 14, 3) := by decide +kernel
theorem dX11_image_65 : decode cX11_image 65 = .ok (.bipush 8, 2) := by decide +kernel
theorem dX11_image_67 : decode cX11_image 67 = .ok (.iload_n 1, 1) := by decide +kernel
theorem dX11_image_68 : decode cX11_image 68 = .ok (.iadd, 1) := by decide +kernel
theorem dX11_image_69 : decode cX11_image 69 = .ok (.aload_n 0, 1) := by decide +kernel
theorem dX11_image_70 : decode cX11_image 70 = .ok (.getfield 14, 3) := by decide +kernel
theorem dX11_image_73 : decode cX11_image 73 = .ok (.iload_n 1, 1) := by decide +kernel
theorem dX11_image_74 : decode cX11_image 74 = .ok (.iaload, 1) := by decide +kernel
theorem dX11_image_75 : decode cX11_image 75 = .ok (.iastore, 1) := by decide +kernel
theorem dX11_image_76 : decode cX11_image 76 = .ok (.aload_n 0, 1) := by decide +kernel
theorem dX11_image_77 : decode cX11_image 77 = .ok (.getfield 17, 3) := by decide +kernel
theorem dX11_image_80 : decode cX11_image 80 = .ok (.bipush 8, 2) := by decide +kernel
theorem dX11_image_82 : decode cX11_image 82 = .ok (.iload_n 1, 1) := by decide +kernel
theorem dX11_image_83 : decode cX11_image 83 = .ok (.iadd, 1) := by decide +kernel
theorem dX11_image_84 : decode cX11_image 84 = .ok (.aload_n 0, 1) := by decide +kernel
theorem dX11_image_85 : decode cX11_image 85 = .ok (.getfield 17, 3) := by decide +kernel
theorem dX11_image_88 : decode cX11_image 88 = .ok (.iload_n 1, 1) := by decide +kernel
theorem dX11_image_89 : decode cX11_image 89 = .ok (.iaload, 1) := by decide +kernel
theorem dX11_image_90 : decode cX11_image 90 = .ok (.iastore, 1) := by decide +kernel
theorem dX11_image_91 : decode cX11_image 91 = .ok (.iinc 1 1, 3) := by decide +kernel
theorem dX11_image_94 : decode cX11_image 94 = .ok (.goto (-39), 3) := by decide +kernel
theorem dX11_image_97 : decode cX11_image 97 = .ok (.iconst 0, 1) := by decide +kernel
theorem dX11_image_98 : decode cX11_image 98 = .ok (.istore_n 1, 1) := by decide +kernel
theorem dX11_image_99 : decode cX11_image 99 = .ok (.iload_n 1, 1) := by decide +kernel
theorem dX11_image_100 : decode cX11_image 100 = .ok (.iconst 3, 1) := by decide +kernel
theorem dX11_image_101 : decode cX11_image 101 = .ok (.if_icmp .ge 23, 3) := by decide +kernel
theorem dX11_image_104 : decode cX11_image 104 = .ok (.aload_n 0, 1) := by decide +kernel
theorem dX11_image_105 : decode cX11_image 105 = .ok (.getfield 20, 3) := by decide +kernel
theorem dX11_image_108 : decode cX11_image 108 = .ok (.iconst 3, 1) := by decide +kernel
theorem dX11_image_109 : decode cX11_image 109 = .ok (.iload_n 1, 1) := by decide +kernel
theorem dX11_image_110 : decode cX11_image 110 = .ok (.iadd, 1) := by decide +kernel
theorem dX11_image_111 : decode cX11_image 111 = .ok (.aload_n 0, 1) := by decide +kernel
theorem dX11_image_112 : decode cX11_image 112 = .ok (.getfield 20, 3) := by decide +kernel
theorem dX11_image_115 : decode cX11_image 115 = .ok (.iload_n 1, 1) := by decide +kernel
theorem dX11_image_116 : decode cX11_image 116 = .ok (.iaload, 1) := by decide +kernel
theorem dX11_image_117 : decode cX11_image 117 = .ok (.iastore, 1) := by decide +kernel
theorem dX11_image_118 : decode cX11_image 118 = .ok (.iinc 1 1, 3) := by decide +kernel
theorem dX11_image_121 : decode cX11_image 121 = .ok (.goto (-22), 3) := by decide +kernel
theorem dX11_image_124 : decode cX11_image 124 = .ok (.aload_n 0, 1) := by decide +kernel
theorem dX11_image_125 : decode cX11_image 125 = .ok (.iconst 1, 1) := by decide +kernel
theorem dX11_image_126 : decode cX11_image 126 = .ok (.putfield 343, 3) := by decide +kernel
theorem dX11_image_129 : decode cX11_image 129 = .ok (.return_, 1) := by decide +kernel
theorem dX11_restore_0 : decode cX11_restore 0 = .ok (.aload_n 0, 1) := by decide +kernel
theorem dX11_restore_1 : decode cX11_restore 1 = .ok (.iconst 0, 1) := by decide +kernel
theorem dX11_restore_2 : decode cX11_restore 2 = .ok (.putfield 88, 3) := by decide +kernel
theorem dX11_restore_5 : decode cX11_restore 5 = .ok (.aload_n 0, 1) := by decide +kernel
theorem dX11_restore_6 : decode cX11_restore 6 = .ok (.getfield 343, 3) := by decide +kernel
theorem dX11_restore_9 : decode cX11_restore 9 = .ok (.ifCond .ne 5, 3) := by decide +kernel
theorem dX11_restore_12 : decode cX11_restore 12 = .ok (.iconst 0, 1) := by decide +kernel
theorem dX11_restore_13 : decode cX11_restore 13 = .ok (.ireturn, 1) := by decide +kernel
theorem dX11_restore_14 : decode cX11_restore 14 = .ok (.aload_n 0, 1) := by decide +kernel
theorem dX11_restore_15 : decode cX11_restore 15 = .ok (.ldc_w 494, 3) := by decide +kernel
theorem dX11_restore_18 : decode cX11_restore 18 = .ok (.iconst 0, 1) := by decide +kernel
theorem dX11_restore_19 : decode cX11_restore 19 = .ok (.sipush 1654, 3) := by decide +kernel
theorem dX11_restore_22 : decode cX11_restore 22 = .ok (.invokevirtual 394, 3) := by decide +kernel
theorem dX11_restore_25 : decode cX11_restore 25 = .ok (.aload_n 0, 1) := by decide +kernel
theorem dX11_restore_26 : decode cX11_restore 26 = .ok (.ldc_w 495, 3) := by decide +kernel
theorem dX11_restore_29 : decode cX11_restore 29 = .ok (.sipush 3308, 3) := by decide +kernel
theorem dX11_restore_32 : decode cX11_restore 32 = .ok (.ldc_w 496, 3) := by decide +kernel
theorem dX11_restore_35 : decode cX11_restore 35 = .ok (.invokevirtual 394, 3) := by decide +kernel
theorem dX11_restore_38 : decode cX11_restore 38 = .ok (.aload_n 0, 1) := by decide +kernel
theorem dX11_restore_39 : decode cX11_restore 39 = .ok (.aload_n 0, 1) := by decide +kernel
theorem dX11_restore_40 : decode cX11_restore 40 = .ok (.getfield 497, 3) := by decide +kernel
theorem dX11_restore_43 : decode cX11_restore 43 = .ok (.putfield 352, 3) := by decide +kernel
theorem dX11_restore_46 : decode cX11_restore 46 = .ok (.aload_n 0, 1) := by decide +kernel
theorem dX11_restore_47 : decode cX11_restore 47 = .ok (.aload_n 0, 1) := by decide +kernel
theorem dX11_restore_48 : decode cX11_restore 48 = .ok (.getfield 500, 3) := by decide +kernel
theorem dX11_restore_51 : decode cX11_restore 51 = .ok (.putfield 349, 3) := by decide +kernel
theorem dX11_restore_54 : decode cX11_restore 54 = .ok (.aload_n 0, 1) := by decide +kernel
theorem dX11_restore_55 : decode cX11_restore 55 = .ok (.aload_n 0, 1) := by decide +kernel
theorem dX11_restore_56 : decode cX11_restore 56 = .ok (.getfield 503, 3) := by decide +kernel
theorem dX11_restore_59 : decode cX11_restore 59 = .ok (.putfield 346, 3) := by decide +kernel
theorem dX11_restore_62 : decode cX11_restore 62 = .ok (.iconst 0, 1) := by decide +kernel
theorem dX11_restore_63 : decode cX11_restore 63 = .ok (.istore_n 1, 1) := by decide +kernel
theorem dX11_restore_64 : decode cX11_restore 64 = .ok (.iload_n 1, 1) := by decide +kernel
theorem dX11_restore_65 : decode cX11_restore 65 = .ok (.bipush 8, 2) := by decide +kernel
theorem dX11_restore_67 : decode cX11_restore 67 = .ok (.if_icmp .ge 39, 3) := by decide +kernel
theorem dX11_restore_70 : decode cX11_restore 70 = .ok (.aload_n 0, 1) := by decide +kernel
theorem dX11_restore_71 : decode cX11_restore 71 = .ok (.getfield 14, 3) := by decide +kernel
theorem dX11_restore_74 : decode cX11_restore 74 = .ok (.iload_n 1, 1) := by decide +kernel
theorem dX11_restore_75 : decode cX11_restore 75 = .ok (.aload_n 0, 1) := by decide +kernel
theorem dX11_restore_76 : decode cX11_restore 76 = .ok (.getfield 14, 3) := by decide +kernel
theorem dX11_restore_79 : decode cX11_restore 79 = .ok (.bipush 8, 2) := by decide +kernel
theorem dX11_restore_81 : decode cX11_restore 81 = .ok (.iload_n 1, 1) := by decide +kernel
theorem dX11_restore_82 : decode cX11_restore 82 = .ok (.iadd, 1) := by decide +kernel
theorem dX11_restore_83 : decode cX11_restore 83 = .ok (.iaload, 1) := by decide +kernel
theorem dX11_restore_84 : decode cX11_restore 84 = .ok (.iastore, 1) := by decide +kernel
theorem dX11_restore_85 : decode cX11_restore 85 = .ok (.aload_n 0, 1) := by decide +kernel
theorem dX11_restore_86 : decode cX11_restore 86 = .ok (.getfield 17, 3) := by decide +kernel
theorem dX11_restore_89 : decode cX11_restore 89 = .ok (.iload_n 1, 1) := by decide +kernel
theorem dX11_restore_90 : decode cX11_restore 90 = .ok (.aload_n 0, 1) := by decide +kernel
theorem dX11_restore_91 : decode cX11_restore 91 = .ok (.getfield 17, 3) := by decide +kernel
theorem dX11_restore_94 : decode cX11_restore 94 = .ok (.bipush 8, 2) := by decide +kernel
theorem dX11_restore_96 : decode cX11_restore 96 = .ok (.iload_n 1, 1) := by decide +kernel
theorem dX11_restore_97 : decode cX11_restore 97 = .ok (.iadd, 1) := by decide +kernel
theorem dX11_restore_98 : decode cX11_restore 98 = .ok (.iaload, 1) := by decide +kernel
theorem dX11_restore_99 : decode cX11_restore 99 = .ok (.iastore, 1) := by decide +kernel
theorem dX11_restore_100 : decode cX11_restore 100 = .ok (.iinc 1 1, 3) := by decide +kernel
theorem dX11_restore_103 : decode cX11_restore 103 = .ok (.goto (-39), 3) := by decide +kernel
theorem dX11_restore_106 : decode cX11_restore 106 = .ok (.iconst 0, 1) := by decide +kernel
theorem dX11_restore_107 : decode cX11_restore 107 = .ok (.istore_n 1, 1) := by decide +kernel
theorem dX11_restore_108 : decode cX11_restore 108 = .ok (.iload_n 1, 1) := by decide +kernel
theorem dX11_restore_109 : decode cX11_restore 109 = .ok (.iconst 3, 1) := by decide +kernel
theorem dX11_restore_110 : decode cX11_restore 110 = .ok (.if_icmp .ge 23, 3) := by decide +kernel
theorem dX11_restore_113 : decode cX11_restore 113 = .ok (.aload_n 0, 1) := by decide +kernel
theorem dX11_restore_114 : decode cX11_restore 114 = .ok (.getfield 20, 3) := by decide +kernel
theorem dX11_restore_117 : decode cX11_restore 117 = .ok (.iload_n 1, 1) := by decide +kernel
theorem dX11_restore_118 : decode cX11_restore 118 = .ok (.aload_n 0, 1) := by decide +kernel
theorem dX11_restore_119 : decode cX11_restore 119 = .ok (.getfield 20, 3) := by decide +kernel
theorem dX11_restore_122 : decode cX11_restore 122 = .ok (.iconst 3, 1) := by decide +kernel
theorem dX11_restore_123 : decode cX11_restore 123 = .ok (.iload_n 1, 1) := by decide +kernel
theorem dX11_restore_124 : decode cX11_restore 124 = .ok (.iadd, 1) := by decide +kernel
theorem dX11_restore_125 : decode cX11_restore 125 = .ok (.iaload, 1) := by decide +kernel
theorem dX11_restore_126 : decode cX11_restore 126 = .ok (.iastore, 1) := by decide +kernel
theorem dX11_restore_127 : decode cX11_restore 127 = .ok (.iinc 1 1, 3) := by decide +kernel
theorem dX11_restore_130 : decode cX11_restore 130 = .ok (.goto (-22), 3) := by decide +kernel
theorem dX11_restore_133 : decode cX11_restore 133 = .ok (.iconst 1, 1) := by decide +kernel
theorem dX11_restore_134 : decode cX11_restore 134 = .ok (.ireturn, 1) := by decide +kernel
