theorem dX11_endsRound_164 : decode cX11_endsRound 164 = .ok (.iconst 0, 1) := by decide +kernel
theorem dX11_endsRound_165 : decode cX11_endsRound 165 = .ok (.iastore, 1) := by decide +kernel
theorem dX11_endsRound_166 : decode cX11_endsRound 166 = .ok (.aload_n 0, 1) := by decide +kernel
theorem dX11_endsRound_167 : decode cX11_endsRound 167 = .ok (.getfield 10, 3) := by decide +kernel
theorem dX11_endsRound_170 : decode cX11_endsRound 170 = .ok (.iload_n 1, 1) := by decide +kernel
theorem dX11_endsRound_171 : decode cX11_endsRound 171 = .ok (.bipush 11, 2) := by decide +kernel
theorem dX11_endsRound_173 : decode cX11_endsRound 173 = .ok (.iadd, 1) := by decide +kernel
theorem dX11_endsRound_174 : decode cX11_endsRound 174 = .ok (.iconst 0, 1) := by decide +kernel
theorem dX11_endsRound_175 : decode cX11_endsRound 175 = .ok (.iastore, 1) := by decide +kernel
theorem dX11_endsRound_176 : decode cX11_endsRound 176 = .ok (.aload_n 0, 1) := by decide +kernel
theorem dX11_endsRound_177 : decode cX11_endsRound 177 = .ok (.getfield 10, 3) := by decide +kernel
theorem dX11_endsRound_180 : decode cX11_endsRound 180 = .ok (.iload_n 1, 1) := by decide +kernel
theorem dX11_endsRound_181 : decode cX11_endsRound 181 = .ok (.bipush 9, 2) := by decide +kernel
theorem dX11_endsRound_183 : decode cX11_endsRound 183 = .ok (.iadd, 1) := by decide +kernel
theorem dX11_endsRound_184 : decode cX11_endsRound 184 = .ok (.iconst 0, 1) := by decide +kernel
theorem dX11_endsRound_185 : decode cX11_endsRound 185 = .ok (.iastore, 1) := by decide +kernel
theorem dX11_endsRound_186 : decode cX11_endsRound 186 = .ok (.return_, 1) := by decide +kernel
theorem dX11_sumOf_0 : decode cX11_sumOf 0 = .ok (.sipush 343, 3) := by decide +kernel
theorem dX11_sumOf_3 : decode cX11_sumOf 3 = .ok (.aload_n 0, 1) := by decide +kernel
theorem dX11_sumOf_4 : decode cX11_sumOf 4 = .ok (.iload_n 1, 1) := by decide +kernel
theorem dX11_sumOf_5 : decode cX11_sumOf 5 = .ok (.iload_n 2, 1) := by decide +kernel
theorem dX11_sumOf_6 : decode cX11_sumOf 6 = .ok (.iconst 0, 1) := by decide +kernel
theorem dX11_sumOf_7 : decode cX11_sumOf 7 = .ok (.invokevirtual 117, 3) := by decide +kernel
theorem dX11_sumOf_10 : decode cX11_sumOf 10 = .ok (.imul, 1) := by decide +kernel
theorem dX11_sumOf_11 : decode cX11_sumOf 11 = .ok (.bipush 49, 2) := by decide +kernel
theorem dX11_sumOf_13 : decode cX11_sumOf 13 = .ok (.aload_n 0, 1) := by decide +kernel
theorem dX11_sumOf_14 : decode cX11_sumOf 14 = .ok (.iload_n 1, 1) := by decide +kernel
theorem dX11_sumOf_15 : decode cX11_sumOf 15 = .ok (.iload_n 2, 1) := by decide +kernel
theorem dX11_sumOf_16 : decode cX11_sumOf 16 = .ok (.iconst 1, 1) := by decide +kernel
theorem dX11_sumOf_17 : decode cX11_sumOf 17 = .ok (.invokevirtual 117, 3) := by decide +kernel
theorem dX11_sumOf_20 : decode cX11_sumOf 20 = .ok (.imul, 1) := by decide +kernel
theorem dX11_sumOf_21 : decode cX11_sumOf 21 = .ok (.iadd, 1) := by decide +kernel
theorem dX11_sumOf_22 : decode cX11_sumOf 22 = .ok (.bipush 7, 2) := by decide +kernel
theorem dX11_sumOf_24 : decode cX11_sumOf 24 = .ok (.aload_n 0, 1) := by decide +kernel
theorem dX11_sumOf_25 : decode cX11_sumOf 25 = .ok (.iload_n 1, 1) := by decide +kernel
theorem dX11_sumOf_26 : decode cX11_sumOf 26 = .ok (.iload_n 2, 1) := by decide +kernel
theorem dX11_sumOf_27 : decode cX11_sumOf 27 = .ok (.iconst 2, 1) := by decide +kernel
theorem dX11_sumOf_28 : decode cX11_sumOf 28 = .ok (.invokevirtual 117, 3) := by decide +kernel
theorem dX11_sumOf_31 : decode cX11_sumOf 31 = .ok (.imul, 1) := by decide +kernel
theorem dX11_sumOf_32 : decode cX11_sumOf 32 = .ok (.iadd, 1) := by decide +kernel
theorem dX11_sumOf_33 : decode cX11_sumOf 33 = .ok (.aload_n 0, 1) := by decide +kernel
theorem dX11_sumOf_34 : decode cX11_sumOf 34 = .ok (.iload_n 1, 1) := by decide +kernel
theorem dX11_sumOf_35 : decode cX11_sumOf 35 = .ok (.iload_n 2, 1) := by decide +kernel
theorem dX11_sumOf_36 : decode cX11_sumOf 36 = .ok (.iconst 3, 1) := by decide +kernel
theorem dX11_sumOf_37 : decode cX11_sumOf 37 = .ok (.invokevirtual 117, 3) := by decide +kernel
theorem dX11_sumOf_40 : decode cX11_sumOf 40 = .ok (.iadd, 1) := by decide +kernel
theorem dX11_sumOf_41 : decode cX11_sumOf 41 = .ok (.bipush 64, 2) := by decide +kernel
theorem dX11_sumOf_43 : decode cX11_sumOf 43 = .ok (.irem, 1) := by decide +kernel
theorem dX11_sumOf_44 : decode cX11_sumOf 44 = .ok (.ireturn, 1) := by decide +kernel
theorem dX11_roomIn_0 : decode cX11_roomIn 0 = .ok (.iconst (-1), 1) := by decide +kernel
theorem dX11_roomIn_1 : decode cX11_roomIn 1 = .ok (.istore_n 3, 1) := by decide +kernel
theorem dX11_roomIn_2 : decode cX11_roomIn 2 = .ok (.aload_n 0, 1) := by decide +kernel
theorem dX11_roomIn_3 : decode cX11_roomIn 3 = .ok (.iload_n 1, 1) := by decide +kernel
theorem dX11_roomIn_4 : decode cX11_roomIn 4 = .ok (.iload_n 2, 1) := by decide +kernel
theorem dX11_roomIn_5 : decode cX11_roomIn 5 = .ok (.invokevirtual 95, 3) := by decide +kernel
theorem dX11_roomIn_8 : decode cX11_roomIn 8 = .ok (.istore 4, 2) := by decide +kernel
theorem dX11_roomIn_10 : decode cX11_roomIn 10 = .ok (.iconst 0, 1) := by decide +kernel
theorem dX11_roomIn_11 : decode cX11_roomIn 11 = .ok (.istore 5, 2) := by decide +kernel
theorem dX11_roomIn_13 : decode cX11_roomIn 13 = .ok (.iload 5, 2) := by decide +kernel
theorem dX11_roomIn_15 : decode cX11_roomIn 15 = .ok (.iload 4, 2) := by decide +kernel
theorem dX11_roomIn_17 : decode cX11_roomIn 17 = .ok (.if_icmp .ge 75, 3) := by decide +kernel
theorem dX11_roomIn_20 : decode cX11_roomIn 20 = .ok (.aload_n 0, 1) := by decide +kernel
theorem dX11_roomIn_21 : decode cX11_roomIn 21 = .ok (.iload_n 1, 1) := by decide +kernel
theorem dX11_roomIn_22 : decode cX11_roomIn 22 = .ok (.iload_n 2, 1) := by decide +kernel
theorem dX11_roomIn_23 : decode cX11_roomIn 23 = .ok (.iload 5, 2) := by decide +kernel
theorem dX11_roomIn_25 : decode cX11_roomIn 25 = .ok (.invokevirtual 121, 3) := by decide +kernel
theorem dX11_roomIn_28 : decode cX11_roomIn 28 = .ok (.istore 6, 2) := by decide +kernel
theorem dX11_roomIn_30 : decode cX11_roomIn 30 = .ok (.aload_n 0, 1) := by decide +kernel
theorem dX11_roomIn_31 : decode cX11_roomIn 31 = .ok (.getfield 10, 3) := by decide +kernel
theorem dX11_roomIn_34 : decode cX11_roomIn 34 = .ok (.iload_n 1, 1) := by decide +kernel
theorem dX11_roomIn_35 : decode cX11_roomIn 35 = .ok (.sipush 544, 3) := by decide +kernel
theorem dX11_roomIn_38 : decode cX11_roomIn 38 = .ok (.iadd, 1) := by decide +kernel
theorem dX11_roomIn_39 : decode cX11_roomIn 39 = .ok (.iload 6, 2) := by decide +kernel
theorem dX11_roomIn_41 : decode cX11_roomIn 41 = .ok (.iadd, 1) := by decide +kernel
theorem dX11_roomIn_42 : decode cX11_roomIn 42 = .ok (.iaload, 1) := by decide +kernel
theorem dX11_roomIn_43 : decode cX11_roomIn 43 = .ok (.aload_n 0, 1) := by decide +kernel
theorem dX11_roomIn_44 : decode cX11_roomIn 44 = .ok (.getfield 27, 3) := by decide +kernel
theorem dX11_roomIn_47 : decode cX11_roomIn 47 = .ok (.if_icmp .ge 39, 3) := by decide +kernel
theorem dX11_roomIn_50 : decode cX11_roomIn 50 = .ok (.iload_n 3, 1) := by decide +kernel
theorem dX11_roomIn_51 : decode cX11_roomIn 51 = .ok (.iconst (-1), 1) := by decide +kernel
theorem dX11_roomIn_52 : decode cX11_roomIn 52 = .ok (.if_icmp .eq 31, 3) := by decide +kernel
theorem dX11_roomIn_55 : decode cX11_roomIn 55 = .ok (.aload_n 0, 1) := by decide +kernel
theorem dX11_roomIn_56 : decode cX11_roomIn 56 = .ok (.getfield 10, 3) := by decide +kernel
theorem dX11_roomIn_59 : decode cX11_roomIn 59 = .ok (.iload_n 1, 1) := by decide +kernel
theorem dX11_roomIn_60 : decode cX11_roomIn 60 = .ok (.sipush 544, 3) := by decide +kernel
theorem dX11_roomIn_63 : decode cX11_roomIn 63 = .ok (.iadd, 1) := by decide +kernel
theorem dX11_roomIn_64 : decode cX11_roomIn 64 = .ok (.iload 6, 2) := by decide +kernel
theorem dX11_roomIn_66 : decode cX11_roomIn 66 = .ok (.iadd, 1) := by decide +kernel
theorem dX11_roomIn_67 : decode cX11_roomIn 67 = .ok (.iaload, 1) := by decide +kernel
theorem dX11_roomIn_68 : decode cX11_roomIn 68 = .ok (.aload_n 0, 1) := by decide +kernel
theorem dX11_roomIn_69 : decode cX11_roomIn 69 = .ok (.getfield 10, 3) := by decide +kernel
theorem dX11_roomIn_72 : decode cX11_roomIn 72 = .ok (.iload_n 1, 1) := by decide +kernel
theorem dX11_roomIn_73 : decode cX11_roomIn 73 = .ok (.sipush 544, 3) := by decide +kernel
theorem dX11_roomIn_76 : decode cX11_roomIn 76 = .ok (.iadd, 1) := by decide +kernel
theorem dX11_roomIn_77 : decode cX11_roomIn 77 = .ok (.iload_n 3, 1) := by decide +kernel
theorem dX11_roomIn_78 : decode cX11_roomIn 78 = .ok (.iadd, 1) := by decide +kernel
theorem dX11_roomIn_79 : decode cX11_roomIn 79 = .ok (.iaload, 1) := by decide +kernel
theorem dX11_roomIn_80 : decode cX11_roomIn 80 = .ok (.if_icmp .le 6, 3) := by decide +kernel
theorem dX11_roomIn_83 : decode cX11_roomIn 83 = .ok (.iload 6, 2) := by decide +kernel
theorem dX11_roomIn_85 : decode cX11_roomIn 85 = .ok (.istore_n 3, 1) := by decide +kernel
theorem dX11_roomIn_86 : decode cX11_roomIn 86 = .ok (.iinc 5 1, 3) := by decide +kernel
theorem dX11_roomIn_89 : decode cX11_roomIn 89 = .ok (.goto (-76), 3) := by decide +kernel
theorem dX11_roomIn_92 : decode cX11_roomIn 92 = .ok (.iload_n 3, 1) := by decide +kernel
theorem dX11_roomIn_93 : decode cX11_roomIn 93 = .ok (.ireturn, 1) := by decide +kernel
theorem dX11_movesTo_0 : decode cX11_movesTo 0 = .ok (.aload_n 0, 1) := by decide +kernel
theorem dX11_movesTo_1 : decode cX11_movesTo 1 = .ok (.iload_n 1, 1) := by decide +kernel
theorem dX11_movesTo_2 : decode cX11_movesTo 2 = .ok (.iload_n 2, 1) := by decide +kernel
theorem dX11_movesTo_3 : decode cX11_movesTo 3 = .ok (.invokevirtual 152, 3) := by decide +kernel
theorem dX11_movesTo_6 : decode cX11_movesTo 6 = .ok (.aload_n 0, 1) := by decide +kernel
theorem dX11_movesTo_7 : decode cX11_movesTo 7 = .ok (.iload_n 1, 1) := by decide +kernel
theorem dX11_movesTo_8 : decode cX11_movesTo 8 = .ok (.iload_n 2, 1) := by decide +kernel
theorem dX11_movesTo_9 : decode cX11_movesTo 9 = .ok (.iload_n 3, 1) := by decide +kernel
theorem dX11_movesTo_10 : decode cX11_movesTo 10 = .ok (.invokevirtual 155, 3) := by decide +kernel
theorem dX11_movesTo_13 : decode cX11_movesTo 13 = .ok (.return_, 1) := by decide +kernel
theorem dX11_isZero_0 : decode cX11_isZero 0 = .ok (.aload_n 0, 1) := by decide +kernel
theorem dX11_isZero_1 : decode cX11_isZero 1 = .ok (.iload_n 1, 1) := by decide +kernel
theorem dX11_isZero_2 : decode cX11_isZero 2 = .ok (.iload_n 2, 1) := by decide +kernel
theorem dX11_isZero_3 : decode cX11_isZero 3 = .ok (.iconst 0, 1) := by decide +kernel
theorem dX11_isZero_4 : decode cX11_isZero 4 = .ok (.invokevirtual 117, 3) := by decide +kernel
theorem dX11_isZero_7 : decode cX11_isZero 7 = .ok (.aload_n 0, 1) := by decide +kernel
theorem dX11_isZero_8 : decode cX11_isZero 8 = .ok (.iload_n 1, 1) := by decide +kernel
theorem dX11_isZero_9 : decode cX11_isZero 9 = .ok (.iload_n 2, 1) := by decide +kernel
theorem dX11_isZero_10 : decode cX11_isZero 10 = .ok (.iconst 1, 1) := by decide +kernel
theorem dX11_isZero_11 : decode cX11_isZero 11 = .ok (.invokevirtual 117, 3) := by decide +kernel
theorem dX11_isZero_14 : decode cX11_isZero 14 = .ok (.iadd, 1) := by decide +kernel
theorem dX11_isZero_15 : decode cX11_isZero 15 = .ok (.aload_n 0, 1) := by decide +kernel
theorem dX11_isZero_16 : decode cX11_isZero 16 = .ok (.iload_n 1, 1) := by decide +kernel
theorem dX11_isZero_17 : decode cX11_isZero 17 = .ok (.iload_n 2, 1) := by decide +kernel
theorem dX11_isZero_18 : decode cX11_isZero 18 = .ok (.iconst 2, 1) := by decide +kernel
theorem dX11_isZero_19 : decode cX11_isZero 19 = .ok (.invokevirtual 117, 3) := by decide +kernel
theorem dX11_isZero_22 : decode cX11_isZero 22 = .ok (.iadd, 1) := by decide +kernel
theorem dX11_isZero_23 : decode cX11_isZero 23 = .ok (.aload_n 0, 1) := by decide +kernel
theorem dX11_isZero_24 : decode cX11_isZero 24 = .ok (.iload_n 1, 1) := by decide +kernel
theorem dX11_isZero_25 : decode cX11_isZero 25 = .ok (.iload_n 2, 1) := by decide +kernel
theorem dX11_isZero_26 : decode cX11_isZero 26 = .ok (.iconst 3, 1) := by decide +kernel
theorem dX11_isZero_27 : decode cX11_isZero 27 = .ok (.invokevirtual 117, 3) := by decide +kernel
theorem dX11_isZero_30 : decode cX11_isZero 30 = .ok (.iadd, 1) := by decide +kernel
theorem dX11_isZero_31 : decode cX11_isZero 31 = .ok (.ifCond .ne 7, 3) := by decide +kernel
theorem dX11_isZero_34 : decode cX11_isZero 34 = .ok (.iconst 1, 1) := by decide +kernel
theorem dX11_isZero_35 : decode cX11_isZero 35 = .ok (.goto 4, 3) := by decide +kernel
theorem dX11_isZero_38 : decode cX11_isZero 38 = .ok (.iconst 0, 1) := by decide +kernel
theorem dX11_isZero_39 : decode cX11_isZero 39 = .ok (.ireturn, 1) := by decide +kernel
theorem dX11_looksFor_0 : decode cX11_looksFor 0 = .ok (.iload_n 1, 1) := by decide +kernel
theorem dX11_looksFor_1 : decode cX11_looksFor 1 = .ok (.sipush 1072, 3) := by decide +kernel
theorem dX11_looksFor_4 : decode cX11_looksFor 4 = .ok (.iadd, 1) := by decide +kernel
theorem dX11_looksFor_5 : decode cX11_looksFor 5 = .ok (.bipush 97, 2) := by decide +kernel
theorem dX11_looksFor_7 : decode cX11_looksFor 7 = .ok (.aload_n 0, 1) := by decide +kernel
theorem dX11_looksFor_8 : decode cX11_looksFor 8 = .ok (.iload_n 2, 1) := by decide +kernel
theorem dX11_looksFor_9 : decode cX11_looksFor 9 = .ok (.invokevirtual 168, 3) := by decide +kernel
theorem dX11_looksFor_12 : decode cX11_looksFor 12 = .ok (.imul, 1) := by decide +kernel
theorem dX11_looksFor_13 : decode cX11_looksFor 13 = .ok (.iadd, 1) := by decide +kernel
theorem dX11_looksFor_14 : decode cX11_looksFor 14 = .ok (.istore_n 3, 1) := by decide +kernel
theorem dX11_looksFor_15 : decode cX11_looksFor 15 = .ok (.iload_n 1, 1) := by decide +kernel
theorem dX11_looksFor_16 : decode cX11_looksFor 16 = .ok (.sipush 1363, 3) := by decide +kernel
theorem dX11_looksFor_19 : decode cX11_looksFor 19 = .ok (.iadd, 1) := by decide +kernel
theorem dX11_looksFor_20 : decode cX11_looksFor 20 = .ok (.bipush 97, 2) := by decide +kernel
theorem dX11_looksFor_22 : decode cX11_looksFor 22 = .ok (.aload_n 0, 1) := by decide +kernel
theorem dX11_looksFor_23 : decode cX11_looksFor 23 = .ok (.iload_n 2, 1) := by decide +kernel
theorem dX11_looksFor_24 : decode cX11_looksFor 24 = .ok (.invokevirtual 168, 3) := by decide +kernel
theorem dX11_looksFor_27 : decode cX11_looksFor 27 = .ok (.imul, 1) := by decide +kernel
theorem dX11_looksFor_28 : decode cX11_looksFor 28 = .ok (.iadd, 1) := by decide +kernel
theorem dX11_looksFor_29 : decode cX11_looksFor 29 = .ok (.istore 4, 2) := by decide +kernel
theorem dX11_looksFor_31 : decode cX11_looksFor 31 = .ok (.aload_n 0, 1) := by decide +kernel
theorem dX11_looksFor_32 : decode cX11_looksFor 32 = .ok (.iload_n 1, 1) := by decide +kernel
theorem dX11_looksFor_33 : decode cX11_looksFor 33 = .ok (.iload_n 2, 1) := by decide +kernel
theorem dX11_looksFor_34 : decode cX11_looksFor 34 = .ok (.invokevirtual 187, 3) := by decide +kernel
theorem dX11_looksFor_37 : decode cX11_looksFor 37 = .ok (.aload_n 0, 1) := by decide +kernel
theorem dX11_looksFor_38 : decode cX11_looksFor 38 = .ok (.iload_n 1, 1) := by decide +kernel
theorem dX11_looksFor_39 : decode cX11_looksFor 39 = .ok (.iload_n 3, 1) := by decide +kernel
theorem dX11_looksFor_40 : decode cX11_looksFor 40 = .ok (.iconst 1, 1) := by decide +kernel
theorem dX11_looksFor_41 : decode cX11_looksFor 41 = .ok (.invokevirtual 190, 3) := by decide +kernel
theorem dX11_looksFor_44 : decode cX11_looksFor 44 = .ok (.aload_n 0, 1) := by decide +kernel
theorem dX11_looksFor_45 : decode cX11_looksFor 45 = .ok (.getfield 124, 3) := by decide +kernel
theorem dX11_looksFor_48 : decode cX11_looksFor 48 = .ok (.iconst (-1), 1) := by decide +kernel
theorem dX11_looksFor_49 : decode cX11_looksFor 49 = .ok (.if_icmp .ne 7, 3) := by decide +kernel
theorem dX11_looksFor_52 : decode cX11_looksFor 52 = .ok (.iconst (-1), 1) := by decide +kernel
theorem dX11_looksFor_53 : decode cX11_looksFor 53 = .ok (.goto 16, 3) := by decide +kernel
theorem dX11_looksFor_56 : decode cX11_looksFor 56 = .ok (.aload_n 0, 1) := by decide +kernel
theorem dX11_looksFor_57 : decode cX11_looksFor 57 = .ok (.getfield 10, 3) := by decide +kernel
theorem dX11_looksFor_60 : decode cX11_looksFor 60 = .ok (.iload_n 3, 1) := by decide +kernel
theorem dX11_looksFor_61 : decode cX11_looksFor 61 = .ok (.iconst 1, 1) := by decide +kernel
theorem dX11_looksFor_62 : decode cX11_looksFor 62 = .ok (.iadd, 1) := by decide +kernel
theorem dX11_looksFor_63 : decode cX11_looksFor 63 = .ok (.aload_n 0, 1) := by decide +kernel
theorem dX11_looksFor_64 : decode cX11_looksFor 64 = .ok (.getfield 124, 3) := by decide +kernel
theorem dX11_looksFor_67 : decode cX11_looksFor 67 = .ok (.iadd, 1) := by decide +kernel
theorem dX11_looksFor_68 : decode cX11_looksFor 68 = .ok (.iaload, 1) := by decide +kernel
theorem dX11_looksFor_69 : decode cX11_looksFor 69 = .ok (.istore 5, 2) := by decide +kernel
theorem dX11_looksFor_71 : decode cX11_looksFor 71 = .ok (.aload_n 0, 1) := by decide +kernel
theorem dX11_looksFor_72 : decode cX11_looksFor 72 = .ok (.getfield 145, 3) := by decide +kernel
theorem dX11_looksFor_75 : decode cX11_looksFor 75 = .ok (.istore 6, 2) := by decide +kernel
theorem dX11_looksFor_77 : decode cX11_looksFor 77 = .ok (.aload_n 0, 1) := by decide +kernel
theorem dX11_looksFor_78 : decode cX11_looksFor 78 = .ok (.getfield 131, 3) := by decide +kernel
theorem dX11_looksFor_81 : decode cX11_looksFor 81 = .ok (.istore 7, 2) := by decide +kernel
theorem dX11_looksFor_83 : decode cX11_looksFor 83 = .ok (.iload 5, 2) := by decide +kernel
theorem dX11_looksFor_85 : decode cX11_looksFor 85 = .ok (.iconst (-1), 1) := by decide +kernel
theorem dX11_looksFor_86 : decode cX11_looksFor 86 = .ok (.if_icmp .ne 7, 3) := by decide +kernel
theorem dX11_looksFor_89 : decode cX11_looksFor 89 = .ok (.iconst (-1), 1) := by decide +kernel
theorem dX11_looksFor_90 : decode cX11_looksFor 90 = .ok (.goto 10, 3) := by decide +kernel
theorem dX11_looksFor_93 : decode cX11_looksFor 93 = .ok (.aload_n 0, 1) := by decide +kernel
theorem dX11_looksFor_94 : decode cX11_looksFor 94 = .ok (.iload_n 1, 1) := by decide +kernel
theorem dX11_looksFor_95 : decode cX11_looksFor 95 = .ok (.iload 5, 2) := by decide +kernel
theorem dX11_looksFor_97 : decode cX11_looksFor 97 = .ok (.invokevirtual 194, 3) := by decide +kernel
theorem dX11_looksFor_100 : decode cX11_looksFor 100 = .ok (.istore 8, 2) := by decide +kernel
theorem dX11_looksFor_102 : decode cX11_looksFor 102 = .ok (.iload 8, 2) := by decide +kernel
theorem dX11_looksFor_104 : decode cX11_looksFor 104 = .ok (.iconst (-1), 1) := by decide +kernel
theorem dX11_looksFor_105 : decode cX11_looksFor 105 = .ok (.if_icmp .eq 13, 3) := by decide +kernel
theorem dX11_looksFor_108 : decode cX11_looksFor 108 = .ok (.aload_n 0, 1) := by decide +kernel
theorem dX11_looksFor_109 : decode cX11_looksFor 109 = .ok (.iload_n 1, 1) := by decide +kernel
theorem dX11_looksFor_110 : decode cX11_looksFor 110 = .ok (.iload_n 2, 1) := by decide +kernel
theorem dX11_looksFor_111 : decode cX11_looksFor 111 = .ok (.iload 8, 2) := by decide +kernel
theorem dX11_looksFor_113 : decode cX11_looksFor 113 = .ok (.invokevirtual 197, 3) := by decide +kernel
theorem dX11_looksFor_116 : decode cX11_looksFor 116 = .ok (.iconst 5, 1) := by decide +kernel
theorem dX11_looksFor_117 : decode cX11_looksFor 117 = .ok (.ireturn, 1) := by decide +kernel
theorem dX11_looksFor_118 : decode cX11_looksFor 118 = .ok (.aload_n 0, 1) := by decide +kernel
theorem dX11_looksFor_119 : decode cX11_looksFor 119 = .ok (.iload_n 1, 1) := by decide +kernel
theorem dX11_looksFor_120 : decode cX11_looksFor 120 = .ok (.iload_n 2, 1) := by decide +kernel
theorem dX11_looksFor_121 : decode cX11_looksFor 121 = .ok (.invokevirtual 200, 3) := by decide +kernel
theorem dX11_looksFor_124 : decode cX11_looksFor 124 = .ok (.istore 9, 2) := by decide +kernel
theorem dX11_looksFor_126 : decode cX11_looksFor 126 = .ok (.iload 9, 2) := by decide +kernel
theorem dX11_looksFor_128 : decode cX11_looksFor 128 = .ok (.aload_n 0, 1) := by decide +kernel
theorem dX11_looksFor_129 : decode cX11_looksFor 129 = .ok (.getfield 10, 3) := by decide +kernel
theorem dX11_looksFor_132 : decode cX11_looksFor 132 = .ok (.iload_n 1, 1) := by decide +kernel
theorem dX11_looksFor_133 : decode cX11_looksFor 133 = .ok (.sipush 160, 3) := by decide +kernel
theorem dX11_looksFor_136 : decode cX11_looksFor 136 = .ok (.iadd, 1) := by decide +kernel
theorem dX11_looksFor_137 : decode cX11_looksFor 137 = .ok (.iload_n 2, 1) := by decide +kernel
theorem dX11_looksFor_138 : decode cX11_looksFor 138 = .ok (.iadd, 1) := by decide +kernel
theorem dX11_looksFor_139 : decode cX11_looksFor 139 = .ok (.iaload, 1) := by decide +kernel
theorem dX11_looksFor_140 : decode cX11_looksFor 140 = .ok (.if_icmp .eq 20, 3) := by decide +kernel
theorem dX11_looksFor_143 : decode cX11_looksFor 143 = .ok (.aload_n 0, 1) := by decide +kernel
theorem dX11_looksFor_144 : decode cX11_looksFor 144 = .ok (.getfield 10, 3) := by decide +kernel
theorem dX11_looksFor_147 : decode cX11_looksFor 147 = .ok (.iload_n 1, 1) := by decide +kernel
theorem dX11_looksFor_148 : decode cX11_looksFor 148 = .ok (.sipush 160, 3) := by decide +kernel
theorem dX11_looksFor_151 : decode cX11_looksFor 151 = .ok (.iadd, 1) := by decide +kernel
theorem dX11_looksFor_152 : decode cX11_looksFor 152 = .ok (.iload_n 2, 1) := by decide +kernel
theorem dX11_looksFor_153 : decode cX11_looksFor 153 = .ok (.iadd, 1) := by decide +kernel
theorem dX11_looksFor_154 : decode cX11_looksFor 154 = .ok (.iload 9, 2) := by decide +kernel
theorem dX11_looksFor_156 : decode cX11_looksFor 156 = .ok (.iastore, 1) := by decide +kernel
theorem dX11_looksFor_157 : decode cX11_looksFor 157 = .ok (.bipush 6, 2) := by decide +kernel
theorem dX11_looksFor_159 : decode cX11_looksFor 159 = .ok (.ireturn, 1) := by decide +kernel
theorem dX11_looksFor_160 : decode cX11_looksFor 160 = .ok (.aload_n 0, 1) := by decide +kernel
theorem dX11_looksFor_161 : decode cX11_looksFor 161 = .ok (.iload_n 1, 1) := by decide +kernel
theorem dX11_looksFor_162 : decode cX11_looksFor 162 = .ok (.iload 4, 2) := by decide +kernel
theorem dX11_looksFor_164 : decode cX11_looksFor 164 = .ok (.iconst 0, 1) := by decide +kernel
theorem dX11_looksFor_165 : decode cX11_looksFor 165 = .ok (.invokevirtual 190, 3) := by decide +kernel
theorem dX11_looksFor_168 : decode cX11_looksFor 168 = .ok (.aload_n 0, 1) := by decide +kernel
theorem dX11_looksFor_169 : decode cX11_looksFor 169 = .ok (.getfield 127, 3) := by decide +kernel
theorem dX11_looksFor_172 : decode cX11_looksFor 172 = .ok (.ifCond .eq 6, 3) := by decide +kernel
theorem dX11_looksFor_175 : decode cX11_looksFor 175 = .ok (.bipush 7, 2) := by decide +kernel
theorem dX11_looksFor_177 : decode cX11_looksFor 177 = .ok (.ireturn, 1) := by decide +kernel
theorem dX11_looksFor_178 : decode cX11_looksFor 178 = .ok (.aload_n 0, 1) := by decide +kernel
theorem dX11_looksFor_179 : decode cX11_looksFor 179 = .ok (.getfield 124, 3) := by decide +kernel
theorem dX11_looksFor_182 : decode cX11_looksFor 182 = .ok (.iconst (-1), 1) := by decide +kernel
theorem dX11_looksFor_183 : decode cX11_looksFor 183 = .ok (.if_icmp .ne 34, 3) := by decide +kernel
theorem dX11_looksFor_186 : decode cX11_looksFor 186 = .ok (.aload_n 0, 1) := by decide +kernel
theorem dX11_looksFor_187 : decode cX11_looksFor 187 = .ok (.iload 4, 2) := by decide +kernel
theorem dX11_looksFor_189 : decode cX11_looksFor 189 = .ok (.aload_n 0, 1) := by decide +kernel
theorem dX11_looksFor_190 : decode cX11_looksFor 190 = .ok (.getfield 145, 3) := by decide +kernel
theorem dX11_looksFor_193 : decode cX11_looksFor 193 = .ok (.iload_n 2, 1) := by decide +kernel
theorem dX11_looksFor_194 : decode cX11_looksFor 194 = .ok (.aload_n 0, 1) := by decide +kernel
theorem dX11_looksFor_195 : decode cX11_looksFor 195 = .ok (.getfield 131, 3) := by decide +kernel
theorem dX11_looksFor_198 : decode cX11_looksFor 198 = .ok (.invokevirtual 203, 3) := by decide +kernel
theorem dX11_looksFor_201 : decode cX11_looksFor 201 = .ok (.aload_n 0, 1) := by decide +kernel
theorem dX11_looksFor_202 : decode cX11_looksFor 202 = .ok (.getfield 10, 3) := by decide +kernel
theorem dX11_looksFor_205 : decode cX11_looksFor 205 = .ok (.iload_n 1, 1) := by decide +kernel
theorem dX11_looksFor_206 : decode cX11_looksFor 206 = .ok (.sipush 304, 3) := by decide +kernel
theorem dX11_looksFor_209 : decode cX11_looksFor 209 = .ok (.iadd, 1) := by decide +kernel
theorem dX11_looksFor_210 : decode cX11_looksFor 210 = .ok (.iload_n 2, 1) := by decide +kernel
theorem dX11_looksFor_211 : decode cX11_looksFor 211 = .ok (.iadd, 1) := by decide +kernel
theorem dX11_looksFor_212 : decode cX11_looksFor 212 = .ok (.iconst 1, 1) := by decide +kernel
theorem dX11_looksFor_213 : decode cX11_looksFor 213 = .ok (.iastore, 1) := by decide +kernel
theorem dX11_looksFor_214 : decode cX11_looksFor 214 = .ok (.bipush 9, 2) := by decide +kernel
theorem dX11_looksFor_216 : decode cX11_looksFor 216 = .ok (.ireturn, 1) := by decide +kernel
theorem dX11_looksFor_217 : decode cX11_looksFor 217 = .ok (.aload_n 0, 1) := by decide +kernel
theorem dX11_looksFor_218 : decode cX11_looksFor 218 = .ok (.getfield 10, 3) := by decide +kernel
theorem dX11_looksFor_221 : decode cX11_looksFor 221 = .ok (.iload 4, 2) := by decide +kernel
theorem dX11_looksFor_223 : decode cX11_looksFor 223 = .ok (.iconst 1, 1) := by decide +kernel
theorem dX11_looksFor_224 : decode cX11_looksFor 224 = .ok (.iadd, 1) := by decide +kernel
theorem dX11_looksFor_225 : decode cX11_looksFor 225 = .ok (.aload_n 0, 1) := by decide +kernel
theorem dX11_looksFor_226 : decode cX11_looksFor 226 = .ok (.getfield 124, 3) := by decide +kernel
theorem dX11_looksFor_229 : decode cX11_looksFor 229 = .ok (.iadd, 1) := by decide +kernel
theorem dX11_looksFor_230 : decode cX11_looksFor 230 = .ok (.iaload, 1) := by decide +kernel
theorem dX11_looksFor_231 : decode cX11_looksFor 231 = .ok (.istore 10, 2) := by decide +kernel
theorem dX11_looksFor_233 : decode cX11_looksFor 233 = .ok (.aload_n 0, 1) := by decide +kernel
theorem dX11_looksFor_234 : decode cX11_looksFor 234 = .ok (.iload_n 1, 1) := by decide +kernel
theorem dX11_looksFor_235 : decode cX11_looksFor 235 = .ok (.iload 10, 2) := by decide +kernel
theorem dX11_looksFor_237 : decode cX11_looksFor 237 = .ok (.invokevirtual 175, 3) := by decide +kernel
theorem dX11_looksFor_240 : decode cX11_looksFor 240 = .ok (.aload_n 0, 1) := by decide +kernel
theorem dX11_looksFor_241 : decode cX11_looksFor 241 = .ok (.getfield 10, 3) := by decide +kernel
theorem dX11_looksFor_244 : decode cX11_looksFor 244 = .ok (.iload_n 1, 1) := by decide +kernel
theorem dX11_looksFor_245 : decode cX11_looksFor 245 = .ok (.sipush 208, 3) := by decide +kernel
theorem dX11_looksFor_248 : decode cX11_looksFor 248 = .ok (.iadd, 1) := by decide +kernel
theorem dX11_looksFor_249 : decode cX11_looksFor 249 = .ok (.iload 10, 2) := by decide +kernel
theorem dX11_looksFor_251 : decode cX11_looksFor 251 = .ok (.iadd, 1) := by decide +kernel
theorem dX11_looksFor_252 : decode cX11_looksFor 252 = .ok (.iconst 0, 1) := by decide +kernel
theorem dX11_looksFor_253 : decode cX11_looksFor 253 = .ok (.iastore, 1) := by decide +kernel
theorem dX11_looksFor_254 : decode cX11_looksFor 254 = .ok (.aload_n 0, 1) := by decide +kernel
theorem dX11_looksFor_255 : decode cX11_looksFor 255 = .ok (.getfield 10, 3) := by decide +kernel
theorem dX11_looksFor_258 : decode cX11_looksFor 258 = .ok (.iload_n 1, 1) := by decide +kernel
theorem dX11_looksFor_259 : decode cX11_looksFor 259 = .ok (.sipush 256, 3) := by decide +kernel
theorem dX11_looksFor_262 : decode cX11_looksFor 262 = .ok (.iadd, 1) := by decide +kernel
theorem dX11_looksFor_263 : decode cX11_looksFor 263 = .ok (.iload 10, 2) := by decide +kernel
theorem dX11_looksFor_265 : decode cX11_looksFor 265 = .ok (.iadd, 1) := by decide +kernel
theorem dX11_looksFor_266 : decode cX11_looksFor 266 = .ok (.iconst 0, 1) := by decide +kernel
theorem dX11_looksFor_267 : decode cX11_looksFor 267 = .ok (.iastore, 1) := by decide +kernel
theorem dX11_looksFor_268 : decode cX11_looksFor 268 = .ok (.iload 5, 2) := by decide +kernel
theorem dX11_looksFor_270 : decode cX11_looksFor 270 = .ok (.iconst (-1), 1) := by decide +kernel
theorem dX11_looksFor_271 : decode cX11_looksFor 271 = .ok (.if_icmp .ne 21, 3) := by decide +kernel
theorem dX11_looksFor_274 : decode cX11_looksFor 274 = .ok (.aload_n 0, 1) := by decide +kernel
theorem dX11_looksFor_275 : decode cX11_looksFor 275 = .ok (.iload_n 1, 1) := by decide +kernel
theorem dX11_looksFor_276 : decode cX11_looksFor 276 = .ok (.invokevirtual 207, 3) := by decide +kernel
theorem dX11_looksFor_279 : decode cX11_looksFor 279 = .ok (.istore 5, 2) := by decide +kernel
theorem dX11_looksFor_281 : decode cX11_looksFor 281 = .ok (.aload_n 0, 1) := by decide +kernel
theorem dX11_looksFor_282 : decode cX11_looksFor 282 = .ok (.iload_n 3, 1) := by decide +kernel
theorem dX11_looksFor_283 : decode cX11_looksFor 283 = .ok (.iload 6, 2) := by decide +kernel
theorem dX11_looksFor_285 : decode cX11_looksFor 285 = .ok (.iload 5, 2) := by decide +kernel
theorem dX11_looksFor_287 : decode cX11_looksFor 287 = .ok (.iload 7, 2) := by decide +kernel
theorem dX11_looksFor_289 : decode cX11_looksFor 289 = .ok (.invokevirtual 203, 3) := by decide +kernel
theorem dX11_looksFor_292 : decode cX11_looksFor 292 = .ok (.aload_n 0, 1) := by decide +kernel
theorem dX11_looksFor_293 : decode cX11_looksFor 293 = .ok (.iload_n 1, 1) := by decide +kernel
theorem dX11_looksFor_294 : decode cX11_looksFor 294 = .ok (.aload_n 0, 1) := by decide +kernel
theorem dX11_looksFor_295 : decode cX11_looksFor 295 = .ok (.getfield 10, 3) := by decide +kernel
theorem dX11_looksFor_298 : decode cX11_looksFor 298 = .ok (.iload_n 1, 1) := by decide +kernel
theorem dX11_looksFor_299 : decode cX11_looksFor 299 = .ok (.bipush 16, 2) := by decide +kernel
theorem dX11_looksFor_301 : decode cX11_looksFor 301 = .ok (.iadd, 1) := by decide +kernel
theorem dX11_looksFor_302 : decode cX11_looksFor 302 = .ok (.iload 10, 2) := by decide +kernel
theorem dX11_looksFor_304 : decode cX11_looksFor 304 = .ok (.iadd, 1) := by decide +kernel
theorem dX11_looksFor_305 : decode cX11_looksFor 305 = .ok (.iaload, 1) := by decide +kernel
theorem dX11_looksFor_306 : decode cX11_looksFor 306 = .ok (.iload 5, 2) := by decide +kernel
theorem dX11_looksFor_308 : decode cX11_looksFor 308 = .ok (.invokevirtual 210, 3) := by decide +kernel
theorem dX11_looksFor_311 : decode cX11_looksFor 311 = .ok (.aload_n 0, 1) := by decide +kernel
theorem dX11_looksFor_312 : decode cX11_looksFor 312 = .ok (.iload_n 1, 1) := by decide +kernel
theorem dX11_looksFor_313 : decode cX11_looksFor 313 = .ok (.iload_n 2, 1) := by decide +kernel
theorem dX11_looksFor_314 : decode cX11_looksFor 314 = .ok (.aload_n 0, 1) := by decide +kernel
theorem dX11_looksFor_315 : decode cX11_looksFor 315 = .ok (.getfield 10, 3) := by decide +kernel
theorem dX11_looksFor_318 : decode cX11_looksFor 318 = .ok (.iload_n 1, 1) := by decide +kernel
theorem dX11_looksFor_319 : decode cX11_looksFor 319 = .ok (.bipush 16, 2) := by decide +kernel
theorem dX11_looksFor_321 : decode cX11_looksFor 321 = .ok (.iadd, 1) := by decide +kernel
theorem dX11_looksFor_322 : decode cX11_looksFor 322 = .ok (.iload 10, 2) := by decide +kernel
theorem dX11_looksFor_324 : decode cX11_looksFor 324 = .ok (.iadd, 1) := by decide +kernel
theorem dX11_looksFor_325 : decode cX11_looksFor 325 = .ok (.iaload, 1) := by decide +kernel
theorem dX11_looksFor_326 : decode cX11_looksFor 326 = .ok (.invokevirtual 197, 3) := by decide +kernel
theorem dX11_looksFor_329 : decode cX11_looksFor 329 = .ok (.bipush 8, 2) := by decide +kernel
theorem dX11_looksFor_331 : decode cX11_looksFor 331 = .ok (.ireturn, 1) := by decide +kernel
theorem dX11_befalls_0 : decode cX11_befalls 0 = .ok (.aload_n 0, 1) := by decide +kernel
theorem dX11_befalls_1 : decode cX11_befalls 1 = .ok (.getfield 10, 3) := by decide +kernel
theorem dX11_befalls_4 : decode cX11_befalls 4 = .ok (.iload_n 1, 1) := by decide +kernel
theorem dX11_befalls_5 : decode cX11_befalls 5 = .ok (.bipush 16, 2) := by decide +kernel
theorem dX11_befalls_7 : decode cX11_befalls 7 = .ok (.iadd, 1) := by decide +kernel
theorem dX11_befalls_8 : decode cX11_befalls 8 = .ok (.iload_n 2, 1) := by decide +kernel
theorem dX11_befalls_9 : decode cX11_befalls 9 = .ok (.iadd, 1) := by decide +kernel
theorem dX11_befalls_10 : decode cX11_befalls 10 = .ok (.iaload, 1) := by decide +kernel
theorem dX11_befalls_11 : decode cX11_befalls 11 = .ok (.iconst (-1), 1) := by decide +kernel
theorem dX11_befalls_12 : decode cX11_befalls 12 = .ok (.if_icmp .ne 5, 3) := by decide +kernel
theorem dX11_befalls_15 : decode cX11_befalls 15 = .ok (.iconst 1, 1) := by decide +kernel
theorem dX11_befalls_16 : decode cX11_befalls 16 = .ok (.ireturn, 1) := by decide +kernel
theorem dX11_befalls_17 : decode cX11_befalls 17 = .ok (.aload_n 0, 1) := by decide +kernel
theorem dX11_befalls_18 : decode cX11_befalls 18 = .ok (.iload_n 1, 1) := by decide +kernel
theorem dX11_befalls_19 : decode cX11_befalls 19 = .ok (.iload_n 2, 1) := by decide +kernel
theorem dX11_befalls_20 : decode cX11_befalls 20 = .ok (.invokevirtual 171, 3) := by decide +kernel
theorem dX11_befalls_23 : decode cX11_befalls 23 = .ok (.ifCond .eq 5, 3) := by decide +kernel
theorem dX11_befalls_26 : decode cX11_befalls 26 = .ok (.iconst 2, 1) := by decide +kernel
theorem dX11_befalls_27 : decode cX11_befalls 27 = .ok (.ireturn, 1) := by decide +kernel
theorem dX11_befalls_28 : decode cX11_befalls 28 = .ok (.aload_n 0, 1) := by decide +kernel
theorem dX11_befalls_29 : decode cX11_befalls 29 = .ok (.getfield 213, 3) := by decide +kernel
theorem dX11_befalls_32 : decode cX11_befalls 32 = .ok (.iconst 1, 1) := by decide +kernel
theorem dX11_befalls_33 : decode cX11_befalls 33 = .ok (.if_icmp .ne 20, 3) := by decide +kernel
theorem dX11_befalls_36 : decode cX11_befalls 36 = .ok (.aload_n 0, 1) := by decide +kernel
theorem dX11_befalls_37 : decode cX11_befalls 37 = .ok (.getfield 10, 3) := by decide +kernel
theorem dX11_befalls_40 : decode cX11_befalls 40 = .ok (.iload_n 1, 1) := by decide +kernel
theorem dX11_befalls_41 : decode cX11_befalls 41 = .ok (.sipush 256, 3) := by decide +kernel
theorem dX11_befalls_44 : decode cX11_befalls 44 = .ok (.iadd, 1) := by decide +kernel
theorem dX11_befalls_45 : decode cX11_befalls 45 = .ok (.iload_n 2, 1) := by decide +kernel
theorem dX11_befalls_46 : decode cX11_befalls 46 = .ok (.iadd, 1) := by decide +kernel
theorem dX11_befalls_47 : decode cX11_befalls 47 = .ok (.iaload, 1) := by decide +kernel
theorem dX11_befalls_48 : decode cX11_befalls 48 = .ok (.ifCond .le 5, 3) := by decide +kernel
theorem dX11_befalls_51 : decode cX11_befalls 51 = .ok (.iconst 3, 1) := by decide +kernel
theorem dX11_befalls_52 : decode cX11_befalls 52 = .ok (.ireturn, 1) := by decide +kernel
theorem dX11_befalls_53 : decode cX11_befalls 53 = .ok (.aload_n 0, 1) := by decide +kernel
theorem dX11_befalls_54 : decode cX11_befalls 54 = .ok (.getfield 216, 3) := by decide +kernel
theorem dX11_befalls_57 : decode cX11_befalls 57 = .ok (.iconst 1, 1) := by decide +kernel
theorem dX11_befalls_58 : decode cX11_befalls 58 = .ok (.if_icmp .ne 16, 3) := by decide +kernel
theorem dX11_befalls_61 : decode cX11_befalls 61 = .ok (.aload_n 0, 1) := by decide +kernel
theorem dX11_befalls_62 : decode cX11_befalls 62 = .ok (.iload_n 1, 1) := by decide +kernel
theorem dX11_befalls_63 : decode cX11_befalls 63 = .ok (.iload_n 2, 1) := by decide +kernel
theorem dX11_befalls_64 : decode cX11_befalls 64 = .ok (.invokevirtual 219, 3) := by decide +kernel
theorem dX11_befalls_67 : decode cX11_befalls 67 = .ok (.ifCond .eq 7, 3) := by decide +kernel
theorem dX11_befalls_70 : decode cX11_befalls 70 = .ok (.iconst 4, 1) := by decide +kernel
theorem dX11_befalls_71 : decode cX11_befalls 71 = .ok (.goto 9, 3) := by decide +kernel
theorem dX11_befalls_74 : decode cX11_befalls 74 = .ok (.aload_n 0, 1) := by decide +kernel
theorem dX11_befalls_75 : decode cX11_befalls 75 = .ok (.iload_n 1, 1) := by decide +kernel
theorem dX11_befalls_76 : decode cX11_befalls 76 = .ok (.iload_n 2, 1) := by decide +kernel
theorem dX11_befalls_77 : decode cX11_befalls 77 = .ok (.invokevirtual 222, 3) := by decide +kernel
theorem dX11_befalls_80 : decode cX11_befalls 80 = .ok (.ireturn, 1) := by decide +kernel
theorem dX11_restOf_0 : decode cX11_restOf 0 = .ok (.iload_n 0, 1) := by decide +kernel
theorem dX11_restOf_1 : decode cX11_restOf 1 = .ok (.iconst 3, 1) := by decide +kernel
theorem dX11_restOf_2 : decode cX11_restOf 2 = .ok (.if_icmp .ge 7, 3) := by decide +kernel
theorem dX11_restOf_5 : decode cX11_restOf 5 = .ok (.iconst 0, 1) := by decide +kernel
theorem dX11_restOf_6 : decode cX11_restOf 6 = .ok (.goto 23, 3) := by decide +kernel
theorem dX11_restOf_9 : decode cX11_restOf 9 = .ok (.iload_n 0, 1) := by decide +kernel
theorem dX11_restOf_10 : decode cX11_restOf 10 = .ok (.iconst 5, 1) := by decide +kernel
theorem dX11_restOf_11 : decode cX11_restOf 11 = .ok (.if_icmp .ge 7, 3) := by decide +kernel
theorem dX11_restOf_14 : decode cX11_restOf 14 = .ok (.iconst 1, 1) := by decide +kernel
theorem dX11_restOf_15 : decode cX11_restOf 15 = .ok (.goto 14, 3) := by decide +kernel
theorem dX11_restOf_18 : decode cX11_restOf 18 = .ok (.iload_n 0, 1) := by decide +kernel
theorem dX11_restOf_19 : decode cX11_restOf 19 = .ok (.bipush 8, 2) := by decide +kernel
theorem dX11_restOf_21 : decode cX11_restOf 21 = .ok (.if_icmp .ge 7, 3) := by decide +kernel
theorem dX11_restOf_24 : decode cX11_restOf 24 = .ok (.iconst 2, 1) := by decide +kernel
theorem dX11_restOf_25 : decode cX11_restOf 25 = .ok (.goto 4, 3) := by decide +kernel
theorem dX11_restOf_28 : decode cX11_restOf 28 = .ok (.iconst 4, 1) := by decide +kernel
theorem dX11_restOf_29 : decode cX11_restOf 29 = .ok (.ireturn, 1) := by decide +kernel
theorem dX11_scansPage_0 : decode cX11_scansPage 0 = .ok (.aload_n 0, 1) := by decide +kernel
theorem dX11_scansPage_1 : decode cX11_scansPage 1 = .ok (.getfield 10, 3) := by decide +kernel
theorem dX11_scansPage_4 : decode cX11_scansPage 4 = .ok (.iload_n 1, 1) := by decide +kernel
theorem dX11_scansPage_5 : decode cX11_scansPage 5 = .ok (.iconst 4, 1) := by decide +kernel
theorem dX11_scansPage_6 : decode cX11_scansPage 6 = .ok (.iadd, 1) := by decide +kernel
theorem dX11_scansPage_7 : decode cX11_scansPage 7 = .ok (.dup2, 1) := by decide +kernel
theorem dX11_scansPage_8 : decode cX11_scansPage 8 = .ok (.iaload, 1) := by decide +kernel
theorem dX11_scansPage_9 : decode cX11_scansPage 9 = .ok (.iconst 1, 1) := by decide +kernel
theorem dX11_scansPage_10 : decode cX11_scansPage 10 = .ok (.iadd, 1) := by decide +kernel
theorem dX11_scansPage_11 : decode cX11_scansPage 11 = .ok (.iastore, 1) := by decide +kernel
theorem dX11_scansPage_12 : decode cX11_scansPage 12 = .ok (.aload_n 0, 1) := by decide +kernel
theorem dX11_scansPage_13 : decode cX11_scansPage 13 = .ok (.getfield 10, 3) := by decide +kernel
theorem dX11_scansPage_16 : decode cX11_scansPage 16 = .ok (.iload_n 1, 1) := by decide +kernel
theorem dX11_scansPage_17 : decode cX11_scansPage 17 = .ok (.bipush 11, 2) := by decide +kernel
theorem dX11_scansPage_19 : decode cX11_scansPage 19 = .ok (.iadd, 1) := by decide +kernel
theorem dX11_scansPage_20 : decode cX11_scansPage 20 = .ok (.dup2, 1) := by decide +kernel
theorem dX11_scansPage_21 : decode cX11_scansPage 21 = .ok (.iaload, 1) := by decide +kernel
theorem dX11_scansPage_22 : decode cX11_scansPage 22 = .ok (.iconst 1, 1) := by decide +kernel
theorem dX11_scansPage_23 : decode cX11_scansPage 23 = .ok (.iadd, 1) := by decide +kernel
theorem dX11_scansPage_24 : decode cX11_scansPage 24 = .ok (.iastore, 1) := by decide +kernel
theorem dX11_scansPage_25 : decode cX11_scansPage 25 = .ok (.aload_n 0, 1) := by decide +kernel
theorem dX11_scansPage_26 : decode cX11_scansPage 26 = .ok (.iload_n 1, 1) := by decide +kernel
theorem dX11_scansPage_27 : decode cX11_scansPage 27 = .ok (.iload_n 2, 1) := by decide +kernel
theorem dX11_scansPage_28 : decode cX11_scansPage 28 = .ok (.invokevirtual 225, 3) := by decide +kernel
theorem dX11_scansPage_31 : decode cX11_scansPage 31 = .ok (.istore_n 3, 1) := by decide +kernel
theorem dX11_scansPage_32 : decode cX11_scansPage 32 = .ok (.aload_n 0, 1) := by decide +kernel
theorem dX11_scansPage_33 : decode cX11_scansPage 33 = .ok (.getfield 10, 3) := by decide +kernel
theorem dX11_scansPage_36 : decode cX11_scansPage 36 = .ok (.iload_n 1, 1) := by decide +kernel
theorem dX11_scansPage_37 : decode cX11_scansPage 37 = .ok (.bipush 112, 2) := by decide +kernel
theorem dX11_scansPage_39 : decode cX11_scansPage 39 = .ok (.iadd, 1) := by decide +kernel
theorem dX11_scansPage_40 : decode cX11_scansPage 40 = .ok (.iload_n 2, 1) := by decide +kernel
theorem dX11_scansPage_41 : decode cX11_scansPage 41 = .ok (.iadd, 1) := by decide +kernel
theorem dX11_scansPage_42 : decode cX11_scansPage 42 = .ok (.iload_n 3, 1) := by decide +kernel
theorem dX11_scansPage_43 : decode cX11_scansPage 43 = .ok (.iastore, 1) := by decide +kernel
theorem dX11_scansPage_44 : decode cX11_scansPage 44 = .ok (.iload_n 3, 1) := by decide +kernel
theorem dX11_scansPage_45 : decode cX11_scansPage 45 = .ok (.iconst 4, 1) := by decide +kernel
theorem dX11_scansPage_46 : decode cX11_scansPage 46 = .ok (.if_icmp .ne 10, 3) := by decide +kernel
theorem dX11_scansPage_49 : decode cX11_scansPage 49 = .ok (.aload_n 0, 1) := by decide +kernel
theorem dX11_scansPage_50 : decode cX11_scansPage 50 = .ok (.iload_n 1, 1) := by decide +kernel
theorem dX11_scansPage_51 : decode cX11_scansPage 51 = .ok (.iload_n 2, 1) := by decide +kernel
theorem dX11_scansPage_52 : decode cX11_scansPage 52 = .ok (.invokevirtual 228, 3) := by decide +kernel
theorem dX11_scansPage_55 : decode cX11_scansPage 55 = .ok (.pop, 1) := by decide +kernel
theorem dX11_scansPage_56 : decode cX11_scansPage 56 = .ok (.iload_n 3, 1) := by decide +kernel
theorem dX11_scansPage_57 : decode cX11_scansPage 57 = .ok (.iconst 1, 1) := by decide +kernel
theorem dX11_scansPage_58 : decode cX11_scansPage 58 = .ok (.if_icmp .eq 8, 3) := by decide +kernel
theorem dX11_scansPage_61 : decode cX11_scansPage 61 = .ok (.iload_n 3, 1) := by decide +kernel
theorem dX11_scansPage_62 : decode cX11_scansPage 62 = .ok (.iconst 4, 1) := by decide +kernel
theorem dX11_scansPage_63 : decode cX11_scansPage 63 = .ok (.if_icmp .ne 16, 3) := by decide +kernel
theorem dX11_scansPage_66 : decode cX11_scansPage 66 = .ok (.aload_n 0, 1) := by decide +kernel
theorem dX11_scansPage_67 : decode cX11_scansPage 67 = .ok (.getfield 10, 3) := by decide +kernel
theorem dX11_scansPage_70 : decode cX11_scansPage 70 = .ok (.iload_n 1, 1) := by decide +kernel
theorem dX11_scansPage_71 : decode cX11_scansPage 71 = .ok (.sipush 160, 3) := by decide +kernel
theorem dX11_scansPage_74 : decode cX11_scansPage 74 = .ok (.iadd, 1) := by decide +kernel
theorem dX11_scansPage_75 : decode cX11_scansPage 75 = .ok (.iload_n 2, 1) := by decide +kernel
theorem dX11_scansPage_76 : decode cX11_scansPage 76 = .ok (.iadd, 1) := by decide +kernel
theorem dX11_scansPage_77 : decode cX11_scansPage 77 = .ok (.iconst (-1), 1) := by decide +kernel
theorem dX11_scansPage_78 : decode cX11_scansPage 78 = .ok (.iastore, 1) := by decide +kernel
theorem dX11_scansPage_79 : decode cX11_scansPage 79 = .ok (.aload_n 0, 1) := by decide +kernel
theorem dX11_scansPage_80 : decode cX11_scansPage 80 = .ok (.getfield 10, 3) := by decide +kernel
theorem dX11_scansPage_83 : decode cX11_scansPage 83 = .ok (.iload_n 1, 1) := by decide +kernel
theorem dX11_scansPage_84 : decode cX11_scansPage 84 = .ok (.bipush 7, 2) := by decide +kernel
theorem dX11_scansPage_86 : decode cX11_scansPage 86 = .ok (.iadd, 1) := by decide +kernel
theorem dX11_scansPage_87 : decode cX11_scansPage 87 = .ok (.dup2, 1) := by decide +kernel
theorem dX11_scansPage_88 : decode cX11_scansPage 88 = .ok (.iaload, 1) := by decide +kernel
theorem dX11_scansPage_89 : decode cX11_scansPage 89 = .ok (.iload_n 3, 1) := by decide +kernel
theorem dX11_scansPage_90 : decode cX11_scansPage 90 = .ok (.iconst 4, 1) := by decide +kernel
theorem dX11_scansPage_91 : decode cX11_scansPage 91 = .ok (.if_icmp .ne 7, 3) := by decide +kernel
theorem dX11_scansPage_94 : decode cX11_scansPage 94 = .ok (.iconst 1, 1) := by decide +kernel
theorem dX11_scansPage_95 : decode cX11_scansPage 95 = .ok (.goto 4, 3) := by decide +kernel
theorem dX11_scansPage_98 : decode cX11_scansPage 98 = .ok (.iconst 0, 1) := by decide +kernel
theorem dX11_scansPage_99 : decode cX11_scansPage 99 = .ok (.iadd, 1) := by decide +kernel
theorem dX11_scansPage_100 : decode cX11_scansPage 100 = .ok (.iastore, 1) := by decide +kernel
theorem dX11_scansPage_101 : decode cX11_scansPage 101 = .ok (.aload_n 0, 1) := by decide +kernel
theorem dX11_scansPage_102 : decode cX11_scansPage 102 = .ok (.getfield 10, 3) := by decide +kernel
theorem dX11_scansPage_105 : decode cX11_scansPage 105 = .ok (.iload_n 1, 1) := by decide +kernel
theorem dX11_scansPage_106 : decode cX11_scansPage 106 = .ok (.iconst 5, 1) := by decide +kernel
theorem dX11_scansPage_107 : decode cX11_scansPage 107 = .ok (.iadd, 1) := by decide +kernel
theorem dX11_scansPage_108 : decode cX11_scansPage 108 = .ok (.dup2, 1) := by decide +kernel
theorem dX11_scansPage_109 : decode cX11_scansPage 109 = .ok (.iaload, 1) := by decide +kernel
theorem dX11_scansPage_110 : decode cX11_scansPage 110 = .ok (.iload_n 3, 1) := by decide +kernel
theorem dX11_scansPage_111 : decode cX11_scansPage 111 = .ok (.iconst 5, 1) := by decide +kernel
theorem dX11_scansPage_112 : decode cX11_scansPage 112 = .ok (.if_icmp .ne 7, 3) := by decide +kernel
theorem dX11_scansPage_115 : decode cX11_scansPage 115 = .ok (.iconst 1, 1) := by decide +kernel
theorem dX11_scansPage_116 : decode cX11_scansPage 116 = .ok (.goto 4, 3) := by decide +kernel
theorem dX11_scansPage_119 : decode cX11_scansPage 119 = .ok (.iconst 0, 1) := by decide +kernel
theorem dX11_scansPage_120 : decode cX11_scansPage 120 = .ok (.iadd, 1) := by decide +kernel
theorem dX11_scansPage_121 : decode cX11_scansPage 121 = .ok (.iastore, 1) := by decide +kernel
theorem dX11_scansPage_122 : decode cX11_scansPage 122 = .ok (.aload_n 0, 1) := by decide +kernel
theorem dX11_scansPage_123 : decode cX11_scansPage 123 = .ok (.getfield 10, 3) := by decide +kernel
theorem dX11_scansPage_126 : decode cX11_scansPage 126 = .ok (.iload_n 1, 1) := by decide +kernel
theorem dX11_scansPage_127 : decode cX11_scansPage 127 = .ok (.bipush 6, 2) := by decide +kernel
theorem dX11_scansPage_129 : decode cX11_scansPage 129 = .ok (.iadd, 1) := by decide +kernel
theorem dX11_scansPage_130 : decode cX11_scansPage 130 = .ok (.dup2, 1) := by decide +kernel
theorem dX11_scansPage_131 : decode cX11_scansPage 131 = .ok (.iaload, 1) := by decide +kernel
theorem dX11_scansPage_132 : decode cX11_scansPage 132 = .ok (.iload_n 3, 1) := by decide +kernel
theorem dX11_scansPage_133 : decode cX11_scansPage 133 = .ok (.bipush 8, 2) := by decide +kernel
theorem dX11_scansPage_135 : decode cX11_scansPage 135 = .ok (.if_icmp .ne 7, 3) := by decide +kernel
theorem dX11_scansPage_138 : decode cX11_scansPage 138 = .ok (.iconst 1, 1) := by decide +kernel
theorem dX11_scansPage_139 : decode cX11_scansPage 139 = .ok (.goto 4, 3) := by decide +kernel
theorem dX11_scansPage_142 : decode cX11_scansPage 142 = .ok (.iconst 0, 1) := by decide +kernel
theorem dX11_scansPage_143 : decode cX11_scansPage 143 = .ok (.iadd, 1) := by decide +kernel
theorem dX11_scansPage_144 : decode cX11_scansPage 144 = .ok (.iastore, 1) := by decide +kernel
theorem dX11_scansPage_145 : decode cX11_scansPage 145 = .ok (.iload_n 3, 1) := by decide +kernel
theorem dX11_scansPage_146 : decode cX11_scansPage 146 = .ok (.iconst 3, 1) := by decide +kernel
theorem dX11_scansPage_147 : decode cX11_scansPage 147 = .ok (.if_icmp .ne 22, 3) := by decide +kernel
theorem dX11_scansPage_150 : decode cX11_scansPage 150 = .ok (.aload_n 0, 1) := by decide +kernel
theorem dX11_scansPage_151 : decode cX11_scansPage 151 = .ok (.getfield 10, 3) := by decide +kernel
theorem dX11_scansPage_154 : decode cX11_scansPage 154 = .ok (.iload_n 1, 1) := by decide +kernel
theorem dX11_scansPage_155 : decode cX11_scansPage 155 = .ok (.sipush 256, 3) := by decide +kernel
theorem dX11_scansPage_158 : decode cX11_scansPage 158 = .ok (.iadd, 1) := by decide +kernel
theorem dX11_scansPage_159 : decode cX11_scansPage 159 = .ok (.iload_n 2, 1) := by decide +kernel
theorem dX11_scansPage_160 : decode cX11_scansPage 160 = .ok (.iadd, 1) := by decide +kernel
theorem dX11_scansPage_161 : decode cX11_scansPage 161 = .ok (.dup2, 1) := by decide +kernel
theorem dX11_scansPage_162 : decode cX11_scansPage 162 = .ok (.iaload, 1) := by decide +kernel
theorem dX11_scansPage_163 : decode cX11_scansPage 163 = .ok (.iconst 1, 1) := by decide +kernel
theorem dX11_scansPage_164 : decode cX11_scansPage 164 = .ok (.isub, 1) := by decide +kernel
theorem dX11_scansPage_165 : decode cX11_scansPage 165 = .ok (.iastore, 1) := by decide +kernel
theorem dX11_scansPage_166 : decode cX11_scansPage 166 = .ok (.goto 72, 3) := by decide +kernel
theorem dX11_scansPage_169 : decode cX11_scansPage 169 = .ok (.aload_n 0, 1) := by decide +kernel
theorem dX11_scansPage_170 : decode cX11_scansPage 170 = .ok (.getfield 10, 3) := by decide +kernel
theorem dX11_scansPage_173 : decode cX11_scansPage 173 = .ok (.iload_n 1, 1) := by decide +kernel
theorem dX11_scansPage_174 : decode cX11_scansPage 174 = .ok (.sipush 208, 3) := by decide +kernel
theorem dX11_scansPage_177 : decode cX11_scansPage 177 = .ok (.iadd, 1) := by decide +kernel
theorem dX11_scansPage_178 : decode cX11_scansPage 178 = .ok (.iload_n 2, 1) := by decide +kernel
theorem dX11_scansPage_179 : decode cX11_scansPage 179 = .ok (.iadd, 1) := by decide +kernel
theorem dX11_scansPage_180 : decode cX11_scansPage 180 = .ok (.iload_n 3, 1) := by decide +kernel
theorem dX11_scansPage_181 : decode cX11_scansPage 181 = .ok (.bipush 7, 2) := by decide +kernel
theorem dX11_scansPage_183 : decode cX11_scansPage 183 = .ok (.if_icmp .eq 9, 3) := by decide +kernel
theorem dX11_scansPage_186 : decode cX11_scansPage 186 = .ok (.iload_n 3, 1) := by decide +kernel
theorem dX11_scansPage_187 : decode cX11_scansPage 187 = .ok (.bipush 9, 2) := by decide +kernel
theorem dX11_scansPage_189 : decode cX11_scansPage 189 = .ok (.if_icmp .ne 20, 3) := by decide +kernel
theorem dX11_scansPage_192 : decode cX11_scansPage 192 = .ok (.aload_n 0, 1) := by decide +kernel
theorem dX11_scansPage_193 : decode cX11_scansPage 193 = .ok (.getfield 10, 3) := by decide +kernel
theorem dX11_scansPage_196 : decode cX11_scansPage 196 = .ok (.iload_n 1, 1) := by decide +kernel
theorem dX11_scansPage_197 : decode cX11_scansPage 197 = .ok (.sipush 208, 3) := by decide +kernel
theorem dX11_scansPage_200 : decode cX11_scansPage 200 = .ok (.iadd, 1) := by decide +kernel
theorem dX11_scansPage_201 : decode cX11_scansPage 201 = .ok (.iload_n 2, 1) := by decide +kernel
theorem dX11_scansPage_202 : decode cX11_scansPage 202 = .ok (.iadd, 1) := by decide +kernel
theorem dX11_scansPage_203 : decode cX11_scansPage 203 = .ok (.iaload, 1) := by decide +kernel
theorem dX11_scansPage_204 : decode cX11_scansPage 204 = .ok (.iconst 1, 1) := by decide +kernel
theorem dX11_scansPage_205 : decode cX11_scansPage 205 = .ok (.iadd, 1) := by decide +kernel
theorem dX11_scansPage_206 : decode cX11_scansPage 206 = .ok (.goto 4, 3) := by decide +kernel
theorem dX11_scansPage_209 : decode cX11_scansPage 209 = .ok (.iconst 0, 1) := by decide +kernel
theorem dX11_scansPage_210 : decode cX11_scansPage 210 = .ok (.iastore, 1) := by decide +kernel
theorem dX11_scansPage_211 : decode cX11_scansPage 211 = .ok (.aload_n 0, 1) := by decide +kernel
theorem dX11_scansPage_212 : decode cX11_scansPage 212 = .ok (.getfield 10, 3) := by decide +kernel
theorem dX11_scansPage_215 : decode cX11_scansPage 215 = .ok (.iload_n 1, 1) := by decide +kernel
theorem dX11_scansPage_216 : decode cX11_scansPage 216 = .ok (.sipush 256, 3) := by decide +kernel
theorem dX11_scansPage_219 : decode cX11_scansPage 219 = .ok (.iadd, 1) := by decide +kernel
theorem dX11_scansPage_220 : decode cX11_scansPage 220 = .ok (.iload_n 2, 1) := by decide +kernel
theorem dX11_scansPage_221 : decode cX11_scansPage 221 = .ok (.iadd, 1) := by decide +kernel
theorem dX11_scansPage_222 : decode cX11_scansPage 222 = .ok (.aload_n 0, 1) := by decide +kernel
theorem dX11_scansPage_223 : decode cX11_scansPage 223 = .ok (.getfield 10, 3) := by decide +kernel
theorem dX11_scansPage_226 : decode cX11_scansPage 226 = .ok (.iload_n 1, 1) := by decide +kernel
theorem dX11_scansPage_227 : decode cX11_scansPage 227 = .ok (.sipush 208, 3) := by decide +kernel
theorem dX11_scansPage_230 : decode cX11_scansPage 230 = .ok (.iadd, 1) := by decide +kernel
theorem dX11_scansPage_231 : decode cX11_scansPage 231 = .ok (.iload_n 2, 1) := by decide +kernel
theorem dX11_scansPage_232 : decode cX11_scansPage 232 = .ok (.iadd, 1) := by decide +kernel
theorem dX11_scansPage_233 : decode cX11_scansPage 233 = .ok (.iaload, 1) := by decide +kernel
theorem dX11_scansPage_234 : decode cX11_scansPage 234 = .ok (.invokestatic 231, 3) := by decide +kernel
theorem dX11_scansPage_237 : decode cX11_scansPage 237 = .ok (.iastore, 1) := by decide +kernel
theorem dX11_scansPage_238 : decode cX11_scansPage 238 = .ok (.iload_n 3, 1) := by decide +kernel
theorem dX11_scansPage_239 : decode cX11_scansPage 239 = .ok (.iconst 4, 1) := by decide +kernel
theorem dX11_scansPage_240 : decode cX11_scansPage 240 = .ok (.if_icmp .eq 14, 3) := by decide +kernel
theorem dX11_scansPage_243 : decode cX11_scansPage 243 = .ok (.iload_n 3, 1) := by decide +kernel
theorem dX11_scansPage_244 : decode cX11_scansPage 244 = .ok (.iconst 5, 1) := by decide +kernel
theorem dX11_scansPage_245 : decode cX11_scansPage 245 = .ok (.if_icmp .eq 9, 3) := by decide +kernel
theorem dX11_scansPage_248 : decode cX11_scansPage 248 = .ok (.iload_n 3, 1) := by decide +kernel
theorem dX11_scansPage_249 : decode cX11_scansPage 249 = .ok (.bipush 8, 2) := by decide +kernel
theorem dX11_scansPage_251 : decode cX11_scansPage 251 = .ok (.if_icmp .ne 7, 3) := by decide +kernel
theorem dX11_scansPage_254 : decode cX11_scansPage 254 = .ok (.iconst 1, 1) := by decide +kernel
theorem dX11_scansPage_255 : decode cX11_scansPage 255 = .ok (.goto 4, 3) := by decide +kernel
theorem dX11_scansPage_258 : decode cX11_scansPage 258 = .ok (.iconst 0, 1) := by decide +kernel
theorem dX11_scansPage_259 : decode cX11_scansPage 259 = .ok (.istore 4, 2) := by decide +kernel
theorem dX11_scansPage_261 : decode cX11_scansPage 261 = .ok (.aload_n 0, 1) := by decide +kernel
theorem dX11_scansPage_262 : decode cX11_scansPage 262 = .ok (.getfield 10, 3) := by decide +kernel
theorem dX11_scansPage_265 : decode cX11_scansPage 265 = .ok (.iload_n 1, 1) := by decide +kernel
theorem dX11_scansPage_266 : decode cX11_scansPage 266 = .ok (.bipush 10, 2) := by decide +kernel
theorem dX11_scansPage_268 : decode cX11_scansPage 268 = .ok (.iadd, 1) := by decide +kernel
theorem dX11_scansPage_269 : decode cX11_scansPage 269 = .ok (.dup2, 1) := by decide +kernel
theorem dX11_scansPage_270 : decode cX11_scansPage 270 = .ok (.iaload, 1) := by decide +kernel
theorem dX11_scansPage_271 : decode cX11_scansPage 271 = .ok (.iload 4, 2) := by decide +kernel
theorem dX11_scansPage_273 : decode cX11_scansPage 273 = .ok (.iadd, 1) := by decide +kernel
theorem dX11_scansPage_274 : decode cX11_scansPage 274 = .ok (.iastore, 1) := by decide +kernel
theorem dX11_scansPage_275 : decode cX11_scansPage 275 = .ok (.iload 4, 2) := by decide +kernel
theorem dX11_scansPage_277 : decode cX11_scansPage 277 = .ok (.ireturn, 1) := by decide +kernel
theorem dX11_scans_0 : decode cX11_scans 0 = .ok (.iconst 0, 1) := by decide +kernel
theorem dX11_scans_1 : decode cX11_scans 1 = .ok (.istore_n 3, 1) := by decide +kernel
theorem dX11_scans_2 : decode cX11_scans 2 = .ok (.iconst 0, 1) := by decide +kernel
theorem dX11_scans_3 : decode cX11_scans 3 = .ok (.istore 4, 2) := by decide +kernel
theorem dX11_scans_5 : decode cX11_scans 5 = .ok (.iload 4, 2) := by decide +kernel
theorem dX11_scans_7 : decode cX11_scans 7 = .ok (.iload_n 2, 1) := by decide +kernel
theorem dX11_scans_8 : decode cX11_scans 8 = .ok (.if_icmp .ge 75, 3) := by decide +kernel
theorem dX11_scans_11 : decode cX11_scans 11 = .ok (.aload_n 0, 1) := by decide +kernel
theorem dX11_scans_12 : decode cX11_scans 12 = .ok (.iload_n 1, 1) := by decide +kernel
theorem dX11_scans_13 : decode cX11_scans 13 = .ok (.aload_n 0, 1) := by decide +kernel
theorem dX11_scans_14 : decode cX11_scans 14 = .ok (.getfield 10, 3) := by decide +kernel
theorem dX11_scans_17 : decode cX11_scans 17 = .ok (.iload_n 1, 1) := by decide +kernel
theorem dX11_scans_18 : decode cX11_scans 18 = .ok (.bipush 9, 2) := by decide +kernel
theorem dX11_scans_20 : decode cX11_scans 20 = .ok (.iadd, 1) := by decide +kernel
theorem dX11_scans_21 : decode cX11_scans 21 = .ok (.iaload, 1) := by decide +kernel
theorem dX11_scans_22 : decode cX11_scans 22 = .ok (.invokevirtual 234, 3) := by decide +kernel
theorem dX11_scans_25 : decode cX11_scans 25 = .ok (.istore 5, 2) := by decide +kernel
theorem dX11_scans_27 : decode cX11_scans 27 = .ok (.iload 5, 2) := by decide +kernel
theorem dX11_scans_29 : decode cX11_scans 29 = .ok (.iconst (-1), 1) := by decide +kernel
theorem dX11_scans_30 : decode cX11_scans 30 = .ok (.if_icmp .ne 24, 3) := by decide +kernel
theorem dX11_scans_33 : decode cX11_scans 33 = .ok (.aload_n 0, 1) := by decide +kernel
theorem dX11_scans_34 : decode cX11_scans 34 = .ok (.iload_n 1, 1) := by decide +kernel
theorem dX11_scans_35 : decode cX11_scans 35 = .ok (.iconst 0, 1) := by decide +kernel
theorem dX11_scans_36 : decode cX11_scans 36 = .ok (.invokevirtual 234, 3) := by decide +kernel
theorem dX11_scans_39 : decode cX11_scans 39 = .ok (.istore 5, 2) := by decide +kernel
theorem dX11_scans_41 : decode cX11_scans 41 = .ok (.iload 5, 2) := by decide +kernel
theorem dX11_scans_43 : decode cX11_scans 43 = .ok (.iconst (-1), 1) := by decide +kernel
theorem dX11_scans_44 : decode cX11_scans 44 = .ok (.if_icmp .ne 5, 3) := by decide +kernel
theorem dX11_scans_47 : decode cX11_scans 47 = .ok (.iload_n 3, 1) := by decide +kernel
theorem dX11_scans_48 : decode cX11_scans 48 = .ok (.ireturn, 1) := by decide +kernel
theorem dX11_scans_49 : decode cX11_scans 49 = .ok (.aload_n 0, 1) := by decide +kernel
theorem dX11_scans_50 : decode cX11_scans 50 = .ok (.iload_n 1, 1) := by decide +kernel
theorem dX11_scans_51 : decode cX11_scans 51 = .ok (.invokevirtual 237, 3) := by decide +kernel
theorem dX11_scans_54 : decode cX11_scans 54 = .ok (.aload_n 0, 1) := by decide +kernel
theorem dX11_scans_55 : decode cX11_scans 55 = .ok (.getfield 10, 3) := by decide +kernel
theorem dX11_scans_58 : decode cX11_scans 58 = .ok (.iload_n 1, 1) := by decide +kernel
theorem dX11_scans_59 : decode cX11_scans 59 = .ok (.bipush 9, 2) := by decide +kernel
theorem dX11_scans_61 : decode cX11_scans 61 = .ok (.iadd, 1) := by decide +kernel
theorem dX11_scans_62 : decode cX11_scans 62 = .ok (.iload 5, 2) := by decide +kernel
theorem dX11_scans_64 : decode cX11_scans 64 = .ok (.iconst 1, 1) := by decide +kernel
theorem dX11_scans_65 : decode cX11_scans 65 = .ok (.iadd, 1) := by decide +kernel
theorem dX11_scans_66 : decode cX11_scans 66 = .ok (.iastore, 1) := by decide +kernel
theorem dX11_scans_67 : decode cX11_scans 67 = .ok (.iload_n 3, 1) := by decide +kernel
theorem dX11_scans_68 : decode cX11_scans 68 = .ok (.aload_n 0, 1) := by decide +kernel
theorem dX11_scans_69 : decode cX11_scans 69 = .ok (.iload_n 1, 1) := by decide +kernel
theorem dX11_scans_70 : decode cX11_scans 70 = .ok (.iload 5, 2) := by decide +kernel
theorem dX11_scans_72 : decode cX11_scans 72 = .ok (.invokevirtual 241, 3) := by decide +kernel
theorem dX11_scans_75 : decode cX11_scans 75 = .ok (.iadd, 1) := by decide +kernel
theorem dX11_scans_76 : decode cX11_scans 76 = .ok (.istore_n 3, 1) := by decide +kernel
theorem dX11_scans_77 : decode cX11_scans 77 = .ok (.iinc 4 1, 3) := by decide +kernel
theorem dX11_scans_80 : decode cX11_scans 80 = .ok (.goto (-75), 3) := by decide +kernel
theorem dX11_scans_83 : decode cX11_scans 83 = .ok (.iload_n 3, 1) := by decide +kernel
theorem dX11_scans_84 : decode cX11_scans 84 = .ok (.ireturn, 1) := by decide +kernel
theorem dX11_ticksOf_0 : decode cX11_ticksOf 0 = .ok (.iconst 0, 1) := by decide +kernel
theorem dX11_ticksOf_1 : decode cX11_ticksOf 1 = .ok (.istore_n 3, 1) := by decide +kernel
theorem dX11_ticksOf_2 : decode cX11_ticksOf 2 = .ok (.iconst 0, 1) := by decide +kernel
theorem dX11_ticksOf_3 : decode cX11_ticksOf 3 = .ok (.istore 4, 2) := by decide +kernel
theorem dX11_ticksOf_5 : decode cX11_ticksOf 5 = .ok (.iload 4, 2) := by decide +kernel
theorem dX11_ticksOf_7 : decode cX11_ticksOf 7 = .ok (.iload_n 2, 1) := by decide +kernel
theorem dX11_ticksOf_8 : decode cX11_ticksOf 8 = .ok (.if_icmp .ge 37, 3) := by decide +kernel
theorem dX11_ticksOf_11 : decode cX11_ticksOf 11 = .ok (.iload_n 3, 1) := by decide +kernel
theorem dX11_ticksOf_12 : decode cX11_ticksOf 12 = .ok (.aload_n 0, 1) := by decide +kernel
theorem dX11_ticksOf_13 : decode cX11_ticksOf 13 = .ok (.iload_n 1, 1) := by decide +kernel
theorem dX11_ticksOf_14 : decode cX11_ticksOf 14 = .ok (.aload_n 0, 1) := by decide +kernel
theorem dX11_ticksOf_15 : decode cX11_ticksOf 15 = .ok (.getfield 10, 3) := by decide +kernel
theorem dX11_ticksOf_18 : decode cX11_ticksOf 18 = .ok (.iload_n 1, 1) := by decide +kernel
theorem dX11_ticksOf_19 : decode cX11_ticksOf 19 = .ok (.iconst 0, 1) := by decide +kernel
theorem dX11_ticksOf_20 : decode cX11_ticksOf 20 = .ok (.iadd, 1) := by decide +kernel
theorem dX11_ticksOf_21 : decode cX11_ticksOf 21 = .ok (.iaload, 1) := by decide +kernel
theorem dX11_ticksOf_22 : decode cX11_ticksOf 22 = .ok (.invokevirtual 244, 3) := by decide +kernel
theorem dX11_ticksOf_25 : decode cX11_ticksOf 25 = .ok (.iadd, 1) := by decide +kernel
theorem dX11_ticksOf_26 : decode cX11_ticksOf 26 = .ok (.istore_n 3, 1) := by decide +kernel
theorem dX11_ticksOf_27 : decode cX11_ticksOf 27 = .ok (.aload_n 0, 1) := by decide +kernel
theorem dX11_ticksOf_28 : decode cX11_ticksOf 28 = .ok (.getfield 10, 3) := by decide +kernel
theorem dX11_ticksOf_31 : decode cX11_ticksOf 31 = .ok (.iload_n 1, 1) := by decide +kernel
theorem dX11_ticksOf_32 : decode cX11_ticksOf 32 = .ok (.iconst 2, 1) := by decide +kernel
theorem dX11_ticksOf_33 : decode cX11_ticksOf 33 = .ok (.iadd, 1) := by decide +kernel
theorem dX11_ticksOf_34 : decode cX11_ticksOf 34 = .ok (.dup2, 1) := by decide +kernel
theorem dX11_ticksOf_35 : decode cX11_ticksOf 35 = .ok (.iaload, 1) := by decide +kernel
theorem dX11_ticksOf_36 : decode cX11_ticksOf 36 = .ok (.iconst 1, 1) := by decide +kernel
theorem dX11_ticksOf_37 : decode cX11_ticksOf 37 = .ok (.iadd, 1) := by decide +kernel
theorem dX11_ticksOf_38 : decode cX11_ticksOf 38 = .ok (.iastore, 1) := by decide +kernel
theorem dX11_ticksOf_39 : decode cX11_ticksOf 39 = .ok (.iinc 4 1, 3) := by decide +kernel
theorem dX11_ticksOf_42 : decode cX11_ticksOf 42 = .ok (.goto (-37), 3) := by decide +kernel
theorem dX11_ticksOf_45 : decode cX11_ticksOf 45 = .ok (.iload_n 3, 1) := by decide +kernel
theorem dX11_ticksOf_46 : decode cX11_ticksOf 46 = .ok (.ireturn, 1) := by decide +kernel
theorem dX11_isLetter_0 : decode cX11_isLetter 0 = .ok (.iload_n 0, 1) := by decide +kernel
theorem dX11_isLetter_1 : decode cX11_isLetter 1 = .ok (.bipush 97, 2) := by decide +kernel
theorem dX11_isLetter_3 : decode cX11_isLetter 3 = .ok (.if_icmp .lt 13, 3) := by decide +kernel
theorem dX11_isLetter_6 : decode cX11_isLetter 6 = .ok (.iload_n 0, 1) := by decide +kernel
theorem dX11_isLetter_7 : decode cX11_isLetter 7 = .ok (.bipush 122, 2) := by decide +kernel
theorem dX11_isLetter_9 : decode cX11_isLetter 9 = .ok (.if_icmp .gt 7, 3) := by decide +kernel
theorem dX11_isLetter_12 : decode cX11_isLetter 12 = .ok (.iconst 1, 1) := by decide +kernel
theorem dX11_isLetter_13 : decode cX11_isLetter 13 = .ok (.goto 4, 3) := by decide +kernel
theorem dX11_isLetter_16 : decode cX11_isLetter 16 = .ok (.iconst 0, 1) := by decide +kernel
theorem dX11_isLetter_17 : decode cX11_isLetter 17 = .ok (.ireturn, 1) := by decide +kernel
theorem dX11_byteAt_0 : decode cX11_byteAt 0 = .ok (.iload_n 1, 1) := by decide +kernel
theorem dX11_byteAt_1 : decode cX11_byteAt 1 = .ok (.aload_n 0, 1) := by decide +kernel
theorem dX11_byteAt_2 : decode cX11_byteAt 2 = .ok (.getfield 247, 3) := by decide +kernel
theorem dX11_byteAt_5 : decode cX11_byteAt 5 = .ok (.if_icmp .ge 16, 3) := by decide +kernel
theorem dX11_byteAt_8 : decode cX11_byteAt 8 = .ok (.aload_n 0, 1) := by decide +kernel
theorem dX11_byteAt_9 : decode cX11_byteAt 9 = .ok (.getfield 48, 3) := by decide +kernel
theorem dX11_byteAt_12 : decode cX11_byteAt 12 = .ok (.iload_n 1, 1) := by decide +kernel
theorem dX11_byteAt_13 : decode cX11_byteAt 13 = .ok (.iaload, 1) := by decide +kernel
theorem dX11_byteAt_14 : decode cX11_byteAt 14 = .ok (.sipush 255, 3) := by decide +kernel
theorem dX11_byteAt_17 : decode cX11_byteAt 17 = .ok (.iand, 1) := by decide +kernel
theorem dX11_byteAt_18 : decode cX11_byteAt 18 = .ok (.goto 4, 3) := by decide +kernel
theorem dX11_byteAt_21 : decode cX11_byteAt 21 = .ok (.iconst 0, 1) := by decide +kernel
theorem dX11_byteAt_22 : decode cX11_byteAt 22 = .ok (.ireturn, 1) := by decide +kernel
theorem dX11_wordOf_0 : decode cX11_wordOf 0 = .ok (.iconst 0, 1) := by decide +kernel
theorem dX11_wordOf_1 : decode cX11_wordOf 1 = .ok (.istore_n 3, 1) := by decide +kernel
theorem dX11_wordOf_2 : decode cX11_wordOf 2 = .ok (.iload_n 1, 1) := by decide +kernel
theorem dX11_wordOf_3 : decode cX11_wordOf 3 = .ok (.istore 4, 2) := by decide +kernel
theorem dX11_wordOf_5 : decode cX11_wordOf 5 = .ok (.iconst 1, 1) := by decide +kernel
theorem dX11_wordOf_6 : decode cX11_wordOf 6 = .ok (.istore 5, 2) := by decide +kernel
theorem dX11_wordOf_8 : decode cX11_wordOf 8 = .ok (.iconst 0, 1) := by decide +kernel
theorem dX11_wordOf_9 : decode cX11_wordOf 9 = .ok (.istore 6, 2) := by decide +kernel
theorem dX11_wordOf_11 : decode cX11_wordOf 11 = .ok (.iload 6, 2) := by decide +kernel
theorem dX11_wordOf_13 : decode cX11_wordOf 13 = .ok (.getstatic 250, 3) := by decide +kernel
theorem dX11_wordOf_16 : decode cX11_wordOf 16 = .ok (.arraylength, 1) := by decide +kernel
theorem dX11_wordOf_17 : decode cX11_wordOf 17 = .ok (.if_icmp .ge 81, 3) := by decide +kernel
theorem dX11_wordOf_20 : decode cX11_wordOf 20 = .ok (.getstatic 250, 3) := by decide +kernel
theorem dX11_wordOf_23 : decode cX11_wordOf 23 = .ok (.iload 6, 2) := by decide +kernel
theorem dX11_wordOf_25 : decode cX11_wordOf 25 = .ok (.baload, 1) := by decide +kernel
theorem dX11_wordOf_26 : decode cX11_wordOf 26 = .ok (.bipush 32, 2) := by decide +kernel
theorem dX11_wordOf_28 : decode cX11_wordOf 28 = .ok (.if_icmp .ne 28, 3) := by decide +kernel
theorem dX11_wordOf_31 : decode cX11_wordOf 31 = .ok (.iload 5, 2) := by decide +kernel
theorem dX11_wordOf_33 : decode cX11_wordOf 33 = .ok (.ifCond .eq 11, 3) := by decide +kernel
theorem dX11_wordOf_36 : decode cX11_wordOf 36 = .ok (.iload 4, 2) := by decide +kernel
theorem dX11_wordOf_38 : decode cX11_wordOf 38 = .ok (.iload_n 2, 1) := by decide +kernel
theorem dX11_wordOf_39 : decode cX11_wordOf 39 = .ok (.if_icmp .ne 5, 3) := by decide +kernel
theorem dX11_wordOf_42 : decode cX11_wordOf 42 = .ok (.iload_n 3, 1) := by decide +kernel
theorem dX11_wordOf_43 : decode cX11_wordOf 43 = .ok (.ireturn, 1) := by decide +kernel
theorem dX11_wordOf_44 : decode cX11_wordOf 44 = .ok (.iinc 3 1, 3) := by decide +kernel
theorem dX11_wordOf_47 : decode cX11_wordOf 47 = .ok (.iload_n 1, 1) := by decide +kernel
theorem dX11_wordOf_48 : decode cX11_wordOf 48 = .ok (.istore 4, 2) := by decide +kernel
theorem dX11_wordOf_50 : decode cX11_wordOf 50 = .ok (.iconst 1, 1) := by decide +kernel
theorem dX11_wordOf_51 : decode cX11_wordOf 51 = .ok (.istore 5, 2) := by decide +kernel
theorem dX11_wordOf_53 : decode cX11_wordOf 53 = .ok (.goto 39, 3) := by decide +kernel
theorem dX11_wordOf_56 : decode cX11_wordOf 56 = .ok (.iload 5, 2) := by decide +kernel
theorem dX11_wordOf_58 : decode cX11_wordOf 58 = .ok (.ifCond .eq 28, 3) := by decide +kernel
theorem dX11_wordOf_61 : decode cX11_wordOf 61 = .ok (.iload 4, 2) := by decide +kernel
theorem dX11_wordOf_63 : decode cX11_wordOf 63 = .ok (.iload_n 2, 1) := by decide +kernel
theorem dX11_wordOf_64 : decode cX11_wordOf 64 = .ok (.if_icmp .ge 22, 3) := by decide +kernel
theorem dX11_wordOf_67 : decode cX11_wordOf 67 = .ok (.aload_n 0, 1) := by decide +kernel
theorem dX11_wordOf_68 : decode cX11_wordOf 68 = .ok (.iload 4, 2) := by decide +kernel
theorem dX11_wordOf_70 : decode cX11_wordOf 70 = .ok (.invokevirtual 254, 3) := by decide +kernel
theorem dX11_wordOf_73 : decode cX11_wordOf 73 = .ok (.getstatic 250, 3) := by decide +kernel
theorem dX11_wordOf_76 : decode cX11_wordOf 76 = .ok (.iload 6, 2) := by decide +kernel
theorem dX11_wordOf_78 : decode cX11_wordOf 78 = .ok (.baload, 1) := by decide +kernel
theorem dX11_wordOf_79 : decode cX11_wordOf 79 = .ok (.if_icmp .ne 7, 3) := by decide +kernel
theorem dX11_wordOf_82 : decode cX11_wordOf 82 = .ok (.iconst 1, 1) := by decide +kernel
theorem dX11_wordOf_83 : decode cX11_wordOf 83 = .ok (.goto 4, 3) := by decide +kernel
theorem dX11_wordOf_86 : decode cX11_wordOf 86 = .ok (.iconst 0, 1) := by decide +kernel
theorem dX11_wordOf_87 : decode cX11_wordOf 87 = .ok (.istore 5, 2) := by decide +kernel
theorem dX11_wordOf_89 : decode cX11_wordOf 89 = .ok (.iinc 4 1, 3) := by decide +kernel
theorem dX11_wordOf_92 : decode cX11_wordOf 92 = .ok (.iinc 6 1, 3) := by decide +kernel
theorem dX11_wordOf_95 : decode cX11_wordOf 95 = .ok (.goto (-84), 3) := by decide +kernel
theorem dX11_wordOf_98 : decode cX11_wordOf 98 = .ok (.iconst (-1), 1) := by decide +kernel
theorem dX11_wordOf_99 : decode cX11_wordOf 99 = .ok (.ireturn, 1) := by decide +kernel
theorem dX11_go_0 : decode cX11_go 0 = .ok (.aload_n 0, 1) := by decide +kernel
theorem dX11_go_1 : decode cX11_go 1 = .ok (.getfield 257, 3) := by decide +kernel
theorem dX11_go_4 : decode cX11_go 4 = .ok (.aload_n 0, 1) := by decide +kernel
theorem dX11_go_5 : decode cX11_go 5 = .ok (.getfield 247, 3) := by decide +kernel
theorem dX11_go_8 : decode cX11_go 8 = .ok (.if_icmp .ge 42, 3) := by decide +kernel
theorem dX11_go_11 : decode cX11_go 11 = .ok (.aload_n 0, 1) := by decide +kernel
theorem dX11_go_12 : decode cX11_go 12 = .ok (.aload_n 0, 1) := by decide +kernel
theorem dX11_go_13 : decode cX11_go 13 = .ok (.getfield 257, 3) := by decide +kernel
theorem dX11_go_16 : decode cX11_go 16 = .ok (.invokevirtual 254, 3) := by decide +kernel
theorem dX11_go_19 : decode cX11_go 19 = .ok (.bipush 32, 2) := by decide +kernel
theorem dX11_go_21 : decode cX11_go 21 = .ok (.if_icmp .eq 16, 3) := by decide +kernel
theorem dX11_go_24 : decode cX11_go 24 = .ok (.aload_n 0, 1) := by decide +kernel
theorem dX11_go_25 : decode cX11_go 25 = .ok (.aload_n 0, 1) := by decide +kernel
theorem dX11_go_26 : decode cX11_go 26 = .ok (.getfield 257, 3) := by decide +kernel
theorem dX11_go_29 : decode cX11_go 29 = .ok (.invokevirtual 254, 3) := by decide +kernel
theorem dX11_go_32 : decode cX11_go 32 = .ok (.bipush 10, 2) := by decide +kernel
theorem dX11_go_34 : decode cX11_go 34 = .ok (.if_icmp .ne 16, 3) := by decide +kernel
theorem dX11_go_37 : decode cX11_go 37 = .ok (.aload_n 0, 1) := by decide +kernel
theorem dX11_go_38 : decode cX11_go 38 = .ok (.dup, 1) := by decide +kernel
theorem dX11_go_39 : decode cX11_go 39 = .ok (.getfield 257, 3) := by decide +kernel
theorem dX11_go_42 : decode cX11_go 42 = .ok (.iconst 1, 1) := by decide +kernel
theorem dX11_go_43 : decode cX11_go 43 = .ok (.iadd, 1) := by decide +kernel
theorem dX11_go_44 : decode cX11_go 44 = .ok (.putfield 257, 3) := by decide +kernel
theorem dX11_go_47 : decode cX11_go 47 = .ok (.goto (-47), 3) := by decide +kernel
theorem dX11_go_50 : decode cX11_go 50 = .ok (.aload_n 0, 1) := by decide +kernel
theorem dX11_go_51 : decode cX11_go 51 = .ok (.aload_n 0, 1) := by decide +kernel
theorem dX11_go_52 : decode cX11_go 52 = .ok (.getfield 257, 3) := by decide +kernel
theorem dX11_go_55 : decode cX11_go 55 = .ok (.putfield 260, 3) := by decide +kernel
theorem dX11_go_58 : decode cX11_go 58 = .ok (.aload_n 0, 1) := by decide +kernel
theorem dX11_go_59 : decode cX11_go 59 = .ok (.aload_n 0, 1) := by decide +kernel
theorem dX11_go_60 : decode cX11_go 60 = .ok (.getfield 257, 3) := by decide +kernel
theorem dX11_go_63 : decode cX11_go 63 = .ok (.invokevirtual 254, 3) := by decide +kernel
theorem dX11_go_66 : decode cX11_go 66 = .ok (.istore_n 1, 1) := by decide +kernel
theorem dX11_go_67 : decode cX11_go 67 = .ok (.aload_n 0, 1) := by decide +kernel
theorem dX11_go_68 : decode cX11_go 68 = .ok (.iconst (-1), 1) := by decide +kernel
theorem dX11_go_69 : decode cX11_go 69 = .ok (.putfield 263, 3) := by decide +kernel
theorem dX11_go_72 : decode cX11_go 72 = .ok (.aload_n 0, 1) := by decide +kernel
theorem dX11_go_73 : decode cX11_go 73 = .ok (.iconst 0, 1) := by decide +kernel
theorem dX11_go_74 : decode cX11_go 74 = .ok (.putfield 266, 3) := by decide +kernel
theorem dX11_go_77 : decode cX11_go 77 = .ok (.aload_n 0, 1) := by decide +kernel
theorem dX11_go_78 : decode cX11_go 78 = .ok (.getfield 257, 3) := by decide +kernel
theorem dX11_go_81 : decode cX11_go 81 = .ok (.aload_n 0, 1) := by decide +kernel
theorem dX11_go_82 : decode cX11_go 82 = .ok (.getfield 247, 3) := by decide +kernel
theorem dX11_go_85 : decode cX11_go 85 = .ok (.if_icmp .lt 11, 3) := by decide +kernel
theorem dX11_go_88 : decode cX11_go 88 = .ok (.aload_n 0, 1) := by decide +kernel
theorem dX11_go_89 : decode cX11_go 89 = .ok (.iconst 0, 1) := by decide +kernel
theorem dX11_go_90 : decode cX11_go 90 = .ok (.putfield 269, 3) := by decide +kernel
theorem dX11_go_93 : decode cX11_go 93 = .ok (.goto 187, 3) := by decide +kernel
theorem dX11_go_96 : decode cX11_go 96 = .ok (.iload_n 1, 1) := by decide +kernel
theorem dX11_go_97 : decode cX11_go 97 = .ok (.invokestatic 272, 3) := by decide +kernel
theorem dX11_go_100 : decode cX11_go 100 = .ok (.ifCond .eq 54, 3) := by decide +kernel
theorem dX11_go_103 : decode cX11_go 103 = .ok (.aload_n 0, 1) := by decide +kernel
theorem dX11_go_104 : decode cX11_go 104 = .ok (.aload_n 0, 1) := by decide +kernel
theorem dX11_go_105 : decode cX11_go 105 = .ok (.getfield 257, 3) := by decide +kernel
theorem dX11_go_108 : decode cX11_go 108 = .ok (.invokevirtual 254, 3) := by decide +kernel
theorem dX11_go_111 : decode cX11_go 111 = .ok (.invokestatic 272, 3) := by decide +kernel
theorem dX11_go_114 : decode cX11_go 114 = .ok (.ifCond .eq 16, 3) := by decide +kernel
theorem dX11_go_117 : decode cX11_go 117 = .ok (.aload_n 0, 1) := by decide +kernel
theorem dX11_go_118 : decode cX11_go 118 = .ok (.dup, 1) := by decide +kernel
theorem dX11_go_119 : decode cX11_go 119 = .ok (.getfield 257, 3) := by decide +kernel
theorem dX11_go_122 : decode cX11_go 122 = .ok (.iconst 1, 1) := by decide +kernel
theorem dX11_go_123 : decode cX11_go 123 = .ok (.iadd, 1) := by decide +kernel
theorem dX11_go_124 : decode cX11_go 124 = .ok (.putfield 257, 3) := by decide +kernel
theorem dX11_go_127 : decode cX11_go 127 = .ok (.goto (-24), 3) := by decide +kernel
theorem dX11_go_130 : decode cX11_go 130 = .ok (.aload_n 0, 1) := by decide +kernel
theorem dX11_go_131 : decode cX11_go 131 = .ok (.iconst 1, 1) := by decide +kernel
theorem dX11_go_132 : decode cX11_go 132 = .ok (.putfield 269, 3) := by decide +kernel
theorem dX11_go_135 : decode cX11_go 135 = .ok (.aload_n 0, 1) := by decide +kernel
theorem dX11_go_136 : decode cX11_go 136 = .ok (.aload_n 0, 1) := by decide +kernel
theorem dX11_go_137 : decode cX11_go 137 = .ok (.aload_n 0, 1) := by decide +kernel
theorem dX11_go_138 : decode cX11_go 138 = .ok (.getfield 260, 3) := by decide +kernel
theorem dX11_go_141 : decode cX11_go 141 = .ok (.aload_n 0, 1) := by decide +kernel
theorem dX11_go_142 : decode cX11_go 142 = .ok (.getfield 257, 3) := by decide +kernel
theorem dX11_go_145 : decode cX11_go 145 = .ok (.invokevirtual 276, 3) := by decide +kernel
theorem dX11_go_148 : decode cX11_go 148 = .ok (.putfield 263, 3) := by decide +kernel
theorem dX11_go_151 : decode cX11_go 151 = .ok (.goto 129, 3) := by decide +kernel
theorem dX11_go_154 : decode cX11_go 154 = .ok (.iload_n 1, 1) := by decide +kernel
theorem dX11_go_155 : decode cX11_go 155 = .ok (.bipush 48, 2) := by decide +kernel
theorem dX11_go_157 : decode cX11_go 157 = .ok (.if_icmp .lt 98, 3) := by decide +kernel
theorem dX11_go_160 : decode cX11_go 160 = .ok (.iload_n 1, 1) := by decide +kernel
theorem dX11_go_161 : decode cX11_go 161 = .ok (.bipush 57, 2) := by decide +kernel
theorem dX11_go_163 : decode cX11_go 163 = .ok (.if_icmp .gt 92, 3) := by decide +kernel
theorem dX11_go_166 : decode cX11_go 166 = .ok (.aload_n 0, 1) := by decide +kernel
theorem dX11_go_167 : decode cX11_go 167 = .ok (.aload_n 0, 1) := by decide +kernel
theorem dX11_go_168 : decode cX11_go 168 = .ok (.getfield 257, 3) := by decide +kernel
theorem dX11_go_171 : decode cX11_go 171 = .ok (.invokevirtual 254, 3) := by decide +kernel
theorem dX11_go_174 : decode cX11_go 174 = .ok (.bipush 48, 2) := by decide +kernel
theorem dX11_go_176 : decode cX11_go 176 = .ok (.if_icmp .lt 71, 3) := by decide +kernel
theorem dX11_go_179 : decode cX11_go 179 = .ok (.aload_n 0, 1) := by decide +kernel
theorem dX11_go_180 : decode cX11_go 180 = .ok (.aload_n 0, 1) := by decide +kernel
theorem dX11_go_181 : decode cX11_go 181 = .ok (.getfield 257, 3) := by decide +kernel
theorem dX11_go_184 : decode cX11_go 184 = .ok (.invokevirtual 254, 3) := by decide +kernel
theorem dX11_go_187 : decode cX11_go 187 = .ok (.bipush 57, 2) := by decide +kernel
theorem dX11_go_189 : decode cX11_go 189 = .ok (.if_icmp .gt 58, 3) := by decide +kernel
theorem dX11_go_192 : decode cX11_go 192 = .ok (.aload_n 0, 1) := by decide +kernel
theorem dX11_go_193 : decode cX11_go 193 = .ok (.aload_n 0, 1) := by decide +kernel
theorem dX11_go_194 : decode cX11_go 194 = .ok (.getfield 257, 3) := by decide +kernel
theorem dX11_go_197 : decode cX11_go 197 = .ok (.aload_n 0, 1) := by decide +kernel
theorem dX11_go_198 : decode cX11_go 198 = .ok (.getfield 260, 3) := by decide +kernel
theorem dX11_go_201 : decode cX11_go 201 = .ok (.isub, 1) := by decide +kernel
theorem dX11_go_202 : decode cX11_go 202 = .ok (.iconst 3, 1) := by decide +kernel
theorem dX11_go_203 : decode cX11_go 203 = .ok (.if_icmp .ge 25, 3) := by decide +kernel
theorem dX11_go_206 : decode cX11_go 206 = .ok (.bipush 10, 2) := by decide +kernel
theorem dX11_go_208 : decode cX11_go 208 = .ok (.aload_n 0, 1) := by decide +kernel
theorem dX11_go_209 : decode cX11_go 209 = .ok (.getfield 266, 3) := by decide +kernel
theorem dX11_go_212 : decode cX11_go 212 = .ok (.imul, 1) := by decide +kernel
theorem dX11_go_213 : decode cX11_go 213 = .ok (.aload_n 0, 1) := by decide +kernel
theorem dX11_go_214 : decode cX11_go 214 = .ok (.aload_n 0, 1) := by decide +kernel
theorem dX11_go_215 : decode cX11_go 215 = .ok (.getfield 257, 3) := by decide +kernel
theorem dX11_go_218 : decode cX11_go 218 = .ok (.invokevirtual 254, 3) := by decide +kernel
theorem dX11_go_221 : decode cX11_go 221 = .ok (.iadd, 1) := by decide +kernel
theorem dX11_go_222 : decode cX11_go 222 = .ok (.bipush 48, 2) := by decide +kernel
theorem dX11_go_224 : decode cX11_go 224 = .ok (.isub, 1) := by decide +kernel
theorem dX11_go_225 : decode cX11_go 225 = .ok (.goto 6, 3) := by decide +kernel
theorem dX11_go_228 : decode cX11_go 228 = .ok (.sipush 9999, 3) := by decide +kernel
theorem dX11_go_231 : decode cX11_go 231 = .ok (.putfield 266, 3) := by decide +kernel
theorem dX11_go_234 : decode cX11_go 234 = .ok (.aload_n 0, 1) := by decide +kernel
theorem dX11_go_235 : decode cX11_go 235 = .ok (.dup, 1) := by decide +kernel
theorem dX11_go_236 : decode cX11_go 236 = .ok (.getfield 257, 3) := by decide +kernel
theorem dX11_go_239 : decode cX11_go 239 = .ok (.iconst 1, 1) := by decide +kernel
theorem dX11_go_240 : decode cX11_go 240 = .ok (.iadd, 1) := by decide +kernel
theorem dX11_go_241 : decode cX11_go 241 = .ok (.putfield 257, 3) := by decide +kernel
theorem dX11_go_244 : decode cX11_go 244 = .ok (.goto (-78), 3) := by decide +kernel
theorem dX11_go_247 : decode cX11_go 247 = .ok (.aload_n 0, 1) := by decide +kernel
theorem dX11_go_248 : decode cX11_go 248 = .ok (.iconst 2, 1) := by decide +kernel
theorem dX11_go_249 : decode cX11_go 249 = .ok (.putfield 269, 3) := by decide +kernel
theorem dX11_go_252 : decode cX11_go 252 = .ok (.goto 28, 3) := by decide +kernel
theorem dX11_go_255 : decode cX11_go 255 = .ok (.aload_n 0, 1) := by decide +kernel
theorem dX11_go_256 : decode cX11_go 256 = .ok (.dup, 1) := by decide +kernel
theorem dX11_go_257 : decode cX11_go 257 = .ok (.getfield 257, 3) := by decide +kernel
theorem dX11_go_260 : decode cX11_go 260 = .ok (.iconst 1, 1) := by decide +kernel
theorem dX11_go_261 : decode cX11_go 261 = .ok (.iadd, 1) := by decide +kernel
theorem dX11_go_262 : decode cX11_go 262 = .ok (.putfield 257, 3) := by decide +kernel
theorem dX11_go_265 : decode cX11_go 265 = .ok (.aload_n 0, 1) := by decide +kernel
theorem dX11_go_266 : decode cX11_go 266 = .ok (.iload_n 1, 1) := by decide +kernel
theorem dX11_go_267 : decode cX11_go 267 = .ok (.bipush 59, 2) := by decide +kernel
theorem dX11_go_269 : decode cX11_go 269 = .ok (.if_icmp .ne 7, 3) := by decide +kernel
theorem dX11_go_272 : decode cX11_go 272 = .ok (.iconst 3, 1) := by decide +kernel
theorem dX11_go_273 : decode cX11_go 273 = .ok (.goto 4, 3) := by decide +kernel
theorem dX11_go_276 : decode cX11_go 276 = .ok (.iconst 4, 1) := by decide +kernel
theorem dX11_go_277 : decode cX11_go 277 = .ok (.putfield 269, 3) := by decide +kernel
theorem dX11_go_280 : decode cX11_go 280 = .ok (.return_, 1) := by decide +kernel
theorem dX11_wants_0 : decode cX11_wants 0 = .ok (.aload_n 0, 1) := by decide +kernel
theorem dX11_wants_1 : decode cX11_wants 1 = .ok (.getfield 279, 3) := by decide +kernel
theorem dX11_wants_4 : decode cX11_wants 4 = .ok (.ifCond .ne 20, 3) := by decide +kernel
theorem dX11_wants_7 : decode cX11_wants 7 = .ok (.iload_n 1, 1) := by decide +kernel
theorem dX11_wants_8 : decode cX11_wants 8 = .ok (.ifCond .ne 16, 3) := by decide +kernel
theorem dX11_wants_11 : decode cX11_wants 11 = .ok (.aload_n 0, 1) := by decide +kernel
theorem dX11_wants_12 : decode cX11_wants 12 = .ok (.iload_n 2, 1) := by decide +kernel
theorem dX11_wants_13 : decode cX11_wants 13 = .ok (.putfield 279, 3) := by decide +kernel
theorem dX11_wants_16 : decode cX11_wants 16 = .ok (.aload_n 0, 1) := by decide +kernel
theorem dX11_wants_17 : decode cX11_wants 17 = .ok (.aload_n 0, 1) := by decide +kernel
theorem dX11_wants_18 : decode cX11_wants 18 = .ok (.getfield 260, 3) := by decide +kernel
theorem dX11_wants_21 : decode cX11_wants 21 = .ok (.putfield 51, 3) := by decide +kernel
theorem dX11_wants_24 : decode cX11_wants 24 = .ok (.aload_n 0, 1) := by decide +kernel
theorem dX11_wants_25 : decode cX11_wants 25 = .ok (.getfield 279, 3) := by decide +kernel
theorem dX11_wants_28 : decode cX11_wants 28 = .ok (.ifCond .ne 7, 3) := by decide +kernel
theorem dX11_wants_31 : decode cX11_wants 31 = .ok (.iconst 1, 1) := by decide +kernel
theorem dX11_wants_32 : decode cX11_wants 32 = .ok (.goto 4, 3) := by decide +kernel
theorem dX11_wants_35 : decode cX11_wants 35 = .ok (.iconst 0, 1) := by decide +kernel
theorem dX11_wants_36 : decode cX11_wants 36 = .ok (.ireturn, 1) := by decide +kernel
theorem dX11_number_0 : decode cX11_number 0 = .ok (.aload_n 0, 1) := by decide +kernel
theorem dX11_number_1 : decode cX11_number 1 = .ok (.aload_n 0, 1) := by decide +kernel
theorem dX11_number_2 : decode cX11_number 2 = .ok (.getfield 269, 3) := by decide +kernel
theorem dX11_number_5 : decode cX11_number 5 = .ok (.iconst 2, 1) := by decide +kernel
theorem dX11_number_6 : decode cX11_number 6 = .ok (.if_icmp .ne 7, 3) := by decide +kernel
theorem dX11_number_9 : decode cX11_number 9 = .ok (.iconst 1, 1) := by decide +kernel
theorem dX11_number_10 : decode cX11_number 10 = .ok (.goto 4, 3) := by decide +kernel
theorem dX11_number_13 : decode cX11_number 13 = .ok (.iconst 0, 1) := by decide +kernel
theorem dX11_number_14 : decode cX11_number 14 = .ok (.iconst 1, 1) := by decide +kernel
theorem dX11_number_15 : decode cX11_number 15 = .ok (.invokevirtual 282, 3) := by decide +kernel
theorem dX11_number_18 : decode cX11_number 18 = .ok (.ifCond .eq 20, 3) := by decide +kernel
theorem dX11_number_21 : decode cX11_number 21 = .ok (.aload_n 0, 1) := by decide +kernel
theorem dX11_number_22 : decode cX11_number 22 = .ok (.aload_n 0, 1) := by decide +kernel
theorem dX11_number_23 : decode cX11_number 23 = .ok (.getfield 266, 3) := by decide +kernel
theorem dX11_number_26 : decode cX11_number 26 = .ok (.iload_n 1, 1) := by decide +kernel
theorem dX11_number_27 : decode cX11_number 27 = .ok (.iload_n 2, 1) := by decide +kernel
theorem dX11_number_28 : decode cX11_number 28 = .ok (.invokestatic 286, 3) := by decide +kernel
theorem dX11_number_31 : decode cX11_number 31 = .ok (.iconst 2, 1) := by decide +kernel
theorem dX11_number_32 : decode cX11_number 32 = .ok (.invokevirtual 282, 3) := by decide +kernel
theorem dX11_number_35 : decode cX11_number 35 = .ok (.ifCond .ne 5, 3) := by decide +kernel
theorem dX11_number_38 : decode cX11_number 38 = .ok (.iconst 0, 1) := by decide +kernel
theorem dX11_number_39 : decode cX11_number 39 = .ok (.ireturn, 1) := by decide +kernel
theorem dX11_number_40 : decode cX11_number 40 = .ok (.aload_n 0, 1) := by decide +kernel
theorem dX11_number_41 : decode cX11_number 41 = .ok (.getfield 266, 3) := by decide +kernel
theorem dX11_number_44 : decode cX11_number 44 = .ok (.istore_n 3, 1) := by decide +kernel
theorem dX11_number_45 : decode cX11_number 45 = .ok (.aload_n 0, 1) := by decide +kernel
theorem dX11_number_46 : decode cX11_number 46 = .ok (.invokevirtual 290, 3) := by decide +kernel
theorem dX11_number_49 : decode cX11_number 49 = .ok (.iload_n 3, 1) := by decide +kernel
theorem dX11_number_50 : decode cX11_number 50 = .ok (.ireturn, 1) := by decide +kernel
theorem dX11_opens_0 : decode cX11_opens 0 = .ok (.aload_n 0, 1) := by decide +kernel
theorem dX11_opens_1 : decode cX11_opens 1 = .ok (.iload_n 1, 1) := by decide +kernel
theorem dX11_opens_2 : decode cX11_opens 2 = .ok (.putfield 247, 3) := by decide +kernel
theorem dX11_opens_5 : decode cX11_opens 5 = .ok (.aload_n 0, 1) := by decide +kernel
theorem dX11_opens_6 : decode cX11_opens 6 = .ok (.iconst 0, 1) := by decide +kernel
theorem dX11_opens_7 : decode cX11_opens 7 = .ok (.putfield 257, 3) := by decide +kernel
theorem dX11_opens_10 : decode cX11_opens 10 = .ok (.aload_n 0, 1) := by decide +kernel
theorem dX11_opens_11 : decode cX11_opens 11 = .ok (.iconst 0, 1) := by decide +kernel
theorem dX11_opens_12 : decode cX11_opens 12 = .ok (.putfield 279, 3) := by decide +kernel
theorem dX11_opens_15 : decode cX11_opens 15 = .ok (.aload_n 0, 1) := by decide +kernel
theorem dX11_opens_16 : decode cX11_opens 16 = .ok (.iconst (-1), 1) := by decide +kernel
theorem dX11_opens_17 : decode cX11_opens 17 = .ok (.putfield 51, 3) := by decide +kernel
theorem dX11_opens_20 : decode cX11_opens 20 = .ok (.aload_n 0, 1) := by decide +kernel
theorem dX11_opens_21 : decode cX11_opens 21 = .ok (.invokevirtual 290, 3) := by decide +kernel
theorem dX11_opens_24 : decode cX11_opens 24 = .ok (.return_, 1) := by decide +kernel
theorem dX11_pageHere_0 : decode cX11_pageHere 0 = .ok (.aload_n 0, 1) := by decide +kernel
theorem dX11_pageHere_1 : decode cX11_pageHere 1 = .ok (.aload_n 0, 1) := by decide +kernel
theorem dX11_pageHere_2 : decode cX11_pageHere 2 = .ok (.getfield 269, 3) := by decide +kernel
theorem dX11_pageHere_5 : decode cX11_pageHere 5 = .ok (.iconst 2, 1) := by decide +kernel
theorem dX11_pageHere_6 : decode cX11_pageHere 6 = .ok (.if_icmp .ne 7, 3) := by decide +kernel
theorem dX11_pageHere_9 : decode cX11_pageHere 9 = .ok (.iconst 1, 1) := by decide +kernel
theorem dX11_pageHere_10 : decode cX11_pageHere 10 = .ok (.goto 4, 3) := by decide +kernel
theorem dX11_pageHere_13 : decode cX11_pageHere 13 = .ok (.iconst 0, 1) := by decide +kernel
theorem dX11_pageHere_14 : decode cX11_pageHere 14 = .ok (.iconst 1, 1) := by decide +kernel
theorem dX11_pageHere_15 : decode cX11_pageHere 15 = .ok (.invokevirtual 282, 3) := by decide +kernel
theorem dX11_pageHere_18 : decode cX11_pageHere 18 = .ok (.ifCond .eq 45, 3) := by decide +kernel
theorem dX11_pageHere_21 : decode cX11_pageHere 21 = .ok (.aload_n 0, 1) := by decide +kernel
theorem dX11_pageHere_22 : decode cX11_pageHere 22 = .ok (.aload_n 0, 1) := by decide +kernel
theorem dX11_pageHere_23 : decode cX11_pageHere 23 = .ok (.getfield 266, 3) := by decide +kernel
theorem dX11_pageHere_26 : decode cX11_pageHere 26 = .ok (.iconst 4, 1) := by decide +kernel
theorem dX11_pageHere_27 : decode cX11_pageHere 27 = .ok (.if_icmp .ge 7, 3) := by decide +kernel
theorem dX11_pageHere_30 : decode cX11_pageHere 30 = .ok (.iconst 1, 1) := by decide +kernel
theorem dX11_pageHere_31 : decode cX11_pageHere 31 = .ok (.goto 4, 3) := by decide +kernel
theorem dX11_pageHere_34 : decode cX11_pageHere 34 = .ok (.iconst 0, 1) := by decide +kernel
theorem dX11_pageHere_35 : decode cX11_pageHere 35 = .ok (.iconst 2, 1) := by decide +kernel
theorem dX11_pageHere_36 : decode cX11_pageHere 36 = .ok (.invokevirtual 282, 3) := by decide +kernel
theorem dX11_pageHere_39 : decode cX11_pageHere 39 = .ok (.ifCond .eq 24, 3) := by decide +kernel
theorem dX11_pageHere_42 : decode cX11_pageHere 42 = .ok (.aload_n 0, 1) := by decide +kernel
theorem dX11_pageHere_43 : decode cX11_pageHere 43 = .ok (.aload_n 0, 1) := by decide +kernel
theorem dX11_pageHere_44 : decode cX11_pageHere 44 = .ok (.getfield 266, 3) := by decide +kernel
theorem dX11_pageHere_47 : decode cX11_pageHere 47 = .ok (.iload_n 1, 1) := by decide +kernel
theorem dX11_pageHere_48 : decode cX11_pageHere 48 = .ok (.if_icmp .ge 7, 3) := by decide +kernel
theorem dX11_pageHere_51 : decode cX11_pageHere 51 = .ok (.iconst 1, 1) := by decide +kernel
theorem dX11_pageHere_52 : decode cX11_pageHere 52 = .ok (.goto 4, 3) := by decide +kernel
theorem dX11_pageHere_55 : decode cX11_pageHere 55 = .ok (.iconst 0, 1) := by decide +kernel
theorem dX11_pageHere_56 : decode cX11_pageHere 56 = .ok (.iconst 3, 1) := by decide +kernel
theorem dX11_pageHere_57 : decode cX11_pageHere 57 = .ok (.invokevirtual 282, 3) := by decide +kernel
theorem dX11_pageHere_60 : decode cX11_pageHere 60 = .ok (.ifCond .ne 5, 3) := by decide +kernel
theorem dX11_pageHere_63 : decode cX11_pageHere 63 = .ok (.iconst (-1), 1) := by decide +kernel
theorem dX11_pageHere_64 : decode cX11_pageHere 64 = .ok (.ireturn, 1) := by decide +kernel
theorem dX11_pageHere_65 : decode cX11_pageHere 65 = .ok (.aload_n 0, 1) := by decide +kernel
theorem dX11_pageHere_66 : decode cX11_pageHere 66 = .ok (.getfield 266, 3) := by decide +kernel
theorem dX11_pageHere_69 : decode cX11_pageHere 69 = .ok (.istore_n 2, 1) := by decide +kernel
theorem dX11_pageHere_70 : decode cX11_pageHere 70 = .ok (.aload_n 0, 1) := by decide +kernel
theorem dX11_pageHere_71 : decode cX11_pageHere 71 = .ok (.invokevirtual 290, 3) := by decide +kernel
theorem dX11_pageHere_74 : decode cX11_pageHere 74 = .ok (.aload_n 0, 1) := by decide +kernel
theorem dX11_pageHere_75 : decode cX11_pageHere 75 = .ok (.iload_n 2, 1) := by decide +kernel
theorem dX11_pageHere_76 : decode cX11_pageHere 76 = .ok (.invokevirtual 293, 3) := by decide +kernel
theorem dX11_pageHere_79 : decode cX11_pageHere 79 = .ok (.ireturn, 1) := by decide +kernel
theorem dX11_pageOf_0 : decode cX11_pageOf 0 = .ok (.aload_n 0, 1) := by decide +kernel
theorem dX11_pageOf_1 : decode cX11_pageOf 1 = .ok (.aload_n 0, 1) := by decide +kernel
theorem dX11_pageOf_2 : decode cX11_pageOf 2 = .ok (.getfield 269, 3) := by decide +kernel
theorem dX11_pageOf_5 : decode cX11_pageOf 5 = .ok (.iconst 2, 1) := by decide +kernel
theorem dX11_pageOf_6 : decode cX11_pageOf 6 = .ok (.if_icmp .ne 7, 3) := by decide +kernel
theorem dX11_pageOf_9 : decode cX11_pageOf 9 = .ok (.iconst 1, 1) := by decide +kernel
theorem dX11_pageOf_10 : decode cX11_pageOf 10 = .ok (.goto 4, 3) := by decide +kernel
theorem dX11_pageOf_13 : decode cX11_pageOf 13 = .ok (.iconst 0, 1) := by decide +kernel
theorem dX11_pageOf_14 : decode cX11_pageOf 14 = .ok (.iconst 1, 1) := by decide +kernel
theorem dX11_pageOf_15 : decode cX11_pageOf 15 = .ok (.invokevirtual 282, 3) := by decide +kernel
theorem dX11_pageOf_18 : decode cX11_pageOf 18 = .ok (.ifCond .eq 51, 3) := by decide +kernel
theorem dX11_pageOf_21 : decode cX11_pageOf 21 = .ok (.aload_n 0, 1) := by decide +kernel
theorem dX11_pageOf_22 : decode cX11_pageOf 22 = .ok (.aload_n 0, 1) := by decide +kernel
theorem dX11_pageOf_23 : decode cX11_pageOf 23 = .ok (.getfield 266, 3) := by decide +kernel
theorem dX11_pageOf_26 : decode cX11_pageOf 26 = .ok (.bipush 12, 2) := by decide +kernel
theorem dX11_pageOf_28 : decode cX11_pageOf 28 = .ok (.if_icmp .ge 7, 3) := by decide +kernel
theorem dX11_pageOf_31 : decode cX11_pageOf 31 = .ok (.iconst 1, 1) := by decide +kernel
theorem dX11_pageOf_32 : decode cX11_pageOf 32 = .ok (.goto 4, 3) := by decide +kernel
theorem dX11_pageOf_35 : decode cX11_pageOf 35 = .ok (.iconst 0, 1) := by decide +kernel
theorem dX11_pageOf_36 : decode cX11_pageOf 36 = .ok (.iconst 2, 1) := by decide +kernel
theorem dX11_pageOf_37 : decode cX11_pageOf 37 = .ok (.invokevirtual 282, 3) := by decide +kernel
theorem dX11_pageOf_40 : decode cX11_pageOf 40 = .ok (.ifCond .eq 29, 3) := by decide +kernel
theorem dX11_pageOf_43 : decode cX11_pageOf 43 = .ok (.aload_n 0, 1) := by decide +kernel
theorem dX11_pageOf_44 : decode cX11_pageOf 44 = .ok (.aload_n 0, 1) := by decide +kernel
theorem dX11_pageOf_45 : decode cX11_pageOf 45 = .ok (.getfield 266, 3) := by decide +kernel
theorem dX11_pageOf_48 : decode cX11_pageOf 48 = .ok (.aload_n 0, 1) := by decide +kernel
theorem dX11_pageOf_49 : decode cX11_pageOf 49 = .ok (.getfield 60, 3) := by decide +kernel
theorem dX11_pageOf_52 : decode cX11_pageOf 52 = .ok (.iload_n 1, 1) := by decide +kernel
theorem dX11_pageOf_53 : decode cX11_pageOf 53 = .ok (.iaload, 1) := by decide +kernel
theorem dX11_pageOf_54 : decode cX11_pageOf 54 = .ok (.if_icmp .ge 7, 3) := by decide +kernel
theorem dX11_pageOf_57 : decode cX11_pageOf 57 = .ok (.iconst 1, 1) := by decide +kernel
theorem dX11_pageOf_58 : decode cX11_pageOf 58 = .ok (.goto 4, 3) := by decide +kernel
theorem dX11_pageOf_61 : decode cX11_pageOf 61 = .ok (.iconst 0, 1) := by decide +kernel
theorem dX11_pageOf_62 : decode cX11_pageOf 62 = .ok (.iconst 3, 1) := by decide +kernel
theorem dX11_pageOf_63 : decode cX11_pageOf 63 = .ok (.invokevirtual 282, 3) := by decide +kernel
theorem dX11_pageOf_66 : decode cX11_pageOf 66 = .ok (.ifCond .ne 5, 3) := by decide +kernel
theorem dX11_pageOf_69 : decode cX11_pageOf 69 = .ok (.iconst (-1), 1) := by decide +kernel
theorem dX11_pageOf_70 : decode cX11_pageOf 70 = .ok (.ireturn, 1) := by decide +kernel
theorem dX11_pageOf_71 : decode cX11_pageOf 71 = .ok (.bipush 12, 2) := by decide +kernel
theorem dX11_pageOf_73 : decode cX11_pageOf 73 = .ok (.iload_n 1, 1) := by decide +kernel
theorem dX11_pageOf_74 : decode cX11_pageOf 74 = .ok (.imul, 1) := by decide +kernel
theorem dX11_pageOf_75 : decode cX11_pageOf 75 = .ok (.aload_n 0, 1) := by decide +kernel
theorem dX11_pageOf_76 : decode cX11_pageOf 76 = .ok (.getfield 266, 3) := by decide +kernel
theorem dX11_pageOf_79 : decode cX11_pageOf 79 = .ok (.iadd, 1) := by decide +kernel
theorem dX11_pageOf_80 : decode cX11_pageOf 80 = .ok (.ireturn, 1) := by decide +kernel
theorem dX11_once_0 : decode cX11_once 0 = .ok (.aload_n 0, 1) := by decide +kernel
theorem dX11_once_1 : decode cX11_once 1 = .ok (.aload_n 0, 1) := by decide +kernel
theorem dX11_once_2 : decode cX11_once 2 = .ok (.getfield 296, 3) := by decide +kernel
theorem dX11_once_5 : decode cX11_once 5 = .ok (.iload_n 1, 1) := by decide +kernel
theorem dX11_once_6 : decode cX11_once 6 = .ok (.ishr, 1) := by decide +kernel
theorem dX11_once_7 : decode cX11_once 7 = .ok (.iconst 1, 1) := by decide +kernel
theorem dX11_once_8 : decode cX11_once 8 = .ok (.iand, 1) := by decide +kernel
theorem dX11_once_9 : decode cX11_once 9 = .ok (.ifCond .ne 7, 3) := by decide +kernel
theorem dX11_once_12 : decode cX11_once 12 = .ok (.iconst 1, 1) := by decide +kernel
theorem dX11_once_13 : decode cX11_once 13 = .ok (.goto 4, 3) := by decide +kernel
theorem dX11_once_16 : decode cX11_once 16 = .ok (.iconst 0, 1) := by decide +kernel
theorem dX11_once_17 : decode cX11_once 17 = .ok (.iconst 5, 1) := by decide +kernel
theorem dX11_once_18 : decode cX11_once 18 = .ok (.invokevirtual 282, 3) := by decide +kernel
theorem dX11_once_21 : decode cX11_once 21 = .ok (.ifCond .ne 5, 3) := by decide +kernel
theorem dX11_once_24 : decode cX11_once 24 = .ok (.iconst 0, 1) := by decide +kernel
theorem dX11_once_25 : decode cX11_once 25 = .ok (.ireturn, 1) := by decide +kernel
theorem dX11_once_26 : decode cX11_once 26 = .ok (.aload_n 0, 1) := by decide +kernel
theorem dX11_once_27 : decode cX11_once 27 = .ok (.dup, 1) := by decide +kernel
theorem dX11_once_28 : decode cX11_once 28 = .ok (.getfield 296, 3) := by decide +kernel
theorem dX11_once_31 : decode cX11_once 31 = .ok (.iconst 1, 1) := by decide +kernel
theorem dX11_once_32 : decode cX11_once 32 = .ok (.iload_n 1, 1) := by decide +kernel
theorem dX11_once_33 : decode cX11_once 33 = .ok (.ishl, 1) := by decide +kernel
theorem dX11_once_34 : decode cX11_once 34 = .ok (.ior, 1) := by decide +kernel
theorem dX11_once_35 : decode cX11_once 35 = .ok (.putfield 296, 3) := by decide +kernel
theorem dX11_once_38 : decode cX11_once 38 = .ok (.aload_n 0, 1) := by decide +kernel
theorem dX11_once_39 : decode cX11_once 39 = .ok (.invokevirtual 290, 3) := by decide +kernel
theorem dX11_once_42 : decode cX11_once 42 = .ok (.iconst 1, 1) := by decide +kernel
theorem dX11_once_43 : decode cX11_once 43 = .ok (.ireturn, 1) := by decide +kernel
theorem dX11_page1_0 : decode cX11_page1 0 = .ok (.aload_n 0, 1) := by decide +kernel
theorem dX11_page1_1 : decode cX11_page1 1 = .ok (.aload_n 0, 1) := by decide +kernel
theorem dX11_page1_2 : decode cX11_page1 2 = .ok (.getfield 299, 3) := by decide +kernel
theorem dX11_page1_5 : decode cX11_page1 5 = .ok (.aload_n 0, 1) := by decide +kernel
theorem dX11_page1_6 : decode cX11_page1 6 = .ok (.getfield 302, 3) := by decide +kernel
theorem dX11_page1_9 : decode cX11_page1 9 = .ok (.if_icmp .ge 7, 3) := by decide +kernel
theorem dX11_page1_12 : decode cX11_page1 12 = .ok (.iconst 1, 1) := by decide +kernel
theorem dX11_page1_13 : decode cX11_page1 13 = .ok (.goto 4, 3) := by decide +kernel
theorem dX11_page1_16 : decode cX11_page1 16 = .ok (.iconst 0, 1) := by decide +kernel
theorem dX11_page1_17 : decode cX11_page1 17 = .ok (.iconst 2, 1) := by decide +kernel
theorem dX11_page1_18 : decode cX11_page1 18 = .ok (.invokevirtual 282, 3) := by decide +kernel
theorem dX11_page1_21 : decode cX11_page1 21 = .ok (.ifCond .ne 4, 3) := by decide +kernel
theorem dX11_page1_24 : decode cX11_page1 24 = .ok (.return_, 1) := by decide +kernel
theorem dX11_page1_25 : decode cX11_page1 25 = .ok (.aload_n 0, 1) := by decide +kernel
theorem dX11_page1_26 : decode cX11_page1 26 = .ok (.invokevirtual 290, 3) := by decide +kernel
theorem dX11_page1_29 : decode cX11_page1 29 = .ok (.aload_n 0, 1) := by decide +kernel
theorem dX11_page1_30 : decode cX11_page1 30 = .ok (.aload_n 0, 1) := by decide +kernel
theorem dX11_page1_31 : decode cX11_page1 31 = .ok (.getfield 305, 3) := by decide +kernel
theorem dX11_page1_34 : decode cX11_page1 34 = .ok (.invokevirtual 308, 3) := by decide +kernel
theorem dX11_page1_37 : decode cX11_page1 37 = .ok (.istore_n 1, 1) := by decide +kernel
theorem dX11_page1_38 : decode cX11_page1 38 = .ok (.aload_n 0, 1) := by decide +kernel
theorem dX11_page1_39 : decode cX11_page1 39 = .ok (.getfield 279, 3) := by decide +kernel
theorem dX11_page1_42 : decode cX11_page1 42 = .ok (.ifCond .ne 26, 3) := by decide +kernel
theorem dX11_page1_45 : decode cX11_page1 45 = .ok (.aload_n 0, 1) := by decide +kernel
theorem dX11_page1_46 : decode cX11_page1 46 = .ok (.aload_n 0, 1) := by decide +kernel
theorem dX11_page1_47 : decode cX11_page1 47 = .ok (.getfield 66, 3) := by decide +kernel
theorem dX11_page1_50 : decode cX11_page1 50 = .ok (.iload_n 1, 1) := by decide +kernel
theorem dX11_page1_51 : decode cX11_page1 51 = .ok (.iaload, 1) := by decide +kernel
theorem dX11_page1_52 : decode cX11_page1 52 = .ok (.iconst (-1), 1) := by decide +kernel
theorem dX11_page1_53 : decode cX11_page1 53 = .ok (.if_icmp .ne 7, 3) := by decide +kernel
theorem dX11_page1_56 : decode cX11_page1 56 = .ok (.iconst 1, 1) := by decide +kernel
theorem dX11_page1_57 : decode cX11_page1 57 = .ok (.goto 4, 3) := by decide +kernel
theorem dX11_page1_60 : decode cX11_page1 60 = .ok (.iconst 0, 1) := by decide +kernel
theorem dX11_page1_61 : decode cX11_page1 61 = .ok (.iconst 4, 1) := by decide +kernel
theorem dX11_page1_62 : decode cX11_page1 62 = .ok (.invokevirtual 282, 3) := by decide +kernel
theorem dX11_page1_65 : decode cX11_page1 65 = .ok (.ifCond .ne 4, 3) := by decide +kernel
theorem dX11_page1_68 : decode cX11_page1 68 = .ok (.return_, 1) := by decide +kernel
theorem dX11_page1_69 : decode cX11_page1 69 = .ok (.aload_n 0, 1) := by decide +kernel
theorem dX11_page1_70 : decode cX11_page1 70 = .ok (.invokevirtual 290, 3) := by decide +kernel
theorem dX11_page1_73 : decode cX11_page1 73 = .ok (.iconst 0, 1) := by decide +kernel
theorem dX11_page1_74 : decode cX11_page1 74 = .ok (.istore_n 2, 1) := by decide +kernel
theorem dX11_page1_75 : decode cX11_page1 75 = .ok (.iload_n 2, 1) := by decide +kernel
theorem dX11_page1_76 : decode cX11_page1 76 = .ok (.iconst 4, 1) := by decide +kernel
theorem dX11_page1_77 : decode cX11_page1 77 = .ok (.if_icmp .ge 36, 3) := by decide +kernel
theorem dX11_page1_80 : decode cX11_page1 80 = .ok (.aload_n 0, 1) := by decide +kernel
theorem dX11_page1_81 : decode cX11_page1 81 = .ok (.getfield 279, 3) := by decide +kernel
theorem dX11_page1_84 : decode cX11_page1 84 = .ok (.ifCond .ne 29, 3) := by decide +kernel
theorem dX11_page1_87 : decode cX11_page1 87 = .ok (.aload_n 0, 1) := by decide +kernel
theorem dX11_page1_88 : decode cX11_page1 88 = .ok (.getfield 69, 3) := by decide +kernel
theorem dX11_page1_91 : decode cX11_page1 91 = .ok (.iconst 4, 1) := by decide +kernel
theorem dX11_page1_92 : decode cX11_page1 92 = .ok (.aload_n 0, 1) := by decide +kernel
theorem dX11_page1_93 : decode cX11_page1 93 = .ok (.getfield 299, 3) := by decide +kernel
theorem dX11_page1_96 : decode cX11_page1 96 = .ok (.imul, 1) := by decide +kernel
theorem dX11_page1_97 : decode cX11_page1 97 = .ok (.iload_n 2, 1) := by decide +kernel
theorem dX11_page1_98 : decode cX11_page1 98 = .ok (.iadd, 1) := by decide +kernel
theorem dX11_page1_99 : decode cX11_page1 99 = .ok (.aload_n 0, 1) := by decide +kernel
theorem dX11_page1_100 : decode cX11_page1 100 = .ok (.iconst 0, 1) := by decide +kernel
theorem dX11_page1_101 : decode cX11_page1 101 = .ok (.bipush 15, 2) := by decide +kernel
theorem dX11_page1_103 : decode cX11_page1 103 = .ok (.invokevirtual 311, 3) := by decide +kernel
theorem dX11_page1_106 : decode cX11_page1 106 = .ok (.iastore, 1) := by decide +kernel
theorem dX11_page1_107 : decode cX11_page1 107 = .ok (.iinc 2 1, 3) := by decide +kernel
theorem dX11_page1_110 : decode cX11_page1 110 = .ok (.goto (-35), 3) := by decide +kernel
theorem dX11_page1_113 : decode cX11_page1 113 = .ok (.aload_n 0, 1) := by decide +kernel
theorem dX11_page1_114 : decode cX11_page1 114 = .ok (.getfield 66, 3) := by decide +kernel
theorem dX11_page1_117 : decode cX11_page1 117 = .ok (.iload_n 1, 1) := by decide +kernel
theorem dX11_page1_118 : decode cX11_page1 118 = .ok (.aload_n 0, 1) := by decide +kernel
theorem dX11_page1_119 : decode cX11_page1 119 = .ok (.getfield 299, 3) := by decide +kernel
theorem dX11_page1_122 : decode cX11_page1 122 = .ok (.iastore, 1) := by decide +kernel
theorem dX11_page1_123 : decode cX11_page1 123 = .ok (.aload_n 0, 1) := by decide +kernel
theorem dX11_page1_124 : decode cX11_page1 124 = .ok (.dup, 1) := by decide +kernel
theorem dX11_page1_125 : decode cX11_page1 125 = .ok (.getfield 299, 3) := by decide +kernel
theorem dX11_page1_128 : decode cX11_page1 128 = .ok (.iconst 1, 1) := by decide +kernel
theorem dX11_page1_129 : decode cX11_page1 129 = .ok (.iadd, 1) := by decide +kernel
theorem dX11_page1_130 : decode cX11_page1 130 = .ok (.putfield 299, 3) := by decide +kernel
theorem dX11_page1_133 : decode cX11_page1 133 = .ok (.return_, 1) := by decide +kernel
theorem dX11_advise1_0 : decode cX11_advise1 0 = .ok (.aload_n 0, 1) := by decide +kernel
theorem dX11_advise1_1 : decode cX11_advise1 1 = .ok (.invokevirtual 290, 3) := by decide +kernel
theorem dX11_advise1_4 : decode cX11_advise1 4 = .ok (.aload_n 0, 1) := by decide +kernel
theorem dX11_advise1_5 : decode cX11_advise1 5 = .ok (.aload_n 0, 1) := by decide +kernel
theorem dX11_advise1_6 : decode cX11_advise1 6 = .ok (.getfield 305, 3) := by decide +kernel
theorem dX11_advise1_9 : decode cX11_advise1 9 = .ok (.invokevirtual 308, 3) := by decide +kernel
theorem dX11_advise1_12 : decode cX11_advise1 12 = .ok (.istore_n 1, 1) := by decide +kernel
theorem dX11_advise1_13 : decode cX11_advise1 13 = .ok (.aload_n 0, 1) := by decide +kernel
theorem dX11_advise1_14 : decode cX11_advise1 14 = .ok (.getfield 279, 3) := by decide +kernel
theorem dX11_advise1_17 : decode cX11_advise1 17 = .ok (.ifCond .eq 4, 3) := by decide +kernel
theorem dX11_advise1_20 : decode cX11_advise1 20 = .ok (.return_, 1) := by decide +kernel
theorem dX11_advise1_21 : decode cX11_advise1 21 = .ok (.aload_n 0, 1) := by decide +kernel
theorem dX11_advise1_22 : decode cX11_advise1 22 = .ok (.invokevirtual 290, 3) := by decide +kernel
theorem dX11_advise1_25 : decode cX11_advise1 25 = .ok (.aload_n 0, 1) := by decide +kernel
theorem dX11_advise1_26 : decode cX11_advise1 26 = .ok (.iload_n 1, 1) := by decide +kernel
theorem dX11_advise1_27 : decode cX11_advise1 27 = .ok (.bipush 12, 2) := by decide +kernel
theorem dX11_advise1_29 : decode cX11_advise1 29 = .ok (.idiv, 1) := by decide +kernel
theorem dX11_advise1_30 : decode cX11_advise1 30 = .ok (.invokevirtual 293, 3) := by decide +kernel
theorem dX11_advise1_33 : decode cX11_advise1 33 = .ok (.istore_n 2, 1) := by decide +kernel
theorem dX11_advise1_34 : decode cX11_advise1 34 = .ok (.aload_n 0, 1) := by decide +kernel
theorem dX11_advise1_35 : decode cX11_advise1 35 = .ok (.getfield 279, 3) := by decide +kernel
theorem dX11_advise1_38 : decode cX11_advise1 38 = .ok (.ifCond .ne 21, 3) := by decide +kernel
theorem dX11_advise1_41 : decode cX11_advise1 41 = .ok (.aload_n 0, 1) := by decide +kernel
theorem dX11_advise1_42 : decode cX11_advise1 42 = .ok (.iload_n 2, 1) := by decide +kernel
theorem dX11_advise1_43 : decode cX11_advise1 43 = .ok (.iload_n 1, 1) := by decide +kernel
theorem dX11_advise1_44 : decode cX11_advise1 44 = .ok (.if_icmp .lt 7, 3) := by decide +kernel
theorem dX11_advise1_47 : decode cX11_advise1 47 = .ok (.iconst 1, 1) := by decide +kernel
theorem dX11_advise1_48 : decode cX11_advise1 48 = .ok (.goto 4, 3) := by decide +kernel
theorem dX11_advise1_51 : decode cX11_advise1 51 = .ok (.iconst 0, 1) := by decide +kernel
theorem dX11_advise1_52 : decode cX11_advise1 52 = .ok (.iconst 3, 1) := by decide +kernel
theorem dX11_advise1_53 : decode cX11_advise1 53 = .ok (.invokevirtual 282, 3) := by decide +kernel
theorem dX11_advise1_56 : decode cX11_advise1 56 = .ok (.ifCond .ne 4, 3) := by decide +kernel
theorem dX11_advise1_59 : decode cX11_advise1 59 = .ok (.return_, 1) := by decide +kernel
theorem dX11_advise1_60 : decode cX11_advise1 60 = .ok (.aload_n 0, 1) := by decide +kernel
theorem dX11_advise1_61 : decode cX11_advise1 61 = .ok (.invokevirtual 290, 3) := by decide +kernel
theorem dX11_advise1_64 : decode cX11_advise1 64 = .ok (.iload_n 1, 1) := by decide +kernel
theorem dX11_advise1_65 : decode cX11_advise1 65 = .ok (.istore_n 3, 1) := by decide +kernel
theorem dX11_advise1_66 : decode cX11_advise1 66 = .ok (.iload_n 3, 1) := by decide +kernel
theorem dX11_advise1_67 : decode cX11_advise1 67 = .ok (.iload_n 2, 1) := by decide +kernel
theorem dX11_advise1_68 : decode cX11_advise1 68 = .ok (.if_icmp .gt 16, 3) := by decide +kernel
theorem dX11_advise1_71 : decode cX11_advise1 71 = .ok (.aload_n 0, 1) := by decide +kernel
theorem dX11_advise1_72 : decode cX11_advise1 72 = .ok (.getfield 72, 3) := by decide +kernel
theorem dX11_advise1_75 : decode cX11_advise1 75 = .ok (.iload_n 3, 1) := by decide +kernel
theorem dX11_advise1_76 : decode cX11_advise1 76 = .ok (.iconst 1, 1) := by decide +kernel
theorem dX11_advise1_77 : decode cX11_advise1 77 = .ok (.iastore, 1) := by decide +kernel
theorem dX11_advise1_78 : decode cX11_advise1 78 = .ok (.iinc 3 1, 3) := by decide +kernel
theorem dX11_advise1_81 : decode cX11_advise1 81 = .ok (.goto (-15), 3) := by decide +kernel
theorem dX11_advise1_84 : decode cX11_advise1 84 = .ok (.return_, 1) := by decide +kernel
theorem dX11_guest1_0 : decode cX11_guest1 0 = .ok (.aload_n 0, 1) := by decide +kernel
theorem dX11_guest1_1 : decode cX11_guest1 1 = .ok (.aload_n 0, 1) := by decide +kernel
theorem dX11_guest1_2 : decode cX11_guest1 2 = .ok (.getfield 305, 3) := by decide +kernel
theorem dX11_guest1_5 : decode cX11_guest1 5 = .ok (.iconst 4, 1) := by decide +kernel
theorem dX11_guest1_6 : decode cX11_guest1 6 = .ok (.if_icmp .ge 7, 3) := by decide +kernel
theorem dX11_guest1_9 : decode cX11_guest1 9 = .ok (.iconst 1, 1) := by decide +kernel
theorem dX11_guest1_10 : decode cX11_guest1 10 = .ok (.goto 4, 3) := by decide +kernel
theorem dX11_guest1_13 : decode cX11_guest1 13 = .ok (.iconst 0, 1) := by decide +kernel
theorem dX11_guest1_14 : decode cX11_guest1 14 = .ok (.iconst 2, 1) := by decide +kernel
theorem dX11_guest1_15 : decode cX11_guest1 15 = .ok (.invokevirtual 282, 3) := by decide +kernel
theorem dX11_guest1_18 : decode cX11_guest1 18 = .ok (.ifCond .ne 4, 3) := by decide +kernel
theorem dX11_guest1_21 : decode cX11_guest1 21 = .ok (.return_, 1) := by decide +kernel
theorem dX11_guest1_22 : decode cX11_guest1 22 = .ok (.aload_n 0, 1) := by decide +kernel
theorem dX11_guest1_23 : decode cX11_guest1 23 = .ok (.invokevirtual 290, 3) := by decide +kernel
theorem dX11_guest1_26 : decode cX11_guest1 26 = .ok (.aload_n 0, 1) := by decide +kernel
theorem dX11_guest1_27 : decode cX11_guest1 27 = .ok (.getfield 60, 3) := by decide +kernel
theorem dX11_guest1_30 : decode cX11_guest1 30 = .ok (.aload_n 0, 1) := by decide +kernel
theorem dX11_guest1_31 : decode cX11_guest1 31 = .ok (.getfield 305, 3) := by decide +kernel
theorem dX11_guest1_34 : decode cX11_guest1 34 = .ok (.aload_n 0, 1) := by decide +kernel
theorem dX11_guest1_35 : decode cX11_guest1 35 = .ok (.iconst 1, 1) := by decide +kernel
theorem dX11_guest1_36 : decode cX11_guest1 36 = .ok (.bipush 12, 2) := by decide +kernel
theorem dX11_guest1_38 : decode cX11_guest1 38 = .ok (.invokevirtual 311, 3) := by decide +kernel
theorem dX11_guest1_41 : decode cX11_guest1 41 = .ok (.iastore, 1) := by decide +kernel
theorem dX11_guest1_42 : decode cX11_guest1 42 = .ok (.aload_n 0, 1) := by decide +kernel
theorem dX11_guest1_43 : decode cX11_guest1 43 = .ok (.getfield 63, 3) := by decide +kernel
theorem dX11_guest1_46 : decode cX11_guest1 46 = .ok (.aload_n 0, 1) := by decide +kernel
theorem dX11_guest1_47 : decode cX11_guest1 47 = .ok (.getfield 305, 3) := by decide +kernel
theorem dX11_guest1_50 : decode cX11_guest1 50 = .ok (.iconst 0, 1) := by decide +kernel
theorem dX11_guest1_51 : decode cX11_guest1 51 = .ok (.iastore, 1) := by decide +kernel
theorem dX11_guest1_52 : decode cX11_guest1 52 = .ok (.aload_n 0, 1) := by decide +kernel
theorem dX11_guest1_53 : decode cX11_guest1 53 = .ok (.getfield 279, 3) := by decide +kernel
theorem dX11_guest1_56 : decode cX11_guest1 56 = .ok (.ifCond .ne 26, 3) := by decide +kernel
theorem dX11_guest1_59 : decode cX11_guest1 59 = .ok (.aload_n 0, 1) := by decide +kernel
theorem dX11_guest1_60 : decode cX11_guest1 60 = .ok (.getfield 269, 3) := by decide +kernel
theorem dX11_guest1_63 : decode cX11_guest1 63 = .ok (.iconst 2, 1) := by decide +kernel
theorem dX11_guest1_64 : decode cX11_guest1 64 = .ok (.if_icmp .ne 18, 3) := by decide +kernel
theorem dX11_guest1_67 : decode cX11_guest1 67 = .ok (.aload_n 0, 1) := by decide +kernel
theorem dX11_guest1_68 : decode cX11_guest1 68 = .ok (.getfield 63, 3) := by decide +kernel
theorem dX11_guest1_71 : decode cX11_guest1 71 = .ok (.aload_n 0, 1) := by decide +kernel
theorem dX11_guest1_72 : decode cX11_guest1 72 = .ok (.getfield 305, 3) := by decide +kernel
theorem dX11_guest1_75 : decode cX11_guest1 75 = .ok (.aload_n 0, 1) := by decide +kernel
theorem dX11_guest1_76 : decode cX11_guest1 76 = .ok (.iconst 0, 1) := by decide +kernel
theorem dX11_guest1_77 : decode cX11_guest1 77 = .ok (.iconst 2, 1) := by decide +kernel
theorem dX11_guest1_78 : decode cX11_guest1 78 = .ok (.invokevirtual 311, 3) := by decide +kernel
theorem dX11_guest1_81 : decode cX11_guest1 81 = .ok (.iastore, 1) := by decide +kernel
theorem dX11_guest1_82 : decode cX11_guest1 82 = .ok (.aload_n 0, 1) := by decide +kernel
theorem dX11_guest1_83 : decode cX11_guest1 83 = .ok (.dup, 1) := by decide +kernel
theorem dX11_guest1_84 : decode cX11_guest1 84 = .ok (.getfield 305, 3) := by decide +kernel
theorem dX11_guest1_87 : decode cX11_guest1 87 = .ok (.iconst 1, 1) := by decide +kernel
theorem dX11_guest1_88 : decode cX11_guest1 88 = .ok (.iadd, 1) := by decide +kernel
theorem dX11_guest1_89 : decode cX11_guest1 89 = .ok (.putfield 305, 3) := by decide +kernel
theorem dX11_guest1_92 : decode cX11_guest1 92 = .ok (.return_, 1) := by decide +kernel
theorem dX11_clause1_0 : decode cX11_clause1 0 = .ok (.aload_n 0, 1) := by decide +kernel
theorem dX11_clause1_1 : decode cX11_clause1 1 = .ok (.getfield 269, 3) := by decide +kernel
theorem dX11_clause1_4 : decode cX11_clause1 4 = .ok (.iconst 1, 1) := by decide +kernel
theorem dX11_clause1_5 : decode cX11_clause1 5 = .ok (.if_icmp .ne 10, 3) := by decide +kernel
theorem dX11_clause1_8 : decode cX11_clause1 8 = .ok (.aload_n 0, 1) := by decide +kernel
theorem dX11_clause1_9 : decode cX11_clause1 9 = .ok (.getfield 263, 3) := by decide +kernel
theorem dX11_clause1_12 : decode cX11_clause1 12 = .ok (.goto 4, 3) := by decide +kernel
theorem dX11_clause1_15 : decode cX11_clause1 15 = .ok (.iconst (-1), 1) := by decide +kernel
theorem dX11_clause1_16 : decode cX11_clause1 16 = .ok (.tableswitch 211 0 7 #[48, 90, 112, 158, 174, 190, 197, 204], 48) := by decide +kernel
theorem dX11_clause1_64 : decode cX11_clause1 64 = .ok (.aload_n 0, 1) := by decide +kernel
theorem dX11_clause1_65 : decode cX11_clause1 65 = .ok (.aload_n 0, 1) := by decide +kernel
theorem dX11_clause1_66 : decode cX11_clause1 66 = .ok (.getfield 299, 3) := by decide +kernel
theorem dX11_clause1_69 : decode cX11_clause1 69 = .ok (.ifCond .ne 7, 3) := by decide +kernel
theorem dX11_clause1_72 : decode cX11_clause1 72 = .ok (.iconst 1, 1) := by decide +kernel
theorem dX11_clause1_73 : decode cX11_clause1 73 = .ok (.goto 4, 3) := by decide +kernel
theorem dX11_clause1_76 : decode cX11_clause1 76 = .ok (.iconst 0, 1) := by decide +kernel
theorem dX11_clause1_77 : decode cX11_clause1 77 = .ok (.iconst 4, 1) := by decide +kernel
theorem dX11_clause1_78 : decode cX11_clause1 78 = .ok (.invokevirtual 282, 3) := by decide +kernel
theorem dX11_clause1_81 : decode cX11_clause1 81 = .ok (.ifCond .eq 153, 3) := by decide +kernel
theorem dX11_clause1_84 : decode cX11_clause1 84 = .ok (.aload_n 0, 1) := by decide +kernel
theorem dX11_clause1_85 : decode cX11_clause1 85 = .ok (.iconst 0, 1) := by decide +kernel
theorem dX11_clause1_86 : decode cX11_clause1 86 = .ok (.invokevirtual 314, 3) := by decide +kernel
theorem dX11_clause1_89 : decode cX11_clause1 89 = .ok (.ifCond .eq 145, 3) := by decide +kernel
theorem dX11_clause1_92 : decode cX11_clause1 92 = .ok (.aload_n 0, 1) := by decide +kernel
theorem dX11_clause1_93 : decode cX11_clause1 93 = .ok (.aload_n 0, 1) := by decide +kernel
theorem dX11_clause1_94 : decode cX11_clause1 94 = .ok (.iconst 1, 1) := by decide +kernel
theorem dX11_clause1_95 : decode cX11_clause1 95 = .ok (.bipush 48, 2) := by decide +kernel
theorem dX11_clause1_97 : decode cX11_clause1 97 = .ok (.invokevirtual 311, 3) := by decide +kernel
theorem dX11_clause1_100 : decode cX11_clause1 100 = .ok (.putfield 302, 3) := by decide +kernel
theorem dX11_clause1_103 : decode cX11_clause1 103 = .ok (.goto 131, 3) := by decide +kernel
theorem dX11_clause1_106 : decode cX11_clause1 106 = .ok (.aload_n 0, 1) := by decide +kernel
theorem dX11_clause1_107 : decode cX11_clause1 107 = .ok (.iconst 1, 1) := by decide +kernel
theorem dX11_clause1_108 : decode cX11_clause1 108 = .ok (.invokevirtual 314, 3) := by decide +kernel
theorem dX11_clause1_111 : decode cX11_clause1 111 = .ok (.ifCond .eq 123, 3) := by decide +kernel
theorem dX11_clause1_114 : decode cX11_clause1 114 = .ok (.aload_n 0, 1) := by decide +kernel
theorem dX11_clause1_115 : decode cX11_clause1 115 = .ok (.aload_n 0, 1) := by decide +kernel
theorem dX11_clause1_116 : decode cX11_clause1 116 = .ok (.iconst 2, 1) := by decide +kernel
theorem dX11_clause1_117 : decode cX11_clause1 117 = .ok (.bipush 8, 2) := by decide +kernel
theorem dX11_clause1_119 : decode cX11_clause1 119 = .ok (.invokevirtual 311, 3) := by decide +kernel
theorem dX11_clause1_122 : decode cX11_clause1 122 = .ok (.putfield 317, 3) := by decide +kernel
theorem dX11_clause1_125 : decode cX11_clause1 125 = .ok (.goto 109, 3) := by decide +kernel
theorem dX11_clause1_128 : decode cX11_clause1 128 = .ok (.aload_n 0, 1) := by decide +kernel
theorem dX11_clause1_129 : decode cX11_clause1 129 = .ok (.iconst 2, 1) := by decide +kernel
theorem dX11_clause1_130 : decode cX11_clause1 130 = .ok (.invokevirtual 314, 3) := by decide +kernel
theorem dX11_clause1_133 : decode cX11_clause1 133 = .ok (.ifCond .ne 6, 3) := by decide +kernel
theorem dX11_clause1_136 : decode cX11_clause1 136 = .ok (.goto 98, 3) := by decide +kernel
theorem dX11_clause1_139 : decode cX11_clause1 139 = .ok (.aload_n 0, 1) := by decide +kernel
theorem dX11_clause1_140 : decode cX11_clause1 140 = .ok (.aload_n 0, 1) := by decide +kernel
theorem dX11_clause1_141 : decode cX11_clause1 141 = .ok (.iconst 1, 1) := by decide +kernel
theorem dX11_clause1_142 : decode cX11_clause1 142 = .ok (.bipush 16, 2) := by decide +kernel
theorem dX11_clause1_144 : decode cX11_clause1 144 = .ok (.invokevirtual 311, 3) := by decide +kernel
theorem dX11_clause1_147 : decode cX11_clause1 147 = .ok (.putfield 320, 3) := by decide +kernel
theorem dX11_clause1_150 : decode cX11_clause1 150 = .ok (.aload_n 0, 1) := by decide +kernel
theorem dX11_clause1_151 : decode cX11_clause1 151 = .ok (.getfield 279, 3) := by decide +kernel
theorem dX11_clause1_154 : decode cX11_clause1 154 = .ok (.ifCond .ne 80, 3) := by decide +kernel
theorem dX11_clause1_157 : decode cX11_clause1 157 = .ok (.aload_n 0, 1) := by decide +kernel
theorem dX11_clause1_158 : decode cX11_clause1 158 = .ok (.aload_n 0, 1) := by decide +kernel
theorem dX11_clause1_159 : decode cX11_clause1 159 = .ok (.aload_n 0, 1) := by decide +kernel
theorem dX11_clause1_160 : decode cX11_clause1 160 = .ok (.getfield 320, 3) := by decide +kernel
theorem dX11_clause1_163 : decode cX11_clause1 163 = .ok (.bipush 16, 2) := by decide +kernel
theorem dX11_clause1_165 : decode cX11_clause1 165 = .ok (.invokevirtual 311, 3) := by decide +kernel
theorem dX11_clause1_168 : decode cX11_clause1 168 = .ok (.putfield 323, 3) := by decide +kernel
theorem dX11_clause1_171 : decode cX11_clause1 171 = .ok (.goto 63, 3) := by decide +kernel
theorem dX11_clause1_174 : decode cX11_clause1 174 = .ok (.aload_n 0, 1) := by decide +kernel
theorem dX11_clause1_175 : decode cX11_clause1 175 = .ok (.iconst 3, 1) := by decide +kernel
theorem dX11_clause1_176 : decode cX11_clause1 176 = .ok (.invokevirtual 314, 3) := by decide +kernel
theorem dX11_clause1_179 : decode cX11_clause1 179 = .ok (.ifCond .eq 55, 3) := by decide +kernel
theorem dX11_clause1_182 : decode cX11_clause1 182 = .ok (.aload_n 0, 1) := by decide +kernel
theorem dX11_clause1_183 : decode cX11_clause1 183 = .ok (.iconst 1, 1) := by decide +kernel
theorem dX11_clause1_184 : decode cX11_clause1 184 = .ok (.putfield 326, 3) := by decide +kernel
theorem dX11_clause1_187 : decode cX11_clause1 187 = .ok (.goto 47, 3) := by decide +kernel
theorem dX11_clause1_190 : decode cX11_clause1 190 = .ok (.aload_n 0, 1) := by decide +kernel
theorem dX11_clause1_191 : decode cX11_clause1 191 = .ok (.iconst 4, 1) := by decide +kernel
theorem dX11_clause1_192 : decode cX11_clause1 192 = .ok (.invokevirtual 314, 3) := by decide +kernel
theorem dX11_clause1_195 : decode cX11_clause1 195 = .ok (.ifCond .eq 39, 3) := by decide +kernel
theorem dX11_clause1_198 : decode cX11_clause1 198 = .ok (.aload_n 0, 1) := by decide +kernel
theorem dX11_clause1_199 : decode cX11_clause1 199 = .ok (.iconst 1, 1) := by decide +kernel
theorem dX11_clause1_200 : decode cX11_clause1 200 = .ok (.putfield 329, 3) := by decide +kernel
theorem dX11_clause1_203 : decode cX11_clause1 203 = .ok (.goto 31, 3) := by decide +kernel
theorem dX11_clause1_206 : decode cX11_clause1 206 = .ok (.aload_n 0, 1) := by decide +kernel
theorem dX11_clause1_207 : decode cX11_clause1 207 = .ok (.invokevirtual 332, 3) := by decide +kernel
theorem dX11_clause1_210 : decode cX11_clause1 210 = .ok (.goto 24, 3) := by decide +kernel
theorem dX11_clause1_213 : decode cX11_clause1 213 = .ok (.aload_n 0, 1) := by decide +kernel
theorem dX11_clause1_214 : decode cX11_clause1 214 = .ok (.invokevirtual 335, 3) := by decide +kernel
theorem dX11_clause1_217 : decode cX11_clause1 217 = .ok (.goto 17, 3) := by decide +kernel
theorem dX11_clause1_220 : decode cX11_clause1 220 = .ok (.aload_n 0, 1) := by decide +kernel
theorem dX11_clause1_221 : decode cX11_clause1 221 = .ok (.invokevirtual 337, 3) := by decide +kernel
theorem dX11_clause1_224 : decode cX11_clause1 224 = .ok (.goto 10, 3) := by decide +kernel
theorem dX11_clause1_227 : decode cX11_clause1 227 = .ok (.aload_n 0, 1) := by decide +kernel
theorem dX11_clause1_228 : decode cX11_clause1 228 = .ok (.iconst 0, 1) := by decide +kernel
theorem dX11_clause1_229 : decode cX11_clause1 229 = .ok (.iconst 1, 1) := by decide +kernel
theorem dX11_clause1_230 : decode cX11_clause1 230 = .ok (.invokevirtual 282, 3) := by decide +kernel
theorem dX11_clause1_233 : decode cX11_clause1 233 = .ok (.pop, 1) := by decide +kernel
theorem dX11_clause1_234 : decode cX11_clause1 234 = .ok (.return_, 1) := by decide +kernel
theorem dX11_ends_0 : decode cX11_ends 0 = .ok (.aload_n 0, 1) := by decide +kernel
theorem dX11_ends_1 : decode cX11_ends 1 = .ok (.getfield 279, 3) := by decide +kernel
theorem dX11_ends_4 : decode cX11_ends 4 = .ok (.ifCond .ne 28, 3) := by decide +kernel
theorem dX11_ends_7 : decode cX11_ends 7 = .ok (.aload_n 0, 1) := by decide +kernel
theorem dX11_ends_8 : decode cX11_ends 8 = .ok (.aload_n 0, 1) := by decide +kernel
theorem dX11_ends_9 : decode cX11_ends 9 = .ok (.getfield 269, 3) := by decide +kernel
theorem dX11_ends_12 : decode cX11_ends 12 = .ok (.iconst 3, 1) := by decide +kernel
theorem dX11_ends_13 : decode cX11_ends 13 = .ok (.if_icmp .ne 7, 3) := by decide +kernel
theorem dX11_ends_16 : decode cX11_ends 16 = .ok (.iconst 1, 1) := by decide +kernel
theorem dX11_ends_17 : decode cX11_ends 17 = .ok (.goto 4, 3) := by decide +kernel
theorem dX11_ends_20 : decode cX11_ends 20 = .ok (.iconst 0, 1) := by decide +kernel
theorem dX11_ends_21 : decode cX11_ends 21 = .ok (.iconst 1, 1) := by decide +kernel
theorem dX11_ends_22 : decode cX11_ends 22 = .ok (.invokevirtual 282, 3) := by decide +kernel
theorem dX11_ends_25 : decode cX11_ends 25 = .ok (.ifCond .eq 7, 3) := by decide +kernel
theorem dX11_ends_28 : decode cX11_ends 28 = .ok (.aload_n 0, 1) := by decide +kernel
theorem dX11_ends_29 : decode cX11_ends 29 = .ok (.invokevirtual 290, 3) := by decide +kernel
theorem dX11_ends_32 : decode cX11_ends 32 = .ok (.return_, 1) := by decide +kernel
theorem dX11_without1_0 : decode cX11_without1 0 = .ok (.aload_n 0, 1) := by decide +kernel
theorem dX11_without1_1 : decode cX11_without1 1 = .ok (.bipush 24, 2) := by decide +kernel
theorem dX11_without1_3 : decode cX11_without1 3 = .ok (.putfield 302, 3) := by decide +kernel
theorem dX11_without1_6 : decode cX11_without1 6 = .ok (.aload_n 0, 1) := by decide +kernel
theorem dX11_without1_7 : decode cX11_without1 7 = .ok (.iconst 4, 1) := by decide +kernel
theorem dX11_without1_8 : decode cX11_without1 8 = .ok (.putfield 317, 3) := by decide +kernel
theorem dX11_without1_11 : decode cX11_without1 11 = .ok (.aload_n 0, 1) := by decide +kernel
theorem dX11_without1_12 : decode cX11_without1 12 = .ok (.iconst 1, 1) := by decide +kernel
theorem dX11_without1_13 : decode cX11_without1 13 = .ok (.putfield 320, 3) := by decide +kernel
theorem dX11_without1_16 : decode cX11_without1 16 = .ok (.aload_n 0, 1) := by decide +kernel
theorem dX11_without1_17 : decode cX11_without1 17 = .ok (.bipush 8, 2) := by decide +kernel
theorem dX11_without1_19 : decode cX11_without1 19 = .ok (.putfield 323, 3) := by decide +kernel
theorem dX11_without1_22 : decode cX11_without1 22 = .ok (.aload_n 0, 1) := by decide +kernel
theorem dX11_without1_23 : decode cX11_without1 23 = .ok (.aload_n 0, 1) := by decide +kernel
theorem dX11_without1_24 : decode cX11_without1 24 = .ok (.aload_n 0, 1) := by decide +kernel
theorem dX11_without1_25 : decode cX11_without1 25 = .ok (.aload_n 0, 1) := by decide +kernel
theorem dX11_without1_26 : decode cX11_without1 26 = .ok (.aload_n 0, 1) := by decide +kernel
theorem dX11_without1_27 : decode cX11_without1 27 = .ok (.iconst 0, 1) := by decide +kernel
theorem dX11_without1_28 : decode cX11_without1 28 = .ok (.dup_x1, 1) := by decide +kernel
theorem dX11_without1_29 : decode cX11_without1 29 = .ok (.putfield 299, 3) := by decide +kernel
theorem dX11_without1_32 : decode cX11_without1 32 = .ok (.dup_x1, 1) := by decide +kernel
theorem dX11_without1_33 : decode cX11_without1 33 = .ok (.putfield 296, 3) := by decide +kernel
theorem dX11_without1_36 : decode cX11_without1 36 = .ok (.dup_x1, 1) := by decide +kernel
theorem dX11_without1_37 : decode cX11_without1 37 = .ok (.putfield 305, 3) := by decide +kernel
theorem dX11_without1_40 : decode cX11_without1 40 = .ok (.dup_x1, 1) := by decide +kernel
theorem dX11_without1_41 : decode cX11_without1 41 = .ok (.putfield 329, 3) := by decide +kernel
theorem dX11_without1_44 : decode cX11_without1 44 = .ok (.putfield 326, 3) := by decide +kernel
theorem dX11_without1_47 : decode cX11_without1 47 = .ok (.iconst 0, 1) := by decide +kernel
theorem dX11_without1_48 : decode cX11_without1 48 = .ok (.istore_n 1, 1) := by decide +kernel
theorem dX11_without1_49 : decode cX11_without1 49 = .ok (.iload_n 1, 1) := by decide +kernel
theorem dX11_without1_50 : decode cX11_without1 50 = .ok (.bipush 48, 2) := by decide +kernel
theorem dX11_without1_52 : decode cX11_without1 52 = .ok (.if_icmp .ge 23, 3) := by decide +kernel
theorem dX11_without1_55 : decode cX11_without1 55 = .ok (.aload_n 0, 1) := by decide +kernel
theorem dX11_without1_56 : decode cX11_without1 56 = .ok (.getfield 66, 3) := by decide +kernel
theorem dX11_without1_59 : decode cX11_without1 59 = .ok (.iload_n 1, 1) := by decide +kernel
theorem dX11_without1_60 : decode cX11_without1 60 = .ok (.iconst (-1), 1) := by decide +kernel
theorem dX11_without1_61 : decode cX11_without1 61 = .ok (.iastore, 1) := by decide +kernel
theorem dX11_without1_62 : decode cX11_without1 62 = .ok (.aload_n 0, 1) := by decide +kernel
theorem dX11_without1_63 : decode cX11_without1 63 = .ok (.getfield 72, 3) := by decide +kernel
theorem dX11_without1_66 : decode cX11_without1 66 = .ok (.iload_n 1, 1) := by decide +kernel
theorem dX11_without1_67 : decode cX11_without1 67 = .ok (.iconst 0, 1) := by decide +kernel
theorem dX11_without1_68 : decode cX11_without1 68 = .ok (.iastore, 1) := by decide +kernel
theorem dX11_without1_69 : decode cX11_without1 69 = .ok (.iinc 1 1, 3) := by decide +kernel
theorem dX11_without1_72 : decode cX11_without1 72 = .ok (.goto (-23), 3) := by decide +kernel
theorem dX11_without1_75 : decode cX11_without1 75 = .ok (.return_, 1) := by decide +kernel
theorem dX11_becomes_0 : decode cX11_becomes 0 = .ok (.aload_n 0, 1) := by decide +kernel
theorem dX11_becomes_1 : decode cX11_becomes 1 = .ok (.aload_n 0, 1) := by decide +kernel
theorem dX11_becomes_2 : decode cX11_becomes 2 = .ok (.getfield 302, 3) := by decide +kernel
theorem dX11_becomes_5 : decode cX11_becomes 5 = .ok (.putfield 23, 3) := by decide +kernel
theorem dX11_becomes_8 : decode cX11_becomes 8 = .ok (.aload_n 0, 1) := by decide +kernel
theorem dX11_becomes_9 : decode cX11_becomes 9 = .ok (.aload_n 0, 1) := by decide +kernel
theorem dX11_becomes_10 : decode cX11_becomes 10 = .ok (.getfield 317, 3) := by decide +kernel
theorem dX11_becomes_13 : decode cX11_becomes 13 = .ok (.putfield 27, 3) := by decide +kernel
theorem dX11_becomes_16 : decode cX11_becomes 16 = .ok (.aload_n 0, 1) := by decide +kernel
theorem dX11_becomes_17 : decode cX11_becomes 17 = .ok (.aload_n 0, 1) := by decide +kernel
theorem dX11_becomes_18 : decode cX11_becomes 18 = .ok (.getfield 320, 3) := by decide +kernel
theorem dX11_becomes_21 : decode cX11_becomes 21 = .ok (.putfield 30, 3) := by decide +kernel
theorem dX11_becomes_24 : decode cX11_becomes 24 = .ok (.aload_n 0, 1) := by decide +kernel
theorem dX11_becomes_25 : decode cX11_becomes 25 = .ok (.aload_n 0, 1) := by decide +kernel
theorem dX11_becomes_26 : decode cX11_becomes 26 = .ok (.getfield 323, 3) := by decide +kernel
theorem dX11_becomes_29 : decode cX11_becomes 29 = .ok (.putfield 33, 3) := by decide +kernel
theorem dX11_becomes_32 : decode cX11_becomes 32 = .ok (.aload_n 0, 1) := by decide +kernel
theorem dX11_becomes_33 : decode cX11_becomes 33 = .ok (.aload_n 0, 1) := by decide +kernel
theorem dX11_becomes_34 : decode cX11_becomes 34 = .ok (.getfield 326, 3) := by decide +kernel
theorem dX11_becomes_37 : decode cX11_becomes 37 = .ok (.putfield 216, 3) := by decide +kernel
theorem dX11_becomes_40 : decode cX11_becomes 40 = .ok (.aload_n 0, 1) := by decide +kernel
theorem dX11_becomes_41 : decode cX11_becomes 41 = .ok (.aload_n 0, 1) := by decide +kernel
theorem dX11_becomes_42 : decode cX11_becomes 42 = .ok (.getfield 329, 3) := by decide +kernel
theorem dX11_becomes_45 : decode cX11_becomes 45 = .ok (.putfield 213, 3) := by decide +kernel
theorem dX11_becomes_48 : decode cX11_becomes 48 = .ok (.aload_n 0, 1) := by decide +kernel
theorem dX11_becomes_49 : decode cX11_becomes 49 = .ok (.aload_n 0, 1) := by decide +kernel
theorem dX11_becomes_50 : decode cX11_becomes 50 = .ok (.getfield 305, 3) := by decide +kernel
theorem dX11_becomes_53 : decode cX11_becomes 53 = .ok (.putfield 340, 3) := by decide +kernel
theorem dX11_becomes_56 : decode cX11_becomes 56 = .ok (.aload_n 0, 1) := by decide +kernel
theorem dX11_becomes_57 : decode cX11_becomes 57 = .ok (.iconst 0, 1) := by decide +kernel
theorem dX11_becomes_58 : decode cX11_becomes 58 = .ok (.putfield 178, 3) := by decide +kernel
theorem dX11_becomes_61 : decode cX11_becomes 61 = .ok (.iconst 0, 1) := by decide +kernel
theorem dX11_becomes_62 : decode cX11_becomes 62 = .ok (.istore_n 1, 1) := by decide +kernel
theorem dX11_becomes_63 : decode cX11_becomes 63 = .ok (.iload_n 1, 1) := by decide +kernel
theorem dX11_becomes_64 : decode cX11_becomes 64 = .ok (.aload_n 0, 1) := by decide +kernel
theorem dX11_becomes_65 : decode cX11_becomes 65 = .ok (.getfield 340, 3) := by decide +kernel
theorem dX11_becomes_68 : decode cX11_becomes 68 = .ok (.if_icmp .ge 81, 3) := by decide +kernel
theorem dX11_becomes_71 : decode cX11_becomes 71 = .ok (.aload_n 0, 1) := by decide +kernel
theorem dX11_becomes_72 : decode cX11_becomes 72 = .ok (.getfield 36, 3) := by decide +kernel
theorem dX11_becomes_75 : decode cX11_becomes 75 = .ok (.iload_n 1, 1) := by decide +kernel
theorem dX11_becomes_76 : decode cX11_becomes 76 = .ok (.aload_n 0, 1) := by decide +kernel
theorem dX11_becomes_77 : decode cX11_becomes 77 = .ok (.getfield 60, 3) := by decide +kernel
theorem dX11_becomes_80 : decode cX11_becomes 80 = .ok (.iload_n 1, 1) := by decide +kernel
theorem dX11_becomes_81 : decode cX11_becomes 81 = .ok (.iaload, 1) := by decide +kernel
theorem dX11_becomes_82 : decode cX11_becomes 82 = .ok (.iastore, 1) := by decide +kernel
theorem dX11_becomes_83 : decode cX11_becomes 83 = .ok (.aload_n 0, 1) := by decide +kernel
theorem dX11_becomes_84 : decode cX11_becomes 84 = .ok (.getfield 39, 3) := by decide +kernel
theorem dX11_becomes_87 : decode cX11_becomes 87 = .ok (.iload_n 1, 1) := by decide +kernel
theorem dX11_becomes_88 : decode cX11_becomes 88 = .ok (.aload_n 0, 1) := by decide +kernel
theorem dX11_becomes_89 : decode cX11_becomes 89 = .ok (.getfield 63, 3) := by decide +kernel
theorem dX11_becomes_92 : decode cX11_becomes 92 = .ok (.iload_n 1, 1) := by decide +kernel
theorem dX11_becomes_93 : decode cX11_becomes 93 = .ok (.iaload, 1) := by decide +kernel
theorem dX11_becomes_94 : decode cX11_becomes 94 = .ok (.iastore, 1) := by decide +kernel
theorem dX11_becomes_95 : decode cX11_becomes 95 = .ok (.aload_n 0, 1) := by decide +kernel
theorem dX11_becomes_96 : decode cX11_becomes 96 = .ok (.getfield 42, 3) := by decide +kernel
theorem dX11_becomes_99 : decode cX11_becomes 99 = .ok (.iload_n 1, 1) := by decide +kernel
theorem dX11_becomes_100 : decode cX11_becomes 100 = .ok (.aload_n 0, 1) := by decide +kernel
theorem dX11_becomes_101 : decode cX11_becomes 101 = .ok (.getfield 178, 3) := by decide +kernel
theorem dX11_becomes_104 : decode cX11_becomes 104 = .ok (.iastore, 1) := by decide +kernel
theorem dX11_becomes_105 : decode cX11_becomes 105 = .ok (.iconst 0, 1) := by decide +kernel
theorem dX11_becomes_106 : decode cX11_becomes 106 = .ok (.istore_n 2, 1) := by decide +kernel
theorem dX11_becomes_107 : decode cX11_becomes 107 = .ok (.iload_n 2, 1) := by decide +kernel
theorem dX11_becomes_108 : decode cX11_becomes 108 = .ok (.aload_n 0, 1) := by decide +kernel
theorem dX11_becomes_109 : decode cX11_becomes 109 = .ok (.getfield 36, 3) := by decide +kernel
theorem dX11_becomes_112 : decode cX11_becomes 112 = .ok (.iload_n 1, 1) := by decide +kernel
theorem dX11_becomes_113 : decode cX11_becomes 113 = .ok (.iaload, 1) := by decide +kernel
theorem dX11_becomes_114 : decode cX11_becomes 114 = .ok (.if_icmp .ge 29, 3) := by decide +kernel
theorem dX11_becomes_117 : decode cX11_becomes 117 = .ok (.aload_n 0, 1) := by decide +kernel
theorem dX11_becomes_118 : decode cX11_becomes 118 = .ok (.getfield 45, 3) := by decide +kernel
theorem dX11_becomes_121 : decode cX11_becomes 121 = .ok (.aload_n 0, 1) := by decide +kernel
theorem dX11_becomes_122 : decode cX11_becomes 122 = .ok (.getfield 178, 3) := by decide +kernel
theorem dX11_becomes_125 : decode cX11_becomes 125 = .ok (.iload_n 1, 1) := by decide +kernel
theorem dX11_becomes_126 : decode cX11_becomes 126 = .ok (.iastore, 1) := by decide +kernel
theorem dX11_becomes_127 : decode cX11_becomes 127 = .ok (.aload_n 0, 1) := by decide +kernel
theorem dX11_becomes_128 : decode cX11_becomes 128 = .ok (.dup, 1) := by decide +kernel
theorem dX11_becomes_129 : decode cX11_becomes 129 = .ok (.getfield 178, 3) := by decide +kernel
theorem dX11_becomes_132 : decode cX11_becomes 132 = .ok (.iconst 1, 1) := by decide +kernel
theorem dX11_becomes_133 : decode cX11_becomes 133 = .ok (.iadd, 1) := by decide +kernel
theorem dX11_becomes_134 : decode cX11_becomes 134 = .ok (.putfield 178, 3) := by decide +kernel
theorem dX11_becomes_137 : decode cX11_becomes 137 = .ok (.iinc 2 1, 3) := by decide +kernel
theorem dX11_becomes_140 : decode cX11_becomes 140 = .ok (.goto (-33), 3) := by decide +kernel
theorem dX11_becomes_143 : decode cX11_becomes 143 = .ok (.iinc 1 1, 3) := by decide +kernel
theorem dX11_becomes_146 : decode cX11_becomes 146 = .ok (.goto (-83), 3) := by decide +kernel
theorem dX11_becomes_149 : decode cX11_becomes 149 = .ok (.aload_n 0, 1) := by decide +kernel
theorem dX11_becomes_150 : decode cX11_becomes 150 = .ok (.invokevirtual 85, 3) := by decide +kernel
theorem dX11_becomes_153 : decode cX11_becomes 153 = .ok (.iconst 0, 1) := by decide +kernel
theorem dX11_becomes_154 : decode cX11_becomes 154 = .ok (.istore_n 1, 1) := by decide +kernel
theorem dX11_becomes_155 : decode cX11_becomes 155 = .ok (.iload_n 1, 1) := by decide +kernel
theorem dX11_becomes_156 : decode cX11_becomes 156 = .ok (.aload_n 0, 1) := by decide +kernel
theorem dX11_becomes_157 : decode cX11_becomes 157 = .ok (.getfield 178, 3) := by decide +kernel
theorem dX11_becomes_160 : decode cX11_becomes 160 = .ok (.if_icmp .ge 118, 3) := by decide +kernel
theorem dX11_becomes_163 : decode cX11_becomes 163 = .ok (.bipush 12, 2) := by decide +kernel
theorem dX11_becomes_165 : decode cX11_becomes 165 = .ok (.aload_n 0, 1) := by decide +kernel
theorem dX11_becomes_166 : decode cX11_becomes 166 = .ok (.getfield 45, 3) := by decide +kernel
theorem dX11_becomes_169 : decode cX11_becomes 169 = .ok (.iload_n 1, 1) := by decide +kernel
theorem dX11_becomes_170 : decode cX11_becomes 170 = .ok (.iaload, 1) := by decide +kernel
theorem dX11_becomes_171 : decode cX11_becomes 171 = .ok (.imul, 1) := by decide +kernel
theorem dX11_becomes_172 : decode cX11_becomes 172 = .ok (.iload_n 1, 1) := by decide +kernel
theorem dX11_becomes_173 : decode cX11_becomes 173 = .ok (.iadd, 1) := by decide +kernel
theorem dX11_becomes_174 : decode cX11_becomes 174 = .ok (.aload_n 0, 1) := by decide +kernel
theorem dX11_becomes_175 : decode cX11_becomes 175 = .ok (.getfield 42, 3) := by decide +kernel
theorem dX11_becomes_178 : decode cX11_becomes 178 = .ok (.aload_n 0, 1) := by decide +kernel
theorem dX11_becomes_179 : decode cX11_becomes 179 = .ok (.getfield 45, 3) := by decide +kernel
theorem dX11_becomes_182 : decode cX11_becomes 182 = .ok (.iload_n 1, 1) := by decide +kernel
theorem dX11_becomes_183 : decode cX11_becomes 183 = .ok (.iaload, 1) := by decide +kernel
theorem dX11_becomes_184 : decode cX11_becomes 184 = .ok (.iaload, 1) := by decide +kernel
theorem dX11_becomes_185 : decode cX11_becomes 185 = .ok (.isub, 1) := by decide +kernel
theorem dX11_becomes_186 : decode cX11_becomes 186 = .ok (.istore_n 2, 1) := by decide +kernel
theorem dX11_becomes_187 : decode cX11_becomes 187 = .ok (.aload_n 0, 1) := by decide +kernel
theorem dX11_becomes_188 : decode cX11_becomes 188 = .ok (.getfield 10, 3) := by decide +kernel
theorem dX11_becomes_191 : decode cX11_becomes 191 = .ok (.bipush 64, 2) := by decide +kernel
theorem dX11_becomes_193 : decode cX11_becomes 193 = .ok (.iload_n 1, 1) := by decide +kernel
theorem dX11_becomes_194 : decode cX11_becomes 194 = .ok (.iadd, 1) := by decide +kernel
theorem dX11_becomes_195 : decode cX11_becomes 195 = .ok (.aload_n 0, 1) := by decide +kernel
theorem dX11_becomes_196 : decode cX11_becomes 196 = .ok (.getfield 72, 3) := by decide +kernel
theorem dX11_becomes_199 : decode cX11_becomes 199 = .ok (.iload_n 2, 1) := by decide +kernel
theorem dX11_becomes_200 : decode cX11_becomes 200 = .ok (.iaload, 1) := by decide +kernel
theorem dX11_becomes_201 : decode cX11_becomes 201 = .ok (.iastore, 1) := by decide +kernel
theorem dX11_becomes_202 : decode cX11_becomes 202 = .ok (.aload_n 0, 1) := by decide +kernel
theorem dX11_becomes_203 : decode cX11_becomes 203 = .ok (.getfield 66, 3) := by decide +kernel
theorem dX11_becomes_206 : decode cX11_becomes 206 = .ok (.iload_n 2, 1) := by decide +kernel
theorem dX11_becomes_207 : decode cX11_becomes 207 = .ok (.iaload, 1) := by decide +kernel
theorem dX11_becomes_208 : decode cX11_becomes 208 = .ok (.iconst (-1), 1) := by decide +kernel
theorem dX11_becomes_209 : decode cX11_becomes 209 = .ok (.if_icmp .ne 6, 3) := by decide +kernel
theorem dX11_becomes_212 : decode cX11_becomes 212 = .ok (.goto 60, 3) := by decide +kernel
theorem dX11_becomes_215 : decode cX11_becomes 215 = .ok (.iconst 0, 1) := by decide +kernel
theorem dX11_becomes_216 : decode cX11_becomes 216 = .ok (.istore_n 3, 1) := by decide +kernel
theorem dX11_becomes_217 : decode cX11_becomes 217 = .ok (.iload_n 3, 1) := by decide +kernel
theorem dX11_becomes_218 : decode cX11_becomes 218 = .ok (.iconst 4, 1) := by decide +kernel
theorem dX11_becomes_219 : decode cX11_becomes 219 = .ok (.if_icmp .ge 30, 3) := by decide +kernel
theorem dX11_becomes_222 : decode cX11_becomes 222 = .ok (.aload_n 0, 1) := by decide +kernel
theorem dX11_becomes_223 : decode cX11_becomes 223 = .ok (.getfield 57, 3) := by decide +kernel
theorem dX11_becomes_226 : decode cX11_becomes 226 = .ok (.iload_n 3, 1) := by decide +kernel
theorem dX11_becomes_227 : decode cX11_becomes 227 = .ok (.aload_n 0, 1) := by decide +kernel
theorem dX11_becomes_228 : decode cX11_becomes 228 = .ok (.getfield 69, 3) := by decide +kernel
theorem dX11_becomes_231 : decode cX11_becomes 231 = .ok (.iconst 4, 1) := by decide +kernel
theorem dX11_becomes_232 : decode cX11_becomes 232 = .ok (.aload_n 0, 1) := by decide +kernel
