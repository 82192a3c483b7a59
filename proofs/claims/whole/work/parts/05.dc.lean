theorem dX11_init_0 : decode cX11_init 0 = .ok (.aload_n 0, 1) := by decide +kernel
theorem dX11_init_1 : decode cX11_init 1 = .ok (.invokespecial 3, 3) := by decide +kernel
theorem dX11_init_4 : decode cX11_init 4 = .ok (.aload_n 0, 1) := by decide +kernel
theorem dX11_init_5 : decode cX11_init 5 = .ok (.ldc 9, 2) := by decide +kernel
theorem dX11_init_7 : decode cX11_init 7 = .ok (.newarray .int, 2) := by decide +kernel
theorem dX11_init_9 : decode cX11_init 9 = .ok (.putfield 10, 3) := by decide +kernel
theorem dX11_init_12 : decode cX11_init 12 = .ok (.aload_n 0, 1) := by decide +kernel
theorem dX11_init_13 : decode cX11_init 13 = .ok (.bipush 16, 2) := by decide +kernel
theorem dX11_init_15 : decode cX11_init 15 = .ok (.newarray .int, 2) := by decide +kernel
theorem dX11_init_17 : decode cX11_init 17 = .ok (.putfield 14, 3) := by decide +kernel
theorem dX11_init_20 : decode cX11_init 20 = .ok (.aload_n 0, 1) := by decide +kernel
theorem dX11_init_21 : decode cX11_init 21 = .ok (.bipush 16, 2) := by decide +kernel
theorem dX11_init_23 : decode cX11_init 23 = .ok (.newarray .int, 2) := by decide +kernel
theorem dX11_init_25 : decode cX11_init 25 = .ok (.putfield 17, 3) := by decide +kernel
theorem dX11_init_28 : decode cX11_init 28 = .ok (.aload_n 0, 1) := by decide +kernel
theorem dX11_init_29 : decode cX11_init 29 = .ok (.bipush 6, 2) := by decide +kernel
theorem dX11_init_31 : decode cX11_init 31 = .ok (.newarray .int, 2) := by decide +kernel
theorem dX11_init_33 : decode cX11_init 33 = .ok (.putfield 20, 3) := by decide +kernel
theorem dX11_init_36 : decode cX11_init 36 = .ok (.aload_n 0, 1) := by decide +kernel
theorem dX11_init_37 : decode cX11_init 37 = .ok (.bipush 24, 2) := by decide +kernel
theorem dX11_init_39 : decode cX11_init 39 = .ok (.putfield 23, 3) := by decide +kernel
theorem dX11_init_42 : decode cX11_init 42 = .ok (.aload_n 0, 1) := by decide +kernel
theorem dX11_init_43 : decode cX11_init 43 = .ok (.iconst 4, 1) := by decide +kernel
theorem dX11_init_44 : decode cX11_init 44 = .ok (.putfield 27, 3) := by decide +kernel
theorem dX11_init_47 : decode cX11_init 47 = .ok (.aload_n 0, 1) := by decide +kernel
theorem dX11_init_48 : decode cX11_init 48 = .ok (.iconst 1, 1) := by decide +kernel
theorem dX11_init_49 : decode cX11_init 49 = .ok (.putfield 30, 3) := by decide +kernel
theorem dX11_init_52 : decode cX11_init 52 = .ok (.aload_n 0, 1) := by decide +kernel
theorem dX11_init_53 : decode cX11_init 53 = .ok (.bipush 8, 2) := by decide +kernel
theorem dX11_init_55 : decode cX11_init 55 = .ok (.putfield 33, 3) := by decide +kernel
theorem dX11_init_58 : decode cX11_init 58 = .ok (.aload_n 0, 1) := by decide +kernel
theorem dX11_init_59 : decode cX11_init 59 = .ok (.iconst 4, 1) := by decide +kernel
theorem dX11_init_60 : decode cX11_init 60 = .ok (.newarray .int, 2) := by decide +kernel
theorem dX11_init_62 : decode cX11_init 62 = .ok (.putfield 36, 3) := by decide +kernel
theorem dX11_init_65 : decode cX11_init 65 = .ok (.aload_n 0, 1) := by decide +kernel
theorem dX11_init_66 : decode cX11_init 66 = .ok (.iconst 4, 1) := by decide +kernel
theorem dX11_init_67 : decode cX11_init 67 = .ok (.newarray .int, 2) := by decide +kernel
theorem dX11_init_69 : decode cX11_init 69 = .ok (.putfield 39, 3) := by decide +kernel
theorem dX11_init_72 : decode cX11_init 72 = .ok (.aload_n 0, 1) := by decide +kernel
theorem dX11_init_73 : decode cX11_init 73 = .ok (.iconst 5, 1) := by decide +kernel
theorem dX11_init_74 : decode cX11_init 74 = .ok (.newarray .int, 2) := by decide +kernel
theorem dX11_init_76 : decode cX11_init 76 = .ok (.putfield 42, 3) := by decide +kernel
theorem dX11_init_79 : decode cX11_init 79 = .ok (.aload_n 0, 1) := by decide +kernel
theorem dX11_init_80 : decode cX11_init 80 = .ok (.bipush 48, 2) := by decide +kernel
theorem dX11_init_82 : decode cX11_init 82 = .ok (.newarray .int, 2) := by decide +kernel
theorem dX11_init_84 : decode cX11_init 84 = .ok (.putfield 45, 3) := by decide +kernel
theorem dX11_init_87 : decode cX11_init 87 = .ok (.aload_n 0, 1) := by decide +kernel
theorem dX11_init_88 : decode cX11_init 88 = .ok (.sipush 700, 3) := by decide +kernel
theorem dX11_init_91 : decode cX11_init 91 = .ok (.newarray .int, 2) := by decide +kernel
theorem dX11_init_93 : decode cX11_init 93 = .ok (.putfield 48, 3) := by decide +kernel
theorem dX11_init_96 : decode cX11_init 96 = .ok (.aload_n 0, 1) := by decide +kernel
theorem dX11_init_97 : decode cX11_init 97 = .ok (.iconst (-1), 1) := by decide +kernel
theorem dX11_init_98 : decode cX11_init 98 = .ok (.putfield 51, 3) := by decide +kernel
theorem dX11_init_101 : decode cX11_init 101 = .ok (.aload_n 0, 1) := by decide +kernel
theorem dX11_init_102 : decode cX11_init 102 = .ok (.iconst 4, 1) := by decide +kernel
theorem dX11_init_103 : decode cX11_init 103 = .ok (.newarray .int, 2) := by decide +kernel
theorem dX11_init_105 : decode cX11_init 105 = .ok (.putfield 54, 3) := by decide +kernel
theorem dX11_init_108 : decode cX11_init 108 = .ok (.aload_n 0, 1) := by decide +kernel
theorem dX11_init_109 : decode cX11_init 109 = .ok (.iconst 4, 1) := by decide +kernel
theorem dX11_init_110 : decode cX11_init 110 = .ok (.newarray .int, 2) := by decide +kernel
theorem dX11_init_112 : decode cX11_init 112 = .ok (.putfield 57, 3) := by decide +kernel
theorem dX11_init_115 : decode cX11_init 115 = .ok (.aload_n 0, 1) := by decide +kernel
theorem dX11_init_116 : decode cX11_init 116 = .ok (.iconst 4, 1) := by decide +kernel
theorem dX11_init_117 : decode cX11_init 117 = .ok (.newarray .int, 2) := by decide +kernel
theorem dX11_init_119 : decode cX11_init 119 = .ok (.putfield 60, 3) := by decide +kernel
theorem dX11_init_122 : decode cX11_init 122 = .ok (.aload_n 0, 1) := by decide +kernel
theorem dX11_init_123 : decode cX11_init 123 = .ok (.iconst 4, 1) := by decide +kernel
theorem dX11_init_124 : decode cX11_init 124 = .ok (.newarray .int, 2) := by decide +kernel
theorem dX11_init_126 : decode cX11_init 126 = .ok (.putfield 63, 3) := by decide +kernel
theorem dX11_init_129 : decode cX11_init 129 = .ok (.aload_n 0, 1) := by decide +kernel
theorem dX11_init_130 : decode cX11_init 130 = .ok (.bipush 48, 2) := by decide +kernel
theorem dX11_init_132 : decode cX11_init 132 = .ok (.newarray .int, 2) := by decide +kernel
theorem dX11_init_134 : decode cX11_init 134 = .ok (.putfield 66, 3) := by decide +kernel
theorem dX11_init_137 : decode cX11_init 137 = .ok (.aload_n 0, 1) := by decide +kernel
theorem dX11_init_138 : decode cX11_init 138 = .ok (.sipush 192, 3) := by decide +kernel
theorem dX11_init_141 : decode cX11_init 141 = .ok (.newarray .int, 2) := by decide +kernel
theorem dX11_init_143 : decode cX11_init 143 = .ok (.putfield 69, 3) := by decide +kernel
theorem dX11_init_146 : decode cX11_init 146 = .ok (.aload_n 0, 1) := by decide +kernel
theorem dX11_init_147 : decode cX11_init 147 = .ok (.bipush 48, 2) := by decide +kernel
theorem dX11_init_149 : decode cX11_init 149 = .ok (.newarray .int, 2) := by decide +kernel
theorem dX11_init_151 : decode cX11_init 151 = .ok (.putfield 72, 3) := by decide +kernel
theorem dX11_init_154 : decode cX11_init 154 = .ok (.aload_n 0, 1) := by decide +kernel
theorem dX11_init_155 : decode cX11_init 155 = .ok (.sipush 600, 3) := by decide +kernel
theorem dX11_init_158 : decode cX11_init 158 = .ok (.newarray .int, 2) := by decide +kernel
theorem dX11_init_160 : decode cX11_init 160 = .ok (.putfield 75, 3) := by decide +kernel
theorem dX11_init_163 : decode cX11_init 163 = .ok (.aload_n 0, 1) := by decide +kernel
theorem dX11_init_164 : decode cX11_init 164 = .ok (.bipush 21, 2) := by decide +kernel
theorem dX11_init_166 : decode cX11_init 166 = .ok (.newarray .int, 2) := by decide +kernel
theorem dX11_init_168 : decode cX11_init 168 = .ok (.putfield 78, 3) := by decide +kernel
theorem dX11_init_171 : decode cX11_init 171 = .ok (.aload_n 0, 1) := by decide +kernel
theorem dX11_init_172 : decode cX11_init 172 = .ok (.bipush 21, 2) := by decide +kernel
theorem dX11_init_174 : decode cX11_init 174 = .ok (.newarray .long, 2) := by decide +kernel
theorem dX11_init_176 : decode cX11_init 176 = .ok (.putfield 81, 3) := by decide +kernel
theorem dX11_init_179 : decode cX11_init 179 = .ok (.aload_n 0, 1) := by decide +kernel
theorem dX11_init_180 : decode cX11_init 180 = .ok (.invokevirtual 85, 3) := by decide +kernel
theorem dX11_init_183 : decode cX11_init 183 = .ok (.return_, 1) := by decide +kernel
theorem dX11_thrown_0 : decode cX11_thrown 0 = .ok (.aload_n 0, 1) := by decide +kernel
theorem dX11_thrown_1 : decode cX11_thrown 1 = .ok (.getfield 88, 3) := by decide +kernel
theorem dX11_thrown_4 : decode cX11_thrown 4 = .ok (.ireturn, 1) := by decide +kernel
theorem dX11_right_0 : decode cX11_right 0 = .ok (.aload_n 0, 1) := by decide +kernel
theorem dX11_right_1 : decode cX11_right 1 = .ok (.getfield 88, 3) := by decide +kernel
theorem dX11_right_4 : decode cX11_right 4 = .ok (.ifCond .ne 12, 3) := by decide +kernel
theorem dX11_right_7 : decode cX11_right 7 = .ok (.iload_n 1, 1) := by decide +kernel
theorem dX11_right_8 : decode cX11_right 8 = .ok (.ifCond .ne 8, 3) := by decide +kernel
theorem dX11_right_11 : decode cX11_right 11 = .ok (.aload_n 0, 1) := by decide +kernel
theorem dX11_right_12 : decode cX11_right 12 = .ok (.iload_n 2, 1) := by decide +kernel
theorem dX11_right_13 : decode cX11_right 13 = .ok (.putfield 88, 3) := by decide +kernel
theorem dX11_right_16 : decode cX11_right 16 = .ok (.aload_n 0, 1) := by decide +kernel
theorem dX11_right_17 : decode cX11_right 17 = .ok (.getfield 88, 3) := by decide +kernel
theorem dX11_right_20 : decode cX11_right 20 = .ok (.ifCond .ne 7, 3) := by decide +kernel
theorem dX11_right_23 : decode cX11_right 23 = .ok (.iconst 1, 1) := by decide +kernel
theorem dX11_right_24 : decode cX11_right 24 = .ok (.goto 4, 3) := by decide +kernel
theorem dX11_right_27 : decode cX11_right 27 = .ok (.iconst 0, 1) := by decide +kernel
theorem dX11_right_28 : decode cX11_right 28 = .ok (.ireturn, 1) := by decide +kernel
theorem dX11_within_0 : decode cX11_within 0 = .ok (.iload_n 0, 1) := by decide +kernel
theorem dX11_within_1 : decode cX11_within 1 = .ok (.iload_n 1, 1) := by decide +kernel
theorem dX11_within_2 : decode cX11_within 2 = .ok (.if_icmp .lt 12, 3) := by decide +kernel
theorem dX11_within_5 : decode cX11_within 5 = .ok (.iload_n 0, 1) := by decide +kernel
theorem dX11_within_6 : decode cX11_within 6 = .ok (.iload_n 2, 1) := by decide +kernel
theorem dX11_within_7 : decode cX11_within 7 = .ok (.if_icmp .gt 7, 3) := by decide +kernel
theorem dX11_within_10 : decode cX11_within 10 = .ok (.iconst 1, 1) := by decide +kernel
theorem dX11_within_11 : decode cX11_within 11 = .ok (.goto 4, 3) := by decide +kernel
theorem dX11_within_14 : decode cX11_within 14 = .ok (.iconst 0, 1) := by decide +kernel
theorem dX11_within_15 : decode cX11_within 15 = .ok (.ireturn, 1) := by decide +kernel
theorem dX11_lesser_0 : decode cX11_lesser 0 = .ok (.iload_n 0, 1) := by decide +kernel
theorem dX11_lesser_1 : decode cX11_lesser 1 = .ok (.iload_n 1, 1) := by decide +kernel
theorem dX11_lesser_2 : decode cX11_lesser 2 = .ok (.if_icmp .ge 7, 3) := by decide +kernel
theorem dX11_lesser_5 : decode cX11_lesser 5 = .ok (.iload_n 0, 1) := by decide +kernel
theorem dX11_lesser_6 : decode cX11_lesser 6 = .ok (.goto 4, 3) := by decide +kernel
theorem dX11_lesser_9 : decode cX11_lesser 9 = .ok (.iload_n 1, 1) := by decide +kernel
theorem dX11_lesser_10 : decode cX11_lesser 10 = .ok (.ireturn, 1) := by decide +kernel
theorem dX11_greater_0 : decode cX11_greater 0 = .ok (.iload_n 0, 1) := by decide +kernel
theorem dX11_greater_1 : decode cX11_greater 1 = .ok (.iload_n 1, 1) := by decide +kernel
theorem dX11_greater_2 : decode cX11_greater 2 = .ok (.if_icmp .le 7, 3) := by decide +kernel
theorem dX11_greater_5 : decode cX11_greater 5 = .ok (.iload_n 0, 1) := by decide +kernel
theorem dX11_greater_6 : decode cX11_greater 6 = .ok (.goto 4, 3) := by decide +kernel
theorem dX11_greater_9 : decode cX11_greater 9 = .ok (.iload_n 1, 1) := by decide +kernel
theorem dX11_greater_10 : decode cX11_greater 10 = .ok (.ireturn, 1) := by decide +kernel
theorem dX11_copies_0 : decode cX11_copies 0 = .ok (.iconst 0, 1) := by decide +kernel
theorem dX11_copies_1 : decode cX11_copies 1 = .ok (.istore 4, 2) := by decide +kernel
theorem dX11_copies_3 : decode cX11_copies 3 = .ok (.iload 4, 2) := by decide +kernel
theorem dX11_copies_5 : decode cX11_copies 5 = .ok (.iload_n 3, 1) := by decide +kernel
theorem dX11_copies_6 : decode cX11_copies 6 = .ok (.if_icmp .ge 27, 3) := by decide +kernel
theorem dX11_copies_9 : decode cX11_copies 9 = .ok (.aload_n 0, 1) := by decide +kernel
theorem dX11_copies_10 : decode cX11_copies 10 = .ok (.getfield 10, 3) := by decide +kernel
theorem dX11_copies_13 : decode cX11_copies 13 = .ok (.iload_n 2, 1) := by decide +kernel
theorem dX11_copies_14 : decode cX11_copies 14 = .ok (.iload 4, 2) := by decide +kernel
theorem dX11_copies_16 : decode cX11_copies 16 = .ok (.iadd, 1) := by decide +kernel
theorem dX11_copies_17 : decode cX11_copies 17 = .ok (.aload_n 0, 1) := by decide +kernel
theorem dX11_copies_18 : decode cX11_copies 18 = .ok (.getfield 10, 3) := by decide +kernel
theorem dX11_copies_21 : decode cX11_copies 21 = .ok (.iload_n 1, 1) := by decide +kernel
theorem dX11_copies_22 : decode cX11_copies 22 = .ok (.iload 4, 2) := by decide +kernel
theorem dX11_copies_24 : decode cX11_copies 24 = .ok (.iadd, 1) := by decide +kernel
theorem dX11_copies_25 : decode cX11_copies 25 = .ok (.iaload, 1) := by decide +kernel
theorem dX11_copies_26 : decode cX11_copies 26 = .ok (.iastore, 1) := by decide +kernel
theorem dX11_copies_27 : decode cX11_copies 27 = .ok (.iinc 4 1, 3) := by decide +kernel
theorem dX11_copies_30 : decode cX11_copies 30 = .ok (.goto (-27), 3) := by decide +kernel
theorem dX11_copies_33 : decode cX11_copies 33 = .ok (.return_, 1) := by decide +kernel
theorem dX11_begins_0 : decode cX11_begins 0 = .ok (.iconst 0, 1) := by decide +kernel
theorem dX11_begins_1 : decode cX11_begins 1 = .ok (.istore_n 1, 1) := by decide +kernel
theorem dX11_begins_2 : decode cX11_begins 2 = .ok (.iload_n 1, 1) := by decide +kernel
theorem dX11_begins_3 : decode cX11_begins 3 = .ok (.sipush 1654, 3) := by decide +kernel
theorem dX11_begins_6 : decode cX11_begins 6 = .ok (.if_icmp .ge 16, 3) := by decide +kernel
theorem dX11_begins_9 : decode cX11_begins 9 = .ok (.aload_n 0, 1) := by decide +kernel
theorem dX11_begins_10 : decode cX11_begins 10 = .ok (.getfield 10, 3) := by decide +kernel
theorem dX11_begins_13 : decode cX11_begins 13 = .ok (.iload_n 1, 1) := by decide +kernel
theorem dX11_begins_14 : decode cX11_begins 14 = .ok (.iconst 0, 1) := by decide +kernel
theorem dX11_begins_15 : decode cX11_begins 15 = .ok (.iastore, 1) := by decide +kernel
theorem dX11_begins_16 : decode cX11_begins 16 = .ok (.iinc 1 1, 3) := by decide +kernel
theorem dX11_begins_19 : decode cX11_begins 19 = .ok (.goto (-17), 3) := by decide +kernel
theorem dX11_begins_22 : decode cX11_begins 22 = .ok (.aload_n 0, 1) := by decide +kernel
theorem dX11_begins_23 : decode cX11_begins 23 = .ok (.getfield 10, 3) := by decide +kernel
theorem dX11_begins_26 : decode cX11_begins 26 = .ok (.iconst 0, 1) := by decide +kernel
theorem dX11_begins_27 : decode cX11_begins 27 = .ok (.aload_n 0, 1) := by decide +kernel
theorem dX11_begins_28 : decode cX11_begins 28 = .ok (.getfield 30, 3) := by decide +kernel
theorem dX11_begins_31 : decode cX11_begins 31 = .ok (.iastore, 1) := by decide +kernel
theorem dX11_begins_32 : decode cX11_begins 32 = .ok (.iconst 0, 1) := by decide +kernel
theorem dX11_begins_33 : decode cX11_begins 33 = .ok (.istore_n 1, 1) := by decide +kernel
theorem dX11_begins_34 : decode cX11_begins 34 = .ok (.iload_n 1, 1) := by decide +kernel
theorem dX11_begins_35 : decode cX11_begins 35 = .ok (.bipush 48, 2) := by decide +kernel
theorem dX11_begins_37 : decode cX11_begins 37 = .ok (.if_icmp .ge 30, 3) := by decide +kernel
theorem dX11_begins_40 : decode cX11_begins 40 = .ok (.aload_n 0, 1) := by decide +kernel
theorem dX11_begins_41 : decode cX11_begins 41 = .ok (.getfield 10, 3) := by decide +kernel
theorem dX11_begins_44 : decode cX11_begins 44 = .ok (.bipush 16, 2) := by decide +kernel
theorem dX11_begins_46 : decode cX11_begins 46 = .ok (.iload_n 1, 1) := by decide +kernel
theorem dX11_begins_47 : decode cX11_begins 47 = .ok (.iadd, 1) := by decide +kernel
theorem dX11_begins_48 : decode cX11_begins 48 = .ok (.iconst (-1), 1) := by decide +kernel
theorem dX11_begins_49 : decode cX11_begins 49 = .ok (.iastore, 1) := by decide +kernel
theorem dX11_begins_50 : decode cX11_begins 50 = .ok (.aload_n 0, 1) := by decide +kernel
theorem dX11_begins_51 : decode cX11_begins 51 = .ok (.getfield 10, 3) := by decide +kernel
theorem dX11_begins_54 : decode cX11_begins 54 = .ok (.sipush 160, 3) := by decide +kernel
theorem dX11_begins_57 : decode cX11_begins 57 = .ok (.iload_n 1, 1) := by decide +kernel
theorem dX11_begins_58 : decode cX11_begins 58 = .ok (.iadd, 1) := by decide +kernel
theorem dX11_begins_59 : decode cX11_begins 59 = .ok (.iconst (-1), 1) := by decide +kernel
theorem dX11_begins_60 : decode cX11_begins 60 = .ok (.iastore, 1) := by decide +kernel
theorem dX11_begins_61 : decode cX11_begins 61 = .ok (.iinc 1 1, 3) := by decide +kernel
theorem dX11_begins_64 : decode cX11_begins 64 = .ok (.goto (-30), 3) := by decide +kernel
theorem dX11_begins_67 : decode cX11_begins 67 = .ok (.iconst 0, 1) := by decide +kernel
theorem dX11_begins_68 : decode cX11_begins 68 = .ok (.istore_n 1, 1) := by decide +kernel
theorem dX11_begins_69 : decode cX11_begins 69 = .ok (.iload_n 1, 1) := by decide +kernel
theorem dX11_begins_70 : decode cX11_begins 70 = .ok (.bipush 48, 2) := by decide +kernel
theorem dX11_begins_72 : decode cX11_begins 72 = .ok (.if_icmp .ge 20, 3) := by decide +kernel
theorem dX11_begins_75 : decode cX11_begins 75 = .ok (.aload_n 0, 1) := by decide +kernel
theorem dX11_begins_76 : decode cX11_begins 76 = .ok (.getfield 10, 3) := by decide +kernel
theorem dX11_begins_79 : decode cX11_begins 79 = .ok (.sipush 976, 3) := by decide +kernel
theorem dX11_begins_82 : decode cX11_begins 82 = .ok (.iload_n 1, 1) := by decide +kernel
theorem dX11_begins_83 : decode cX11_begins 83 = .ok (.iadd, 1) := by decide +kernel
theorem dX11_begins_84 : decode cX11_begins 84 = .ok (.iconst (-1), 1) := by decide +kernel
theorem dX11_begins_85 : decode cX11_begins 85 = .ok (.iastore, 1) := by decide +kernel
theorem dX11_begins_86 : decode cX11_begins 86 = .ok (.iinc 1 1, 3) := by decide +kernel
theorem dX11_begins_89 : decode cX11_begins 89 = .ok (.goto (-20), 3) := by decide +kernel
theorem dX11_begins_92 : decode cX11_begins 92 = .ok (.return_, 1) := by decide +kernel
theorem dX11_cellOf_0 : decode cX11_cellOf 0 = .ok (.aload_n 0, 1) := by decide +kernel
theorem dX11_cellOf_1 : decode cX11_cellOf 1 = .ok (.getfield 10, 3) := by decide +kernel
theorem dX11_cellOf_4 : decode cX11_cellOf 4 = .ok (.iload_n 1, 1) := by decide +kernel
theorem dX11_cellOf_5 : decode cX11_cellOf 5 = .ok (.bipush 16, 2) := by decide +kernel
theorem dX11_cellOf_7 : decode cX11_cellOf 7 = .ok (.iadd, 1) := by decide +kernel
theorem dX11_cellOf_8 : decode cX11_cellOf 8 = .ok (.iload_n 2, 1) := by decide +kernel
theorem dX11_cellOf_9 : decode cX11_cellOf 9 = .ok (.iadd, 1) := by decide +kernel
theorem dX11_cellOf_10 : decode cX11_cellOf 10 = .ok (.iaload, 1) := by decide +kernel
theorem dX11_cellOf_11 : decode cX11_cellOf 11 = .ok (.istore 4, 2) := by decide +kernel
theorem dX11_cellOf_13 : decode cX11_cellOf 13 = .ok (.iload 4, 2) := by decide +kernel
theorem dX11_cellOf_15 : decode cX11_cellOf 15 = .ok (.iconst (-1), 1) := by decide +kernel
theorem dX11_cellOf_16 : decode cX11_cellOf 16 = .ok (.if_icmp .ne 7, 3) := by decide +kernel
theorem dX11_cellOf_19 : decode cX11_cellOf 19 = .ok (.iconst 0, 1) := by decide +kernel
theorem dX11_cellOf_20 : decode cX11_cellOf 20 = .ok (.goto 20, 3) := by decide +kernel
theorem dX11_cellOf_23 : decode cX11_cellOf 23 = .ok (.aload_n 0, 1) := by decide +kernel
theorem dX11_cellOf_24 : decode cX11_cellOf 24 = .ok (.getfield 10, 3) := by decide +kernel
theorem dX11_cellOf_27 : decode cX11_cellOf 27 = .ok (.iload_n 1, 1) := by decide +kernel
theorem dX11_cellOf_28 : decode cX11_cellOf 28 = .ok (.sipush 352, 3) := by decide +kernel
theorem dX11_cellOf_31 : decode cX11_cellOf 31 = .ok (.iadd, 1) := by decide +kernel
theorem dX11_cellOf_32 : decode cX11_cellOf 32 = .ok (.iconst 4, 1) := by decide +kernel
theorem dX11_cellOf_33 : decode cX11_cellOf 33 = .ok (.iload 4, 2) := by decide +kernel
theorem dX11_cellOf_35 : decode cX11_cellOf 35 = .ok (.imul, 1) := by decide +kernel
theorem dX11_cellOf_36 : decode cX11_cellOf 36 = .ok (.iadd, 1) := by decide +kernel
theorem dX11_cellOf_37 : decode cX11_cellOf 37 = .ok (.iload_n 3, 1) := by decide +kernel
theorem dX11_cellOf_38 : decode cX11_cellOf 38 = .ok (.iadd, 1) := by decide +kernel
theorem dX11_cellOf_39 : decode cX11_cellOf 39 = .ok (.iaload, 1) := by decide +kernel
theorem dX11_cellOf_40 : decode cX11_cellOf 40 = .ok (.ireturn, 1) := by decide +kernel
theorem dX11_free_0 : decode cX11_free 0 = .ok (.iconst 0, 1) := by decide +kernel
theorem dX11_free_1 : decode cX11_free 1 = .ok (.istore_n 2, 1) := by decide +kernel
theorem dX11_free_2 : decode cX11_free 2 = .ok (.iload_n 2, 1) := by decide +kernel
theorem dX11_free_3 : decode cX11_free 3 = .ok (.aload_n 0, 1) := by decide +kernel
theorem dX11_free_4 : decode cX11_free 4 = .ok (.getfield 23, 3) := by decide +kernel
theorem dX11_free_7 : decode cX11_free 7 = .ok (.if_icmp .ge 24, 3) := by decide +kernel
theorem dX11_free_10 : decode cX11_free 10 = .ok (.aload_n 0, 1) := by decide +kernel
theorem dX11_free_11 : decode cX11_free 11 = .ok (.getfield 10, 3) := by decide +kernel
theorem dX11_free_14 : decode cX11_free 14 = .ok (.iload_n 1, 1) := by decide +kernel
theorem dX11_free_15 : decode cX11_free 15 = .ok (.sipush 544, 3) := by decide +kernel
theorem dX11_free_18 : decode cX11_free 18 = .ok (.iadd, 1) := by decide +kernel
theorem dX11_free_19 : decode cX11_free 19 = .ok (.iload_n 2, 1) := by decide +kernel
theorem dX11_free_20 : decode cX11_free 20 = .ok (.iadd, 1) := by decide +kernel
theorem dX11_free_21 : decode cX11_free 21 = .ok (.iaload, 1) := by decide +kernel
theorem dX11_free_22 : decode cX11_free 22 = .ok (.ifCond .le 9, 3) := by decide +kernel
theorem dX11_free_25 : decode cX11_free 25 = .ok (.iinc 2 1, 3) := by decide +kernel
theorem dX11_free_28 : decode cX11_free 28 = .ok (.goto (-26), 3) := by decide +kernel
theorem dX11_free_31 : decode cX11_free 31 = .ok (.iload_n 2, 1) := by decide +kernel
theorem dX11_free_32 : decode cX11_free 32 = .ok (.aload_n 0, 1) := by decide +kernel
theorem dX11_free_33 : decode cX11_free 33 = .ok (.getfield 23, 3) := by decide +kernel
theorem dX11_free_36 : decode cX11_free 36 = .ok (.if_icmp .ge 7, 3) := by decide +kernel
theorem dX11_free_39 : decode cX11_free 39 = .ok (.iload_n 2, 1) := by decide +kernel
theorem dX11_free_40 : decode cX11_free 40 = .ok (.goto 4, 3) := by decide +kernel
theorem dX11_free_43 : decode cX11_free 43 = .ok (.iconst (-1), 1) := by decide +kernel
theorem dX11_free_44 : decode cX11_free 44 = .ok (.ireturn, 1) := by decide +kernel
theorem dX11_usedOf_0 : decode cX11_usedOf 0 = .ok (.iconst 0, 1) := by decide +kernel
theorem dX11_usedOf_1 : decode cX11_usedOf 1 = .ok (.istore_n 2, 1) := by decide +kernel
theorem dX11_usedOf_2 : decode cX11_usedOf 2 = .ok (.iconst 0, 1) := by decide +kernel
theorem dX11_usedOf_3 : decode cX11_usedOf 3 = .ok (.istore_n 3, 1) := by decide +kernel
theorem dX11_usedOf_4 : decode cX11_usedOf 4 = .ok (.iload_n 3, 1) := by decide +kernel
theorem dX11_usedOf_5 : decode cX11_usedOf 5 = .ok (.aload_n 0, 1) := by decide +kernel
theorem dX11_usedOf_6 : decode cX11_usedOf 6 = .ok (.getfield 23, 3) := by decide +kernel
theorem dX11_usedOf_9 : decode cX11_usedOf 9 = .ok (.if_icmp .ge 32, 3) := by decide +kernel
theorem dX11_usedOf_12 : decode cX11_usedOf 12 = .ok (.iload_n 2, 1) := by decide +kernel
theorem dX11_usedOf_13 : decode cX11_usedOf 13 = .ok (.aload_n 0, 1) := by decide +kernel
theorem dX11_usedOf_14 : decode cX11_usedOf 14 = .ok (.getfield 10, 3) := by decide +kernel
theorem dX11_usedOf_17 : decode cX11_usedOf 17 = .ok (.iload_n 1, 1) := by decide +kernel
theorem dX11_usedOf_18 : decode cX11_usedOf 18 = .ok (.sipush 544, 3) := by decide +kernel
theorem dX11_usedOf_21 : decode cX11_usedOf 21 = .ok (.iadd, 1) := by decide +kernel
theorem dX11_usedOf_22 : decode cX11_usedOf 22 = .ok (.iload_n 3, 1) := by decide +kernel
theorem dX11_usedOf_23 : decode cX11_usedOf 23 = .ok (.iadd, 1) := by decide +kernel
theorem dX11_usedOf_24 : decode cX11_usedOf 24 = .ok (.iaload, 1) := by decide +kernel
theorem dX11_usedOf_25 : decode cX11_usedOf 25 = .ok (.ifCond .le 7, 3) := by decide +kernel
theorem dX11_usedOf_28 : decode cX11_usedOf 28 = .ok (.iconst 1, 1) := by decide +kernel
theorem dX11_usedOf_29 : decode cX11_usedOf 29 = .ok (.goto 4, 3) := by decide +kernel
theorem dX11_usedOf_32 : decode cX11_usedOf 32 = .ok (.iconst 0, 1) := by decide +kernel
theorem dX11_usedOf_33 : decode cX11_usedOf 33 = .ok (.iadd, 1) := by decide +kernel
theorem dX11_usedOf_34 : decode cX11_usedOf 34 = .ok (.istore_n 2, 1) := by decide +kernel
theorem dX11_usedOf_35 : decode cX11_usedOf 35 = .ok (.iinc 3 1, 3) := by decide +kernel
theorem dX11_usedOf_38 : decode cX11_usedOf 38 = .ok (.goto (-34), 3) := by decide +kernel
theorem dX11_usedOf_41 : decode cX11_usedOf 41 = .ok (.iload_n 2, 1) := by decide +kernel
theorem dX11_usedOf_42 : decode cX11_usedOf 42 = .ok (.ireturn, 1) := by decide +kernel
theorem dX11_isMerged_0 : decode cX11_isMerged 0 = .ok (.aload_n 0, 1) := by decide +kernel
theorem dX11_isMerged_1 : decode cX11_isMerged 1 = .ok (.getfield 10, 3) := by decide +kernel
theorem dX11_isMerged_4 : decode cX11_isMerged 4 = .ok (.iload_n 1, 1) := by decide +kernel
theorem dX11_isMerged_5 : decode cX11_isMerged 5 = .ok (.bipush 16, 2) := by decide +kernel
theorem dX11_isMerged_7 : decode cX11_isMerged 7 = .ok (.iadd, 1) := by decide +kernel
theorem dX11_isMerged_8 : decode cX11_isMerged 8 = .ok (.iload_n 2, 1) := by decide +kernel
theorem dX11_isMerged_9 : decode cX11_isMerged 9 = .ok (.iadd, 1) := by decide +kernel
theorem dX11_isMerged_10 : decode cX11_isMerged 10 = .ok (.iaload, 1) := by decide +kernel
theorem dX11_isMerged_11 : decode cX11_isMerged 11 = .ok (.iconst (-1), 1) := by decide +kernel
theorem dX11_isMerged_12 : decode cX11_isMerged 12 = .ok (.if_icmp .eq 33, 3) := by decide +kernel
theorem dX11_isMerged_15 : decode cX11_isMerged 15 = .ok (.aload_n 0, 1) := by decide +kernel
theorem dX11_isMerged_16 : decode cX11_isMerged 16 = .ok (.getfield 10, 3) := by decide +kernel
theorem dX11_isMerged_19 : decode cX11_isMerged 19 = .ok (.iload_n 1, 1) := by decide +kernel
theorem dX11_isMerged_20 : decode cX11_isMerged 20 = .ok (.sipush 976, 3) := by decide +kernel
theorem dX11_isMerged_23 : decode cX11_isMerged 23 = .ok (.iadd, 1) := by decide +kernel
theorem dX11_isMerged_24 : decode cX11_isMerged 24 = .ok (.aload_n 0, 1) := by decide +kernel
theorem dX11_isMerged_25 : decode cX11_isMerged 25 = .ok (.getfield 10, 3) := by decide +kernel
theorem dX11_isMerged_28 : decode cX11_isMerged 28 = .ok (.iload_n 1, 1) := by decide +kernel
theorem dX11_isMerged_29 : decode cX11_isMerged 29 = .ok (.bipush 16, 2) := by decide +kernel
theorem dX11_isMerged_31 : decode cX11_isMerged 31 = .ok (.iadd, 1) := by decide +kernel
theorem dX11_isMerged_32 : decode cX11_isMerged 32 = .ok (.iload_n 2, 1) := by decide +kernel
theorem dX11_isMerged_33 : decode cX11_isMerged 33 = .ok (.iadd, 1) := by decide +kernel
theorem dX11_isMerged_34 : decode cX11_isMerged 34 = .ok (.iaload, 1) := by decide +kernel
theorem dX11_isMerged_35 : decode cX11_isMerged 35 = .ok (.iadd, 1) := by decide +kernel
theorem dX11_isMerged_36 : decode cX11_isMerged 36 = .ok (.iaload, 1) := by decide +kernel
theorem dX11_isMerged_37 : decode cX11_isMerged 37 = .ok (.iconst (-1), 1) := by decide +kernel
theorem dX11_isMerged_38 : decode cX11_isMerged 38 = .ok (.if_icmp .eq 7, 3) := by decide +kernel
theorem dX11_isMerged_41 : decode cX11_isMerged 41 = .ok (.iconst 1, 1) := by decide +kernel
theorem dX11_isMerged_42 : decode cX11_isMerged 42 = .ok (.goto 4, 3) := by decide +kernel
theorem dX11_isMerged_45 : decode cX11_isMerged 45 = .ok (.iconst 0, 1) := by decide +kernel
theorem dX11_isMerged_46 : decode cX11_isMerged 46 = .ok (.ireturn, 1) := by decide +kernel
theorem dX11_liesIn_0 : decode cX11_liesIn 0 = .ok (.aload_n 0, 1) := by decide +kernel
theorem dX11_liesIn_1 : decode cX11_liesIn 1 = .ok (.getfield 10, 3) := by decide +kernel
theorem dX11_liesIn_4 : decode cX11_liesIn 4 = .ok (.iload_n 1, 1) := by decide +kernel
theorem dX11_liesIn_5 : decode cX11_liesIn 5 = .ok (.sipush 592, 3) := by decide +kernel
theorem dX11_liesIn_8 : decode cX11_liesIn 8 = .ok (.iadd, 1) := by decide +kernel
theorem dX11_liesIn_9 : decode cX11_liesIn 9 = .ok (.bipush 8, 2) := by decide +kernel
theorem dX11_liesIn_11 : decode cX11_liesIn 11 = .ok (.iload_n 3, 1) := by decide +kernel
theorem dX11_liesIn_12 : decode cX11_liesIn 12 = .ok (.imul, 1) := by decide +kernel
theorem dX11_liesIn_13 : decode cX11_liesIn 13 = .ok (.iadd, 1) := by decide +kernel
theorem dX11_liesIn_14 : decode cX11_liesIn 14 = .ok (.aload_n 0, 1) := by decide +kernel
theorem dX11_liesIn_15 : decode cX11_liesIn 15 = .ok (.getfield 10, 3) := by decide +kernel
theorem dX11_liesIn_18 : decode cX11_liesIn 18 = .ok (.iload_n 1, 1) := by decide +kernel
theorem dX11_liesIn_19 : decode cX11_liesIn 19 = .ok (.sipush 544, 3) := by decide +kernel
theorem dX11_liesIn_22 : decode cX11_liesIn 22 = .ok (.iadd, 1) := by decide +kernel
theorem dX11_liesIn_23 : decode cX11_liesIn 23 = .ok (.iload_n 3, 1) := by decide +kernel
theorem dX11_liesIn_24 : decode cX11_liesIn 24 = .ok (.iadd, 1) := by decide +kernel
theorem dX11_liesIn_25 : decode cX11_liesIn 25 = .ok (.iaload, 1) := by decide +kernel
theorem dX11_liesIn_26 : decode cX11_liesIn 26 = .ok (.iadd, 1) := by decide +kernel
theorem dX11_liesIn_27 : decode cX11_liesIn 27 = .ok (.iload_n 2, 1) := by decide +kernel
theorem dX11_liesIn_28 : decode cX11_liesIn 28 = .ok (.iastore, 1) := by decide +kernel
theorem dX11_liesIn_29 : decode cX11_liesIn 29 = .ok (.aload_n 0, 1) := by decide +kernel
theorem dX11_liesIn_30 : decode cX11_liesIn 30 = .ok (.getfield 10, 3) := by decide +kernel
theorem dX11_liesIn_33 : decode cX11_liesIn 33 = .ok (.iload_n 1, 1) := by decide +kernel
theorem dX11_liesIn_34 : decode cX11_liesIn 34 = .ok (.sipush 544, 3) := by decide +kernel
theorem dX11_liesIn_37 : decode cX11_liesIn 37 = .ok (.iadd, 1) := by decide +kernel
theorem dX11_liesIn_38 : decode cX11_liesIn 38 = .ok (.iload_n 3, 1) := by decide +kernel
theorem dX11_liesIn_39 : decode cX11_liesIn 39 = .ok (.iadd, 1) := by decide +kernel
theorem dX11_liesIn_40 : decode cX11_liesIn 40 = .ok (.dup2, 1) := by decide +kernel
theorem dX11_liesIn_41 : decode cX11_liesIn 41 = .ok (.iaload, 1) := by decide +kernel
theorem dX11_liesIn_42 : decode cX11_liesIn 42 = .ok (.iconst 1, 1) := by decide +kernel
theorem dX11_liesIn_43 : decode cX11_liesIn 43 = .ok (.iadd, 1) := by decide +kernel
theorem dX11_liesIn_44 : decode cX11_liesIn 44 = .ok (.iastore, 1) := by decide +kernel
theorem dX11_liesIn_45 : decode cX11_liesIn 45 = .ok (.aload_n 0, 1) := by decide +kernel
theorem dX11_liesIn_46 : decode cX11_liesIn 46 = .ok (.getfield 10, 3) := by decide +kernel
theorem dX11_liesIn_49 : decode cX11_liesIn 49 = .ok (.iload_n 1, 1) := by decide +kernel
theorem dX11_liesIn_50 : decode cX11_liesIn 50 = .ok (.bipush 16, 2) := by decide +kernel
theorem dX11_liesIn_52 : decode cX11_liesIn 52 = .ok (.iadd, 1) := by decide +kernel
theorem dX11_liesIn_53 : decode cX11_liesIn 53 = .ok (.iload_n 2, 1) := by decide +kernel
theorem dX11_liesIn_54 : decode cX11_liesIn 54 = .ok (.iadd, 1) := by decide +kernel
theorem dX11_liesIn_55 : decode cX11_liesIn 55 = .ok (.iload_n 3, 1) := by decide +kernel
theorem dX11_liesIn_56 : decode cX11_liesIn 56 = .ok (.iastore, 1) := by decide +kernel
theorem dX11_liesIn_57 : decode cX11_liesIn 57 = .ok (.return_, 1) := by decide +kernel
theorem dX11_leavesFrame_0 : decode cX11_leavesFrame 0 = .ok (.aload_n 0, 1) := by decide +kernel
theorem dX11_leavesFrame_1 : decode cX11_leavesFrame 1 = .ok (.getfield 10, 3) := by decide +kernel
theorem dX11_leavesFrame_4 : decode cX11_leavesFrame 4 = .ok (.iload_n 1, 1) := by decide +kernel
theorem dX11_leavesFrame_5 : decode cX11_leavesFrame 5 = .ok (.bipush 16, 2) := by decide +kernel
theorem dX11_leavesFrame_7 : decode cX11_leavesFrame 7 = .ok (.iadd, 1) := by decide +kernel
theorem dX11_leavesFrame_8 : decode cX11_leavesFrame 8 = .ok (.iload_n 2, 1) := by decide +kernel
theorem dX11_leavesFrame_9 : decode cX11_leavesFrame 9 = .ok (.iadd, 1) := by decide +kernel
theorem dX11_leavesFrame_10 : decode cX11_leavesFrame 10 = .ok (.iaload, 1) := by decide +kernel
theorem dX11_leavesFrame_11 : decode cX11_leavesFrame 11 = .ok (.istore_n 3, 1) := by decide +kernel
theorem dX11_leavesFrame_12 : decode cX11_leavesFrame 12 = .ok (.iload_n 1, 1) := by decide +kernel
theorem dX11_leavesFrame_13 : decode cX11_leavesFrame 13 = .ok (.sipush 592, 3) := by decide +kernel
theorem dX11_leavesFrame_16 : decode cX11_leavesFrame 16 = .ok (.iadd, 1) := by decide +kernel
theorem dX11_leavesFrame_17 : decode cX11_leavesFrame 17 = .ok (.bipush 8, 2) := by decide +kernel
theorem dX11_leavesFrame_19 : decode cX11_leavesFrame 19 = .ok (.iload_n 3, 1) := by decide +kernel
theorem dX11_leavesFrame_20 : decode cX11_leavesFrame 20 = .ok (.imul, 1) := by decide +kernel
theorem dX11_leavesFrame_21 : decode cX11_leavesFrame 21 = .ok (.iadd, 1) := by decide +kernel
theorem dX11_leavesFrame_22 : decode cX11_leavesFrame 22 = .ok (.istore 4, 2) := by decide +kernel
theorem dX11_leavesFrame_24 : decode cX11_leavesFrame 24 = .ok (.iconst 0, 1) := by decide +kernel
theorem dX11_leavesFrame_25 : decode cX11_leavesFrame 25 = .ok (.istore 5, 2) := by decide +kernel
theorem dX11_leavesFrame_27 : decode cX11_leavesFrame 27 = .ok (.iconst 0, 1) := by decide +kernel
theorem dX11_leavesFrame_28 : decode cX11_leavesFrame 28 = .ok (.istore 6, 2) := by decide +kernel
theorem dX11_leavesFrame_30 : decode cX11_leavesFrame 30 = .ok (.iload 6, 2) := by decide +kernel
theorem dX11_leavesFrame_32 : decode cX11_leavesFrame 32 = .ok (.aload_n 0, 1) := by decide +kernel
theorem dX11_leavesFrame_33 : decode cX11_leavesFrame 33 = .ok (.getfield 10, 3) := by decide +kernel
theorem dX11_leavesFrame_36 : decode cX11_leavesFrame 36 = .ok (.iload_n 1, 1) := by decide +kernel
theorem dX11_leavesFrame_37 : decode cX11_leavesFrame 37 = .ok (.sipush 544, 3) := by decide +kernel
theorem dX11_leavesFrame_40 : decode cX11_leavesFrame 40 = .ok (.iadd, 1) := by decide +kernel
theorem dX11_leavesFrame_41 : decode cX11_leavesFrame 41 = .ok (.iload_n 3, 1) := by decide +kernel
theorem dX11_leavesFrame_42 : decode cX11_leavesFrame 42 = .ok (.iadd, 1) := by decide +kernel
theorem dX11_leavesFrame_43 : decode cX11_leavesFrame 43 = .ok (.iaload, 1) := by decide +kernel
theorem dX11_leavesFrame_44 : decode cX11_leavesFrame 44 = .ok (.if_icmp .ge 49, 3) := by decide +kernel
theorem dX11_leavesFrame_47 : decode cX11_leavesFrame 47 = .ok (.aload_n 0, 1) := by decide +kernel
theorem dX11_leavesFrame_48 : decode cX11_leavesFrame 48 = .ok (.getfield 10, 3) := by decide +kernel
theorem dX11_leavesFrame_51 : decode cX11_leavesFrame 51 = .ok (.iload 4, 2) := by decide +kernel
theorem dX11_leavesFrame_53 : decode cX11_leavesFrame 53 = .ok (.iload 6, 2) := by decide +kernel
theorem dX11_leavesFrame_55 : decode cX11_leavesFrame 55 = .ok (.iadd, 1) := by decide +kernel
theorem dX11_leavesFrame_56 : decode cX11_leavesFrame 56 = .ok (.iaload, 1) := by decide +kernel
theorem dX11_leavesFrame_57 : decode cX11_leavesFrame 57 = .ok (.iload_n 2, 1) := by decide +kernel
theorem dX11_leavesFrame_58 : decode cX11_leavesFrame 58 = .ok (.if_icmp .ne 6, 3) := by decide +kernel
theorem dX11_leavesFrame_61 : decode cX11_leavesFrame 61 = .ok (.goto 26, 3) := by decide +kernel
theorem dX11_leavesFrame_64 : decode cX11_leavesFrame 64 = .ok (.aload_n 0, 1) := by decide +kernel
theorem dX11_leavesFrame_65 : decode cX11_leavesFrame 65 = .ok (.getfield 10, 3) := by decide +kernel
theorem dX11_leavesFrame_68 : decode cX11_leavesFrame 68 = .ok (.iload 4, 2) := by decide +kernel
theorem dX11_leavesFrame_70 : decode cX11_leavesFrame 70 = .ok (.iload 5, 2) := by decide +kernel
theorem dX11_leavesFrame_72 : decode cX11_leavesFrame 72 = .ok (.iadd, 1) := by decide +kernel
theorem dX11_leavesFrame_73 : decode cX11_leavesFrame 73 = .ok (.aload_n 0, 1) := by decide +kernel
theorem dX11_leavesFrame_74 : decode cX11_leavesFrame 74 = .ok (.getfield 10, 3) := by decide +kernel
theorem dX11_leavesFrame_77 : decode cX11_leavesFrame 77 = .ok (.iload 4, 2) := by decide +kernel
theorem dX11_leavesFrame_79 : decode cX11_leavesFrame 79 = .ok (.iload 6, 2) := by decide +kernel
theorem dX11_leavesFrame_81 : decode cX11_leavesFrame 81 = .ok (.iadd, 1) := by decide +kernel
theorem dX11_leavesFrame_82 : decode cX11_leavesFrame 82 = .ok (.iaload, 1) := by decide +kernel
theorem dX11_leavesFrame_83 : decode cX11_leavesFrame 83 = .ok (.iastore, 1) := by decide +kernel
theorem dX11_leavesFrame_84 : decode cX11_leavesFrame 84 = .ok (.iinc 5 1, 3) := by decide +kernel
theorem dX11_leavesFrame_87 : decode cX11_leavesFrame 87 = .ok (.iinc 6 1, 3) := by decide +kernel
theorem dX11_leavesFrame_90 : decode cX11_leavesFrame 90 = .ok (.goto (-60), 3) := by decide +kernel
theorem dX11_leavesFrame_93 : decode cX11_leavesFrame 93 = .ok (.aload_n 0, 1) := by decide +kernel
theorem dX11_leavesFrame_94 : decode cX11_leavesFrame 94 = .ok (.getfield 10, 3) := by decide +kernel
theorem dX11_leavesFrame_97 : decode cX11_leavesFrame 97 = .ok (.iload_n 1, 1) := by decide +kernel
theorem dX11_leavesFrame_98 : decode cX11_leavesFrame 98 = .ok (.sipush 544, 3) := by decide +kernel
theorem dX11_leavesFrame_101 : decode cX11_leavesFrame 101 = .ok (.iadd, 1) := by decide +kernel
theorem dX11_leavesFrame_102 : decode cX11_leavesFrame 102 = .ok (.iload_n 3, 1) := by decide +kernel
theorem dX11_leavesFrame_103 : decode cX11_leavesFrame 103 = .ok (.iadd, 1) := by decide +kernel
theorem dX11_leavesFrame_104 : decode cX11_leavesFrame 104 = .ok (.iload 5, 2) := by decide +kernel
theorem dX11_leavesFrame_106 : decode cX11_leavesFrame 106 = .ok (.iastore, 1) := by decide +kernel
theorem dX11_leavesFrame_107 : decode cX11_leavesFrame 107 = .ok (.aload_n 0, 1) := by decide +kernel
theorem dX11_leavesFrame_108 : decode cX11_leavesFrame 108 = .ok (.getfield 10, 3) := by decide +kernel
theorem dX11_leavesFrame_111 : decode cX11_leavesFrame 111 = .ok (.iload_n 1, 1) := by decide +kernel
theorem dX11_leavesFrame_112 : decode cX11_leavesFrame 112 = .ok (.bipush 16, 2) := by decide +kernel
theorem dX11_leavesFrame_114 : decode cX11_leavesFrame 114 = .ok (.iadd, 1) := by decide +kernel
theorem dX11_leavesFrame_115 : decode cX11_leavesFrame 115 = .ok (.iload_n 2, 1) := by decide +kernel
theorem dX11_leavesFrame_116 : decode cX11_leavesFrame 116 = .ok (.iadd, 1) := by decide +kernel
theorem dX11_leavesFrame_117 : decode cX11_leavesFrame 117 = .ok (.iconst (-1), 1) := by decide +kernel
theorem dX11_leavesFrame_118 : decode cX11_leavesFrame 118 = .ok (.iastore, 1) := by decide +kernel
theorem dX11_leavesFrame_119 : decode cX11_leavesFrame 119 = .ok (.iload 5, 2) := by decide +kernel
theorem dX11_leavesFrame_121 : decode cX11_leavesFrame 121 = .ok (.ifCond .ne 9, 3) := by decide +kernel
theorem dX11_leavesFrame_124 : decode cX11_leavesFrame 124 = .ok (.aload_n 0, 1) := by decide +kernel
theorem dX11_leavesFrame_125 : decode cX11_leavesFrame 125 = .ok (.iload_n 1, 1) := by decide +kernel
theorem dX11_leavesFrame_126 : decode cX11_leavesFrame 126 = .ok (.iload_n 3, 1) := by decide +kernel
theorem dX11_leavesFrame_127 : decode cX11_leavesFrame 127 = .ok (.invokevirtual 91, 3) := by decide +kernel
theorem dX11_leavesFrame_130 : decode cX11_leavesFrame 130 = .ok (.return_, 1) := by decide +kernel
theorem dX11_realm_0 : decode cX11_realm 0 = .ok (.aload_n 0, 1) := by decide +kernel
theorem dX11_realm_1 : decode cX11_realm 1 = .ok (.getfield 39, 3) := by decide +kernel
theorem dX11_realm_4 : decode cX11_realm 4 = .ok (.aload_n 0, 1) := by decide +kernel
theorem dX11_realm_5 : decode cX11_realm 5 = .ok (.getfield 45, 3) := by decide +kernel
theorem dX11_realm_8 : decode cX11_realm 8 = .ok (.iload_n 1, 1) := by decide +kernel
theorem dX11_realm_9 : decode cX11_realm 9 = .ok (.iaload, 1) := by decide +kernel
theorem dX11_realm_10 : decode cX11_realm 10 = .ok (.iaload, 1) := by decide +kernel
theorem dX11_realm_11 : decode cX11_realm 11 = .ok (.ireturn, 1) := by decide +kernel
theorem dX11_framesOf_0 : decode cX11_framesOf 0 = .ok (.iconst 0, 1) := by decide +kernel
theorem dX11_framesOf_1 : decode cX11_framesOf 1 = .ok (.istore_n 3, 1) := by decide +kernel
theorem dX11_framesOf_2 : decode cX11_framesOf 2 = .ok (.iconst 0, 1) := by decide +kernel
theorem dX11_framesOf_3 : decode cX11_framesOf 3 = .ok (.istore 4, 2) := by decide +kernel
theorem dX11_framesOf_5 : decode cX11_framesOf 5 = .ok (.iload 4, 2) := by decide +kernel
theorem dX11_framesOf_7 : decode cX11_framesOf 7 = .ok (.bipush 48, 2) := by decide +kernel
theorem dX11_framesOf_9 : decode cX11_framesOf 9 = .ok (.if_icmp .ge 34, 3) := by decide +kernel
theorem dX11_framesOf_12 : decode cX11_framesOf 12 = .ok (.iload_n 3, 1) := by decide +kernel
theorem dX11_framesOf_13 : decode cX11_framesOf 13 = .ok (.aload_n 0, 1) := by decide +kernel
theorem dX11_framesOf_14 : decode cX11_framesOf 14 = .ok (.getfield 10, 3) := by decide +kernel
theorem dX11_framesOf_17 : decode cX11_framesOf 17 = .ok (.iload_n 1, 1) := by decide +kernel
theorem dX11_framesOf_18 : decode cX11_framesOf 18 = .ok (.sipush 976, 3) := by decide +kernel
theorem dX11_framesOf_21 : decode cX11_framesOf 21 = .ok (.iadd, 1) := by decide +kernel
theorem dX11_framesOf_22 : decode cX11_framesOf 22 = .ok (.iload 4, 2) := by decide +kernel
theorem dX11_framesOf_24 : decode cX11_framesOf 24 = .ok (.iadd, 1) := by decide +kernel
theorem dX11_framesOf_25 : decode cX11_framesOf 25 = .ok (.iaload, 1) := by decide +kernel
theorem dX11_framesOf_26 : decode cX11_framesOf 26 = .ok (.iload_n 2, 1) := by decide +kernel
theorem dX11_framesOf_27 : decode cX11_framesOf 27 = .ok (.if_icmp .ne 7, 3) := by decide +kernel
theorem dX11_framesOf_30 : decode cX11_framesOf 30 = .ok (.iconst 1, 1) := by decide +kernel
theorem dX11_framesOf_31 : decode cX11_framesOf 31 = .ok (.goto 4, 3) := by decide +kernel
theorem dX11_framesOf_34 : decode cX11_framesOf 34 = .ok (.iconst 0, 1) := by decide +kernel
theorem dX11_framesOf_35 : decode cX11_framesOf 35 = .ok (.iadd, 1) := by decide +kernel
theorem dX11_framesOf_36 : decode cX11_framesOf 36 = .ok (.istore_n 3, 1) := by decide +kernel
theorem dX11_framesOf_37 : decode cX11_framesOf 37 = .ok (.iinc 4 1, 3) := by decide +kernel
theorem dX11_framesOf_40 : decode cX11_framesOf 40 = .ok (.goto (-35), 3) := by decide +kernel
theorem dX11_framesOf_43 : decode cX11_framesOf 43 = .ok (.iload_n 3, 1) := by decide +kernel
theorem dX11_framesOf_44 : decode cX11_framesOf 44 = .ok (.ireturn, 1) := by decide +kernel
theorem dX11_frameAt_0 : decode cX11_frameAt 0 = .ok (.iconst 0, 1) := by decide +kernel
theorem dX11_frameAt_1 : decode cX11_frameAt 1 = .ok (.istore 4, 2) := by decide +kernel
theorem dX11_frameAt_3 : decode cX11_frameAt 3 = .ok (.iload 4, 2) := by decide +kernel
theorem dX11_frameAt_5 : decode cX11_frameAt 5 = .ok (.bipush 48, 2) := by decide +kernel
theorem dX11_frameAt_7 : decode cX11_frameAt 7 = .ok (.if_icmp .ge 113, 3) := by decide +kernel
theorem dX11_frameAt_10 : decode cX11_frameAt 10 = .ok (.aload_n 0, 1) := by decide +kernel
theorem dX11_frameAt_11 : decode cX11_frameAt 11 = .ok (.getfield 10, 3) := by decide +kernel
theorem dX11_frameAt_14 : decode cX11_frameAt 14 = .ok (.iload_n 1, 1) := by decide +kernel
theorem dX11_frameAt_15 : decode cX11_frameAt 15 = .ok (.sipush 976, 3) := by decide +kernel
theorem dX11_frameAt_18 : decode cX11_frameAt 18 = .ok (.iadd, 1) := by decide +kernel
theorem dX11_frameAt_19 : decode cX11_frameAt 19 = .ok (.iload 4, 2) := by decide +kernel
theorem dX11_frameAt_21 : decode cX11_frameAt 21 = .ok (.iadd, 1) := by decide +kernel
theorem dX11_frameAt_22 : decode cX11_frameAt 22 = .ok (.iaload, 1) := by decide +kernel
theorem dX11_frameAt_23 : decode cX11_frameAt 23 = .ok (.iload_n 2, 1) := by decide +kernel
theorem dX11_frameAt_24 : decode cX11_frameAt 24 = .ok (.if_icmp .eq 6, 3) := by decide +kernel
theorem dX11_frameAt_27 : decode cX11_frameAt 27 = .ok (.goto 87, 3) := by decide +kernel
theorem dX11_frameAt_30 : decode cX11_frameAt 30 = .ok (.iconst 0, 1) := by decide +kernel
theorem dX11_frameAt_31 : decode cX11_frameAt 31 = .ok (.istore 5, 2) := by decide +kernel
theorem dX11_frameAt_33 : decode cX11_frameAt 33 = .ok (.iconst 0, 1) := by decide +kernel
theorem dX11_frameAt_34 : decode cX11_frameAt 34 = .ok (.istore 6, 2) := by decide +kernel
theorem dX11_frameAt_36 : decode cX11_frameAt 36 = .ok (.iload 6, 2) := by decide +kernel
theorem dX11_frameAt_38 : decode cX11_frameAt 38 = .ok (.bipush 48, 2) := by decide +kernel
theorem dX11_frameAt_40 : decode cX11_frameAt 40 = .ok (.if_icmp .ge 65, 3) := by decide +kernel
theorem dX11_frameAt_43 : decode cX11_frameAt 43 = .ok (.iload 5, 2) := by decide +kernel
theorem dX11_frameAt_45 : decode cX11_frameAt 45 = .ok (.aload_n 0, 1) := by decide +kernel
theorem dX11_frameAt_46 : decode cX11_frameAt 46 = .ok (.getfield 10, 3) := by decide +kernel
theorem dX11_frameAt_49 : decode cX11_frameAt 49 = .ok (.iload_n 1, 1) := by decide +kernel
theorem dX11_frameAt_50 : decode cX11_frameAt 50 = .ok (.sipush 976, 3) := by decide +kernel
theorem dX11_frameAt_53 : decode cX11_frameAt 53 = .ok (.iadd, 1) := by decide +kernel
theorem dX11_frameAt_54 : decode cX11_frameAt 54 = .ok (.iload 6, 2) := by decide +kernel
theorem dX11_frameAt_56 : decode cX11_frameAt 56 = .ok (.iadd, 1) := by decide +kernel
theorem dX11_frameAt_57 : decode cX11_frameAt 57 = .ok (.iaload, 1) := by decide +kernel
theorem dX11_frameAt_58 : decode cX11_frameAt 58 = .ok (.iload_n 2, 1) := by decide +kernel
theorem dX11_frameAt_59 : decode cX11_frameAt 59 = .ok (.if_icmp .ne 36, 3) := by decide +kernel
theorem dX11_frameAt_62 : decode cX11_frameAt 62 = .ok (.aload_n 0, 1) := by decide +kernel
theorem dX11_frameAt_63 : decode cX11_frameAt 63 = .ok (.getfield 10, 3) := by decide +kernel
theorem dX11_frameAt_66 : decode cX11_frameAt 66 = .ok (.iload_n 1, 1) := by decide +kernel
theorem dX11_frameAt_67 : decode cX11_frameAt 67 = .ok (.sipush 1024, 3) := by decide +kernel
theorem dX11_frameAt_70 : decode cX11_frameAt 70 = .ok (.iadd, 1) := by decide +kernel
theorem dX11_frameAt_71 : decode cX11_frameAt 71 = .ok (.iload 6, 2) := by decide +kernel
theorem dX11_frameAt_73 : decode cX11_frameAt 73 = .ok (.iadd, 1) := by decide +kernel
theorem dX11_frameAt_74 : decode cX11_frameAt 74 = .ok (.iaload, 1) := by decide +kernel
theorem dX11_frameAt_75 : decode cX11_frameAt 75 = .ok (.aload_n 0, 1) := by decide +kernel
theorem dX11_frameAt_76 : decode cX11_frameAt 76 = .ok (.getfield 10, 3) := by decide +kernel
theorem dX11_frameAt_79 : decode cX11_frameAt 79 = .ok (.iload_n 1, 1) := by decide +kernel
theorem dX11_frameAt_80 : decode cX11_frameAt 80 = .ok (.sipush 1024, 3) := by decide +kernel
theorem dX11_frameAt_83 : decode cX11_frameAt 83 = .ok (.iadd, 1) := by decide +kernel
theorem dX11_frameAt_84 : decode cX11_frameAt 84 = .ok (.iload 4, 2) := by decide +kernel
theorem dX11_frameAt_86 : decode cX11_frameAt 86 = .ok (.iadd, 1) := by decide +kernel
theorem dX11_frameAt_87 : decode cX11_frameAt 87 = .ok (.iaload, 1) := by decide +kernel
theorem dX11_frameAt_88 : decode cX11_frameAt 88 = .ok (.if_icmp .ge 7, 3) := by decide +kernel
theorem dX11_frameAt_91 : decode cX11_frameAt 91 = .ok (.iconst 1, 1) := by decide +kernel
theorem dX11_frameAt_92 : decode cX11_frameAt 92 = .ok (.goto 4, 3) := by decide +kernel
theorem dX11_frameAt_95 : decode cX11_frameAt 95 = .ok (.iconst 0, 1) := by decide +kernel
theorem dX11_frameAt_96 : decode cX11_frameAt 96 = .ok (.iadd, 1) := by decide +kernel
theorem dX11_frameAt_97 : decode cX11_frameAt 97 = .ok (.istore 5, 2) := by decide +kernel
theorem dX11_frameAt_99 : decode cX11_frameAt 99 = .ok (.iinc 6 1, 3) := by decide +kernel
theorem dX11_frameAt_102 : decode cX11_frameAt 102 = .ok (.goto (-66), 3) := by decide +kernel
theorem dX11_frameAt_105 : decode cX11_frameAt 105 = .ok (.iload 5, 2) := by decide +kernel
theorem dX11_frameAt_107 : decode cX11_frameAt 107 = .ok (.iload_n 3, 1) := by decide +kernel
theorem dX11_frameAt_108 : decode cX11_frameAt 108 = .ok (.if_icmp .ne 6, 3) := by decide +kernel
theorem dX11_frameAt_111 : decode cX11_frameAt 111 = .ok (.iload 4, 2) := by decide +kernel
theorem dX11_frameAt_113 : decode cX11_frameAt 113 = .ok (.ireturn, 1) := by decide +kernel
theorem dX11_frameAt_114 : decode cX11_frameAt 114 = .ok (.iinc 4 1, 3) := by decide +kernel
theorem dX11_frameAt_117 : decode cX11_frameAt 117 = .ok (.goto (-114), 3) := by decide +kernel
theorem dX11_frameAt_120 : decode cX11_frameAt 120 = .ok (.iconst (-1), 1) := by decide +kernel
theorem dX11_frameAt_121 : decode cX11_frameAt 121 = .ok (.ireturn, 1) := by decide +kernel
theorem dX11_leavesKnot_0 : decode cX11_leavesKnot 0 = .ok (.aload_n 0, 1) := by decide +kernel
theorem dX11_leavesKnot_1 : decode cX11_leavesKnot 1 = .ok (.getfield 10, 3) := by decide +kernel
theorem dX11_leavesKnot_4 : decode cX11_leavesKnot 4 = .ok (.iload_n 1, 1) := by decide +kernel
theorem dX11_leavesKnot_5 : decode cX11_leavesKnot 5 = .ok (.sipush 976, 3) := by decide +kernel
theorem dX11_leavesKnot_8 : decode cX11_leavesKnot 8 = .ok (.iadd, 1) := by decide +kernel
theorem dX11_leavesKnot_9 : decode cX11_leavesKnot 9 = .ok (.iload_n 2, 1) := by decide +kernel
theorem dX11_leavesKnot_10 : decode cX11_leavesKnot 10 = .ok (.iadd, 1) := by decide +kernel
theorem dX11_leavesKnot_11 : decode cX11_leavesKnot 11 = .ok (.iaload, 1) := by decide +kernel
theorem dX11_leavesKnot_12 : decode cX11_leavesKnot 12 = .ok (.istore_n 3, 1) := by decide +kernel
theorem dX11_leavesKnot_13 : decode cX11_leavesKnot 13 = .ok (.aload_n 0, 1) := by decide +kernel
theorem dX11_leavesKnot_14 : decode cX11_leavesKnot 14 = .ok (.getfield 10, 3) := by decide +kernel
theorem dX11_leavesKnot_17 : decode cX11_leavesKnot 17 = .ok (.iload_n 1, 1) := by decide +kernel
theorem dX11_leavesKnot_18 : decode cX11_leavesKnot 18 = .ok (.sipush 976, 3) := by decide +kernel
theorem dX11_leavesKnot_21 : decode cX11_leavesKnot 21 = .ok (.iadd, 1) := by decide +kernel
theorem dX11_leavesKnot_22 : decode cX11_leavesKnot 22 = .ok (.iload_n 2, 1) := by decide +kernel
theorem dX11_leavesKnot_23 : decode cX11_leavesKnot 23 = .ok (.iadd, 1) := by decide +kernel
theorem dX11_leavesKnot_24 : decode cX11_leavesKnot 24 = .ok (.iconst (-1), 1) := by decide +kernel
theorem dX11_leavesKnot_25 : decode cX11_leavesKnot 25 = .ok (.iastore, 1) := by decide +kernel
theorem dX11_leavesKnot_26 : decode cX11_leavesKnot 26 = .ok (.iload_n 3, 1) := by decide +kernel
theorem dX11_leavesKnot_27 : decode cX11_leavesKnot 27 = .ok (.iconst (-1), 1) := by decide +kernel
theorem dX11_leavesKnot_28 : decode cX11_leavesKnot 28 = .ok (.if_icmp .eq 12, 3) := by decide +kernel
theorem dX11_leavesKnot_31 : decode cX11_leavesKnot 31 = .ok (.aload_n 0, 1) := by decide +kernel
theorem dX11_leavesKnot_32 : decode cX11_leavesKnot 32 = .ok (.iload_n 1, 1) := by decide +kernel
theorem dX11_leavesKnot_33 : decode cX11_leavesKnot 33 = .ok (.iload_n 3, 1) := by decide +kernel
theorem dX11_leavesKnot_34 : decode cX11_leavesKnot 34 = .ok (.invokevirtual 95, 3) := by decide +kernel
theorem dX11_leavesKnot_37 : decode cX11_leavesKnot 37 = .ok (.ifCond .le 4, 3) := by decide +kernel
theorem dX11_leavesKnot_40 : decode cX11_leavesKnot 40 = .ok (.return_, 1) := by decide +kernel
theorem dX11_leavesKnot_41 : decode cX11_leavesKnot 41 = .ok (.iconst 0, 1) := by decide +kernel
theorem dX11_leavesKnot_42 : decode cX11_leavesKnot 42 = .ok (.istore 4, 2) := by decide +kernel
theorem dX11_leavesKnot_44 : decode cX11_leavesKnot 44 = .ok (.iload 4, 2) := by decide +kernel
theorem dX11_leavesKnot_46 : decode cX11_leavesKnot 46 = .ok (.iconst 3, 1) := by decide +kernel
theorem dX11_leavesKnot_47 : decode cX11_leavesKnot 47 = .ok (.if_icmp .ge 45, 3) := by decide +kernel
theorem dX11_leavesKnot_50 : decode cX11_leavesKnot 50 = .ok (.iload_n 1, 1) := by decide +kernel
theorem dX11_leavesKnot_51 : decode cX11_leavesKnot 51 = .ok (.sipush 1072, 3) := by decide +kernel
theorem dX11_leavesKnot_54 : decode cX11_leavesKnot 54 = .ok (.iadd, 1) := by decide +kernel
theorem dX11_leavesKnot_55 : decode cX11_leavesKnot 55 = .ok (.bipush 97, 2) := by decide +kernel
theorem dX11_leavesKnot_57 : decode cX11_leavesKnot 57 = .ok (.iload 4, 2) := by decide +kernel
theorem dX11_leavesKnot_59 : decode cX11_leavesKnot 59 = .ok (.imul, 1) := by decide +kernel
theorem dX11_leavesKnot_60 : decode cX11_leavesKnot 60 = .ok (.iadd, 1) := by decide +kernel
theorem dX11_leavesKnot_61 : decode cX11_leavesKnot 61 = .ok (.istore 5, 2) := by decide +kernel
theorem dX11_leavesKnot_63 : decode cX11_leavesKnot 63 = .ok (.aload_n 0, 1) := by decide +kernel
theorem dX11_leavesKnot_64 : decode cX11_leavesKnot 64 = .ok (.iload 5, 2) := by decide +kernel
theorem dX11_leavesKnot_66 : decode cX11_leavesKnot 66 = .ok (.iload_n 3, 1) := by decide +kernel
theorem dX11_leavesKnot_67 : decode cX11_leavesKnot 67 = .ok (.invokevirtual 99, 3) := by decide +kernel
theorem dX11_leavesKnot_70 : decode cX11_leavesKnot 70 = .ok (.istore 6, 2) := by decide +kernel
theorem dX11_leavesKnot_72 : decode cX11_leavesKnot 72 = .ok (.iload 6, 2) := by decide +kernel
theorem dX11_leavesKnot_74 : decode cX11_leavesKnot 74 = .ok (.iconst (-1), 1) := by decide +kernel
theorem dX11_leavesKnot_75 : decode cX11_leavesKnot 75 = .ok (.if_icmp .eq 11, 3) := by decide +kernel
theorem dX11_leavesKnot_78 : decode cX11_leavesKnot 78 = .ok (.aload_n 0, 1) := by decide +kernel
theorem dX11_leavesKnot_79 : decode cX11_leavesKnot 79 = .ok (.iload 5, 2) := by decide +kernel
theorem dX11_leavesKnot_81 : decode cX11_leavesKnot 81 = .ok (.iload 6, 2) := by decide +kernel
theorem dX11_leavesKnot_83 : decode cX11_leavesKnot 83 = .ok (.invokevirtual 102, 3) := by decide +kernel
theorem dX11_leavesKnot_86 : decode cX11_leavesKnot 86 = .ok (.iinc 4 1, 3) := by decide +kernel
theorem dX11_leavesKnot_89 : decode cX11_leavesKnot 89 = .ok (.goto (-45), 3) := by decide +kernel
theorem dX11_leavesKnot_92 : decode cX11_leavesKnot 92 = .ok (.return_, 1) := by decide +kernel
theorem dX11_comesTo_0 : decode cX11_comesTo 0 = .ok (.aload_n 0, 1) := by decide +kernel
theorem dX11_comesTo_1 : decode cX11_comesTo 1 = .ok (.getfield 10, 3) := by decide +kernel
theorem dX11_comesTo_4 : decode cX11_comesTo 4 = .ok (.iload_n 1, 1) := by decide +kernel
theorem dX11_comesTo_5 : decode cX11_comesTo 5 = .ok (.sipush 976, 3) := by decide +kernel
theorem dX11_comesTo_8 : decode cX11_comesTo 8 = .ok (.iadd, 1) := by decide +kernel
theorem dX11_comesTo_9 : decode cX11_comesTo 9 = .ok (.iload_n 2, 1) := by decide +kernel
theorem dX11_comesTo_10 : decode cX11_comesTo 10 = .ok (.iadd, 1) := by decide +kernel
theorem dX11_comesTo_11 : decode cX11_comesTo 11 = .ok (.iload_n 3, 1) := by decide +kernel
theorem dX11_comesTo_12 : decode cX11_comesTo 12 = .ok (.iastore, 1) := by decide +kernel
theorem dX11_comesTo_13 : decode cX11_comesTo 13 = .ok (.aload_n 0, 1) := by decide +kernel
theorem dX11_comesTo_14 : decode cX11_comesTo 14 = .ok (.getfield 10, 3) := by decide +kernel
theorem dX11_comesTo_17 : decode cX11_comesTo 17 = .ok (.iload_n 1, 1) := by decide +kernel
theorem dX11_comesTo_18 : decode cX11_comesTo 18 = .ok (.bipush 12, 2) := by decide +kernel
theorem dX11_comesTo_20 : decode cX11_comesTo 20 = .ok (.iadd, 1) := by decide +kernel
theorem dX11_comesTo_21 : decode cX11_comesTo 21 = .ok (.dup2, 1) := by decide +kernel
theorem dX11_comesTo_22 : decode cX11_comesTo 22 = .ok (.iaload, 1) := by decide +kernel
theorem dX11_comesTo_23 : decode cX11_comesTo 23 = .ok (.iconst 1, 1) := by decide +kernel
theorem dX11_comesTo_24 : decode cX11_comesTo 24 = .ok (.iadd, 1) := by decide +kernel
theorem dX11_comesTo_25 : decode cX11_comesTo 25 = .ok (.iastore, 1) := by decide +kernel
theorem dX11_comesTo_26 : decode cX11_comesTo 26 = .ok (.aload_n 0, 1) := by decide +kernel
theorem dX11_comesTo_27 : decode cX11_comesTo 27 = .ok (.getfield 10, 3) := by decide +kernel
theorem dX11_comesTo_30 : decode cX11_comesTo 30 = .ok (.iload_n 1, 1) := by decide +kernel
theorem dX11_comesTo_31 : decode cX11_comesTo 31 = .ok (.sipush 1024, 3) := by decide +kernel
theorem dX11_comesTo_34 : decode cX11_comesTo 34 = .ok (.iadd, 1) := by decide +kernel
theorem dX11_comesTo_35 : decode cX11_comesTo 35 = .ok (.iload_n 2, 1) := by decide +kernel
theorem dX11_comesTo_36 : decode cX11_comesTo 36 = .ok (.iadd, 1) := by decide +kernel
theorem dX11_comesTo_37 : decode cX11_comesTo 37 = .ok (.aload_n 0, 1) := by decide +kernel
theorem dX11_comesTo_38 : decode cX11_comesTo 38 = .ok (.getfield 10, 3) := by decide +kernel
theorem dX11_comesTo_41 : decode cX11_comesTo 41 = .ok (.iload_n 1, 1) := by decide +kernel
theorem dX11_comesTo_42 : decode cX11_comesTo 42 = .ok (.bipush 12, 2) := by decide +kernel
theorem dX11_comesTo_44 : decode cX11_comesTo 44 = .ok (.iadd, 1) := by decide +kernel
theorem dX11_comesTo_45 : decode cX11_comesTo 45 = .ok (.iaload, 1) := by decide +kernel
theorem dX11_comesTo_46 : decode cX11_comesTo 46 = .ok (.iastore, 1) := by decide +kernel
theorem dX11_comesTo_47 : decode cX11_comesTo 47 = .ok (.return_, 1) := by decide +kernel
theorem dX11_newKnot_0 : decode cX11_newKnot 0 = .ok (.iconst 0, 1) := by decide +kernel
theorem dX11_newKnot_1 : decode cX11_newKnot 1 = .ok (.istore_n 2, 1) := by decide +kernel
theorem dX11_newKnot_2 : decode cX11_newKnot 2 = .ok (.aload_n 0, 1) := by decide +kernel
theorem dX11_newKnot_3 : decode cX11_newKnot 3 = .ok (.iload_n 1, 1) := by decide +kernel
theorem dX11_newKnot_4 : decode cX11_newKnot 4 = .ok (.iload_n 2, 1) := by decide +kernel
theorem dX11_newKnot_5 : decode cX11_newKnot 5 = .ok (.invokevirtual 95, 3) := by decide +kernel
theorem dX11_newKnot_8 : decode cX11_newKnot 8 = .ok (.ifCond .le 9, 3) := by decide +kernel
theorem dX11_newKnot_11 : decode cX11_newKnot 11 = .ok (.iinc 2 1, 3) := by decide +kernel
theorem dX11_newKnot_14 : decode cX11_newKnot 14 = .ok (.goto (-12), 3) := by decide +kernel
theorem dX11_newKnot_17 : decode cX11_newKnot 17 = .ok (.iload_n 2, 1) := by decide +kernel
theorem dX11_newKnot_18 : decode cX11_newKnot 18 = .ok (.ireturn, 1) := by decide +kernel
theorem dX11_placeIn_0 : decode cX11_placeIn 0 = .ok (.iconst 0, 1) := by decide +kernel
theorem dX11_placeIn_1 : decode cX11_placeIn 1 = .ok (.istore_n 3, 1) := by decide +kernel
theorem dX11_placeIn_2 : decode cX11_placeIn 2 = .ok (.iload_n 3, 1) := by decide +kernel
theorem dX11_placeIn_3 : decode cX11_placeIn 3 = .ok (.aload_n 0, 1) := by decide +kernel
theorem dX11_placeIn_4 : decode cX11_placeIn 4 = .ok (.getfield 10, 3) := by decide +kernel
theorem dX11_placeIn_7 : decode cX11_placeIn 7 = .ok (.iload_n 1, 1) := by decide +kernel
theorem dX11_placeIn_8 : decode cX11_placeIn 8 = .ok (.iaload, 1) := by decide +kernel
theorem dX11_placeIn_9 : decode cX11_placeIn 9 = .ok (.if_icmp .ge 25, 3) := by decide +kernel
theorem dX11_placeIn_12 : decode cX11_placeIn 12 = .ok (.aload_n 0, 1) := by decide +kernel
theorem dX11_placeIn_13 : decode cX11_placeIn 13 = .ok (.getfield 10, 3) := by decide +kernel
theorem dX11_placeIn_16 : decode cX11_placeIn 16 = .ok (.iload_n 1, 1) := by decide +kernel
theorem dX11_placeIn_17 : decode cX11_placeIn 17 = .ok (.iconst 1, 1) := by decide +kernel
theorem dX11_placeIn_18 : decode cX11_placeIn 18 = .ok (.iadd, 1) := by decide +kernel
theorem dX11_placeIn_19 : decode cX11_placeIn 19 = .ok (.iload_n 3, 1) := by decide +kernel
theorem dX11_placeIn_20 : decode cX11_placeIn 20 = .ok (.iadd, 1) := by decide +kernel
theorem dX11_placeIn_21 : decode cX11_placeIn 21 = .ok (.iaload, 1) := by decide +kernel
theorem dX11_placeIn_22 : decode cX11_placeIn 22 = .ok (.iload_n 2, 1) := by decide +kernel
theorem dX11_placeIn_23 : decode cX11_placeIn 23 = .ok (.if_icmp .ne 5, 3) := by decide +kernel
theorem dX11_placeIn_26 : decode cX11_placeIn 26 = .ok (.iload_n 3, 1) := by decide +kernel
theorem dX11_placeIn_27 : decode cX11_placeIn 27 = .ok (.ireturn, 1) := by decide +kernel
theorem dX11_placeIn_28 : decode cX11_placeIn 28 = .ok (.iinc 3 1, 3) := by decide +kernel
theorem dX11_placeIn_31 : decode cX11_placeIn 31 = .ok (.goto (-29), 3) := by decide +kernel
theorem dX11_placeIn_34 : decode cX11_placeIn 34 = .ok (.iconst (-1), 1) := by decide +kernel
theorem dX11_placeIn_35 : decode cX11_placeIn 35 = .ok (.ireturn, 1) := by decide +kernel
theorem dX11_begin_0 : decode cX11_begin 0 = .ok (.iload_n 2, 1) := by decide +kernel
theorem dX11_begin_1 : decode cX11_begin 1 = .ok (.istore_n 3, 1) := by decide +kernel
theorem dX11_begin_2 : decode cX11_begin 2 = .ok (.iload_n 3, 1) := by decide +kernel
theorem dX11_begin_3 : decode cX11_begin 3 = .ok (.ifCond .le 36, 3) := by decide +kernel
theorem dX11_begin_6 : decode cX11_begin 6 = .ok (.aload_n 0, 1) := by decide +kernel
theorem dX11_begin_7 : decode cX11_begin 7 = .ok (.getfield 10, 3) := by decide +kernel
theorem dX11_begin_10 : decode cX11_begin 10 = .ok (.iload_n 1, 1) := by decide +kernel
theorem dX11_begin_11 : decode cX11_begin 11 = .ok (.bipush 49, 2) := by decide +kernel
theorem dX11_begin_13 : decode cX11_begin 13 = .ok (.iadd, 1) := by decide +kernel
theorem dX11_begin_14 : decode cX11_begin 14 = .ok (.iload_n 3, 1) := by decide +kernel
theorem dX11_begin_15 : decode cX11_begin 15 = .ok (.iadd, 1) := by decide +kernel
theorem dX11_begin_16 : decode cX11_begin 16 = .ok (.iconst 1, 1) := by decide +kernel
theorem dX11_begin_17 : decode cX11_begin 17 = .ok (.isub, 1) := by decide +kernel
theorem dX11_begin_18 : decode cX11_begin 18 = .ok (.iaload, 1) := by decide +kernel
theorem dX11_begin_19 : decode cX11_begin 19 = .ok (.aload_n 0, 1) := by decide +kernel
theorem dX11_begin_20 : decode cX11_begin 20 = .ok (.getfield 10, 3) := by decide +kernel
theorem dX11_begin_23 : decode cX11_begin 23 = .ok (.iload_n 1, 1) := by decide +kernel
theorem dX11_begin_24 : decode cX11_begin 24 = .ok (.bipush 49, 2) := by decide +kernel
theorem dX11_begin_26 : decode cX11_begin 26 = .ok (.iadd, 1) := by decide +kernel
theorem dX11_begin_27 : decode cX11_begin 27 = .ok (.iload_n 2, 1) := by decide +kernel
theorem dX11_begin_28 : decode cX11_begin 28 = .ok (.iadd, 1) := by decide +kernel
theorem dX11_begin_29 : decode cX11_begin 29 = .ok (.iaload, 1) := by decide +kernel
theorem dX11_begin_30 : decode cX11_begin 30 = .ok (.if_icmp .le 9, 3) := by decide +kernel
theorem dX11_begin_33 : decode cX11_begin 33 = .ok (.iinc 3 (-1), 3) := by decide +kernel
theorem dX11_begin_36 : decode cX11_begin 36 = .ok (.goto (-34), 3) := by decide +kernel
theorem dX11_begin_39 : decode cX11_begin 39 = .ok (.iload_n 3, 1) := by decide +kernel
theorem dX11_begin_40 : decode cX11_begin 40 = .ok (.ireturn, 1) := by decide +kernel
theorem dX11_end_0 : decode cX11_end 0 = .ok (.iload_n 2, 1) := by decide +kernel
theorem dX11_end_1 : decode cX11_end 1 = .ok (.iconst 1, 1) := by decide +kernel
theorem dX11_end_2 : decode cX11_end 2 = .ok (.iadd, 1) := by decide +kernel
theorem dX11_end_3 : decode cX11_end 3 = .ok (.istore_n 3, 1) := by decide +kernel
theorem dX11_end_4 : decode cX11_end 4 = .ok (.iload_n 3, 1) := by decide +kernel
theorem dX11_end_5 : decode cX11_end 5 = .ok (.aload_n 0, 1) := by decide +kernel
theorem dX11_end_6 : decode cX11_end 6 = .ok (.getfield 10, 3) := by decide +kernel
theorem dX11_end_9 : decode cX11_end 9 = .ok (.iload_n 1, 1) := by decide +kernel
theorem dX11_end_10 : decode cX11_end 10 = .ok (.iaload, 1) := by decide +kernel
theorem dX11_end_11 : decode cX11_end 11 = .ok (.if_icmp .ge 34, 3) := by decide +kernel
theorem dX11_end_14 : decode cX11_end 14 = .ok (.aload_n 0, 1) := by decide +kernel
theorem dX11_end_15 : decode cX11_end 15 = .ok (.getfield 10, 3) := by decide +kernel
theorem dX11_end_18 : decode cX11_end 18 = .ok (.iload_n 1, 1) := by decide +kernel
theorem dX11_end_19 : decode cX11_end 19 = .ok (.bipush 49, 2) := by decide +kernel
theorem dX11_end_21 : decode cX11_end 21 = .ok (.iadd, 1) := by decide +kernel
theorem dX11_end_22 : decode cX11_end 22 = .ok (.iload_n 3, 1) := by decide +kernel
theorem dX11_end_23 : decode cX11_end 23 = .ok (.iadd, 1) := by decide +kernel
theorem dX11_end_24 : decode cX11_end 24 = .ok (.iaload, 1) := by decide +kernel
theorem dX11_end_25 : decode cX11_end 25 = .ok (.aload_n 0, 1) := by decide +kernel
theorem dX11_end_26 : decode cX11_end 26 = .ok (.getfield 10, 3) := by decide +kernel
theorem dX11_end_29 : decode cX11_end 29 = .ok (.iload_n 1, 1) := by decide +kernel
theorem dX11_end_30 : decode cX11_end 30 = .ok (.bipush 49, 2) := by decide +kernel
theorem dX11_end_32 : decode cX11_end 32 = .ok (.iadd, 1) := by decide +kernel
theorem dX11_end_33 : decode cX11_end 33 = .ok (.iload_n 2, 1) := by decide +kernel
theorem dX11_end_34 : decode cX11_end 34 = .ok (.iadd, 1) := by decide +kernel
theorem dX11_end_35 : decode cX11_end 35 = .ok (.iaload, 1) := by decide +kernel
theorem dX11_end_36 : decode cX11_end 36 = .ok (.if_icmp .le 9, 3) := by decide +kernel
theorem dX11_end_39 : decode cX11_end 39 = .ok (.iinc 3 1, 3) := by decide +kernel
theorem dX11_end_42 : decode cX11_end 42 = .ok (.goto (-38), 3) := by decide +kernel
theorem dX11_end_45 : decode cX11_end 45 = .ok (.iload_n 3, 1) := by decide +kernel
theorem dX11_end_46 : decode cX11_end 46 = .ok (.ireturn, 1) := by decide +kernel
theorem dX11_putsIn_0 : decode cX11_putsIn 0 = .ok (.aload_n 0, 1) := by decide +kernel
theorem dX11_putsIn_1 : decode cX11_putsIn 1 = .ok (.getfield 10, 3) := by decide +kernel
theorem dX11_putsIn_4 : decode cX11_putsIn 4 = .ok (.iload_n 1, 1) := by decide +kernel
theorem dX11_putsIn_5 : decode cX11_putsIn 5 = .ok (.iaload, 1) := by decide +kernel
theorem dX11_putsIn_6 : decode cX11_putsIn 6 = .ok (.istore 5, 2) := by decide +kernel
theorem dX11_putsIn_8 : decode cX11_putsIn 8 = .ok (.iload 5, 2) := by decide +kernel
theorem dX11_putsIn_10 : decode cX11_putsIn 10 = .ok (.iload_n 2, 1) := by decide +kernel
theorem dX11_putsIn_11 : decode cX11_putsIn 11 = .ok (.if_icmp .le 55, 3) := by decide +kernel
theorem dX11_putsIn_14 : decode cX11_putsIn 14 = .ok (.aload_n 0, 1) := by decide +kernel
theorem dX11_putsIn_15 : decode cX11_putsIn 15 = .ok (.getfield 10, 3) := by decide +kernel
theorem dX11_putsIn_18 : decode cX11_putsIn 18 = .ok (.iload_n 1, 1) := by decide +kernel
theorem dX11_putsIn_19 : decode cX11_putsIn 19 = .ok (.iconst 1, 1) := by decide +kernel
theorem dX11_putsIn_20 : decode cX11_putsIn 20 = .ok (.iadd, 1) := by decide +kernel
theorem dX11_putsIn_21 : decode cX11_putsIn 21 = .ok (.iload 5, 2) := by decide +kernel
theorem dX11_putsIn_23 : decode cX11_putsIn 23 = .ok (.iadd, 1) := by decide +kernel
theorem dX11_putsIn_24 : decode cX11_putsIn 24 = .ok (.aload_n 0, 1) := by decide +kernel
theorem dX11_putsIn_25 : decode cX11_putsIn 25 = .ok (.getfield 10, 3) := by decide +kernel
theorem dX11_putsIn_28 : decode cX11_putsIn 28 = .ok (.iload_n 1, 1) := by decide +kernel
theorem dX11_putsIn_29 : decode cX11_putsIn 29 = .ok (.iload 5, 2) := by decide +kernel
theorem dX11_putsIn_31 : decode cX11_putsIn 31 = .ok (.iadd, 1) := by decide +kernel
theorem dX11_putsIn_32 : decode cX11_putsIn 32 = .ok (.iaload, 1) := by decide +kernel
theorem dX11_putsIn_33 : decode cX11_putsIn 33 = .ok (.iastore, 1) := by decide +kernel
theorem dX11_putsIn_34 : decode cX11_putsIn 34 = .ok (.aload_n 0, 1) := by decide +kernel
theorem dX11_putsIn_35 : decode cX11_putsIn 35 = .ok (.getfield 10, 3) := by decide +kernel
theorem dX11_putsIn_38 : decode cX11_putsIn 38 = .ok (.iload_n 1, 1) := by decide +kernel
theorem dX11_putsIn_39 : decode cX11_putsIn 39 = .ok (.bipush 49, 2) := by decide +kernel
theorem dX11_putsIn_41 : decode cX11_putsIn 41 = .ok (.iadd, 1) := by decide +kernel
theorem dX11_putsIn_42 : decode cX11_putsIn 42 = .ok (.iload 5, 2) := by decide +kernel
theorem dX11_putsIn_44 : decode cX11_putsIn 44 = .ok (.iadd, 1) := by decide +kernel
theorem dX11_putsIn_45 : decode cX11_putsIn 45 = .ok (.aload_n 0, 1) := by decide +kernel
theorem dX11_putsIn_46 : decode cX11_putsIn 46 = .ok (.getfield 10, 3) := by decide +kernel
theorem dX11_putsIn_49 : decode cX11_putsIn 49 = .ok (.iload_n 1, 1) := by decide +kernel
theorem dX11_putsIn_50 : decode cX11_putsIn 50 = .ok (.bipush 49, 2) := by decide +kernel
theorem dX11_putsIn_52 : decode cX11_putsIn 52 = .ok (.iadd, 1) := by decide +kernel
theorem dX11_putsIn_53 : decode cX11_putsIn 53 = .ok (.iload 5, 2) := by decide +kernel
theorem dX11_putsIn_55 : decode cX11_putsIn 55 = .ok (.iadd, 1) := by decide +kernel
theorem dX11_putsIn_56 : decode cX11_putsIn 56 = .ok (.iconst 1, 1) := by decide +kernel
theorem dX11_putsIn_57 : decode cX11_putsIn 57 = .ok (.isub, 1) := by decide +kernel
theorem dX11_putsIn_58 : decode cX11_putsIn 58 = .ok (.iaload, 1) := by decide +kernel
theorem dX11_putsIn_59 : decode cX11_putsIn 59 = .ok (.iastore, 1) := by decide +kernel
theorem dX11_putsIn_60 : decode cX11_putsIn 60 = .ok (.iinc 5 (-1), 3) := by decide +kernel
theorem dX11_putsIn_63 : decode cX11_putsIn 63 = .ok (.goto (-55), 3) := by decide +kernel
theorem dX11_putsIn_66 : decode cX11_putsIn 66 = .ok (.aload_n 0, 1) := by decide +kernel
theorem dX11_putsIn_67 : decode cX11_putsIn 67 = .ok (.getfield 10, 3) := by decide +kernel
theorem dX11_putsIn_70 : decode cX11_putsIn 70 = .ok (.iload_n 1, 1) := by decide +kernel
theorem dX11_putsIn_71 : decode cX11_putsIn 71 = .ok (.iconst 1, 1) := by decide +kernel
theorem dX11_putsIn_72 : decode cX11_putsIn 72 = .ok (.iadd, 1) := by decide +kernel
theorem dX11_putsIn_73 : decode cX11_putsIn 73 = .ok (.iload_n 2, 1) := by decide +kernel
theorem dX11_putsIn_74 : decode cX11_putsIn 74 = .ok (.iadd, 1) := by decide +kernel
theorem dX11_putsIn_75 : decode cX11_putsIn 75 = .ok (.iload_n 3, 1) := by decide +kernel
theorem dX11_putsIn_76 : decode cX11_putsIn 76 = .ok (.iastore, 1) := by decide +kernel
theorem dX11_putsIn_77 : decode cX11_putsIn 77 = .ok (.aload_n 0, 1) := by decide +kernel
theorem dX11_putsIn_78 : decode cX11_putsIn 78 = .ok (.getfield 10, 3) := by decide +kernel
theorem dX11_putsIn_81 : decode cX11_putsIn 81 = .ok (.iload_n 1, 1) := by decide +kernel
theorem dX11_putsIn_82 : decode cX11_putsIn 82 = .ok (.bipush 49, 2) := by decide +kernel
theorem dX11_putsIn_84 : decode cX11_putsIn 84 = .ok (.iadd, 1) := by decide +kernel
theorem dX11_putsIn_85 : decode cX11_putsIn 85 = .ok (.iload_n 2, 1) := by decide +kernel
theorem dX11_putsIn_86 : decode cX11_putsIn 86 = .ok (.iadd, 1) := by decide +kernel
theorem dX11_putsIn_87 : decode cX11_putsIn 87 = .ok (.iload 4, 2) := by decide +kernel
theorem dX11_putsIn_89 : decode cX11_putsIn 89 = .ok (.iastore, 1) := by decide +kernel
theorem dX11_putsIn_90 : decode cX11_putsIn 90 = .ok (.aload_n 0, 1) := by decide +kernel
theorem dX11_putsIn_91 : decode cX11_putsIn 91 = .ok (.getfield 10, 3) := by decide +kernel
theorem dX11_putsIn_94 : decode cX11_putsIn 94 = .ok (.iload_n 1, 1) := by decide +kernel
theorem dX11_putsIn_95 : decode cX11_putsIn 95 = .ok (.dup2, 1) := by decide +kernel
theorem dX11_putsIn_96 : decode cX11_putsIn 96 = .ok (.iaload, 1) := by decide +kernel
theorem dX11_putsIn_97 : decode cX11_putsIn 97 = .ok (.iconst 1, 1) := by decide +kernel
theorem dX11_putsIn_98 : decode cX11_putsIn 98 = .ok (.iadd, 1) := by decide +kernel
theorem dX11_putsIn_99 : decode cX11_putsIn 99 = .ok (.iastore, 1) := by decide +kernel
theorem dX11_putsIn_100 : decode cX11_putsIn 100 = .ok (.return_, 1) := by decide +kernel
theorem dX11_cutsOut_0 : decode cX11_cutsOut 0 = .ok (.iload_n 2, 1) := by decide +kernel
theorem dX11_cutsOut_1 : decode cX11_cutsOut 1 = .ok (.istore_n 3, 1) := by decide +kernel
theorem dX11_cutsOut_2 : decode cX11_cutsOut 2 = .ok (.iload_n 3, 1) := by decide +kernel
theorem dX11_cutsOut_3 : decode cX11_cutsOut 3 = .ok (.iconst 1, 1) := by decide +kernel
theorem dX11_cutsOut_4 : decode cX11_cutsOut 4 = .ok (.iadd, 1) := by decide +kernel
theorem dX11_cutsOut_5 : decode cX11_cutsOut 5 = .ok (.aload_n 0, 1) := by decide +kernel
theorem dX11_cutsOut_6 : decode cX11_cutsOut 6 = .ok (.getfield 10, 3) := by decide +kernel
theorem dX11_cutsOut_9 : decode cX11_cutsOut 9 = .ok (.iload_n 1, 1) := by decide +kernel
theorem dX11_cutsOut_10 : decode cX11_cutsOut 10 = .ok (.iaload, 1) := by decide +kernel
theorem dX11_cutsOut_11 : decode cX11_cutsOut 11 = .ok (.if_icmp .ge 53, 3) := by decide +kernel
theorem dX11_cutsOut_14 : decode cX11_cutsOut 14 = .ok (.aload_n 0, 1) := by decide +kernel
theorem dX11_cutsOut_15 : decode cX11_cutsOut 15 = .ok (.getfield 10, 3) := by decide +kernel
theorem dX11_cutsOut_18 : decode cX11_cutsOut 18 = .ok (.iload_n 1, 1) := by decide +kernel
theorem dX11_cutsOut_19 : decode cX11_cutsOut 19 = .ok (.iconst 1, 1) := by decide +kernel
theorem dX11_cutsOut_20 : decode cX11_cutsOut 20 = .ok (.iadd, 1) := by decide +kernel
theorem dX11_cutsOut_21 : decode cX11_cutsOut 21 = .ok (.iload_n 3, 1) := by decide +kernel
theorem dX11_cutsOut_22 : decode cX11_cutsOut 22 = .ok (.iadd, 1) := by decide +kernel
theorem dX11_cutsOut_23 : decode cX11_cutsOut 23 = .ok (.aload_n 0, 1) := by decide +kernel
theorem dX11_cutsOut_24 : decode cX11_cutsOut 24 = .ok (.getfield 10, 3) := by decide +kernel
theorem dX11_cutsOut_27 : decode cX11_cutsOut 27 = .ok (.iload_n 1, 1) := by decide +kernel
theorem dX11_cutsOut_28 : decode cX11_cutsOut 28 = .ok (.iconst 2, 1) := by decide +kernel
theorem dX11_cutsOut_29 : decode cX11_cutsOut 29 = .ok (.iadd, 1) := by decide +kernel
theorem dX11_cutsOut_30 : decode cX11_cutsOut 30 = .ok (.iload_n 3, 1) := by decide +kernel
theorem dX11_cutsOut_31 : decode cX11_cutsOut 31 = .ok (.iadd, 1) := by decide +kernel
theorem dX11_cutsOut_32 : decode cX11_cutsOut 32 = .ok (.iaload, 1) := by decide +kernel
theorem dX11_cutsOut_33 : decode cX11_cutsOut 33 = .ok (.iastore, 1) := by decide +kernel
theorem dX11_cutsOut_34 : decode cX11_cutsOut 34 = .ok (.aload_n 0, 1) := by decide +kernel
theorem dX11_cutsOut_35 : decode cX11_cutsOut 35 = .ok (.getfield 10, 3) := by decide +kernel
theorem dX11_cutsOut_38 : decode cX11_cutsOut 38 = .ok (.iload_n 1, 1) := by decide +kernel
theorem dX11_cutsOut_39 : decode cX11_cutsOut 39 = .ok (.bipush 49, 2) := by decide +kernel
theorem dX11_cutsOut_41 : decode cX11_cutsOut 41 = .ok (.iadd, 1) := by decide +kernel
theorem dX11_cutsOut_42 : decode cX11_cutsOut 42 = .ok (.iload_n 3, 1) := by decide +kernel
theorem dX11_cutsOut_43 : decode cX11_cutsOut 43 = .ok (.iadd, 1) := by decide +kernel
theorem dX11_cutsOut_44 : decode cX11_cutsOut 44 = .ok (.aload_n 0, 1) := by decide +kernel
theorem dX11_cutsOut_45 : decode cX11_cutsOut 45 = .ok (.getfield 10, 3) := by decide +kernel
theorem dX11_cutsOut_48 : decode cX11_cutsOut 48 = .ok (.iload_n 1, 1) := by decide +kernel
theorem dX11_cutsOut_49 : decode cX11_cutsOut 49 = .ok (.bipush 49, 2) := by decide +kernel
theorem dX11_cutsOut_51 : decode cX11_cutsOut 51 = .ok (.iadd, 1) := by decide +kernel
theorem dX11_cutsOut_52 : decode cX11_cutsOut 52 = .ok (.iload_n 3, 1) := by decide +kernel
theorem dX11_cutsOut_53 : decode cX11_cutsOut 53 = .ok (.iadd, 1) := by decide +kernel
theorem dX11_cutsOut_54 : decode cX11_cutsOut 54 = .ok (.iconst 1, 1) := by decide +kernel
theorem dX11_cutsOut_55 : decode cX11_cutsOut 55 = .ok (.iadd, 1) := by decide +kernel
theorem dX11_cutsOut_56 : decode cX11_cutsOut 56 = .ok (.iaload, 1) := by decide +kernel
theorem dX11_cutsOut_57 : decode cX11_cutsOut 57 = .ok (.iastore, 1) := by decide +kernel
theorem dX11_cutsOut_58 : decode cX11_cutsOut 58 = .ok (.iinc 3 1, 3) := by decide +kernel
theorem dX11_cutsOut_61 : decode cX11_cutsOut 61 = .ok (.goto (-59), 3) := by decide +kernel
theorem dX11_cutsOut_64 : decode cX11_cutsOut 64 = .ok (.aload_n 0, 1) := by decide +kernel
theorem dX11_cutsOut_65 : decode cX11_cutsOut 65 = .ok (.getfield 10, 3) := by decide +kernel
theorem dX11_cutsOut_68 : decode cX11_cutsOut 68 = .ok (.iload_n 1, 1) := by decide +kernel
theorem dX11_cutsOut_69 : decode cX11_cutsOut 69 = .ok (.dup2, 1) := by decide +kernel
theorem dX11_cutsOut_70 : decode cX11_cutsOut 70 = .ok (.iaload, 1) := by decide +kernel
theorem dX11_cutsOut_71 : decode cX11_cutsOut 71 = .ok (.iconst 1, 1) := by decide +kernel
theorem dX11_cutsOut_72 : decode cX11_cutsOut 72 = .ok (.isub, 1) := by decide +kernel
theorem dX11_cutsOut_73 : decode cX11_cutsOut 73 = .ok (.iastore, 1) := by decide +kernel
theorem dX11_cutsOut_74 : decode cX11_cutsOut 74 = .ok (.return_, 1) := by decide +kernel
theorem dX11_liftsOut_0 : decode cX11_liftsOut 0 = .ok (.aload_n 0, 1) := by decide +kernel
theorem dX11_liftsOut_1 : decode cX11_liftsOut 1 = .ok (.iload_n 1, 1) := by decide +kernel
theorem dX11_liftsOut_2 : decode cX11_liftsOut 2 = .ok (.iload_n 2, 1) := by decide +kernel
theorem dX11_liftsOut_3 : decode cX11_liftsOut 3 = .ok (.invokevirtual 105, 3) := by decide +kernel
theorem dX11_liftsOut_6 : decode cX11_liftsOut 6 = .ok (.istore_n 3, 1) := by decide +kernel
theorem dX11_liftsOut_7 : decode cX11_liftsOut 7 = .ok (.aload_n 0, 1) := by decide +kernel
theorem dX11_liftsOut_8 : decode cX11_liftsOut 8 = .ok (.iload_n 1, 1) := by decide +kernel
theorem dX11_liftsOut_9 : decode cX11_liftsOut 9 = .ok (.iload_n 2, 1) := by decide +kernel
theorem dX11_liftsOut_10 : decode cX11_liftsOut 10 = .ok (.invokevirtual 108, 3) := by decide +kernel
theorem dX11_liftsOut_13 : decode cX11_liftsOut 13 = .ok (.istore 4, 2) := by decide +kernel
theorem dX11_liftsOut_15 : decode cX11_liftsOut 15 = .ok (.iload_n 3, 1) := by decide +kernel
theorem dX11_liftsOut_16 : decode cX11_liftsOut 16 = .ok (.istore 5, 2) := by decide +kernel
theorem dX11_liftsOut_18 : decode cX11_liftsOut 18 = .ok (.iload 5, 2) := by decide +kernel
theorem dX11_liftsOut_20 : decode cX11_liftsOut 20 = .ok (.iload 4, 2) := by decide +kernel
theorem dX11_liftsOut_22 : decode cX11_liftsOut 22 = .ok (.if_icmp .ge 25, 3) := by decide +kernel
theorem dX11_liftsOut_25 : decode cX11_liftsOut 25 = .ok (.aload_n 0, 1) := by decide +kernel
theorem dX11_liftsOut_26 : decode cX11_liftsOut 26 = .ok (.getfield 10, 3) := by decide +kernel
theorem dX11_liftsOut_29 : decode cX11_liftsOut 29 = .ok (.iload_n 1, 1) := by decide +kernel
theorem dX11_liftsOut_30 : decode cX11_liftsOut 30 = .ok (.bipush 49, 2) := by decide +kernel
theorem dX11_liftsOut_32 : decode cX11_liftsOut 32 = .ok (.iadd, 1) := by decide +kernel
theorem dX11_liftsOut_33 : decode cX11_liftsOut 33 = .ok (.iload 5, 2) := by decide +kernel
theorem dX11_liftsOut_35 : decode cX11_liftsOut 35 = .ok (.iadd, 1) := by decide +kernel
theorem dX11_liftsOut_36 : decode cX11_liftsOut 36 = .ok (.dup2, 1) := by decide +kernel
theorem dX11_liftsOut_37 : decode cX11_liftsOut 37 = .ok (.iaload, 1) := by decide +kernel
theorem dX11_liftsOut_38 : decode cX11_liftsOut 38 = .ok (.iconst 1, 1) := by decide +kernel
theorem dX11_liftsOut_39 : decode cX11_liftsOut 39 = .ok (.isub, 1) := by decide +kernel
theorem dX11_liftsOut_40 : decode cX11_liftsOut 40 = .ok (.iastore, 1) := by decide +kernel
theorem dX11_liftsOut_41 : decode cX11_liftsOut 41 = .ok (.iinc 5 1, 3) := by decide +kernel
theorem dX11_liftsOut_44 : decode cX11_liftsOut 44 = .ok (.goto (-26), 3) := by decide +kernel
theorem dX11_liftsOut_47 : decode cX11_liftsOut 47 = .ok (.aload_n 0, 1) := by decide +kernel
theorem dX11_liftsOut_48 : decode cX11_liftsOut 48 = .ok (.iload_n 1, 1) := by decide +kernel
theorem dX11_liftsOut_49 : decode cX11_liftsOut 49 = .ok (.iload_n 2, 1) := by decide +kernel
theorem dX11_liftsOut_50 : decode cX11_liftsOut 50 = .ok (.invokevirtual 111, 3) := by decide +kernel
theorem dX11_liftsOut_53 : decode cX11_liftsOut 53 = .ok (.return_, 1) := by decide +kernel
theorem dX11_takesOut_0 : decode cX11_takesOut 0 = .ok (.aload_n 0, 1) := by decide +kernel
theorem dX11_takesOut_1 : decode cX11_takesOut 1 = .ok (.iload_n 1, 1) := by decide +kernel
theorem dX11_takesOut_2 : decode cX11_takesOut 2 = .ok (.iload_n 2, 1) := by decide +kernel
theorem dX11_takesOut_3 : decode cX11_takesOut 3 = .ok (.invokevirtual 105, 3) := by decide +kernel
theorem dX11_takesOut_6 : decode cX11_takesOut 6 = .ok (.iload_n 2, 1) := by decide +kernel
theorem dX11_takesOut_7 : decode cX11_takesOut 7 = .ok (.if_icmp .eq 15, 3) := by decide +kernel
theorem dX11_takesOut_10 : decode cX11_takesOut 10 = .ok (.aload_n 0, 1) := by decide +kernel
theorem dX11_takesOut_11 : decode cX11_takesOut 11 = .ok (.iload_n 1, 1) := by decide +kernel
theorem dX11_takesOut_12 : decode cX11_takesOut 12 = .ok (.iload_n 2, 1) := by decide +kernel
theorem dX11_takesOut_13 : decode cX11_takesOut 13 = .ok (.invokevirtual 108, 3) := by decide +kernel
theorem dX11_takesOut_16 : decode cX11_takesOut 16 = .ok (.iload_n 2, 1) := by decide +kernel
theorem dX11_takesOut_17 : decode cX11_takesOut 17 = .ok (.iconst 1, 1) := by decide +kernel
theorem dX11_takesOut_18 : decode cX11_takesOut 18 = .ok (.iadd, 1) := by decide +kernel
theorem dX11_takesOut_19 : decode cX11_takesOut 19 = .ok (.if_icmp .ne 10, 3) := by decide +kernel
theorem dX11_takesOut_22 : decode cX11_takesOut 22 = .ok (.aload_n 0, 1) := by decide +kernel
theorem dX11_takesOut_23 : decode cX11_takesOut 23 = .ok (.iload_n 1, 1) := by decide +kernel
theorem dX11_takesOut_24 : decode cX11_takesOut 24 = .ok (.iload_n 2, 1) := by decide +kernel
theorem dX11_takesOut_25 : decode cX11_takesOut 25 = .ok (.invokevirtual 114, 3) := by decide +kernel
theorem dX11_takesOut_28 : decode cX11_takesOut 28 = .ok (.return_, 1) := by decide +kernel
theorem dX11_takesOut_29 : decode cX11_takesOut 29 = .ok (.aload_n 0, 1) := by decide +kernel
theorem dX11_takesOut_30 : decode cX11_takesOut 30 = .ok (.getfield 10, 3) := by decide +kernel
theorem dX11_takesOut_33 : decode cX11_takesOut 33 = .ok (.iload_n 1, 1) := by decide +kernel
theorem dX11_takesOut_34 : decode cX11_takesOut 34 = .ok (.iconst 1, 1) := by decide +kernel
theorem dX11_takesOut_35 : decode cX11_takesOut 35 = .ok (.iadd, 1) := by decide +kernel
theorem dX11_takesOut_36 : decode cX11_takesOut 36 = .ok (.iload_n 2, 1) := by decide +kernel
theorem dX11_takesOut_37 : decode cX11_takesOut 37 = .ok (.iadd, 1) := by decide +kernel
theorem dX11_takesOut_38 : decode cX11_takesOut 38 = .ok (.iconst 1, 1) := by decide +kernel
theorem dX11_takesOut_39 : decode cX11_takesOut 39 = .ok (.iadd, 1) := by decide +kernel
theorem dX11_takesOut_40 : decode cX11_takesOut 40 = .ok (.iaload, 1) := by decide +kernel
theorem dX11_takesOut_41 : decode cX11_takesOut 41 = .ok (.istore_n 3, 1) := by decide +kernel
theorem dX11_takesOut_42 : decode cX11_takesOut 42 = .ok (.aload_n 0, 1) := by decide +kernel
theorem dX11_takesOut_43 : decode cX11_takesOut 43 = .ok (.iload_n 1, 1) := by decide +kernel
theorem dX11_takesOut_44 : decode cX11_takesOut 44 = .ok (.iload_n 2, 1) := by decide +kernel
theorem dX11_takesOut_45 : decode cX11_takesOut 45 = .ok (.iconst 1, 1) := by decide +kernel
theorem dX11_takesOut_46 : decode cX11_takesOut 46 = .ok (.iadd, 1) := by decide +kernel
theorem dX11_takesOut_47 : decode cX11_takesOut 47 = .ok (.invokevirtual 114, 3) := by decide +kernel
theorem dX11_takesOut_50 : decode cX11_takesOut 50 = .ok (.aload_n 0, 1) := by decide +kernel
theorem dX11_takesOut_51 : decode cX11_takesOut 51 = .ok (.getfield 10, 3) := by decide +kernel
theorem dX11_takesOut_54 : decode cX11_takesOut 54 = .ok (.iload_n 1, 1) := by decide +kernel
theorem dX11_takesOut_55 : decode cX11_takesOut 55 = .ok (.iconst 1, 1) := by decide +kernel
theorem dX11_takesOut_56 : decode cX11_takesOut 56 = .ok (.iadd, 1) := by decide +kernel
theorem dX11_takesOut_57 : decode cX11_takesOut 57 = .ok (.iload_n 2, 1) := by decide +kernel
theorem dX11_takesOut_58 : decode cX11_takesOut 58 = .ok (.iadd, 1) := by decide +kernel
theorem dX11_takesOut_59 : decode cX11_takesOut 59 = .ok (.iload_n 3, 1) := by decide +kernel
theorem dX11_takesOut_60 : decode cX11_takesOut 60 = .ok (.iastore, 1) := by decide +kernel
theorem dX11_takesOut_61 : decode cX11_takesOut 61 = .ok (.return_, 1) := by decide +kernel
theorem dX11_seeks_0 : decode cX11_seeks 0 = .ok (.iconst 0, 1) := by decide +kernel
theorem dX11_seeks_1 : decode cX11_seeks 1 = .ok (.istore_n 3, 1) := by decide +kernel
theorem dX11_seeks_2 : decode cX11_seeks 2 = .ok (.iload_n 3, 1) := by decide +kernel
theorem dX11_seeks_3 : decode cX11_seeks 3 = .ok (.iconst 4, 1) := by decide +kernel
theorem dX11_seeks_4 : decode cX11_seeks 4 = .ok (.if_icmp .ge 22, 3) := by decide +kernel
theorem dX11_seeks_7 : decode cX11_seeks 7 = .ok (.aload_n 0, 1) := by decide +kernel
theorem dX11_seeks_8 : decode cX11_seeks 8 = .ok (.getfield 54, 3) := by decide +kernel
theorem dX11_seeks_11 : decode cX11_seeks 11 = .ok (.iload_n 3, 1) := by decide +kernel
theorem dX11_seeks_12 : decode cX11_seeks 12 = .ok (.aload_n 0, 1) := by decide +kernel
theorem dX11_seeks_13 : decode cX11_seeks 13 = .ok (.iload_n 1, 1) := by decide +kernel
theorem dX11_seeks_14 : decode cX11_seeks 14 = .ok (.iload_n 2, 1) := by decide +kernel
theorem dX11_seeks_15 : decode cX11_seeks 15 = .ok (.iload_n 3, 1) := by decide +kernel
theorem dX11_seeks_16 : decode cX11_seeks 16 = .ok (.invokevirtual 117, 3) := by decide +kernel
theorem dX11_seeks_19 : decode cX11_seeks 19 = .ok (.iastore, 1) := by decide +kernel
theorem dX11_seeks_20 : decode cX11_seeks 20 = .ok (.iinc 3 1, 3) := by decide +kernel
theorem dX11_seeks_23 : decode cX11_seeks 23 = .ok (.goto (-21), 3) := by decide +kernel
theorem dX11_seeks_26 : decode cX11_seeks 26 = .ok (.return_, 1) := by decide +kernel
theorem dX11_top_0 : decode cX11_top 0 = .ok (.iload_n 2, 1) := by decide +kernel
theorem dX11_top_1 : decode cX11_top 1 = .ok (.istore 5, 2) := by decide +kernel
theorem dX11_top_3 : decode cX11_top 3 = .ok (.iload 5, 2) := by decide +kernel
theorem dX11_top_5 : decode cX11_top 5 = .ok (.iload_n 3, 1) := by decide +kernel
theorem dX11_top_6 : decode cX11_top 6 = .ok (.if_icmp .ge 26, 3) := by decide +kernel
theorem dX11_top_9 : decode cX11_top 9 = .ok (.aload_n 0, 1) := by decide +kernel
theorem dX11_top_10 : decode cX11_top 10 = .ok (.getfield 10, 3) := by decide +kernel
theorem dX11_top_13 : decode cX11_top 13 = .ok (.iload_n 1, 1) := by decide +kernel
theorem dX11_top_14 : decode cX11_top 14 = .ok (.bipush 49, 2) := by decide +kernel
theorem dX11_top_16 : decode cX11_top 16 = .ok (.iadd, 1) := by decide +kernel
theorem dX11_top_17 : decode cX11_top 17 = .ok (.iload 5, 2) := by decide +kernel
theorem dX11_top_19 : decode cX11_top 19 = .ok (.iadd, 1) := by decide +kernel
theorem dX11_top_20 : decode cX11_top 20 = .ok (.iaload, 1) := by decide +kernel
theorem dX11_top_21 : decode cX11_top 21 = .ok (.iload 4, 2) := by decide +kernel
theorem dX11_top_23 : decode cX11_top 23 = .ok (.if_icmp .eq 9, 3) := by decide +kernel
theorem dX11_top_26 : decode cX11_top 26 = .ok (.iinc 5 1, 3) := by decide +kernel
theorem dX11_top_29 : decode cX11_top 29 = .ok (.goto (-26), 3) := by decide +kernel
theorem dX11_top_32 : decode cX11_top 32 = .ok (.iload 5, 2) := by decide +kernel
theorem dX11_top_34 : decode cX11_top 34 = .ok (.ireturn, 1) := by decide +kernel
theorem dX11_compares_0 : decode cX11_compares 0 = .ok (.iconst 0, 1) := by decide +kernel
theorem dX11_compares_1 : decode cX11_compares 1 = .ok (.istore_n 3, 1) := by decide +kernel
theorem dX11_compares_2 : decode cX11_compares 2 = .ok (.iload_n 3, 1) := by decide +kernel
theorem dX11_compares_3 : decode cX11_compares 3 = .ok (.iconst 4, 1) := by decide +kernel
theorem dX11_compares_4 : decode cX11_compares 4 = .ok (.if_icmp .ge 48, 3) := by decide +kernel
theorem dX11_compares_7 : decode cX11_compares 7 = .ok (.aload_n 0, 1) := by decide +kernel
theorem dX11_compares_8 : decode cX11_compares 8 = .ok (.getfield 10, 3) := by decide +kernel
theorem dX11_compares_11 : decode cX11_compares 11 = .ok (.iload_n 1, 1) := by decide +kernel
theorem dX11_compares_12 : decode cX11_compares 12 = .ok (.iconst 3, 1) := by decide +kernel
theorem dX11_compares_13 : decode cX11_compares 13 = .ok (.iadd, 1) := by decide +kernel
theorem dX11_compares_14 : decode cX11_compares 14 = .ok (.dup2, 1) := by decide +kernel
theorem dX11_compares_15 : decode cX11_compares 15 = .ok (.iaload, 1) := by decide +kernel
theorem dX11_compares_16 : decode cX11_compares 16 = .ok (.iconst 1, 1) := by decide +kernel
theorem dX11_compares_17 : decode cX11_compares 17 = .ok (.iadd, 1) := by decide +kernel
theorem dX11_compares_18 : decode cX11_compares 18 = .ok (.iastore, 1) := by decide +kernel
theorem dX11_compares_19 : decode cX11_compares 19 = .ok (.aload_n 0, 1) := by decide +kernel
theorem dX11_compares_20 : decode cX11_compares 20 = .ok (.getfield 54, 3) := by decide +kernel
theorem dX11_compares_23 : decode cX11_compares 23 = .ok (.iload_n 3, 1) := by decide +kernel
theorem dX11_compares_24 : decode cX11_compares 24 = .ok (.iaload, 1) := by decide +kernel
theorem dX11_compares_25 : decode cX11_compares 25 = .ok (.aload_n 0, 1) := by decide +kernel
theorem dX11_compares_26 : decode cX11_compares 26 = .ok (.getfield 10, 3) := by decide +kernel
theorem dX11_compares_29 : decode cX11_compares 29 = .ok (.iload_n 1, 1) := by decide +kernel
theorem dX11_compares_30 : decode cX11_compares 30 = .ok (.iload_n 2, 1) := by decide +kernel
theorem dX11_compares_31 : decode cX11_compares 31 = .ok (.iadd, 1) := by decide +kernel
theorem dX11_compares_32 : decode cX11_compares 32 = .ok (.iload_n 3, 1) := by decide +kernel
theorem dX11_compares_33 : decode cX11_compares 33 = .ok (.iadd, 1) := by decide +kernel
theorem dX11_compares_34 : decode cX11_compares 34 = .ok (.iaload, 1) := by decide +kernel
theorem dX11_compares_35 : decode cX11_compares 35 = .ok (.isub, 1) := by decide +kernel
theorem dX11_compares_36 : decode cX11_compares 36 = .ok (.istore 4, 2) := by decide +kernel
theorem dX11_compares_38 : decode cX11_compares 38 = .ok (.iload 4, 2) := by decide +kernel
theorem dX11_compares_40 : decode cX11_compares 40 = .ok (.ifCond .eq 6, 3) := by decide +kernel
theorem dX11_compares_43 : decode cX11_compares 43 = .ok (.iload 4, 2) := by decide +kernel
theorem dX11_compares_45 : decode cX11_compares 45 = .ok (.ireturn, 1) := by decide +kernel
theorem dX11_compares_46 : decode cX11_compares 46 = .ok (.iinc 3 1, 3) := by decide +kernel
theorem dX11_compares_49 : decode cX11_compares 49 = .ok (.goto (-47), 3) := by decide +kernel
theorem dX11_compares_52 : decode cX11_compares 52 = .ok (.iconst 0, 1) := by decide +kernel
theorem dX11_compares_53 : decode cX11_compares 53 = .ok (.ireturn, 1) := by decide +kernel
theorem dX11_cellsOf_0 : decode cX11_cellsOf 0 = .ok (.iload_n 2, 1) := by decide +kernel
theorem dX11_cellsOf_1 : decode cX11_cellsOf 1 = .ok (.ifCond .eq 13, 3) := by decide +kernel
theorem dX11_cellsOf_4 : decode cX11_cellsOf 4 = .ok (.aload_n 0, 1) := by decide +kernel
theorem dX11_cellsOf_5 : decode cX11_cellsOf 5 = .ok (.iload_n 1, 1) := by decide +kernel
theorem dX11_cellsOf_6 : decode cX11_cellsOf 6 = .ok (.iload_n 3, 1) := by decide +kernel
theorem dX11_cellsOf_7 : decode cX11_cellsOf 7 = .ok (.iconst 0, 1) := by decide +kernel
theorem dX11_cellsOf_8 : decode cX11_cellsOf 8 = .ok (.invokevirtual 121, 3) := by decide +kernel
theorem dX11_cellsOf_11 : decode cX11_cellsOf 11 = .ok (.goto 14, 3) := by decide +kernel
theorem dX11_cellsOf_14 : decode cX11_cellsOf 14 = .ok (.aload_n 0, 1) := by decide +kernel
theorem dX11_cellsOf_15 : decode cX11_cellsOf 15 = .ok (.getfield 10, 3) := by decide +kernel
theorem dX11_cellsOf_18 : decode cX11_cellsOf 18 = .ok (.iload_n 1, 1) := by decide +kernel
theorem dX11_cellsOf_19 : decode cX11_cellsOf 19 = .ok (.bipush 16, 2) := by decide +kernel
theorem dX11_cellsOf_21 : decode cX11_cellsOf 21 = .ok (.iadd, 1) := by decide +kernel
theorem dX11_cellsOf_22 : decode cX11_cellsOf 22 = .ok (.iload_n 3, 1) := by decide +kernel
theorem dX11_cellsOf_23 : decode cX11_cellsOf 23 = .ok (.iadd, 1) := by decide +kernel
theorem dX11_cellsOf_24 : decode cX11_cellsOf 24 = .ok (.iaload, 1) := by decide +kernel
theorem dX11_cellsOf_25 : decode cX11_cellsOf 25 = .ok (.istore 4, 2) := by decide +kernel
theorem dX11_cellsOf_27 : decode cX11_cellsOf 27 = .ok (.iload 4, 2) := by decide +kernel
theorem dX11_cellsOf_29 : decode cX11_cellsOf 29 = .ok (.iconst (-1), 1) := by decide +kernel
theorem dX11_cellsOf_30 : decode cX11_cellsOf 30 = .ok (.if_icmp .ne 7, 3) := by decide +kernel
theorem dX11_cellsOf_33 : decode cX11_cellsOf 33 = .ok (.iconst (-1), 1) := by decide +kernel
theorem dX11_cellsOf_34 : decode cX11_cellsOf 34 = .ok (.goto 11, 3) := by decide +kernel
theorem dX11_cellsOf_37 : decode cX11_cellsOf 37 = .ok (.sipush 352, 3) := by decide +kernel
theorem dX11_cellsOf_40 : decode cX11_cellsOf 40 = .ok (.iconst 4, 1) := by decide +kernel
theorem dX11_cellsOf_41 : decode cX11_cellsOf 41 = .ok (.iload 4, 2) := by decide +kernel
theorem dX11_cellsOf_43 : decode cX11_cellsOf 43 = .ok (.imul, 1) := by decide +kernel
theorem dX11_cellsOf_44 : decode cX11_cellsOf 44 = .ok (.iadd, 1) := by decide +kernel
theorem dX11_cellsOf_45 : decode cX11_cellsOf 45 = .ok (.ireturn, 1) := by decide +kernel
theorem dX11_searches_0 : decode cX11_searches 0 = .ok (.iconst 0, 1) := by decide +kernel
theorem dX11_searches_1 : decode cX11_searches 1 = .ok (.istore 4, 2) := by decide +kernel
theorem dX11_searches_3 : decode cX11_searches 3 = .ok (.aload_n 0, 1) := by decide +kernel
theorem dX11_searches_4 : decode cX11_searches 4 = .ok (.getfield 10, 3) := by decide +kernel
theorem dX11_searches_7 : decode cX11_searches 7 = .ok (.iload_n 2, 1) := by decide +kernel
theorem dX11_searches_8 : decode cX11_searches 8 = .ok (.iaload, 1) := by decide +kernel
theorem dX11_searches_9 : decode cX11_searches 9 = .ok (.istore 5, 2) := by decide +kernel
theorem dX11_searches_11 : decode cX11_searches 11 = .ok (.aload_n 0, 1) := by decide +kernel
theorem dX11_searches_12 : decode cX11_searches 12 = .ok (.iconst (-1), 1) := by decide +kernel
theorem dX11_searches_13 : decode cX11_searches 13 = .ok (.putfield 124, 3) := by decide +kernel
theorem dX11_searches_16 : decode cX11_searches 16 = .ok (.aload_n 0, 1) := by decide +kernel
theorem dX11_searches_17 : decode cX11_searches 17 = .ok (.iconst 0, 1) := by decide +kernel
theorem dX11_searches_18 : decode cX11_searches 18 = .ok (.putfield 127, 3) := by decide +kernel
theorem dX11_searches_21 : decode cX11_searches 21 = .ok (.aload_n 0, 1) := by decide +kernel
theorem dX11_searches_22 : decode cX11_searches 22 = .ok (.iconst 0, 1) := by decide +kernel
theorem dX11_searches_23 : decode cX11_searches 23 = .ok (.putfield 131, 3) := by decide +kernel
theorem dX11_searches_26 : decode cX11_searches 26 = .ok (.iload 4, 2) := by decide +kernel
theorem dX11_searches_28 : decode cX11_searches 28 = .ok (.iload 5, 2) := by decide +kernel
theorem dX11_searches_30 : decode cX11_searches 30 = .ok (.if_icmp .ge 112, 3) := by decide +kernel
theorem dX11_searches_33 : decode cX11_searches 33 = .ok (.aload_n 0, 1) := by decide +kernel
theorem dX11_searches_34 : decode cX11_searches 34 = .ok (.iload_n 2, 1) := by decide +kernel
theorem dX11_searches_35 : decode cX11_searches 35 = .ok (.iload 4, 2) := by decide +kernel
theorem dX11_searches_37 : decode cX11_searches 37 = .ok (.iload 5, 2) := by decide +kernel
theorem dX11_searches_39 : decode cX11_searches 39 = .ok (.aload_n 0, 1) := by decide +kernel
theorem dX11_searches_40 : decode cX11_searches 40 = .ok (.getfield 131, 3) := by decide +kernel
theorem dX11_searches_43 : decode cX11_searches 43 = .ok (.invokevirtual 134, 3) := by decide +kernel
theorem dX11_searches_46 : decode cX11_searches 46 = .ok (.istore 6, 2) := by decide +kernel
theorem dX11_searches_48 : decode cX11_searches 48 = .ok (.aload_n 0, 1) := by decide +kernel
theorem dX11_searches_49 : decode cX11_searches 49 = .ok (.iload_n 1, 1) := by decide +kernel
theorem dX11_searches_50 : decode cX11_searches 50 = .ok (.iload_n 3, 1) := by decide +kernel
theorem dX11_searches_51 : decode cX11_searches 51 = .ok (.aload_n 0, 1) := by decide +kernel
theorem dX11_searches_52 : decode cX11_searches 52 = .ok (.getfield 10, 3) := by decide +kernel
theorem dX11_searches_55 : decode cX11_searches 55 = .ok (.iload_n 2, 1) := by decide +kernel
theorem dX11_searches_56 : decode cX11_searches 56 = .ok (.iconst 1, 1) := by decide +kernel
theorem dX11_searches_57 : decode cX11_searches 57 = .ok (.iadd, 1) := by decide +kernel
theorem dX11_searches_58 : decode cX11_searches 58 = .ok (.iload 6, 2) := by decide +kernel
theorem dX11_searches_60 : decode cX11_searches 60 = .ok (.iadd, 1) := by decide +kernel
theorem dX11_searches_61 : decode cX11_searches 61 = .ok (.iaload, 1) := by decide +kernel
theorem dX11_searches_62 : decode cX11_searches 62 = .ok (.invokevirtual 138, 3) := by decide +kernel
theorem dX11_searches_65 : decode cX11_searches 65 = .ok (.istore 7, 2) := by decide +kernel
theorem dX11_searches_67 : decode cX11_searches 67 = .ok (.aload_n 0, 1) := by decide +kernel
theorem dX11_searches_68 : decode cX11_searches 68 = .ok (.iload 7, 2) := by decide +kernel
theorem dX11_searches_70 : decode cX11_searches 70 = .ok (.iconst (-1), 1) := by decide +kernel
theorem dX11_searches_71 : decode cX11_searches 71 = .ok (.if_icmp .ne 7, 3) := by decide +kernel
theorem dX11_searches_74 : decode cX11_searches 74 = .ok (.iconst 1, 1) := by decide +kernel
theorem dX11_searches_75 : decode cX11_searches 75 = .ok (.goto 4, 3) := by decide +kernel
theorem dX11_searches_78 : decode cX11_searches 78 = .ok (.iconst 0, 1) := by decide +kernel
theorem dX11_searches_79 : decode cX11_searches 79 = .ok (.putfield 127, 3) := by decide +kernel
theorem dX11_searches_82 : decode cX11_searches 82 = .ok (.aload_n 0, 1) := by decide +kernel
theorem dX11_searches_83 : decode cX11_searches 83 = .ok (.getfield 127, 3) := by decide +kernel
theorem dX11_searches_86 : decode cX11_searches 86 = .ok (.ifCond .eq 4, 3) := by decide +kernel
theorem dX11_searches_89 : decode cX11_searches 89 = .ok (.return_, 1) := by decide +kernel
theorem dX11_searches_90 : decode cX11_searches 90 = .ok (.aload_n 0, 1) := by decide +kernel
theorem dX11_searches_91 : decode cX11_searches 91 = .ok (.iload_n 1, 1) := by decide +kernel
theorem dX11_searches_92 : decode cX11_searches 92 = .ok (.iload 7, 2) := by decide +kernel
theorem dX11_searches_94 : decode cX11_searches 94 = .ok (.invokevirtual 142, 3) := by decide +kernel
theorem dX11_searches_97 : decode cX11_searches 97 = .ok (.istore 8, 2) := by decide +kernel
theorem dX11_searches_99 : decode cX11_searches 99 = .ok (.iload 8, 2) := by decide +kernel
theorem dX11_searches_101 : decode cX11_searches 101 = .ok (.ifCond .ne 10, 3) := by decide +kernel
theorem dX11_searches_104 : decode cX11_searches 104 = .ok (.aload_n 0, 1) := by decide +kernel
theorem dX11_searches_105 : decode cX11_searches 105 = .ok (.iload 6, 2) := by decide +kernel
theorem dX11_searches_107 : decode cX11_searches 107 = .ok (.putfield 124, 3) := by decide +kernel
theorem dX11_searches_110 : decode cX11_searches 110 = .ok (.return_, 1) := by decide +kernel
theorem dX11_searches_111 : decode cX11_searches 111 = .ok (.iload 8, 2) := by decide +kernel
theorem dX11_searches_113 : decode cX11_searches 113 = .ok (.ifCond .ge 10, 3) := by decide +kernel
theorem dX11_searches_116 : decode cX11_searches 116 = .ok (.iload 6, 2) := by decide +kernel
theorem dX11_searches_118 : decode cX11_searches 118 = .ok (.istore 5, 2) := by decide +kernel
theorem dX11_searches_120 : decode cX11_searches 120 = .ok (.goto 9, 3) := by decide +kernel
theorem dX11_searches_123 : decode cX11_searches 123 = .ok (.iload 6, 2) := by decide +kernel
theorem dX11_searches_125 : decode cX11_searches 125 = .ok (.iconst 1, 1) := by decide +kernel
theorem dX11_searches_126 : decode cX11_searches 126 = .ok (.iadd, 1) := by decide +kernel
theorem dX11_searches_127 : decode cX11_searches 127 = .ok (.istore 4, 2) := by decide +kernel
theorem dX11_searches_129 : decode cX11_searches 129 = .ok (.aload_n 0, 1) := by decide +kernel
theorem dX11_searches_130 : decode cX11_searches 130 = .ok (.dup, 1) := by decide +kernel
theorem dX11_searches_131 : decode cX11_searches 131 = .ok (.getfield 131, 3) := by decide +kernel
theorem dX11_searches_134 : decode cX11_searches 134 = .ok (.iconst 1, 1) := by decide +kernel
theorem dX11_searches_135 : decode cX11_searches 135 = .ok (.iadd, 1) := by decide +kernel
theorem dX11_searches_136 : decode cX11_searches 136 = .ok (.putfield 131, 3) := by decide +kernel
theorem dX11_searches_139 : decode cX11_searches 139 = .ok (.goto (-113), 3) := by decide +kernel
theorem dX11_searches_142 : decode cX11_searches 142 = .ok (.aload_n 0, 1) := by decide +kernel
theorem dX11_searches_143 : decode cX11_searches 143 = .ok (.iload 4, 2) := by decide +kernel
theorem dX11_searches_145 : decode cX11_searches 145 = .ok (.putfield 145, 3) := by decide +kernel
theorem dX11_searches_148 : decode cX11_searches 148 = .ok (.return_, 1) := by decide +kernel
theorem dX11_laysCells_0 : decode cX11_laysCells 0 = .ok (.iconst 0, 1) := by decide +kernel
theorem dX11_laysCells_1 : decode cX11_laysCells 1 = .ok (.istore_n 3, 1) := by decide +kernel
theorem dX11_laysCells_2 : decode cX11_laysCells 2 = .ok (.iload_n 3, 1) := by decide +kernel
theorem dX11_laysCells_3 : decode cX11_laysCells 3 = .ok (.iconst 4, 1) := by decide +kernel
theorem dX11_laysCells_4 : decode cX11_laysCells 4 = .ok (.if_icmp .ge 31, 3) := by decide +kernel
theorem dX11_laysCells_7 : decode cX11_laysCells 7 = .ok (.aload_n 0, 1) := by decide +kernel
theorem dX11_laysCells_8 : decode cX11_laysCells 8 = .ok (.getfield 10, 3) := by decide +kernel
theorem dX11_laysCells_11 : decode cX11_laysCells 11 = .ok (.iload_n 1, 1) := by decide +kernel
theorem dX11_laysCells_12 : decode cX11_laysCells 12 = .ok (.sipush 352, 3) := by decide +kernel
theorem dX11_laysCells_15 : decode cX11_laysCells 15 = .ok (.iadd, 1) := by decide +kernel
theorem dX11_laysCells_16 : decode cX11_laysCells 16 = .ok (.iconst 4, 1) := by decide +kernel
theorem dX11_laysCells_17 : decode cX11_laysCells 17 = .ok (.iload_n 2, 1) := by decide +kernel
theorem dX11_laysCells_18 : decode cX11_laysCells 18 = .ok (.imul, 1) := by decide +kernel
theorem dX11_laysCells_19 : decode cX11_laysCells 19 = .ok (.iadd, 1) := by decide +kernel
theorem dX11_laysCells_20 : decode cX11_laysCells 20 = .ok (.iload_n 3, 1) := by decide +kernel
theorem dX11_laysCells_21 : decode cX11_laysCells 21 = .ok (.iadd, 1) := by decide +kernel
theorem dX11_laysCells_22 : decode cX11_laysCells 22 = .ok (.aload_n 0, 1) := by decide +kernel
theorem dX11_laysCells_23 : decode cX11_laysCells 23 = .ok (.getfield 57, 3) := by decide +kernel
theorem dX11_laysCells_26 : decode cX11_laysCells 26 = .ok (.iload_n 3, 1) := by decide +kernel
theorem dX11_laysCells_27 : decode cX11_laysCells 27 = .ok (.iaload, 1) := by decide +kernel
theorem dX11_laysCells_28 : decode cX11_laysCells 28 = .ok (.iastore, 1) := by decide +kernel
theorem dX11_laysCells_29 : decode cX11_laysCells 29 = .ok (.iinc 3 1, 3) := by decide +kernel
theorem dX11_laysCells_32 : decode cX11_laysCells 32 = .ok (.goto (-30), 3) := by decide +kernel
theorem dX11_laysCells_35 : decode cX11_laysCells 35 = .ok (.return_, 1) := by decide +kernel
theorem dX11_writes_0 : decode cX11_writes 0 = .ok (.aload_n 0, 1) := by decide +kernel
theorem dX11_writes_1 : decode cX11_writes 1 = .ok (.getfield 10, 3) := by decide +kernel
theorem dX11_writes_4 : decode cX11_writes 4 = .ok (.iload_n 1, 1) := by decide +kernel
theorem dX11_writes_5 : decode cX11_writes 5 = .ok (.bipush 16, 2) := by decide +kernel
theorem dX11_writes_7 : decode cX11_writes 7 = .ok (.iadd, 1) := by decide +kernel
theorem dX11_writes_8 : decode cX11_writes 8 = .ok (.iload_n 2, 1) := by decide +kernel
theorem dX11_writes_9 : decode cX11_writes 9 = .ok (.iadd, 1) := by decide +kernel
theorem dX11_writes_10 : decode cX11_writes 10 = .ok (.iaload, 1) := by decide +kernel
theorem dX11_writes_11 : decode cX11_writes 11 = .ok (.istore_n 3, 1) := by decide +kernel
theorem dX11_writes_12 : decode cX11_writes 12 = .ok (.iload_n 3, 1) := by decide +kernel
theorem dX11_writes_13 : decode cX11_writes 13 = .ok (.iconst (-1), 1) := by decide +kernel
theorem dX11_writes_14 : decode cX11_writes 14 = .ok (.if_icmp .eq 39, 3) := by decide +kernel
theorem dX11_writes_17 : decode cX11_writes 17 = .ok (.aload_n 0, 1) := by decide +kernel
theorem dX11_writes_18 : decode cX11_writes 18 = .ok (.getfield 10, 3) := by decide +kernel
theorem dX11_writes_21 : decode cX11_writes 21 = .ok (.iload_n 1, 1) := by decide +kernel
theorem dX11_writes_22 : decode cX11_writes 22 = .ok (.sipush 976, 3) := by decide +kernel
theorem dX11_writes_25 : decode cX11_writes 25 = .ok (.iadd, 1) := by decide +kernel
theorem dX11_writes_26 : decode cX11_writes 26 = .ok (.iload_n 3, 1) := by decide +kernel
theorem dX11_writes_27 : decode cX11_writes 27 = .ok (.iadd, 1) := by decide +kernel
theorem dX11_writes_28 : decode cX11_writes 28 = .ok (.iaload, 1) := by decide +kernel
theorem dX11_writes_29 : decode cX11_writes 29 = .ok (.iconst (-1), 1) := by decide +kernel
theorem dX11_writes_30 : decode cX11_writes 30 = .ok (.if_icmp .eq 23, 3) := by decide +kernel
theorem dX11_writes_33 : decode cX11_writes 33 = .ok (.aload_n 0, 1) := by decide +kernel
theorem dX11_writes_34 : decode cX11_writes 34 = .ok (.getfield 10, 3) := by decide +kernel
theorem dX11_writes_37 : decode cX11_writes 37 = .ok (.iload_n 1, 1) := by decide +kernel
theorem dX11_writes_38 : decode cX11_writes 38 = .ok (.sipush 544, 3) := by decide +kernel
theorem dX11_writes_41 : decode cX11_writes 41 = .ok (.iadd, 1) := by decide +kernel
theorem dX11_writes_42 : decode cX11_writes 42 = .ok (.iload_n 3, 1) := by decide +kernel
theorem dX11_writes_43 : decode cX11_writes 43 = .ok (.iadd, 1) := by decide +kernel
theorem dX11_writes_44 : decode cX11_writes 44 = .ok (.iaload, 1) := by decide +kernel
theorem dX11_writes_45 : decode cX11_writes 45 = .ok (.iconst 1, 1) := by decide +kernel
theorem dX11_writes_46 : decode cX11_writes 46 = .ok (.if_icmp .le 7, 3) := by decide +kernel
theorem dX11_writes_49 : decode cX11_writes 49 = .ok (.iconst 1, 1) := by decide +kernel
theorem dX11_writes_50 : decode cX11_writes 50 = .ok (.goto 4, 3) := by decide +kernel
theorem dX11_writes_53 : decode cX11_writes 53 = .ok (.iconst 0, 1) := by decide +kernel
theorem dX11_writes_54 : decode cX11_writes 54 = .ok (.istore 4, 2) := by decide +kernel
theorem dX11_writes_56 : decode cX11_writes 56 = .ok (.iload_n 3, 1) := by decide +kernel
theorem dX11_writes_57 : decode cX11_writes 57 = .ok (.iconst (-1), 1) := by decide +kernel
theorem dX11_writes_58 : decode cX11_writes 58 = .ok (.if_icmp .ne 7, 3) := by decide +kernel
theorem dX11_writes_61 : decode cX11_writes 61 = .ok (.iconst 1, 1) := by decide +kernel
theorem dX11_writes_62 : decode cX11_writes 62 = .ok (.goto 33, 3) := by decide +kernel
theorem dX11_writes_65 : decode cX11_writes 65 = .ok (.iload 4, 2) := by decide +kernel
theorem dX11_writes_67 : decode cX11_writes 67 = .ok (.ifCond .eq 7, 3) := by decide +kernel
theorem dX11_writes_70 : decode cX11_writes 70 = .ok (.iconst 2, 1) := by decide +kernel
theorem dX11_writes_71 : decode cX11_writes 71 = .ok (.goto 24, 3) := by decide +kernel
theorem dX11_writes_74 : decode cX11_writes 74 = .ok (.aload_n 0, 1) := by decide +kernel
theorem dX11_writes_75 : decode cX11_writes 75 = .ok (.getfield 10, 3) := by decide +kernel
theorem dX11_writes_78 : decode cX11_writes 78 = .ok (.iload_n 1, 1) := by decide +kernel
theorem dX11_writes_79 : decode cX11_writes 79 = .ok (.sipush 976, 3) := by decide +kernel
theorem dX11_writes_82 : decode cX11_writes 82 = .ok (.iadd, 1) := by decide +kernel
theorem dX11_writes_83 : decode cX11_writes 83 = .ok (.iload_n 3, 1) := by decide +kernel
theorem dX11_writes_84 : decode cX11_writes 84 = .ok (.iadd, 1) := by decide +kernel
theorem dX11_writes_85 : decode cX11_writes 85 = .ok (.iaload, 1) := by decide +kernel
theorem dX11_writes_86 : decode cX11_writes 86 = .ok (.iconst (-1), 1) := by decide +kernel
theorem dX11_writes_87 : decode cX11_writes 87 = .ok (.if_icmp .eq 7, 3) := by decide +kernel
theorem dX11_writes_90 : decode cX11_writes 90 = .ok (.iconst 3, 1) := by decide +kernel
theorem dX11_writes_91 : decode cX11_writes 91 = .ok (.goto 4, 3) := by decide +kernel
theorem dX11_writes_94 : decode cX11_writes 94 = .ok (.iconst 0, 1) := by decide +kernel
theorem dX11_writes_95 : decode cX11_writes 95 = .ok (.istore 5, 2) := by decide +kernel
theorem dX11_writes_97 : decode cX11_writes 97 = .ok (.iload_n 3, 1) := by decide +kernel
theorem dX11_writes_98 : decode cX11_writes 98 = .ok (.iconst (-1), 1) := by decide +kernel
theorem dX11_writes_99 : decode cX11_writes 99 = .ok (.if_icmp .eq 8, 3) := by decide +kernel
theorem dX11_writes_102 : decode cX11_writes 102 = .ok (.iload 4, 2) := by decide +kernel
theorem dX11_writes_104 : decode cX11_writes 104 = .ok (.ifCond .eq 50, 3) := by decide +kernel
theorem dX11_writes_107 : decode cX11_writes 107 = .ok (.aload_n 0, 1) := by decide +kernel
theorem dX11_writes_108 : decode cX11_writes 108 = .ok (.iload_n 1, 1) := by decide +kernel
theorem dX11_writes_109 : decode cX11_writes 109 = .ok (.invokevirtual 148, 3) := by decide +kernel
theorem dX11_writes_112 : decode cX11_writes 112 = .ok (.istore 6, 2) := by decide +kernel
theorem dX11_writes_114 : decode cX11_writes 114 = .ok (.iload 6, 2) := by decide +kernel
theorem dX11_writes_116 : decode cX11_writes 116 = .ok (.iconst (-1), 1) := by decide +kernel
theorem dX11_writes_117 : decode cX11_writes 117 = .ok (.if_icmp .ne 5, 3) := by decide +kernel
theorem dX11_writes_120 : decode cX11_writes 120 = .ok (.iconst (-1), 1) := by decide +kernel
theorem dX11_writes_121 : decode cX11_writes 121 = .ok (.ireturn, 1) := by decide +kernel
theorem dX11_writes_122 : decode cX11_writes 122 = .ok (.iload 4, 2) := by decide +kernel
theorem dX11_writes_124 : decode cX11_writes 124 = .ok (.ifCond .eq 22, 3) := by decide +kernel
theorem dX11_writes_127 : decode cX11_writes 127 = .ok (.aload_n 0, 1) := by decide +kernel
theorem dX11_writes_128 : decode cX11_writes 128 = .ok (.getfield 10, 3) := by decide +kernel
theorem dX11_writes_131 : decode cX11_writes 131 = .ok (.iload_n 1, 1) := by decide +kernel
theorem dX11_writes_132 : decode cX11_writes 132 = .ok (.bipush 8, 2) := by decide +kernel
theorem dX11_writes_134 : decode cX11_writes 134 = .ok (.iadd, 1) := by decide +kernel
theorem dX11_writes_135 : decode cX11_writes 135 = .ok (.dup2, 1) := by decide +kernel
theorem dX11_writes_136 : decode cX11_writes 136 = .ok (.iaload, 1) := by decide +kernel
theorem dX11_writes_137 : decode cX11_writes 137 = .ok (.iconst 1, 1) := by decide +kernel
theorem dX11_writes_138 : decode cX11_writes 138 = .ok (.iadd, 1) := by decide +kernel
theorem dX11_writes_139 : decode cX11_writes 139 = .ok (.iastore, 1) := by decide +kernel
theorem dX11_writes_140 : decode cX11_writes 140 = .ok (.aload_n 0, 1) := by decide +kernel
theorem dX11_writes_141 : decode cX11_writes 141 = .ok (.iload_n 1, 1) := by decide +kernel
theorem dX11_writes_142 : decode cX11_writes 142 = .ok (.iload_n 2, 1) := by decide +kernel
theorem dX11_writes_143 : decode cX11_writes 143 = .ok (.invokevirtual 152, 3) := by decide +kernel
theorem dX11_writes_146 : decode cX11_writes 146 = .ok (.aload_n 0, 1) := by decide +kernel
theorem dX11_writes_147 : decode cX11_writes 147 = .ok (.iload_n 1, 1) := by decide +kernel
theorem dX11_writes_148 : decode cX11_writes 148 = .ok (.iload_n 2, 1) := by decide +kernel
theorem dX11_writes_149 : decode cX11_writes 149 = .ok (.iload 6, 2) := by decide +kernel
theorem dX11_writes_151 : decode cX11_writes 151 = .ok (.invokevirtual 155, 3) := by decide +kernel
theorem dX11_writes_154 : decode cX11_writes 154 = .ok (.iload 5, 2) := by decide +kernel
theorem dX11_writes_156 : decode cX11_writes 156 = .ok (.iconst 3, 1) := by decide +kernel
theorem dX11_writes_157 : decode cX11_writes 157 = .ok (.if_icmp .ne 9, 3) := by decide +kernel
theorem dX11_writes_160 : decode cX11_writes 160 = .ok (.aload_n 0, 1) := by decide +kernel
theorem dX11_writes_161 : decode cX11_writes 161 = .ok (.iload_n 1, 1) := by decide +kernel
theorem dX11_writes_162 : decode cX11_writes 162 = .ok (.iload_n 3, 1) := by decide +kernel
theorem dX11_writes_163 : decode cX11_writes 163 = .ok (.invokevirtual 91, 3) := by decide +kernel
theorem dX11_writes_166 : decode cX11_writes 166 = .ok (.aload_n 0, 1) := by decide +kernel
theorem dX11_writes_167 : decode cX11_writes 167 = .ok (.iload_n 1, 1) := by decide +kernel
theorem dX11_writes_168 : decode cX11_writes 168 = .ok (.aload_n 0, 1) := by decide +kernel
theorem dX11_writes_169 : decode cX11_writes 169 = .ok (.getfield 10, 3) := by decide +kernel
theorem dX11_writes_172 : decode cX11_writes 172 = .ok (.iload_n 1, 1) := by decide +kernel
theorem dX11_writes_173 : decode cX11_writes 173 = .ok (.bipush 16, 2) := by decide +kernel
theorem dX11_writes_175 : decode cX11_writes 175 = .ok (.iadd, 1) := by decide +kernel
theorem dX11_writes_176 : decode cX11_writes 176 = .ok (.iload_n 2, 1) := by decide +kernel
theorem dX11_writes_177 : decode cX11_writes 177 = .ok (.iadd, 1) := by decide +kernel
theorem dX11_writes_178 : decode cX11_writes 178 = .ok (.iaload, 1) := by decide +kernel
theorem dX11_writes_179 : decode cX11_writes 179 = .ok (.invokevirtual 159, 3) := by decide +kernel
theorem dX11_writes_182 : decode cX11_writes 182 = .ok (.iload 5, 2) := by decide +kernel
theorem dX11_writes_184 : decode cX11_writes 184 = .ok (.ireturn, 1) := by decide +kernel
theorem dX11_saysAs_0 : decode cX11_saysAs 0 = .ok (.iconst 0, 1) := by decide +kernel
theorem dX11_saysAs_1 : decode cX11_saysAs 1 = .ok (.istore_n 3, 1) := by decide +kernel
theorem dX11_saysAs_2 : decode cX11_saysAs 2 = .ok (.iload_n 3, 1) := by decide +kernel
theorem dX11_saysAs_3 : decode cX11_saysAs 3 = .ok (.iconst 4, 1) := by decide +kernel
theorem dX11_saysAs_4 : decode cX11_saysAs 4 = .ok (.if_icmp .ge 22, 3) := by decide +kernel
theorem dX11_saysAs_7 : decode cX11_saysAs 7 = .ok (.aload_n 0, 1) := by decide +kernel
theorem dX11_saysAs_8 : decode cX11_saysAs 8 = .ok (.getfield 57, 3) := by decide +kernel
theorem dX11_saysAs_11 : decode cX11_saysAs 11 = .ok (.iload_n 3, 1) := by decide +kernel
theorem dX11_saysAs_12 : decode cX11_saysAs 12 = .ok (.aload_n 0, 1) := by decide +kernel
theorem dX11_saysAs_13 : decode cX11_saysAs 13 = .ok (.iload_n 1, 1) := by decide +kernel
theorem dX11_saysAs_14 : decode cX11_saysAs 14 = .ok (.iload_n 2, 1) := by decide +kernel
theorem dX11_saysAs_15 : decode cX11_saysAs 15 = .ok (.iload_n 3, 1) := by decide +kernel
theorem dX11_saysAs_16 : decode cX11_saysAs 16 = .ok (.invokevirtual 117, 3) := by decide +kernel
theorem dX11_saysAs_19 : decode cX11_saysAs 19 = .ok (.iastore, 1) := by decide +kernel
theorem dX11_saysAs_20 : decode cX11_saysAs 20 = .ok (.iinc 3 1, 3) := by decide +kernel
theorem dX11_saysAs_23 : decode cX11_saysAs 23 = .ok (.goto (-21), 3) := by decide +kernel
theorem dX11_saysAs_26 : decode cX11_saysAs 26 = .ok (.return_, 1) := by decide +kernel
theorem dX11_writesCell_0 : decode cX11_writesCell 0 = .ok (.aload_n 0, 1) := by decide +kernel
theorem dX11_writesCell_1 : decode cX11_writesCell 1 = .ok (.iload_n 1, 1) := by decide +kernel
theorem dX11_writesCell_2 : decode cX11_writesCell 2 = .ok (.iload_n 2, 1) := by decide +kernel
theorem dX11_writesCell_3 : decode cX11_writesCell 3 = .ok (.invokevirtual 162, 3) := by decide +kernel
theorem dX11_writesCell_6 : decode cX11_writesCell 6 = .ok (.aload_n 0, 1) := by decide +kernel
theorem dX11_writesCell_7 : decode cX11_writesCell 7 = .ok (.getfield 57, 3) := by decide +kernel
theorem dX11_writesCell_10 : decode cX11_writesCell 10 = .ok (.iload_n 3, 1) := by decide +kernel
theorem dX11_writesCell_11 : decode cX11_writesCell 11 = .ok (.iload 4, 2) := by decide +kernel
theorem dX11_writesCell_13 : decode cX11_writesCell 13 = .ok (.iastore, 1) := by decide +kernel
theorem dX11_writesCell_14 : decode cX11_writesCell 14 = .ok (.aload_n 0, 1) := by decide +kernel
theorem dX11_writesCell_15 : decode cX11_writesCell 15 = .ok (.iload_n 1, 1) := by decide +kernel
theorem dX11_writesCell_16 : decode cX11_writesCell 16 = .ok (.iload_n 2, 1) := by decide +kernel
theorem dX11_writesCell_17 : decode cX11_writesCell 17 = .ok (.invokevirtual 165, 3) := by decide +kernel
theorem dX11_writesCell_20 : decode cX11_writesCell 20 = .ok (.ireturn, 1) := by decide +kernel
theorem dX11_drops_0 : decode cX11_drops 0 = .ok (.aload_n 0, 1) := by decide +kernel
theorem dX11_drops_1 : decode cX11_drops 1 = .ok (.getfield 10, 3) := by decide +kernel
theorem dX11_drops_4 : decode cX11_drops 4 = .ok (.iload_n 1, 1) := by decide +kernel
theorem dX11_drops_5 : decode cX11_drops 5 = .ok (.bipush 16, 2) := by decide +kernel
theorem dX11_drops_7 : decode cX11_drops 7 = .ok (.iadd, 1) := by decide +kernel
theorem dX11_drops_8 : decode cX11_drops 8 = .ok (.iload_n 2, 1) := by decide +kernel
theorem dX11_drops_9 : decode cX11_drops 9 = .ok (.iadd, 1) := by decide +kernel
theorem dX11_drops_10 : decode cX11_drops 10 = .ok (.iaload, 1) := by decide +kernel
theorem dX11_drops_11 : decode cX11_drops 11 = .ok (.istore_n 3, 1) := by decide +kernel
theorem dX11_drops_12 : decode cX11_drops 12 = .ok (.iload_n 3, 1) := by decide +kernel
theorem dX11_drops_13 : decode cX11_drops 13 = .ok (.iconst (-1), 1) := by decide +kernel
theorem dX11_drops_14 : decode cX11_drops 14 = .ok (.if_icmp .ne 5, 3) := by decide +kernel
theorem dX11_drops_17 : decode cX11_drops 17 = .ok (.iconst (-1), 1) := by decide +kernel
theorem dX11_drops_18 : decode cX11_drops 18 = .ok (.ireturn, 1) := by decide +kernel
theorem dX11_drops_19 : decode cX11_drops 19 = .ok (.aload_n 0, 1) := by decide +kernel
theorem dX11_drops_20 : decode cX11_drops 20 = .ok (.iload_n 1, 1) := by decide +kernel
theorem dX11_drops_21 : decode cX11_drops 21 = .ok (.iload_n 2, 1) := by decide +kernel
theorem dX11_drops_22 : decode cX11_drops 22 = .ok (.invokevirtual 152, 3) := by decide +kernel
theorem dX11_drops_25 : decode cX11_drops 25 = .ok (.aload_n 0, 1) := by decide +kernel
theorem dX11_drops_26 : decode cX11_drops 26 = .ok (.getfield 10, 3) := by decide +kernel
theorem dX11_drops_29 : decode cX11_drops 29 = .ok (.iload_n 1, 1) := by decide +kernel
theorem dX11_drops_30 : decode cX11_drops 30 = .ok (.sipush 544, 3) := by decide +kernel
theorem dX11_drops_33 : decode cX11_drops 33 = .ok (.iadd, 1) := by decide +kernel
theorem dX11_drops_34 : decode cX11_drops 34 = .ok (.iload_n 3, 1) := by decide +kernel
theorem dX11_drops_35 : decode cX11_drops 35 = .ok (.iadd, 1) := by decide +kernel
theorem dX11_drops_36 : decode cX11_drops 36 = .ok (.iaload, 1) := by decide +kernel
theorem dX11_drops_37 : decode cX11_drops 37 = .ok (.ifCond .ne 7, 3) := by decide +kernel
theorem dX11_drops_40 : decode cX11_drops 40 = .ok (.iconst 1, 1) := by decide +kernel
theorem dX11_drops_41 : decode cX11_drops 41 = .ok (.goto 4, 3) := by decide +kernel
theorem dX11_drops_44 : decode cX11_drops 44 = .ok (.iconst 0, 1) := by decide +kernel
theorem dX11_drops_45 : decode cX11_drops 45 = .ok (.ireturn, 1) := by decide +kernel
theorem dX11_waitsNoMore_0 : decode cX11_waitsNoMore 0 = .ok (.iload_n 1, 1) := by decide +kernel
theorem dX11_waitsNoMore_1 : decode cX11_waitsNoMore 1 = .ok (.sipush 1363, 3) := by decide +kernel
theorem dX11_waitsNoMore_4 : decode cX11_waitsNoMore 4 = .ok (.iadd, 1) := by decide +kernel
theorem dX11_waitsNoMore_5 : decode cX11_waitsNoMore 5 = .ok (.bipush 97, 2) := by decide +kernel
theorem dX11_waitsNoMore_7 : decode cX11_waitsNoMore 7 = .ok (.aload_n 0, 1) := by decide +kernel
theorem dX11_waitsNoMore_8 : decode cX11_waitsNoMore 8 = .ok (.iload_n 2, 1) := by decide +kernel
theorem dX11_waitsNoMore_9 : decode cX11_waitsNoMore 9 = .ok (.invokevirtual 168, 3) := by decide +kernel
theorem dX11_waitsNoMore_12 : decode cX11_waitsNoMore 12 = .ok (.imul, 1) := by decide +kernel
theorem dX11_waitsNoMore_13 : decode cX11_waitsNoMore 13 = .ok (.iadd, 1) := by decide +kernel
theorem dX11_waitsNoMore_14 : decode cX11_waitsNoMore 14 = .ok (.istore_n 3, 1) := by decide +kernel
theorem dX11_waitsNoMore_15 : decode cX11_waitsNoMore 15 = .ok (.aload_n 0, 1) := by decide +kernel
theorem dX11_waitsNoMore_16 : decode cX11_waitsNoMore 16 = .ok (.iload_n 3, 1) := by decide +kernel
theorem dX11_waitsNoMore_17 : decode cX11_waitsNoMore 17 = .ok (.iload_n 2, 1) := by decide +kernel
theorem dX11_waitsNoMore_18 : decode cX11_waitsNoMore 18 = .ok (.invokevirtual 99, 3) := by decide +kernel
theorem dX11_waitsNoMore_21 : decode cX11_waitsNoMore 21 = .ok (.istore 4, 2) := by decide +kernel
theorem dX11_waitsNoMore_23 : decode cX11_waitsNoMore 23 = .ok (.iload 4, 2) := by decide +kernel
theorem dX11_waitsNoMore_25 : decode cX11_waitsNoMore 25 = .ok (.iconst (-1), 1) := by decide +kernel
theorem dX11_waitsNoMore_26 : decode cX11_waitsNoMore 26 = .ok (.if_icmp .eq 10, 3) := by decide +kernel
theorem dX11_waitsNoMore_29 : decode cX11_waitsNoMore 29 = .ok (.aload_n 0, 1) := by decide +kernel
theorem dX11_waitsNoMore_30 : decode cX11_waitsNoMore 30 = .ok (.iload_n 3, 1) := by decide +kernel
theorem dX11_waitsNoMore_31 : decode cX11_waitsNoMore 31 = .ok (.iload 4, 2) := by decide +kernel
theorem dX11_waitsNoMore_33 : decode cX11_waitsNoMore 33 = .ok (.invokevirtual 102, 3) := by decide +kernel
theorem dX11_waitsNoMore_36 : decode cX11_waitsNoMore 36 = .ok (.aload_n 0, 1) := by decide +kernel
theorem dX11_waitsNoMore_37 : decode cX11_waitsNoMore 37 = .ok (.getfield 10, 3) := by decide +kernel
theorem dX11_waitsNoMore_40 : decode cX11_waitsNoMore 40 = .ok (.iload_n 1, 1) := by decide +kernel
theorem dX11_waitsNoMore_41 : decode cX11_waitsNoMore 41 = .ok (.sipush 304, 3) := by decide +kernel
theorem dX11_waitsNoMore_44 : decode cX11_waitsNoMore 44 = .ok (.iadd, 1) := by decide +kernel
theorem dX11_waitsNoMore_45 : decode cX11_waitsNoMore 45 = .ok (.iload_n 2, 1) := by decide +kernel
theorem dX11_waitsNoMore_46 : decode cX11_waitsNoMore 46 = .ok (.iadd, 1) := by decide +kernel
theorem dX11_waitsNoMore_47 : decode cX11_waitsNoMore 47 = .ok (.iconst 0, 1) := by decide +kernel
theorem dX11_waitsNoMore_48 : decode cX11_waitsNoMore 48 = .ok (.iastore, 1) := by decide +kernel
theorem dX11_waitsNoMore_49 : decode cX11_waitsNoMore 49 = .ok (.return_, 1) := by decide +kernel
theorem dX11_advises_0 : decode cX11_advises 0 = .ok (.iconst 0, 1) := by decide +kernel
theorem dX11_advises_1 : decode cX11_advises 1 = .ok (.istore 5, 2) := by decide +kernel
theorem dX11_advises_3 : decode cX11_advises 3 = .ok (.iload_n 2, 1) := by decide +kernel
theorem dX11_advises_4 : decode cX11_advises 4 = .ok (.istore 6, 2) := by decide +kernel
theorem dX11_advises_6 : decode cX11_advises 6 = .ok (.iload 6, 2) := by decide +kernel
theorem dX11_advises_8 : decode cX11_advises 8 = .ok (.iload_n 3, 1) := by decide +kernel
theorem dX11_advises_9 : decode cX11_advises 9 = .ok (.if_icmp .gt 111, 3) := by decide +kernel
theorem dX11_advises_12 : decode cX11_advises 12 = .ok (.aload_n 0, 1) := by decide +kernel
theorem dX11_advises_13 : decode cX11_advises 13 = .ok (.getfield 10, 3) := by decide +kernel
theorem dX11_advises_16 : decode cX11_advises 16 = .ok (.iload_n 1, 1) := by decide +kernel
theorem dX11_advises_17 : decode cX11_advises 17 = .ok (.bipush 64, 2) := by decide +kernel
theorem dX11_advises_19 : decode cX11_advises 19 = .ok (.iadd, 1) := by decide +kernel
theorem dX11_advises_20 : decode cX11_advises 20 = .ok (.iload 6, 2) := by decide +kernel
theorem dX11_advises_22 : decode cX11_advises 22 = .ok (.iadd, 1) := by decide +kernel
theorem dX11_advises_23 : decode cX11_advises 23 = .ok (.iaload, 1) := by decide +kernel
theorem dX11_advises_24 : decode cX11_advises 24 = .ok (.iload 4, 2) := by decide +kernel
theorem dX11_advises_26 : decode cX11_advises 26 = .ok (.if_icmp .ne 6, 3) := by decide +kernel
theorem dX11_advises_29 : decode cX11_advises 29 = .ok (.goto 85, 3) := by decide +kernel
theorem dX11_advises_32 : decode cX11_advises 32 = .ok (.iload 4, 2) := by decide +kernel
theorem dX11_advises_34 : decode cX11_advises 34 = .ok (.ifCond .ne 34, 3) := by decide +kernel
theorem dX11_advises_37 : decode cX11_advises 37 = .ok (.aload_n 0, 1) := by decide +kernel
theorem dX11_advises_38 : decode cX11_advises 38 = .ok (.iload_n 1, 1) := by decide +kernel
theorem dX11_advises_39 : decode cX11_advises 39 = .ok (.iload 6, 2) := by decide +kernel
theorem dX11_advises_41 : decode cX11_advises 41 = .ok (.invokevirtual 171, 3) := by decide +kernel
theorem dX11_advises_44 : decode cX11_advises 44 = .ok (.ifCond .eq 24, 3) := by decide +kernel
theorem dX11_advises_47 : decode cX11_advises 47 = .ok (.aload_n 0, 1) := by decide +kernel
theorem dX11_advises_48 : decode cX11_advises 48 = .ok (.iload_n 1, 1) := by decide +kernel
theorem dX11_advises_49 : decode cX11_advises 49 = .ok (.iload 6, 2) := by decide +kernel
theorem dX11_advises_51 : decode cX11_advises 51 = .ok (.invokevirtual 162, 3) := by decide +kernel
theorem dX11_advises_54 : decode cX11_advises 54 = .ok (.aload_n 0, 1) := by decide +kernel
theorem dX11_advises_55 : decode cX11_advises 55 = .ok (.iload_n 1, 1) := by decide +kernel
theorem dX11_advises_56 : decode cX11_advises 56 = .ok (.iload 6, 2) := by decide +kernel
theorem dX11_advises_58 : decode cX11_advises 58 = .ok (.invokevirtual 165, 3) := by decide +kernel
theorem dX11_advises_61 : decode cX11_advises 61 = .ok (.iconst (-1), 1) := by decide +kernel
theorem dX11_advises_62 : decode cX11_advises 62 = .ok (.if_icmp .ne 6, 3) := by decide +kernel
theorem dX11_advises_65 : decode cX11_advises 65 = .ok (.iload 5, 2) := by decide +kernel
theorem dX11_advises_67 : decode cX11_advises 67 = .ok (.ireturn, 1) := by decide +kernel
theorem dX11_advises_68 : decode cX11_advises 68 = .ok (.iload 4, 2) := by decide +kernel
theorem dX11_advises_70 : decode cX11_advises 70 = .ok (.ifCond .ne 27, 3) := by decide +kernel
theorem dX11_advises_73 : decode cX11_advises 73 = .ok (.aload_n 0, 1) := by decide +kernel
theorem dX11_advises_74 : decode cX11_advises 74 = .ok (.getfield 10, 3) := by decide +kernel
theorem dX11_advises_77 : decode cX11_advises 77 = .ok (.iload_n 1, 1) := by decide +kernel
theorem dX11_advises_78 : decode cX11_advises 78 = .ok (.sipush 304, 3) := by decide +kernel
theorem dX11_advises_81 : decode cX11_advises 81 = .ok (.iadd, 1) := by decide +kernel
theorem dX11_advises_82 : decode cX11_advises 82 = .ok (.iload 6, 2) := by decide +kernel
theorem dX11_advises_84 : decode cX11_advises 84 = .ok (.iadd, 1) := by decide +kernel
theorem dX11_advises_85 : decode cX11_advises 85 = .ok (.iaload, 1) := by decide +kernel
theorem dX11_advises_86 : decode cX11_advises 86 = .ok (.iconst 1, 1) := by decide +kernel
theorem dX11_advises_87 : decode cX11_advises 87 = .ok (.if_icmp .ne 10, 3) := by decide +kernel
theorem dX11_advises_90 : decode cX11_advises 90 = .ok (.aload_n 0, 1) := by decide +kernel
theorem dX11_advises_91 : decode cX11_advises 91 = .ok (.iload_n 1, 1) := by decide +kernel
theorem dX11_advises_92 : decode cX11_advises 92 = .ok (.iload 6, 2) := by decide +kernel
theorem dX11_advises_94 : decode cX11_advises 94 = .ok (.invokevirtual 175, 3) := by decide +kernel
theorem dX11_advises_97 : decode cX11_advises 97 = .ok (.aload_n 0, 1) := by decide +kernel
theorem dX11_advises_98 : decode cX11_advises 98 = .ok (.getfield 10, 3) := by decide +kernel
theorem dX11_advises_101 : decode cX11_advises 101 = .ok (.iload_n 1, 1) := by decide +kernel
theorem dX11_advises_102 : decode cX11_advises 102 = .ok (.bipush 64, 2) := by decide +kernel
theorem dX11_advises_104 : decode cX11_advises 104 = .ok (.iadd, 1) := by decide +kernel
theorem dX11_advises_105 : decode cX11_advises 105 = .ok (.iload 6, 2) := by decide +kernel
theorem dX11_advises_107 : decode cX11_advises 107 = .ok (.iadd, 1) := by decide +kernel
theorem dX11_advises_108 : decode cX11_advises 108 = .ok (.iload 4, 2) := by decide +kernel
theorem dX11_advises_110 : decode cX11_advises 110 = .ok (.iastore, 1) := by decide +kernel
theorem dX11_advises_111 : decode cX11_advises 111 = .ok (.iinc 5 1, 3) := by decide +kernel
theorem dX11_advises_114 : decode cX11_advises 114 = .ok (.iinc 6 1, 3) := by decide +kernel
theorem dX11_advises_117 : decode cX11_advises 117 = .ok (.goto (-111), 3) := by decide +kernel
theorem dX11_advises_120 : decode cX11_advises 120 = .ok (.iload 5, 2) := by decide +kernel
theorem dX11_advises_122 : decode cX11_advises 122 = .ok (.ireturn, 1) := by decide +kernel
theorem dX11_nextAdvised_0 : decode cX11_nextAdvised 0 = .ok (.iload_n 2, 1) := by decide +kernel
theorem dX11_nextAdvised_1 : decode cX11_nextAdvised 1 = .ok (.istore_n 3, 1) := by decide +kernel
theorem dX11_nextAdvised_2 : decode cX11_nextAdvised 2 = .ok (.iload_n 3, 1) := by decide +kernel
theorem dX11_nextAdvised_3 : decode cX11_nextAdvised 3 = .ok (.aload_n 0, 1) := by decide +kernel
theorem dX11_nextAdvised_4 : decode cX11_nextAdvised 4 = .ok (.getfield 178, 3) := by decide +kernel
theorem dX11_nextAdvised_7 : decode cX11_nextAdvised 7 = .ok (.if_icmp .ge 23, 3) := by decide +kernel
theorem dX11_nextAdvised_10 : decode cX11_nextAdvised 10 = .ok (.aload_n 0, 1) := by decide +kernel
theorem dX11_nextAdvised_11 : decode cX11_nextAdvised 11 = .ok (.getfield 10, 3) := by decide +kernel
theorem dX11_nextAdvised_14 : decode cX11_nextAdvised 14 = .ok (.iload_n 1, 1) := by decide +kernel
theorem dX11_nextAdvised_15 : decode cX11_nextAdvised 15 = .ok (.bipush 64, 2) := by decide +kernel
theorem dX11_nextAdvised_17 : decode cX11_nextAdvised 17 = .ok (.iadd, 1) := by decide +kernel
theorem dX11_nextAdvised_18 : decode cX11_nextAdvised 18 = .ok (.iload_n 3, 1) := by decide +kernel
theorem dX11_nextAdvised_19 : decode cX11_nextAdvised 19 = .ok (.iadd, 1) := by decide +kernel
theorem dX11_nextAdvised_20 : decode cX11_nextAdvised 20 = .ok (.iaload, 1) := by decide +kernel
theorem dX11_nextAdvised_21 : decode cX11_nextAdvised 21 = .ok (.ifCond .ne 9, 3) := by decide +kernel
theorem dX11_nextAdvised_24 : decode cX11_nextAdvised 24 = .ok (.iinc 3 1, 3) := by decide +kernel
theorem dX11_nextAdvised_27 : decode cX11_nextAdvised 27 = .ok (.goto (-25), 3) := by decide +kernel
theorem dX11_nextAdvised_30 : decode cX11_nextAdvised 30 = .ok (.iload_n 3, 1) := by decide +kernel
theorem dX11_nextAdvised_31 : decode cX11_nextAdvised 31 = .ok (.aload_n 0, 1) := by decide +kernel
theorem dX11_nextAdvised_32 : decode cX11_nextAdvised 32 = .ok (.getfield 178, 3) := by decide +kernel
theorem dX11_nextAdvised_35 : decode cX11_nextAdvised 35 = .ok (.if_icmp .ge 7, 3) := by decide +kernel
theorem dX11_nextAdvised_38 : decode cX11_nextAdvised 38 = .ok (.iload_n 3, 1) := by decide +kernel
theorem dX11_nextAdvised_39 : decode cX11_nextAdvised 39 = .ok (.goto 4, 3) := by decide +kernel
theorem dX11_nextAdvised_42 : decode cX11_nextAdvised 42 = .ok (.iconst (-1), 1) := by decide +kernel
theorem dX11_nextAdvised_43 : decode cX11_nextAdvised 43 = .ok (.ireturn, 1) := by decide +kernel
theorem dX11_endsRound_0 : decode cX11_endsRound 0 = .ok (.iconst 0, 1) := by decide +kernel
theorem dX11_endsRound_1 : decode cX11_endsRound 1 = .ok (.istore_n 2, 1) := by decide +kernel
theorem dX11_endsRound_2 : decode cX11_endsRound 2 = .ok (.iload_n 2, 1) := by decide +kernel
theorem dX11_endsRound_3 : decode cX11_endsRound 3 = .ok (.iconst 3, 1) := by decide +kernel
theorem dX11_endsRound_4 : decode cX11_endsRound 4 = .ok (.if_icmp .ge 25, 3) := by decide +kernel
theorem dX11_endsRound_7 : decode cX11_endsRound 7 = .ok (.aload_n 0, 1) := by decide +kernel
theorem dX11_endsRound_8 : decode cX11_endsRound 8 = .ok (.getfield 10, 3) := by decide +kernel
theorem dX11_endsRound_11 : decode cX11_endsRound 11 = .ok (.iload_n 1, 1) := by decide +kernel
theorem dX11_endsRound_12 : decode cX11_endsRound 12 = .ok (.sipush 1363, 3) := by decide +kernel
theorem dX11_endsRound_15 : decode cX11_endsRound 15 = .ok (.iadd, 1) := by decide +kernel
theorem dX11_endsRound_16 : decode cX11_endsRound 16 = .ok (.bipush 97, 2) := by decide +kernel
theorem dX11_endsRound_18 : decode cX11_endsRound 18 = .ok (.iload_n 2, 1) := by decide +kernel
theorem dX11_endsRound_19 : decode cX11_endsRound 19 = .ok (.imul, 1) := by decide +kernel
theorem dX11_endsRound_20 : decode cX11_endsRound 20 = .ok (.iadd, 1) := by decide +kernel
theorem dX11_endsRound_21 : decode cX11_endsRound 21 = .ok (.iconst 0, 1) := by decide +kernel
theorem dX11_endsRound_22 : decode cX11_endsRound 22 = .ok (.iastore, 1) := by decide +kernel
theorem dX11_endsRound_23 : decode cX11_endsRound 23 = .ok (.iinc 2 1, 3) := by decide +kernel
theorem dX11_endsRound_26 : decode cX11_endsRound 26 = .ok (.goto (-24), 3) := by decide +kernel
theorem dX11_endsRound_29 : decode cX11_endsRound 29 = .ok (.iconst 0, 1) := by decide +kernel
theorem dX11_endsRound_30 : decode cX11_endsRound 30 = .ok (.istore_n 2, 1) := by decide +kernel
theorem dX11_endsRound_31 : decode cX11_endsRound 31 = .ok (.iload_n 2, 1) := by decide +kernel
theorem dX11_endsRound_32 : decode cX11_endsRound 32 = .ok (.bipush 48, 2) := by decide +kernel
theorem dX11_endsRound_34 : decode cX11_endsRound 34 = .ok (.if_icmp .ge 22, 3) := by decide +kernel
theorem dX11_endsRound_37 : decode cX11_endsRound 37 = .ok (.aload_n 0, 1) := by decide +kernel
theorem dX11_endsRound_38 : decode cX11_endsRound 38 = .ok (.getfield 10, 3) := by decide +kernel
theorem dX11_endsRound_41 : decode cX11_endsRound 41 = .ok (.iload_n 1, 1) := by decide +kernel
theorem dX11_endsRound_42 : decode cX11_endsRound 42 = .ok (.sipush 304, 3) := by decide +kernel
theorem dX11_endsRound_45 : decode cX11_endsRound 45 = .ok (.iadd, 1) := by decide +kernel
theorem dX11_endsRound_46 : decode cX11_endsRound 46 = .ok (.iload_n 2, 1) := by decide +kernel
theorem dX11_endsRound_47 : decode cX11_endsRound 47 = .ok (.iadd, 1) := by decide +kernel
theorem dX11_endsRound_48 : decode cX11_endsRound 48 = .ok (.iconst 0, 1) := by decide +kernel
theorem dX11_endsRound_49 : decode cX11_endsRound 49 = .ok (.iastore, 1) := by decide +kernel
theorem dX11_endsRound_50 : decode cX11_endsRound 50 = .ok (.iinc 2 1, 3) := by decide +kernel
theorem dX11_endsRound_53 : decode cX11_endsRound 53 = .ok (.goto (-22), 3) := by decide +kernel
theorem dX11_endsRound_56 : decode cX11_endsRound 56 = .ok (.iconst 4, 1) := by decide +kernel
theorem dX11_endsRound_57 : decode cX11_endsRound 57 = .ok (.aload_n 0, 1) := by decide +kernel
theorem dX11_endsRound_58 : decode cX11_endsRound 58 = .ok (.getfield 10, 3) := by decide +kernel
theorem dX11_endsRound_61 : decode cX11_endsRound 61 = .ok (.iload_n 1, 1) := by decide +kernel
theorem dX11_endsRound_62 : decode cX11_endsRound 62 = .ok (.bipush 10, 2) := by decide +kernel
theorem dX11_endsRound_64 : decode cX11_endsRound 64 = .ok (.iadd, 1) := by decide +kernel
theorem dX11_endsRound_65 : decode cX11_endsRound 65 = .ok (.iaload, 1) := by decide +kernel
theorem dX11_endsRound_66 : decode cX11_endsRound 66 = .ok (.imul, 1) := by decide +kernel
theorem dX11_endsRound_67 : decode cX11_endsRound 67 = .ok (.aload_n 0, 1) := by decide +kernel
theorem dX11_endsRound_68 : decode cX11_endsRound 68 = .ok (.getfield 10, 3) := by decide +kernel
theorem dX11_endsRound_71 : decode cX11_endsRound 71 = .ok (.iload_n 1, 1) := by decide +kernel
theorem dX11_endsRound_72 : decode cX11_endsRound 72 = .ok (.bipush 11, 2) := by decide +kernel
theorem dX11_endsRound_74 : decode cX11_endsRound 74 = .ok (.iadd, 1) := by decide +kernel
theorem dX11_endsRound_75 : decode cX11_endsRound 75 = .ok (.iaload, 1) := by decide +kernel
theorem dX11_endsRound_76 : decode cX11_endsRound 76 = .ok (.if_icmp .lt 31, 3) := by decide +kernel
theorem dX11_endsRound_79 : decode cX11_endsRound 79 = .ok (.aload_n 0, 1) := by decide +kernel
theorem dX11_endsRound_80 : decode cX11_endsRound 80 = .ok (.getfield 10, 3) := by decide +kernel
theorem dX11_endsRound_83 : decode cX11_endsRound 83 = .ok (.iload_n 1, 1) := by decide +kernel
theorem dX11_endsRound_84 : decode cX11_endsRound 84 = .ok (.iconst 0, 1) := by decide +kernel
theorem dX11_endsRound_85 : decode cX11_endsRound 85 = .ok (.iadd, 1) := by decide +kernel
theorem dX11_endsRound_86 : decode cX11_endsRound 86 = .ok (.aload_n 0, 1) := by decide +kernel
theorem dX11_endsRound_87 : decode cX11_endsRound 87 = .ok (.getfield 33, 3) := by decide +kernel
theorem dX11_endsRound_90 : decode cX11_endsRound 90 = .ok (.iconst 2, 1) := by decide +kernel
theorem dX11_endsRound_91 : decode cX11_endsRound 91 = .ok (.aload_n 0, 1) := by decide +kernel
theorem dX11_endsRound_92 : decode cX11_endsRound 92 = .ok (.getfield 10, 3) := by decide +kernel
theorem dX11_endsRound_95 : decode cX11_endsRound 95 = .ok (.iload_n 1, 1) := by decide +kernel
theorem dX11_endsRound_96 : decode cX11_endsRound 96 = .ok (.iconst 0, 1) := by decide +kernel
theorem dX11_endsRound_97 : decode cX11_endsRound 97 = .ok (.iadd, 1) := by decide +kernel
theorem dX11_endsRound_98 : decode cX11_endsRound 98 = .ok (.iaload, 1) := by decide +kernel
theorem dX11_endsRound_99 : decode cX11_endsRound 99 = .ok (.imul, 1) := by decide +kernel
theorem dX11_endsRound_100 : decode cX11_endsRound 100 = .ok (.invokestatic 181, 3) := by decide +kernel
theorem dX11_endsRound_103 : decode cX11_endsRound 103 = .ok (.iastore, 1) := by decide +kernel
theorem dX11_endsRound_104 : decode cX11_endsRound 104 = .ok (.goto 40, 3) := by decide +kernel
theorem dX11_endsRound_107 : decode cX11_endsRound 107 = .ok (.aload_n 0, 1) := by decide +kernel
theorem dX11_endsRound_108 : decode cX11_endsRound 108 = .ok (.getfield 10, 3) := by decide +kernel
theorem dX11_endsRound_111 : decode cX11_endsRound 111 = .ok (.iload_n 1, 1) := by decide +kernel
theorem dX11_endsRound_112 : decode cX11_endsRound 112 = .ok (.bipush 10, 2) := by decide +kernel
theorem dX11_endsRound_114 : decode cX11_endsRound 114 = .ok (.iadd, 1) := by decide +kernel
theorem dX11_endsRound_115 : decode cX11_endsRound 115 = .ok (.iaload, 1) := by decide +kernel
theorem dX11_endsRound_116 : decode cX11_endsRound 116 = .ok (.ifCond .ne 28, 3) := by decide +kernel
theorem dX11_endsRound_119 : decode cX11_endsRound 119 = .ok (.aload_n 0, 1) := by decide +kernel
theorem dX11_endsRound_120 : decode cX11_endsRound 120 = .ok (.getfield 10, 3) := by decide +kernel
theorem dX11_endsRound_123 : decode cX11_endsRound 123 = .ok (.iload_n 1, 1) := by decide +kernel
theorem dX11_endsRound_124 : decode cX11_endsRound 124 = .ok (.iconst 0, 1) := by decide +kernel
theorem dX11_endsRound_125 : decode cX11_endsRound 125 = .ok (.iadd, 1) := by decide +kernel
theorem dX11_endsRound_126 : decode cX11_endsRound 126 = .ok (.aload_n 0, 1) := by decide +kernel
theorem dX11_endsRound_127 : decode cX11_endsRound 127 = .ok (.getfield 30, 3) := by decide +kernel
theorem dX11_endsRound_130 : decode cX11_endsRound 130 = .ok (.aload_n 0, 1) := by decide +kernel
theorem dX11_endsRound_131 : decode cX11_endsRound 131 = .ok (.getfield 10, 3) := by decide +kernel
theorem dX11_endsRound_134 : decode cX11_endsRound 134 = .ok (.iload_n 1, 1) := by decide +kernel
theorem dX11_endsRound_135 : decode cX11_endsRound 135 = .ok (.iconst 0, 1) := by decide +kernel
theorem dX11_endsRound_136 : decode cX11_endsRound 136 = .ok (.iadd, 1) := by decide +kernel
theorem dX11_endsRound_137 : decode cX11_endsRound 137 = .ok (.iaload, 1) := by decide +kernel
theorem dX11_endsRound_138 : decode cX11_endsRound 138 = .ok (.iconst 2, 1) := by decide +kernel
theorem dX11_endsRound_139 : decode cX11_endsRound 139 = .ok (.idiv, 1) := by decide +kernel
theorem dX11_endsRound_140 : decode cX11_endsRound 140 = .ok (.invokestatic 184, 3) := by decide +kernel
theorem dX11_endsRound_143 : decode cX11_endsRound 143 = .ok (.iastore, 1) := by decide +kernel
theorem dX11_endsRound_144 : decode cX11_endsRound 144 = .ok (.aload_n 0, 1) := by decide +kernel
theorem dX11_endsRound_145 : decode cX11_endsRound 145 = .ok (.getfield 10, 3) := by decide +kernel
theorem dX11_endsRound_148 : decode cX11_endsRound 148 = .ok (.iload_n 1, 1) := by decide +kernel
theorem dX11_endsRound_149 : decode cX11_endsRound 149 = .ok (.iconst 1, 1) := by decide +kernel
theorem dX11_endsRound_150 : decode cX11_endsRound 150 = .ok (.iadd, 1) := by decide +kernel
theorem dX11_endsRound_151 : decode cX11_endsRound 151 = .ok (.dup2, 1) := by decide +kernel
theorem dX11_endsRound_152 : decode cX11_endsRound 152 = .ok (.iaload, 1) := by decide +kernel
theorem dX11_endsRound_153 : decode cX11_endsRound 153 = .ok (.iconst 1, 1) := by decide +kernel
theorem dX11_endsRound_154 : decode cX11_endsRound 154 = .ok (.iadd, 1) := by decide +kernel
theorem dX11_endsRound_155 : decode cX11_endsRound 155 = .ok (.iastore, 1) := by decide +kernel
theorem dX11_endsRound_156 : decode cX11_endsRound 156 = .ok (.aload_n 0, 1) := by decide +kernel
theorem dX11_endsRound_157 : decode cX11_endsRound 157 = .ok (.getfield 10, 3) := by decide +kernel
theorem dX11_endsRound_160 : decode cX11_endsRound 160 = .ok (.iload_n 1, 1) := by decide +kernel
theorem dX11_endsRound_161 : decode cX11_endsRound 161 = .ok (.bipush 10, 2) := by decide +kernel
theorem dX11_endsRound_163 : decode cX11_endsRound 163 = .ok (.iadd, 1) := by decide +kernel
