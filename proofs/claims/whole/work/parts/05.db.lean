theorem dX10_init_0 : decode cX10_init 0 = .ok (.aload_n 0, 1) := by decide +kernel
theorem dX10_init_1 : decode cX10_init 1 = .ok (.invokespecial 1, 3) := by decide +kernel
theorem dX10_init_4 : decode cX10_init 4 = .ok (.aload_n 0, 1) := by decide +kernel
theorem dX10_init_5 : decode cX10_init 5 = .ok (.new 7, 3) := by decide +kernel
theorem dX10_init_8 : decode cX10_init 8 = .ok (.dup, 1) := by decide +kernel
theorem dX10_init_9 : decode cX10_init 9 = .ok (.invokespecial 9, 3) := by decide +kernel
theorem dX10_init_12 : decode cX10_init 12 = .ok (.putfield 10, 3) := by decide +kernel
theorem dX10_init_15 : decode cX10_init 15 = .ok (.aload_n 0, 1) := by decide +kernel
theorem dX10_init_16 : decode cX10_init 16 = .ok (.new 7, 3) := by decide +kernel
theorem dX10_init_19 : decode cX10_init 19 = .ok (.dup, 1) := by decide +kernel
theorem dX10_init_20 : decode cX10_init 20 = .ok (.invokespecial 9, 3) := by decide +kernel
theorem dX10_init_23 : decode cX10_init 23 = .ok (.putfield 16, 3) := by decide +kernel
theorem dX10_init_26 : decode cX10_init 26 = .ok (.aload_n 0, 1) := by decide +kernel
theorem dX10_init_27 : decode cX10_init 27 = .ok (.new 19, 3) := by decide +kernel
theorem dX10_init_30 : decode cX10_init 30 = .ok (.dup, 1) := by decide +kernel
theorem dX10_init_31 : decode cX10_init 31 = .ok (.invokespecial 21, 3) := by decide +kernel
theorem dX10_init_34 : decode cX10_init 34 = .ok (.putfield 22, 3) := by decide +kernel
theorem dX10_init_37 : decode cX10_init 37 = .ok (.aload_n 0, 1) := by decide +kernel
theorem dX10_init_38 : decode cX10_init 38 = .ok (.new 26, 3) := by decide +kernel
theorem dX10_init_41 : decode cX10_init 41 = .ok (.dup, 1) := by decide +kernel
theorem dX10_init_42 : decode cX10_init 42 = .ok (.aload_n 0, 1) := by decide +kernel
theorem dX10_init_43 : decode cX10_init 43 = .ok (.getfield 10, 3) := by decide +kernel
theorem dX10_init_46 : decode cX10_init 46 = .ok (.invokespecial 28, 3) := by decide +kernel
theorem dX10_init_49 : decode cX10_init 49 = .ok (.putfield 31, 3) := by decide +kernel
theorem dX10_init_52 : decode cX10_init 52 = .ok (.aload_n 0, 1) := by decide +kernel
theorem dX10_init_53 : decode cX10_init 53 = .ok (.new 26, 3) := by decide +kernel
theorem dX10_init_56 : decode cX10_init 56 = .ok (.dup, 1) := by decide +kernel
theorem dX10_init_57 : decode cX10_init 57 = .ok (.aload_n 0, 1) := by decide +kernel
theorem dX10_init_58 : decode cX10_init 58 = .ok (.getfield 10, 3) := by decide +kernel
theorem dX10_init_61 : decode cX10_init 61 = .ok (.invokespecial 28, 3) := by decide +kernel
theorem dX10_init_64 : decode cX10_init 64 = .ok (.putfield 35, 3) := by decide +kernel
theorem dX10_init_67 : decode cX10_init 67 = .ok (.aload_n 0, 1) := by decide +kernel
theorem dX10_init_68 : decode cX10_init 68 = .ok (.new 38, 3) := by decide +kernel
theorem dX10_init_71 : decode cX10_init 71 = .ok (.dup, 1) := by decide +kernel
theorem dX10_init_72 : decode cX10_init 72 = .ok (.aload_n 0, 1) := by decide +kernel
theorem dX10_init_73 : decode cX10_init 73 = .ok (.getfield 10, 3) := by decide +kernel
theorem dX10_init_76 : decode cX10_init 76 = .ok (.invokespecial 40, 3) := by decide +kernel
theorem dX10_init_79 : decode cX10_init 79 = .ok (.putfield 41, 3) := by decide +kernel
theorem dX10_init_82 : decode cX10_init 82 = .ok (.aload_n 0, 1) := by decide +kernel
theorem dX10_init_83 : decode cX10_init 83 = .ok (.new 45, 3) := by decide +kernel
theorem dX10_init_86 : decode cX10_init 86 = .ok (.dup, 1) := by decide +kernel
theorem dX10_init_87 : decode cX10_init 87 = .ok (.aload_n 0, 1) := by decide +kernel
theorem dX10_init_88 : decode cX10_init 88 = .ok (.getfield 22, 3) := by decide +kernel
theorem dX10_init_91 : decode cX10_init 91 = .ok (.aload_n 0, 1) := by decide +kernel
theorem dX10_init_92 : decode cX10_init 92 = .ok (.getfield 16, 3) := by decide +kernel
theorem dX10_init_95 : decode cX10_init 95 = .ok (.aload_n 0, 1) := by decide +kernel
theorem dX10_init_96 : decode cX10_init 96 = .ok (.getfield 41, 3) := by decide +kernel
theorem dX10_init_99 : decode cX10_init 99 = .ok (.invokespecial 47, 3) := by decide +kernel
theorem dX10_init_102 : decode cX10_init 102 = .ok (.putfield 50, 3) := by decide +kernel
theorem dX10_init_105 : decode cX10_init 105 = .ok (.aload_n 0, 1) := by decide +kernel
theorem dX10_init_106 : decode cX10_init 106 = .ok (.new 54, 3) := by decide +kernel
theorem dX10_init_109 : decode cX10_init 109 = .ok (.dup, 1) := by decide +kernel
theorem dX10_init_110 : decode cX10_init 110 = .ok (.aload_n 0, 1) := by decide +kernel
theorem dX10_init_111 : decode cX10_init 111 = .ok (.getfield 22, 3) := by decide +kernel
theorem dX10_init_114 : decode cX10_init 114 = .ok (.aload_n 0, 1) := by decide +kernel
theorem dX10_init_115 : decode cX10_init 115 = .ok (.getfield 10, 3) := by decide +kernel
theorem dX10_init_118 : decode cX10_init 118 = .ok (.invokespecial 56, 3) := by decide +kernel
theorem dX10_init_121 : decode cX10_init 121 = .ok (.putfield 59, 3) := by decide +kernel
theorem dX10_init_124 : decode cX10_init 124 = .ok (.aload_n 0, 1) := by decide +kernel
theorem dX10_init_125 : decode cX10_init 125 = .ok (.new 63, 3) := by decide +kernel
theorem dX10_init_128 : decode cX10_init 128 = .ok (.dup, 1) := by decide +kernel
theorem dX10_init_129 : decode cX10_init 129 = .ok (.invokespecial 65, 3) := by decide +kernel
theorem dX10_init_132 : decode cX10_init 132 = .ok (.putfield 66, 3) := by decide +kernel
theorem dX10_init_135 : decode cX10_init 135 = .ok (.aload_n 0, 1) := by decide +kernel
theorem dX10_init_136 : decode cX10_init 136 = .ok (.bipush 21, 2) := by decide +kernel
theorem dX10_init_138 : decode cX10_init 138 = .ok (.newarray .int, 2) := by decide +kernel
theorem dX10_init_140 : decode cX10_init 140 = .ok (.putfield 70, 3) := by decide +kernel
theorem dX10_init_143 : decode cX10_init 143 = .ok (.aload_n 0, 1) := by decide +kernel
theorem dX10_init_144 : decode cX10_init 144 = .ok (.bipush 21, 2) := by decide +kernel
theorem dX10_init_146 : decode cX10_init 146 = .ok (.newarray .long, 2) := by decide +kernel
theorem dX10_init_148 : decode cX10_init 148 = .ok (.putfield 74, 3) := by decide +kernel
theorem dX10_init_151 : decode cX10_init 151 = .ok (.aload_n 0, 1) := by decide +kernel
theorem dX10_init_152 : decode cX10_init 152 = .ok (.iconst 0, 1) := by decide +kernel
theorem dX10_init_153 : decode cX10_init 153 = .ok (.putfield 78, 3) := by decide +kernel
theorem dX10_init_156 : decode cX10_init 156 = .ok (.aload_n 0, 1) := by decide +kernel
theorem dX10_init_157 : decode cX10_init 157 = .ok (.iconst (-1), 1) := by decide +kernel
theorem dX10_init_158 : decode cX10_init 158 = .ok (.putfield 82, 3) := by decide +kernel
theorem dX10_init_161 : decode cX10_init 161 = .ok (.return_, 1) := by decide +kernel
theorem dX10_feed_0 : decode cX10_feed 0 = .ok (.aload_n 0, 1) := by decide +kernel
theorem dX10_feed_1 : decode cX10_feed 1 = .ok (.getfield 22, 3) := by decide +kernel
theorem dX10_feed_4 : decode cX10_feed 4 = .ok (.getfield 86, 3) := by decide +kernel
theorem dX10_feed_7 : decode cX10_feed 7 = .ok (.bipush 20, 2) := by decide +kernel
theorem dX10_feed_9 : decode cX10_feed 9 = .ok (.iadd, 1) := by decide +kernel
theorem dX10_feed_10 : decode cX10_feed 10 = .ok (.sipush 700, 3) := by decide +kernel
theorem dX10_feed_13 : decode cX10_feed 13 = .ok (.if_icmp .le 5, 3) := by decide +kernel
theorem dX10_feed_16 : decode cX10_feed 16 = .ok (.iconst (-1), 1) := by decide +kernel
theorem dX10_feed_17 : decode cX10_feed 17 = .ok (.ireturn, 1) := by decide +kernel
theorem dX10_feed_18 : decode cX10_feed 18 = .ok (.aload_n 0, 1) := by decide +kernel
theorem dX10_feed_19 : decode cX10_feed 19 = .ok (.getfield 22, 3) := by decide +kernel
theorem dX10_feed_22 : decode cX10_feed 22 = .ok (.iload_n 1, 1) := by decide +kernel
theorem dX10_feed_23 : decode cX10_feed 23 = .ok (.invokevirtual 89, 3) := by decide +kernel
theorem dX10_feed_26 : decode cX10_feed 26 = .ok (.aload_n 0, 1) := by decide +kernel
theorem dX10_feed_27 : decode cX10_feed 27 = .ok (.getfield 22, 3) := by decide +kernel
theorem dX10_feed_30 : decode cX10_feed 30 = .ok (.iload_n 2, 1) := by decide +kernel
theorem dX10_feed_31 : decode cX10_feed 31 = .ok (.invokevirtual 89, 3) := by decide +kernel
theorem dX10_feed_34 : decode cX10_feed 34 = .ok (.aload_n 0, 1) := by decide +kernel
theorem dX10_feed_35 : decode cX10_feed 35 = .ok (.getfield 22, 3) := by decide +kernel
theorem dX10_feed_38 : decode cX10_feed 38 = .ok (.iload_n 3, 1) := by decide +kernel
theorem dX10_feed_39 : decode cX10_feed 39 = .ok (.invokevirtual 89, 3) := by decide +kernel
theorem dX10_feed_42 : decode cX10_feed 42 = .ok (.aload_n 0, 1) := by decide +kernel
theorem dX10_feed_43 : decode cX10_feed 43 = .ok (.getfield 22, 3) := by decide +kernel
theorem dX10_feed_46 : decode cX10_feed 46 = .ok (.iload 4, 2) := by decide +kernel
theorem dX10_feed_48 : decode cX10_feed 48 = .ok (.invokevirtual 89, 3) := by decide +kernel
theorem dX10_feed_51 : decode cX10_feed 51 = .ok (.aload_n 0, 1) := by decide +kernel
theorem dX10_feed_52 : decode cX10_feed 52 = .ok (.getfield 22, 3) := by decide +kernel
theorem dX10_feed_55 : decode cX10_feed 55 = .ok (.iload 5, 2) := by decide +kernel
theorem dX10_feed_57 : decode cX10_feed 57 = .ok (.invokevirtual 89, 3) := by decide +kernel
theorem dX10_feed_60 : decode cX10_feed 60 = .ok (.aload_n 0, 1) := by decide +kernel
theorem dX10_feed_61 : decode cX10_feed 61 = .ok (.getfield 22, 3) := by decide +kernel
theorem dX10_feed_64 : decode cX10_feed 64 = .ok (.getfield 86, 3) := by decide +kernel
theorem dX10_feed_67 : decode cX10_feed 67 = .ok (.ireturn, 1) := by decide +kernel
theorem dX10_machine_0 : decode cX10_machine 0 = .ok (.aload_n 0, 1) := by decide +kernel
theorem dX10_machine_1 : decode cX10_machine 1 = .ok (.iload_n 1, 1) := by decide +kernel
theorem dX10_machine_2 : decode cX10_machine 2 = .ok (.invokevirtual 93, 3) := by decide +kernel
theorem dX10_machine_5 : decode cX10_machine 5 = .ok (.aload_n 0, 1) := by decide +kernel
theorem dX10_machine_6 : decode cX10_machine 6 = .ok (.getfield 50, 3) := by decide +kernel
theorem dX10_machine_9 : decode cX10_machine 9 = .ok (.invokevirtual 96, 3) := by decide +kernel
theorem dX10_machine_12 : decode cX10_machine 12 = .ok (.aload_n 0, 1) := by decide +kernel
theorem dX10_machine_13 : decode cX10_machine 13 = .ok (.invokevirtual 99, 3) := by decide +kernel
theorem dX10_machine_16 : decode cX10_machine 16 = .ok (.aload_n 0, 1) := by decide +kernel
theorem dX10_machine_17 : decode cX10_machine 17 = .ok (.getfield 22, 3) := by decide +kernel
theorem dX10_machine_20 : decode cX10_machine 20 = .ok (.getfield 102, 3) := by decide +kernel
theorem dX10_machine_23 : decode cX10_machine 23 = .ok (.ifCond .eq 11, 3) := by decide +kernel
theorem dX10_machine_26 : decode cX10_machine 26 = .ok (.aload_n 0, 1) := by decide +kernel
theorem dX10_machine_27 : decode cX10_machine 27 = .ok (.getfield 22, 3) := by decide +kernel
theorem dX10_machine_30 : decode cX10_machine 30 = .ok (.getfield 102, 3) := by decide +kernel
theorem dX10_machine_33 : decode cX10_machine 33 = .ok (.ireturn, 1) := by decide +kernel
theorem dX10_machine_34 : decode cX10_machine 34 = .ok (.aload_n 0, 1) := by decide +kernel
theorem dX10_machine_35 : decode cX10_machine 35 = .ok (.getfield 10, 3) := by decide +kernel
theorem dX10_machine_38 : decode cX10_machine 38 = .ok (.aload_n 0, 1) := by decide +kernel
theorem dX10_machine_39 : decode cX10_machine 39 = .ok (.getfield 16, 3) := by decide +kernel
theorem dX10_machine_42 : decode cX10_machine 42 = .ok (.invokevirtual 105, 3) := by decide +kernel
theorem dX10_machine_45 : decode cX10_machine 45 = .ok (.aload_n 0, 1) := by decide +kernel
theorem dX10_machine_46 : decode cX10_machine 46 = .ok (.getfield 41, 3) := by decide +kernel
theorem dX10_machine_49 : decode cX10_machine 49 = .ok (.getfield 108, 3) := by decide +kernel
theorem dX10_machine_52 : decode cX10_machine 52 = .ok (.iconst 0, 1) := by decide +kernel
theorem dX10_machine_53 : decode cX10_machine 53 = .ok (.aload_n 0, 1) := by decide +kernel
theorem dX10_machine_54 : decode cX10_machine 54 = .ok (.getfield 10, 3) := by decide +kernel
theorem dX10_machine_57 : decode cX10_machine 57 = .ok (.getfield 111, 3) := by decide +kernel
theorem dX10_machine_60 : decode cX10_machine 60 = .ok (.iastore, 1) := by decide +kernel
theorem dX10_machine_61 : decode cX10_machine 61 = .ok (.aload_n 0, 1) := by decide +kernel
theorem dX10_machine_62 : decode cX10_machine 62 = .ok (.getfield 31, 3) := by decide +kernel
theorem dX10_machine_65 : decode cX10_machine 65 = .ok (.getfield 114, 3) := by decide +kernel
theorem dX10_machine_68 : decode cX10_machine 68 = .ok (.aload_n 0, 1) := by decide +kernel
theorem dX10_machine_69 : decode cX10_machine 69 = .ok (.getfield 41, 3) := by decide +kernel
theorem dX10_machine_72 : decode cX10_machine 72 = .ok (.invokevirtual 117, 3) := by decide +kernel
theorem dX10_machine_75 : decode cX10_machine 75 = .ok (.aload_n 0, 1) := by decide +kernel
theorem dX10_machine_76 : decode cX10_machine 76 = .ok (.getfield 31, 3) := by decide +kernel
theorem dX10_machine_79 : decode cX10_machine 79 = .ok (.getfield 120, 3) := by decide +kernel
theorem dX10_machine_82 : decode cX10_machine 82 = .ok (.invokevirtual 124, 3) := by decide +kernel
theorem dX10_machine_85 : decode cX10_machine 85 = .ok (.aload_n 0, 1) := by decide +kernel
theorem dX10_machine_86 : decode cX10_machine 86 = .ok (.getfield 31, 3) := by decide +kernel
theorem dX10_machine_89 : decode cX10_machine 89 = .ok (.iconst 0, 1) := by decide +kernel
theorem dX10_machine_90 : decode cX10_machine 90 = .ok (.putfield 129, 3) := by decide +kernel
theorem dX10_machine_93 : decode cX10_machine 93 = .ok (.aload_n 0, 1) := by decide +kernel
theorem dX10_machine_94 : decode cX10_machine 94 = .ok (.iconst 0, 1) := by decide +kernel
theorem dX10_machine_95 : decode cX10_machine 95 = .ok (.putfield 78, 3) := by decide +kernel
theorem dX10_machine_98 : decode cX10_machine 98 = .ok (.iconst 0, 1) := by decide +kernel
theorem dX10_machine_99 : decode cX10_machine 99 = .ok (.ireturn, 1) := by decide +kernel
theorem dX10_orders_0 : decode cX10_orders 0 = .ok (.aload_n 0, 1) := by decide +kernel
theorem dX10_orders_1 : decode cX10_orders 1 = .ok (.iload_n 1, 1) := by decide +kernel
theorem dX10_orders_2 : decode cX10_orders 2 = .ok (.invokevirtual 93, 3) := by decide +kernel
theorem dX10_orders_5 : decode cX10_orders 5 = .ok (.aload_n 0, 1) := by decide +kernel
theorem dX10_orders_6 : decode cX10_orders 6 = .ok (.getfield 59, 3) := by decide +kernel
theorem dX10_orders_9 : decode cX10_orders 9 = .ok (.invokevirtual 132, 3) := by decide +kernel
theorem dX10_orders_12 : decode cX10_orders 12 = .ok (.istore_n 2, 1) := by decide +kernel
theorem dX10_orders_13 : decode cX10_orders 13 = .ok (.aload_n 0, 1) := by decide +kernel
theorem dX10_orders_14 : decode cX10_orders 14 = .ok (.invokevirtual 99, 3) := by decide +kernel
theorem dX10_orders_17 : decode cX10_orders 17 = .ok (.aload_n 0, 1) := by decide +kernel
theorem dX10_orders_18 : decode cX10_orders 18 = .ok (.getfield 22, 3) := by decide +kernel
theorem dX10_orders_21 : decode cX10_orders 21 = .ok (.getfield 102, 3) := by decide +kernel
theorem dX10_orders_24 : decode cX10_orders 24 = .ok (.ifCond .eq 14, 3) := by decide +kernel
theorem dX10_orders_27 : decode cX10_orders 27 = .ok (.bipush (-10), 2) := by decide +kernel
theorem dX10_orders_29 : decode cX10_orders 29 = .ok (.aload_n 0, 1) := by decide +kernel
theorem dX10_orders_30 : decode cX10_orders 30 = .ok (.getfield 22, 3) := by decide +kernel
theorem dX10_orders_33 : decode cX10_orders 33 = .ok (.getfield 102, 3) := by decide +kernel
theorem dX10_orders_36 : decode cX10_orders 36 = .ok (.isub, 1) := by decide +kernel
theorem dX10_orders_37 : decode cX10_orders 37 = .ok (.ireturn, 1) := by decide +kernel
theorem dX10_orders_38 : decode cX10_orders 38 = .ok (.aload_n 0, 1) := by decide +kernel
theorem dX10_orders_39 : decode cX10_orders 39 = .ok (.getfield 31, 3) := by decide +kernel
theorem dX10_orders_42 : decode cX10_orders 42 = .ok (.getfield 120, 3) := by decide +kernel
theorem dX10_orders_45 : decode cX10_orders 45 = .ok (.aload_n 0, 1) := by decide +kernel
theorem dX10_orders_46 : decode cX10_orders 46 = .ok (.getfield 31, 3) := by decide +kernel
theorem dX10_orders_49 : decode cX10_orders 49 = .ok (.getfield 114, 3) := by decide +kernel
theorem dX10_orders_52 : decode cX10_orders 52 = .ok (.invokevirtual 136, 3) := by decide +kernel
theorem dX10_orders_55 : decode cX10_orders 55 = .ok (.aload_n 0, 1) := by decide +kernel
theorem dX10_orders_56 : decode cX10_orders 56 = .ok (.getfield 22, 3) := by decide +kernel
theorem dX10_orders_59 : decode cX10_orders 59 = .ok (.iload_n 1, 1) := by decide +kernel
theorem dX10_orders_60 : decode cX10_orders 60 = .ok (.invokevirtual 139, 3) := by decide +kernel
theorem dX10_orders_63 : decode cX10_orders 63 = .ok (.iconst 0, 1) := by decide +kernel
theorem dX10_orders_64 : decode cX10_orders 64 = .ok (.istore_n 3, 1) := by decide +kernel
theorem dX10_orders_65 : decode cX10_orders 65 = .ok (.iload_n 3, 1) := by decide +kernel
theorem dX10_orders_66 : decode cX10_orders 66 = .ok (.iload_n 2, 1) := by decide +kernel
theorem dX10_orders_67 : decode cX10_orders 67 = .ok (.if_icmp .ge 62, 3) := by decide +kernel
theorem dX10_orders_70 : decode cX10_orders 70 = .ok (.aload_n 0, 1) := by decide +kernel
theorem dX10_orders_71 : decode cX10_orders 71 = .ok (.getfield 59, 3) := by decide +kernel
theorem dX10_orders_74 : decode cX10_orders 74 = .ok (.invokevirtual 142, 3) := by decide +kernel
theorem dX10_orders_77 : decode cX10_orders 77 = .ok (.ifCond .eq 52, 3) := by decide +kernel
theorem dX10_orders_80 : decode cX10_orders 80 = .ok (.aload_n 0, 1) := by decide +kernel
theorem dX10_orders_81 : decode cX10_orders 81 = .ok (.invokevirtual 146, 3) := by decide +kernel
theorem dX10_orders_84 : decode cX10_orders 84 = .ok (.iconst (-1), 1) := by decide +kernel
theorem dX10_orders_85 : decode cX10_orders 85 = .ok (.if_icmp .ne 38, 3) := by decide +kernel
theorem dX10_orders_88 : decode cX10_orders 88 = .ok (.aload_n 0, 1) := by decide +kernel
theorem dX10_orders_89 : decode cX10_orders 89 = .ok (.getfield 31, 3) := by decide +kernel
theorem dX10_orders_92 : decode cX10_orders 92 = .ok (.getfield 120, 3) := by decide +kernel
theorem dX10_orders_95 : decode cX10_orders 95 = .ok (.aload_n 0, 1) := by decide +kernel
theorem dX10_orders_96 : decode cX10_orders 96 = .ok (.getfield 31, 3) := by decide +kernel
theorem dX10_orders_99 : decode cX10_orders 99 = .ok (.getfield 114, 3) := by decide +kernel
theorem dX10_orders_102 : decode cX10_orders 102 = .ok (.invokevirtual 149, 3) := by decide +kernel
theorem dX10_orders_105 : decode cX10_orders 105 = .ok (.aload_n 0, 1) := by decide +kernel
theorem dX10_orders_106 : decode cX10_orders 106 = .ok (.getfield 31, 3) := by decide +kernel
theorem dX10_orders_109 : decode cX10_orders 109 = .ok (.getfield 152, 3) := by decide +kernel
theorem dX10_orders_112 : decode cX10_orders 112 = .ok (.iconst 1, 1) := by decide +kernel
theorem dX10_orders_113 : decode cX10_orders 113 = .ok (.dup2, 1) := by decide +kernel
theorem dX10_orders_114 : decode cX10_orders 114 = .ok (.iaload, 1) := by decide +kernel
theorem dX10_orders_115 : decode cX10_orders 115 = .ok (.iconst 1, 1) := by decide +kernel
theorem dX10_orders_116 : decode cX10_orders 116 = .ok (.iadd, 1) := by decide +kernel
theorem dX10_orders_117 : decode cX10_orders 117 = .ok (.iastore, 1) := by decide +kernel
theorem dX10_orders_118 : decode cX10_orders 118 = .ok (.bipush (-100), 2) := by decide +kernel
theorem dX10_orders_120 : decode cX10_orders 120 = .ok (.iload_n 3, 1) := by decide +kernel
theorem dX10_orders_121 : decode cX10_orders 121 = .ok (.isub, 1) := by decide +kernel
theorem dX10_orders_122 : decode cX10_orders 122 = .ok (.ireturn, 1) := by decide +kernel
theorem dX10_orders_123 : decode cX10_orders 123 = .ok (.iinc 3 1, 3) := by decide +kernel
theorem dX10_orders_126 : decode cX10_orders 126 = .ok (.goto (-61), 3) := by decide +kernel
theorem dX10_orders_129 : decode cX10_orders 129 = .ok (.iload_n 2, 1) := by decide +kernel
theorem dX10_orders_130 : decode cX10_orders 130 = .ok (.ifCond .le 13, 3) := by decide +kernel
theorem dX10_orders_133 : decode cX10_orders 133 = .ok (.aload_n 0, 1) := by decide +kernel
theorem dX10_orders_134 : decode cX10_orders 134 = .ok (.getfield 31, 3) := by decide +kernel
theorem dX10_orders_137 : decode cX10_orders 137 = .ok (.getfield 120, 3) := by decide +kernel
theorem dX10_orders_140 : decode cX10_orders 140 = .ok (.invokevirtual 155, 3) := by decide +kernel
theorem dX10_orders_143 : decode cX10_orders 143 = .ok (.iload_n 2, 1) := by decide +kernel
theorem dX10_orders_144 : decode cX10_orders 144 = .ok (.ireturn, 1) := by decide +kernel
theorem dX10_fault_0 : decode cX10_fault 0 = .ok (.aload_n 0, 1) := by decide +kernel
theorem dX10_fault_1 : decode cX10_fault 1 = .ok (.getfield 82, 3) := by decide +kernel
theorem dX10_fault_4 : decode cX10_fault 4 = .ok (.ireturn, 1) := by decide +kernel
theorem dX10_count_0 : decode cX10_count 0 = .ok (.iload_n 1, 1) := by decide +kernel
theorem dX10_count_1 : decode cX10_count 1 = .ok (.bipush 10, 2) := by decide +kernel
theorem dX10_count_3 : decode cX10_count 3 = .ok (.if_icmp .lt 25, 3) := by decide +kernel
theorem dX10_count_6 : decode cX10_count 6 = .ok (.iload_n 1, 1) := by decide +kernel
theorem dX10_count_7 : decode cX10_count 7 = .ok (.bipush 20, 2) := by decide +kernel
theorem dX10_count_9 : decode cX10_count 9 = .ok (.if_icmp .gt 19, 3) := by decide +kernel
theorem dX10_count_12 : decode cX10_count 12 = .ok (.aload_n 0, 1) := by decide +kernel
theorem dX10_count_13 : decode cX10_count 13 = .ok (.getfield 31, 3) := by decide +kernel
theorem dX10_count_16 : decode cX10_count 16 = .ok (.getfield 114, 3) := by decide +kernel
theorem dX10_count_19 : decode cX10_count 19 = .ok (.getfield 108, 3) := by decide +kernel
theorem dX10_count_22 : decode cX10_count 22 = .ok (.iload_n 1, 1) := by decide +kernel
theorem dX10_count_23 : decode cX10_count 23 = .ok (.bipush 10, 2) := by decide +kernel
theorem dX10_count_25 : decode cX10_count 25 = .ok (.isub, 1) := by decide +kernel
theorem dX10_count_26 : decode cX10_count 26 = .ok (.iaload, 1) := by decide +kernel
theorem dX10_count_27 : decode cX10_count 27 = .ok (.ireturn, 1) := by decide +kernel
theorem dX10_count_28 : decode cX10_count 28 = .ok (.iload_n 1, 1) := by decide +kernel
theorem dX10_count_29 : decode cX10_count 29 = .ok (.bipush 25, 2) := by decide +kernel
theorem dX10_count_31 : decode cX10_count 31 = .ok (.if_icmp .lt 22, 3) := by decide +kernel
theorem dX10_count_34 : decode cX10_count 34 = .ok (.iload_n 1, 1) := by decide +kernel
theorem dX10_count_35 : decode cX10_count 35 = .ok (.bipush 27, 2) := by decide +kernel
theorem dX10_count_37 : decode cX10_count 37 = .ok (.if_icmp .gt 16, 3) := by decide +kernel
theorem dX10_count_40 : decode cX10_count 40 = .ok (.aload_n 0, 1) := by decide +kernel
theorem dX10_count_41 : decode cX10_count 41 = .ok (.getfield 31, 3) := by decide +kernel
theorem dX10_count_44 : decode cX10_count 44 = .ok (.getfield 152, 3) := by decide +kernel
theorem dX10_count_47 : decode cX10_count 47 = .ok (.iload_n 1, 1) := by decide +kernel
theorem dX10_count_48 : decode cX10_count 48 = .ok (.bipush 25, 2) := by decide +kernel
theorem dX10_count_50 : decode cX10_count 50 = .ok (.isub, 1) := by decide +kernel
theorem dX10_count_51 : decode cX10_count 51 = .ok (.iaload, 1) := by decide +kernel
theorem dX10_count_52 : decode cX10_count 52 = .ok (.ireturn, 1) := by decide +kernel
theorem dX10_count_53 : decode cX10_count 53 = .ok (.iload_n 1, 1) := by decide +kernel
theorem dX10_count_54 : decode cX10_count 54 = .ok (.tableswitch 280 0 24 #[114, 122, 133, 144, 152, 160, 179, 198, 217, 231, 280, 280, 280, 280, 280, 280, 280, 280, 280, 280, 280, 245, 253, 264, 272], 114) := by decide +kernel
theorem dX10_count_168 : decode cX10_count 168 = .ok (.aload_n 0, 1) := by decide +kernel
theorem dX10_count_169 : decode cX10_count 169 = .ok (.getfield 10, 3) := by decide +kernel
theorem dX10_count_172 : decode cX10_count 172 = .ok (.getfield 158, 3) := by decide +kernel
theorem dX10_count_175 : decode cX10_count 175 = .ok (.ireturn, 1) := by decide +kernel
theorem dX10_count_176 : decode cX10_count 176 = .ok (.aload_n 0, 1) := by decide +kernel
theorem dX10_count_177 : decode cX10_count 177 = .ok (.getfield 31, 3) := by decide +kernel
theorem dX10_count_180 : decode cX10_count 180 = .ok (.getfield 114, 3) := by decide +kernel
theorem dX10_count_183 : decode cX10_count 183 = .ok (.invokevirtual 161, 3) := by decide +kernel
theorem dX10_count_186 : decode cX10_count 186 = .ok (.ireturn, 1) := by decide +kernel
theorem dX10_count_187 : decode cX10_count 187 = .ok (.aload_n 0, 1) := by decide +kernel
theorem dX10_count_188 : decode cX10_count 188 = .ok (.getfield 31, 3) := by decide +kernel
theorem dX10_count_191 : decode cX10_count 191 = .ok (.getfield 114, 3) := by decide +kernel
theorem dX10_count_194 : decode cX10_count 194 = .ok (.invokevirtual 164, 3) := by decide +kernel
theorem dX10_count_197 : decode cX10_count 197 = .ok (.ireturn, 1) := by decide +kernel
theorem dX10_count_198 : decode cX10_count 198 = .ok (.aload_n 0, 1) := by decide +kernel
theorem dX10_count_199 : decode cX10_count 199 = .ok (.getfield 10, 3) := by decide +kernel
theorem dX10_count_202 : decode cX10_count 202 = .ok (.getfield 167, 3) := by decide +kernel
theorem dX10_count_205 : decode cX10_count 205 = .ok (.ireturn, 1) := by decide +kernel
theorem dX10_count_206 : decode cX10_count 206 = .ok (.aload_n 0, 1) := by decide +kernel
theorem dX10_count_207 : decode cX10_count 207 = .ok (.getfield 10, 3) := by decide +kernel
theorem dX10_count_210 : decode cX10_count 210 = .ok (.getfield 170, 3) := by decide +kernel
theorem dX10_count_213 : decode cX10_count 213 = .ok (.ireturn, 1) := by decide +kernel
theorem dX10_count_214 : decode cX10_count 214 = .ok (.aload_n 0, 1) := by decide +kernel
theorem dX10_count_215 : decode cX10_count 215 = .ok (.getfield 31, 3) := by decide +kernel
theorem dX10_count_218 : decode cX10_count 218 = .ok (.getfield 114, 3) := by decide +kernel
theorem dX10_count_221 : decode cX10_count 221 = .ok (.iconst 0, 1) := by decide +kernel
theorem dX10_count_222 : decode cX10_count 222 = .ok (.aload_n 0, 1) := by decide +kernel
theorem dX10_count_223 : decode cX10_count 223 = .ok (.getfield 10, 3) := by decide +kernel
theorem dX10_count_226 : decode cX10_count 226 = .ok (.getfield 170, 3) := by decide +kernel
theorem dX10_count_229 : decode cX10_count 229 = .ok (.invokevirtual 173, 3) := by decide +kernel
theorem dX10_count_232 : decode cX10_count 232 = .ok (.ireturn, 1) := by decide +kernel
theorem dX10_count_233 : decode cX10_count 233 = .ok (.aload_n 0, 1) := by decide +kernel
theorem dX10_count_234 : decode cX10_count 234 = .ok (.getfield 31, 3) := by decide +kernel
theorem dX10_count_237 : decode cX10_count 237 = .ok (.getfield 114, 3) := by decide +kernel
theorem dX10_count_240 : decode cX10_count 240 = .ok (.iconst 0, 1) := by decide +kernel
theorem dX10_count_241 : decode cX10_count 241 = .ok (.aload_n 0, 1) := by decide +kernel
theorem dX10_count_242 : decode cX10_count 242 = .ok (.getfield 10, 3) := by decide +kernel
theorem dX10_count_245 : decode cX10_count 245 = .ok (.getfield 170, 3) := by decide +kernel
theorem dX10_count_248 : decode cX10_count 248 = .ok (.invokevirtual 177, 3) := by decide +kernel
theorem dX10_count_251 : decode cX10_count 251 = .ok (.ireturn, 1) := by decide +kernel
theorem dX10_count_252 : decode cX10_count 252 = .ok (.aload_n 0, 1) := by decide +kernel
theorem dX10_count_253 : decode cX10_count 253 = .ok (.getfield 31, 3) := by decide +kernel
theorem dX10_count_256 : decode cX10_count 256 = .ok (.getfield 114, 3) := by decide +kernel
theorem dX10_count_259 : decode cX10_count 259 = .ok (.iconst 0, 1) := by decide +kernel
theorem dX10_count_260 : decode cX10_count 260 = .ok (.aload_n 0, 1) := by decide +kernel
theorem dX10_count_261 : decode cX10_count 261 = .ok (.getfield 10, 3) := by decide +kernel
theorem dX10_count_264 : decode cX10_count 264 = .ok (.getfield 170, 3) := by decide +kernel
theorem dX10_count_267 : decode cX10_count 267 = .ok (.invokevirtual 180, 3) := by decide +kernel
theorem dX10_count_270 : decode cX10_count 270 = .ok (.ireturn, 1) := by decide +kernel
theorem dX10_count_271 : decode cX10_count 271 = .ok (.aload_n 0, 1) := by decide +kernel
theorem dX10_count_272 : decode cX10_count 272 = .ok (.getfield 31, 3) := by decide +kernel
theorem dX10_count_275 : decode cX10_count 275 = .ok (.getfield 114, 3) := by decide +kernel
theorem dX10_count_278 : decode cX10_count 278 = .ok (.getfield 183, 3) := by decide +kernel
theorem dX10_count_281 : decode cX10_count 281 = .ok (.invokevirtual 187, 3) := by decide +kernel
theorem dX10_count_284 : decode cX10_count 284 = .ok (.ireturn, 1) := by decide +kernel
theorem dX10_count_285 : decode cX10_count 285 = .ok (.aload_n 0, 1) := by decide +kernel
theorem dX10_count_286 : decode cX10_count 286 = .ok (.getfield 31, 3) := by decide +kernel
theorem dX10_count_289 : decode cX10_count 289 = .ok (.getfield 114, 3) := by decide +kernel
theorem dX10_count_292 : decode cX10_count 292 = .ok (.getfield 192, 3) := by decide +kernel
theorem dX10_count_295 : decode cX10_count 295 = .ok (.invokevirtual 187, 3) := by decide +kernel
theorem dX10_count_298 : decode cX10_count 298 = .ok (.ireturn, 1) := by decide +kernel
theorem dX10_count_299 : decode cX10_count 299 = .ok (.aload_n 0, 1) := by decide +kernel
theorem dX10_count_300 : decode cX10_count 300 = .ok (.getfield 10, 3) := by decide +kernel
theorem dX10_count_303 : decode cX10_count 303 = .ok (.getfield 195, 3) := by decide +kernel
theorem dX10_count_306 : decode cX10_count 306 = .ok (.ireturn, 1) := by decide +kernel
theorem dX10_count_307 : decode cX10_count 307 = .ok (.aload_n 0, 1) := by decide +kernel
theorem dX10_count_308 : decode cX10_count 308 = .ok (.getfield 31, 3) := by decide +kernel
theorem dX10_count_311 : decode cX10_count 311 = .ok (.getfield 120, 3) := by decide +kernel
theorem dX10_count_314 : decode cX10_count 314 = .ok (.getfield 198, 3) := by decide +kernel
theorem dX10_count_317 : decode cX10_count 317 = .ok (.ireturn, 1) := by decide +kernel
theorem dX10_count_318 : decode cX10_count 318 = .ok (.aload_n 0, 1) := by decide +kernel
theorem dX10_count_319 : decode cX10_count 319 = .ok (.getfield 31, 3) := by decide +kernel
theorem dX10_count_322 : decode cX10_count 322 = .ok (.getfield 129, 3) := by decide +kernel
theorem dX10_count_325 : decode cX10_count 325 = .ok (.ireturn, 1) := by decide +kernel
theorem dX10_count_326 : decode cX10_count 326 = .ok (.aload_n 0, 1) := by decide +kernel
theorem dX10_count_327 : decode cX10_count 327 = .ok (.getfield 22, 3) := by decide +kernel
theorem dX10_count_330 : decode cX10_count 330 = .ok (.getfield 86, 3) := by decide +kernel
theorem dX10_count_333 : decode cX10_count 333 = .ok (.ireturn, 1) := by decide +kernel
theorem dX10_count_334 : decode cX10_count 334 = .ok (.new 201, 3) := by decide +kernel
theorem dX10_count_337 : decode cX10_count 337 = .ok (.dup, 1) := by decide +kernel
theorem dX10_count_338 : decode cX10_count 338 = .ok (.invokespecial 203, 3) := by decide +kernel
theorem dX10_count_341 : decode cX10_count 341 = .ok (.athrow, 1) := by decide +kernel
theorem dX10_guest_0 : decode cX10_guest 0 = .ok (.iload_n 1, 1) := by decide +kernel
theorem dX10_guest_1 : decode cX10_guest 1 = .ok (.ifCond .lt 18, 3) := by decide +kernel
theorem dX10_guest_4 : decode cX10_guest 4 = .ok (.iload_n 1, 1) := by decide +kernel
theorem dX10_guest_5 : decode cX10_guest 5 = .ok (.aload_n 0, 1) := by decide +kernel
theorem dX10_guest_6 : decode cX10_guest 6 = .ok (.getfield 10, 3) := by decide +kernel
theorem dX10_guest_9 : decode cX10_guest 9 = .ok (.getfield 167, 3) := by decide +kernel
theorem dX10_guest_12 : decode cX10_guest 12 = .ok (.if_icmp .ge 7, 3) := by decide +kernel
theorem dX10_guest_15 : decode cX10_guest 15 = .ok (.iconst 1, 1) := by decide +kernel
theorem dX10_guest_16 : decode cX10_guest 16 = .ok (.goto 4, 3) := by decide +kernel
theorem dX10_guest_19 : decode cX10_guest 19 = .ok (.iconst 0, 1) := by decide +kernel
theorem dX10_guest_20 : decode cX10_guest 20 = .ok (.invokestatic 204, 3) := by decide +kernel
theorem dX10_guest_23 : decode cX10_guest 23 = .ok (.aload_n 0, 1) := by decide +kernel
theorem dX10_guest_24 : decode cX10_guest 24 = .ok (.getfield 10, 3) := by decide +kernel
theorem dX10_guest_27 : decode cX10_guest 27 = .ok (.getfield 208, 3) := by decide +kernel
theorem dX10_guest_30 : decode cX10_guest 30 = .ok (.iload_n 1, 1) := by decide +kernel
theorem dX10_guest_31 : decode cX10_guest 31 = .ok (.iaload, 1) := by decide +kernel
theorem dX10_guest_32 : decode cX10_guest 32 = .ok (.istore_n 3, 1) := by decide +kernel
theorem dX10_guest_33 : decode cX10_guest 33 = .ok (.iload_n 3, 1) := by decide +kernel
theorem dX10_guest_34 : decode cX10_guest 34 = .ok (.aload_n 0, 1) := by decide +kernel
theorem dX10_guest_35 : decode cX10_guest 35 = .ok (.getfield 10, 3) := by decide +kernel
theorem dX10_guest_38 : decode cX10_guest 38 = .ok (.getfield 211, 3) := by decide +kernel
theorem dX10_guest_41 : decode cX10_guest 41 = .ok (.iload_n 1, 1) := by decide +kernel
theorem dX10_guest_42 : decode cX10_guest 42 = .ok (.iaload, 1) := by decide +kernel
theorem dX10_guest_43 : decode cX10_guest 43 = .ok (.iadd, 1) := by decide +kernel
theorem dX10_guest_44 : decode cX10_guest 44 = .ok (.istore 4, 2) := by decide +kernel
theorem dX10_guest_46 : decode cX10_guest 46 = .ok (.iload_n 2, 1) := by decide +kernel
theorem dX10_guest_47 : decode cX10_guest 47 = .ok (.tableswitch 113 0 5 #[37, 47, 57, 71, 85, 99], 37) := by decide +kernel
theorem dX10_guest_84 : decode cX10_guest 84 = .ok (.aload_n 0, 1) := by decide +kernel
theorem dX10_guest_85 : decode cX10_guest 85 = .ok (.getfield 10, 3) := by decide +kernel
theorem dX10_guest_88 : decode cX10_guest 88 = .ok (.getfield 211, 3) := by decide +kernel
theorem dX10_guest_91 : decode cX10_guest 91 = .ok (.iload_n 1, 1) := by decide +kernel
theorem dX10_guest_92 : decode cX10_guest 92 = .ok (.iaload, 1) := by decide +kernel
theorem dX10_guest_93 : decode cX10_guest 93 = .ok (.ireturn, 1) := by decide +kernel
theorem dX10_guest_94 : decode cX10_guest 94 = .ok (.aload_n 0, 1) := by decide +kernel
theorem dX10_guest_95 : decode cX10_guest 95 = .ok (.getfield 10, 3) := by decide +kernel
theorem dX10_guest_98 : decode cX10_guest 98 = .ok (.getfield 214, 3) := by decide +kernel
theorem dX10_guest_101 : decode cX10_guest 101 = .ok (.iload_n 1, 1) := by decide +kernel
theorem dX10_guest_102 : decode cX10_guest 102 = .ok (.iaload, 1) := by decide +kernel
theorem dX10_guest_103 : decode cX10_guest 103 = .ok (.ireturn, 1) := by decide +kernel
theorem dX10_guest_104 : decode cX10_guest 104 = .ok (.aload_n 0, 1) := by decide +kernel
theorem dX10_guest_105 : decode cX10_guest 105 = .ok (.getfield 31, 3) := by decide +kernel
theorem dX10_guest_108 : decode cX10_guest 108 = .ok (.getfield 114, 3) := by decide +kernel
theorem dX10_guest_111 : decode cX10_guest 111 = .ok (.iload_n 3, 1) := by decide +kernel
theorem dX10_guest_112 : decode cX10_guest 112 = .ok (.iload 4, 2) := by decide +kernel
theorem dX10_guest_114 : decode cX10_guest 114 = .ok (.invokevirtual 177, 3) := by decide +kernel
theorem dX10_guest_117 : decode cX10_guest 117 = .ok (.ireturn, 1) := by decide +kernel
theorem dX10_guest_118 : decode cX10_guest 118 = .ok (.aload_n 0, 1) := by decide +kernel
theorem dX10_guest_119 : decode cX10_guest 119 = .ok (.getfield 31, 3) := by decide +kernel
theorem dX10_guest_122 : decode cX10_guest 122 = .ok (.getfield 114, 3) := by decide +kernel
theorem dX10_guest_125 : decode cX10_guest 125 = .ok (.iload_n 3, 1) := by decide +kernel
theorem dX10_guest_126 : decode cX10_guest 126 = .ok (.iload 4, 2) := by decide +kernel
theorem dX10_guest_128 : decode cX10_guest 128 = .ok (.invokevirtual 173, 3) := by decide +kernel
theorem dX10_guest_131 : decode cX10_guest 131 = .ok (.ireturn, 1) := by decide +kernel
theorem dX10_guest_132 : decode cX10_guest 132 = .ok (.aload_n 0, 1) := by decide +kernel
theorem dX10_guest_133 : decode cX10_guest 133 = .ok (.getfield 31, 3) := by decide +kernel
theorem dX10_guest_136 : decode cX10_guest 136 = .ok (.getfield 114, 3) := by decide +kernel
theorem dX10_guest_139 : decode cX10_guest 139 = .ok (.iload_n 3, 1) := by decide +kernel
theorem dX10_guest_140 : decode cX10_guest 140 = .ok (.iload 4, 2) := by decide +kernel
theorem dX10_guest_142 : decode cX10_guest 142 = .ok (.invokevirtual 180, 3) := by decide +kernel
theorem dX10_guest_145 : decode cX10_guest 145 = .ok (.ireturn, 1) := by decide +kernel
theorem dX10_guest_146 : decode cX10_guest 146 = .ok (.aload_n 0, 1) := by decide +kernel
theorem dX10_guest_147 : decode cX10_guest 147 = .ok (.getfield 31, 3) := by decide +kernel
theorem dX10_guest_150 : decode cX10_guest 150 = .ok (.getfield 114, 3) := by decide +kernel
theorem dX10_guest_153 : decode cX10_guest 153 = .ok (.iload_n 3, 1) := by decide +kernel
theorem dX10_guest_154 : decode cX10_guest 154 = .ok (.iload 4, 2) := by decide +kernel
theorem dX10_guest_156 : decode cX10_guest 156 = .ok (.invokevirtual 217, 3) := by decide +kernel
theorem dX10_guest_159 : decode cX10_guest 159 = .ok (.ireturn, 1) := by decide +kernel
theorem dX10_guest_160 : decode cX10_guest 160 = .ok (.new 201, 3) := by decide +kernel
theorem dX10_guest_163 : decode cX10_guest 163 = .ok (.dup, 1) := by decide +kernel
theorem dX10_guest_164 : decode cX10_guest 164 = .ok (.invokespecial 203, 3) := by decide +kernel
theorem dX10_guest_167 : decode cX10_guest 167 = .ok (.athrow, 1) := by decide +kernel
theorem dX10_read_0 : decode cX10_read 0 = .ok (.aload_n 0, 1) := by decide +kernel
theorem dX10_read_1 : decode cX10_read 1 = .ok (.iload_n 1, 1) := by decide +kernel
theorem dX10_read_2 : decode cX10_read 2 = .ok (.iload_n 2, 1) := by decide +kernel
theorem dX10_read_3 : decode cX10_read 3 = .ok (.invokevirtual 220, 3) := by decide +kernel
theorem dX10_read_6 : decode cX10_read 6 = .ok (.istore 4, 2) := by decide +kernel
theorem dX10_read_8 : decode cX10_read 8 = .ok (.iload_n 3, 1) := by decide +kernel
theorem dX10_read_9 : decode cX10_read 9 = .ok (.invokestatic 223, 3) := by decide +kernel
theorem dX10_read_12 : decode cX10_read 12 = .ok (.aload_n 0, 1) := by decide +kernel
theorem dX10_read_13 : decode cX10_read 13 = .ok (.getfield 31, 3) := by decide +kernel
theorem dX10_read_16 : decode cX10_read 16 = .ok (.getfield 114, 3) := by decide +kernel
theorem dX10_read_19 : decode cX10_read 19 = .ok (.iload 4, 2) := by decide +kernel
theorem dX10_read_21 : decode cX10_read 21 = .ok (.invokevirtual 226, 3) := by decide +kernel
theorem dX10_read_24 : decode cX10_read 24 = .ok (.iload_n 3, 1) := by decide +kernel
theorem dX10_read_25 : decode cX10_read 25 = .ok (.invokestatic 230, 3) := by decide +kernel
theorem dX10_read_28 : decode cX10_read 28 = .ok (.ireturn, 1) := by decide +kernel
theorem dX10_page_0 : decode cX10_page 0 = .ok (.aload_n 0, 1) := by decide +kernel
theorem dX10_page_1 : decode cX10_page 1 = .ok (.iload_n 1, 1) := by decide +kernel
theorem dX10_page_2 : decode cX10_page 2 = .ok (.iload_n 2, 1) := by decide +kernel
theorem dX10_page_3 : decode cX10_page 3 = .ok (.invokevirtual 220, 3) := by decide +kernel
theorem dX10_page_6 : decode cX10_page 6 = .ok (.istore 4, 2) := by decide +kernel
theorem dX10_page_8 : decode cX10_page 8 = .ok (.aload_n 0, 1) := by decide +kernel
theorem dX10_page_9 : decode cX10_page 9 = .ok (.getfield 31, 3) := by decide +kernel
theorem dX10_page_12 : decode cX10_page 12 = .ok (.getfield 114, 3) := by decide +kernel
theorem dX10_page_15 : decode cX10_page 15 = .ok (.astore 5, 2) := by decide +kernel
theorem dX10_page_17 : decode cX10_page 17 = .ok (.iload_n 3, 1) := by decide +kernel
theorem dX10_page_18 : decode cX10_page 18 = .ok (.tableswitch 139 0 7 #[46, 58, 74, 83, 92, 101, 110, 119], 46) := by decide +kernel
theorem dX10_page_64 : decode cX10_page 64 = .ok (.aload 5, 2) := by decide +kernel
theorem dX10_page_66 : decode cX10_page 66 = .ok (.getfield 233, 3) := by decide +kernel
theorem dX10_page_69 : decode cX10_page 69 = .ok (.getfield 237, 3) := by decide +kernel
theorem dX10_page_72 : decode cX10_page 72 = .ok (.iload 4, 2) := by decide +kernel
theorem dX10_page_74 : decode cX10_page 74 = .ok (.iaload, 1) := by decide +kernel
theorem dX10_page_75 : decode cX10_page 75 = .ok (.ireturn, 1) := by decide +kernel
theorem dX10_page_76 : decode cX10_page 76 = .ok (.aload 5, 2) := by decide +kernel
theorem dX10_page_78 : decode cX10_page 78 = .ok (.iload 4, 2) := by decide +kernel
theorem dX10_page_80 : decode cX10_page 80 = .ok (.invokevirtual 242, 3) := by decide +kernel
theorem dX10_page_83 : decode cX10_page 83 = .ok (.ifCond .eq 7, 3) := by decide +kernel
theorem dX10_page_86 : decode cX10_page 86 = .ok (.iconst 1, 1) := by decide +kernel
theorem dX10_page_87 : decode cX10_page 87 = .ok (.goto 4, 3) := by decide +kernel
theorem dX10_page_90 : decode cX10_page 90 = .ok (.iconst 0, 1) := by decide +kernel
theorem dX10_page_91 : decode cX10_page 91 = .ok (.ireturn, 1) := by decide +kernel
theorem dX10_page_92 : decode cX10_page 92 = .ok (.aload 5, 2) := by decide +kernel
theorem dX10_page_94 : decode cX10_page 94 = .ok (.getfield 246, 3) := by decide +kernel
theorem dX10_page_97 : decode cX10_page 97 = .ok (.iload 4, 2) := by decide +kernel
theorem dX10_page_99 : decode cX10_page 99 = .ok (.iaload, 1) := by decide +kernel
theorem dX10_page_100 : decode cX10_page 100 = .ok (.ireturn, 1) := by decide +kernel
theorem dX10_page_101 : decode cX10_page 101 = .ok (.aload 5, 2) := by decide +kernel
theorem dX10_page_103 : decode cX10_page 103 = .ok (.getfield 249, 3) := by decide +kernel
theorem dX10_page_106 : decode cX10_page 106 = .ok (.iload 4, 2) := by decide +kernel
theorem dX10_page_108 : decode cX10_page 108 = .ok (.iaload, 1) := by decide +kernel
theorem dX10_page_109 : decode cX10_page 109 = .ok (.ireturn, 1) := by decide +kernel
theorem dX10_page_110 : decode cX10_page 110 = .ok (.aload 5, 2) := by decide +kernel
theorem dX10_page_112 : decode cX10_page 112 = .ok (.getfield 252, 3) := by decide +kernel
theorem dX10_page_115 : decode cX10_page 115 = .ok (.iload 4, 2) := by decide +kernel
theorem dX10_page_117 : decode cX10_page 117 = .ok (.iaload, 1) := by decide +kernel
theorem dX10_page_118 : decode cX10_page 118 = .ok (.ireturn, 1) := by decide +kernel
theorem dX10_page_119 : decode cX10_page 119 = .ok (.aload 5, 2) := by decide +kernel
theorem dX10_page_121 : decode cX10_page 121 = .ok (.getfield 255, 3) := by decide +kernel
theorem dX10_page_124 : decode cX10_page 124 = .ok (.iload 4, 2) := by decide +kernel
theorem dX10_page_126 : decode cX10_page 126 = .ok (.iaload, 1) := by decide +kernel
theorem dX10_page_127 : decode cX10_page 127 = .ok (.ireturn, 1) := by decide +kernel
theorem dX10_page_128 : decode cX10_page 128 = .ok (.aload 5, 2) := by decide +kernel
theorem dX10_page_130 : decode cX10_page 130 = .ok (.getfield 258, 3) := by decide +kernel
theorem dX10_page_133 : decode cX10_page 133 = .ok (.iload 4, 2) := by decide +kernel
theorem dX10_page_135 : decode cX10_page 135 = .ok (.iaload, 1) := by decide +kernel
theorem dX10_page_136 : decode cX10_page 136 = .ok (.ireturn, 1) := by decide +kernel
theorem dX10_page_137 : decode cX10_page 137 = .ok (.aload 5, 2) := by decide +kernel
theorem dX10_page_139 : decode cX10_page 139 = .ok (.getfield 183, 3) := by decide +kernel
theorem dX10_page_142 : decode cX10_page 142 = .ok (.iload 4, 2) := by decide +kernel
theorem dX10_page_144 : decode cX10_page 144 = .ok (.invokevirtual 261, 3) := by decide +kernel
theorem dX10_page_147 : decode cX10_page 147 = .ok (.iconst (-1), 1) := by decide +kernel
theorem dX10_page_148 : decode cX10_page 148 = .ok (.if_icmp .ne 7, 3) := by decide +kernel
theorem dX10_page_151 : decode cX10_page 151 = .ok (.iconst 0, 1) := by decide +kernel
theorem dX10_page_152 : decode cX10_page 152 = .ok (.goto 4, 3) := by decide +kernel
theorem dX10_page_155 : decode cX10_page 155 = .ok (.iconst 1, 1) := by decide +kernel
theorem dX10_page_156 : decode cX10_page 156 = .ok (.ireturn, 1) := by decide +kernel
theorem dX10_page_157 : decode cX10_page 157 = .ok (.new 201, 3) := by decide +kernel
theorem dX10_page_160 : decode cX10_page 160 = .ok (.dup, 1) := by decide +kernel
theorem dX10_page_161 : decode cX10_page 161 = .ok (.invokespecial 203, 3) := by decide +kernel
theorem dX10_page_164 : decode cX10_page 164 = .ok (.athrow, 1) := by decide +kernel
theorem dX10_frame_0 : decode cX10_frame 0 = .ok (.iload_n 1, 1) := by decide +kernel
theorem dX10_frame_1 : decode cX10_frame 1 = .ok (.ifCond .lt 18, 3) := by decide +kernel
theorem dX10_frame_4 : decode cX10_frame 4 = .ok (.iload_n 1, 1) := by decide +kernel
theorem dX10_frame_5 : decode cX10_frame 5 = .ok (.aload_n 0, 1) := by decide +kernel
theorem dX10_frame_6 : decode cX10_frame 6 = .ok (.getfield 10, 3) := by decide +kernel
theorem dX10_frame_9 : decode cX10_frame 9 = .ok (.getfield 158, 3) := by decide +kernel
theorem dX10_frame_12 : decode cX10_frame 12 = .ok (.if_icmp .ge 7, 3) := by decide +kernel
theorem dX10_frame_15 : decode cX10_frame 15 = .ok (.iconst 1, 1) := by decide +kernel
theorem dX10_frame_16 : decode cX10_frame 16 = .ok (.goto 4, 3) := by decide +kernel
theorem dX10_frame_19 : decode cX10_frame 19 = .ok (.iconst 0, 1) := by decide +kernel
theorem dX10_frame_20 : decode cX10_frame 20 = .ok (.invokestatic 204, 3) := by decide +kernel
theorem dX10_frame_23 : decode cX10_frame 23 = .ok (.iload_n 2, 1) := by decide +kernel
theorem dX10_frame_24 : decode cX10_frame 24 = .ok (.iconst (-1), 1) := by decide +kernel
theorem dX10_frame_25 : decode cX10_frame 25 = .ok (.if_icmp .ne 18, 3) := by decide +kernel
theorem dX10_frame_28 : decode cX10_frame 28 = .ok (.aload_n 0, 1) := by decide +kernel
theorem dX10_frame_29 : decode cX10_frame 29 = .ok (.getfield 31, 3) := by decide +kernel
theorem dX10_frame_32 : decode cX10_frame 32 = .ok (.getfield 114, 3) := by decide +kernel
theorem dX10_frame_35 : decode cX10_frame 35 = .ok (.getfield 233, 3) := by decide +kernel
theorem dX10_frame_38 : decode cX10_frame 38 = .ok (.iload_n 1, 1) := by decide +kernel
theorem dX10_frame_39 : decode cX10_frame 39 = .ok (.invokevirtual 264, 3) := by decide +kernel
theorem dX10_frame_42 : decode cX10_frame 42 = .ok (.ireturn, 1) := by decide +kernel
theorem dX10_frame_43 : decode cX10_frame 43 = .ok (.aload_n 0, 1) := by decide +kernel
theorem dX10_frame_44 : decode cX10_frame 44 = .ok (.getfield 31, 3) := by decide +kernel
theorem dX10_frame_47 : decode cX10_frame 47 = .ok (.getfield 114, 3) := by decide +kernel
theorem dX10_frame_50 : decode cX10_frame 50 = .ok (.getfield 233, 3) := by decide +kernel
theorem dX10_frame_53 : decode cX10_frame 53 = .ok (.iload_n 1, 1) := by decide +kernel
theorem dX10_frame_54 : decode cX10_frame 54 = .ok (.iload_n 2, 1) := by decide +kernel
theorem dX10_frame_55 : decode cX10_frame 55 = .ok (.invokevirtual 267, 3) := by decide +kernel
theorem dX10_frame_58 : decode cX10_frame 58 = .ok (.istore_n 3, 1) := by decide +kernel
theorem dX10_frame_59 : decode cX10_frame 59 = .ok (.iload_n 3, 1) := by decide +kernel
theorem dX10_frame_60 : decode cX10_frame 60 = .ok (.iconst (-1), 1) := by decide +kernel
theorem dX10_frame_61 : decode cX10_frame 61 = .ok (.if_icmp .eq 7, 3) := by decide +kernel
theorem dX10_frame_64 : decode cX10_frame 64 = .ok (.iconst 1, 1) := by decide +kernel
theorem dX10_frame_65 : decode cX10_frame 65 = .ok (.goto 4, 3) := by decide +kernel
theorem dX10_frame_68 : decode cX10_frame 68 = .ok (.iconst 0, 1) := by decide +kernel
theorem dX10_frame_69 : decode cX10_frame 69 = .ok (.invokestatic 204, 3) := by decide +kernel
theorem dX10_frame_72 : decode cX10_frame 72 = .ok (.aload_n 0, 1) := by decide +kernel
theorem dX10_frame_73 : decode cX10_frame 73 = .ok (.getfield 10, 3) := by decide +kernel
theorem dX10_frame_76 : decode cX10_frame 76 = .ok (.iload_n 3, 1) := by decide +kernel
theorem dX10_frame_77 : decode cX10_frame 77 = .ok (.invokevirtual 270, 3) := by decide +kernel
theorem dX10_frame_80 : decode cX10_frame 80 = .ok (.ireturn, 1) := by decide +kernel
theorem dX10_chain_0 : decode cX10_chain 0 = .ok (.iload_n 1, 1) := by decide +kernel
theorem dX10_chain_1 : decode cX10_chain 1 = .ok (.ifCond .lt 18, 3) := by decide +kernel
theorem dX10_chain_4 : decode cX10_chain 4 = .ok (.iload_n 1, 1) := by decide +kernel
theorem dX10_chain_5 : decode cX10_chain 5 = .ok (.aload_n 0, 1) := by decide +kernel
theorem dX10_chain_6 : decode cX10_chain 6 = .ok (.getfield 10, 3) := by decide +kernel
theorem dX10_chain_9 : decode cX10_chain 9 = .ok (.getfield 158, 3) := by decide +kernel
theorem dX10_chain_12 : decode cX10_chain 12 = .ok (.if_icmp .ge 7, 3) := by decide +kernel
theorem dX10_chain_15 : decode cX10_chain 15 = .ok (.iconst 1, 1) := by decide +kernel
theorem dX10_chain_16 : decode cX10_chain 16 = .ok (.goto 4, 3) := by decide +kernel
theorem dX10_chain_19 : decode cX10_chain 19 = .ok (.iconst 0, 1) := by decide +kernel
theorem dX10_chain_20 : decode cX10_chain 20 = .ok (.invokestatic 204, 3) := by decide +kernel
theorem dX10_chain_23 : decode cX10_chain 23 = .ok (.aload_n 0, 1) := by decide +kernel
theorem dX10_chain_24 : decode cX10_chain 24 = .ok (.getfield 31, 3) := by decide +kernel
theorem dX10_chain_27 : decode cX10_chain 27 = .ok (.getfield 114, 3) := by decide +kernel
theorem dX10_chain_30 : decode cX10_chain 30 = .ok (.getfield 273, 3) := by decide +kernel
theorem dX10_chain_33 : decode cX10_chain 33 = .ok (.getfield 237, 3) := by decide +kernel
theorem dX10_chain_36 : decode cX10_chain 36 = .ok (.iload_n 1, 1) := by decide +kernel
theorem dX10_chain_37 : decode cX10_chain 37 = .ok (.iaload, 1) := by decide +kernel
theorem dX10_chain_38 : decode cX10_chain 38 = .ok (.istore_n 3, 1) := by decide +kernel
theorem dX10_chain_39 : decode cX10_chain 39 = .ok (.iload_n 3, 1) := by decide +kernel
theorem dX10_chain_40 : decode cX10_chain 40 = .ok (.iconst (-1), 1) := by decide +kernel
theorem dX10_chain_41 : decode cX10_chain 41 = .ok (.if_icmp .eq 7, 3) := by decide +kernel
theorem dX10_chain_44 : decode cX10_chain 44 = .ok (.iconst 1, 1) := by decide +kernel
theorem dX10_chain_45 : decode cX10_chain 45 = .ok (.goto 4, 3) := by decide +kernel
theorem dX10_chain_48 : decode cX10_chain 48 = .ok (.iconst 0, 1) := by decide +kernel
theorem dX10_chain_49 : decode cX10_chain 49 = .ok (.invokestatic 204, 3) := by decide +kernel
theorem dX10_chain_52 : decode cX10_chain 52 = .ok (.iload_n 2, 1) := by decide +kernel
theorem dX10_chain_53 : decode cX10_chain 53 = .ok (.iconst (-1), 1) := by decide +kernel
theorem dX10_chain_54 : decode cX10_chain 54 = .ok (.if_icmp .ne 18, 3) := by decide +kernel
theorem dX10_chain_57 : decode cX10_chain 57 = .ok (.aload_n 0, 1) := by decide +kernel
theorem dX10_chain_58 : decode cX10_chain 58 = .ok (.getfield 31, 3) := by decide +kernel
theorem dX10_chain_61 : decode cX10_chain 61 = .ok (.getfield 114, 3) := by decide +kernel
theorem dX10_chain_64 : decode cX10_chain 64 = .ok (.getfield 273, 3) := by decide +kernel
theorem dX10_chain_67 : decode cX10_chain 67 = .ok (.iload_n 3, 1) := by decide +kernel
theorem dX10_chain_68 : decode cX10_chain 68 = .ok (.invokevirtual 264, 3) := by decide +kernel
theorem dX10_chain_71 : decode cX10_chain 71 = .ok (.ireturn, 1) := by decide +kernel
theorem dX10_chain_72 : decode cX10_chain 72 = .ok (.aload_n 0, 1) := by decide +kernel
theorem dX10_chain_73 : decode cX10_chain 73 = .ok (.getfield 31, 3) := by decide +kernel
theorem dX10_chain_76 : decode cX10_chain 76 = .ok (.getfield 114, 3) := by decide +kernel
theorem dX10_chain_79 : decode cX10_chain 79 = .ok (.getfield 273, 3) := by decide +kernel
theorem dX10_chain_82 : decode cX10_chain 82 = .ok (.iload_n 3, 1) := by decide +kernel
theorem dX10_chain_83 : decode cX10_chain 83 = .ok (.iload_n 2, 1) := by decide +kernel
theorem dX10_chain_84 : decode cX10_chain 84 = .ok (.invokevirtual 267, 3) := by decide +kernel
theorem dX10_chain_87 : decode cX10_chain 87 = .ok (.istore 4, 2) := by decide +kernel
theorem dX10_chain_89 : decode cX10_chain 89 = .ok (.iload 4, 2) := by decide +kernel
theorem dX10_chain_91 : decode cX10_chain 91 = .ok (.iconst (-1), 1) := by decide +kernel
theorem dX10_chain_92 : decode cX10_chain 92 = .ok (.if_icmp .eq 7, 3) := by decide +kernel
theorem dX10_chain_95 : decode cX10_chain 95 = .ok (.iconst 1, 1) := by decide +kernel
theorem dX10_chain_96 : decode cX10_chain 96 = .ok (.goto 4, 3) := by decide +kernel
theorem dX10_chain_99 : decode cX10_chain 99 = .ok (.iconst 0, 1) := by decide +kernel
theorem dX10_chain_100 : decode cX10_chain 100 = .ok (.invokestatic 204, 3) := by decide +kernel
theorem dX10_chain_103 : decode cX10_chain 103 = .ok (.iload 4, 2) := by decide +kernel
theorem dX10_chain_105 : decode cX10_chain 105 = .ok (.ireturn, 1) := by decide +kernel
theorem dX10_knot_0 : decode cX10_knot 0 = .ok (.iload_n 1, 1) := by decide +kernel
theorem dX10_knot_1 : decode cX10_knot 1 = .ok (.ifCond .lt 12, 3) := by decide +kernel
theorem dX10_knot_4 : decode cX10_knot 4 = .ok (.iload_n 1, 1) := by decide +kernel
theorem dX10_knot_5 : decode cX10_knot 5 = .ok (.iconst 3, 1) := by decide +kernel
theorem dX10_knot_6 : decode cX10_knot 6 = .ok (.if_icmp .ge 7, 3) := by decide +kernel
theorem dX10_knot_9 : decode cX10_knot 9 = .ok (.iconst 1, 1) := by decide +kernel
theorem dX10_knot_10 : decode cX10_knot 10 = .ok (.goto 4, 3) := by decide +kernel
theorem dX10_knot_13 : decode cX10_knot 13 = .ok (.iconst 0, 1) := by decide +kernel
theorem dX10_knot_14 : decode cX10_knot 14 = .ok (.invokestatic 204, 3) := by decide +kernel
theorem dX10_knot_17 : decode cX10_knot 17 = .ok (.iload_n 2, 1) := by decide +kernel
theorem dX10_knot_18 : decode cX10_knot 18 = .ok (.ifCond .eq 16, 3) := by decide +kernel
theorem dX10_knot_21 : decode cX10_knot 21 = .ok (.aload_n 0, 1) := by decide +kernel
theorem dX10_knot_22 : decode cX10_knot 22 = .ok (.getfield 31, 3) := by decide +kernel
theorem dX10_knot_25 : decode cX10_knot 25 = .ok (.getfield 114, 3) := by decide +kernel
theorem dX10_knot_28 : decode cX10_knot 28 = .ok (.getfield 192, 3) := by decide +kernel
theorem dX10_knot_31 : decode cX10_knot 31 = .ok (.goto 13, 3) := by decide +kernel
theorem dX10_knot_34 : decode cX10_knot 34 = .ok (.aload_n 0, 1) := by decide +kernel
theorem dX10_knot_35 : decode cX10_knot 35 = .ok (.getfield 31, 3) := by decide +kernel
theorem dX10_knot_38 : decode cX10_knot 38 = .ok (.getfield 114, 3) := by decide +kernel
theorem dX10_knot_41 : decode cX10_knot 41 = .ok (.getfield 183, 3) := by decide +kernel
theorem dX10_knot_44 : decode cX10_knot 44 = .ok (.astore 5, 2) := by decide +kernel
theorem dX10_knot_46 : decode cX10_knot 46 = .ok (.iload_n 3, 1) := by decide +kernel
theorem dX10_knot_47 : decode cX10_knot 47 = .ok (.iconst (-1), 1) := by decide +kernel
theorem dX10_knot_48 : decode cX10_knot 48 = .ok (.if_icmp .ne 10, 3) := by decide +kernel
theorem dX10_knot_51 : decode cX10_knot 51 = .ok (.aload 5, 2) := by decide +kernel
theorem dX10_knot_53 : decode cX10_knot 53 = .ok (.iload_n 1, 1) := by decide +kernel
theorem dX10_knot_54 : decode cX10_knot 54 = .ok (.invokevirtual 276, 3) := by decide +kernel
theorem dX10_knot_57 : decode cX10_knot 57 = .ok (.ireturn, 1) := by decide +kernel
theorem dX10_knot_58 : decode cX10_knot 58 = .ok (.aload 5, 2) := by decide +kernel
theorem dX10_knot_60 : decode cX10_knot 60 = .ok (.iload_n 1, 1) := by decide +kernel
theorem dX10_knot_61 : decode cX10_knot 61 = .ok (.iload_n 3, 1) := by decide +kernel
theorem dX10_knot_62 : decode cX10_knot 62 = .ok (.invokevirtual 277, 3) := by decide +kernel
theorem dX10_knot_65 : decode cX10_knot 65 = .ok (.istore 6, 2) := by decide +kernel
theorem dX10_knot_67 : decode cX10_knot 67 = .ok (.iload 6, 2) := by decide +kernel
theorem dX10_knot_69 : decode cX10_knot 69 = .ok (.iconst (-1), 1) := by decide +kernel
theorem dX10_knot_70 : decode cX10_knot 70 = .ok (.if_icmp .eq 18, 3) := by decide +kernel
theorem dX10_knot_73 : decode cX10_knot 73 = .ok (.iload 4, 2) := by decide +kernel
theorem dX10_knot_75 : decode cX10_knot 75 = .ok (.ifCond .eq 9, 3) := by decide +kernel
theorem dX10_knot_78 : decode cX10_knot 78 = .ok (.iload 4, 2) := by decide +kernel
theorem dX10_knot_80 : decode cX10_knot 80 = .ok (.iconst 1, 1) := by decide +kernel
theorem dX10_knot_81 : decode cX10_knot 81 = .ok (.if_icmp .ne 7, 3) := by decide +kernel
theorem dX10_knot_84 : decode cX10_knot 84 = .ok (.iconst 1, 1) := by decide +kernel
theorem dX10_knot_85 : decode cX10_knot 85 = .ok (.goto 4, 3) := by decide +kernel
theorem dX10_knot_88 : decode cX10_knot 88 = .ok (.iconst 0, 1) := by decide +kernel
theorem dX10_knot_89 : decode cX10_knot 89 = .ok (.invokestatic 204, 3) := by decide +kernel
theorem dX10_knot_92 : decode cX10_knot 92 = .ok (.iload 4, 2) := by decide +kernel
theorem dX10_knot_94 : decode cX10_knot 94 = .ok (.iconst 1, 1) := by decide +kernel
theorem dX10_knot_95 : decode cX10_knot 95 = .ok (.if_icmp .ne 11, 3) := by decide +kernel
theorem dX10_knot_98 : decode cX10_knot 98 = .ok (.aload 5, 2) := by decide +kernel
theorem dX10_knot_100 : decode cX10_knot 100 = .ok (.iload 6, 2) := by decide +kernel
theorem dX10_knot_102 : decode cX10_knot 102 = .ok (.invokevirtual 278, 3) := by decide +kernel
theorem dX10_knot_105 : decode cX10_knot 105 = .ok (.ireturn, 1) := by decide +kernel
theorem dX10_knot_106 : decode cX10_knot 106 = .ok (.iload_n 2, 1) := by decide +kernel
theorem dX10_knot_107 : decode cX10_knot 107 = .ok (.ifCond .eq 22, 3) := by decide +kernel
theorem dX10_knot_110 : decode cX10_knot 110 = .ok (.aload_n 0, 1) := by decide +kernel
theorem dX10_knot_111 : decode cX10_knot 111 = .ok (.getfield 31, 3) := by decide +kernel
theorem dX10_knot_114 : decode cX10_knot 114 = .ok (.getfield 114, 3) := by decide +kernel
theorem dX10_knot_117 : decode cX10_knot 117 = .ok (.getfield 273, 3) := by decide +kernel
theorem dX10_knot_120 : decode cX10_knot 120 = .ok (.getfield 281, 3) := by decide +kernel
theorem dX10_knot_123 : decode cX10_knot 123 = .ok (.iload 6, 2) := by decide +kernel
theorem dX10_knot_125 : decode cX10_knot 125 = .ok (.iaload, 1) := by decide +kernel
theorem dX10_knot_126 : decode cX10_knot 126 = .ok (.goto 12, 3) := by decide +kernel
theorem dX10_knot_129 : decode cX10_knot 129 = .ok (.aload_n 0, 1) := by decide +kernel
theorem dX10_knot_130 : decode cX10_knot 130 = .ok (.getfield 10, 3) := by decide +kernel
theorem dX10_knot_133 : decode cX10_knot 133 = .ok (.iload 6, 2) := by decide +kernel
theorem dX10_knot_135 : decode cX10_knot 135 = .ok (.invokevirtual 270, 3) := by decide +kernel
theorem dX10_knot_138 : decode cX10_knot 138 = .ok (.ireturn, 1) := by decide +kernel
theorem dX10_like_0 : decode cX10_like 0 = .ok (.aload_n 0, 1) := by decide +kernel
theorem dX10_like_1 : decode cX10_like 1 = .ok (.iload_n 1, 1) := by decide +kernel
theorem dX10_like_2 : decode cX10_like 2 = .ok (.iload_n 2, 1) := by decide +kernel
theorem dX10_like_3 : decode cX10_like 3 = .ok (.invokevirtual 220, 3) := by decide +kernel
theorem dX10_like_6 : decode cX10_like 6 = .ok (.istore 4, 2) := by decide +kernel
theorem dX10_like_8 : decode cX10_like 8 = .ok (.aload_n 0, 1) := by decide +kernel
theorem dX10_like_9 : decode cX10_like 9 = .ok (.getfield 31, 3) := by decide +kernel
theorem dX10_like_12 : decode cX10_like 12 = .ok (.getfield 114, 3) := by decide +kernel
theorem dX10_like_15 : decode cX10_like 15 = .ok (.iload 4, 2) := by decide +kernel
theorem dX10_like_17 : decode cX10_like 17 = .ok (.invokevirtual 226, 3) := by decide +kernel
theorem dX10_like_20 : decode cX10_like 20 = .ok (.istore 5, 2) := by decide +kernel
theorem dX10_like_22 : decode cX10_like 22 = .ok (.iconst 0, 1) := by decide +kernel
theorem dX10_like_23 : decode cX10_like 23 = .ok (.istore 6, 2) := by decide +kernel
theorem dX10_like_25 : decode cX10_like 25 = .ok (.iconst 0, 1) := by decide +kernel
theorem dX10_like_26 : decode cX10_like 26 = .ok (.istore 7, 2) := by decide +kernel
theorem dX10_like_28 : decode cX10_like 28 = .ok (.iload 7, 2) := by decide +kernel
theorem dX10_like_30 : decode cX10_like 30 = .ok (.aload_n 0, 1) := by decide +kernel
theorem dX10_like_31 : decode cX10_like 31 = .ok (.getfield 10, 3) := by decide +kernel
theorem dX10_like_34 : decode cX10_like 34 = .ok (.getfield 170, 3) := by decide +kernel
theorem dX10_like_37 : decode cX10_like 37 = .ok (.if_icmp .ge 55, 3) := by decide +kernel
theorem dX10_like_40 : decode cX10_like 40 = .ok (.iload 7, 2) := by decide +kernel
theorem dX10_like_42 : decode cX10_like 42 = .ok (.iload 4, 2) := by decide +kernel
theorem dX10_like_44 : decode cX10_like 44 = .ok (.if_icmp .eq 42, 3) := by decide +kernel
theorem dX10_like_47 : decode cX10_like 47 = .ok (.aload_n 0, 1) := by decide +kernel
theorem dX10_like_48 : decode cX10_like 48 = .ok (.getfield 31, 3) := by decide +kernel
theorem dX10_like_51 : decode cX10_like 51 = .ok (.getfield 114, 3) := by decide +kernel
theorem dX10_like_54 : decode cX10_like 54 = .ok (.iload 7, 2) := by decide +kernel
theorem dX10_like_56 : decode cX10_like 56 = .ok (.invokevirtual 226, 3) := by decide +kernel
theorem dX10_like_59 : decode cX10_like 59 = .ok (.iload 5, 2) := by decide +kernel
theorem dX10_like_61 : decode cX10_like 61 = .ok (.if_icmp .eq 6, 3) := by decide +kernel
theorem dX10_like_64 : decode cX10_like 64 = .ok (.goto 22, 3) := by decide +kernel
theorem dX10_like_67 : decode cX10_like 67 = .ok (.iload 6, 2) := by decide +kernel
theorem dX10_like_69 : decode cX10_like 69 = .ok (.iload_n 3, 1) := by decide +kernel
theorem dX10_like_70 : decode cX10_like 70 = .ok (.if_icmp .ne 13, 3) := by decide +kernel
theorem dX10_like_73 : decode cX10_like 73 = .ok (.aload_n 0, 1) := by decide +kernel
theorem dX10_like_74 : decode cX10_like 74 = .ok (.getfield 10, 3) := by decide +kernel
theorem dX10_like_77 : decode cX10_like 77 = .ok (.iload 7, 2) := by decide +kernel
theorem dX10_like_79 : decode cX10_like 79 = .ok (.invokevirtual 270, 3) := by decide +kernel
theorem dX10_like_82 : decode cX10_like 82 = .ok (.ireturn, 1) := by decide +kernel
theorem dX10_like_83 : decode cX10_like 83 = .ok (.iinc 6 1, 3) := by decide +kernel
theorem dX10_like_86 : decode cX10_like 86 = .ok (.iinc 7 1, 3) := by decide +kernel
theorem dX10_like_89 : decode cX10_like 89 = .ok (.goto (-61), 3) := by decide +kernel
theorem dX10_like_92 : decode cX10_like 92 = .ok (.iload_n 3, 1) := by decide +kernel
theorem dX10_like_93 : decode cX10_like 93 = .ok (.iconst (-1), 1) := by decide +kernel
theorem dX10_like_94 : decode cX10_like 94 = .ok (.if_icmp .ne 7, 3) := by decide +kernel
theorem dX10_like_97 : decode cX10_like 97 = .ok (.iconst 1, 1) := by decide +kernel
theorem dX10_like_98 : decode cX10_like 98 = .ok (.goto 4, 3) := by decide +kernel
theorem dX10_like_101 : decode cX10_like 101 = .ok (.iconst 0, 1) := by decide +kernel
theorem dX10_like_102 : decode cX10_like 102 = .ok (.invokestatic 204, 3) := by decide +kernel
theorem dX10_like_105 : decode cX10_like 105 = .ok (.iload 6, 2) := by decide +kernel
theorem dX10_like_107 : decode cX10_like 107 = .ok (.ireturn, 1) := by decide +kernel
theorem dX10_write_0 : decode cX10_write 0 = .ok (.aload_n 0, 1) := by decide +kernel
theorem dX10_write_1 : decode cX10_write 1 = .ok (.iload_n 1, 1) := by decide +kernel
theorem dX10_write_2 : decode cX10_write 2 = .ok (.iload_n 2, 1) := by decide +kernel
theorem dX10_write_3 : decode cX10_write 3 = .ok (.invokevirtual 220, 3) := by decide +kernel
theorem dX10_write_6 : decode cX10_write 6 = .ok (.istore 5, 2) := by decide +kernel
theorem dX10_write_8 : decode cX10_write 8 = .ok (.iload_n 3, 1) := by decide +kernel
theorem dX10_write_9 : decode cX10_write 9 = .ok (.invokestatic 223, 3) := by decide +kernel
theorem dX10_write_12 : decode cX10_write 12 = .ok (.iload 4, 2) := by decide +kernel
theorem dX10_write_14 : decode cX10_write 14 = .ok (.ifCond .lt 10, 3) := by decide +kernel
theorem dX10_write_17 : decode cX10_write 17 = .ok (.iload 4, 2) := by decide +kernel
theorem dX10_write_19 : decode cX10_write 19 = .ok (.bipush 15, 2) := by decide +kernel
theorem dX10_write_21 : decode cX10_write 21 = .ok (.if_icmp .le 8, 3) := by decide +kernel
theorem dX10_write_24 : decode cX10_write 24 = .ok (.aload_n 0, 1) := by decide +kernel
theorem dX10_write_25 : decode cX10_write 25 = .ok (.invokevirtual 282, 3) := by decide +kernel
theorem dX10_write_28 : decode cX10_write 28 = .ok (.ireturn, 1) := by decide +kernel
theorem dX10_write_29 : decode cX10_write 29 = .ok (.aload_n 0, 1) := by decide +kernel
theorem dX10_write_30 : decode cX10_write 30 = .ok (.getfield 31, 3) := by decide +kernel
theorem dX10_write_33 : decode cX10_write 33 = .ok (.getfield 120, 3) := by decide +kernel
theorem dX10_write_36 : decode cX10_write 36 = .ok (.aload_n 0, 1) := by decide +kernel
theorem dX10_write_37 : decode cX10_write 37 = .ok (.getfield 31, 3) := by decide +kernel
theorem dX10_write_40 : decode cX10_write 40 = .ok (.getfield 114, 3) := by decide +kernel
theorem dX10_write_43 : decode cX10_write 43 = .ok (.invokevirtual 136, 3) := by decide +kernel
theorem dX10_write_46 : decode cX10_write 46 = .ok (.aload_n 0, 1) := by decide +kernel
theorem dX10_write_47 : decode cX10_write 47 = .ok (.aload_n 0, 1) := by decide +kernel
theorem dX10_write_48 : decode cX10_write 48 = .ok (.getfield 31, 3) := by decide +kernel
theorem dX10_write_51 : decode cX10_write 51 = .ok (.getfield 114, 3) := by decide +kernel
theorem dX10_write_54 : decode cX10_write 54 = .ok (.iload 5, 2) := by decide +kernel
theorem dX10_write_56 : decode cX10_write 56 = .ok (.iload_n 3, 1) := by decide +kernel
theorem dX10_write_57 : decode cX10_write 57 = .ok (.iload 4, 2) := by decide +kernel
theorem dX10_write_59 : decode cX10_write 59 = .ok (.invokevirtual 285, 3) := by decide +kernel
theorem dX10_write_62 : decode cX10_write 62 = .ok (.invokevirtual 289, 3) := by decide +kernel
theorem dX10_write_65 : decode cX10_write 65 = .ok (.ireturn, 1) := by decide +kernel
theorem dX10_copy_0 : decode cX10_copy 0 = .ok (.aload_n 0, 1) := by decide +kernel
theorem dX10_copy_1 : decode cX10_copy 1 = .ok (.iload_n 1, 1) := by decide +kernel
theorem dX10_copy_2 : decode cX10_copy 2 = .ok (.iload_n 2, 1) := by decide +kernel
theorem dX10_copy_3 : decode cX10_copy 3 = .ok (.invokevirtual 220, 3) := by decide +kernel
theorem dX10_copy_6 : decode cX10_copy 6 = .ok (.istore 5, 2) := by decide +kernel
theorem dX10_copy_8 : decode cX10_copy 8 = .ok (.aload_n 0, 1) := by decide +kernel
theorem dX10_copy_9 : decode cX10_copy 9 = .ok (.iload_n 3, 1) := by decide +kernel
theorem dX10_copy_10 : decode cX10_copy 10 = .ok (.iload 4, 2) := by decide +kernel
theorem dX10_copy_12 : decode cX10_copy 12 = .ok (.invokevirtual 220, 3) := by decide +kernel
theorem dX10_copy_15 : decode cX10_copy 15 = .ok (.istore 6, 2) := by decide +kernel
theorem dX10_copy_17 : decode cX10_copy 17 = .ok (.aload_n 0, 1) := by decide +kernel
theorem dX10_copy_18 : decode cX10_copy 18 = .ok (.getfield 31, 3) := by decide +kernel
theorem dX10_copy_21 : decode cX10_copy 21 = .ok (.getfield 120, 3) := by decide +kernel
theorem dX10_copy_24 : decode cX10_copy 24 = .ok (.aload_n 0, 1) := by decide +kernel
theorem dX10_copy_25 : decode cX10_copy 25 = .ok (.getfield 31, 3) := by decide +kernel
theorem dX10_copy_28 : decode cX10_copy 28 = .ok (.getfield 114, 3) := by decide +kernel
theorem dX10_copy_31 : decode cX10_copy 31 = .ok (.invokevirtual 136, 3) := by decide +kernel
theorem dX10_copy_34 : decode cX10_copy 34 = .ok (.aload_n 0, 1) := by decide +kernel
theorem dX10_copy_35 : decode cX10_copy 35 = .ok (.aload_n 0, 1) := by decide +kernel
theorem dX10_copy_36 : decode cX10_copy 36 = .ok (.getfield 31, 3) := by decide +kernel
theorem dX10_copy_39 : decode cX10_copy 39 = .ok (.getfield 114, 3) := by decide +kernel
theorem dX10_copy_42 : decode cX10_copy 42 = .ok (.iload 5, 2) := by decide +kernel
theorem dX10_copy_44 : decode cX10_copy 44 = .ok (.aload_n 0, 1) := by decide +kernel
theorem dX10_copy_45 : decode cX10_copy 45 = .ok (.getfield 31, 3) := by decide +kernel
theorem dX10_copy_48 : decode cX10_copy 48 = .ok (.getfield 114, 3) := by decide +kernel
theorem dX10_copy_51 : decode cX10_copy 51 = .ok (.iload 6, 2) := by decide +kernel
theorem dX10_copy_53 : decode cX10_copy 53 = .ok (.invokevirtual 226, 3) := by decide +kernel
theorem dX10_copy_56 : decode cX10_copy 56 = .ok (.invokevirtual 292, 3) := by decide +kernel
theorem dX10_copy_59 : decode cX10_copy 59 = .ok (.invokevirtual 289, 3) := by decide +kernel
theorem dX10_copy_62 : decode cX10_copy 62 = .ok (.ireturn, 1) := by decide +kernel
theorem dX10_drop_0 : decode cX10_drop 0 = .ok (.aload_n 0, 1) := by decide +kernel
theorem dX10_drop_1 : decode cX10_drop 1 = .ok (.iload_n 1, 1) := by decide +kernel
theorem dX10_drop_2 : decode cX10_drop 2 = .ok (.iload_n 2, 1) := by decide +kernel
theorem dX10_drop_3 : decode cX10_drop 3 = .ok (.invokevirtual 220, 3) := by decide +kernel
theorem dX10_drop_6 : decode cX10_drop 6 = .ok (.istore_n 3, 1) := by decide +kernel
theorem dX10_drop_7 : decode cX10_drop 7 = .ok (.aload_n 0, 1) := by decide +kernel
theorem dX10_drop_8 : decode cX10_drop 8 = .ok (.getfield 31, 3) := by decide +kernel
theorem dX10_drop_11 : decode cX10_drop 11 = .ok (.getfield 120, 3) := by decide +kernel
theorem dX10_drop_14 : decode cX10_drop 14 = .ok (.aload_n 0, 1) := by decide +kernel
theorem dX10_drop_15 : decode cX10_drop 15 = .ok (.getfield 31, 3) := by decide +kernel
theorem dX10_drop_18 : decode cX10_drop 18 = .ok (.getfield 114, 3) := by decide +kernel
theorem dX10_drop_21 : decode cX10_drop 21 = .ok (.invokevirtual 136, 3) := by decide +kernel
theorem dX10_drop_24 : decode cX10_drop 24 = .ok (.aload_n 0, 1) := by decide +kernel
theorem dX10_drop_25 : decode cX10_drop 25 = .ok (.aload_n 0, 1) := by decide +kernel
theorem dX10_drop_26 : decode cX10_drop 26 = .ok (.getfield 31, 3) := by decide +kernel
theorem dX10_drop_29 : decode cX10_drop 29 = .ok (.getfield 114, 3) := by decide +kernel
theorem dX10_drop_32 : decode cX10_drop 32 = .ok (.iload_n 3, 1) := by decide +kernel
theorem dX10_drop_33 : decode cX10_drop 33 = .ok (.invokevirtual 295, 3) := by decide +kernel
theorem dX10_drop_36 : decode cX10_drop 36 = .ok (.invokevirtual 289, 3) := by decide +kernel
theorem dX10_drop_39 : decode cX10_drop 39 = .ok (.ireturn, 1) := by decide +kernel
theorem dX10_advise_0 : decode cX10_advise 0 = .ok (.aload_n 0, 1) := by decide +kernel
theorem dX10_advise_1 : decode cX10_advise 1 = .ok (.iload_n 1, 1) := by decide +kernel
theorem dX10_advise_2 : decode cX10_advise 2 = .ok (.iload_n 2, 1) := by decide +kernel
theorem dX10_advise_3 : decode cX10_advise 3 = .ok (.invokevirtual 220, 3) := by decide +kernel
theorem dX10_advise_6 : decode cX10_advise 6 = .ok (.istore 5, 2) := by decide +kernel
theorem dX10_advise_8 : decode cX10_advise 8 = .ok (.aload_n 0, 1) := by decide +kernel
theorem dX10_advise_9 : decode cX10_advise 9 = .ok (.iload_n 1, 1) := by decide +kernel
theorem dX10_advise_10 : decode cX10_advise 10 = .ok (.iload_n 3, 1) := by decide +kernel
theorem dX10_advise_11 : decode cX10_advise 11 = .ok (.invokevirtual 220, 3) := by decide +kernel
theorem dX10_advise_14 : decode cX10_advise 14 = .ok (.istore 6, 2) := by decide +kernel
theorem dX10_advise_16 : decode cX10_advise 16 = .ok (.aload_n 0, 1) := by decide +kernel
theorem dX10_advise_17 : decode cX10_advise 17 = .ok (.getfield 31, 3) := by decide +kernel
theorem dX10_advise_20 : decode cX10_advise 20 = .ok (.getfield 120, 3) := by decide +kernel
theorem dX10_advise_23 : decode cX10_advise 23 = .ok (.aload_n 0, 1) := by decide +kernel
theorem dX10_advise_24 : decode cX10_advise 24 = .ok (.getfield 31, 3) := by decide +kernel
theorem dX10_advise_27 : decode cX10_advise 27 = .ok (.getfield 114, 3) := by decide +kernel
theorem dX10_advise_30 : decode cX10_advise 30 = .ok (.invokevirtual 136, 3) := by decide +kernel
theorem dX10_advise_33 : decode cX10_advise 33 = .ok (.iload 4, 2) := by decide +kernel
theorem dX10_advise_35 : decode cX10_advise 35 = .ok (.ifCond .eq 20, 3) := by decide +kernel
theorem dX10_advise_38 : decode cX10_advise 38 = .ok (.aload_n 0, 1) := by decide +kernel
theorem dX10_advise_39 : decode cX10_advise 39 = .ok (.getfield 31, 3) := by decide +kernel
theorem dX10_advise_42 : decode cX10_advise 42 = .ok (.getfield 114, 3) := by decide +kernel
theorem dX10_advise_45 : decode cX10_advise 45 = .ok (.iload 5, 2) := by decide +kernel
theorem dX10_advise_47 : decode cX10_advise 47 = .ok (.iload 6, 2) := by decide +kernel
theorem dX10_advise_49 : decode cX10_advise 49 = .ok (.invokevirtual 298, 3) := by decide +kernel
theorem dX10_advise_52 : decode cX10_advise 52 = .ok (.goto 17, 3) := by decide +kernel
theorem dX10_advise_55 : decode cX10_advise 55 = .ok (.aload_n 0, 1) := by decide +kernel
theorem dX10_advise_56 : decode cX10_advise 56 = .ok (.getfield 31, 3) := by decide +kernel
theorem dX10_advise_59 : decode cX10_advise 59 = .ok (.getfield 114, 3) := by decide +kernel
theorem dX10_advise_62 : decode cX10_advise 62 = .ok (.iload 5, 2) := by decide +kernel
theorem dX10_advise_64 : decode cX10_advise 64 = .ok (.iload 6, 2) := by decide +kernel
theorem dX10_advise_66 : decode cX10_advise 66 = .ok (.invokevirtual 301, 3) := by decide +kernel
theorem dX10_advise_69 : decode cX10_advise 69 = .ok (.istore 7, 2) := by decide +kernel
theorem dX10_advise_71 : decode cX10_advise 71 = .ok (.aload_n 0, 1) := by decide +kernel
theorem dX10_advise_72 : decode cX10_advise 72 = .ok (.iload 7, 2) := by decide +kernel
theorem dX10_advise_74 : decode cX10_advise 74 = .ok (.ifCond .ne 7, 3) := by decide +kernel
theorem dX10_advise_77 : decode cX10_advise 77 = .ok (.iconst (-1), 1) := by decide +kernel
theorem dX10_advise_78 : decode cX10_advise 78 = .ok (.goto 5, 3) := by decide +kernel
theorem dX10_advise_81 : decode cX10_advise 81 = .ok (.iload 7, 2) := by decide +kernel
theorem dX10_advise_83 : decode cX10_advise 83 = .ok (.invokevirtual 289, 3) := by decide +kernel
theorem dX10_advise_86 : decode cX10_advise 86 = .ok (.ireturn, 1) := by decide +kernel
theorem dX10_scan_0 : decode cX10_scan 0 = .ok (.iload_n 1, 1) := by decide +kernel
theorem dX10_scan_1 : decode cX10_scan 1 = .ok (.iconst 1, 1) := by decide +kernel
theorem dX10_scan_2 : decode cX10_scan 2 = .ok (.if_icmp .lt 9, 3) := by decide +kernel
theorem dX10_scan_5 : decode cX10_scan 5 = .ok (.iload_n 1, 1) := by decide +kernel
theorem dX10_scan_6 : decode cX10_scan 6 = .ok (.bipush 100, 2) := by decide +kernel
theorem dX10_scan_8 : decode cX10_scan 8 = .ok (.if_icmp .le 8, 3) := by decide +kernel
theorem dX10_scan_11 : decode cX10_scan 11 = .ok (.aload_n 0, 1) := by decide +kernel
theorem dX10_scan_12 : decode cX10_scan 12 = .ok (.invokevirtual 282, 3) := by decide +kernel
theorem dX10_scan_15 : decode cX10_scan 15 = .ok (.ireturn, 1) := by decide +kernel
theorem dX10_scan_16 : decode cX10_scan 16 = .ok (.aload_n 0, 1) := by decide +kernel
theorem dX10_scan_17 : decode cX10_scan 17 = .ok (.getfield 31, 3) := by decide +kernel
theorem dX10_scan_20 : decode cX10_scan 20 = .ok (.getfield 120, 3) := by decide +kernel
theorem dX10_scan_23 : decode cX10_scan 23 = .ok (.aload_n 0, 1) := by decide +kernel
theorem dX10_scan_24 : decode cX10_scan 24 = .ok (.getfield 31, 3) := by decide +kernel
theorem dX10_scan_27 : decode cX10_scan 27 = .ok (.getfield 114, 3) := by decide +kernel
theorem dX10_scan_30 : decode cX10_scan 30 = .ok (.invokevirtual 136, 3) := by decide +kernel
theorem dX10_scan_33 : decode cX10_scan 33 = .ok (.aload_n 0, 1) := by decide +kernel
theorem dX10_scan_34 : decode cX10_scan 34 = .ok (.aload_n 0, 1) := by decide +kernel
theorem dX10_scan_35 : decode cX10_scan 35 = .ok (.getfield 31, 3) := by decide +kernel
theorem dX10_scan_38 : decode cX10_scan 38 = .ok (.getfield 114, 3) := by decide +kernel
theorem dX10_scan_41 : decode cX10_scan 41 = .ok (.iload_n 1, 1) := by decide +kernel
theorem dX10_scan_42 : decode cX10_scan 42 = .ok (.invokevirtual 304, 3) := by decide +kernel
theorem dX10_scan_45 : decode cX10_scan 45 = .ok (.invokevirtual 289, 3) := by decide +kernel
theorem dX10_scan_48 : decode cX10_scan 48 = .ok (.ireturn, 1) := by decide +kernel
theorem dX10_ticks_0 : decode cX10_ticks 0 = .ok (.iload_n 1, 1) := by decide +kernel
theorem dX10_ticks_1 : decode cX10_ticks 1 = .ok (.iconst 1, 1) := by decide +kernel
theorem dX10_ticks_2 : decode cX10_ticks 2 = .ok (.if_icmp .lt 23, 3) := by decide +kernel
theorem dX10_ticks_5 : decode cX10_ticks 5 = .ok (.iload_n 1, 1) := by decide +kernel
theorem dX10_ticks_6 : decode cX10_ticks 6 = .ok (.bipush 20, 2) := by decide +kernel
theorem dX10_ticks_8 : decode cX10_ticks 8 = .ok (.if_icmp .gt 17, 3) := by decide +kernel
theorem dX10_ticks_11 : decode cX10_ticks 11 = .ok (.aload_n 0, 1) := by decide +kernel
theorem dX10_ticks_12 : decode cX10_ticks 12 = .ok (.getfield 31, 3) := by decide +kernel
theorem dX10_ticks_15 : decode cX10_ticks 15 = .ok (.getfield 114, 3) := by decide +kernel
theorem dX10_ticks_18 : decode cX10_ticks 18 = .ok (.iload_n 1, 1) := by decide +kernel
theorem dX10_ticks_19 : decode cX10_ticks 19 = .ok (.invokevirtual 307, 3) := by decide +kernel
theorem dX10_ticks_22 : decode cX10_ticks 22 = .ok (.ifCond .ne 8, 3) := by decide +kernel
theorem dX10_ticks_25 : decode cX10_ticks 25 = .ok (.aload_n 0, 1) := by decide +kernel
theorem dX10_ticks_26 : decode cX10_ticks 26 = .ok (.invokevirtual 282, 3) := by decide +kernel
theorem dX10_ticks_29 : decode cX10_ticks 29 = .ok (.ireturn, 1) := by decide +kernel
theorem dX10_ticks_30 : decode cX10_ticks 30 = .ok (.aload_n 0, 1) := by decide +kernel
theorem dX10_ticks_31 : decode cX10_ticks 31 = .ok (.getfield 31, 3) := by decide +kernel
theorem dX10_ticks_34 : decode cX10_ticks 34 = .ok (.getfield 120, 3) := by decide +kernel
theorem dX10_ticks_37 : decode cX10_ticks 37 = .ok (.aload_n 0, 1) := by decide +kernel
theorem dX10_ticks_38 : decode cX10_ticks 38 = .ok (.getfield 31, 3) := by decide +kernel
theorem dX10_ticks_41 : decode cX10_ticks 41 = .ok (.getfield 114, 3) := by decide +kernel
theorem dX10_ticks_44 : decode cX10_ticks 44 = .ok (.invokevirtual 136, 3) := by decide +kernel
theorem dX10_ticks_47 : decode cX10_ticks 47 = .ok (.aload_n 0, 1) := by decide +kernel
theorem dX10_ticks_48 : decode cX10_ticks 48 = .ok (.getfield 31, 3) := by decide +kernel
theorem dX10_ticks_51 : decode cX10_ticks 51 = .ok (.getfield 114, 3) := by decide +kernel
theorem dX10_ticks_54 : decode cX10_ticks 54 = .ok (.iload_n 1, 1) := by decide +kernel
theorem dX10_ticks_55 : decode cX10_ticks 55 = .ok (.invokevirtual 310, 3) := by decide +kernel
theorem dX10_ticks_58 : decode cX10_ticks 58 = .ok (.pop, 1) := by decide +kernel
theorem dX10_ticks_59 : decode cX10_ticks 59 = .ok (.aload_n 0, 1) := by decide +kernel
theorem dX10_ticks_60 : decode cX10_ticks 60 = .ok (.aload_n 0, 1) := by decide +kernel
theorem dX10_ticks_61 : decode cX10_ticks 61 = .ok (.getfield 31, 3) := by decide +kernel
theorem dX10_ticks_64 : decode cX10_ticks 64 = .ok (.getfield 114, 3) := by decide +kernel
theorem dX10_ticks_67 : decode cX10_ticks 67 = .ok (.getfield 108, 3) := by decide +kernel
theorem dX10_ticks_70 : decode cX10_ticks 70 = .ok (.iconst 2, 1) := by decide +kernel
theorem dX10_ticks_71 : decode cX10_ticks 71 = .ok (.iaload, 1) := by decide +kernel
theorem dX10_ticks_72 : decode cX10_ticks 72 = .ok (.invokevirtual 289, 3) := by decide +kernel
theorem dX10_ticks_75 : decode cX10_ticks 75 = .ok (.ireturn, 1) := by decide +kernel
theorem dX10_rate_0 : decode cX10_rate 0 = .ok (.aload_n 0, 1) := by decide +kernel
theorem dX10_rate_1 : decode cX10_rate 1 = .ok (.getfield 31, 3) := by decide +kernel
theorem dX10_rate_4 : decode cX10_rate 4 = .ok (.getfield 114, 3) := by decide +kernel
theorem dX10_rate_7 : decode cX10_rate 7 = .ok (.getfield 108, 3) := by decide +kernel
theorem dX10_rate_10 : decode cX10_rate 10 = .ok (.iconst 0, 1) := by decide +kernel
theorem dX10_rate_11 : decode cX10_rate 11 = .ok (.iaload, 1) := by decide +kernel
theorem dX10_rate_12 : decode cX10_rate 12 = .ok (.istore_n 2, 1) := by decide +kernel
theorem dX10_rate_13 : decode cX10_rate 13 = .ok (.iload_n 1, 1) := by decide +kernel
theorem dX10_rate_14 : decode cX10_rate 14 = .ok (.aload_n 0, 1) := by decide +kernel
theorem dX10_rate_15 : decode cX10_rate 15 = .ok (.getfield 10, 3) := by decide +kernel
theorem dX10_rate_18 : decode cX10_rate 18 = .ok (.getfield 111, 3) := by decide +kernel
theorem dX10_rate_21 : decode cX10_rate 21 = .ok (.if_icmp .lt 19, 3) := by decide +kernel
theorem dX10_rate_24 : decode cX10_rate 24 = .ok (.iload_n 1, 1) := by decide +kernel
theorem dX10_rate_25 : decode cX10_rate 25 = .ok (.aload_n 0, 1) := by decide +kernel
theorem dX10_rate_26 : decode cX10_rate 26 = .ok (.getfield 10, 3) := by decide +kernel
theorem dX10_rate_29 : decode cX10_rate 29 = .ok (.getfield 313, 3) := by decide +kernel
theorem dX10_rate_32 : decode cX10_rate 32 = .ok (.if_icmp .gt 8, 3) := by decide +kernel
theorem dX10_rate_35 : decode cX10_rate 35 = .ok (.iload_n 1, 1) := by decide +kernel
theorem dX10_rate_36 : decode cX10_rate 36 = .ok (.iload_n 2, 1) := by decide +kernel
theorem dX10_rate_37 : decode cX10_rate 37 = .ok (.if_icmp .ne 8, 3) := by decide +kernel
theorem dX10_rate_40 : decode cX10_rate 40 = .ok (.aload_n 0, 1) := by decide +kernel
theorem dX10_rate_41 : decode cX10_rate 41 = .ok (.invokevirtual 282, 3) := by decide +kernel
theorem dX10_rate_44 : decode cX10_rate 44 = .ok (.ireturn, 1) := by decide +kernel
theorem dX10_rate_45 : decode cX10_rate 45 = .ok (.aload_n 0, 1) := by decide +kernel
theorem dX10_rate_46 : decode cX10_rate 46 = .ok (.getfield 31, 3) := by decide +kernel
theorem dX10_rate_49 : decode cX10_rate 49 = .ok (.getfield 120, 3) := by decide +kernel
theorem dX10_rate_52 : decode cX10_rate 52 = .ok (.aload_n 0, 1) := by decide +kernel
theorem dX10_rate_53 : decode cX10_rate 53 = .ok (.getfield 31, 3) := by decide +kernel
theorem dX10_rate_56 : decode cX10_rate 56 = .ok (.getfield 114, 3) := by decide +kernel
theorem dX10_rate_59 : decode cX10_rate 59 = .ok (.invokevirtual 136, 3) := by decide +kernel
theorem dX10_rate_62 : decode cX10_rate 62 = .ok (.aload_n 0, 1) := by decide +kernel
theorem dX10_rate_63 : decode cX10_rate 63 = .ok (.getfield 31, 3) := by decide +kernel
theorem dX10_rate_66 : decode cX10_rate 66 = .ok (.getfield 114, 3) := by decide +kernel
theorem dX10_rate_69 : decode cX10_rate 69 = .ok (.getfield 108, 3) := by decide +kernel
theorem dX10_rate_72 : decode cX10_rate 72 = .ok (.iconst 0, 1) := by decide +kernel
theorem dX10_rate_73 : decode cX10_rate 73 = .ok (.iload_n 1, 1) := by decide +kernel
theorem dX10_rate_74 : decode cX10_rate 74 = .ok (.iastore, 1) := by decide +kernel
theorem dX10_rate_75 : decode cX10_rate 75 = .ok (.aload_n 0, 1) := by decide +kernel
theorem dX10_rate_76 : decode cX10_rate 76 = .ok (.iload_n 2, 1) := by decide +kernel
theorem dX10_rate_77 : decode cX10_rate 77 = .ok (.invokevirtual 289, 3) := by decide +kernel
theorem dX10_rate_80 : decode cX10_rate 80 = .ok (.ireturn, 1) := by decide +kernel
theorem dX10_undo_0 : decode cX10_undo 0 = .ok (.aload_n 0, 1) := by decide +kernel
theorem dX10_undo_1 : decode cX10_undo 1 = .ok (.getfield 31, 3) := by decide +kernel
theorem dX10_undo_4 : decode cX10_undo 4 = .ok (.getfield 120, 3) := by decide +kernel
theorem dX10_undo_7 : decode cX10_undo 7 = .ok (.aload_n 0, 1) := by decide +kernel
theorem dX10_undo_8 : decode cX10_undo 8 = .ok (.getfield 31, 3) := by decide +kernel
theorem dX10_undo_11 : decode cX10_undo 11 = .ok (.getfield 114, 3) := by decide +kernel
theorem dX10_undo_14 : decode cX10_undo 14 = .ok (.invokevirtual 316, 3) := by decide +kernel
theorem dX10_undo_17 : decode cX10_undo 17 = .ok (.ifCond .eq 16, 3) := by decide +kernel
theorem dX10_undo_20 : decode cX10_undo 20 = .ok (.aload_n 0, 1) := by decide +kernel
theorem dX10_undo_21 : decode cX10_undo 21 = .ok (.getfield 31, 3) := by decide +kernel
theorem dX10_undo_24 : decode cX10_undo 24 = .ok (.getfield 120, 3) := by decide +kernel
theorem dX10_undo_27 : decode cX10_undo 27 = .ok (.getfield 198, 3) := by decide +kernel
theorem dX10_undo_30 : decode cX10_undo 30 = .ok (.goto 4, 3) := by decide +kernel
theorem dX10_undo_33 : decode cX10_undo 33 = .ok (.iconst (-1), 1) := by decide +kernel
theorem dX10_undo_34 : decode cX10_undo 34 = .ok (.ireturn, 1) := by decide +kernel
theorem dX10_then_0 : decode cX10_then 0 = .ok (.iload_n 2, 1) := by decide +kernel
theorem dX10_then_1 : decode cX10_then 1 = .ok (.ifCond .lt 12, 3) := by decide +kernel
theorem dX10_then_4 : decode cX10_then 4 = .ok (.iload_n 2, 1) := by decide +kernel
theorem dX10_then_5 : decode cX10_then 5 = .ok (.iconst 5, 1) := by decide +kernel
theorem dX10_then_6 : decode cX10_then 6 = .ok (.if_icmp .gt 7, 3) := by decide +kernel
theorem dX10_then_9 : decode cX10_then 9 = .ok (.iconst 1, 1) := by decide +kernel
theorem dX10_then_10 : decode cX10_then 10 = .ok (.goto 4, 3) := by decide +kernel
theorem dX10_then_13 : decode cX10_then 13 = .ok (.iconst 0, 1) := by decide +kernel
theorem dX10_then_14 : decode cX10_then 14 = .ok (.invokestatic 204, 3) := by decide +kernel
theorem dX10_then_17 : decode cX10_then 17 = .ok (.iload_n 1, 1) := by decide +kernel
theorem dX10_then_18 : decode cX10_then 18 = .ok (.ifCond .lt 13, 3) := by decide +kernel
theorem dX10_then_21 : decode cX10_then 21 = .ok (.iload_n 1, 1) := by decide +kernel
theorem dX10_then_22 : decode cX10_then 22 = .ok (.bipush 60, 2) := by decide +kernel
theorem dX10_then_24 : decode cX10_then 24 = .ok (.if_icmp .gt 7, 3) := by decide +kernel
theorem dX10_then_27 : decode cX10_then 27 = .ok (.iconst 1, 1) := by decide +kernel
theorem dX10_then_28 : decode cX10_then 28 = .ok (.goto 4, 3) := by decide +kernel
theorem dX10_then_31 : decode cX10_then 31 = .ok (.iconst 0, 1) := by decide +kernel
theorem dX10_then_32 : decode cX10_then 32 = .ok (.invokestatic 320, 3) := by decide +kernel
theorem dX10_then_35 : decode cX10_then 35 = .ok (.aload_n 0, 1) := by decide +kernel
theorem dX10_then_36 : decode cX10_then 36 = .ok (.getfield 41, 3) := by decide +kernel
theorem dX10_then_39 : decode cX10_then 39 = .ok (.aload_n 0, 1) := by decide +kernel
theorem dX10_then_40 : decode cX10_then 40 = .ok (.getfield 31, 3) := by decide +kernel
theorem dX10_then_43 : decode cX10_then 43 = .ok (.getfield 114, 3) := by decide +kernel
theorem dX10_then_46 : decode cX10_then 46 = .ok (.invokevirtual 117, 3) := by decide +kernel
theorem dX10_then_49 : decode cX10_then 49 = .ok (.aload_n 0, 1) := by decide +kernel
theorem dX10_then_50 : decode cX10_then 50 = .ok (.getfield 41, 3) := by decide +kernel
theorem dX10_then_53 : decode cX10_then 53 = .ok (.iload_n 1, 1) := by decide +kernel
theorem dX10_then_54 : decode cX10_then 54 = .ok (.invokevirtual 310, 3) := by decide +kernel
theorem dX10_then_57 : decode cX10_then 57 = .ok (.pop, 1) := by decide +kernel
theorem dX10_then_58 : decode cX10_then 58 = .ok (.iload_n 2, 1) := by decide +kernel
theorem dX10_then_59 : decode cX10_then 59 = .ok (.tableswitch 88 0 4 #[33, 41, 57, 68, 78], 33) := by decide +kernel
theorem dX10_then_92 : decode cX10_then 92 = .ok (.aload_n 0, 1) := by decide +kernel
theorem dX10_then_93 : decode cX10_then 93 = .ok (.getfield 41, 3) := by decide +kernel
theorem dX10_then_96 : decode cX10_then 96 = .ok (.invokevirtual 161, 3) := by decide +kernel
theorem dX10_then_99 : decode cX10_then 99 = .ok (.ireturn, 1) := by decide +kernel
theorem dX10_then_100 : decode cX10_then 100 = .ok (.aload_n 0, 1) := by decide +kernel
theorem dX10_then_101 : decode cX10_then 101 = .ok (.getfield 41, 3) := by decide +kernel
theorem dX10_then_104 : decode cX10_then 104 = .ok (.iconst 0, 1) := by decide +kernel
theorem dX10_then_105 : decode cX10_then 105 = .ok (.aload_n 0, 1) := by decide +kernel
theorem dX10_then_106 : decode cX10_then 106 = .ok (.getfield 10, 3) := by decide +kernel
theorem dX10_then_109 : decode cX10_then 109 = .ok (.getfield 170, 3) := by decide +kernel
theorem dX10_then_112 : decode cX10_then 112 = .ok (.invokevirtual 173, 3) := by decide +kernel
theorem dX10_then_115 : decode cX10_then 115 = .ok (.ireturn, 1) := by decide +kernel
theorem dX10_then_116 : decode cX10_then 116 = .ok (.aload_n 0, 1) := by decide +kernel
theorem dX10_then_117 : decode cX10_then 117 = .ok (.getfield 41, 3) := by decide +kernel
theorem dX10_then_120 : decode cX10_then 120 = .ok (.getfield 183, 3) := by decide +kernel
theorem dX10_then_123 : decode cX10_then 123 = .ok (.invokevirtual 187, 3) := by decide +kernel
theorem dX10_then_126 : decode cX10_then 126 = .ok (.ireturn, 1) := by decide +kernel
theorem dX10_then_127 : decode cX10_then 127 = .ok (.aload_n 0, 1) := by decide +kernel
theorem dX10_then_128 : decode cX10_then 128 = .ok (.getfield 41, 3) := by decide +kernel
theorem dX10_then_131 : decode cX10_then 131 = .ok (.getfield 108, 3) := by decide +kernel
theorem dX10_then_134 : decode cX10_then 134 = .ok (.iconst 0, 1) := by decide +kernel
theorem dX10_then_135 : decode cX10_then 135 = .ok (.iaload, 1) := by decide +kernel
theorem dX10_then_136 : decode cX10_then 136 = .ok (.ireturn, 1) := by decide +kernel
theorem dX10_then_137 : decode cX10_then 137 = .ok (.aload_n 0, 1) := by decide +kernel
theorem dX10_then_138 : decode cX10_then 138 = .ok (.getfield 41, 3) := by decide +kernel
theorem dX10_then_141 : decode cX10_then 141 = .ok (.getfield 108, 3) := by decide +kernel
theorem dX10_then_144 : decode cX10_then 144 = .ok (.iconst 3, 1) := by decide +kernel
theorem dX10_then_145 : decode cX10_then 145 = .ok (.iaload, 1) := by decide +kernel
theorem dX10_then_146 : decode cX10_then 146 = .ok (.ireturn, 1) := by decide +kernel
theorem dX10_then_147 : decode cX10_then 147 = .ok (.aload_n 0, 1) := by decide +kernel
theorem dX10_then_148 : decode cX10_then 148 = .ok (.getfield 41, 3) := by decide +kernel
theorem dX10_then_151 : decode cX10_then 151 = .ok (.getfield 108, 3) := by decide +kernel
theorem dX10_then_154 : decode cX10_then 154 = .ok (.iconst 1, 1) := by decide +kernel
theorem dX10_then_155 : decode cX10_then 155 = .ok (.iaload, 1) := by decide +kernel
theorem dX10_then_156 : decode cX10_then 156 = .ok (.ireturn, 1) := by decide +kernel
theorem dX10_quiet_0 : decode cX10_quiet 0 = .ok (.aload_n 0, 1) := by decide +kernel
theorem dX10_quiet_1 : decode cX10_quiet 1 = .ok (.getfield 41, 3) := by decide +kernel
theorem dX10_quiet_4 : decode cX10_quiet 4 = .ok (.aload_n 0, 1) := by decide +kernel
theorem dX10_quiet_5 : decode cX10_quiet 5 = .ok (.getfield 31, 3) := by decide +kernel
theorem dX10_quiet_8 : decode cX10_quiet 8 = .ok (.getfield 114, 3) := by decide +kernel
theorem dX10_quiet_11 : decode cX10_quiet 11 = .ok (.invokevirtual 117, 3) := by decide +kernel
theorem dX10_quiet_14 : decode cX10_quiet 14 = .ok (.iconst 0, 1) := by decide +kernel
theorem dX10_quiet_15 : decode cX10_quiet 15 = .ok (.istore_n 1, 1) := by decide +kernel
theorem dX10_quiet_16 : decode cX10_quiet 16 = .ok (.iconst 1, 1) := by decide +kernel
theorem dX10_quiet_17 : decode cX10_quiet 17 = .ok (.istore_n 2, 1) := by decide +kernel
theorem dX10_quiet_18 : decode cX10_quiet 18 = .ok (.iload_n 2, 1) := by decide +kernel
theorem dX10_quiet_19 : decode cX10_quiet 19 = .ok (.bipush 60, 2) := by decide +kernel
theorem dX10_quiet_21 : decode cX10_quiet 21 = .ok (.if_icmp .gt 22, 3) := by decide +kernel
theorem dX10_quiet_24 : decode cX10_quiet 24 = .ok (.aload_n 0, 1) := by decide +kernel
theorem dX10_quiet_25 : decode cX10_quiet 25 = .ok (.getfield 41, 3) := by decide +kernel
theorem dX10_quiet_28 : decode cX10_quiet 28 = .ok (.iconst 1, 1) := by decide +kernel
theorem dX10_quiet_29 : decode cX10_quiet 29 = .ok (.invokevirtual 310, 3) := by decide +kernel
theorem dX10_quiet_32 : decode cX10_quiet 32 = .ok (.ifCond .le 5, 3) := by decide +kernel
theorem dX10_quiet_35 : decode cX10_quiet 35 = .ok (.iload_n 2, 1) := by decide +kernel
theorem dX10_quiet_36 : decode cX10_quiet 36 = .ok (.istore_n 1, 1) := by decide +kernel
theorem dX10_quiet_37 : decode cX10_quiet 37 = .ok (.iinc 2 1, 3) := by decide +kernel
theorem dX10_quiet_40 : decode cX10_quiet 40 = .ok (.goto (-22), 3) := by decide +kernel
theorem dX10_quiet_43 : decode cX10_quiet 43 = .ok (.iload_n 1, 1) := by decide +kernel
theorem dX10_quiet_44 : decode cX10_quiet 44 = .ok (.ireturn, 1) := by decide +kernel
theorem dX10_merges_0 : decode cX10_merges 0 = .ok (.aload_n 0, 1) := by decide +kernel
theorem dX10_merges_1 : decode cX10_merges 1 = .ok (.iload_n 1, 1) := by decide +kernel
theorem dX10_merges_2 : decode cX10_merges 2 = .ok (.iload_n 2, 1) := by decide +kernel
theorem dX10_merges_3 : decode cX10_merges 3 = .ok (.invokevirtual 220, 3) := by decide +kernel
theorem dX10_merges_6 : decode cX10_merges 6 = .ok (.istore_n 3, 1) := by decide +kernel
theorem dX10_merges_7 : decode cX10_merges 7 = .ok (.aload_n 0, 1) := by decide +kernel
theorem dX10_merges_8 : decode cX10_merges 8 = .ok (.getfield 41, 3) := by decide +kernel
theorem dX10_merges_11 : decode cX10_merges 11 = .ok (.aload_n 0, 1) := by decide +kernel
theorem dX10_merges_12 : decode cX10_merges 12 = .ok (.getfield 31, 3) := by decide +kernel
theorem dX10_merges_15 : decode cX10_merges 15 = .ok (.getfield 114, 3) := by decide +kernel
theorem dX10_merges_18 : decode cX10_merges 18 = .ok (.invokevirtual 117, 3) := by decide +kernel
theorem dX10_merges_21 : decode cX10_merges 21 = .ok (.iconst 0, 1) := by decide +kernel
theorem dX10_merges_22 : decode cX10_merges 22 = .ok (.istore 4, 2) := by decide +kernel
theorem dX10_merges_24 : decode cX10_merges 24 = .ok (.iload 4, 2) := by decide +kernel
theorem dX10_merges_26 : decode cX10_merges 26 = .ok (.sipush 400, 3) := by decide +kernel
theorem dX10_merges_29 : decode cX10_merges 29 = .ok (.if_icmp .gt 31, 3) := by decide +kernel
theorem dX10_merges_32 : decode cX10_merges 32 = .ok (.aload_n 0, 1) := by decide +kernel
theorem dX10_merges_33 : decode cX10_merges 33 = .ok (.getfield 41, 3) := by decide +kernel
theorem dX10_merges_36 : decode cX10_merges 36 = .ok (.iload_n 3, 1) := by decide +kernel
theorem dX10_merges_37 : decode cX10_merges 37 = .ok (.invokevirtual 242, 3) := by decide +kernel
theorem dX10_merges_40 : decode cX10_merges 40 = .ok (.ifCond .eq 6, 3) := by decide +kernel
theorem dX10_merges_43 : decode cX10_merges 43 = .ok (.iload 4, 2) := by decide +kernel
theorem dX10_merges_45 : decode cX10_merges 45 = .ok (.ireturn, 1) := by decide +kernel
theorem dX10_merges_46 : decode cX10_merges 46 = .ok (.aload_n 0, 1) := by decide +kernel
theorem dX10_merges_47 : decode cX10_merges 47 = .ok (.getfield 41, 3) := by decide +kernel
theorem dX10_merges_50 : decode cX10_merges 50 = .ok (.invokevirtual 323, 3) := by decide +kernel
theorem dX10_merges_53 : decode cX10_merges 53 = .ok (.pop, 1) := by decide +kernel
theorem dX10_merges_54 : decode cX10_merges 54 = .ok (.iinc 4 1, 3) := by decide +kernel
theorem dX10_merges_57 : decode cX10_merges 57 = .ok (.goto (-33), 3) := by decide +kernel
theorem dX10_merges_60 : decode cX10_merges 60 = .ok (.iconst (-1), 1) := by decide +kernel
theorem dX10_merges_61 : decode cX10_merges 61 = .ok (.ireturn, 1) := by decide +kernel
theorem dX10_ideal_0 : decode cX10_ideal 0 = .ok (.iload_n 1, 1) := by decide +kernel
theorem dX10_ideal_1 : decode cX10_ideal 1 = .ok (.tableswitch 71 0 2 #[27, 38, 60], 27) := by decide +kernel
theorem dX10_ideal_28 : decode cX10_ideal 28 = .ok (.aload_n 0, 1) := by decide +kernel
theorem dX10_ideal_29 : decode cX10_ideal 29 = .ok (.getfield 31, 3) := by decide +kernel
theorem dX10_ideal_32 : decode cX10_ideal 32 = .ok (.getfield 114, 3) := by decide +kernel
theorem dX10_ideal_35 : decode cX10_ideal 35 = .ok (.invokevirtual 326, 3) := by decide +kernel
theorem dX10_ideal_38 : decode cX10_ideal 38 = .ok (.ireturn, 1) := by decide +kernel
theorem dX10_ideal_39 : decode cX10_ideal 39 = .ok (.aload_n 0, 1) := by decide +kernel
theorem dX10_ideal_40 : decode cX10_ideal 40 = .ok (.getfield 31, 3) := by decide +kernel
theorem dX10_ideal_43 : decode cX10_ideal 43 = .ok (.getfield 114, 3) := by decide +kernel
theorem dX10_ideal_46 : decode cX10_ideal 46 = .ok (.invokevirtual 161, 3) := by decide +kernel
theorem dX10_ideal_49 : decode cX10_ideal 49 = .ok (.aload_n 0, 1) := by decide +kernel
theorem dX10_ideal_50 : decode cX10_ideal 50 = .ok (.getfield 31, 3) := by decide +kernel
theorem dX10_ideal_53 : decode cX10_ideal 53 = .ok (.getfield 114, 3) := by decide +kernel
theorem dX10_ideal_56 : decode cX10_ideal 56 = .ok (.invokevirtual 326, 3) := by decide +kernel
theorem dX10_ideal_59 : decode cX10_ideal 59 = .ok (.isub, 1) := by decide +kernel
theorem dX10_ideal_60 : decode cX10_ideal 60 = .ok (.ireturn, 1) := by decide +kernel
theorem dX10_ideal_61 : decode cX10_ideal 61 = .ok (.aload_n 0, 1) := by decide +kernel
theorem dX10_ideal_62 : decode cX10_ideal 62 = .ok (.getfield 31, 3) := by decide +kernel
theorem dX10_ideal_65 : decode cX10_ideal 65 = .ok (.getfield 114, 3) := by decide +kernel
theorem dX10_ideal_68 : decode cX10_ideal 68 = .ok (.invokevirtual 329, 3) := by decide +kernel
theorem dX10_ideal_71 : decode cX10_ideal 71 = .ok (.ireturn, 1) := by decide +kernel
theorem dX10_ideal_72 : decode cX10_ideal 72 = .ok (.new 201, 3) := by decide +kernel
theorem dX10_ideal_75 : decode cX10_ideal 75 = .ok (.dup, 1) := by decide +kernel
theorem dX10_ideal_76 : decode cX10_ideal 76 = .ok (.invokespecial 203, 3) := by decide +kernel
theorem dX10_ideal_79 : decode cX10_ideal 79 = .ok (.athrow, 1) := by decide +kernel
theorem dX10_probe_0 : decode cX10_probe 0 = .ok (.aload_n 0, 1) := by decide +kernel
theorem dX10_probe_1 : decode cX10_probe 1 = .ok (.iload_n 1, 1) := by decide +kernel
theorem dX10_probe_2 : decode cX10_probe 2 = .ok (.iload_n 2, 1) := by decide +kernel
theorem dX10_probe_3 : decode cX10_probe 3 = .ok (.invokevirtual 220, 3) := by decide +kernel
theorem dX10_probe_6 : decode cX10_probe 6 = .ok (.istore 5, 2) := by decide +kernel
theorem dX10_probe_8 : decode cX10_probe 8 = .ok (.iload_n 3, 1) := by decide +kernel
theorem dX10_probe_9 : decode cX10_probe 9 = .ok (.ifCond .lt 26, 3) := by decide +kernel
theorem dX10_probe_12 : decode cX10_probe 12 = .ok (.iload_n 3, 1) := by decide +kernel
theorem dX10_probe_13 : decode cX10_probe 13 = .ok (.ldc_w 332, 3) := by decide +kernel
theorem dX10_probe_16 : decode cX10_probe 16 = .ok (.if_icmp .gt 19, 3) := by decide +kernel
theorem dX10_probe_19 : decode cX10_probe 19 = .ok (.iload 4, 2) := by decide +kernel
theorem dX10_probe_21 : decode cX10_probe 21 = .ok (.ifCond .lt 14, 3) := by decide +kernel
theorem dX10_probe_24 : decode cX10_probe 24 = .ok (.iload 4, 2) := by decide +kernel
theorem dX10_probe_26 : decode cX10_probe 26 = .ok (.bipush 40, 2) := by decide +kernel
theorem dX10_probe_28 : decode cX10_probe 28 = .ok (.if_icmp .gt 7, 3) := by decide +kernel
theorem dX10_probe_31 : decode cX10_probe 31 = .ok (.iconst 1, 1) := by decide +kernel
theorem dX10_probe_32 : decode cX10_probe 32 = .ok (.goto 4, 3) := by decide +kernel
theorem dX10_probe_35 : decode cX10_probe 35 = .ok (.iconst 0, 1) := by decide +kernel
theorem dX10_probe_36 : decode cX10_probe 36 = .ok (.invokestatic 320, 3) := by decide +kernel
theorem dX10_probe_39 : decode cX10_probe 39 = .ok (.aload_n 0, 1) := by decide +kernel
theorem dX10_probe_40 : decode cX10_probe 40 = .ok (.getfield 41, 3) := by decide +kernel
theorem dX10_probe_43 : decode cX10_probe 43 = .ok (.aload_n 0, 1) := by decide +kernel
theorem dX10_probe_44 : decode cX10_probe 44 = .ok (.getfield 31, 3) := by decide +kernel
theorem dX10_probe_47 : decode cX10_probe 47 = .ok (.getfield 114, 3) := by decide +kernel
theorem dX10_probe_50 : decode cX10_probe 50 = .ok (.invokevirtual 117, 3) := by decide +kernel
theorem dX10_probe_53 : decode cX10_probe 53 = .ok (.aload_n 0, 1) := by decide +kernel
theorem dX10_probe_54 : decode cX10_probe 54 = .ok (.getfield 41, 3) := by decide +kernel
theorem dX10_probe_57 : decode cX10_probe 57 = .ok (.iload 5, 2) := by decide +kernel
theorem dX10_probe_59 : decode cX10_probe 59 = .ok (.iload_n 3, 1) := by decide +kernel
theorem dX10_probe_60 : decode cX10_probe 60 = .ok (.invokevirtual 292, 3) := by decide +kernel
theorem dX10_probe_63 : decode cX10_probe 63 = .ok (.iconst (-1), 1) := by decide +kernel
theorem dX10_probe_64 : decode cX10_probe 64 = .ok (.if_icmp .ne 5, 3) := by decide +kernel
theorem dX10_probe_67 : decode cX10_probe 67 = .ok (.iconst (-1), 1) := by decide +kernel
theorem dX10_probe_68 : decode cX10_probe 68 = .ok (.ireturn, 1) := by decide +kernel
theorem dX10_probe_69 : decode cX10_probe 69 = .ok (.aload_n 0, 1) := by decide +kernel
theorem dX10_probe_70 : decode cX10_probe 70 = .ok (.getfield 41, 3) := by decide +kernel
theorem dX10_probe_73 : decode cX10_probe 73 = .ok (.iload 4, 2) := by decide +kernel
theorem dX10_probe_75 : decode cX10_probe 75 = .ok (.invokevirtual 310, 3) := by decide +kernel
theorem dX10_probe_78 : decode cX10_probe 78 = .ok (.pop, 1) := by decide +kernel
theorem dX10_probe_79 : decode cX10_probe 79 = .ok (.aload_n 0, 1) := by decide +kernel
theorem dX10_probe_80 : decode cX10_probe 80 = .ok (.getfield 41, 3) := by decide +kernel
theorem dX10_probe_83 : decode cX10_probe 83 = .ok (.getfield 233, 3) := by decide +kernel
theorem dX10_probe_86 : decode cX10_probe 86 = .ok (.getfield 237, 3) := by decide +kernel
theorem dX10_probe_89 : decode cX10_probe 89 = .ok (.iload 5, 2) := by decide +kernel
theorem dX10_probe_91 : decode cX10_probe 91 = .ok (.iaload, 1) := by decide +kernel
theorem dX10_probe_92 : decode cX10_probe 92 = .ok (.istore 6, 2) := by decide +kernel
theorem dX10_probe_94 : decode cX10_probe 94 = .ok (.iload 6, 2) := by decide +kernel
theorem dX10_probe_96 : decode cX10_probe 96 = .ok (.iconst (-1), 1) := by decide +kernel
theorem dX10_probe_97 : decode cX10_probe 97 = .ok (.if_icmp .ne 7, 3) := by decide +kernel
theorem dX10_probe_100 : decode cX10_probe 100 = .ok (.iconst 0, 1) := by decide +kernel
theorem dX10_probe_101 : decode cX10_probe 101 = .ok (.goto 17, 3) := by decide +kernel
theorem dX10_probe_104 : decode cX10_probe 104 = .ok (.aload_n 0, 1) := by decide +kernel
theorem dX10_probe_105 : decode cX10_probe 105 = .ok (.getfield 41, 3) := by decide +kernel
theorem dX10_probe_108 : decode cX10_probe 108 = .ok (.getfield 233, 3) := by decide +kernel
theorem dX10_probe_111 : decode cX10_probe 111 = .ok (.iload 6, 2) := by decide +kernel
theorem dX10_probe_113 : decode cX10_probe 113 = .ok (.invokevirtual 264, 3) := by decide +kernel
theorem dX10_probe_116 : decode cX10_probe 116 = .ok (.iconst 1, 1) := by decide +kernel
theorem dX10_probe_117 : decode cX10_probe 117 = .ok (.isub, 1) := by decide +kernel
theorem dX10_probe_118 : decode cX10_probe 118 = .ok (.ireturn, 1) := by decide +kernel
theorem dX10_toAdvise_0 : decode cX10_toAdvise 0 = .ok (.iload_n 2, 1) := by decide +kernel
theorem dX10_toAdvise_1 : decode cX10_toAdvise 1 = .ok (.ifCond .eq 8, 3) := by decide +kernel
theorem dX10_toAdvise_4 : decode cX10_toAdvise 4 = .ok (.iload_n 2, 1) := by decide +kernel
theorem dX10_toAdvise_5 : decode cX10_toAdvise 5 = .ok (.iconst 1, 1) := by decide +kernel
theorem dX10_toAdvise_6 : decode cX10_toAdvise 6 = .ok (.if_icmp .ne 7, 3) := by decide +kernel
theorem dX10_toAdvise_9 : decode cX10_toAdvise 9 = .ok (.iconst 1, 1) := by decide +kernel
theorem dX10_toAdvise_10 : decode cX10_toAdvise 10 = .ok (.goto 4, 3) := by decide +kernel
theorem dX10_toAdvise_13 : decode cX10_toAdvise 13 = .ok (.iconst 0, 1) := by decide +kernel
theorem dX10_toAdvise_14 : decode cX10_toAdvise 14 = .ok (.invokestatic 204, 3) := by decide +kernel
theorem dX10_toAdvise_17 : decode cX10_toAdvise 17 = .ok (.iload_n 1, 1) := by decide +kernel
theorem dX10_toAdvise_18 : decode cX10_toAdvise 18 = .ok (.ifCond .lt 13, 3) := by decide +kernel
theorem dX10_toAdvise_21 : decode cX10_toAdvise 21 = .ok (.iload_n 1, 1) := by decide +kernel
theorem dX10_toAdvise_22 : decode cX10_toAdvise 22 = .ok (.bipush 40, 2) := by decide +kernel
theorem dX10_toAdvise_24 : decode cX10_toAdvise 24 = .ok (.if_icmp .gt 7, 3) := by decide +kernel
theorem dX10_toAdvise_27 : decode cX10_toAdvise 27 = .ok (.iconst 1, 1) := by decide +kernel
theorem dX10_toAdvise_28 : decode cX10_toAdvise 28 = .ok (.goto 4, 3) := by decide +kernel
theorem dX10_toAdvise_31 : decode cX10_toAdvise 31 = .ok (.iconst 0, 1) := by decide +kernel
theorem dX10_toAdvise_32 : decode cX10_toAdvise 32 = .ok (.invokestatic 320, 3) := by decide +kernel
theorem dX10_toAdvise_35 : decode cX10_toAdvise 35 = .ok (.iconst (-1), 1) := by decide +kernel
theorem dX10_toAdvise_36 : decode cX10_toAdvise 36 = .ok (.istore_n 3, 1) := by decide +kernel
theorem dX10_toAdvise_37 : decode cX10_toAdvise 37 = .ok (.iconst (-1), 1) := by decide +kernel
theorem dX10_toAdvise_38 : decode cX10_toAdvise 38 = .ok (.istore 4, 2) := by decide +kernel
theorem dX10_toAdvise_40 : decode cX10_toAdvise 40 = .ok (.iconst 0, 1) := by decide +kernel
theorem dX10_toAdvise_41 : decode cX10_toAdvise 41 = .ok (.istore 5, 2) := by decide +kernel
theorem dX10_toAdvise_43 : decode cX10_toAdvise 43 = .ok (.iload 5, 2) := by decide +kernel
theorem dX10_toAdvise_45 : decode cX10_toAdvise 45 = .ok (.aload_n 0, 1) := by decide +kernel
theorem dX10_toAdvise_46 : decode cX10_toAdvise 46 = .ok (.getfield 10, 3) := by decide +kernel
theorem dX10_toAdvise_49 : decode cX10_toAdvise 49 = .ok (.getfield 167, 3) := by decide +kernel
theorem dX10_toAdvise_52 : decode cX10_toAdvise 52 = .ok (.if_icmp .ge 101, 3) := by decide +kernel
theorem dX10_toAdvise_55 : decode cX10_toAdvise 55 = .ok (.aload_n 0, 1) := by decide +kernel
theorem dX10_toAdvise_56 : decode cX10_toAdvise 56 = .ok (.getfield 41, 3) := by decide +kernel
theorem dX10_toAdvise_59 : decode cX10_toAdvise 59 = .ok (.aload_n 0, 1) := by decide +kernel
theorem dX10_toAdvise_60 : decode cX10_toAdvise 60 = .ok (.getfield 31, 3) := by decide +kernel
theorem dX10_toAdvise_63 : decode cX10_toAdvise 63 = .ok (.getfield 114, 3) := by decide +kernel
theorem dX10_toAdvise_66 : decode cX10_toAdvise 66 = .ok (.invokevirtual 117, 3) := by decide +kernel
theorem dX10_toAdvise_69 : decode cX10_toAdvise 69 = .ok (.aload_n 0, 1) := by decide +kernel
theorem dX10_toAdvise_70 : decode cX10_toAdvise 70 = .ok (.getfield 41, 3) := by decide +kernel
theorem dX10_toAdvise_73 : decode cX10_toAdvise 73 = .ok (.aload_n 0, 1) := by decide +kernel
theorem dX10_toAdvise_74 : decode cX10_toAdvise 74 = .ok (.getfield 10, 3) := by decide +kernel
theorem dX10_toAdvise_77 : decode cX10_toAdvise 77 = .ok (.getfield 208, 3) := by decide +kernel
theorem dX10_toAdvise_80 : decode cX10_toAdvise 80 = .ok (.iload 5, 2) := by decide +kernel
theorem dX10_toAdvise_82 : decode cX10_toAdvise 82 = .ok (.iaload, 1) := by decide +kernel
theorem dX10_toAdvise_83 : decode cX10_toAdvise 83 = .ok (.aload_n 0, 1) := by decide +kernel
theorem dX10_toAdvise_84 : decode cX10_toAdvise 84 = .ok (.getfield 10, 3) := by decide +kernel
theorem dX10_toAdvise_87 : decode cX10_toAdvise 87 = .ok (.getfield 208, 3) := by decide +kernel
theorem dX10_toAdvise_90 : decode cX10_toAdvise 90 = .ok (.iload 5, 2) := by decide +kernel
theorem dX10_toAdvise_92 : decode cX10_toAdvise 92 = .ok (.iaload, 1) := by decide +kernel
theorem dX10_toAdvise_93 : decode cX10_toAdvise 93 = .ok (.aload_n 0, 1) := by decide +kernel
theorem dX10_toAdvise_94 : decode cX10_toAdvise 94 = .ok (.getfield 10, 3) := by decide +kernel
theorem dX10_toAdvise_97 : decode cX10_toAdvise 97 = .ok (.getfield 211, 3) := by decide +kernel
theorem dX10_toAdvise_100 : decode cX10_toAdvise 100 = .ok (.iload 5, 2) := by decide +kernel
theorem dX10_toAdvise_102 : decode cX10_toAdvise 102 = .ok (.iaload, 1) := by decide +kernel
theorem dX10_toAdvise_103 : decode cX10_toAdvise 103 = .ok (.iadd, 1) := by decide +kernel
theorem dX10_toAdvise_104 : decode cX10_toAdvise 104 = .ok (.iconst 1, 1) := by decide +kernel
theorem dX10_toAdvise_105 : decode cX10_toAdvise 105 = .ok (.isub, 1) := by decide +kernel
theorem dX10_toAdvise_106 : decode cX10_toAdvise 106 = .ok (.invokevirtual 298, 3) := by decide +kernel
theorem dX10_toAdvise_109 : decode cX10_toAdvise 109 = .ok (.pop, 1) := by decide +kernel
theorem dX10_toAdvise_110 : decode cX10_toAdvise 110 = .ok (.aload_n 0, 1) := by decide +kernel
theorem dX10_toAdvise_111 : decode cX10_toAdvise 111 = .ok (.getfield 41, 3) := by decide +kernel
theorem dX10_toAdvise_114 : decode cX10_toAdvise 114 = .ok (.iload_n 1, 1) := by decide +kernel
theorem dX10_toAdvise_115 : decode cX10_toAdvise 115 = .ok (.invokevirtual 310, 3) := by decide +kernel
theorem dX10_toAdvise_118 : decode cX10_toAdvise 118 = .ok (.pop, 1) := by decide +kernel
theorem dX10_toAdvise_119 : decode cX10_toAdvise 119 = .ok (.aload_n 0, 1) := by decide +kernel
theorem dX10_toAdvise_120 : decode cX10_toAdvise 120 = .ok (.getfield 41, 3) := by decide +kernel
theorem dX10_toAdvise_123 : decode cX10_toAdvise 123 = .ok (.invokevirtual 161, 3) := by decide +kernel
theorem dX10_toAdvise_126 : decode cX10_toAdvise 126 = .ok (.istore 6, 2) := by decide +kernel
theorem dX10_toAdvise_128 : decode cX10_toAdvise 128 = .ok (.iload_n 3, 1) := by decide +kernel
theorem dX10_toAdvise_129 : decode cX10_toAdvise 129 = .ok (.iconst (-1), 1) := by decide +kernel
theorem dX10_toAdvise_130 : decode cX10_toAdvise 130 = .ok (.if_icmp .eq 10, 3) := by decide +kernel
theorem dX10_toAdvise_133 : decode cX10_toAdvise 133 = .ok (.iload 6, 2) := by decide +kernel
theorem dX10_toAdvise_135 : decode cX10_toAdvise 135 = .ok (.iload 4, 2) := by decide +kernel
theorem dX10_toAdvise_137 : decode cX10_toAdvise 137 = .ok (.if_icmp .ge 10, 3) := by decide +kernel
theorem dX10_toAdvise_140 : decode cX10_toAdvise 140 = .ok (.iload 5, 2) := by decide +kernel
theorem dX10_toAdvise_142 : decode cX10_toAdvise 142 = .ok (.istore_n 3, 1) := by decide +kernel
theorem dX10_toAdvise_143 : decode cX10_toAdvise 143 = .ok (.iload 6, 2) := by decide +kernel
theorem dX10_toAdvise_145 : decode cX10_toAdvise 145 = .ok (.istore 4, 2) := by decide +kernel
theorem dX10_toAdvise_147 : decode cX10_toAdvise 147 = .ok (.iinc 5 1, 3) := by decide +kernel
theorem dX10_toAdvise_150 : decode cX10_toAdvise 150 = .ok (.goto (-107), 3) := by decide +kernel
theorem dX10_toAdvise_153 : decode cX10_toAdvise 153 = .ok (.iload_n 2, 1) := by decide +kernel
theorem dX10_toAdvise_154 : decode cX10_toAdvise 154 = .ok (.ifCond .ne 7, 3) := by decide +kernel
theorem dX10_toAdvise_157 : decode cX10_toAdvise 157 = .ok (.iload_n 3, 1) := by decide +kernel
theorem dX10_toAdvise_158 : decode cX10_toAdvise 158 = .ok (.goto 5, 3) := by decide +kernel
theorem dX10_toAdvise_161 : decode cX10_toAdvise 161 = .ok (.iload 4, 2) := by decide +kernel
theorem dX10_toAdvise_163 : decode cX10_toAdvise 163 = .ok (.ireturn, 1) := by decide +kernel
theorem dX10_toRate_0 : decode cX10_toRate 0 = .ok (.iload_n 2, 1) := by decide +kernel
theorem dX10_toRate_1 : decode cX10_toRate 1 = .ok (.ifCond .eq 8, 3) := by decide +kernel
theorem dX10_toRate_4 : decode cX10_toRate 4 = .ok (.iload_n 2, 1) := by decide +kernel
theorem dX10_toRate_5 : decode cX10_toRate 5 = .ok (.iconst 1, 1) := by decide +kernel
theorem dX10_toRate_6 : decode cX10_toRate 6 = .ok (.if_icmp .ne 7, 3) := by decide +kernel
theorem dX10_toRate_9 : decode cX10_toRate 9 = .ok (.iconst 1, 1) := by decide +kernel
theorem dX10_toRate_10 : decode cX10_toRate 10 = .ok (.goto 4, 3) := by decide +kernel
theorem dX10_toRate_13 : decode cX10_toRate 13 = .ok (.iconst 0, 1) := by decide +kernel
theorem dX10_toRate_14 : decode cX10_toRate 14 = .ok (.invokestatic 204, 3) := by decide +kernel
theorem dX10_toRate_17 : decode cX10_toRate 17 = .ok (.iload_n 1, 1) := by decide +kernel
theorem dX10_toRate_18 : decode cX10_toRate 18 = .ok (.iconst 1, 1) := by decide +kernel
theorem dX10_toRate_19 : decode cX10_toRate 19 = .ok (.if_icmp .lt 13, 3) := by decide +kernel
theorem dX10_toRate_22 : decode cX10_toRate 22 = .ok (.iload_n 1, 1) := by decide +kernel
theorem dX10_toRate_23 : decode cX10_toRate 23 = .ok (.bipush 20, 2) := by decide +kernel
theorem dX10_toRate_25 : decode cX10_toRate 25 = .ok (.if_icmp .gt 7, 3) := by decide +kernel
theorem dX10_toRate_28 : decode cX10_toRate 28 = .ok (.iconst 1, 1) := by decide +kernel
theorem dX10_toRate_29 : decode cX10_toRate 29 = .ok (.goto 4, 3) := by decide +kernel
theorem dX10_toRate_32 : decode cX10_toRate 32 = .ok (.iconst 0, 1) := by decide +kernel
theorem dX10_toRate_33 : decode cX10_toRate 33 = .ok (.invokestatic 320, 3) := by decide +kernel
theorem dX10_toRate_36 : decode cX10_toRate 36 = .ok (.iconst (-1), 1) := by decide +kernel
theorem dX10_toRate_37 : decode cX10_toRate 37 = .ok (.istore_n 3, 1) := by decide +kernel
theorem dX10_toRate_38 : decode cX10_toRate 38 = .ok (.iconst (-1), 1) := by decide +kernel
theorem dX10_toRate_39 : decode cX10_toRate 39 = .ok (.istore 4, 2) := by decide +kernel
theorem dX10_toRate_41 : decode cX10_toRate 41 = .ok (.iconst (-1), 1) := by decide +kernel
theorem dX10_toRate_42 : decode cX10_toRate 42 = .ok (.istore 5, 2) := by decide +kernel
theorem dX10_toRate_44 : decode cX10_toRate 44 = .ok (.aload_n 0, 1) := by decide +kernel
theorem dX10_toRate_45 : decode cX10_toRate 45 = .ok (.getfield 10, 3) := by decide +kernel
theorem dX10_toRate_48 : decode cX10_toRate 48 = .ok (.getfield 111, 3) := by decide +kernel
theorem dX10_toRate_51 : decode cX10_toRate 51 = .ok (.istore 6, 2) := by decide +kernel
theorem dX10_toRate_53 : decode cX10_toRate 53 = .ok (.iload 6, 2) := by decide +kernel
theorem dX10_toRate_55 : decode cX10_toRate 55 = .ok (.aload_n 0, 1) := by decide +kernel
theorem dX10_toRate_56 : decode cX10_toRate 56 = .ok (.getfield 10, 3) := by decide +kernel
theorem dX10_toRate_59 : decode cX10_toRate 59 = .ok (.getfield 313, 3) := by decide +kernel
theorem dX10_toRate_62 : decode cX10_toRate 62 = .ok (.if_icmp .gt 100, 3) := by decide +kernel
theorem dX10_toRate_65 : decode cX10_toRate 65 = .ok (.aload_n 0, 1) := by decide +kernel
theorem dX10_toRate_66 : decode cX10_toRate 66 = .ok (.getfield 41, 3) := by decide +kernel
theorem dX10_toRate_69 : decode cX10_toRate 69 = .ok (.aload_n 0, 1) := by decide +kernel
theorem dX10_toRate_70 : decode cX10_toRate 70 = .ok (.getfield 31, 3) := by decide +kernel
theorem dX10_toRate_73 : decode cX10_toRate 73 = .ok (.getfield 114, 3) := by decide +kernel
theorem dX10_toRate_76 : decode cX10_toRate 76 = .ok (.invokevirtual 117, 3) := by decide +kernel
theorem dX10_toRate_79 : decode cX10_toRate 79 = .ok (.aload_n 0, 1) := by decide +kernel
theorem dX10_toRate_80 : decode cX10_toRate 80 = .ok (.getfield 41, 3) := by decide +kernel
theorem dX10_toRate_83 : decode cX10_toRate 83 = .ok (.getfield 108, 3) := by decide +kernel
theorem dX10_toRate_86 : decode cX10_toRate 86 = .ok (.iconst 0, 1) := by decide +kernel
theorem dX10_toRate_87 : decode cX10_toRate 87 = .ok (.iload 6, 2) := by decide +kernel
theorem dX10_toRate_89 : decode cX10_toRate 89 = .ok (.iastore, 1) := by decide +kernel
theorem dX10_toRate_90 : decode cX10_toRate 90 = .ok (.aload_n 0, 1) := by decide +kernel
theorem dX10_toRate_91 : decode cX10_toRate 91 = .ok (.getfield 41, 3) := by decide +kernel
theorem dX10_toRate_94 : decode cX10_toRate 94 = .ok (.iload_n 1, 1) := by decide +kernel
theorem dX10_toRate_95 : decode cX10_toRate 95 = .ok (.invokevirtual 310, 3) := by decide +kernel
theorem dX10_toRate_98 : decode cX10_toRate 98 = .ok (.pop, 1) := by decide +kernel
theorem dX10_toRate_99 : decode cX10_toRate 99 = .ok (.aload_n 0, 1) := by decide +kernel
theorem dX10_toRate_100 : decode cX10_toRate 100 = .ok (.getfield 41, 3) := by decide +kernel
theorem dX10_toRate_103 : decode cX10_toRate 103 = .ok (.invokevirtual 161, 3) := by decide +kernel
theorem dX10_toRate_106 : decode cX10_toRate 106 = .ok (.istore 7, 2) := by decide +kernel
theorem dX10_toRate_108 : decode cX10_toRate 108 = .ok (.aload_n 0, 1) := by decide +kernel
theorem dX10_toRate_109 : decode cX10_toRate 109 = .ok (.getfield 41, 3) := by decide +kernel
theorem dX10_toRate_112 : decode cX10_toRate 112 = .ok (.getfield 108, 3) := by decide +kernel
theorem dX10_toRate_115 : decode cX10_toRate 115 = .ok (.iconst 3, 1) := by decide +kernel
theorem dX10_toRate_116 : decode cX10_toRate 116 = .ok (.iaload, 1) := by decide +kernel
theorem dX10_toRate_117 : decode cX10_toRate 117 = .ok (.istore 8, 2) := by decide +kernel
theorem dX10_toRate_119 : decode cX10_toRate 119 = .ok (.iload_n 3, 1) := by decide +kernel
theorem dX10_toRate_120 : decode cX10_toRate 120 = .ok (.iconst (-1), 1) := by decide +kernel
theorem dX10_toRate_121 : decode cX10_toRate 121 = .ok (.if_icmp .eq 24, 3) := by decide +kernel
theorem dX10_toRate_124 : decode cX10_toRate 124 = .ok (.iload 7, 2) := by decide +kernel
theorem dX10_toRate_126 : decode cX10_toRate 126 = .ok (.iload 4, 2) := by decide +kernel
theorem dX10_toRate_128 : decode cX10_toRate 128 = .ok (.if_icmp .lt 17, 3) := by decide +kernel
theorem dX10_toRate_131 : decode cX10_toRate 131 = .ok (.iload 7, 2) := by decide +kernel
theorem dX10_toRate_133 : decode cX10_toRate 133 = .ok (.iload 4, 2) := by decide +kernel
theorem dX10_toRate_135 : decode cX10_toRate 135 = .ok (.if_icmp .ne 21, 3) := by decide +kernel
theorem dX10_toRate_138 : decode cX10_toRate 138 = .ok (.iload 8, 2) := by decide +kernel
theorem dX10_toRate_140 : decode cX10_toRate 140 = .ok (.iload 5, 2) := by decide +kernel
theorem dX10_toRate_142 : decode cX10_toRate 142 = .ok (.if_icmp .ge 14, 3) := by decide +kernel
theorem dX10_toRate_145 : decode cX10_toRate 145 = .ok (.iload 6, 2) := by decide +kernel
theorem dX10_toRate_147 : decode cX10_toRate 147 = .ok (.istore_n 3, 1) := by decide +kernel
theorem dX10_toRate_148 : decode cX10_toRate 148 = .ok (.iload 7, 2) := by decide +kernel
theorem dX10_toRate_150 : decode cX10_toRate 150 = .ok (.istore 4, 2) := by decide +kernel
theorem dX10_toRate_152 : decode cX10_toRate 152 = .ok (.iload 8, 2) := by decide +kernel
theorem dX10_toRate_154 : decode cX10_toRate 154 = .ok (.istore 5, 2) := by decide +kernel
theorem dX10_toRate_156 : decode cX10_toRate 156 = .ok (.iinc 6 1, 3) := by decide +kernel
theorem dX10_toRate_159 : decode cX10_toRate 159 = .ok (.goto (-106), 3) := by decide +kernel
theorem dX10_toRate_162 : decode cX10_toRate 162 = .ok (.iload_n 2, 1) := by decide +kernel
theorem dX10_toRate_163 : decode cX10_toRate 163 = .ok (.ifCond .ne 7, 3) := by decide +kernel
theorem dX10_toRate_166 : decode cX10_toRate 166 = .ok (.iload_n 3, 1) := by decide +kernel
theorem dX10_toRate_167 : decode cX10_toRate 167 = .ok (.goto 5, 3) := by decide +kernel
theorem dX10_toRate_170 : decode cX10_toRate 170 = .ok (.iload 4, 2) := by decide +kernel
theorem dX10_toRate_172 : decode cX10_toRate 172 = .ok (.ireturn, 1) := by decide +kernel
theorem dX10_note_0 : decode cX10_note 0 = .ok (.aload_n 0, 1) := by decide +kernel
theorem dX10_note_1 : decode cX10_note 1 = .ok (.getfield 31, 3) := by decide +kernel
theorem dX10_note_4 : decode cX10_note 4 = .ok (.getfield 129, 3) := by decide +kernel
theorem dX10_note_7 : decode cX10_note 7 = .ok (.bipush 8, 2) := by decide +kernel
theorem dX10_note_9 : decode cX10_note 9 = .ok (.if_icmp .ge 23, 3) := by decide +kernel
theorem dX10_note_12 : decode cX10_note 12 = .ok (.iload_n 1, 1) := by decide +kernel
theorem dX10_note_13 : decode cX10_note 13 = .ok (.ifCond .lt 19, 3) := by decide +kernel
theorem dX10_note_16 : decode cX10_note 16 = .ok (.iload_n 1, 1) := by decide +kernel
theorem dX10_note_17 : decode cX10_note 17 = .ok (.bipush 20, 2) := by decide +kernel
theorem dX10_note_19 : decode cX10_note 19 = .ok (.if_icmp .gt 13, 3) := by decide +kernel
theorem dX10_note_22 : decode cX10_note 22 = .ok (.iload_n 2, 1) := by decide +kernel
theorem dX10_note_23 : decode cX10_note 23 = .ok (.ifCond .lt 9, 3) := by decide +kernel
theorem dX10_note_26 : decode cX10_note 26 = .ok (.iload_n 2, 1) := by decide +kernel
theorem dX10_note_27 : decode cX10_note 27 = .ok (.bipush 48, 2) := by decide +kernel
theorem dX10_note_29 : decode cX10_note 29 = .ok (.if_icmp .le 18, 3) := by decide +kernel
theorem dX10_note_32 : decode cX10_note 32 = .ok (.aload_n 0, 1) := by decide +kernel
theorem dX10_note_33 : decode cX10_note 33 = .ok (.getfield 31, 3) := by decide +kernel
theorem dX10_note_36 : decode cX10_note 36 = .ok (.getfield 152, 3) := by decide +kernel
theorem dX10_note_39 : decode cX10_note 39 = .ok (.iconst 2, 1) := by decide +kernel
theorem dX10_note_40 : decode cX10_note 40 = .ok (.dup2, 1) := by decide +kernel
theorem dX10_note_41 : decode cX10_note 41 = .ok (.iaload, 1) := by decide +kernel
theorem dX10_note_42 : decode cX10_note 42 = .ok (.iconst 1, 1) := by decide +kernel
theorem dX10_note_43 : decode cX10_note 43 = .ok (.iadd, 1) := by decide +kernel
theorem dX10_note_44 : decode cX10_note 44 = .ok (.iastore, 1) := by decide +kernel
theorem dX10_note_45 : decode cX10_note 45 = .ok (.iconst (-1), 1) := by decide +kernel
theorem dX10_note_46 : decode cX10_note 46 = .ok (.ireturn, 1) := by decide +kernel
theorem dX10_note_47 : decode cX10_note 47 = .ok (.aload_n 0, 1) := by decide +kernel
theorem dX10_note_48 : decode cX10_note 48 = .ok (.getfield 31, 3) := by decide +kernel
theorem dX10_note_51 : decode cX10_note 51 = .ok (.getfield 333, 3) := by decide +kernel
theorem dX10_note_54 : decode cX10_note 54 = .ok (.aload_n 0, 1) := by decide +kernel
theorem dX10_note_55 : decode cX10_note 55 = .ok (.getfield 31, 3) := by decide +kernel
theorem dX10_note_58 : decode cX10_note 58 = .ok (.getfield 129, 3) := by decide +kernel
theorem dX10_note_61 : decode cX10_note 61 = .ok (.iload_n 1, 1) := by decide +kernel
theorem dX10_note_62 : decode cX10_note 62 = .ok (.iastore, 1) := by decide +kernel
theorem dX10_note_63 : decode cX10_note 63 = .ok (.aload_n 0, 1) := by decide +kernel
theorem dX10_note_64 : decode cX10_note 64 = .ok (.getfield 31, 3) := by decide +kernel
theorem dX10_note_67 : decode cX10_note 67 = .ok (.getfield 336, 3) := by decide +kernel
theorem dX10_note_70 : decode cX10_note 70 = .ok (.aload_n 0, 1) := by decide +kernel
theorem dX10_note_71 : decode cX10_note 71 = .ok (.getfield 31, 3) := by decide +kernel
theorem dX10_note_74 : decode cX10_note 74 = .ok (.getfield 129, 3) := by decide +kernel
theorem dX10_note_77 : decode cX10_note 77 = .ok (.iload_n 2, 1) := by decide +kernel
theorem dX10_note_78 : decode cX10_note 78 = .ok (.iastore, 1) := by decide +kernel
theorem dX10_note_79 : decode cX10_note 79 = .ok (.aload_n 0, 1) := by decide +kernel
theorem dX10_note_80 : decode cX10_note 80 = .ok (.getfield 31, 3) := by decide +kernel
theorem dX10_note_83 : decode cX10_note 83 = .ok (.dup, 1) := by decide +kernel
theorem dX10_note_84 : decode cX10_note 84 = .ok (.getfield 129, 3) := by decide +kernel
theorem dX10_note_87 : decode cX10_note 87 = .ok (.iconst 1, 1) := by decide +kernel
theorem dX10_note_88 : decode cX10_note 88 = .ok (.iadd, 1) := by decide +kernel
theorem dX10_note_89 : decode cX10_note 89 = .ok (.putfield 129, 3) := by decide +kernel
theorem dX10_note_92 : decode cX10_note 92 = .ok (.aload_n 0, 1) := by decide +kernel
theorem dX10_note_93 : decode cX10_note 93 = .ok (.getfield 31, 3) := by decide +kernel
theorem dX10_note_96 : decode cX10_note 96 = .ok (.getfield 129, 3) := by decide +kernel
theorem dX10_note_99 : decode cX10_note 99 = .ok (.ireturn, 1) := by decide +kernel
theorem dX10_guess_0 : decode cX10_guess 0 = .ok (.aload_n 0, 1) := by decide +kernel
theorem dX10_guess_1 : decode cX10_guess 1 = .ok (.iload_n 1, 1) := by decide +kernel
theorem dX10_guess_2 : decode cX10_guess 2 = .ok (.iload_n 2, 1) := by decide +kernel
theorem dX10_guess_3 : decode cX10_guess 3 = .ok (.invokevirtual 220, 3) := by decide +kernel
theorem dX10_guess_6 : decode cX10_guess 6 = .ok (.istore 5, 2) := by decide +kernel
theorem dX10_guess_8 : decode cX10_guess 8 = .ok (.iload_n 3, 1) := by decide +kernel
theorem dX10_guess_9 : decode cX10_guess 9 = .ok (.invokestatic 223, 3) := by decide +kernel
theorem dX10_guess_12 : decode cX10_guess 12 = .ok (.iload 4, 2) := by decide +kernel
theorem dX10_guess_14 : decode cX10_guess 14 = .ok (.ifCond .lt 13, 3) := by decide +kernel
theorem dX10_guess_17 : decode cX10_guess 17 = .ok (.iload 4, 2) := by decide +kernel
theorem dX10_guess_19 : decode cX10_guess 19 = .ok (.iconst 2, 1) := by decide +kernel
theorem dX10_guess_20 : decode cX10_guess 20 = .ok (.if_icmp .gt 7, 3) := by decide +kernel
theorem dX10_guess_23 : decode cX10_guess 23 = .ok (.iconst 1, 1) := by decide +kernel
theorem dX10_guess_24 : decode cX10_guess 24 = .ok (.goto 4, 3) := by decide +kernel
theorem dX10_guess_27 : decode cX10_guess 27 = .ok (.iconst 0, 1) := by decide +kernel
theorem dX10_guess_28 : decode cX10_guess 28 = .ok (.invokestatic 204, 3) := by decide +kernel
theorem dX10_guess_31 : decode cX10_guess 31 = .ok (.aload_n 0, 1) := by decide +kernel
theorem dX10_guess_32 : decode cX10_guess 32 = .ok (.getfield 31, 3) := by decide +kernel
theorem dX10_guess_35 : decode cX10_guess 35 = .ok (.invokevirtual 339, 3) := by decide +kernel
theorem dX10_guess_38 : decode cX10_guess 38 = .ok (.istore 6, 2) := by decide +kernel
theorem dX10_guess_40 : decode cX10_guess 40 = .ok (.iload 4, 2) := by decide +kernel
theorem dX10_guess_42 : decode cX10_guess 42 = .ok (.iconst 2, 1) := by decide +kernel
theorem dX10_guess_43 : decode cX10_guess 43 = .ok (.if_icmp .ne 22, 3) := by decide +kernel
theorem dX10_guess_46 : decode cX10_guess 46 = .ok (.aload_n 0, 1) := by decide +kernel
theorem dX10_guess_47 : decode cX10_guess 47 = .ok (.iload 5, 2) := by decide +kernel
theorem dX10_guess_49 : decode cX10_guess 49 = .ok (.iload_n 3, 1) := by decide +kernel
theorem dX10_guess_50 : decode cX10_guess 50 = .ok (.iconst (-1), 1) := by decide +kernel
theorem dX10_guess_51 : decode cX10_guess 51 = .ok (.iload 6, 2) := by decide +kernel
theorem dX10_guess_53 : decode cX10_guess 53 = .ok (.invokevirtual 342, 3) := by decide +kernel
theorem dX10_guess_56 : decode cX10_guess 56 = .ok (.ifCond .eq 7, 3) := by decide +kernel
theorem dX10_guess_59 : decode cX10_guess 59 = .ok (.iconst 1, 1) := by decide +kernel
theorem dX10_guess_60 : decode cX10_guess 60 = .ok (.goto 4, 3) := by decide +kernel
theorem dX10_guess_63 : decode cX10_guess 63 = .ok (.iconst 0, 1) := by decide +kernel
theorem dX10_guess_64 : decode cX10_guess 64 = .ok (.ireturn, 1) := by decide +kernel
theorem dX10_guess_65 : decode cX10_guess 65 = .ok (.aload_n 0, 1) := by decide +kernel
theorem dX10_guess_66 : decode cX10_guess 66 = .ok (.getfield 31, 3) := by decide +kernel
theorem dX10_guess_69 : decode cX10_guess 69 = .ok (.getfield 114, 3) := by decide +kernel
theorem dX10_guess_72 : decode cX10_guess 72 = .ok (.iload 5, 2) := by decide +kernel
theorem dX10_guess_74 : decode cX10_guess 74 = .ok (.invokevirtual 226, 3) := by decide +kernel
theorem dX10_guess_77 : decode cX10_guess 77 = .ok (.iload_n 3, 1) := by decide +kernel
theorem dX10_guess_78 : decode cX10_guess 78 = .ok (.invokestatic 230, 3) := by decide +kernel
theorem dX10_guess_81 : decode cX10_guess 81 = .ok (.istore 7, 2) := by decide +kernel
theorem dX10_guess_83 : decode cX10_guess 83 = .ok (.iconst 0, 1) := by decide +kernel
theorem dX10_guess_84 : decode cX10_guess 84 = .ok (.istore 8, 2) := by decide +kernel
theorem dX10_guess_86 : decode cX10_guess 86 = .ok (.iconst 0, 1) := by decide +kernel
theorem dX10_guess_87 : decode cX10_guess 87 = .ok (.istore 9, 2) := by decide +kernel
theorem dX10_guess_89 : decode cX10_guess 89 = .ok (.iload 9, 2) := by decide +kernel
theorem dX10_guess_91 : decode cX10_guess 91 = .ok (.bipush 15, 2) := by decide +kernel
theorem dX10_guess_93 : decode cX10_guess 93 = .ok (.if_icmp .gt 45, 3) := by decide +kernel
theorem dX10_guess_96 : decode cX10_guess 96 = .ok (.iload 9, 2) := by decide +kernel
theorem dX10_guess_98 : decode cX10_guess 98 = .ok (.iload 7, 2) := by decide +kernel
theorem dX10_guess_100 : decode cX10_guess 100 = .ok (.if_icmp .eq 32, 3) := by decide +kernel
theorem dX10_guess_103 : decode cX10_guess 103 = .ok (.aload_n 0, 1) := by decide +kernel
theorem dX10_guess_104 : decode cX10_guess 104 = .ok (.iload 5, 2) := by decide +kernel
theorem dX10_guess_106 : decode cX10_guess 106 = .ok (.iload_n 3, 1) := by decide +kernel
theorem dX10_guess_107 : decode cX10_guess 107 = .ok (.iload 9, 2) := by decide +kernel
theorem dX10_guess_109 : decode cX10_guess 109 = .ok (.iload 6, 2) := by decide +kernel
theorem dX10_guess_111 : decode cX10_guess 111 = .ok (.invokevirtual 342, 3) := by decide +kernel
theorem dX10_guess_114 : decode cX10_guess 114 = .ok (.ifCond .ne 6, 3) := by decide +kernel
theorem dX10_guess_117 : decode cX10_guess 117 = .ok (.goto 15, 3) := by decide +kernel
theorem dX10_guess_120 : decode cX10_guess 120 = .ok (.iload 4, 2) := by decide +kernel
theorem dX10_guess_122 : decode cX10_guess 122 = .ok (.iconst 1, 1) := by decide +kernel
theorem dX10_guess_123 : decode cX10_guess 123 = .ok (.if_icmp .ne 6, 3) := by decide +kernel
theorem dX10_guess_126 : decode cX10_guess 126 = .ok (.iload 9, 2) := by decide +kernel
theorem dX10_guess_128 : decode cX10_guess 128 = .ok (.ireturn, 1) := by decide +kernel
theorem dX10_guess_129 : decode cX10_guess 129 = .ok (.iinc 8 1, 3) := by decide +kernel
theorem dX10_guess_132 : decode cX10_guess 132 = .ok (.iinc 9 1, 3) := by decide +kernel
theorem dX10_guess_135 : decode cX10_guess 135 = .ok (.goto (-46), 3) := by decide +kernel
theorem dX10_guess_138 : decode cX10_guess 138 = .ok (.iload 4, 2) := by decide +kernel
theorem dX10_guess_140 : decode cX10_guess 140 = .ok (.ifCond .ne 8, 3) := by decide +kernel
theorem dX10_guess_143 : decode cX10_guess 143 = .ok (.iload 8, 2) := by decide +kernel
theorem dX10_guess_145 : decode cX10_guess 145 = .ok (.goto 4, 3) := by decide +kernel
theorem dX10_guess_148 : decode cX10_guess 148 = .ok (.iconst (-1), 1) := by decide +kernel
theorem dX10_guess_149 : decode cX10_guess 149 = .ok (.ireturn, 1) := by decide +kernel
theorem dX10_look_0 : decode cX10_look 0 = .ok (.aload_n 0, 1) := by decide +kernel
theorem dX10_look_1 : decode cX10_look 1 = .ok (.iload_n 1, 1) := by decide +kernel
theorem dX10_look_2 : decode cX10_look 2 = .ok (.iload_n 2, 1) := by decide +kernel
theorem dX10_look_3 : decode cX10_look 3 = .ok (.invokevirtual 220, 3) := by decide +kernel
theorem dX10_look_6 : decode cX10_look 6 = .ok (.istore 5, 2) := by decide +kernel
theorem dX10_look_8 : decode cX10_look 8 = .ok (.iload_n 3, 1) := by decide +kernel
theorem dX10_look_9 : decode cX10_look 9 = .ok (.invokestatic 223, 3) := by decide +kernel
theorem dX10_look_12 : decode cX10_look 12 = .ok (.iload 4, 2) := by decide +kernel
theorem dX10_look_14 : decode cX10_look 14 = .ok (.ifCond .eq 9, 3) := by decide +kernel
theorem dX10_look_17 : decode cX10_look 17 = .ok (.iload 4, 2) := by decide +kernel
theorem dX10_look_19 : decode cX10_look 19 = .ok (.iconst 1, 1) := by decide +kernel
theorem dX10_look_20 : decode cX10_look 20 = .ok (.if_icmp .ne 7, 3) := by decide +kernel
theorem dX10_look_23 : decode cX10_look 23 = .ok (.iconst 1, 1) := by decide +kernel
theorem dX10_look_24 : decode cX10_look 24 = .ok (.goto 4, 3) := by decide +kernel
theorem dX10_look_27 : decode cX10_look 27 = .ok (.iconst 0, 1) := by decide +kernel
theorem dX10_look_28 : decode cX10_look 28 = .ok (.invokestatic 204, 3) := by decide +kernel
theorem dX10_look_31 : decode cX10_look 31 = .ok (.aload_n 0, 1) := by decide +kernel
theorem dX10_look_32 : decode cX10_look 32 = .ok (.getfield 31, 3) := by decide +kernel
theorem dX10_look_35 : decode cX10_look 35 = .ok (.getfield 114, 3) := by decide +kernel
theorem dX10_look_38 : decode cX10_look 38 = .ok (.iload 5, 2) := by decide +kernel
theorem dX10_look_40 : decode cX10_look 40 = .ok (.invokevirtual 226, 3) := by decide +kernel
theorem dX10_look_43 : decode cX10_look 43 = .ok (.iload_n 3, 1) := by decide +kernel
theorem dX10_look_44 : decode cX10_look 44 = .ok (.invokestatic 230, 3) := by decide +kernel
theorem dX10_look_47 : decode cX10_look 47 = .ok (.istore 6, 2) := by decide +kernel
theorem dX10_look_49 : decode cX10_look 49 = .ok (.aload_n 0, 1) := by decide +kernel
theorem dX10_look_50 : decode cX10_look 50 = .ok (.getfield 74, 3) := by decide +kernel
theorem dX10_look_53 : decode cX10_look 53 = .ok (.lconst 0, 1) := by decide +kernel
theorem dX10_look_54 : decode cX10_look 54 = .ok (.invokestatic 346, 3) := by decide +kernel
theorem dX10_look_57 : decode cX10_look 57 = .ok (.iconst 0, 1) := by decide +kernel
theorem dX10_look_58 : decode cX10_look 58 = .ok (.istore 7, 2) := by decide +kernel
theorem dX10_look_60 : decode cX10_look 60 = .ok (.iload 7, 2) := by decide +kernel
theorem dX10_look_62 : decode cX10_look 62 = .ok (.bipush 15, 2) := by decide +kernel
theorem dX10_look_64 : decode cX10_look 64 = .ok (.if_icmp .gt 65, 3) := by decide +kernel
theorem dX10_look_67 : decode cX10_look 67 = .ok (.iload 7, 2) := by decide +kernel
theorem dX10_look_69 : decode cX10_look 69 = .ok (.iload 6, 2) := by decide +kernel
theorem dX10_look_71 : decode cX10_look 71 = .ok (.if_icmp .eq 52, 3) := by decide +kernel
theorem dX10_look_74 : decode cX10_look 74 = .ok (.aload_n 0, 1) := by decide +kernel
theorem dX10_look_75 : decode cX10_look 75 = .ok (.iload 5, 2) := by decide +kernel
theorem dX10_look_77 : decode cX10_look 77 = .ok (.iload_n 3, 1) := by decide +kernel
theorem dX10_look_78 : decode cX10_look 78 = .ok (.iload 7, 2) := by decide +kernel
theorem dX10_look_80 : decode cX10_look 80 = .ok (.bipush 20, 2) := by decide +kernel
theorem dX10_look_82 : decode cX10_look 82 = .ok (.invokevirtual 342, 3) := by decide +kernel
theorem dX10_look_85 : decode cX10_look 85 = .ok (.ifCond .eq 38, 3) := by decide +kernel
theorem dX10_look_88 : decode cX10_look 88 = .ok (.iconst 1, 1) := by decide +kernel
theorem dX10_look_89 : decode cX10_look 89 = .ok (.istore 8, 2) := by decide +kernel
theorem dX10_look_91 : decode cX10_look 91 = .ok (.iload 8, 2) := by decide +kernel
theorem dX10_look_93 : decode cX10_look 93 = .ok (.bipush 20, 2) := by decide +kernel
theorem dX10_look_95 : decode cX10_look 95 = .ok (.if_icmp .gt 28, 3) := by decide +kernel
theorem dX10_look_98 : decode cX10_look 98 = .ok (.aload_n 0, 1) := by decide +kernel
theorem dX10_look_99 : decode cX10_look 99 = .ok (.getfield 74, 3) := by decide +kernel
theorem dX10_look_102 : decode cX10_look 102 = .ok (.iload 8, 2) := by decide +kernel
theorem dX10_look_104 : decode cX10_look 104 = .ok (.dup2, 1) := by decide +kernel
theorem dX10_look_105 : decode cX10_look 105 = .ok (.laload, 1) := by decide +kernel
theorem dX10_look_106 : decode cX10_look 106 = .ok (.lconst 1, 1) := by decide +kernel
theorem dX10_look_107 : decode cX10_look 107 = .ok (.aload_n 0, 1) := by decide +kernel
theorem dX10_look_108 : decode cX10_look 108 = .ok (.getfield 70, 3) := by decide +kernel
theorem dX10_look_111 : decode cX10_look 111 = .ok (.iload 8, 2) := by decide +kernel
theorem dX10_look_113 : decode cX10_look 113 = .ok (.iaload, 1) := by decide +kernel
theorem dX10_look_114 : decode cX10_look 114 = .ok (.lshl, 1) := by decide +kernel
theorem dX10_look_115 : decode cX10_look 115 = .ok (.lor, 1) := by decide +kernel
theorem dX10_look_116 : decode cX10_look 116 = .ok (.lastore, 1) := by decide +kernel
theorem dX10_look_117 : decode cX10_look 117 = .ok (.iinc 8 1, 3) := by decide +kernel
theorem dX10_look_120 : decode cX10_look 120 = .ok (.goto (-29), 3) := by decide +kernel
theorem dX10_look_123 : decode cX10_look 123 = .ok (.iinc 7 1, 3) := by decide +kernel
theorem dX10_look_126 : decode cX10_look 126 = .ok (.goto (-66), 3) := by decide +kernel
theorem dX10_look_129 : decode cX10_look 129 = .ok (.iconst (-1), 1) := by decide +kernel
theorem dX10_look_130 : decode cX10_look 130 = .ok (.istore 7, 2) := by decide +kernel
theorem dX10_look_132 : decode cX10_look 132 = .ok (.iconst 0, 1) := by decide +kernel
theorem dX10_look_133 : decode cX10_look 133 = .ok (.istore 8, 2) := by decide +kernel
theorem dX10_look_135 : decode cX10_look 135 = .ok (.iconst 1, 1) := by decide +kernel
theorem dX10_look_136 : decode cX10_look 136 = .ok (.istore 9, 2) := by decide +kernel
theorem dX10_look_138 : decode cX10_look 138 = .ok (.iload 9, 2) := by decide +kernel
theorem dX10_look_140 : decode cX10_look 140 = .ok (.bipush 20, 2) := by decide +kernel
theorem dX10_look_142 : decode cX10_look 142 = .ok (.if_icmp .gt 36, 3) := by decide +kernel
theorem dX10_look_145 : decode cX10_look 145 = .ok (.aload_n 0, 1) := by decide +kernel
theorem dX10_look_146 : decode cX10_look 146 = .ok (.getfield 74, 3) := by decide +kernel
theorem dX10_look_149 : decode cX10_look 149 = .ok (.iload 9, 2) := by decide +kernel
theorem dX10_look_151 : decode cX10_look 151 = .ok (.laload, 1) := by decide +kernel
theorem dX10_look_152 : decode cX10_look 152 = .ok (.invokestatic 352, 3) := by decide +kernel
theorem dX10_look_155 : decode cX10_look 155 = .ok (.istore 10, 2) := by decide +kernel
theorem dX10_look_157 : decode cX10_look 157 = .ok (.iload 10, 2) := by decide +kernel
theorem dX10_look_159 : decode cX10_look 159 = .ok (.iload 8, 2) := by decide +kernel
theorem dX10_look_161 : decode cX10_look 161 = .ok (.if_icmp .le 11, 3) := by decide +kernel
theorem dX10_look_164 : decode cX10_look 164 = .ok (.iload 9, 2) := by decide +kernel
theorem dX10_look_166 : decode cX10_look 166 = .ok (.istore 7, 2) := by decide +kernel
theorem dX10_look_168 : decode cX10_look 168 = .ok (.iload 10, 2) := by decide +kernel
theorem dX10_look_170 : decode cX10_look 170 = .ok (.istore 8, 2) := by decide +kernel
theorem dX10_look_172 : decode cX10_look 172 = .ok (.iinc 9 1, 3) := by decide +kernel
theorem dX10_look_175 : decode cX10_look 175 = .ok (.goto (-37), 3) := by decide +kernel
theorem dX10_look_178 : decode cX10_look 178 = .ok (.iload 4, 2) := by decide +kernel
theorem dX10_look_180 : decode cX10_look 180 = .ok (.ifCond .ne 8, 3) := by decide +kernel
theorem dX10_look_183 : decode cX10_look 183 = .ok (.iload 7, 2) := by decide +kernel
theorem dX10_look_185 : decode cX10_look 185 = .ok (.goto 5, 3) := by decide +kernel
theorem dX10_look_188 : decode cX10_look 188 = .ok (.iload 8, 2) := by decide +kernel
theorem dX10_look_190 : decode cX10_look 190 = .ok (.ireturn, 1) := by decide +kernel
theorem dX10_forget_0 : decode cX10_forget 0 = .ok (.aload_n 0, 1) := by decide +kernel
theorem dX10_forget_1 : decode cX10_forget 1 = .ok (.getfield 31, 3) := by decide +kernel
theorem dX10_forget_4 : decode cX10_forget 4 = .ok (.iconst 0, 1) := by decide +kernel
theorem dX10_forget_5 : decode cX10_forget 5 = .ok (.putfield 129, 3) := by decide +kernel
theorem dX10_forget_8 : decode cX10_forget 8 = .ok (.return_, 1) := by decide +kernel
theorem dX10_dirt_0 : decode cX10_dirt 0 = .ok (.aload_n 0, 1) := by decide +kernel
theorem dX10_dirt_1 : decode cX10_dirt 1 = .ok (.iload_n 1, 1) := by decide +kernel
theorem dX10_dirt_2 : decode cX10_dirt 2 = .ok (.iload_n 2, 1) := by decide +kernel
theorem dX10_dirt_3 : decode cX10_dirt 3 = .ok (.invokevirtual 220, 3) := by decide +kernel
theorem dX10_dirt_6 : decode cX10_dirt 6 = .ok (.istore 6, 2) := by decide +kernel
theorem dX10_dirt_8 : decode cX10_dirt 8 = .ok (.iload_n 3, 1) := by decide +kernel
theorem dX10_dirt_9 : decode cX10_dirt 9 = .ok (.iconst 1, 1) := by decide +kernel
theorem dX10_dirt_10 : decode cX10_dirt 10 = .ok (.if_icmp .lt 24, 3) := by decide +kernel
theorem dX10_dirt_13 : decode cX10_dirt 13 = .ok (.iload_n 3, 1) := by decide +kernel
theorem dX10_dirt_14 : decode cX10_dirt 14 = .ok (.iconst 4, 1) := by decide +kernel
theorem dX10_dirt_15 : decode cX10_dirt 15 = .ok (.if_icmp .gt 19, 3) := by decide +kernel
theorem dX10_dirt_18 : decode cX10_dirt 18 = .ok (.iload 4, 2) := by decide +kernel
theorem dX10_dirt_20 : decode cX10_dirt 20 = .ok (.ifCond .lt 14, 3) := by decide +kernel
theorem dX10_dirt_23 : decode cX10_dirt 23 = .ok (.iload 4, 2) := by decide +kernel
theorem dX10_dirt_25 : decode cX10_dirt 25 = .ok (.bipush 10, 2) := by decide +kernel
theorem dX10_dirt_27 : decode cX10_dirt 27 = .ok (.if_icmp .gt 7, 3) := by decide +kernel
theorem dX10_dirt_30 : decode cX10_dirt 30 = .ok (.iconst 1, 1) := by decide +kernel
theorem dX10_dirt_31 : decode cX10_dirt 31 = .ok (.goto 4, 3) := by decide +kernel
theorem dX10_dirt_34 : decode cX10_dirt 34 = .ok (.iconst 0, 1) := by decide +kernel
theorem dX10_dirt_35 : decode cX10_dirt 35 = .ok (.invokestatic 320, 3) := by decide +kernel
theorem dX10_dirt_38 : decode cX10_dirt 38 = .ok (.iconst 0, 1) := by decide +kernel
theorem dX10_dirt_39 : decode cX10_dirt 39 = .ok (.istore 7, 2) := by decide +kernel
theorem dX10_dirt_41 : decode cX10_dirt 41 = .ok (.iconst 0, 1) := by decide +kernel
theorem dX10_dirt_42 : decode cX10_dirt 42 = .ok (.istore 8, 2) := by decide +kernel
theorem dX10_dirt_44 : decode cX10_dirt 44 = .ok (.iload 8, 2) := by decide +kernel
theorem dX10_dirt_46 : decode cX10_dirt 46 = .ok (.iconst 1, 1) := by decide +kernel
theorem dX10_dirt_47 : decode cX10_dirt 47 = .ok (.iload_n 3, 1) := by decide +kernel
theorem dX10_dirt_48 : decode cX10_dirt 48 = .ok (.ishl, 1) := by decide +kernel
theorem dX10_dirt_49 : decode cX10_dirt 49 = .ok (.if_icmp .ge 79, 3) := by decide +kernel
theorem dX10_dirt_52 : decode cX10_dirt 52 = .ok (.iconst 1, 1) := by decide +kernel
theorem dX10_dirt_53 : decode cX10_dirt 53 = .ok (.istore 9, 2) := by decide +kernel
theorem dX10_dirt_55 : decode cX10_dirt 55 = .ok (.iconst 0, 1) := by decide +kernel
theorem dX10_dirt_56 : decode cX10_dirt 56 = .ok (.istore 10, 2) := by decide +kernel
theorem dX10_dirt_58 : decode cX10_dirt 58 = .ok (.iload 10, 2) := by decide +kernel
theorem dX10_dirt_60 : decode cX10_dirt 60 = .ok (.iload_n 3, 1) := by decide +kernel
theorem dX10_dirt_61 : decode cX10_dirt 61 = .ok (.if_icmp .ge 35, 3) := by decide +kernel
theorem dX10_dirt_64 : decode cX10_dirt 64 = .ok (.iload 9, 2) := by decide +kernel
theorem dX10_dirt_66 : decode cX10_dirt 66 = .ok (.iload 8, 2) := by decide +kernel
theorem dX10_dirt_68 : decode cX10_dirt 68 = .ok (.iload 10, 2) := by decide +kernel
theorem dX10_dirt_70 : decode cX10_dirt 70 = .ok (.ishr, 1) := by decide +kernel
theorem dX10_dirt_71 : decode cX10_dirt 71 = .ok (.iconst 1, 1) := by decide +kernel
theorem dX10_dirt_72 : decode cX10_dirt 72 = .ok (.iand, 1) := by decide +kernel
theorem dX10_dirt_73 : decode cX10_dirt 73 = .ok (.iconst 1, 1) := by decide +kernel
theorem dX10_dirt_74 : decode cX10_dirt 74 = .ok (.if_icmp .ne 8, 3) := by decide +kernel
theorem dX10_dirt_77 : decode cX10_dirt 77 = .ok (.iload 4, 2) := by decide +kernel
theorem dX10_dirt_79 : decode cX10_dirt 79 = .ok (.goto 8, 3) := by decide +kernel
theorem dX10_dirt_82 : decode cX10_dirt 82 = .ok (.bipush 10, 2) := by decide +kernel
theorem dX10_dirt_84 : decode cX10_dirt 84 = .ok (.iload 4, 2) := by decide +kernel
theorem dX10_dirt_86 : decode cX10_dirt 86 = .ok (.isub, 1) := by decide +kernel
theorem dX10_dirt_87 : decode cX10_dirt 87 = .ok (.imul, 1) := by decide +kernel
theorem dX10_dirt_88 : decode cX10_dirt 88 = .ok (.istore 9, 2) := by decide +kernel
theorem dX10_dirt_90 : decode cX10_dirt 90 = .ok (.iinc 10 1, 3) := by decide +kernel
theorem dX10_dirt_93 : decode cX10_dirt 93 = .ok (.goto (-35), 3) := by decide +kernel
theorem dX10_dirt_96 : decode cX10_dirt 96 = .ok (.iload 9, 2) := by decide +kernel
theorem dX10_dirt_98 : decode cX10_dirt 98 = .ok (.ifCond .le 24, 3) := by decide +kernel
theorem dX10_dirt_101 : decode cX10_dirt 101 = .ok (.aload_n 0, 1) := by decide +kernel
theorem dX10_dirt_102 : decode cX10_dirt 102 = .ok (.iload 6, 2) := by decide +kernel
theorem dX10_dirt_104 : decode cX10_dirt 104 = .ok (.iload_n 3, 1) := by decide +kernel
theorem dX10_dirt_105 : decode cX10_dirt 105 = .ok (.iload 8, 2) := by decide +kernel
theorem dX10_dirt_107 : decode cX10_dirt 107 = .ok (.invokevirtual 358, 3) := by decide +kernel
theorem dX10_dirt_110 : decode cX10_dirt 110 = .ok (.iload 5, 2) := by decide +kernel
theorem dX10_dirt_112 : decode cX10_dirt 112 = .ok (.if_icmp .gt 10, 3) := by decide +kernel
theorem dX10_dirt_115 : decode cX10_dirt 115 = .ok (.iload 7, 2) := by decide +kernel
theorem dX10_dirt_117 : decode cX10_dirt 117 = .ok (.iload 9, 2) := by decide +kernel
theorem dX10_dirt_119 : decode cX10_dirt 119 = .ok (.iadd, 1) := by decide +kernel
theorem dX10_dirt_120 : decode cX10_dirt 120 = .ok (.istore 7, 2) := by decide +kernel
theorem dX10_dirt_122 : decode cX10_dirt 122 = .ok (.iinc 8 1, 3) := by decide +kernel
theorem dX10_dirt_125 : decode cX10_dirt 125 = .ok (.goto (-81), 3) := by decide +kernel
theorem dX10_dirt_128 : decode cX10_dirt 128 = .ok (.iload 7, 2) := by decide +kernel
theorem dX10_dirt_130 : decode cX10_dirt 130 = .ok (.ireturn, 1) := by decide +kernel
theorem dX10_years_0 : decode cX10_years 0 = .ok (.iload_n 3, 1) := by decide +kernel
theorem dX10_years_1 : decode cX10_years 1 = .ok (.ifCond .lt 12, 3) := by decide +kernel
theorem dX10_years_4 : decode cX10_years 4 = .ok (.iload_n 3, 1) := by decide +kernel
theorem dX10_years_5 : decode cX10_years 5 = .ok (.iconst 2, 1) := by decide +kernel
theorem dX10_years_6 : decode cX10_years 6 = .ok (.if_icmp .gt 7, 3) := by decide +kernel
theorem dX10_years_9 : decode cX10_years 9 = .ok (.iconst 1, 1) := by decide +kernel
theorem dX10_years_10 : decode cX10_years 10 = .ok (.goto 4, 3) := by decide +kernel
theorem dX10_years_13 : decode cX10_years 13 = .ok (.iconst 0, 1) := by decide +kernel
theorem dX10_years_14 : decode cX10_years 14 = .ok (.invokestatic 204, 3) := by decide +kernel
theorem dX10_years_17 : decode cX10_years 17 = .ok (.iload_n 2, 1) := by decide +kernel
theorem dX10_years_18 : decode cX10_years 18 = .ok (.ifCond .lt 13, 3) := by decide +kernel
theorem dX10_years_21 : decode cX10_years 21 = .ok (.iload_n 2, 1) := by decide +kernel
theorem dX10_years_22 : decode cX10_years 22 = .ok (.bipush 60, 2) := by decide +kernel
theorem dX10_years_24 : decode cX10_years 24 = .ok (.if_icmp .gt 7, 3) := by decide +kernel
theorem dX10_years_27 : decode cX10_years 27 = .ok (.iconst 1, 1) := by decide +kernel
theorem dX10_years_28 : decode cX10_years 28 = .ok (.goto 4, 3) := by decide +kernel
theorem dX10_years_31 : decode cX10_years 31 = .ok (.iconst 0, 1) := by decide +kernel
theorem dX10_years_32 : decode cX10_years 32 = .ok (.invokestatic 320, 3) := by decide +kernel
theorem dX10_years_35 : decode cX10_years 35 = .ok (.aload_n 0, 1) := by decide +kernel
theorem dX10_years_36 : decode cX10_years 36 = .ok (.getfield 41, 3) := by decide +kernel
theorem dX10_years_39 : decode cX10_years 39 = .ok (.aload_n 0, 1) := by decide +kernel
theorem dX10_years_40 : decode cX10_years 40 = .ok (.getfield 31, 3) := by decide +kernel
theorem dX10_years_43 : decode cX10_years 43 = .ok (.getfield 114, 3) := by decide +kernel
theorem dX10_years_46 : decode cX10_years 46 = .ok (.invokevirtual 117, 3) := by decide +kernel
theorem dX10_years_49 : decode cX10_years 49 = .ok (.aload_n 0, 1) := by decide +kernel
theorem dX10_years_50 : decode cX10_years 50 = .ok (.getfield 66, 3) := by decide +kernel
theorem dX10_years_53 : decode cX10_years 53 = .ok (.iload_n 1, 1) := by decide +kernel
theorem dX10_years_54 : decode cX10_years 54 = .ok (.putfield 361, 3) := by decide +kernel
theorem dX10_years_57 : decode cX10_years 57 = .ok (.iconst 0, 1) := by decide +kernel
theorem dX10_years_58 : decode cX10_years 58 = .ok (.istore 4, 2) := by decide +kernel
theorem dX10_years_60 : decode cX10_years 60 = .ok (.iconst 0, 1) := by decide +kernel
theorem dX10_years_61 : decode cX10_years 61 = .ok (.istore 5, 2) := by decide +kernel
theorem dX10_years_63 : decode cX10_years 63 = .ok (.iconst 0, 1) := by decide +kernel
theorem dX10_years_64 : decode cX10_years 64 = .ok (.istore 6, 2) := by decide +kernel
theorem dX10_years_66 : decode cX10_years 66 = .ok (.iload 6, 2) := by decide +kernel
theorem dX10_years_68 : decode cX10_years 68 = .ok (.iload_n 2, 1) := by decide +kernel
theorem dX10_years_69 : decode cX10_years 69 = .ok (.if_icmp .ge 33, 3) := by decide +kernel
theorem dX10_years_72 : decode cX10_years 72 = .ok (.aload_n 0, 1) := by decide +kernel
theorem dX10_years_73 : decode cX10_years 73 = .ok (.invokevirtual 364, 3) := by decide +kernel
theorem dX10_years_76 : decode cX10_years 76 = .ok (.iconst (-1), 1) := by decide +kernel
theorem dX10_years_77 : decode cX10_years 77 = .ok (.if_icmp .ne 6, 3) := by decide +kernel
theorem dX10_years_80 : decode cX10_years 80 = .ok (.iinc 5 1, 3) := by decide +kernel
theorem dX10_years_83 : decode cX10_years 83 = .ok (.iload 4, 2) := by decide +kernel
theorem dX10_years_85 : decode cX10_years 85 = .ok (.aload_n 0, 1) := by decide +kernel
theorem dX10_years_86 : decode cX10_years 86 = .ok (.getfield 41, 3) := by decide +kernel
theorem dX10_years_89 : decode cX10_years 89 = .ok (.iconst 1, 1) := by decide +kernel
theorem dX10_years_90 : decode cX10_years 90 = .ok (.invokevirtual 310, 3) := by decide +kernel
theorem dX10_years_93 : decode cX10_years 93 = .ok (.iadd, 1) := by decide +kernel
theorem dX10_years_94 : decode cX10_years 94 = .ok (.istore 4, 2) := by decide +kernel
theorem dX10_years_96 : decode cX10_years 96 = .ok (.iinc 6 1, 3) := by decide +kernel
theorem dX10_years_99 : decode cX10_years 99 = .ok (.goto (-33), 3) := by decide +kernel
theorem dX10_years_102 : decode cX10_years 102 = .ok (.iload_n 3, 1) := by decide +kernel
theorem dX10_years_103 : decode cX10_years 103 = .ok (.iconst 1, 1) := by decide +kernel
theorem dX10_years_104 : decode cX10_years 104 = .ok (.if_icmp .ne 11, 3) := by decide +kernel
theorem dX10_years_107 : decode cX10_years 107 = .ok (.aload_n 0, 1) := by decide +kernel
theorem dX10_years_108 : decode cX10_years 108 = .ok (.getfield 41, 3) := by decide +kernel
theorem dX10_years_111 : decode cX10_years 111 = .ok (.invokevirtual 161, 3) := by decide +kernel
theorem dX10_years_114 : decode cX10_years 114 = .ok (.ireturn, 1) := by decide +kernel
theorem dX10_years_115 : decode cX10_years 115 = .ok (.iload_n 3, 1) := by decide +kernel
theorem dX10_years_116 : decode cX10_years 116 = .ok (.ifCond .ne 8, 3) := by decide +kernel
theorem dX10_years_119 : decode cX10_years 119 = .ok (.iload 4, 2) := by decide +kernel
theorem dX10_years_121 : decode cX10_years 121 = .ok (.goto 5, 3) := by decide +kernel
theorem dX10_years_124 : decode cX10_years 124 = .ok (.iload 5, 2) := by decide +kernel
theorem dX10_years_126 : decode cX10_years 126 = .ok (.ireturn, 1) := by decide +kernel
theorem dX10_image_0 : decode cX10_image 0 = .ok (.aload_n 0, 1) := by decide +kernel
theorem dX10_image_1 : decode cX10_image 1 = .ok (.getfield 35, 3) := by decide +kernel
theorem dX10_image_4 : decode cX10_image 4 = .ok (.aload_n 0, 1) := by decide +kernel
theorem dX10_image_5 : decode cX10_image 5 = .ok (.getfield 31, 3) := by decide +kernel
theorem dX10_image_8 : decode cX10_image 8 = .ok (.invokevirtual 367, 3) := by decide +kernel
theorem dX10_image_11 : decode cX10_image 11 = .ok (.aload_n 0, 1) := by decide +kernel
theorem dX10_image_12 : decode cX10_image 12 = .ok (.iconst 1, 1) := by decide +kernel
theorem dX10_image_13 : decode cX10_image 13 = .ok (.putfield 78, 3) := by decide +kernel
theorem dX10_image_16 : decode cX10_image 16 = .ok (.return_, 1) := by decide +kernel
theorem dX10_restore_0 : decode cX10_restore 0 = .ok (.aload_n 0, 1) := by decide +kernel
theorem dX10_restore_1 : decode cX10_restore 1 = .ok (.getfield 78, 3) := by decide +kernel
theorem dX10_restore_4 : decode cX10_restore 4 = .ok (.ifCond .ne 5, 3) := by decide +kernel
theorem dX10_restore_7 : decode cX10_restore 7 = .ok (.iconst 0, 1) := by decide +kernel
theorem dX10_restore_8 : decode cX10_restore 8 = .ok (.ireturn, 1) := by decide +kernel
theorem dX10_restore_9 : decode cX10_restore 9 = .ok (.aload_n 0, 1) := by decide +kernel
theorem dX10_restore_10 : decode cX10_restore 10 = .ok (.getfield 31, 3) := by decide +kernel
theorem dX10_restore_13 : decode cX10_restore 13 = .ok (.aload_n 0, 1) := by decide +kernel
theorem dX10_restore_14 : decode cX10_restore 14 = .ok (.getfield 35, 3) := by decide +kernel
theorem dX10_restore_17 : decode cX10_restore 17 = .ok (.invokevirtual 367, 3) := by decide +kernel
theorem dX10_restore_20 : decode cX10_restore 20 = .ok (.iconst 1, 1) := by decide +kernel
theorem dX10_restore_21 : decode cX10_restore 21 = .ok (.ireturn, 1) := by decide +kernel
theorem dX10_mustBe_0 : decode cX10_mustBe 0 = .ok (.iload_n 0, 1) := by decide +kernel
theorem dX10_mustBe_1 : decode cX10_mustBe 1 = .ok (.ifCond .ne 11, 3) := by decide +kernel
theorem dX10_mustBe_4 : decode cX10_mustBe 4 = .ok (.new 201, 3) := by decide +kernel
theorem dX10_mustBe_7 : decode cX10_mustBe 7 = .ok (.dup, 1) := by decide +kernel
theorem dX10_mustBe_8 : decode cX10_mustBe 8 = .ok (.invokespecial 203, 3) := by decide +kernel
theorem dX10_mustBe_11 : decode cX10_mustBe 11 = .ok (.athrow, 1) := by decide +kernel
theorem dX10_mustBe_12 : decode cX10_mustBe 12 = .ok (.return_, 1) := by decide +kernel
theorem dX10_mustFit_0 : decode cX10_mustFit 0 = .ok (.iload_n 0, 1) := by decide +kernel
theorem dX10_mustFit_1 : decode cX10_mustFit 1 = .ok (.ifCond .ne 11, 3) := by decide +kernel
theorem dX10_mustFit_4 : decode cX10_mustFit 4 = .ok (.new 370, 3) := by decide +kernel
theorem dX10_mustFit_7 : decode cX10_mustFit 7 = .ok (.dup, 1) := by decide +kernel
theorem dX10_mustFit_8 : decode cX10_mustFit 8 = .ok (.invokespecial 372, 3) := by decide +kernel
theorem dX10_mustFit_11 : decode cX10_mustFit 11 = .ok (.athrow, 1) := by decide +kernel
theorem dX10_mustFit_12 : decode cX10_mustFit 12 = .ok (.return_, 1) := by decide +kernel
theorem dX10_mustBeCell_0 : decode cX10_mustBeCell 0 = .ok (.iload_n 0, 1) := by decide +kernel
theorem dX10_mustBeCell_1 : decode cX10_mustBeCell 1 = .ok (.ifCond .lt 12, 3) := by decide +kernel
theorem dX10_mustBeCell_4 : decode cX10_mustBeCell 4 = .ok (.iload_n 0, 1) := by decide +kernel
theorem dX10_mustBeCell_5 : decode cX10_mustBeCell 5 = .ok (.iconst 4, 1) := by decide +kernel
theorem dX10_mustBeCell_6 : decode cX10_mustBeCell 6 = .ok (.if_icmp .ge 7, 3) := by decide +kernel
theorem dX10_mustBeCell_9 : decode cX10_mustBeCell 9 = .ok (.iconst 1, 1) := by decide +kernel
theorem dX10_mustBeCell_10 : decode cX10_mustBeCell 10 = .ok (.goto 4, 3) := by decide +kernel
theorem dX10_mustBeCell_13 : decode cX10_mustBeCell 13 = .ok (.iconst 0, 1) := by decide +kernel
theorem dX10_mustBeCell_14 : decode cX10_mustBeCell 14 = .ok (.invokestatic 204, 3) := by decide +kernel
theorem dX10_mustBeCell_17 : decode cX10_mustBeCell 17 = .ok (.return_, 1) := by decide +kernel
theorem dX10_placeOf_0 : decode cX10_placeOf 0 = .ok (.aload_n 0, 1) := by decide +kernel
theorem dX10_placeOf_1 : decode cX10_placeOf 1 = .ok (.getfield 10, 3) := by decide +kernel
theorem dX10_placeOf_4 : decode cX10_placeOf 4 = .ok (.iload_n 1, 1) := by decide +kernel
theorem dX10_placeOf_5 : decode cX10_placeOf 5 = .ok (.iload_n 2, 1) := by decide +kernel
theorem dX10_placeOf_6 : decode cX10_placeOf 6 = .ok (.invokevirtual 373, 3) := by decide +kernel
theorem dX10_placeOf_9 : decode cX10_placeOf 9 = .ok (.istore_n 3, 1) := by decide +kernel
theorem dX10_placeOf_10 : decode cX10_placeOf 10 = .ok (.iload_n 3, 1) := by decide +kernel
theorem dX10_placeOf_11 : decode cX10_placeOf 11 = .ok (.iconst (-1), 1) := by decide +kernel
theorem dX10_placeOf_12 : decode cX10_placeOf 12 = .ok (.if_icmp .eq 7, 3) := by decide +kernel
theorem dX10_placeOf_15 : decode cX10_placeOf 15 = .ok (.iconst 1, 1) := by decide +kernel
theorem dX10_placeOf_16 : decode cX10_placeOf 16 = .ok (.goto 4, 3) := by decide +kernel
theorem dX10_placeOf_19 : decode cX10_placeOf 19 = .ok (.iconst 0, 1) := by decide +kernel
theorem dX10_placeOf_20 : decode cX10_placeOf 20 = .ok (.invokestatic 204, 3) := by decide +kernel
theorem dX10_placeOf_23 : decode cX10_placeOf 23 = .ok (.iload_n 3, 1) := by decide +kernel
theorem dX10_placeOf_24 : decode cX10_placeOf 24 = .ok (.ireturn, 1) := by decide +kernel
theorem dX10_cellOf_0 : decode cX10_cellOf 0 = .ok (.iload_n 0, 1) := by decide +kernel
theorem dX10_cellOf_1 : decode cX10_cellOf 1 = .ok (.bipush 12, 2) := by decide +kernel
theorem dX10_cellOf_3 : decode cX10_cellOf 3 = .ok (.iconst 4, 1) := by decide +kernel
theorem dX10_cellOf_4 : decode cX10_cellOf 4 = .ok (.iload_n 1, 1) := by decide +kernel
theorem dX10_cellOf_5 : decode cX10_cellOf 5 = .ok (.imul, 1) := by decide +kernel
theorem dX10_cellOf_6 : decode cX10_cellOf 6 = .ok (.isub, 1) := by decide +kernel
theorem dX10_cellOf_7 : decode cX10_cellOf 7 = .ok (.ishr, 1) := by decide +kernel
theorem dX10_cellOf_8 : decode cX10_cellOf 8 = .ok (.bipush 15, 2) := by decide +kernel
theorem dX10_cellOf_10 : decode cX10_cellOf 10 = .ok (.iand, 1) := by decide +kernel
theorem dX10_cellOf_11 : decode cX10_cellOf 11 = .ok (.ireturn, 1) := by decide +kernel
theorem dX10_refused_0 : decode cX10_refused 0 = .ok (.aload_n 0, 1) := by decide +kernel
theorem dX10_refused_1 : decode cX10_refused 1 = .ok (.getfield 31, 3) := by decide +kernel
theorem dX10_refused_4 : decode cX10_refused 4 = .ok (.getfield 152, 3) := by decide +kernel
theorem dX10_refused_7 : decode cX10_refused 7 = .ok (.iconst 1, 1) := by decide +kernel
theorem dX10_refused_8 : decode cX10_refused 8 = .ok (.dup2, 1) := by decide +kernel
theorem dX10_refused_9 : decode cX10_refused 9 = .ok (.iaload, 1) := by decide +kernel
theorem dX10_refused_10 : decode cX10_refused 10 = .ok (.iconst 1, 1) := by decide +kernel
theorem dX10_refused_11 : decode cX10_refused 11 = .ok (.iadd, 1) := by decide +kernel
theorem dX10_refused_12 : decode cX10_refused 12 = .ok (.iastore, 1) := by decide +kernel
theorem dX10_refused_13 : decode cX10_refused 13 = .ok (.iconst (-1), 1) := by decide +kernel
theorem dX10_refused_14 : decode cX10_refused 14 = .ok (.ireturn, 1) := by decide +kernel
theorem dX10_acted_0 : decode cX10_acted 0 = .ok (.iload_n 1, 1) := by decide +kernel
theorem dX10_acted_1 : decode cX10_acted 1 = .ok (.iconst (-1), 1) := by decide +kernel
theorem dX10_acted_2 : decode cX10_acted 2 = .ok (.if_icmp .ne 8, 3) := by decide +kernel
theorem dX10_acted_5 : decode cX10_acted 5 = .ok (.aload_n 0, 1) := by decide +kernel
theorem dX10_acted_6 : decode cX10_acted 6 = .ok (.invokevirtual 282, 3) := by decide +kernel
theorem dX10_acted_9 : decode cX10_acted 9 = .ok (.ireturn, 1) := by decide +kernel
theorem dX10_acted_10 : decode cX10_acted 10 = .ok (.aload_n 0, 1) := by decide +kernel
theorem dX10_acted_11 : decode cX10_acted 11 = .ok (.getfield 31, 3) := by decide +kernel
theorem dX10_acted_14 : decode cX10_acted 14 = .ok (.getfield 120, 3) := by decide +kernel
theorem dX10_acted_17 : decode cX10_acted 17 = .ok (.invokevirtual 155, 3) := by decide +kernel
theorem dX10_acted_20 : decode cX10_acted 20 = .ok (.iload_n 1, 1) := by decide +kernel
theorem dX10_acted_21 : decode cX10_acted 21 = .ok (.ireturn, 1) := by decide +kernel
theorem dX10_openText_0 : decode cX10_openText 0 = .ok (.iload_n 1, 1) := by decide +kernel
theorem dX10_openText_1 : decode cX10_openText 1 = .ok (.ifCond .lt 18, 3) := by decide +kernel
theorem dX10_openText_4 : decode cX10_openText 4 = .ok (.iload_n 1, 1) := by decide +kernel
theorem dX10_openText_5 : decode cX10_openText 5 = .ok (.aload_n 0, 1) := by decide +kernel
theorem dX10_openText_6 : decode cX10_openText 6 = .ok (.getfield 22, 3) := by decide +kernel
theorem dX10_openText_9 : decode cX10_openText 9 = .ok (.getfield 86, 3) := by decide +kernel
theorem dX10_openText_12 : decode cX10_openText 12 = .ok (.if_icmp .gt 7, 3) := by decide +kernel
theorem dX10_openText_15 : decode cX10_openText 15 = .ok (.iconst 1, 1) := by decide +kernel
theorem dX10_openText_16 : decode cX10_openText 16 = .ok (.goto 4, 3) := by decide +kernel
theorem dX10_openText_19 : decode cX10_openText 19 = .ok (.iconst 0, 1) := by decide +kernel
theorem dX10_openText_20 : decode cX10_openText 20 = .ok (.invokestatic 320, 3) := by decide +kernel
theorem dX10_openText_23 : decode cX10_openText 23 = .ok (.aload_n 0, 1) := by decide +kernel
theorem dX10_openText_24 : decode cX10_openText 24 = .ok (.getfield 22, 3) := by decide +kernel
theorem dX10_openText_27 : decode cX10_openText 27 = .ok (.iload_n 1, 1) := by decide +kernel
theorem dX10_openText_28 : decode cX10_openText 28 = .ok (.invokevirtual 139, 3) := by decide +kernel
theorem dX10_openText_31 : decode cX10_openText 31 = .ok (.return_, 1) := by decide +kernel
theorem dX10_closeText_0 : decode cX10_closeText 0 = .ok (.aload_n 0, 1) := by decide +kernel
theorem dX10_closeText_1 : decode cX10_closeText 1 = .ok (.getfield 22, 3) := by decide +kernel
theorem dX10_closeText_4 : decode cX10_closeText 4 = .ok (.iconst 0, 1) := by decide +kernel
theorem dX10_closeText_5 : decode cX10_closeText 5 = .ok (.putfield 86, 3) := by decide +kernel
theorem dX10_closeText_8 : decode cX10_closeText 8 = .ok (.aload_n 0, 1) := by decide +kernel
theorem dX10_closeText_9 : decode cX10_closeText 9 = .ok (.iconst (-1), 1) := by decide +kernel
theorem dX10_closeText_10 : decode cX10_closeText 10 = .ok (.putfield 82, 3) := by decide +kernel
theorem dX10_closeText_13 : decode cX10_closeText 13 = .ok (.aload_n 0, 1) := by decide +kernel
theorem dX10_closeText_14 : decode cX10_closeText 14 = .ok (.getfield 22, 3) := by decide +kernel
theorem dX10_closeText_17 : decode cX10_closeText 17 = .ok (.getfield 102, 3) := by decide +kernel
theorem dX10_closeText_20 : decode cX10_closeText 20 = .ok (.ifCond .eq 27, 3) := by decide +kernel
theorem dX10_closeText_23 : decode cX10_closeText 23 = .ok (.aload_n 0, 1) := by decide +kernel
theorem dX10_closeText_24 : decode cX10_closeText 24 = .ok (.aload_n 0, 1) := by decide +kernel
theorem dX10_closeText_25 : decode cX10_closeText 25 = .ok (.getfield 22, 3) := by decide +kernel
theorem dX10_closeText_28 : decode cX10_closeText 28 = .ok (.getfield 376, 3) := by decide +kernel
theorem dX10_closeText_31 : decode cX10_closeText 31 = .ok (.putfield 82, 3) := by decide +kernel
theorem dX10_closeText_34 : decode cX10_closeText 34 = .ok (.aload_n 0, 1) := by decide +kernel
theorem dX10_closeText_35 : decode cX10_closeText 35 = .ok (.getfield 31, 3) := by decide +kernel
theorem dX10_closeText_38 : decode cX10_closeText 38 = .ok (.getfield 152, 3) := by decide +kernel
theorem dX10_closeText_41 : decode cX10_closeText 41 = .ok (.iconst 0, 1) := by decide +kernel
theorem dX10_closeText_42 : decode cX10_closeText 42 = .ok (.dup2, 1) := by decide +kernel
theorem dX10_closeText_43 : decode cX10_closeText 43 = .ok (.iaload, 1) := by decide +kernel
theorem dX10_closeText_44 : decode cX10_closeText 44 = .ok (.iconst 1, 1) := by decide +kernel
theorem dX10_closeText_45 : decode cX10_closeText 45 = .ok (.iadd, 1) := by decide +kernel
theorem dX10_closeText_46 : decode cX10_closeText 46 = .ok (.iastore, 1) := by decide +kernel
theorem dX10_closeText_47 : decode cX10_closeText 47 = .ok (.return_, 1) := by decide +kernel
theorem dX10_obey_0 : decode cX10_obey 0 = .ok (.aload_n 0, 1) := by decide +kernel
theorem dX10_obey_1 : decode cX10_obey 1 = .ok (.getfield 31, 3) := by decide +kernel
theorem dX10_obey_4 : decode cX10_obey 4 = .ok (.getfield 114, 3) := by decide +kernel
theorem dX10_obey_7 : decode cX10_obey 7 = .ok (.astore_n 1, 1) := by decide +kernel
theorem dX10_obey_8 : decode cX10_obey 8 = .ok (.aload_n 0, 1) := by decide +kernel
theorem dX10_obey_9 : decode cX10_obey 9 = .ok (.getfield 59, 3) := by decide +kernel
theorem dX10_obey_12 : decode cX10_obey 12 = .ok (.getfield 379, 3) := by decide +kernel
theorem dX10_obey_15 : decode cX10_obey 15 = .ok (.tableswitch 136 0 4 #[33, 59, 82, 94, 106], 33) := by decide +kernel
theorem dX10_obey_48 : decode cX10_obey 48 = .ok (.aload_n 1, 1) := by decide +kernel
theorem dX10_obey_49 : decode cX10_obey 49 = .ok (.aload_n 0, 1) := by decide +kernel
theorem dX10_obey_50 : decode cX10_obey 50 = .ok (.getfield 59, 3) := by decide +kernel
theorem dX10_obey_53 : decode cX10_obey 53 = .ok (.getfield 382, 3) := by decide +kernel
theorem dX10_obey_56 : decode cX10_obey 56 = .ok (.aload_n 0, 1) := by decide +kernel
theorem dX10_obey_57 : decode cX10_obey 57 = .ok (.getfield 59, 3) := by decide +kernel
theorem dX10_obey_60 : decode cX10_obey 60 = .ok (.getfield 385, 3) := by decide +kernel
theorem dX10_obey_63 : decode cX10_obey 63 = .ok (.aload_n 0, 1) := by decide +kernel
theorem dX10_obey_64 : decode cX10_obey 64 = .ok (.getfield 59, 3) := by decide +kernel
theorem dX10_obey_67 : decode cX10_obey 67 = .ok (.getfield 388, 3) := by decide +kernel
theorem dX10_obey_70 : decode cX10_obey 70 = .ok (.invokevirtual 285, 3) := by decide +kernel
theorem dX10_obey_73 : decode cX10_obey 73 = .ok (.ireturn, 1) := by decide +kernel
theorem dX10_obey_74 : decode cX10_obey 74 = .ok (.aload_n 1, 1) := by decide +kernel
theorem dX10_obey_75 : decode cX10_obey 75 = .ok (.aload_n 0, 1) := by decide +kernel
theorem dX10_obey_76 : decode cX10_obey 76 = .ok (.getfield 59, 3) := by decide +kernel
theorem dX10_obey_79 : decode cX10_obey 79 = .ok (.getfield 382, 3) := by decide +kernel
theorem dX10_obey_82 : decode cX10_obey 82 = .ok (.aload_n 1, 1) := by decide +kernel
theorem dX10_obey_83 : decode cX10_obey 83 = .ok (.aload_n 0, 1) := by decide +kernel
theorem dX10_obey_84 : decode cX10_obey 84 = .ok (.getfield 59, 3) := by decide +kernel
theorem dX10_obey_87 : decode cX10_obey 87 = .ok (.getfield 391, 3) := by decide +kernel
theorem dX10_obey_90 : decode cX10_obey 90 = .ok (.invokevirtual 226, 3) := by decide +kernel
theorem dX10_obey_93 : decode cX10_obey 93 = .ok (.invokevirtual 292, 3) := by decide +kernel
theorem dX10_obey_96 : decode cX10_obey 96 = .ok (.ireturn, 1) := by decide +kernel
theorem dX10_obey_97 : decode cX10_obey 97 = .ok (.aload_n 1, 1) := by decide +kernel
theorem dX10_obey_98 : decode cX10_obey 98 = .ok (.aload_n 0, 1) := by decide +kernel
theorem dX10_obey_99 : decode cX10_obey 99 = .ok (.getfield 59, 3) := by decide +kernel
theorem dX10_obey_102 : decode cX10_obey 102 = .ok (.getfield 382, 3) := by decide +kernel
theorem dX10_obey_105 : decode cX10_obey 105 = .ok (.invokevirtual 295, 3) := by decide +kernel
theorem dX10_obey_108 : decode cX10_obey 108 = .ok (.ireturn, 1) := by decide +kernel
theorem dX10_obey_109 : decode cX10_obey 109 = .ok (.aload_n 1, 1) := by decide +kernel
theorem dX10_obey_110 : decode cX10_obey 110 = .ok (.aload_n 0, 1) := by decide +kernel
theorem dX10_obey_111 : decode cX10_obey 111 = .ok (.getfield 59, 3) := by decide +kernel
theorem dX10_obey_114 : decode cX10_obey 114 = .ok (.getfield 385, 3) := by decide +kernel
theorem dX10_obey_117 : decode cX10_obey 117 = .ok (.invokevirtual 304, 3) := by decide +kernel
theorem dX10_obey_120 : decode cX10_obey 120 = .ok (.ireturn, 1) := by decide +kernel
theorem dX10_obey_121 : decode cX10_obey 121 = .ok (.aload_n 1, 1) := by decide +kernel
theorem dX10_obey_122 : decode cX10_obey 122 = .ok (.aload_n 0, 1) := by decide +kernel
theorem dX10_obey_123 : decode cX10_obey 123 = .ok (.getfield 59, 3) := by decide +kernel
theorem dX10_obey_126 : decode cX10_obey 126 = .ok (.getfield 385, 3) := by decide +kernel
theorem dX10_obey_129 : decode cX10_obey 129 = .ok (.invokevirtual 307, 3) := by decide +kernel
theorem dX10_obey_132 : decode cX10_obey 132 = .ok (.ifCond .eq 17, 3) := by decide +kernel
theorem dX10_obey_135 : decode cX10_obey 135 = .ok (.aload_n 1, 1) := by decide +kernel
theorem dX10_obey_136 : decode cX10_obey 136 = .ok (.aload_n 0, 1) := by decide +kernel
theorem dX10_obey_137 : decode cX10_obey 137 = .ok (.getfield 59, 3) := by decide +kernel
theorem dX10_obey_140 : decode cX10_obey 140 = .ok (.getfield 385, 3) := by decide +kernel
theorem dX10_obey_143 : decode cX10_obey 143 = .ok (.invokevirtual 310, 3) := by decide +kernel
theorem dX10_obey_146 : decode cX10_obey 146 = .ok (.goto 4, 3) := by decide +kernel
theorem dX10_obey_149 : decode cX10_obey 149 = .ok (.iconst (-1), 1) := by decide +kernel
theorem dX10_obey_150 : decode cX10_obey 150 = .ok (.ireturn, 1) := by decide +kernel
theorem dX10_obey_151 : decode cX10_obey 151 = .ok (.iconst (-1), 1) := by decide +kernel
theorem dX10_obey_152 : decode cX10_obey 152 = .ok (.ireturn, 1) := by decide +kernel
theorem dX10_fits_0 : decode cX10_fits 0 = .ok (.aload_n 0, 1) := by decide +kernel
theorem dX10_fits_1 : decode cX10_fits 1 = .ok (.getfield 41, 3) := by decide +kernel
theorem dX10_fits_4 : decode cX10_fits 4 = .ok (.aload_n 0, 1) := by decide +kernel
theorem dX10_fits_5 : decode cX10_fits 5 = .ok (.getfield 31, 3) := by decide +kernel
theorem dX10_fits_8 : decode cX10_fits 8 = .ok (.getfield 114, 3) := by decide +kernel
theorem dX10_fits_11 : decode cX10_fits 11 = .ok (.invokevirtual 117, 3) := by decide +kernel
theorem dX10_fits_14 : decode cX10_fits 14 = .ok (.iload_n 3, 1) := by decide +kernel
theorem dX10_fits_15 : decode cX10_fits 15 = .ok (.iconst (-1), 1) := by decide +kernel
theorem dX10_fits_16 : decode cX10_fits 16 = .ok (.if_icmp .eq 19, 3) := by decide +kernel
theorem dX10_fits_19 : decode cX10_fits 19 = .ok (.aload_n 0, 1) := by decide +kernel
theorem dX10_fits_20 : decode cX10_fits 20 = .ok (.getfield 41, 3) := by decide +kernel
theorem dX10_fits_23 : decode cX10_fits 23 = .ok (.iload_n 1, 1) := by decide +kernel
theorem dX10_fits_24 : decode cX10_fits 24 = .ok (.iload_n 2, 1) := by decide +kernel
theorem dX10_fits_25 : decode cX10_fits 25 = .ok (.iload_n 3, 1) := by decide +kernel
theorem dX10_fits_26 : decode cX10_fits 26 = .ok (.invokevirtual 285, 3) := by decide +kernel
theorem dX10_fits_29 : decode cX10_fits 29 = .ok (.iconst (-1), 1) := by decide +kernel
theorem dX10_fits_30 : decode cX10_fits 30 = .ok (.if_icmp .ne 5, 3) := by decide +kernel
theorem dX10_fits_33 : decode cX10_fits 33 = .ok (.iconst 0, 1) := by decide +kernel
theorem dX10_fits_34 : decode cX10_fits 34 = .ok (.ireturn, 1) := by decide +kernel
theorem dX10_fits_35 : decode cX10_fits 35 = .ok (.iconst 0, 1) := by decide +kernel
theorem dX10_fits_36 : decode cX10_fits 36 = .ok (.istore 5, 2) := by decide +kernel
theorem dX10_fits_38 : decode cX10_fits 38 = .ok (.iload 5, 2) := by decide +kernel
theorem dX10_fits_40 : decode cX10_fits 40 = .ok (.iload 4, 2) := by decide +kernel
theorem dX10_fits_42 : decode cX10_fits 42 = .ok (.if_icmp .gt 47, 3) := by decide +kernel
theorem dX10_fits_45 : decode cX10_fits 45 = .ok (.iload 5, 2) := by decide +kernel
theorem dX10_fits_47 : decode cX10_fits 47 = .ok (.aload_n 0, 1) := by decide +kernel
theorem dX10_fits_48 : decode cX10_fits 48 = .ok (.getfield 70, 3) := by decide +kernel
theorem dX10_fits_51 : decode cX10_fits 51 = .ok (.arraylength, 1) := by decide +kernel
theorem dX10_fits_52 : decode cX10_fits 52 = .ok (.if_icmp .ge 37, 3) := by decide +kernel
theorem dX10_fits_55 : decode cX10_fits 55 = .ok (.iload 5, 2) := by decide +kernel
theorem dX10_fits_57 : decode cX10_fits 57 = .ok (.ifCond .le 12, 3) := by decide +kernel
theorem dX10_fits_60 : decode cX10_fits 60 = .ok (.aload_n 0, 1) := by decide +kernel
theorem dX10_fits_61 : decode cX10_fits 61 = .ok (.getfield 41, 3) := by decide +kernel
theorem dX10_fits_64 : decode cX10_fits 64 = .ok (.iconst 1, 1) := by decide +kernel
theorem dX10_fits_65 : decode cX10_fits 65 = .ok (.invokevirtual 310, 3) := by decide +kernel
theorem dX10_fits_68 : decode cX10_fits 68 = .ok (.pop, 1) := by decide +kernel
theorem dX10_fits_69 : decode cX10_fits 69 = .ok (.aload_n 0, 1) := by decide +kernel
theorem dX10_fits_70 : decode cX10_fits 70 = .ok (.getfield 70, 3) := by decide +kernel
theorem dX10_fits_73 : decode cX10_fits 73 = .ok (.iload 5, 2) := by decide +kernel
theorem dX10_fits_75 : decode cX10_fits 75 = .ok (.aload_n 0, 1) := by decide +kernel
theorem dX10_fits_76 : decode cX10_fits 76 = .ok (.getfield 41, 3) := by decide +kernel
theorem dX10_fits_79 : decode cX10_fits 79 = .ok (.invokevirtual 161, 3) := by decide +kernel
theorem dX10_fits_82 : decode cX10_fits 82 = .ok (.iastore, 1) := by decide +kernel
theorem dX10_fits_83 : decode cX10_fits 83 = .ok (.iinc 5 1, 3) := by decide +kernel
theorem dX10_fits_86 : decode cX10_fits 86 = .ok (.goto (-48), 3) := by decide +kernel
theorem dX10_fits_89 : decode cX10_fits 89 = .ok (.iconst 0, 1) := by decide +kernel
theorem dX10_fits_90 : decode cX10_fits 90 = .ok (.istore 5, 2) := by decide +kernel
theorem dX10_fits_92 : decode cX10_fits 92 = .ok (.iload 5, 2) := by decide +kernel
theorem dX10_fits_94 : decode cX10_fits 94 = .ok (.aload_n 0, 1) := by decide +kernel
theorem dX10_fits_95 : decode cX10_fits 95 = .ok (.getfield 31, 3) := by decide +kernel
theorem dX10_fits_98 : decode cX10_fits 98 = .ok (.getfield 129, 3) := by decide +kernel
theorem dX10_fits_101 : decode cX10_fits 101 = .ok (.if_icmp .ge 39, 3) := by decide +kernel
theorem dX10_fits_104 : decode cX10_fits 104 = .ok (.aload_n 0, 1) := by decide +kernel
theorem dX10_fits_105 : decode cX10_fits 105 = .ok (.getfield 70, 3) := by decide +kernel
theorem dX10_fits_108 : decode cX10_fits 108 = .ok (.aload_n 0, 1) := by decide +kernel
theorem dX10_fits_109 : decode cX10_fits 109 = .ok (.getfield 31, 3) := by decide +kernel
theorem dX10_fits_112 : decode cX10_fits 112 = .ok (.getfield 333, 3) := by decide +kernel
theorem dX10_fits_115 : decode cX10_fits 115 = .ok (.iload 5, 2) := by decide +kernel
theorem dX10_fits_117 : decode cX10_fits 117 = .ok (.iaload, 1) := by decide +kernel
theorem dX10_fits_118 : decode cX10_fits 118 = .ok (.iaload, 1) := by decide +kernel
theorem dX10_fits_119 : decode cX10_fits 119 = .ok (.aload_n 0, 1) := by decide +kernel
theorem dX10_fits_120 : decode cX10_fits 120 = .ok (.getfield 31, 3) := by decide +kernel
theorem dX10_fits_123 : decode cX10_fits 123 = .ok (.getfield 336, 3) := by decide +kernel
theorem dX10_fits_126 : decode cX10_fits 126 = .ok (.iload 5, 2) := by decide +kernel
theorem dX10_fits_128 : decode cX10_fits 128 = .ok (.iaload, 1) := by decide +kernel
theorem dX10_fits_129 : decode cX10_fits 129 = .ok (.if_icmp .eq 5, 3) := by decide +kernel
theorem dX10_fits_132 : decode cX10_fits 132 = .ok (.iconst 0, 1) := by decide +kernel
theorem dX10_fits_133 : decode cX10_fits 133 = .ok (.ireturn, 1) := by decide +kernel
theorem dX10_fits_134 : decode cX10_fits 134 = .ok (.iinc 5 1, 3) := by decide +kernel
theorem dX10_fits_137 : decode cX10_fits 137 = .ok (.goto (-45), 3) := by decide +kernel
theorem dX10_fits_140 : decode cX10_fits 140 = .ok (.iconst 1, 1) := by decide +kernel
theorem dX10_fits_141 : decode cX10_fits 141 = .ok (.ireturn, 1) := by decide +kernel
theorem dX10_usedBy_0 : decode cX10_usedBy 0 = .ok (.aload_n 0, 1) := by decide +kernel
theorem dX10_usedBy_1 : decode cX10_usedBy 1 = .ok (.getfield 41, 3) := by decide +kernel
theorem dX10_usedBy_4 : decode cX10_usedBy 4 = .ok (.aload_n 0, 1) := by decide +kernel
theorem dX10_usedBy_5 : decode cX10_usedBy 5 = .ok (.getfield 31, 3) := by decide +kernel
theorem dX10_usedBy_8 : decode cX10_usedBy 8 = .ok (.getfield 114, 3) := by decide +kernel
theorem dX10_usedBy_11 : decode cX10_usedBy 11 = .ok (.invokevirtual 117, 3) := by decide +kernel
theorem dX10_usedBy_14 : decode cX10_usedBy 14 = .ok (.iconst 0, 1) := by decide +kernel
theorem dX10_usedBy_15 : decode cX10_usedBy 15 = .ok (.istore 4, 2) := by decide +kernel
theorem dX10_usedBy_17 : decode cX10_usedBy 17 = .ok (.iload 4, 2) := by decide +kernel
theorem dX10_usedBy_19 : decode cX10_usedBy 19 = .ok (.iload_n 2, 1) := by decide +kernel
theorem dX10_usedBy_20 : decode cX10_usedBy 20 = .ok (.if_icmp .ge 55, 3) := by decide +kernel
theorem dX10_usedBy_23 : decode cX10_usedBy 23 = .ok (.iload_n 3, 1) := by decide +kernel
theorem dX10_usedBy_24 : decode cX10_usedBy 24 = .ok (.iload 4, 2) := by decide +kernel
theorem dX10_usedBy_26 : decode cX10_usedBy 26 = .ok (.ishr, 1) := by decide +kernel
theorem dX10_usedBy_27 : decode cX10_usedBy 27 = .ok (.iconst 1, 1) := by decide +kernel
theorem dX10_usedBy_28 : decode cX10_usedBy 28 = .ok (.iand, 1) := by decide +kernel
theorem dX10_usedBy_29 : decode cX10_usedBy 29 = .ok (.iconst 1, 1) := by decide +kernel
theorem dX10_usedBy_30 : decode cX10_usedBy 30 = .ok (.if_icmp .ne 30, 3) := by decide +kernel
theorem dX10_usedBy_33 : decode cX10_usedBy 33 = .ok (.aload_n 0, 1) := by decide +kernel
theorem dX10_usedBy_34 : decode cX10_usedBy 34 = .ok (.getfield 41, 3) := by decide +kernel
theorem dX10_usedBy_37 : decode cX10_usedBy 37 = .ok (.iload_n 1, 1) := by decide +kernel
theorem dX10_usedBy_38 : decode cX10_usedBy 38 = .ok (.iconst 0, 1) := by decide +kernel
theorem dX10_usedBy_39 : decode cX10_usedBy 39 = .ok (.aload_n 0, 1) := by decide +kernel
theorem dX10_usedBy_40 : decode cX10_usedBy 40 = .ok (.getfield 41, 3) := by decide +kernel
theorem dX10_usedBy_43 : decode cX10_usedBy 43 = .ok (.iload_n 1, 1) := by decide +kernel
theorem dX10_usedBy_44 : decode cX10_usedBy 44 = .ok (.invokevirtual 226, 3) := by decide +kernel
theorem dX10_usedBy_47 : decode cX10_usedBy 47 = .ok (.iconst 0, 1) := by decide +kernel
theorem dX10_usedBy_48 : decode cX10_usedBy 48 = .ok (.invokestatic 230, 3) := by decide +kernel
theorem dX10_usedBy_51 : decode cX10_usedBy 51 = .ok (.iconst 1, 1) := by decide +kernel
theorem dX10_usedBy_52 : decode cX10_usedBy 52 = .ok (.iadd, 1) := by decide +kernel
theorem dX10_usedBy_53 : decode cX10_usedBy 53 = .ok (.bipush 15, 2) := by decide +kernel
theorem dX10_usedBy_55 : decode cX10_usedBy 55 = .ok (.iand, 1) := by decide +kernel
theorem dX10_usedBy_56 : decode cX10_usedBy 56 = .ok (.invokevirtual 285, 3) := by decide +kernel
theorem dX10_usedBy_59 : decode cX10_usedBy 59 = .ok (.pop, 1) := by decide +kernel
theorem dX10_usedBy_60 : decode cX10_usedBy 60 = .ok (.aload_n 0, 1) := by decide +kernel
theorem dX10_usedBy_61 : decode cX10_usedBy 61 = .ok (.getfield 41, 3) := by decide +kernel
theorem dX10_usedBy_64 : decode cX10_usedBy 64 = .ok (.iconst 1, 1) := by decide +kernel
theorem dX10_usedBy_65 : decode cX10_usedBy 65 = .ok (.invokevirtual 310, 3) := by decide +kernel
theorem dX10_usedBy_68 : decode cX10_usedBy 68 = .ok (.pop, 1) := by decide +kernel
theorem dX10_usedBy_69 : decode cX10_usedBy 69 = .ok (.iinc 4 1, 3) := by decide +kernel
theorem dX10_usedBy_72 : decode cX10_usedBy 72 = .ok (.goto (-55), 3) := by decide +kernel
theorem dX10_usedBy_75 : decode cX10_usedBy 75 = .ok (.aload_n 0, 1) := by decide +kernel
theorem dX10_usedBy_76 : decode cX10_usedBy 76 = .ok (.getfield 41, 3) := by decide +kernel
theorem dX10_usedBy_79 : decode cX10_usedBy 79 = .ok (.invokevirtual 161, 3) := by decide +kernel
theorem dX10_usedBy_82 : decode cX10_usedBy 82 = .ok (.ireturn, 1) := by decide +kernel
theorem dX10_befallsByChance_0 : decode cX10_befallsByChance 0 = .ok (.aload_n 0, 1) := by decide +kernel
theorem dX10_befallsByChance_1 : decode cX10_befallsByChance 1 = .ok (.getfield 66, 3) := by decide +kernel
theorem dX10_befallsByChance_4 : decode cX10_befallsByChance 4 = .ok (.iconst 4, 1) := by decide +kernel
theorem dX10_befallsByChance_5 : decode cX10_befallsByChance 5 = .ok (.invokevirtual 394, 3) := by decide +kernel
theorem dX10_befallsByChance_8 : decode cX10_befallsByChance 8 = .ok (.istore_n 1, 1) := by decide +kernel
theorem dX10_befallsByChance_9 : decode cX10_befallsByChance 9 = .ok (.iload_n 1, 1) := by decide +kernel
theorem dX10_befallsByChance_10 : decode cX10_befallsByChance 10 = .ok (.iconst 3, 1) := by decide +kernel
theorem dX10_befallsByChance_11 : decode cX10_befallsByChance 11 = .ok (.if_icmp .eq 13, 3) := by decide +kernel
theorem dX10_befallsByChance_14 : decode cX10_befallsByChance 14 = .ok (.aload_n 0, 1) := by decide +kernel
theorem dX10_befallsByChance_15 : decode cX10_befallsByChance 15 = .ok (.getfield 10, 3) := by decide +kernel
theorem dX10_befallsByChance_18 : decode cX10_befallsByChance 18 = .ok (.getfield 170, 3) := by decide +kernel
theorem dX10_befallsByChance_21 : decode cX10_befallsByChance 21 = .ok (.ifCond .ne 5, 3) := by decide +kernel
theorem dX10_befallsByChance_24 : decode cX10_befallsByChance 24 = .ok (.iconst 0, 1) := by decide +kernel
theorem dX10_befallsByChance_25 : decode cX10_befallsByChance 25 = .ok (.ireturn, 1) := by decide +kernel
theorem dX10_befallsByChance_26 : decode cX10_befallsByChance 26 = .ok (.aload_n 0, 1) := by decide +kernel
theorem dX10_befallsByChance_27 : decode cX10_befallsByChance 27 = .ok (.getfield 66, 3) := by decide +kernel
theorem dX10_befallsByChance_30 : decode cX10_befallsByChance 30 = .ok (.aload_n 0, 1) := by decide +kernel
theorem dX10_befallsByChance_31 : decode cX10_befallsByChance 31 = .ok (.getfield 10, 3) := by decide +kernel
theorem dX10_befallsByChance_34 : decode cX10_befallsByChance 34 = .ok (.getfield 170, 3) := by decide +kernel
theorem dX10_befallsByChance_37 : decode cX10_befallsByChance 37 = .ok (.invokevirtual 394, 3) := by decide +kernel
theorem dX10_befallsByChance_40 : decode cX10_befallsByChance 40 = .ok (.istore_n 2, 1) := by decide +kernel
theorem dX10_befallsByChance_41 : decode cX10_befallsByChance 41 = .ok (.iload_n 1, 1) := by decide +kernel
theorem dX10_befallsByChance_42 : decode cX10_befallsByChance 42 = .ok (.ifCond .ne 30, 3) := by decide +kernel
theorem dX10_befallsByChance_45 : decode cX10_befallsByChance 45 = .ok (.aload_n 0, 1) := by decide +kernel
theorem dX10_befallsByChance_46 : decode cX10_befallsByChance 46 = .ok (.getfield 66, 3) := by decide +kernel
theorem dX10_befallsByChance_49 : decode cX10_befallsByChance 49 = .ok (.iconst 4, 1) := by decide +kernel
theorem dX10_befallsByChance_50 : decode cX10_befallsByChance 50 = .ok (.invokevirtual 394, 3) := by decide +kernel
theorem dX10_befallsByChance_53 : decode cX10_befallsByChance 53 = .ok (.istore_n 3, 1) := by decide +kernel
theorem dX10_befallsByChance_54 : decode cX10_befallsByChance 54 = .ok (.aload_n 0, 1) := by decide +kernel
theorem dX10_befallsByChance_55 : decode cX10_befallsByChance 55 = .ok (.getfield 41, 3) := by decide +kernel
theorem dX10_befallsByChance_58 : decode cX10_befallsByChance 58 = .ok (.iload_n 2, 1) := by decide +kernel
theorem dX10_befallsByChance_59 : decode cX10_befallsByChance 59 = .ok (.iload_n 3, 1) := by decide +kernel
theorem dX10_befallsByChance_60 : decode cX10_befallsByChance 60 = .ok (.aload_n 0, 1) := by decide +kernel
theorem dX10_befallsByChance_61 : decode cX10_befallsByChance 61 = .ok (.getfield 66, 3) := by decide +kernel
theorem dX10_befallsByChance_64 : decode cX10_befallsByChance 64 = .ok (.iconst 4, 1) := by decide +kernel
theorem dX10_befallsByChance_65 : decode cX10_befallsByChance 65 = .ok (.invokevirtual 394, 3) := by decide +kernel
theorem dX10_befallsByChance_68 : decode cX10_befallsByChance 68 = .ok (.invokevirtual 285, 3) := by decide +kernel
theorem dX10_befallsByChance_71 : decode cX10_befallsByChance 71 = .ok (.ireturn, 1) := by decide +kernel
theorem dX10_befallsByChance_72 : decode cX10_befallsByChance 72 = .ok (.iload_n 1, 1) := by decide +kernel
theorem dX10_befallsByChance_73 : decode cX10_befallsByChance 73 = .ok (.iconst 1, 1) := by decide +kernel
theorem dX10_befallsByChance_74 : decode cX10_befallsByChance 74 = .ok (.if_icmp .ne 33, 3) := by decide +kernel
theorem dX10_befallsByChance_77 : decode cX10_befallsByChance 77 = .ok (.aload_n 0, 1) := by decide +kernel
theorem dX10_befallsByChance_78 : decode cX10_befallsByChance 78 = .ok (.getfield 41, 3) := by decide +kernel
theorem dX10_befallsByChance_81 : decode cX10_befallsByChance 81 = .ok (.iload_n 2, 1) := by decide +kernel
theorem dX10_befallsByChance_82 : decode cX10_befallsByChance 82 = .ok (.aload_n 0, 1) := by decide +kernel
theorem dX10_befallsByChance_83 : decode cX10_befallsByChance 83 = .ok (.getfield 41, 3) := by decide +kernel
theorem dX10_befallsByChance_86 : decode cX10_befallsByChance 86 = .ok (.aload_n 0, 1) := by decide +kernel
theorem dX10_befallsByChance_87 : decode cX10_befallsByChance 87 = .ok (.getfield 66, 3) := by decide +kernel
theorem dX10_befallsByChance_90 : decode cX10_befallsByChance 90 = .ok (.aload_n 0, 1) := by decide +kernel
theorem dX10_befallsByChance_91 : decode cX10_befallsByChance 91 = .ok (.getfield 10, 3) := by decide +kernel
theorem dX10_befallsByChance_94 : decode cX10_befallsByChance 94 = .ok (.getfield 170, 3) := by decide +kernel
theorem dX10_befallsByChance_97 : decode cX10_befallsByChance 97 = .ok (.invokevirtual 394, 3) := by decide +kernel
theorem dX10_befallsByChance_100 : decode cX10_befallsByChance 100 = .ok (.invokevirtual 226, 3) := by decide +kernel
theorem dX10_befallsByChance_103 : decode cX10_befallsByChance 103 = .ok (.invokevirtual 292, 3) := by decide +kernel
theorem dX10_befallsByChance_106 : decode cX10_befallsByChance 106 = .ok (.ireturn, 1) := by decide +kernel
theorem dX10_befallsByChance_107 : decode cX10_befallsByChance 107 = .ok (.aload_n 0, 1) := by decide +kernel
theorem dX10_befallsByChance_108 : decode cX10_befallsByChance 108 = .ok (.getfield 41, 3) := by decide +kernel
theorem dX10_befallsByChance_111 : decode cX10_befallsByChance 111 = .ok (.iload_n 2, 1) := by decide +kernel
theorem dX10_befallsByChance_112 : decode cX10_befallsByChance 112 = .ok (.invokevirtual 295, 3) := by decide +kernel
theorem dX10_befallsByChance_115 : decode cX10_befallsByChance 115 = .ok (.pop, 1) := by decide +kernel
theorem dX10_befallsByChance_116 : decode cX10_befallsByChance 116 = .ok (.iconst 0, 1) := by decide +kernel
theorem dX10_befallsByChance_117 : decode cX10_befallsByChance 117 = .ok (.ireturn, 1) := by decide +kernel
