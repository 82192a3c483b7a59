theorem dX11_becomes_233 : decode cX11_becomes 233 = .ok (.getfield 66, 3) := by decide +kernel
theorem dX11_becomes_236 : decode cX11_becomes 236 = .ok (.iload_n 2, 1) := by decide +kernel
theorem dX11_becomes_237 : decode cX11_becomes 237 = .ok (.iaload, 1) := by decide +kernel
theorem dX11_becomes_238 : decode cX11_becomes 238 = .ok (.imul, 1) := by decide +kernel
theorem dX11_becomes_239 : decode cX11_becomes 239 = .ok (.iload_n 3, 1) := by decide +kernel
theorem dX11_becomes_240 : decode cX11_becomes 240 = .ok (.iadd, 1) := by decide +kernel
theorem dX11_becomes_241 : decode cX11_becomes 241 = .ok (.iaload, 1) := by decide +kernel
theorem dX11_becomes_242 : decode cX11_becomes 242 = .ok (.iastore, 1) := by decide +kernel
theorem dX11_becomes_243 : decode cX11_becomes 243 = .ok (.iinc 3 1, 3) := by decide +kernel
theorem dX11_becomes_246 : decode cX11_becomes 246 = .ok (.goto (-29), 3) := by decide +kernel
theorem dX11_becomes_249 : decode cX11_becomes 249 = .ok (.aload_n 0, 1) := by decide +kernel
theorem dX11_becomes_250 : decode cX11_becomes 250 = .ok (.iconst 0, 1) := by decide +kernel
theorem dX11_becomes_251 : decode cX11_becomes 251 = .ok (.iload_n 1, 1) := by decide +kernel
theorem dX11_becomes_252 : decode cX11_becomes 252 = .ok (.aload_n 0, 1) := by decide +kernel
theorem dX11_becomes_253 : decode cX11_becomes 253 = .ok (.getfield 66, 3) := by decide +kernel
theorem dX11_becomes_256 : decode cX11_becomes 256 = .ok (.iload_n 2, 1) := by decide +kernel
theorem dX11_becomes_257 : decode cX11_becomes 257 = .ok (.iaload, 1) := by decide +kernel
theorem dX11_becomes_258 : decode cX11_becomes 258 = .ok (.invokevirtual 155, 3) := by decide +kernel
theorem dX11_becomes_261 : decode cX11_becomes 261 = .ok (.aload_n 0, 1) := by decide +kernel
theorem dX11_becomes_262 : decode cX11_becomes 262 = .ok (.iconst 0, 1) := by decide +kernel
theorem dX11_becomes_263 : decode cX11_becomes 263 = .ok (.aload_n 0, 1) := by decide +kernel
theorem dX11_becomes_264 : decode cX11_becomes 264 = .ok (.getfield 66, 3) := by decide +kernel
theorem dX11_becomes_267 : decode cX11_becomes 267 = .ok (.iload_n 2, 1) := by decide +kernel
theorem dX11_becomes_268 : decode cX11_becomes 268 = .ok (.iaload, 1) := by decide +kernel
theorem dX11_becomes_269 : decode cX11_becomes 269 = .ok (.invokevirtual 159, 3) := by decide +kernel
theorem dX11_becomes_272 : decode cX11_becomes 272 = .ok (.iinc 1 1, 3) := by decide +kernel
theorem dX11_becomes_275 : decode cX11_becomes 275 = .ok (.goto (-120), 3) := by decide +kernel
theorem dX11_becomes_278 : decode cX11_becomes 278 = .ok (.aload_n 0, 1) := by decide +kernel
theorem dX11_becomes_279 : decode cX11_becomes 279 = .ok (.aload_n 0, 1) := by decide +kernel
theorem dX11_becomes_280 : decode cX11_becomes 280 = .ok (.aload_n 0, 1) := by decide +kernel
theorem dX11_becomes_281 : decode cX11_becomes 281 = .ok (.aload_n 0, 1) := by decide +kernel
theorem dX11_becomes_282 : decode cX11_becomes 282 = .ok (.iconst 0, 1) := by decide +kernel
theorem dX11_becomes_283 : decode cX11_becomes 283 = .ok (.dup_x1, 1) := by decide +kernel
theorem dX11_becomes_284 : decode cX11_becomes 284 = .ok (.putfield 343, 3) := by decide +kernel
theorem dX11_becomes_287 : decode cX11_becomes 287 = .ok (.dup_x1, 1) := by decide +kernel
theorem dX11_becomes_288 : decode cX11_becomes 288 = .ok (.putfield 346, 3) := by decide +kernel
theorem dX11_becomes_291 : decode cX11_becomes 291 = .ok (.dup_x1, 1) := by decide +kernel
theorem dX11_becomes_292 : decode cX11_becomes 292 = .ok (.putfield 349, 3) := by decide +kernel
theorem dX11_becomes_295 : decode cX11_becomes 295 = .ok (.putfield 352, 3) := by decide +kernel
theorem dX11_becomes_298 : decode cX11_becomes 298 = .ok (.return_, 1) := by decide +kernel
theorem dX11_feed_0 : decode cX11_feed 0 = .ok (.aload_n 0, 1) := by decide +kernel
theorem dX11_feed_1 : decode cX11_feed 1 = .ok (.iconst 0, 1) := by decide +kernel
theorem dX11_feed_2 : decode cX11_feed 2 = .ok (.putfield 88, 3) := by decide +kernel
theorem dX11_feed_5 : decode cX11_feed 5 = .ok (.aload_n 0, 1) := by decide +kernel
theorem dX11_feed_6 : decode cX11_feed 6 = .ok (.getfield 355, 3) := by decide +kernel
theorem dX11_feed_9 : decode cX11_feed 9 = .ok (.bipush 20, 2) := by decide +kernel
theorem dX11_feed_11 : decode cX11_feed 11 = .ok (.iadd, 1) := by decide +kernel
theorem dX11_feed_12 : decode cX11_feed 12 = .ok (.sipush 700, 3) := by decide +kernel
theorem dX11_feed_15 : decode cX11_feed 15 = .ok (.if_icmp .le 5, 3) := by decide +kernel
theorem dX11_feed_18 : decode cX11_feed 18 = .ok (.iconst (-1), 1) := by decide +kernel
theorem dX11_feed_19 : decode cX11_feed 19 = .ok (.ireturn, 1) := by decide +kernel
theorem dX11_feed_20 : decode cX11_feed 20 = .ok (.iconst 0, 1) := by decide +kernel
theorem dX11_feed_21 : decode cX11_feed 21 = .ok (.istore 6, 2) := by decide +kernel
theorem dX11_feed_23 : decode cX11_feed 23 = .ok (.iload 6, 2) := by decide +kernel
theorem dX11_feed_25 : decode cX11_feed 25 = .ok (.bipush 20, 2) := by decide +kernel
theorem dX11_feed_27 : decode cX11_feed 27 = .ok (.if_icmp .ge 86, 3) := by decide +kernel
theorem dX11_feed_30 : decode cX11_feed 30 = .ok (.iload 6, 2) := by decide +kernel
theorem dX11_feed_32 : decode cX11_feed 32 = .ok (.iconst 4, 1) := by decide +kernel
theorem dX11_feed_33 : decode cX11_feed 33 = .ok (.if_icmp .ge 7, 3) := by decide +kernel
theorem dX11_feed_36 : decode cX11_feed 36 = .ok (.iload_n 1, 1) := by decide +kernel
theorem dX11_feed_37 : decode cX11_feed 37 = .ok (.goto 39, 3) := by decide +kernel
theorem dX11_feed_40 : decode cX11_feed 40 = .ok (.iload 6, 2) := by decide +kernel
theorem dX11_feed_42 : decode cX11_feed 42 = .ok (.bipush 8, 2) := by decide +kernel
theorem dX11_feed_44 : decode cX11_feed 44 = .ok (.if_icmp .ge 7, 3) := by decide +kernel
theorem dX11_feed_47 : decode cX11_feed 47 = .ok (.iload_n 2, 1) := by decide +kernel
theorem dX11_feed_48 : decode cX11_feed 48 = .ok (.goto 28, 3) := by decide +kernel
theorem dX11_feed_51 : decode cX11_feed 51 = .ok (.iload 6, 2) := by decide +kernel
theorem dX11_feed_53 : decode cX11_feed 53 = .ok (.bipush 12, 2) := by decide +kernel
theorem dX11_feed_55 : decode cX11_feed 55 = .ok (.if_icmp .ge 7, 3) := by decide +kernel
theorem dX11_feed_58 : decode cX11_feed 58 = .ok (.iload_n 3, 1) := by decide +kernel
theorem dX11_feed_59 : decode cX11_feed 59 = .ok (.goto 17, 3) := by decide +kernel
theorem dX11_feed_62 : decode cX11_feed 62 = .ok (.iload 6, 2) := by decide +kernel
theorem dX11_feed_64 : decode cX11_feed 64 = .ok (.bipush 16, 2) := by decide +kernel
theorem dX11_feed_66 : decode cX11_feed 66 = .ok (.if_icmp .ge 8, 3) := by decide +kernel
theorem dX11_feed_69 : decode cX11_feed 69 = .ok (.iload 4, 2) := by decide +kernel
theorem dX11_feed_71 : decode cX11_feed 71 = .ok (.goto 5, 3) := by decide +kernel
theorem dX11_feed_74 : decode cX11_feed 74 = .ok (.iload 5, 2) := by decide +kernel
theorem dX11_feed_76 : decode cX11_feed 76 = .ok (.istore 7, 2) := by decide +kernel
theorem dX11_feed_78 : decode cX11_feed 78 = .ok (.aload_n 0, 1) := by decide +kernel
theorem dX11_feed_79 : decode cX11_feed 79 = .ok (.getfield 48, 3) := by decide +kernel
theorem dX11_feed_82 : decode cX11_feed 82 = .ok (.aload_n 0, 1) := by decide +kernel
theorem dX11_feed_83 : decode cX11_feed 83 = .ok (.getfield 355, 3) := by decide +kernel
theorem dX11_feed_86 : decode cX11_feed 86 = .ok (.iload 6, 2) := by decide +kernel
theorem dX11_feed_88 : decode cX11_feed 88 = .ok (.iadd, 1) := by decide +kernel
theorem dX11_feed_89 : decode cX11_feed 89 = .ok (.iload 7, 2) := by decide +kernel
theorem dX11_feed_91 : decode cX11_feed 91 = .ok (.bipush 24, 2) := by decide +kernel
theorem dX11_feed_93 : decode cX11_feed 93 = .ok (.bipush 8, 2) := by decide +kernel
theorem dX11_feed_95 : decode cX11_feed 95 = .ok (.iload 6, 2) := by decide +kernel
theorem dX11_feed_97 : decode cX11_feed 97 = .ok (.iconst 4, 1) := by decide +kernel
theorem dX11_feed_98 : decode cX11_feed 98 = .ok (.irem, 1) := by decide +kernel
theorem dX11_feed_99 : decode cX11_feed 99 = .ok (.imul, 1) := by decide +kernel
theorem dX11_feed_100 : decode cX11_feed 100 = .ok (.isub, 1) := by decide +kernel
theorem dX11_feed_101 : decode cX11_feed 101 = .ok (.ishr, 1) := by decide +kernel
theorem dX11_feed_102 : decode cX11_feed 102 = .ok (.sipush 255, 3) := by decide +kernel
theorem dX11_feed_105 : decode cX11_feed 105 = .ok (.iand, 1) := by decide +kernel
theorem dX11_feed_106 : decode cX11_feed 106 = .ok (.iastore, 1) := by decide +kernel
theorem dX11_feed_107 : decode cX11_feed 107 = .ok (.iinc 6 1, 3) := by decide +kernel
theorem dX11_feed_110 : decode cX11_feed 110 = .ok (.goto (-87), 3) := by decide +kernel
theorem dX11_feed_113 : decode cX11_feed 113 = .ok (.aload_n 0, 1) := by decide +kernel
theorem dX11_feed_114 : decode cX11_feed 114 = .ok (.dup, 1) := by decide +kernel
theorem dX11_feed_115 : decode cX11_feed 115 = .ok (.getfield 355, 3) := by decide +kernel
theorem dX11_feed_118 : decode cX11_feed 118 = .ok (.bipush 20, 2) := by decide +kernel
theorem dX11_feed_120 : decode cX11_feed 120 = .ok (.iadd, 1) := by decide +kernel
theorem dX11_feed_121 : decode cX11_feed 121 = .ok (.putfield 355, 3) := by decide +kernel
theorem dX11_feed_124 : decode cX11_feed 124 = .ok (.aload_n 0, 1) := by decide +kernel
theorem dX11_feed_125 : decode cX11_feed 125 = .ok (.getfield 355, 3) := by decide +kernel
theorem dX11_feed_128 : decode cX11_feed 128 = .ok (.ireturn, 1) := by decide +kernel
theorem dX11_reads_0 : decode cX11_reads 0 = .ok (.aload_n 0, 1) := by decide +kernel
theorem dX11_reads_1 : decode cX11_reads 1 = .ok (.iconst 0, 1) := by decide +kernel
theorem dX11_reads_2 : decode cX11_reads 2 = .ok (.putfield 88, 3) := by decide +kernel
theorem dX11_reads_5 : decode cX11_reads 5 = .ok (.aload_n 0, 1) := by decide +kernel
theorem dX11_reads_6 : decode cX11_reads 6 = .ok (.iload_n 1, 1) := by decide +kernel
theorem dX11_reads_7 : decode cX11_reads 7 = .ok (.ifCond .lt 15, 3) := by decide +kernel
theorem dX11_reads_10 : decode cX11_reads 10 = .ok (.iload_n 1, 1) := by decide +kernel
theorem dX11_reads_11 : decode cX11_reads 11 = .ok (.aload_n 0, 1) := by decide +kernel
theorem dX11_reads_12 : decode cX11_reads 12 = .ok (.getfield 355, 3) := by decide +kernel
theorem dX11_reads_15 : decode cX11_reads 15 = .ok (.if_icmp .gt 7, 3) := by decide +kernel
theorem dX11_reads_18 : decode cX11_reads 18 = .ok (.iconst 1, 1) := by decide +kernel
theorem dX11_reads_19 : decode cX11_reads 19 = .ok (.goto 4, 3) := by decide +kernel
theorem dX11_reads_22 : decode cX11_reads 22 = .ok (.iconst 0, 1) := by decide +kernel
theorem dX11_reads_23 : decode cX11_reads 23 = .ok (.iconst 1, 1) := by decide +kernel
theorem dX11_reads_24 : decode cX11_reads 24 = .ok (.invokevirtual 358, 3) := by decide +kernel
theorem dX11_reads_27 : decode cX11_reads 27 = .ok (.ifCond .ne 5, 3) := by decide +kernel
theorem dX11_reads_30 : decode cX11_reads 30 = .ok (.iconst 0, 1) := by decide +kernel
theorem dX11_reads_31 : decode cX11_reads 31 = .ok (.ireturn, 1) := by decide +kernel
theorem dX11_reads_32 : decode cX11_reads 32 = .ok (.aload_n 0, 1) := by decide +kernel
theorem dX11_reads_33 : decode cX11_reads 33 = .ok (.iconst 0, 1) := by decide +kernel
theorem dX11_reads_34 : decode cX11_reads 34 = .ok (.putfield 355, 3) := by decide +kernel
theorem dX11_reads_37 : decode cX11_reads 37 = .ok (.aload_n 0, 1) := by decide +kernel
theorem dX11_reads_38 : decode cX11_reads 38 = .ok (.iload_n 1, 1) := by decide +kernel
theorem dX11_reads_39 : decode cX11_reads 39 = .ok (.invokevirtual 361, 3) := by decide +kernel
theorem dX11_reads_42 : decode cX11_reads 42 = .ok (.iconst 1, 1) := by decide +kernel
theorem dX11_reads_43 : decode cX11_reads 43 = .ok (.ireturn, 1) := by decide +kernel
theorem dX11_machine_0 : decode cX11_machine 0 = .ok (.aload_n 0, 1) := by decide +kernel
theorem dX11_machine_1 : decode cX11_machine 1 = .ok (.iload_n 1, 1) := by decide +kernel
theorem dX11_machine_2 : decode cX11_machine 2 = .ok (.invokevirtual 364, 3) := by decide +kernel
theorem dX11_machine_5 : decode cX11_machine 5 = .ok (.ifCond .ne 5, 3) := by decide +kernel
theorem dX11_machine_8 : decode cX11_machine 8 = .ok (.iconst 0, 1) := by decide +kernel
theorem dX11_machine_9 : decode cX11_machine 9 = .ok (.ireturn, 1) := by decide +kernel
theorem dX11_machine_10 : decode cX11_machine 10 = .ok (.aload_n 0, 1) := by decide +kernel
theorem dX11_machine_11 : decode cX11_machine 11 = .ok (.invokevirtual 367, 3) := by decide +kernel
theorem dX11_machine_14 : decode cX11_machine 14 = .ok (.aload_n 0, 1) := by decide +kernel
theorem dX11_machine_15 : decode cX11_machine 15 = .ok (.getfield 279, 3) := by decide +kernel
theorem dX11_machine_18 : decode cX11_machine 18 = .ok (.ifCond .ne 21, 3) := by decide +kernel
theorem dX11_machine_21 : decode cX11_machine 21 = .ok (.aload_n 0, 1) := by decide +kernel
theorem dX11_machine_22 : decode cX11_machine 22 = .ok (.getfield 269, 3) := by decide +kernel
theorem dX11_machine_25 : decode cX11_machine 25 = .ok (.ifCond .eq 14, 3) := by decide +kernel
theorem dX11_machine_28 : decode cX11_machine 28 = .ok (.aload_n 0, 1) := by decide +kernel
theorem dX11_machine_29 : decode cX11_machine 29 = .ok (.invokevirtual 370, 3) := by decide +kernel
theorem dX11_machine_32 : decode cX11_machine 32 = .ok (.aload_n 0, 1) := by decide +kernel
theorem dX11_machine_33 : decode cX11_machine 33 = .ok (.invokevirtual 373, 3) := by decide +kernel
theorem dX11_machine_36 : decode cX11_machine 36 = .ok (.goto (-22), 3) := by decide +kernel
theorem dX11_machine_39 : decode cX11_machine 39 = .ok (.aload_n 0, 1) := by decide +kernel
theorem dX11_machine_40 : decode cX11_machine 40 = .ok (.getfield 279, 3) := by decide +kernel
theorem dX11_machine_43 : decode cX11_machine 43 = .ok (.ifCond .eq 18, 3) := by decide +kernel
theorem dX11_machine_46 : decode cX11_machine 46 = .ok (.aload_n 0, 1) := by decide +kernel
theorem dX11_machine_47 : decode cX11_machine 47 = .ok (.getfield 20, 3) := by decide +kernel
theorem dX11_machine_50 : decode cX11_machine 50 = .ok (.iconst 0, 1) := by decide +kernel
theorem dX11_machine_51 : decode cX11_machine 51 = .ok (.dup2, 1) := by decide +kernel
theorem dX11_machine_52 : decode cX11_machine 52 = .ok (.iaload, 1) := by decide +kernel
theorem dX11_machine_53 : decode cX11_machine 53 = .ok (.iconst 1, 1) := by decide +kernel
theorem dX11_machine_54 : decode cX11_machine 54 = .ok (.iadd, 1) := by decide +kernel
theorem dX11_machine_55 : decode cX11_machine 55 = .ok (.iastore, 1) := by decide +kernel
theorem dX11_machine_56 : decode cX11_machine 56 = .ok (.aload_n 0, 1) := by decide +kernel
theorem dX11_machine_57 : decode cX11_machine 57 = .ok (.getfield 279, 3) := by decide +kernel
theorem dX11_machine_60 : decode cX11_machine 60 = .ok (.ireturn, 1) := by decide +kernel
theorem dX11_machine_61 : decode cX11_machine 61 = .ok (.aload_n 0, 1) := by decide +kernel
theorem dX11_machine_62 : decode cX11_machine 62 = .ok (.invokevirtual 376, 3) := by decide +kernel
theorem dX11_machine_65 : decode cX11_machine 65 = .ok (.iconst 0, 1) := by decide +kernel
theorem dX11_machine_66 : decode cX11_machine 66 = .ok (.ireturn, 1) := by decide +kernel
theorem dX11_pageThere_0 : decode cX11_pageThere 0 = .ok (.aload_n 0, 1) := by decide +kernel
theorem dX11_pageThere_1 : decode cX11_pageThere 1 = .ok (.aload_n 0, 1) := by decide +kernel
theorem dX11_pageThere_2 : decode cX11_pageThere 2 = .ok (.getfield 269, 3) := by decide +kernel
theorem dX11_pageThere_5 : decode cX11_pageThere 5 = .ok (.iconst 2, 1) := by decide +kernel
theorem dX11_pageThere_6 : decode cX11_pageThere 6 = .ok (.if_icmp .ne 7, 3) := by decide +kernel
theorem dX11_pageThere_9 : decode cX11_pageThere 9 = .ok (.iconst 1, 1) := by decide +kernel
theorem dX11_pageThere_10 : decode cX11_pageThere 10 = .ok (.goto 4, 3) := by decide +kernel
theorem dX11_pageThere_13 : decode cX11_pageThere 13 = .ok (.iconst 0, 1) := by decide +kernel
theorem dX11_pageThere_14 : decode cX11_pageThere 14 = .ok (.iconst 1, 1) := by decide +kernel
theorem dX11_pageThere_15 : decode cX11_pageThere 15 = .ok (.invokevirtual 282, 3) := by decide +kernel
theorem dX11_pageThere_18 : decode cX11_pageThere 18 = .ok (.ifCond .eq 48, 3) := by decide +kernel
theorem dX11_pageThere_21 : decode cX11_pageThere 21 = .ok (.aload_n 0, 1) := by decide +kernel
theorem dX11_pageThere_22 : decode cX11_pageThere 22 = .ok (.aload_n 0, 1) := by decide +kernel
theorem dX11_pageThere_23 : decode cX11_pageThere 23 = .ok (.getfield 266, 3) := by decide +kernel
theorem dX11_pageThere_26 : decode cX11_pageThere 26 = .ok (.iconst 4, 1) := by decide +kernel
theorem dX11_pageThere_27 : decode cX11_pageThere 27 = .ok (.if_icmp .ge 7, 3) := by decide +kernel
theorem dX11_pageThere_30 : decode cX11_pageThere 30 = .ok (.iconst 1, 1) := by decide +kernel
theorem dX11_pageThere_31 : decode cX11_pageThere 31 = .ok (.goto 4, 3) := by decide +kernel
theorem dX11_pageThere_34 : decode cX11_pageThere 34 = .ok (.iconst 0, 1) := by decide +kernel
theorem dX11_pageThere_35 : decode cX11_pageThere 35 = .ok (.iconst 2, 1) := by decide +kernel
theorem dX11_pageThere_36 : decode cX11_pageThere 36 = .ok (.invokevirtual 282, 3) := by decide +kernel
theorem dX11_pageThere_39 : decode cX11_pageThere 39 = .ok (.ifCond .eq 27, 3) := by decide +kernel
theorem dX11_pageThere_42 : decode cX11_pageThere 42 = .ok (.aload_n 0, 1) := by decide +kernel
theorem dX11_pageThere_43 : decode cX11_pageThere 43 = .ok (.aload_n 0, 1) := by decide +kernel
theorem dX11_pageThere_44 : decode cX11_pageThere 44 = .ok (.getfield 266, 3) := by decide +kernel
theorem dX11_pageThere_47 : decode cX11_pageThere 47 = .ok (.aload_n 0, 1) := by decide +kernel
theorem dX11_pageThere_48 : decode cX11_pageThere 48 = .ok (.getfield 340, 3) := by decide +kernel
theorem dX11_pageThere_51 : decode cX11_pageThere 51 = .ok (.if_icmp .ge 7, 3) := by decide +kernel
theorem dX11_pageThere_54 : decode cX11_pageThere 54 = .ok (.iconst 1, 1) := by decide +kernel
theorem dX11_pageThere_55 : decode cX11_pageThere 55 = .ok (.goto 4, 3) := by decide +kernel
theorem dX11_pageThere_58 : decode cX11_pageThere 58 = .ok (.iconst 0, 1) := by decide +kernel
theorem dX11_pageThere_59 : decode cX11_pageThere 59 = .ok (.iconst 3, 1) := by decide +kernel
theorem dX11_pageThere_60 : decode cX11_pageThere 60 = .ok (.invokevirtual 282, 3) := by decide +kernel
theorem dX11_pageThere_63 : decode cX11_pageThere 63 = .ok (.ifCond .ne 5, 3) := by decide +kernel
theorem dX11_pageThere_66 : decode cX11_pageThere 66 = .ok (.iconst (-1), 1) := by decide +kernel
theorem dX11_pageThere_67 : decode cX11_pageThere 67 = .ok (.ireturn, 1) := by decide +kernel
theorem dX11_pageThere_68 : decode cX11_pageThere 68 = .ok (.aload_n 0, 1) := by decide +kernel
theorem dX11_pageThere_69 : decode cX11_pageThere 69 = .ok (.getfield 266, 3) := by decide +kernel
theorem dX11_pageThere_72 : decode cX11_pageThere 72 = .ok (.istore_n 1, 1) := by decide +kernel
theorem dX11_pageThere_73 : decode cX11_pageThere 73 = .ok (.aload_n 0, 1) := by decide +kernel
theorem dX11_pageThere_74 : decode cX11_pageThere 74 = .ok (.invokevirtual 290, 3) := by decide +kernel
theorem dX11_pageThere_77 : decode cX11_pageThere 77 = .ok (.aload_n 0, 1) := by decide +kernel
theorem dX11_pageThere_78 : decode cX11_pageThere 78 = .ok (.aload_n 0, 1) := by decide +kernel
theorem dX11_pageThere_79 : decode cX11_pageThere 79 = .ok (.getfield 269, 3) := by decide +kernel
theorem dX11_pageThere_82 : decode cX11_pageThere 82 = .ok (.iconst 2, 1) := by decide +kernel
theorem dX11_pageThere_83 : decode cX11_pageThere 83 = .ok (.if_icmp .ne 7, 3) := by decide +kernel
theorem dX11_pageThere_86 : decode cX11_pageThere 86 = .ok (.iconst 1, 1) := by decide +kernel
theorem dX11_pageThere_87 : decode cX11_pageThere 87 = .ok (.goto 4, 3) := by decide +kernel
theorem dX11_pageThere_90 : decode cX11_pageThere 90 = .ok (.iconst 0, 1) := by decide +kernel
theorem dX11_pageThere_91 : decode cX11_pageThere 91 = .ok (.iconst 1, 1) := by decide +kernel
theorem dX11_pageThere_92 : decode cX11_pageThere 92 = .ok (.invokevirtual 282, 3) := by decide +kernel
theorem dX11_pageThere_95 : decode cX11_pageThere 95 = .ok (.ifCond .eq 51, 3) := by decide +kernel
theorem dX11_pageThere_98 : decode cX11_pageThere 98 = .ok (.aload_n 0, 1) := by decide +kernel
theorem dX11_pageThere_99 : decode cX11_pageThere 99 = .ok (.aload_n 0, 1) := by decide +kernel
theorem dX11_pageThere_100 : decode cX11_pageThere 100 = .ok (.getfield 266, 3) := by decide +kernel
theorem dX11_pageThere_103 : decode cX11_pageThere 103 = .ok (.bipush 12, 2) := by decide +kernel
theorem dX11_pageThere_105 : decode cX11_pageThere 105 = .ok (.if_icmp .ge 7, 3) := by decide +kernel
theorem dX11_pageThere_108 : decode cX11_pageThere 108 = .ok (.iconst 1, 1) := by decide +kernel
theorem dX11_pageThere_109 : decode cX11_pageThere 109 = .ok (.goto 4, 3) := by decide +kernel
theorem dX11_pageThere_112 : decode cX11_pageThere 112 = .ok (.iconst 0, 1) := by decide +kernel
theorem dX11_pageThere_113 : decode cX11_pageThere 113 = .ok (.iconst 2, 1) := by decide +kernel
theorem dX11_pageThere_114 : decode cX11_pageThere 114 = .ok (.invokevirtual 282, 3) := by decide +kernel
theorem dX11_pageThere_117 : decode cX11_pageThere 117 = .ok (.ifCond .eq 29, 3) := by decide +kernel
theorem dX11_pageThere_120 : decode cX11_pageThere 120 = .ok (.aload_n 0, 1) := by decide +kernel
theorem dX11_pageThere_121 : decode cX11_pageThere 121 = .ok (.aload_n 0, 1) := by decide +kernel
theorem dX11_pageThere_122 : decode cX11_pageThere 122 = .ok (.getfield 266, 3) := by decide +kernel
theorem dX11_pageThere_125 : decode cX11_pageThere 125 = .ok (.aload_n 0, 1) := by decide +kernel
theorem dX11_pageThere_126 : decode cX11_pageThere 126 = .ok (.getfield 36, 3) := by decide +kernel
theorem dX11_pageThere_129 : decode cX11_pageThere 129 = .ok (.iload_n 1, 1) := by decide +kernel
theorem dX11_pageThere_130 : decode cX11_pageThere 130 = .ok (.iaload, 1) := by decide +kernel
theorem dX11_pageThere_131 : decode cX11_pageThere 131 = .ok (.if_icmp .ge 7, 3) := by decide +kernel
theorem dX11_pageThere_134 : decode cX11_pageThere 134 = .ok (.iconst 1, 1) := by decide +kernel
theorem dX11_pageThere_135 : decode cX11_pageThere 135 = .ok (.goto 4, 3) := by decide +kernel
theorem dX11_pageThere_138 : decode cX11_pageThere 138 = .ok (.iconst 0, 1) := by decide +kernel
theorem dX11_pageThere_139 : decode cX11_pageThere 139 = .ok (.iconst 3, 1) := by decide +kernel
theorem dX11_pageThere_140 : decode cX11_pageThere 140 = .ok (.invokevirtual 282, 3) := by decide +kernel
theorem dX11_pageThere_143 : decode cX11_pageThere 143 = .ok (.ifCond .ne 5, 3) := by decide +kernel
theorem dX11_pageThere_146 : decode cX11_pageThere 146 = .ok (.iconst (-1), 1) := by decide +kernel
theorem dX11_pageThere_147 : decode cX11_pageThere 147 = .ok (.ireturn, 1) := by decide +kernel
theorem dX11_pageThere_148 : decode cX11_pageThere 148 = .ok (.aload_n 0, 1) := by decide +kernel
theorem dX11_pageThere_149 : decode cX11_pageThere 149 = .ok (.getfield 42, 3) := by decide +kernel
theorem dX11_pageThere_152 : decode cX11_pageThere 152 = .ok (.iload_n 1, 1) := by decide +kernel
theorem dX11_pageThere_153 : decode cX11_pageThere 153 = .ok (.iaload, 1) := by decide +kernel
theorem dX11_pageThere_154 : decode cX11_pageThere 154 = .ok (.aload_n 0, 1) := by decide +kernel
theorem dX11_pageThere_155 : decode cX11_pageThere 155 = .ok (.getfield 266, 3) := by decide +kernel
theorem dX11_pageThere_158 : decode cX11_pageThere 158 = .ok (.iadd, 1) := by decide +kernel
theorem dX11_pageThere_159 : decode cX11_pageThere 159 = .ok (.istore_n 2, 1) := by decide +kernel
theorem dX11_pageThere_160 : decode cX11_pageThere 160 = .ok (.aload_n 0, 1) := by decide +kernel
theorem dX11_pageThere_161 : decode cX11_pageThere 161 = .ok (.invokevirtual 290, 3) := by decide +kernel
theorem dX11_pageThere_164 : decode cX11_pageThere 164 = .ok (.iload_n 2, 1) := by decide +kernel
theorem dX11_pageThere_165 : decode cX11_pageThere 165 = .ok (.ireturn, 1) := by decide +kernel
theorem dX11_order_0 : decode cX11_order 0 = .ok (.iconst 4, 1) := by decide +kernel
theorem dX11_order_1 : decode cX11_order 1 = .ok (.aload_n 0, 1) := by decide +kernel
theorem dX11_order_2 : decode cX11_order 2 = .ok (.getfield 379, 3) := by decide +kernel
theorem dX11_order_5 : decode cX11_order 5 = .ok (.imul, 1) := by decide +kernel
theorem dX11_order_6 : decode cX11_order 6 = .ok (.istore_n 1, 1) := by decide +kernel
theorem dX11_order_7 : decode cX11_order 7 = .ok (.aload_n 0, 1) := by decide +kernel
theorem dX11_order_8 : decode cX11_order 8 = .ok (.aload_n 0, 1) := by decide +kernel
theorem dX11_order_9 : decode cX11_order 9 = .ok (.getfield 269, 3) := by decide +kernel
theorem dX11_order_12 : decode cX11_order 12 = .ok (.iconst 1, 1) := by decide +kernel
theorem dX11_order_13 : decode cX11_order 13 = .ok (.if_icmp .ne 16, 3) := by decide +kernel
theorem dX11_order_16 : decode cX11_order 16 = .ok (.aload_n 0, 1) := by decide +kernel
theorem dX11_order_17 : decode cX11_order 17 = .ok (.getfield 263, 3) := by decide +kernel
theorem dX11_order_20 : decode cX11_order 20 = .ok (.bipush 8, 2) := by decide +kernel
theorem dX11_order_22 : decode cX11_order 22 = .ok (.if_icmp .lt 7, 3) := by decide +kernel
theorem dX11_order_25 : decode cX11_order 25 = .ok (.iconst 1, 1) := by decide +kernel
theorem dX11_order_26 : decode cX11_order 26 = .ok (.goto 4, 3) := by decide +kernel
theorem dX11_order_29 : decode cX11_order 29 = .ok (.iconst 0, 1) := by decide +kernel
theorem dX11_order_30 : decode cX11_order 30 = .ok (.iconst 1, 1) := by decide +kernel
theorem dX11_order_31 : decode cX11_order 31 = .ok (.invokevirtual 282, 3) := by decide +kernel
theorem dX11_order_34 : decode cX11_order 34 = .ok (.ifCond .ne 4, 3) := by decide +kernel
theorem dX11_order_37 : decode cX11_order 37 = .ok (.return_, 1) := by decide +kernel
theorem dX11_order_38 : decode cX11_order 38 = .ok (.aload_n 0, 1) := by decide +kernel
theorem dX11_order_39 : decode cX11_order 39 = .ok (.getfield 75, 3) := by decide +kernel
theorem dX11_order_42 : decode cX11_order 42 = .ok (.iload_n 1, 1) := by decide +kernel
theorem dX11_order_43 : decode cX11_order 43 = .ok (.aload_n 0, 1) := by decide +kernel
theorem dX11_order_44 : decode cX11_order 44 = .ok (.getfield 263, 3) := by decide +kernel
theorem dX11_order_47 : decode cX11_order 47 = .ok (.iastore, 1) := by decide +kernel
theorem dX11_order_48 : decode cX11_order 48 = .ok (.aload_n 0, 1) := by decide +kernel
theorem dX11_order_49 : decode cX11_order 49 = .ok (.invokevirtual 290, 3) := by decide +kernel
theorem dX11_order_52 : decode cX11_order 52 = .ok (.aload_n 0, 1) := by decide +kernel
theorem dX11_order_53 : decode cX11_order 53 = .ok (.getfield 75, 3) := by decide +kernel
theorem dX11_order_56 : decode cX11_order 56 = .ok (.iload_n 1, 1) := by decide +kernel
theorem dX11_order_57 : decode cX11_order 57 = .ok (.iaload, 1) := by decide +kernel
theorem dX11_order_58 : decode cX11_order 58 = .ok (.bipush 11, 2) := by decide +kernel
theorem dX11_order_60 : decode cX11_order 60 = .ok (.if_icmp .eq 14, 3) := by decide +kernel
theorem dX11_order_63 : decode cX11_order 63 = .ok (.aload_n 0, 1) := by decide +kernel
theorem dX11_order_64 : decode cX11_order 64 = .ok (.getfield 75, 3) := by decide +kernel
theorem dX11_order_67 : decode cX11_order 67 = .ok (.iload_n 1, 1) := by decide +kernel
theorem dX11_order_68 : decode cX11_order 68 = .ok (.iaload, 1) := by decide +kernel
theorem dX11_order_69 : decode cX11_order 69 = .ok (.bipush 12, 2) := by decide +kernel
theorem dX11_order_71 : decode cX11_order 71 = .ok (.if_icmp .ne 37, 3) := by decide +kernel
theorem dX11_order_74 : decode cX11_order 74 = .ok (.aload_n 0, 1) := by decide +kernel
theorem dX11_order_75 : decode cX11_order 75 = .ok (.getfield 75, 3) := by decide +kernel
theorem dX11_order_78 : decode cX11_order 78 = .ok (.iload_n 1, 1) := by decide +kernel
theorem dX11_order_79 : decode cX11_order 79 = .ok (.iconst 1, 1) := by decide +kernel
theorem dX11_order_80 : decode cX11_order 80 = .ok (.iadd, 1) := by decide +kernel
theorem dX11_order_81 : decode cX11_order 81 = .ok (.aload_n 0, 1) := by decide +kernel
theorem dX11_order_82 : decode cX11_order 82 = .ok (.iconst 1, 1) := by decide +kernel
theorem dX11_order_83 : decode cX11_order 83 = .ok (.aload_n 0, 1) := by decide +kernel
theorem dX11_order_84 : decode cX11_order 84 = .ok (.getfield 75, 3) := by decide +kernel
theorem dX11_order_87 : decode cX11_order 87 = .ok (.iload_n 1, 1) := by decide +kernel
theorem dX11_order_88 : decode cX11_order 88 = .ok (.iaload, 1) := by decide +kernel
theorem dX11_order_89 : decode cX11_order 89 = .ok (.bipush 11, 2) := by decide +kernel
theorem dX11_order_91 : decode cX11_order 91 = .ok (.if_icmp .ne 8, 3) := by decide +kernel
theorem dX11_order_94 : decode cX11_order 94 = .ok (.bipush 100, 2) := by decide +kernel
theorem dX11_order_96 : decode cX11_order 96 = .ok (.goto 5, 3) := by decide +kernel
theorem dX11_order_99 : decode cX11_order 99 = .ok (.bipush 20, 2) := by decide +kernel
theorem dX11_order_101 : decode cX11_order 101 = .ok (.invokevirtual 311, 3) := by decide +kernel
theorem dX11_order_104 : decode cX11_order 104 = .ok (.iastore, 1) := by decide +kernel
theorem dX11_order_105 : decode cX11_order 105 = .ok (.goto 110, 3) := by decide +kernel
theorem dX11_order_108 : decode cX11_order 108 = .ok (.aload_n 0, 1) := by decide +kernel
theorem dX11_order_109 : decode cX11_order 109 = .ok (.getfield 75, 3) := by decide +kernel
theorem dX11_order_112 : decode cX11_order 112 = .ok (.iload_n 1, 1) := by decide +kernel
theorem dX11_order_113 : decode cX11_order 113 = .ok (.iconst 1, 1) := by decide +kernel
theorem dX11_order_114 : decode cX11_order 114 = .ok (.iadd, 1) := by decide +kernel
theorem dX11_order_115 : decode cX11_order 115 = .ok (.aload_n 0, 1) := by decide +kernel
theorem dX11_order_116 : decode cX11_order 116 = .ok (.invokevirtual 382, 3) := by decide +kernel
theorem dX11_order_119 : decode cX11_order 119 = .ok (.iastore, 1) := by decide +kernel
theorem dX11_order_120 : decode cX11_order 120 = .ok (.aload_n 0, 1) := by decide +kernel
theorem dX11_order_121 : decode cX11_order 121 = .ok (.getfield 279, 3) := by decide +kernel
theorem dX11_order_124 : decode cX11_order 124 = .ok (.ifCond .ne 26, 3) := by decide +kernel
theorem dX11_order_127 : decode cX11_order 127 = .ok (.aload_n 0, 1) := by decide +kernel
theorem dX11_order_128 : decode cX11_order 128 = .ok (.getfield 75, 3) := by decide +kernel
theorem dX11_order_131 : decode cX11_order 131 = .ok (.iload_n 1, 1) := by decide +kernel
theorem dX11_order_132 : decode cX11_order 132 = .ok (.iaload, 1) := by decide +kernel
theorem dX11_order_133 : decode cX11_order 133 = .ok (.bipush 9, 2) := by decide +kernel
theorem dX11_order_135 : decode cX11_order 135 = .ok (.if_icmp .ne 15, 3) := by decide +kernel
theorem dX11_order_138 : decode cX11_order 138 = .ok (.aload_n 0, 1) := by decide +kernel
theorem dX11_order_139 : decode cX11_order 139 = .ok (.getfield 75, 3) := by decide +kernel
theorem dX11_order_142 : decode cX11_order 142 = .ok (.iload_n 1, 1) := by decide +kernel
theorem dX11_order_143 : decode cX11_order 143 = .ok (.iconst 2, 1) := by decide +kernel
theorem dX11_order_144 : decode cX11_order 144 = .ok (.iadd, 1) := by decide +kernel
theorem dX11_order_145 : decode cX11_order 145 = .ok (.aload_n 0, 1) := by decide +kernel
theorem dX11_order_146 : decode cX11_order 146 = .ok (.invokevirtual 382, 3) := by decide +kernel
theorem dX11_order_149 : decode cX11_order 149 = .ok (.iastore, 1) := by decide +kernel
theorem dX11_order_150 : decode cX11_order 150 = .ok (.aload_n 0, 1) := by decide +kernel
theorem dX11_order_151 : decode cX11_order 151 = .ok (.getfield 279, 3) := by decide +kernel
theorem dX11_order_154 : decode cX11_order 154 = .ok (.ifCond .ne 28, 3) := by decide +kernel
theorem dX11_order_157 : decode cX11_order 157 = .ok (.aload_n 0, 1) := by decide +kernel
theorem dX11_order_158 : decode cX11_order 158 = .ok (.getfield 75, 3) := by decide +kernel
theorem dX11_order_161 : decode cX11_order 161 = .ok (.iload_n 1, 1) := by decide +kernel
theorem dX11_order_162 : decode cX11_order 162 = .ok (.iaload, 1) := by decide +kernel
theorem dX11_order_163 : decode cX11_order 163 = .ok (.bipush 8, 2) := by decide +kernel
theorem dX11_order_165 : decode cX11_order 165 = .ok (.if_icmp .ne 17, 3) := by decide +kernel
theorem dX11_order_168 : decode cX11_order 168 = .ok (.aload_n 0, 1) := by decide +kernel
theorem dX11_order_169 : decode cX11_order 169 = .ok (.getfield 75, 3) := by decide +kernel
theorem dX11_order_172 : decode cX11_order 172 = .ok (.iload_n 1, 1) := by decide +kernel
theorem dX11_order_173 : decode cX11_order 173 = .ok (.iconst 2, 1) := by decide +kernel
theorem dX11_order_174 : decode cX11_order 174 = .ok (.iadd, 1) := by decide +kernel
theorem dX11_order_175 : decode cX11_order 175 = .ok (.aload_n 0, 1) := by decide +kernel
theorem dX11_order_176 : decode cX11_order 176 = .ok (.iconst 0, 1) := by decide +kernel
theorem dX11_order_177 : decode cX11_order 177 = .ok (.iconst 3, 1) := by decide +kernel
theorem dX11_order_178 : decode cX11_order 178 = .ok (.invokevirtual 311, 3) := by decide +kernel
theorem dX11_order_181 : decode cX11_order 181 = .ok (.iastore, 1) := by decide +kernel
theorem dX11_order_182 : decode cX11_order 182 = .ok (.aload_n 0, 1) := by decide +kernel
theorem dX11_order_183 : decode cX11_order 183 = .ok (.getfield 279, 3) := by decide +kernel
theorem dX11_order_186 : decode cX11_order 186 = .ok (.ifCond .ne 29, 3) := by decide +kernel
theorem dX11_order_189 : decode cX11_order 189 = .ok (.aload_n 0, 1) := by decide +kernel
theorem dX11_order_190 : decode cX11_order 190 = .ok (.getfield 75, 3) := by decide +kernel
theorem dX11_order_193 : decode cX11_order 193 = .ok (.iload_n 1, 1) := by decide +kernel
theorem dX11_order_194 : decode cX11_order 194 = .ok (.iaload, 1) := by decide +kernel
theorem dX11_order_195 : decode cX11_order 195 = .ok (.bipush 8, 2) := by decide +kernel
theorem dX11_order_197 : decode cX11_order 197 = .ok (.if_icmp .ne 18, 3) := by decide +kernel
theorem dX11_order_200 : decode cX11_order 200 = .ok (.aload_n 0, 1) := by decide +kernel
theorem dX11_order_201 : decode cX11_order 201 = .ok (.getfield 75, 3) := by decide +kernel
theorem dX11_order_204 : decode cX11_order 204 = .ok (.iload_n 1, 1) := by decide +kernel
theorem dX11_order_205 : decode cX11_order 205 = .ok (.iconst 3, 1) := by decide +kernel
theorem dX11_order_206 : decode cX11_order 206 = .ok (.iadd, 1) := by decide +kernel
theorem dX11_order_207 : decode cX11_order 207 = .ok (.aload_n 0, 1) := by decide +kernel
theorem dX11_order_208 : decode cX11_order 208 = .ok (.iconst 0, 1) := by decide +kernel
theorem dX11_order_209 : decode cX11_order 209 = .ok (.bipush 15, 2) := by decide +kernel
theorem dX11_order_211 : decode cX11_order 211 = .ok (.invokevirtual 311, 3) := by decide +kernel
theorem dX11_order_214 : decode cX11_order 214 = .ok (.iastore, 1) := by decide +kernel
theorem dX11_order_215 : decode cX11_order 215 = .ok (.aload_n 0, 1) := by decide +kernel
theorem dX11_order_216 : decode cX11_order 216 = .ok (.dup, 1) := by decide +kernel
theorem dX11_order_217 : decode cX11_order 217 = .ok (.getfield 379, 3) := by decide +kernel
theorem dX11_order_220 : decode cX11_order 220 = .ok (.iconst 1, 1) := by decide +kernel
theorem dX11_order_221 : decode cX11_order 221 = .ok (.iadd, 1) := by decide +kernel
theorem dX11_order_222 : decode cX11_order 222 = .ok (.putfield 379, 3) := by decide +kernel
theorem dX11_order_225 : decode cX11_order 225 = .ok (.return_, 1) := by decide +kernel
theorem dX11_isDone_0 : decode cX11_isDone 0 = .ok (.aload_n 0, 1) := by decide +kernel
theorem dX11_isDone_1 : decode cX11_isDone 1 = .ok (.getfield 75, 3) := by decide +kernel
theorem dX11_isDone_4 : decode cX11_isDone 4 = .ok (.iload_n 1, 1) := by decide +kernel
theorem dX11_isDone_5 : decode cX11_isDone 5 = .ok (.iconst 1, 1) := by decide +kernel
theorem dX11_isDone_6 : decode cX11_isDone 6 = .ok (.iadd, 1) := by decide +kernel
theorem dX11_isDone_7 : decode cX11_isDone 7 = .ok (.iaload, 1) := by decide +kernel
theorem dX11_isDone_8 : decode cX11_isDone 8 = .ok (.istore_n 2, 1) := by decide +kernel
theorem dX11_isDone_9 : decode cX11_isDone 9 = .ok (.aload_n 0, 1) := by decide +kernel
theorem dX11_isDone_10 : decode cX11_isDone 10 = .ok (.getfield 75, 3) := by decide +kernel
theorem dX11_isDone_13 : decode cX11_isDone 13 = .ok (.iload_n 1, 1) := by decide +kernel
theorem dX11_isDone_14 : decode cX11_isDone 14 = .ok (.iaload, 1) := by decide +kernel
theorem dX11_isDone_15 : decode cX11_isDone 15 = .ok (.tableswitch 115 8 11 #[29, 61, 90, 106], 29) := by decide +kernel
theorem dX11_isDone_44 : decode cX11_isDone 44 = .ok (.aload_n 0, 1) := by decide +kernel
theorem dX11_isDone_45 : decode cX11_isDone 45 = .ok (.iconst 0, 1) := by decide +kernel
theorem dX11_isDone_46 : decode cX11_isDone 46 = .ok (.iload_n 2, 1) := by decide +kernel
theorem dX11_isDone_47 : decode cX11_isDone 47 = .ok (.aload_n 0, 1) := by decide +kernel
theorem dX11_isDone_48 : decode cX11_isDone 48 = .ok (.getfield 75, 3) := by decide +kernel
theorem dX11_isDone_51 : decode cX11_isDone 51 = .ok (.iload_n 1, 1) := by decide +kernel
theorem dX11_isDone_52 : decode cX11_isDone 52 = .ok (.iconst 2, 1) := by decide +kernel
theorem dX11_isDone_53 : decode cX11_isDone 53 = .ok (.iadd, 1) := by decide +kernel
theorem dX11_isDone_54 : decode cX11_isDone 54 = .ok (.iaload, 1) := by decide +kernel
theorem dX11_isDone_55 : decode cX11_isDone 55 = .ok (.aload_n 0, 1) := by decide +kernel
theorem dX11_isDone_56 : decode cX11_isDone 56 = .ok (.getfield 75, 3) := by decide +kernel
theorem dX11_isDone_59 : decode cX11_isDone 59 = .ok (.iload_n 1, 1) := by decide +kernel
theorem dX11_isDone_60 : decode cX11_isDone 60 = .ok (.iconst 3, 1) := by decide +kernel
theorem dX11_isDone_61 : decode cX11_isDone 61 = .ok (.iadd, 1) := by decide +kernel
theorem dX11_isDone_62 : decode cX11_isDone 62 = .ok (.iaload, 1) := by decide +kernel
theorem dX11_isDone_63 : decode cX11_isDone 63 = .ok (.invokevirtual 386, 3) := by decide +kernel
theorem dX11_isDone_66 : decode cX11_isDone 66 = .ok (.iconst (-1), 1) := by decide +kernel
theorem dX11_isDone_67 : decode cX11_isDone 67 = .ok (.if_icmp .eq 7, 3) := by decide +kernel
theorem dX11_isDone_70 : decode cX11_isDone 70 = .ok (.iconst 1, 1) := by decide +kernel
theorem dX11_isDone_71 : decode cX11_isDone 71 = .ok (.goto 4, 3) := by decide +kernel
theorem dX11_isDone_74 : decode cX11_isDone 74 = .ok (.iconst 0, 1) := by decide +kernel
theorem dX11_isDone_75 : decode cX11_isDone 75 = .ok (.ireturn, 1) := by decide +kernel
theorem dX11_isDone_76 : decode cX11_isDone 76 = .ok (.aload_n 0, 1) := by decide +kernel
theorem dX11_isDone_77 : decode cX11_isDone 77 = .ok (.iconst 0, 1) := by decide +kernel
theorem dX11_isDone_78 : decode cX11_isDone 78 = .ok (.aload_n 0, 1) := by decide +kernel
theorem dX11_isDone_79 : decode cX11_isDone 79 = .ok (.getfield 75, 3) := by decide +kernel
theorem dX11_isDone_82 : decode cX11_isDone 82 = .ok (.iload_n 1, 1) := by decide +kernel
theorem dX11_isDone_83 : decode cX11_isDone 83 = .ok (.iconst 2, 1) := by decide +kernel
theorem dX11_isDone_84 : decode cX11_isDone 84 = .ok (.iadd, 1) := by decide +kernel
theorem dX11_isDone_85 : decode cX11_isDone 85 = .ok (.iaload, 1) := by decide +kernel
theorem dX11_isDone_86 : decode cX11_isDone 86 = .ok (.invokevirtual 162, 3) := by decide +kernel
theorem dX11_isDone_89 : decode cX11_isDone 89 = .ok (.aload_n 0, 1) := by decide +kernel
theorem dX11_isDone_90 : decode cX11_isDone 90 = .ok (.iconst 0, 1) := by decide +kernel
theorem dX11_isDone_91 : decode cX11_isDone 91 = .ok (.iload_n 2, 1) := by decide +kernel
theorem dX11_isDone_92 : decode cX11_isDone 92 = .ok (.invokevirtual 165, 3) := by decide +kernel
theorem dX11_isDone_95 : decode cX11_isDone 95 = .ok (.iconst (-1), 1) := by decide +kernel
theorem dX11_isDone_96 : decode cX11_isDone 96 = .ok (.if_icmp .eq 7, 3) := by decide +kernel
theorem dX11_isDone_99 : decode cX11_isDone 99 = .ok (.iconst 1, 1) := by decide +kernel
theorem dX11_isDone_100 : decode cX11_isDone 100 = .ok (.goto 4, 3) := by decide +kernel
theorem dX11_isDone_103 : decode cX11_isDone 103 = .ok (.iconst 0, 1) := by decide +kernel
theorem dX11_isDone_104 : decode cX11_isDone 104 = .ok (.ireturn, 1) := by decide +kernel
theorem dX11_isDone_105 : decode cX11_isDone 105 = .ok (.aload_n 0, 1) := by decide +kernel
theorem dX11_isDone_106 : decode cX11_isDone 106 = .ok (.iconst 0, 1) := by decide +kernel
theorem dX11_isDone_107 : decode cX11_isDone 107 = .ok (.iload_n 2, 1) := by decide +kernel
theorem dX11_isDone_108 : decode cX11_isDone 108 = .ok (.invokevirtual 228, 3) := by decide +kernel
theorem dX11_isDone_111 : decode cX11_isDone 111 = .ok (.iconst (-1), 1) := by decide +kernel
theorem dX11_isDone_112 : decode cX11_isDone 112 = .ok (.if_icmp .eq 7, 3) := by decide +kernel
theorem dX11_isDone_115 : decode cX11_isDone 115 = .ok (.iconst 1, 1) := by decide +kernel
theorem dX11_isDone_116 : decode cX11_isDone 116 = .ok (.goto 4, 3) := by decide +kernel
theorem dX11_isDone_119 : decode cX11_isDone 119 = .ok (.iconst 0, 1) := by decide +kernel
theorem dX11_isDone_120 : decode cX11_isDone 120 = .ok (.ireturn, 1) := by decide +kernel
theorem dX11_isDone_121 : decode cX11_isDone 121 = .ok (.aload_n 0, 1) := by decide +kernel
theorem dX11_isDone_122 : decode cX11_isDone 122 = .ok (.iconst 0, 1) := by decide +kernel
theorem dX11_isDone_123 : decode cX11_isDone 123 = .ok (.iload_n 2, 1) := by decide +kernel
theorem dX11_isDone_124 : decode cX11_isDone 124 = .ok (.invokevirtual 244, 3) := by decide +kernel
theorem dX11_isDone_127 : decode cX11_isDone 127 = .ok (.pop, 1) := by decide +kernel
theorem dX11_isDone_128 : decode cX11_isDone 128 = .ok (.iconst 1, 1) := by decide +kernel
theorem dX11_isDone_129 : decode cX11_isDone 129 = .ok (.ireturn, 1) := by decide +kernel
theorem dX11_isDone_130 : decode cX11_isDone 130 = .ok (.aload_n 0, 1) := by decide +kernel
theorem dX11_isDone_131 : decode cX11_isDone 131 = .ok (.getfield 10, 3) := by decide +kernel
theorem dX11_isDone_134 : decode cX11_isDone 134 = .ok (.iconst 2, 1) := by decide +kernel
theorem dX11_isDone_135 : decode cX11_isDone 135 = .ok (.iaload, 1) := by decide +kernel
theorem dX11_isDone_136 : decode cX11_isDone 136 = .ok (.iload_n 2, 1) := by decide +kernel
theorem dX11_isDone_137 : decode cX11_isDone 137 = .ok (.iadd, 1) := by decide +kernel
theorem dX11_isDone_138 : decode cX11_isDone 138 = .ok (.sipush 9999, 3) := by decide +kernel
theorem dX11_isDone_141 : decode cX11_isDone 141 = .ok (.if_icmp .le 5, 3) := by decide +kernel
theorem dX11_isDone_144 : decode cX11_isDone 144 = .ok (.iconst 0, 1) := by decide +kernel
theorem dX11_isDone_145 : decode cX11_isDone 145 = .ok (.ireturn, 1) := by decide +kernel
theorem dX11_isDone_146 : decode cX11_isDone 146 = .ok (.aload_n 0, 1) := by decide +kernel
theorem dX11_isDone_147 : decode cX11_isDone 147 = .ok (.iconst 0, 1) := by decide +kernel
theorem dX11_isDone_148 : decode cX11_isDone 148 = .ok (.iload_n 2, 1) := by decide +kernel
theorem dX11_isDone_149 : decode cX11_isDone 149 = .ok (.invokevirtual 389, 3) := by decide +kernel
theorem dX11_isDone_152 : decode cX11_isDone 152 = .ok (.pop, 1) := by decide +kernel
theorem dX11_isDone_153 : decode cX11_isDone 153 = .ok (.iconst 1, 1) := by decide +kernel
theorem dX11_isDone_154 : decode cX11_isDone 154 = .ok (.ireturn, 1) := by decide +kernel
theorem dX11_orders_0 : decode cX11_orders 0 = .ok (.aload_n 0, 1) := by decide +kernel
theorem dX11_orders_1 : decode cX11_orders 1 = .ok (.iload_n 1, 1) := by decide +kernel
theorem dX11_orders_2 : decode cX11_orders 2 = .ok (.invokevirtual 364, 3) := by decide +kernel
theorem dX11_orders_5 : decode cX11_orders 5 = .ok (.ifCond .ne 5, 3) := by decide +kernel
theorem dX11_orders_8 : decode cX11_orders 8 = .ok (.iconst 0, 1) := by decide +kernel
theorem dX11_orders_9 : decode cX11_orders 9 = .ok (.ireturn, 1) := by decide +kernel
theorem dX11_orders_10 : decode cX11_orders 10 = .ok (.aload_n 0, 1) := by decide +kernel
theorem dX11_orders_11 : decode cX11_orders 11 = .ok (.iconst 0, 1) := by decide +kernel
theorem dX11_orders_12 : decode cX11_orders 12 = .ok (.putfield 379, 3) := by decide +kernel
theorem dX11_orders_15 : decode cX11_orders 15 = .ok (.aload_n 0, 1) := by decide +kernel
theorem dX11_orders_16 : decode cX11_orders 16 = .ok (.getfield 279, 3) := by decide +kernel
theorem dX11_orders_19 : decode cX11_orders 19 = .ok (.ifCond .ne 21, 3) := by decide +kernel
theorem dX11_orders_22 : decode cX11_orders 22 = .ok (.aload_n 0, 1) := by decide +kernel
theorem dX11_orders_23 : decode cX11_orders 23 = .ok (.getfield 269, 3) := by decide +kernel
theorem dX11_orders_26 : decode cX11_orders 26 = .ok (.ifCond .eq 14, 3) := by decide +kernel
theorem dX11_orders_29 : decode cX11_orders 29 = .ok (.aload_n 0, 1) := by decide +kernel
theorem dX11_orders_30 : decode cX11_orders 30 = .ok (.invokevirtual 392, 3) := by decide +kernel
theorem dX11_orders_33 : decode cX11_orders 33 = .ok (.aload_n 0, 1) := by decide +kernel
theorem dX11_orders_34 : decode cX11_orders 34 = .ok (.invokevirtual 373, 3) := by decide +kernel
theorem dX11_orders_37 : decode cX11_orders 37 = .ok (.goto (-22), 3) := by decide +kernel
theorem dX11_orders_40 : decode cX11_orders 40 = .ok (.aload_n 0, 1) := by decide +kernel
theorem dX11_orders_41 : decode cX11_orders 41 = .ok (.getfield 279, 3) := by decide +kernel
theorem dX11_orders_44 : decode cX11_orders 44 = .ok (.ifCond .eq 21, 3) := by decide +kernel
theorem dX11_orders_47 : decode cX11_orders 47 = .ok (.aload_n 0, 1) := by decide +kernel
theorem dX11_orders_48 : decode cX11_orders 48 = .ok (.getfield 20, 3) := by decide +kernel
theorem dX11_orders_51 : decode cX11_orders 51 = .ok (.iconst 0, 1) := by decide +kernel
theorem dX11_orders_52 : decode cX11_orders 52 = .ok (.dup2, 1) := by decide +kernel
theorem dX11_orders_53 : decode cX11_orders 53 = .ok (.iaload, 1) := by decide +kernel
theorem dX11_orders_54 : decode cX11_orders 54 = .ok (.iconst 1, 1) := by decide +kernel
theorem dX11_orders_55 : decode cX11_orders 55 = .ok (.iadd, 1) := by decide +kernel
theorem dX11_orders_56 : decode cX11_orders 56 = .ok (.iastore, 1) := by decide +kernel
theorem dX11_orders_57 : decode cX11_orders 57 = .ok (.bipush (-10), 2) := by decide +kernel
theorem dX11_orders_59 : decode cX11_orders 59 = .ok (.aload_n 0, 1) := by decide +kernel
theorem dX11_orders_60 : decode cX11_orders 60 = .ok (.getfield 279, 3) := by decide +kernel
theorem dX11_orders_63 : decode cX11_orders 63 = .ok (.isub, 1) := by decide +kernel
theorem dX11_orders_64 : decode cX11_orders 64 = .ok (.ireturn, 1) := by decide +kernel
theorem dX11_orders_65 : decode cX11_orders 65 = .ok (.aload_n 0, 1) := by decide +kernel
theorem dX11_orders_66 : decode cX11_orders 66 = .ok (.iconst 0, 1) := by decide +kernel
theorem dX11_orders_67 : decode cX11_orders 67 = .ok (.sipush 1654, 3) := by decide +kernel
theorem dX11_orders_70 : decode cX11_orders 70 = .ok (.sipush 1654, 3) := by decide +kernel
theorem dX11_orders_73 : decode cX11_orders 73 = .ok (.invokevirtual 394, 3) := by decide +kernel
theorem dX11_orders_76 : decode cX11_orders 76 = .ok (.iconst 0, 1) := by decide +kernel
theorem dX11_orders_77 : decode cX11_orders 77 = .ok (.istore_n 2, 1) := by decide +kernel
theorem dX11_orders_78 : decode cX11_orders 78 = .ok (.iload_n 2, 1) := by decide +kernel
theorem dX11_orders_79 : decode cX11_orders 79 = .ok (.aload_n 0, 1) := by decide +kernel
theorem dX11_orders_80 : decode cX11_orders 80 = .ok (.getfield 379, 3) := by decide +kernel
theorem dX11_orders_83 : decode cX11_orders 83 = .ok (.if_icmp .ge 48, 3) := by decide +kernel
theorem dX11_orders_86 : decode cX11_orders 86 = .ok (.aload_n 0, 1) := by decide +kernel
theorem dX11_orders_87 : decode cX11_orders 87 = .ok (.iconst 4, 1) := by decide +kernel
theorem dX11_orders_88 : decode cX11_orders 88 = .ok (.iload_n 2, 1) := by decide +kernel
theorem dX11_orders_89 : decode cX11_orders 89 = .ok (.imul, 1) := by decide +kernel
theorem dX11_orders_90 : decode cX11_orders 90 = .ok (.invokevirtual 397, 3) := by decide +kernel
theorem dX11_orders_93 : decode cX11_orders 93 = .ok (.ifCond .eq 6, 3) := by decide +kernel
theorem dX11_orders_96 : decode cX11_orders 96 = .ok (.goto 29, 3) := by decide +kernel
theorem dX11_orders_99 : decode cX11_orders 99 = .ok (.aload_n 0, 1) := by decide +kernel
theorem dX11_orders_100 : decode cX11_orders 100 = .ok (.sipush 1654, 3) := by decide +kernel
theorem dX11_orders_103 : decode cX11_orders 103 = .ok (.iconst 0, 1) := by decide +kernel
theorem dX11_orders_104 : decode cX11_orders 104 = .ok (.sipush 1654, 3) := by decide +kernel
theorem dX11_orders_107 : decode cX11_orders 107 = .ok (.invokevirtual 394, 3) := by decide +kernel
theorem dX11_orders_110 : decode cX11_orders 110 = .ok (.aload_n 0, 1) := by decide +kernel
theorem dX11_orders_111 : decode cX11_orders 111 = .ok (.getfield 20, 3) := by decide +kernel
theorem dX11_orders_114 : decode cX11_orders 114 = .ok (.iconst 1, 1) := by decide +kernel
theorem dX11_orders_115 : decode cX11_orders 115 = .ok (.dup2, 1) := by decide +kernel
theorem dX11_orders_116 : decode cX11_orders 116 = .ok (.iaload, 1) := by decide +kernel
theorem dX11_orders_117 : decode cX11_orders 117 = .ok (.iconst 1, 1) := by decide +kernel
theorem dX11_orders_118 : decode cX11_orders 118 = .ok (.iadd, 1) := by decide +kernel
theorem dX11_orders_119 : decode cX11_orders 119 = .ok (.iastore, 1) := by decide +kernel
theorem dX11_orders_120 : decode cX11_orders 120 = .ok (.bipush (-100), 2) := by decide +kernel
theorem dX11_orders_122 : decode cX11_orders 122 = .ok (.iload_n 2, 1) := by decide +kernel
theorem dX11_orders_123 : decode cX11_orders 123 = .ok (.isub, 1) := by decide +kernel
theorem dX11_orders_124 : decode cX11_orders 124 = .ok (.ireturn, 1) := by decide +kernel
theorem dX11_orders_125 : decode cX11_orders 125 = .ok (.iinc 2 1, 3) := by decide +kernel
theorem dX11_orders_128 : decode cX11_orders 128 = .ok (.goto (-50), 3) := by decide +kernel
theorem dX11_orders_131 : decode cX11_orders 131 = .ok (.aload_n 0, 1) := by decide +kernel
theorem dX11_orders_132 : decode cX11_orders 132 = .ok (.getfield 379, 3) := by decide +kernel
theorem dX11_orders_135 : decode cX11_orders 135 = .ok (.ifCond .le 10, 3) := by decide +kernel
theorem dX11_orders_138 : decode cX11_orders 138 = .ok (.aload_n 0, 1) := by decide +kernel
theorem dX11_orders_139 : decode cX11_orders 139 = .ok (.sipush 1654, 3) := by decide +kernel
theorem dX11_orders_142 : decode cX11_orders 142 = .ok (.invokevirtual 400, 3) := by decide +kernel
theorem dX11_orders_145 : decode cX11_orders 145 = .ok (.aload_n 0, 1) := by decide +kernel
theorem dX11_orders_146 : decode cX11_orders 146 = .ok (.getfield 379, 3) := by decide +kernel
theorem dX11_orders_149 : decode cX11_orders 149 = .ok (.ireturn, 1) := by decide +kernel
theorem dX11_fault_0 : decode cX11_fault 0 = .ok (.aload_n 0, 1) := by decide +kernel
theorem dX11_fault_1 : decode cX11_fault 1 = .ok (.iconst 0, 1) := by decide +kernel
theorem dX11_fault_2 : decode cX11_fault 2 = .ok (.putfield 88, 3) := by decide +kernel
theorem dX11_fault_5 : decode cX11_fault 5 = .ok (.aload_n 0, 1) := by decide +kernel
theorem dX11_fault_6 : decode cX11_fault 6 = .ok (.getfield 51, 3) := by decide +kernel
theorem dX11_fault_9 : decode cX11_fault 9 = .ok (.ireturn, 1) := by decide +kernel
theorem dX11_merged_0 : decode cX11_merged 0 = .ok (.iconst 0, 1) := by decide +kernel
theorem dX11_merged_1 : decode cX11_merged 1 = .ok (.istore_n 2, 1) := by decide +kernel
theorem dX11_merged_2 : decode cX11_merged 2 = .ok (.iconst 0, 1) := by decide +kernel
theorem dX11_merged_3 : decode cX11_merged 3 = .ok (.istore_n 3, 1) := by decide +kernel
theorem dX11_merged_4 : decode cX11_merged 4 = .ok (.iload_n 3, 1) := by decide +kernel
theorem dX11_merged_5 : decode cX11_merged 5 = .ok (.aload_n 0, 1) := by decide +kernel
theorem dX11_merged_6 : decode cX11_merged 6 = .ok (.getfield 178, 3) := by decide +kernel
theorem dX11_merged_9 : decode cX11_merged 9 = .ok (.if_icmp .ge 26, 3) := by decide +kernel
theorem dX11_merged_12 : decode cX11_merged 12 = .ok (.iload_n 2, 1) := by decide +kernel
theorem dX11_merged_13 : decode cX11_merged 13 = .ok (.aload_n 0, 1) := by decide +kernel
theorem dX11_merged_14 : decode cX11_merged 14 = .ok (.iload_n 1, 1) := by decide +kernel
theorem dX11_merged_15 : decode cX11_merged 15 = .ok (.iload_n 3, 1) := by decide +kernel
theorem dX11_merged_16 : decode cX11_merged 16 = .ok (.invokevirtual 171, 3) := by decide +kernel
theorem dX11_merged_19 : decode cX11_merged 19 = .ok (.ifCond .eq 7, 3) := by decide +kernel
theorem dX11_merged_22 : decode cX11_merged 22 = .ok (.iconst 1, 1) := by decide +kernel
theorem dX11_merged_23 : decode cX11_merged 23 = .ok (.goto 4, 3) := by decide +kernel
theorem dX11_merged_26 : decode cX11_merged 26 = .ok (.iconst 0, 1) := by decide +kernel
theorem dX11_merged_27 : decode cX11_merged 27 = .ok (.iadd, 1) := by decide +kernel
theorem dX11_merged_28 : decode cX11_merged 28 = .ok (.istore_n 2, 1) := by decide +kernel
theorem dX11_merged_29 : decode cX11_merged 29 = .ok (.iinc 3 1, 3) := by decide +kernel
theorem dX11_merged_32 : decode cX11_merged 32 = .ok (.goto (-28), 3) := by decide +kernel
theorem dX11_merged_35 : decode cX11_merged 35 = .ok (.iload_n 2, 1) := by decide +kernel
theorem dX11_merged_36 : decode cX11_merged 36 = .ok (.ireturn, 1) := by decide +kernel
theorem dX11_waiting_0 : decode cX11_waiting 0 = .ok (.aload_n 0, 1) := by decide +kernel
theorem dX11_waiting_1 : decode cX11_waiting 1 = .ok (.getfield 10, 3) := by decide +kernel
theorem dX11_waiting_4 : decode cX11_waiting 4 = .ok (.iload_n 1, 1) := by decide +kernel
theorem dX11_waiting_5 : decode cX11_waiting 5 = .ok (.sipush 1363, 3) := by decide +kernel
theorem dX11_waiting_8 : decode cX11_waiting 8 = .ok (.iadd, 1) := by decide +kernel
theorem dX11_waiting_9 : decode cX11_waiting 9 = .ok (.iaload, 1) := by decide +kernel
theorem dX11_waiting_10 : decode cX11_waiting 10 = .ok (.aload_n 0, 1) := by decide +kernel
theorem dX11_waiting_11 : decode cX11_waiting 11 = .ok (.getfield 10, 3) := by decide +kernel
theorem dX11_waiting_14 : decode cX11_waiting 14 = .ok (.iload_n 1, 1) := by decide +kernel
theorem dX11_waiting_15 : decode cX11_waiting 15 = .ok (.sipush 1363, 3) := by decide +kernel
theorem dX11_waiting_18 : decode cX11_waiting 18 = .ok (.iadd, 1) := by decide +kernel
theorem dX11_waiting_19 : decode cX11_waiting 19 = .ok (.bipush 97, 2) := by decide +kernel
theorem dX11_waiting_21 : decode cX11_waiting 21 = .ok (.iadd, 1) := by decide +kernel
theorem dX11_waiting_22 : decode cX11_waiting 22 = .ok (.iaload, 1) := by decide +kernel
theorem dX11_waiting_23 : decode cX11_waiting 23 = .ok (.iadd, 1) := by decide +kernel
theorem dX11_waiting_24 : decode cX11_waiting 24 = .ok (.aload_n 0, 1) := by decide +kernel
theorem dX11_waiting_25 : decode cX11_waiting 25 = .ok (.getfield 10, 3) := by decide +kernel
theorem dX11_waiting_28 : decode cX11_waiting 28 = .ok (.iload_n 1, 1) := by decide +kernel
theorem dX11_waiting_29 : decode cX11_waiting 29 = .ok (.sipush 1363, 3) := by decide +kernel
theorem dX11_waiting_32 : decode cX11_waiting 32 = .ok (.iadd, 1) := by decide +kernel
theorem dX11_waiting_33 : decode cX11_waiting 33 = .ok (.sipush 194, 3) := by decide +kernel
theorem dX11_waiting_36 : decode cX11_waiting 36 = .ok (.iadd, 1) := by decide +kernel
theorem dX11_waiting_37 : decode cX11_waiting 37 = .ok (.iaload, 1) := by decide +kernel
theorem dX11_waiting_38 : decode cX11_waiting 38 = .ok (.iadd, 1) := by decide +kernel
theorem dX11_waiting_39 : decode cX11_waiting 39 = .ok (.ireturn, 1) := by decide +kernel
theorem dX11_absent_0 : decode cX11_absent 0 = .ok (.iconst 0, 1) := by decide +kernel
theorem dX11_absent_1 : decode cX11_absent 1 = .ok (.istore_n 3, 1) := by decide +kernel
theorem dX11_absent_2 : decode cX11_absent 2 = .ok (.iload_n 1, 1) := by decide +kernel
theorem dX11_absent_3 : decode cX11_absent 3 = .ok (.istore 4, 2) := by decide +kernel
theorem dX11_absent_5 : decode cX11_absent 5 = .ok (.iload 4, 2) := by decide +kernel
theorem dX11_absent_7 : decode cX11_absent 7 = .ok (.iload_n 2, 1) := by decide +kernel
theorem dX11_absent_8 : decode cX11_absent 8 = .ok (.if_icmp .ge 31, 3) := by decide +kernel
theorem dX11_absent_11 : decode cX11_absent 11 = .ok (.iload_n 3, 1) := by decide +kernel
theorem dX11_absent_12 : decode cX11_absent 12 = .ok (.aload_n 0, 1) := by decide +kernel
theorem dX11_absent_13 : decode cX11_absent 13 = .ok (.getfield 10, 3) := by decide +kernel
theorem dX11_absent_16 : decode cX11_absent 16 = .ok (.bipush 16, 2) := by decide +kernel
theorem dX11_absent_18 : decode cX11_absent 18 = .ok (.iload 4, 2) := by decide +kernel
theorem dX11_absent_20 : decode cX11_absent 20 = .ok (.iadd, 1) := by decide +kernel
theorem dX11_absent_21 : decode cX11_absent 21 = .ok (.iaload, 1) := by decide +kernel
theorem dX11_absent_22 : decode cX11_absent 22 = .ok (.iconst (-1), 1) := by decide +kernel
theorem dX11_absent_23 : decode cX11_absent 23 = .ok (.if_icmp .ne 7, 3) := by decide +kernel
theorem dX11_absent_26 : decode cX11_absent 26 = .ok (.iconst 1, 1) := by decide +kernel
theorem dX11_absent_27 : decode cX11_absent 27 = .ok (.goto 4, 3) := by decide +kernel
theorem dX11_absent_30 : decode cX11_absent 30 = .ok (.iconst 0, 1) := by decide +kernel
theorem dX11_absent_31 : decode cX11_absent 31 = .ok (.iadd, 1) := by decide +kernel
theorem dX11_absent_32 : decode cX11_absent 32 = .ok (.istore_n 3, 1) := by decide +kernel
theorem dX11_absent_33 : decode cX11_absent 33 = .ok (.iinc 4 1, 3) := by decide +kernel
theorem dX11_absent_36 : decode cX11_absent 36 = .ok (.goto (-31), 3) := by decide +kernel
theorem dX11_absent_39 : decode cX11_absent 39 = .ok (.iload_n 3, 1) := by decide +kernel
theorem dX11_absent_40 : decode cX11_absent 40 = .ok (.ireturn, 1) := by decide +kernel
theorem dX11_advised_0 : decode cX11_advised 0 = .ok (.iconst 0, 1) := by decide +kernel
theorem dX11_advised_1 : decode cX11_advised 1 = .ok (.istore_n 3, 1) := by decide +kernel
theorem dX11_advised_2 : decode cX11_advised 2 = .ok (.iload_n 1, 1) := by decide +kernel
theorem dX11_advised_3 : decode cX11_advised 3 = .ok (.istore 4, 2) := by decide +kernel
theorem dX11_advised_5 : decode cX11_advised 5 = .ok (.iload 4, 2) := by decide +kernel
theorem dX11_advised_7 : decode cX11_advised 7 = .ok (.iload_n 2, 1) := by decide +kernel
theorem dX11_advised_8 : decode cX11_advised 8 = .ok (.if_icmp .ge 22, 3) := by decide +kernel
theorem dX11_advised_11 : decode cX11_advised 11 = .ok (.iload_n 3, 1) := by decide +kernel
theorem dX11_advised_12 : decode cX11_advised 12 = .ok (.aload_n 0, 1) := by decide +kernel
theorem dX11_advised_13 : decode cX11_advised 13 = .ok (.getfield 10, 3) := by decide +kernel
theorem dX11_advised_16 : decode cX11_advised 16 = .ok (.bipush 64, 2) := by decide +kernel
theorem dX11_advised_18 : decode cX11_advised 18 = .ok (.iload 4, 2) := by decide +kernel
theorem dX11_advised_20 : decode cX11_advised 20 = .ok (.iadd, 1) := by decide +kernel
theorem dX11_advised_21 : decode cX11_advised 21 = .ok (.iaload, 1) := by decide +kernel
theorem dX11_advised_22 : decode cX11_advised 22 = .ok (.iadd, 1) := by decide +kernel
theorem dX11_advised_23 : decode cX11_advised 23 = .ok (.istore_n 3, 1) := by decide +kernel
theorem dX11_advised_24 : decode cX11_advised 24 = .ok (.iinc 4 1, 3) := by decide +kernel
theorem dX11_advised_27 : decode cX11_advised 27 = .ok (.goto (-22), 3) := by decide +kernel
theorem dX11_advised_30 : decode cX11_advised 30 = .ok (.iload_n 3, 1) := by decide +kernel
theorem dX11_advised_31 : decode cX11_advised 31 = .ok (.ireturn, 1) := by decide +kernel
theorem dX11_mergedFrames_0 : decode cX11_mergedFrames 0 = .ok (.iconst 0, 1) := by decide +kernel
theorem dX11_mergedFrames_1 : decode cX11_mergedFrames 1 = .ok (.istore_n 1, 1) := by decide +kernel
theorem dX11_mergedFrames_2 : decode cX11_mergedFrames 2 = .ok (.iconst 0, 1) := by decide +kernel
theorem dX11_mergedFrames_3 : decode cX11_mergedFrames 3 = .ok (.istore_n 2, 1) := by decide +kernel
theorem dX11_mergedFrames_4 : decode cX11_mergedFrames 4 = .ok (.iload_n 2, 1) := by decide +kernel
theorem dX11_mergedFrames_5 : decode cX11_mergedFrames 5 = .ok (.bipush 48, 2) := by decide +kernel
theorem dX11_mergedFrames_7 : decode cX11_mergedFrames 7 = .ok (.if_icmp .ge 31, 3) := by decide +kernel
theorem dX11_mergedFrames_10 : decode cX11_mergedFrames 10 = .ok (.iload_n 1, 1) := by decide +kernel
theorem dX11_mergedFrames_11 : decode cX11_mergedFrames 11 = .ok (.aload_n 0, 1) := by decide +kernel
theorem dX11_mergedFrames_12 : decode cX11_mergedFrames 12 = .ok (.getfield 10, 3) := by decide +kernel
theorem dX11_mergedFrames_15 : decode cX11_mergedFrames 15 = .ok (.sipush 976, 3) := by decide +kernel
theorem dX11_mergedFrames_18 : decode cX11_mergedFrames 18 = .ok (.iload_n 2, 1) := by decide +kernel
theorem dX11_mergedFrames_19 : decode cX11_mergedFrames 19 = .ok (.iadd, 1) := by decide +kernel
theorem dX11_mergedFrames_20 : decode cX11_mergedFrames 20 = .ok (.iaload, 1) := by decide +kernel
theorem dX11_mergedFrames_21 : decode cX11_mergedFrames 21 = .ok (.iconst (-1), 1) := by decide +kernel
theorem dX11_mergedFrames_22 : decode cX11_mergedFrames 22 = .ok (.if_icmp .eq 7, 3) := by decide +kernel
theorem dX11_mergedFrames_25 : decode cX11_mergedFrames 25 = .ok (.iconst 1, 1) := by decide +kernel
theorem dX11_mergedFrames_26 : decode cX11_mergedFrames 26 = .ok (.goto 4, 3) := by decide +kernel
theorem dX11_mergedFrames_29 : decode cX11_mergedFrames 29 = .ok (.iconst 0, 1) := by decide +kernel
theorem dX11_mergedFrames_30 : decode cX11_mergedFrames 30 = .ok (.iadd, 1) := by decide +kernel
theorem dX11_mergedFrames_31 : decode cX11_mergedFrames 31 = .ok (.istore_n 1, 1) := by decide +kernel
theorem dX11_mergedFrames_32 : decode cX11_mergedFrames 32 = .ok (.iinc 2 1, 3) := by decide +kernel
theorem dX11_mergedFrames_35 : decode cX11_mergedFrames 35 = .ok (.goto (-31), 3) := by decide +kernel
theorem dX11_mergedFrames_38 : decode cX11_mergedFrames 38 = .ok (.iload_n 1, 1) := by decide +kernel
theorem dX11_mergedFrames_39 : decode cX11_mergedFrames 39 = .ok (.ireturn, 1) := by decide +kernel
theorem dX11_count_0 : decode cX11_count 0 = .ok (.aload_n 0, 1) := by decide +kernel
theorem dX11_count_1 : decode cX11_count 1 = .ok (.iconst 0, 1) := by decide +kernel
theorem dX11_count_2 : decode cX11_count 2 = .ok (.putfield 88, 3) := by decide +kernel
theorem dX11_count_5 : decode cX11_count 5 = .ok (.aload_n 0, 1) := by decide +kernel
theorem dX11_count_6 : decode cX11_count 6 = .ok (.iload_n 1, 1) := by decide +kernel
theorem dX11_count_7 : decode cX11_count 7 = .ok (.iconst 0, 1) := by decide +kernel
theorem dX11_count_8 : decode cX11_count 8 = .ok (.bipush 27, 2) := by decide +kernel
theorem dX11_count_10 : decode cX11_count 10 = .ok (.invokestatic 286, 3) := by decide +kernel
theorem dX11_count_13 : decode cX11_count 13 = .ok (.iconst 1, 1) := by decide +kernel
theorem dX11_count_14 : decode cX11_count 14 = .ok (.invokevirtual 358, 3) := by decide +kernel
theorem dX11_count_17 : decode cX11_count 17 = .ok (.ifCond .ne 5, 3) := by decide +kernel
theorem dX11_count_20 : decode cX11_count 20 = .ok (.iconst 0, 1) := by decide +kernel
theorem dX11_count_21 : decode cX11_count 21 = .ok (.ireturn, 1) := by decide +kernel
theorem dX11_count_22 : decode cX11_count 22 = .ok (.iload_n 1, 1) := by decide +kernel
theorem dX11_count_23 : decode cX11_count 23 = .ok (.tableswitch 138 0 9 #[53, 58, 64, 69, 74, 79, 85, 95, 105, 111], 53) := by decide +kernel
theorem dX11_count_76 : decode cX11_count 76 = .ok (.aload_n 0, 1) := by decide +kernel
theorem dX11_count_77 : decode cX11_count 77 = .ok (.getfield 23, 3) := by decide +kernel
theorem dX11_count_80 : decode cX11_count 80 = .ok (.ireturn, 1) := by decide +kernel
theorem dX11_count_81 : decode cX11_count 81 = .ok (.aload_n 0, 1) := by decide +kernel
theorem dX11_count_82 : decode cX11_count 82 = .ok (.iconst 0, 1) := by decide +kernel
theorem dX11_count_83 : decode cX11_count 83 = .ok (.invokevirtual 403, 3) := by decide +kernel
theorem dX11_count_86 : decode cX11_count 86 = .ok (.ireturn, 1) := by decide +kernel
theorem dX11_count_87 : decode cX11_count 87 = .ok (.aload_n 0, 1) := by decide +kernel
theorem dX11_count_88 : decode cX11_count 88 = .ok (.invokevirtual 406, 3) := by decide +kernel
theorem dX11_count_91 : decode cX11_count 91 = .ok (.ireturn, 1) := by decide +kernel
theorem dX11_count_92 : decode cX11_count 92 = .ok (.aload_n 0, 1) := by decide +kernel
theorem dX11_count_93 : decode cX11_count 93 = .ok (.getfield 340, 3) := by decide +kernel
theorem dX11_count_96 : decode cX11_count 96 = .ok (.ireturn, 1) := by decide +kernel
theorem dX11_count_97 : decode cX11_count 97 = .ok (.aload_n 0, 1) := by decide +kernel
theorem dX11_count_98 : decode cX11_count 98 = .ok (.getfield 178, 3) := by decide +kernel
theorem dX11_count_101 : decode cX11_count 101 = .ok (.ireturn, 1) := by decide +kernel
theorem dX11_count_102 : decode cX11_count 102 = .ok (.aload_n 0, 1) := by decide +kernel
theorem dX11_count_103 : decode cX11_count 103 = .ok (.iconst 0, 1) := by decide +kernel
theorem dX11_count_104 : decode cX11_count 104 = .ok (.invokevirtual 409, 3) := by decide +kernel
theorem dX11_count_107 : decode cX11_count 107 = .ok (.ireturn, 1) := by decide +kernel
theorem dX11_count_108 : decode cX11_count 108 = .ok (.aload_n 0, 1) := by decide +kernel
theorem dX11_count_109 : decode cX11_count 109 = .ok (.iconst 0, 1) := by decide +kernel
theorem dX11_count_110 : decode cX11_count 110 = .ok (.aload_n 0, 1) := by decide +kernel
theorem dX11_count_111 : decode cX11_count 111 = .ok (.getfield 178, 3) := by decide +kernel
theorem dX11_count_114 : decode cX11_count 114 = .ok (.invokevirtual 412, 3) := by decide +kernel
theorem dX11_count_117 : decode cX11_count 117 = .ok (.ireturn, 1) := by decide +kernel
theorem dX11_count_118 : decode cX11_count 118 = .ok (.aload_n 0, 1) := by decide +kernel
theorem dX11_count_119 : decode cX11_count 119 = .ok (.iconst 0, 1) := by decide +kernel
theorem dX11_count_120 : decode cX11_count 120 = .ok (.aload_n 0, 1) := by decide +kernel
theorem dX11_count_121 : decode cX11_count 121 = .ok (.getfield 178, 3) := by decide +kernel
theorem dX11_count_124 : decode cX11_count 124 = .ok (.invokevirtual 415, 3) := by decide +kernel
theorem dX11_count_127 : decode cX11_count 127 = .ok (.ireturn, 1) := by decide +kernel
theorem dX11_count_128 : decode cX11_count 128 = .ok (.aload_n 0, 1) := by decide +kernel
theorem dX11_count_129 : decode cX11_count 129 = .ok (.iconst 0, 1) := by decide +kernel
theorem dX11_count_130 : decode cX11_count 130 = .ok (.invokevirtual 418, 3) := by decide +kernel
theorem dX11_count_133 : decode cX11_count 133 = .ok (.ireturn, 1) := by decide +kernel
theorem dX11_count_134 : decode cX11_count 134 = .ok (.aload_n 0, 1) := by decide +kernel
theorem dX11_count_135 : decode cX11_count 135 = .ok (.getfield 10, 3) := by decide +kernel
theorem dX11_count_138 : decode cX11_count 138 = .ok (.sipush 1072, 3) := by decide +kernel
theorem dX11_count_141 : decode cX11_count 141 = .ok (.iaload, 1) := by decide +kernel
theorem dX11_count_142 : decode cX11_count 142 = .ok (.aload_n 0, 1) := by decide +kernel
theorem dX11_count_143 : decode cX11_count 143 = .ok (.getfield 10, 3) := by decide +kernel
theorem dX11_count_146 : decode cX11_count 146 = .ok (.sipush 1169, 3) := by decide +kernel
theorem dX11_count_149 : decode cX11_count 149 = .ok (.iaload, 1) := by decide +kernel
theorem dX11_count_150 : decode cX11_count 150 = .ok (.iadd, 1) := by decide +kernel
theorem dX11_count_151 : decode cX11_count 151 = .ok (.aload_n 0, 1) := by decide +kernel
theorem dX11_count_152 : decode cX11_count 152 = .ok (.getfield 10, 3) := by decide +kernel
theorem dX11_count_155 : decode cX11_count 155 = .ok (.sipush 1266, 3) := by decide +kernel
theorem dX11_count_158 : decode cX11_count 158 = .ok (.iaload, 1) := by decide +kernel
theorem dX11_count_159 : decode cX11_count 159 = .ok (.iadd, 1) := by decide +kernel
theorem dX11_count_160 : decode cX11_count 160 = .ok (.ireturn, 1) := by decide +kernel
theorem dX11_count_161 : decode cX11_count 161 = .ok (.aload_n 0, 1) := by decide +kernel
theorem dX11_count_162 : decode cX11_count 162 = .ok (.iload_n 1, 1) := by decide +kernel
theorem dX11_count_163 : decode cX11_count 163 = .ok (.invokevirtual 421, 3) := by decide +kernel
theorem dX11_count_166 : decode cX11_count 166 = .ok (.ireturn, 1) := by decide +kernel
theorem dX11_number0_0 : decode cX11_number0 0 = .ok (.iload_n 1, 1) := by decide +kernel
theorem dX11_number0_1 : decode cX11_number0 1 = .ok (.tableswitch 177 10 24 #[75, 82, 89, 96, 103, 110, 117, 125, 133, 141, 149, 157, 162, 167, 172], 75) := by decide +kernel
theorem dX11_number0_76 : decode cX11_number0 76 = .ok (.aload_n 0, 1) := by decide +kernel
theorem dX11_number0_77 : decode cX11_number0 77 = .ok (.getfield 10, 3) := by decide +kernel
theorem dX11_number0_80 : decode cX11_number0 80 = .ok (.iconst 0, 1) := by decide +kernel
theorem dX11_number0_81 : decode cX11_number0 81 = .ok (.iaload, 1) := by decide +kernel
theorem dX11_number0_82 : decode cX11_number0 82 = .ok (.ireturn, 1) := by decide +kernel
theorem dX11_number0_83 : decode cX11_number0 83 = .ok (.aload_n 0, 1) := by decide +kernel
theorem dX11_number0_84 : decode cX11_number0 84 = .ok (.getfield 10, 3) := by decide +kernel
theorem dX11_number0_87 : decode cX11_number0 87 = .ok (.iconst 1, 1) := by decide +kernel
theorem dX11_number0_88 : decode cX11_number0 88 = .ok (.iaload, 1) := by decide +kernel
theorem dX11_number0_89 : decode cX11_number0 89 = .ok (.ireturn, 1) := by decide +kernel
theorem dX11_number0_90 : decode cX11_number0 90 = .ok (.aload_n 0, 1) := by decide +kernel
theorem dX11_number0_91 : decode cX11_number0 91 = .ok (.getfield 10, 3) := by decide +kernel
theorem dX11_number0_94 : decode cX11_number0 94 = .ok (.iconst 2, 1) := by decide +kernel
theorem dX11_number0_95 : decode cX11_number0 95 = .ok (.iaload, 1) := by decide +kernel
theorem dX11_number0_96 : decode cX11_number0 96 = .ok (.ireturn, 1) := by decide +kernel
theorem dX11_number0_97 : decode cX11_number0 97 = .ok (.aload_n 0, 1) := by decide +kernel
theorem dX11_number0_98 : decode cX11_number0 98 = .ok (.getfield 10, 3) := by decide +kernel
theorem dX11_number0_101 : decode cX11_number0 101 = .ok (.iconst 3, 1) := by decide +kernel
theorem dX11_number0_102 : decode cX11_number0 102 = .ok (.iaload, 1) := by decide +kernel
theorem dX11_number0_103 : decode cX11_number0 103 = .ok (.ireturn, 1) := by decide +kernel
theorem dX11_number0_104 : decode cX11_number0 104 = .ok (.aload_n 0, 1) := by decide +kernel
theorem dX11_number0_105 : decode cX11_number0 105 = .ok (.getfield 10, 3) := by decide +kernel
theorem dX11_number0_108 : decode cX11_number0 108 = .ok (.iconst 4, 1) := by decide +kernel
theorem dX11_number0_109 : decode cX11_number0 109 = .ok (.iaload, 1) := by decide +kernel
theorem dX11_number0_110 : decode cX11_number0 110 = .ok (.ireturn, 1) := by decide +kernel
theorem dX11_number0_111 : decode cX11_number0 111 = .ok (.aload_n 0, 1) := by decide +kernel
theorem dX11_number0_112 : decode cX11_number0 112 = .ok (.getfield 10, 3) := by decide +kernel
theorem dX11_number0_115 : decode cX11_number0 115 = .ok (.iconst 5, 1) := by decide +kernel
theorem dX11_number0_116 : decode cX11_number0 116 = .ok (.iaload, 1) := by decide +kernel
theorem dX11_number0_117 : decode cX11_number0 117 = .ok (.ireturn, 1) := by decide +kernel
theorem dX11_number0_118 : decode cX11_number0 118 = .ok (.aload_n 0, 1) := by decide +kernel
theorem dX11_number0_119 : decode cX11_number0 119 = .ok (.getfield 10, 3) := by decide +kernel
theorem dX11_number0_122 : decode cX11_number0 122 = .ok (.bipush 6, 2) := by decide +kernel
theorem dX11_number0_124 : decode cX11_number0 124 = .ok (.iaload, 1) := by decide +kernel
theorem dX11_number0_125 : decode cX11_number0 125 = .ok (.ireturn, 1) := by decide +kernel
theorem dX11_number0_126 : decode cX11_number0 126 = .ok (.aload_n 0, 1) := by decide +kernel
theorem dX11_number0_127 : decode cX11_number0 127 = .ok (.getfield 10, 3) := by decide +kernel
theorem dX11_number0_130 : decode cX11_number0 130 = .ok (.bipush 7, 2) := by decide +kernel
theorem dX11_number0_132 : decode cX11_number0 132 = .ok (.iaload, 1) := by decide +kernel
theorem dX11_number0_133 : decode cX11_number0 133 = .ok (.ireturn, 1) := by decide +kernel
theorem dX11_number0_134 : decode cX11_number0 134 = .ok (.aload_n 0, 1) := by decide +kernel
theorem dX11_number0_135 : decode cX11_number0 135 = .ok (.getfield 10, 3) := by decide +kernel
theorem dX11_number0_138 : decode cX11_number0 138 = .ok (.bipush 8, 2) := by decide +kernel
theorem dX11_number0_140 : decode cX11_number0 140 = .ok (.iaload, 1) := by decide +kernel
theorem dX11_number0_141 : decode cX11_number0 141 = .ok (.ireturn, 1) := by decide +kernel
theorem dX11_number0_142 : decode cX11_number0 142 = .ok (.aload_n 0, 1) := by decide +kernel
theorem dX11_number0_143 : decode cX11_number0 143 = .ok (.getfield 10, 3) := by decide +kernel
theorem dX11_number0_146 : decode cX11_number0 146 = .ok (.bipush 9, 2) := by decide +kernel
theorem dX11_number0_148 : decode cX11_number0 148 = .ok (.iaload, 1) := by decide +kernel
theorem dX11_number0_149 : decode cX11_number0 149 = .ok (.ireturn, 1) := by decide +kernel
theorem dX11_number0_150 : decode cX11_number0 150 = .ok (.aload_n 0, 1) := by decide +kernel
theorem dX11_number0_151 : decode cX11_number0 151 = .ok (.getfield 10, 3) := by decide +kernel
theorem dX11_number0_154 : decode cX11_number0 154 = .ok (.bipush 10, 2) := by decide +kernel
theorem dX11_number0_156 : decode cX11_number0 156 = .ok (.iaload, 1) := by decide +kernel
theorem dX11_number0_157 : decode cX11_number0 157 = .ok (.ireturn, 1) := by decide +kernel
theorem dX11_number0_158 : decode cX11_number0 158 = .ok (.aload_n 0, 1) := by decide +kernel
theorem dX11_number0_159 : decode cX11_number0 159 = .ok (.getfield 27, 3) := by decide +kernel
theorem dX11_number0_162 : decode cX11_number0 162 = .ok (.ireturn, 1) := by decide +kernel
theorem dX11_number0_163 : decode cX11_number0 163 = .ok (.aload_n 0, 1) := by decide +kernel
theorem dX11_number0_164 : decode cX11_number0 164 = .ok (.getfield 352, 3) := by decide +kernel
theorem dX11_number0_167 : decode cX11_number0 167 = .ok (.ireturn, 1) := by decide +kernel
theorem dX11_number0_168 : decode cX11_number0 168 = .ok (.aload_n 0, 1) := by decide +kernel
theorem dX11_number0_169 : decode cX11_number0 169 = .ok (.getfield 346, 3) := by decide +kernel
theorem dX11_number0_172 : decode cX11_number0 172 = .ok (.ireturn, 1) := by decide +kernel
theorem dX11_number0_173 : decode cX11_number0 173 = .ok (.aload_n 0, 1) := by decide +kernel
theorem dX11_number0_174 : decode cX11_number0 174 = .ok (.getfield 355, 3) := by decide +kernel
theorem dX11_number0_177 : decode cX11_number0 177 = .ok (.ireturn, 1) := by decide +kernel
theorem dX11_number0_178 : decode cX11_number0 178 = .ok (.aload_n 0, 1) := by decide +kernel
theorem dX11_number0_179 : decode cX11_number0 179 = .ok (.getfield 20, 3) := by decide +kernel
theorem dX11_number0_182 : decode cX11_number0 182 = .ok (.iload_n 1, 1) := by decide +kernel
theorem dX11_number0_183 : decode cX11_number0 183 = .ok (.bipush 25, 2) := by decide +kernel
theorem dX11_number0_185 : decode cX11_number0 185 = .ok (.isub, 1) := by decide +kernel
theorem dX11_number0_186 : decode cX11_number0 186 = .ok (.iaload, 1) := by decide +kernel
theorem dX11_number0_187 : decode cX11_number0 187 = .ok (.ireturn, 1) := by decide +kernel
theorem dX11_isGuest_0 : decode cX11_isGuest 0 = .ok (.aload_n 0, 1) := by decide +kernel
theorem dX11_isGuest_1 : decode cX11_isGuest 1 = .ok (.iload_n 1, 1) := by decide +kernel
theorem dX11_isGuest_2 : decode cX11_isGuest 2 = .ok (.iconst 0, 1) := by decide +kernel
theorem dX11_isGuest_3 : decode cX11_isGuest 3 = .ok (.aload_n 0, 1) := by decide +kernel
theorem dX11_isGuest_4 : decode cX11_isGuest 4 = .ok (.getfield 340, 3) := by decide +kernel
theorem dX11_isGuest_7 : decode cX11_isGuest 7 = .ok (.iconst 1, 1) := by decide +kernel
theorem dX11_isGuest_8 : decode cX11_isGuest 8 = .ok (.isub, 1) := by decide +kernel
theorem dX11_isGuest_9 : decode cX11_isGuest 9 = .ok (.invokestatic 286, 3) := by decide +kernel
theorem dX11_isGuest_12 : decode cX11_isGuest 12 = .ok (.iconst 1, 1) := by decide +kernel
theorem dX11_isGuest_13 : decode cX11_isGuest 13 = .ok (.invokevirtual 358, 3) := by decide +kernel
theorem dX11_isGuest_16 : decode cX11_isGuest 16 = .ok (.ireturn, 1) := by decide +kernel
theorem dX11_isPage_0 : decode cX11_isPage 0 = .ok (.aload_n 0, 1) := by decide +kernel
theorem dX11_isPage_1 : decode cX11_isPage 1 = .ok (.iload_n 1, 1) := by decide +kernel
theorem dX11_isPage_2 : decode cX11_isPage 2 = .ok (.invokevirtual 424, 3) := by decide +kernel
theorem dX11_isPage_5 : decode cX11_isPage 5 = .ok (.ifCond .eq 28, 3) := by decide +kernel
theorem dX11_isPage_8 : decode cX11_isPage 8 = .ok (.aload_n 0, 1) := by decide +kernel
theorem dX11_isPage_9 : decode cX11_isPage 9 = .ok (.iload_n 2, 1) := by decide +kernel
theorem dX11_isPage_10 : decode cX11_isPage 10 = .ok (.iconst 0, 1) := by decide +kernel
theorem dX11_isPage_11 : decode cX11_isPage 11 = .ok (.aload_n 0, 1) := by decide +kernel
theorem dX11_isPage_12 : decode cX11_isPage 12 = .ok (.getfield 36, 3) := by decide +kernel
theorem dX11_isPage_15 : decode cX11_isPage 15 = .ok (.iload_n 1, 1) := by decide +kernel
theorem dX11_isPage_16 : decode cX11_isPage 16 = .ok (.iaload, 1) := by decide +kernel
theorem dX11_isPage_17 : decode cX11_isPage 17 = .ok (.iconst 1, 1) := by decide +kernel
theorem dX11_isPage_18 : decode cX11_isPage 18 = .ok (.isub, 1) := by decide +kernel
theorem dX11_isPage_19 : decode cX11_isPage 19 = .ok (.invokestatic 286, 3) := by decide +kernel
theorem dX11_isPage_22 : decode cX11_isPage 22 = .ok (.iconst 1, 1) := by decide +kernel
theorem dX11_isPage_23 : decode cX11_isPage 23 = .ok (.invokevirtual 358, 3) := by decide +kernel
theorem dX11_isPage_26 : decode cX11_isPage 26 = .ok (.ifCond .eq 7, 3) := by decide +kernel
theorem dX11_isPage_29 : decode cX11_isPage 29 = .ok (.iconst 1, 1) := by decide +kernel
theorem dX11_isPage_30 : decode cX11_isPage 30 = .ok (.goto 4, 3) := by decide +kernel
theorem dX11_isPage_33 : decode cX11_isPage 33 = .ok (.iconst 0, 1) := by decide +kernel
theorem dX11_isPage_34 : decode cX11_isPage 34 = .ok (.ireturn, 1) := by decide +kernel
theorem dX11_lying_0 : decode cX11_lying 0 = .ok (.iconst 0, 1) := by decide +kernel
theorem dX11_lying_1 : decode cX11_lying 1 = .ok (.istore_n 2, 1) := by decide +kernel
theorem dX11_lying_2 : decode cX11_lying 2 = .ok (.iconst 0, 1) := by decide +kernel
theorem dX11_lying_3 : decode cX11_lying 3 = .ok (.istore_n 3, 1) := by decide +kernel
theorem dX11_lying_4 : decode cX11_lying 4 = .ok (.iload_n 3, 1) := by decide +kernel
theorem dX11_lying_5 : decode cX11_lying 5 = .ok (.aload_n 0, 1) := by decide +kernel
theorem dX11_lying_6 : decode cX11_lying 6 = .ok (.getfield 23, 3) := by decide +kernel
theorem dX11_lying_9 : decode cX11_lying 9 = .ok (.if_icmp .ge 86, 3) := by decide +kernel
theorem dX11_lying_12 : decode cX11_lying 12 = .ok (.iconst 0, 1) := by decide +kernel
theorem dX11_lying_13 : decode cX11_lying 13 = .ok (.istore 4, 2) := by decide +kernel
theorem dX11_lying_15 : decode cX11_lying 15 = .ok (.iconst 0, 1) := by decide +kernel
theorem dX11_lying_16 : decode cX11_lying 16 = .ok (.istore 5, 2) := by decide +kernel
theorem dX11_lying_18 : decode cX11_lying 18 = .ok (.iload 5, 2) := by decide +kernel
theorem dX11_lying_20 : decode cX11_lying 20 = .ok (.aload_n 0, 1) := by decide +kernel
theorem dX11_lying_21 : decode cX11_lying 21 = .ok (.getfield 10, 3) := by decide +kernel
theorem dX11_lying_24 : decode cX11_lying 24 = .ok (.sipush 544, 3) := by decide +kernel
theorem dX11_lying_27 : decode cX11_lying 27 = .ok (.iload_n 3, 1) := by decide +kernel
theorem dX11_lying_28 : decode cX11_lying 28 = .ok (.iadd, 1) := by decide +kernel
theorem dX11_lying_29 : decode cX11_lying 29 = .ok (.iaload, 1) := by decide +kernel
theorem dX11_lying_30 : decode cX11_lying 30 = .ok (.if_icmp .ge 46, 3) := by decide +kernel
theorem dX11_lying_33 : decode cX11_lying 33 = .ok (.iload 4, 2) := by decide +kernel
theorem dX11_lying_35 : decode cX11_lying 35 = .ok (.ifCond .ne 28, 3) := by decide +kernel
theorem dX11_lying_38 : decode cX11_lying 38 = .ok (.aload_n 0, 1) := by decide +kernel
theorem dX11_lying_39 : decode cX11_lying 39 = .ok (.getfield 45, 3) := by decide +kernel
theorem dX11_lying_42 : decode cX11_lying 42 = .ok (.aload_n 0, 1) := by decide +kernel
theorem dX11_lying_43 : decode cX11_lying 43 = .ok (.getfield 10, 3) := by decide +kernel
theorem dX11_lying_46 : decode cX11_lying 46 = .ok (.sipush 592, 3) := by decide +kernel
theorem dX11_lying_49 : decode cX11_lying 49 = .ok (.bipush 8, 2) := by decide +kernel
theorem dX11_lying_51 : decode cX11_lying 51 = .ok (.iload_n 3, 1) := by decide +kernel
theorem dX11_lying_52 : decode cX11_lying 52 = .ok (.imul, 1) := by decide +kernel
theorem dX11_lying_53 : decode cX11_lying 53 = .ok (.iadd, 1) := by decide +kernel
theorem dX11_lying_54 : decode cX11_lying 54 = .ok (.iload 5, 2) := by decide +kernel
theorem dX11_lying_56 : decode cX11_lying 56 = .ok (.iadd, 1) := by decide +kernel
theorem dX11_lying_57 : decode cX11_lying 57 = .ok (.iaload, 1) := by decide +kernel
theorem dX11_lying_58 : decode cX11_lying 58 = .ok (.iaload, 1) := by decide +kernel
theorem dX11_lying_59 : decode cX11_lying 59 = .ok (.iload_n 1, 1) := by decide +kernel
theorem dX11_lying_60 : decode cX11_lying 60 = .ok (.if_icmp .ne 7, 3) := by decide +kernel
theorem dX11_lying_63 : decode cX11_lying 63 = .ok (.iconst 1, 1) := by decide +kernel
theorem dX11_lying_64 : decode cX11_lying 64 = .ok (.goto 4, 3) := by decide +kernel
theorem dX11_lying_67 : decode cX11_lying 67 = .ok (.iconst 0, 1) := by decide +kernel
theorem dX11_lying_68 : decode cX11_lying 68 = .ok (.istore 4, 2) := by decide +kernel
theorem dX11_lying_70 : decode cX11_lying 70 = .ok (.iinc 5 1, 3) := by decide +kernel
theorem dX11_lying_73 : decode cX11_lying 73 = .ok (.goto (-55), 3) := by decide +kernel
theorem dX11_lying_76 : decode cX11_lying 76 = .ok (.iload_n 2, 1) := by decide +kernel
theorem dX11_lying_77 : decode cX11_lying 77 = .ok (.iload 4, 2) := by decide +kernel
theorem dX11_lying_79 : decode cX11_lying 79 = .ok (.ifCond .eq 7, 3) := by decide +kernel
theorem dX11_lying_82 : decode cX11_lying 82 = .ok (.iconst 1, 1) := by decide +kernel
theorem dX11_lying_83 : decode cX11_lying 83 = .ok (.goto 4, 3) := by decide +kernel
theorem dX11_lying_86 : decode cX11_lying 86 = .ok (.iconst 0, 1) := by decide +kernel
theorem dX11_lying_87 : decode cX11_lying 87 = .ok (.iadd, 1) := by decide +kernel
theorem dX11_lying_88 : decode cX11_lying 88 = .ok (.istore_n 2, 1) := by decide +kernel
theorem dX11_lying_89 : decode cX11_lying 89 = .ok (.iinc 3 1, 3) := by decide +kernel
theorem dX11_lying_92 : decode cX11_lying 92 = .ok (.goto (-88), 3) := by decide +kernel
theorem dX11_lying_95 : decode cX11_lying 95 = .ok (.iload_n 2, 1) := by decide +kernel
theorem dX11_lying_96 : decode cX11_lying 96 = .ok (.ireturn, 1) := by decide +kernel
theorem dX11_guest_0 : decode cX11_guest 0 = .ok (.aload_n 0, 1) := by decide +kernel
theorem dX11_guest_1 : decode cX11_guest 1 = .ok (.iconst 0, 1) := by decide +kernel
theorem dX11_guest_2 : decode cX11_guest 2 = .ok (.putfield 88, 3) := by decide +kernel
theorem dX11_guest_5 : decode cX11_guest 5 = .ok (.aload_n 0, 1) := by decide +kernel
theorem dX11_guest_6 : decode cX11_guest 6 = .ok (.iload_n 1, 1) := by decide +kernel
theorem dX11_guest_7 : decode cX11_guest 7 = .ok (.invokevirtual 424, 3) := by decide +kernel
theorem dX11_guest_10 : decode cX11_guest 10 = .ok (.ifCond .eq 17, 3) := by decide +kernel
theorem dX11_guest_13 : decode cX11_guest 13 = .ok (.aload_n 0, 1) := by decide +kernel
theorem dX11_guest_14 : decode cX11_guest 14 = .ok (.iload_n 2, 1) := by decide +kernel
theorem dX11_guest_15 : decode cX11_guest 15 = .ok (.iconst 0, 1) := by decide +kernel
theorem dX11_guest_16 : decode cX11_guest 16 = .ok (.iconst 5, 1) := by decide +kernel
theorem dX11_guest_17 : decode cX11_guest 17 = .ok (.invokestatic 286, 3) := by decide +kernel
theorem dX11_guest_20 : decode cX11_guest 20 = .ok (.iconst 1, 1) := by decide +kernel
theorem dX11_guest_21 : decode cX11_guest 21 = .ok (.invokevirtual 358, 3) := by decide +kernel
theorem dX11_guest_24 : decode cX11_guest 24 = .ok (.ifCond .ne 5, 3) := by decide +kernel
theorem dX11_guest_27 : decode cX11_guest 27 = .ok (.iconst 0, 1) := by decide +kernel
theorem dX11_guest_28 : decode cX11_guest 28 = .ok (.ireturn, 1) := by decide +kernel
theorem dX11_guest_29 : decode cX11_guest 29 = .ok (.aload_n 0, 1) := by decide +kernel
theorem dX11_guest_30 : decode cX11_guest 30 = .ok (.getfield 42, 3) := by decide +kernel
theorem dX11_guest_33 : decode cX11_guest 33 = .ok (.iload_n 1, 1) := by decide +kernel
theorem dX11_guest_34 : decode cX11_guest 34 = .ok (.iaload, 1) := by decide +kernel
theorem dX11_guest_35 : decode cX11_guest 35 = .ok (.istore_n 3, 1) := by decide +kernel
theorem dX11_guest_36 : decode cX11_guest 36 = .ok (.iload_n 3, 1) := by decide +kernel
theorem dX11_guest_37 : decode cX11_guest 37 = .ok (.aload_n 0, 1) := by decide +kernel
theorem dX11_guest_38 : decode cX11_guest 38 = .ok (.getfield 36, 3) := by decide +kernel
theorem dX11_guest_41 : decode cX11_guest 41 = .ok (.iload_n 1, 1) := by decide +kernel
theorem dX11_guest_42 : decode cX11_guest 42 = .ok (.iaload, 1) := by decide +kernel
theorem dX11_guest_43 : decode cX11_guest 43 = .ok (.iadd, 1) := by decide +kernel
theorem dX11_guest_44 : decode cX11_guest 44 = .ok (.istore 4, 2) := by decide +kernel
theorem dX11_guest_46 : decode cX11_guest 46 = .ok (.iconst 0, 1) := by decide +kernel
theorem dX11_guest_47 : decode cX11_guest 47 = .ok (.istore 5, 2) := by decide +kernel
theorem dX11_guest_49 : decode cX11_guest 49 = .ok (.iload_n 3, 1) := by decide +kernel
theorem dX11_guest_50 : decode cX11_guest 50 = .ok (.istore 6, 2) := by decide +kernel
theorem dX11_guest_52 : decode cX11_guest 52 = .ok (.iload 6, 2) := by decide +kernel
theorem dX11_guest_54 : decode cX11_guest 54 = .ok (.iload 4, 2) := by decide +kernel
theorem dX11_guest_56 : decode cX11_guest 56 = .ok (.if_icmp .ge 29, 3) := by decide +kernel
theorem dX11_guest_59 : decode cX11_guest 59 = .ok (.iload 5, 2) := by decide +kernel
theorem dX11_guest_61 : decode cX11_guest 61 = .ok (.aload_n 0, 1) := by decide +kernel
theorem dX11_guest_62 : decode cX11_guest 62 = .ok (.iconst 0, 1) := by decide +kernel
theorem dX11_guest_63 : decode cX11_guest 63 = .ok (.iload 6, 2) := by decide +kernel
theorem dX11_guest_65 : decode cX11_guest 65 = .ok (.invokevirtual 171, 3) := by decide +kernel
theorem dX11_guest_68 : decode cX11_guest 68 = .ok (.ifCond .eq 7, 3) := by decide +kernel
theorem dX11_guest_71 : decode cX11_guest 71 = .ok (.iconst 1, 1) := by decide +kernel
theorem dX11_guest_72 : decode cX11_guest 72 = .ok (.goto 4, 3) := by decide +kernel
theorem dX11_guest_75 : decode cX11_guest 75 = .ok (.iconst 0, 1) := by decide +kernel
theorem dX11_guest_76 : decode cX11_guest 76 = .ok (.iadd, 1) := by decide +kernel
theorem dX11_guest_77 : decode cX11_guest 77 = .ok (.istore 5, 2) := by decide +kernel
theorem dX11_guest_79 : decode cX11_guest 79 = .ok (.iinc 6 1, 3) := by decide +kernel
theorem dX11_guest_82 : decode cX11_guest 82 = .ok (.goto (-30), 3) := by decide +kernel
theorem dX11_guest_85 : decode cX11_guest 85 = .ok (.iload_n 2, 1) := by decide +kernel
theorem dX11_guest_86 : decode cX11_guest 86 = .ok (.ifCond .ne 12, 3) := by decide +kernel
theorem dX11_guest_89 : decode cX11_guest 89 = .ok (.aload_n 0, 1) := by decide +kernel
theorem dX11_guest_90 : decode cX11_guest 90 = .ok (.getfield 36, 3) := by decide +kernel
theorem dX11_guest_93 : decode cX11_guest 93 = .ok (.iload_n 1, 1) := by decide +kernel
theorem dX11_guest_94 : decode cX11_guest 94 = .ok (.iaload, 1) := by decide +kernel
theorem dX11_guest_95 : decode cX11_guest 95 = .ok (.goto 62, 3) := by decide +kernel
theorem dX11_guest_98 : decode cX11_guest 98 = .ok (.iload_n 2, 1) := by decide +kernel
theorem dX11_guest_99 : decode cX11_guest 99 = .ok (.iconst 1, 1) := by decide +kernel
theorem dX11_guest_100 : decode cX11_guest 100 = .ok (.if_icmp .ne 12, 3) := by decide +kernel
theorem dX11_guest_103 : decode cX11_guest 103 = .ok (.aload_n 0, 1) := by decide +kernel
theorem dX11_guest_104 : decode cX11_guest 104 = .ok (.getfield 39, 3) := by decide +kernel
theorem dX11_guest_107 : decode cX11_guest 107 = .ok (.iload_n 1, 1) := by decide +kernel
theorem dX11_guest_108 : decode cX11_guest 108 = .ok (.iaload, 1) := by decide +kernel
theorem dX11_guest_109 : decode cX11_guest 109 = .ok (.goto 48, 3) := by decide +kernel
theorem dX11_guest_112 : decode cX11_guest 112 = .ok (.iload_n 2, 1) := by decide +kernel
theorem dX11_guest_113 : decode cX11_guest 113 = .ok (.iconst 2, 1) := by decide +kernel
theorem dX11_guest_114 : decode cX11_guest 114 = .ok (.if_icmp .ne 13, 3) := by decide +kernel
theorem dX11_guest_117 : decode cX11_guest 117 = .ok (.aload_n 0, 1) := by decide +kernel
theorem dX11_guest_118 : decode cX11_guest 118 = .ok (.iload_n 3, 1) := by decide +kernel
theorem dX11_guest_119 : decode cX11_guest 119 = .ok (.iload 4, 2) := by decide +kernel
theorem dX11_guest_121 : decode cX11_guest 121 = .ok (.invokevirtual 412, 3) := by decide +kernel
theorem dX11_guest_124 : decode cX11_guest 124 = .ok (.goto 33, 3) := by decide +kernel
theorem dX11_guest_127 : decode cX11_guest 127 = .ok (.iload_n 2, 1) := by decide +kernel
theorem dX11_guest_128 : decode cX11_guest 128 = .ok (.iconst 3, 1) := by decide +kernel
theorem dX11_guest_129 : decode cX11_guest 129 = .ok (.if_icmp .ne 8, 3) := by decide +kernel
theorem dX11_guest_132 : decode cX11_guest 132 = .ok (.iload 5, 2) := by decide +kernel
theorem dX11_guest_134 : decode cX11_guest 134 = .ok (.goto 23, 3) := by decide +kernel
theorem dX11_guest_137 : decode cX11_guest 137 = .ok (.iload_n 2, 1) := by decide +kernel
theorem dX11_guest_138 : decode cX11_guest 138 = .ok (.iconst 4, 1) := by decide +kernel
theorem dX11_guest_139 : decode cX11_guest 139 = .ok (.if_icmp .ne 13, 3) := by decide +kernel
theorem dX11_guest_142 : decode cX11_guest 142 = .ok (.aload_n 0, 1) := by decide +kernel
theorem dX11_guest_143 : decode cX11_guest 143 = .ok (.iload_n 3, 1) := by decide +kernel
theorem dX11_guest_144 : decode cX11_guest 144 = .ok (.iload 4, 2) := by decide +kernel
theorem dX11_guest_146 : decode cX11_guest 146 = .ok (.invokevirtual 415, 3) := by decide +kernel
theorem dX11_guest_149 : decode cX11_guest 149 = .ok (.goto 8, 3) := by decide +kernel
theorem dX11_guest_152 : decode cX11_guest 152 = .ok (.aload_n 0, 1) := by decide +kernel
theorem dX11_guest_153 : decode cX11_guest 153 = .ok (.iload_n 1, 1) := by decide +kernel
theorem dX11_guest_154 : decode cX11_guest 154 = .ok (.invokevirtual 427, 3) := by decide +kernel
theorem dX11_guest_157 : decode cX11_guest 157 = .ok (.ireturn, 1) := by decide +kernel
theorem dX11_read_0 : decode cX11_read 0 = .ok (.aload_n 0, 1) := by decide +kernel
theorem dX11_read_1 : decode cX11_read 1 = .ok (.iconst 0, 1) := by decide +kernel
theorem dX11_read_2 : decode cX11_read 2 = .ok (.putfield 88, 3) := by decide +kernel
theorem dX11_read_5 : decode cX11_read 5 = .ok (.aload_n 0, 1) := by decide +kernel
theorem dX11_read_6 : decode cX11_read 6 = .ok (.iload_n 1, 1) := by decide +kernel
theorem dX11_read_7 : decode cX11_read 7 = .ok (.iload_n 2, 1) := by decide +kernel
theorem dX11_read_8 : decode cX11_read 8 = .ok (.invokevirtual 430, 3) := by decide +kernel
theorem dX11_read_11 : decode cX11_read 11 = .ok (.ifCond .eq 34, 3) := by decide +kernel
theorem dX11_read_14 : decode cX11_read 14 = .ok (.aload_n 0, 1) := by decide +kernel
theorem dX11_read_15 : decode cX11_read 15 = .ok (.iload_n 3, 1) := by decide +kernel
theorem dX11_read_16 : decode cX11_read 16 = .ok (.iconst 0, 1) := by decide +kernel
theorem dX11_read_17 : decode cX11_read 17 = .ok (.iconst 3, 1) := by decide +kernel
theorem dX11_read_18 : decode cX11_read 18 = .ok (.invokestatic 286, 3) := by decide +kernel
theorem dX11_read_21 : decode cX11_read 21 = .ok (.iconst 1, 1) := by decide +kernel
theorem dX11_read_22 : decode cX11_read 22 = .ok (.invokevirtual 358, 3) := by decide +kernel
theorem dX11_read_25 : decode cX11_read 25 = .ok (.ifCond .eq 20, 3) := by decide +kernel
theorem dX11_read_28 : decode cX11_read 28 = .ok (.aload_n 0, 1) := by decide +kernel
theorem dX11_read_29 : decode cX11_read 29 = .ok (.iconst 0, 1) := by decide +kernel
theorem dX11_read_30 : decode cX11_read 30 = .ok (.aload_n 0, 1) := by decide +kernel
theorem dX11_read_31 : decode cX11_read 31 = .ok (.getfield 42, 3) := by decide +kernel
theorem dX11_read_34 : decode cX11_read 34 = .ok (.iload_n 1, 1) := by decide +kernel
theorem dX11_read_35 : decode cX11_read 35 = .ok (.iaload, 1) := by decide +kernel
theorem dX11_read_36 : decode cX11_read 36 = .ok (.iload_n 2, 1) := by decide +kernel
theorem dX11_read_37 : decode cX11_read 37 = .ok (.iadd, 1) := by decide +kernel
theorem dX11_read_38 : decode cX11_read 38 = .ok (.iload_n 3, 1) := by decide +kernel
theorem dX11_read_39 : decode cX11_read 39 = .ok (.invokevirtual 117, 3) := by decide +kernel
theorem dX11_read_42 : decode cX11_read 42 = .ok (.goto 4, 3) := by decide +kernel
theorem dX11_read_45 : decode cX11_read 45 = .ok (.iconst 0, 1) := by decide +kernel
theorem dX11_read_46 : decode cX11_read 46 = .ok (.ireturn, 1) := by decide +kernel
theorem dX11_page_0 : decode cX11_page 0 = .ok (.aload_n 0, 1) := by decide +kernel
theorem dX11_page_1 : decode cX11_page 1 = .ok (.iconst 0, 1) := by decide +kernel
theorem dX11_page_2 : decode cX11_page 2 = .ok (.putfield 88, 3) := by decide +kernel
theorem dX11_page_5 : decode cX11_page 5 = .ok (.aload_n 0, 1) := by decide +kernel
theorem dX11_page_6 : decode cX11_page 6 = .ok (.iload_n 1, 1) := by decide +kernel
theorem dX11_page_7 : decode cX11_page 7 = .ok (.iload_n 2, 1) := by decide +kernel
theorem dX11_page_8 : decode cX11_page 8 = .ok (.invokevirtual 430, 3) := by decide +kernel
theorem dX11_page_11 : decode cX11_page 11 = .ok (.ifCond .eq 18, 3) := by decide +kernel
theorem dX11_page_14 : decode cX11_page 14 = .ok (.aload_n 0, 1) := by decide +kernel
theorem dX11_page_15 : decode cX11_page 15 = .ok (.iload_n 3, 1) := by decide +kernel
theorem dX11_page_16 : decode cX11_page 16 = .ok (.iconst 0, 1) := by decide +kernel
theorem dX11_page_17 : decode cX11_page 17 = .ok (.bipush 7, 2) := by decide +kernel
theorem dX11_page_19 : decode cX11_page 19 = .ok (.invokestatic 286, 3) := by decide +kernel
theorem dX11_page_22 : decode cX11_page 22 = .ok (.iconst 1, 1) := by decide +kernel
theorem dX11_page_23 : decode cX11_page 23 = .ok (.invokevirtual 358, 3) := by decide +kernel
theorem dX11_page_26 : decode cX11_page 26 = .ok (.ifCond .ne 5, 3) := by decide +kernel
theorem dX11_page_29 : decode cX11_page 29 = .ok (.iconst 0, 1) := by decide +kernel
theorem dX11_page_30 : decode cX11_page 30 = .ok (.ireturn, 1) := by decide +kernel
theorem dX11_page_31 : decode cX11_page 31 = .ok (.aload_n 0, 1) := by decide +kernel
theorem dX11_page_32 : decode cX11_page 32 = .ok (.getfield 42, 3) := by decide +kernel
theorem dX11_page_35 : decode cX11_page 35 = .ok (.iload_n 1, 1) := by decide +kernel
theorem dX11_page_36 : decode cX11_page 36 = .ok (.iaload, 1) := by decide +kernel
theorem dX11_page_37 : decode cX11_page 37 = .ok (.iload_n 2, 1) := by decide +kernel
theorem dX11_page_38 : decode cX11_page 38 = .ok (.iadd, 1) := by decide +kernel
theorem dX11_page_39 : decode cX11_page 39 = .ok (.istore 4, 2) := by decide +kernel
theorem dX11_page_41 : decode cX11_page 41 = .ok (.iload_n 3, 1) := by decide +kernel
theorem dX11_page_42 : decode cX11_page 42 = .ok (.tableswitch 127 0 6 #[42, 53, 69, 80, 91, 103, 115], 42) := by decide +kernel
theorem dX11_page_84 : decode cX11_page 84 = .ok (.aload_n 0, 1) := by decide +kernel
theorem dX11_page_85 : decode cX11_page 85 = .ok (.getfield 10, 3) := by decide +kernel
theorem dX11_page_88 : decode cX11_page 88 = .ok (.bipush 16, 2) := by decide +kernel
theorem dX11_page_90 : decode cX11_page 90 = .ok (.iload 4, 2) := by decide +kernel
theorem dX11_page_92 : decode cX11_page 92 = .ok (.iadd, 1) := by decide +kernel
theorem dX11_page_93 : decode cX11_page 93 = .ok (.iaload, 1) := by decide +kernel
theorem dX11_page_94 : decode cX11_page 94 = .ok (.ireturn, 1) := by decide +kernel
theorem dX11_page_95 : decode cX11_page 95 = .ok (.aload_n 0, 1) := by decide +kernel
theorem dX11_page_96 : decode cX11_page 96 = .ok (.iconst 0, 1) := by decide +kernel
theorem dX11_page_97 : decode cX11_page 97 = .ok (.iload 4, 2) := by decide +kernel
theorem dX11_page_99 : decode cX11_page 99 = .ok (.invokevirtual 171, 3) := by decide +kernel
theorem dX11_page_102 : decode cX11_page 102 = .ok (.ifCond .eq 7, 3) := by decide +kernel
theorem dX11_page_105 : decode cX11_page 105 = .ok (.iconst 1, 1) := by decide +kernel
theorem dX11_page_106 : decode cX11_page 106 = .ok (.goto 4, 3) := by decide +kernel
theorem dX11_page_109 : decode cX11_page 109 = .ok (.iconst 0, 1) := by decide +kernel
theorem dX11_page_110 : decode cX11_page 110 = .ok (.ireturn, 1) := by decide +kernel
theorem dX11_page_111 : decode cX11_page 111 = .ok (.aload_n 0, 1) := by decide +kernel
theorem dX11_page_112 : decode cX11_page 112 = .ok (.getfield 10, 3) := by decide +kernel
theorem dX11_page_115 : decode cX11_page 115 = .ok (.bipush 64, 2) := by decide +kernel
theorem dX11_page_117 : decode cX11_page 117 = .ok (.iload 4, 2) := by decide +kernel
theorem dX11_page_119 : decode cX11_page 119 = .ok (.iadd, 1) := by decide +kernel
theorem dX11_page_120 : decode cX11_page 120 = .ok (.iaload, 1) := by decide +kernel
theorem dX11_page_121 : decode cX11_page 121 = .ok (.ireturn, 1) := by decide +kernel
theorem dX11_page_122 : decode cX11_page 122 = .ok (.aload_n 0, 1) := by decide +kernel
theorem dX11_page_123 : decode cX11_page 123 = .ok (.getfield 10, 3) := by decide +kernel
theorem dX11_page_126 : decode cX11_page 126 = .ok (.bipush 112, 2) := by decide +kernel
theorem dX11_page_128 : decode cX11_page 128 = .ok (.iload 4, 2) := by decide +kernel
theorem dX11_page_130 : decode cX11_page 130 = .ok (.iadd, 1) := by decide +kernel
theorem dX11_page_131 : decode cX11_page 131 = .ok (.iaload, 1) := by decide +kernel
theorem dX11_page_132 : decode cX11_page 132 = .ok (.ireturn, 1) := by decide +kernel
theorem dX11_page_133 : decode cX11_page 133 = .ok (.aload_n 0, 1) := by decide +kernel
theorem dX11_page_134 : decode cX11_page 134 = .ok (.getfield 10, 3) := by decide +kernel
theorem dX11_page_137 : decode cX11_page 137 = .ok (.sipush 160, 3) := by decide +kernel
theorem dX11_page_140 : decode cX11_page 140 = .ok (.iload 4, 2) := by decide +kernel
theorem dX11_page_142 : decode cX11_page 142 = .ok (.iadd, 1) := by decide +kernel
theorem dX11_page_143 : decode cX11_page 143 = .ok (.iaload, 1) := by decide +kernel
theorem dX11_page_144 : decode cX11_page 144 = .ok (.ireturn, 1) := by decide +kernel
theorem dX11_page_145 : decode cX11_page 145 = .ok (.aload_n 0, 1) := by decide +kernel
theorem dX11_page_146 : decode cX11_page 146 = .ok (.getfield 10, 3) := by decide +kernel
theorem dX11_page_149 : decode cX11_page 149 = .ok (.sipush 208, 3) := by decide +kernel
theorem dX11_page_152 : decode cX11_page 152 = .ok (.iload 4, 2) := by decide +kernel
theorem dX11_page_154 : decode cX11_page 154 = .ok (.iadd, 1) := by decide +kernel
theorem dX11_page_155 : decode cX11_page 155 = .ok (.iaload, 1) := by decide +kernel
theorem dX11_page_156 : decode cX11_page 156 = .ok (.ireturn, 1) := by decide +kernel
theorem dX11_page_157 : decode cX11_page 157 = .ok (.aload_n 0, 1) := by decide +kernel
theorem dX11_page_158 : decode cX11_page 158 = .ok (.getfield 10, 3) := by decide +kernel
theorem dX11_page_161 : decode cX11_page 161 = .ok (.sipush 256, 3) := by decide +kernel
theorem dX11_page_164 : decode cX11_page 164 = .ok (.iload 4, 2) := by decide +kernel
theorem dX11_page_166 : decode cX11_page 166 = .ok (.iadd, 1) := by decide +kernel
theorem dX11_page_167 : decode cX11_page 167 = .ok (.iaload, 1) := by decide +kernel
theorem dX11_page_168 : decode cX11_page 168 = .ok (.ireturn, 1) := by decide +kernel
theorem dX11_page_169 : decode cX11_page 169 = .ok (.aload_n 0, 1) := by decide +kernel
theorem dX11_page_170 : decode cX11_page 170 = .ok (.getfield 10, 3) := by decide +kernel
theorem dX11_page_173 : decode cX11_page 173 = .ok (.sipush 304, 3) := by decide +kernel
theorem dX11_page_176 : decode cX11_page 176 = .ok (.iload 4, 2) := by decide +kernel
theorem dX11_page_178 : decode cX11_page 178 = .ok (.iadd, 1) := by decide +kernel
theorem dX11_page_179 : decode cX11_page 179 = .ok (.iaload, 1) := by decide +kernel
theorem dX11_page_180 : decode cX11_page 180 = .ok (.ireturn, 1) := by decide +kernel
theorem dX11_told_0 : decode cX11_told 0 = .ok (.bipush 12, 2) := by decide +kernel
theorem dX11_told_2 : decode cX11_told 2 = .ok (.aload_n 0, 1) := by decide +kernel
theorem dX11_told_3 : decode cX11_told 3 = .ok (.getfield 45, 3) := by decide +kernel
theorem dX11_told_6 : decode cX11_told 6 = .ok (.iload_n 1, 1) := by decide +kernel
theorem dX11_told_7 : decode cX11_told 7 = .ok (.iaload, 1) := by decide +kernel
theorem dX11_told_8 : decode cX11_told 8 = .ok (.imul, 1) := by decide +kernel
theorem dX11_told_9 : decode cX11_told 9 = .ok (.iload_n 1, 1) := by decide +kernel
theorem dX11_told_10 : decode cX11_told 10 = .ok (.iadd, 1) := by decide +kernel
theorem dX11_told_11 : decode cX11_told 11 = .ok (.aload_n 0, 1) := by decide +kernel
theorem dX11_told_12 : decode cX11_told 12 = .ok (.getfield 42, 3) := by decide +kernel
theorem dX11_told_15 : decode cX11_told 15 = .ok (.aload_n 0, 1) := by decide +kernel
theorem dX11_told_16 : decode cX11_told 16 = .ok (.getfield 45, 3) := by decide +kernel
theorem dX11_told_19 : decode cX11_told 19 = .ok (.iload_n 1, 1) := by decide +kernel
theorem dX11_told_20 : decode cX11_told 20 = .ok (.iaload, 1) := by decide +kernel
theorem dX11_told_21 : decode cX11_told 21 = .ok (.iaload, 1) := by decide +kernel
theorem dX11_told_22 : decode cX11_told 22 = .ok (.isub, 1) := by decide +kernel
theorem dX11_told_23 : decode cX11_told 23 = .ok (.ireturn, 1) := by decide +kernel
theorem dX11_isFrame_0 : decode cX11_isFrame 0 = .ok (.aload_n 0, 1) := by decide +kernel
theorem dX11_isFrame_1 : decode cX11_isFrame 1 = .ok (.iload_n 1, 1) := by decide +kernel
theorem dX11_isFrame_2 : decode cX11_isFrame 2 = .ok (.iconst 0, 1) := by decide +kernel
theorem dX11_isFrame_3 : decode cX11_isFrame 3 = .ok (.aload_n 0, 1) := by decide +kernel
theorem dX11_isFrame_4 : decode cX11_isFrame 4 = .ok (.getfield 23, 3) := by decide +kernel
theorem dX11_isFrame_7 : decode cX11_isFrame 7 = .ok (.iconst 1, 1) := by decide +kernel
theorem dX11_isFrame_8 : decode cX11_isFrame 8 = .ok (.isub, 1) := by decide +kernel
theorem dX11_isFrame_9 : decode cX11_isFrame 9 = .ok (.invokestatic 286, 3) := by decide +kernel
theorem dX11_isFrame_12 : decode cX11_isFrame 12 = .ok (.iconst 1, 1) := by decide +kernel
theorem dX11_isFrame_13 : decode cX11_isFrame 13 = .ok (.invokevirtual 358, 3) := by decide +kernel
theorem dX11_isFrame_16 : decode cX11_isFrame 16 = .ok (.ireturn, 1) := by decide +kernel
theorem dX11_frame_0 : decode cX11_frame 0 = .ok (.aload_n 0, 1) := by decide +kernel
theorem dX11_frame_1 : decode cX11_frame 1 = .ok (.iconst 0, 1) := by decide +kernel
theorem dX11_frame_2 : decode cX11_frame 2 = .ok (.putfield 88, 3) := by decide +kernel
theorem dX11_frame_5 : decode cX11_frame 5 = .ok (.aload_n 0, 1) := by decide +kernel
theorem dX11_frame_6 : decode cX11_frame 6 = .ok (.iload_n 1, 1) := by decide +kernel
theorem dX11_frame_7 : decode cX11_frame 7 = .ok (.invokevirtual 433, 3) := by decide +kernel
theorem dX11_frame_10 : decode cX11_frame 10 = .ok (.ifCond .ne 5, 3) := by decide +kernel
theorem dX11_frame_13 : decode cX11_frame 13 = .ok (.iconst 0, 1) := by decide +kernel
theorem dX11_frame_14 : decode cX11_frame 14 = .ok (.ireturn, 1) := by decide +kernel
theorem dX11_frame_15 : decode cX11_frame 15 = .ok (.iload_n 2, 1) := by decide +kernel
theorem dX11_frame_16 : decode cX11_frame 16 = .ok (.iconst (-1), 1) := by decide +kernel
theorem dX11_frame_17 : decode cX11_frame 17 = .ok (.if_icmp .ne 14, 3) := by decide +kernel
theorem dX11_frame_20 : decode cX11_frame 20 = .ok (.aload_n 0, 1) := by decide +kernel
theorem dX11_frame_21 : decode cX11_frame 21 = .ok (.getfield 10, 3) := by decide +kernel
theorem dX11_frame_24 : decode cX11_frame 24 = .ok (.sipush 544, 3) := by decide +kernel
theorem dX11_frame_27 : decode cX11_frame 27 = .ok (.iload_n 1, 1) := by decide +kernel
theorem dX11_frame_28 : decode cX11_frame 28 = .ok (.iadd, 1) := by decide +kernel
theorem dX11_frame_29 : decode cX11_frame 29 = .ok (.iaload, 1) := by decide +kernel
theorem dX11_frame_30 : decode cX11_frame 30 = .ok (.ireturn, 1) := by decide +kernel
theorem dX11_frame_31 : decode cX11_frame 31 = .ok (.aload_n 0, 1) := by decide +kernel
theorem dX11_frame_32 : decode cX11_frame 32 = .ok (.iload_n 2, 1) := by decide +kernel
theorem dX11_frame_33 : decode cX11_frame 33 = .ok (.ifCond .lt 21, 3) := by decide +kernel
theorem dX11_frame_36 : decode cX11_frame 36 = .ok (.iload_n 2, 1) := by decide +kernel
theorem dX11_frame_37 : decode cX11_frame 37 = .ok (.aload_n 0, 1) := by decide +kernel
theorem dX11_frame_38 : decode cX11_frame 38 = .ok (.getfield 10, 3) := by decide +kernel
theorem dX11_frame_41 : decode cX11_frame 41 = .ok (.sipush 544, 3) := by decide +kernel
theorem dX11_frame_44 : decode cX11_frame 44 = .ok (.iload_n 1, 1) := by decide +kernel
theorem dX11_frame_45 : decode cX11_frame 45 = .ok (.iadd, 1) := by decide +kernel
theorem dX11_frame_46 : decode cX11_frame 46 = .ok (.iaload, 1) := by decide +kernel
theorem dX11_frame_47 : decode cX11_frame 47 = .ok (.if_icmp .ge 7, 3) := by decide +kernel
theorem dX11_frame_50 : decode cX11_frame 50 = .ok (.iconst 1, 1) := by decide +kernel
theorem dX11_frame_51 : decode cX11_frame 51 = .ok (.goto 4, 3) := by decide +kernel
theorem dX11_frame_54 : decode cX11_frame 54 = .ok (.iconst 0, 1) := by decide +kernel
theorem dX11_frame_55 : decode cX11_frame 55 = .ok (.iconst 1, 1) := by decide +kernel
theorem dX11_frame_56 : decode cX11_frame 56 = .ok (.invokevirtual 358, 3) := by decide +kernel
theorem dX11_frame_59 : decode cX11_frame 59 = .ok (.ifCond .eq 25, 3) := by decide +kernel
theorem dX11_frame_62 : decode cX11_frame 62 = .ok (.aload_n 0, 1) := by decide +kernel
theorem dX11_frame_63 : decode cX11_frame 63 = .ok (.aload_n 0, 1) := by decide +kernel
theorem dX11_frame_64 : decode cX11_frame 64 = .ok (.getfield 10, 3) := by decide +kernel
theorem dX11_frame_67 : decode cX11_frame 67 = .ok (.sipush 592, 3) := by decide +kernel
theorem dX11_frame_70 : decode cX11_frame 70 = .ok (.bipush 8, 2) := by decide +kernel
theorem dX11_frame_72 : decode cX11_frame 72 = .ok (.iload_n 1, 1) := by decide +kernel
theorem dX11_frame_73 : decode cX11_frame 73 = .ok (.imul, 1) := by decide +kernel
theorem dX11_frame_74 : decode cX11_frame 74 = .ok (.iadd, 1) := by decide +kernel
theorem dX11_frame_75 : decode cX11_frame 75 = .ok (.iload_n 2, 1) := by decide +kernel
theorem dX11_frame_76 : decode cX11_frame 76 = .ok (.iadd, 1) := by decide +kernel
theorem dX11_frame_77 : decode cX11_frame 77 = .ok (.iaload, 1) := by decide +kernel
theorem dX11_frame_78 : decode cX11_frame 78 = .ok (.invokevirtual 436, 3) := by decide +kernel
theorem dX11_frame_81 : decode cX11_frame 81 = .ok (.goto 4, 3) := by decide +kernel
theorem dX11_frame_84 : decode cX11_frame 84 = .ok (.iconst 0, 1) := by decide +kernel
theorem dX11_frame_85 : decode cX11_frame 85 = .ok (.ireturn, 1) := by decide +kernel
theorem dX11_chain_0 : decode cX11_chain 0 = .ok (.aload_n 0, 1) := by decide +kernel
theorem dX11_chain_1 : decode cX11_chain 1 = .ok (.iconst 0, 1) := by decide +kernel
theorem dX11_chain_2 : decode cX11_chain 2 = .ok (.putfield 88, 3) := by decide +kernel
theorem dX11_chain_5 : decode cX11_chain 5 = .ok (.aload_n 0, 1) := by decide +kernel
theorem dX11_chain_6 : decode cX11_chain 6 = .ok (.iload_n 1, 1) := by decide +kernel
theorem dX11_chain_7 : decode cX11_chain 7 = .ok (.invokevirtual 433, 3) := by decide +kernel
theorem dX11_chain_10 : decode cX11_chain 10 = .ok (.ifCond .eq 30, 3) := by decide +kernel
theorem dX11_chain_13 : decode cX11_chain 13 = .ok (.aload_n 0, 1) := by decide +kernel
theorem dX11_chain_14 : decode cX11_chain 14 = .ok (.aload_n 0, 1) := by decide +kernel
theorem dX11_chain_15 : decode cX11_chain 15 = .ok (.getfield 10, 3) := by decide +kernel
theorem dX11_chain_18 : decode cX11_chain 18 = .ok (.sipush 976, 3) := by decide +kernel
theorem dX11_chain_21 : decode cX11_chain 21 = .ok (.iload_n 1, 1) := by decide +kernel
theorem dX11_chain_22 : decode cX11_chain 22 = .ok (.iadd, 1) := by decide +kernel
theorem dX11_chain_23 : decode cX11_chain 23 = .ok (.iaload, 1) := by decide +kernel
theorem dX11_chain_24 : decode cX11_chain 24 = .ok (.iconst (-1), 1) := by decide +kernel
theorem dX11_chain_25 : decode cX11_chain 25 = .ok (.if_icmp .eq 7, 3) := by decide +kernel
theorem dX11_chain_28 : decode cX11_chain 28 = .ok (.iconst 1, 1) := by decide +kernel
theorem dX11_chain_29 : decode cX11_chain 29 = .ok (.goto 4, 3) := by decide +kernel
theorem dX11_chain_32 : decode cX11_chain 32 = .ok (.iconst 0, 1) := by decide +kernel
theorem dX11_chain_33 : decode cX11_chain 33 = .ok (.iconst 1, 1) := by decide +kernel
theorem dX11_chain_34 : decode cX11_chain 34 = .ok (.invokevirtual 358, 3) := by decide +kernel
theorem dX11_chain_37 : decode cX11_chain 37 = .ok (.ifCond .ne 5, 3) := by decide +kernel
theorem dX11_chain_40 : decode cX11_chain 40 = .ok (.iconst 0, 1) := by decide +kernel
theorem dX11_chain_41 : decode cX11_chain 41 = .ok (.ireturn, 1) := by decide +kernel
theorem dX11_chain_42 : decode cX11_chain 42 = .ok (.aload_n 0, 1) := by decide +kernel
theorem dX11_chain_43 : decode cX11_chain 43 = .ok (.iconst 0, 1) := by decide +kernel
theorem dX11_chain_44 : decode cX11_chain 44 = .ok (.aload_n 0, 1) := by decide +kernel
theorem dX11_chain_45 : decode cX11_chain 45 = .ok (.getfield 10, 3) := by decide +kernel
theorem dX11_chain_48 : decode cX11_chain 48 = .ok (.sipush 976, 3) := by decide +kernel
theorem dX11_chain_51 : decode cX11_chain 51 = .ok (.iload_n 1, 1) := by decide +kernel
theorem dX11_chain_52 : decode cX11_chain 52 = .ok (.iadd, 1) := by decide +kernel
theorem dX11_chain_53 : decode cX11_chain 53 = .ok (.iaload, 1) := by decide +kernel
theorem dX11_chain_54 : decode cX11_chain 54 = .ok (.invokevirtual 95, 3) := by decide +kernel
theorem dX11_chain_57 : decode cX11_chain 57 = .ok (.istore_n 3, 1) := by decide +kernel
theorem dX11_chain_58 : decode cX11_chain 58 = .ok (.iload_n 2, 1) := by decide +kernel
theorem dX11_chain_59 : decode cX11_chain 59 = .ok (.iconst (-1), 1) := by decide +kernel
theorem dX11_chain_60 : decode cX11_chain 60 = .ok (.if_icmp .ne 5, 3) := by decide +kernel
theorem dX11_chain_63 : decode cX11_chain 63 = .ok (.iload_n 3, 1) := by decide +kernel
theorem dX11_chain_64 : decode cX11_chain 64 = .ok (.ireturn, 1) := by decide +kernel
theorem dX11_chain_65 : decode cX11_chain 65 = .ok (.aload_n 0, 1) := by decide +kernel
theorem dX11_chain_66 : decode cX11_chain 66 = .ok (.iload_n 2, 1) := by decide +kernel
theorem dX11_chain_67 : decode cX11_chain 67 = .ok (.ifCond .lt 12, 3) := by decide +kernel
theorem dX11_chain_70 : decode cX11_chain 70 = .ok (.iload_n 2, 1) := by decide +kernel
theorem dX11_chain_71 : decode cX11_chain 71 = .ok (.iload_n 3, 1) := by decide +kernel
theorem dX11_chain_72 : decode cX11_chain 72 = .ok (.if_icmp .ge 7, 3) := by decide +kernel
theorem dX11_chain_75 : decode cX11_chain 75 = .ok (.iconst 1, 1) := by decide +kernel
theorem dX11_chain_76 : decode cX11_chain 76 = .ok (.goto 4, 3) := by decide +kernel
theorem dX11_chain_79 : decode cX11_chain 79 = .ok (.iconst 0, 1) := by decide +kernel
theorem dX11_chain_80 : decode cX11_chain 80 = .ok (.iconst 1, 1) := by decide +kernel
theorem dX11_chain_81 : decode cX11_chain 81 = .ok (.invokevirtual 358, 3) := by decide +kernel
theorem dX11_chain_84 : decode cX11_chain 84 = .ok (.ifCond .eq 22, 3) := by decide +kernel
theorem dX11_chain_87 : decode cX11_chain 87 = .ok (.aload_n 0, 1) := by decide +kernel
theorem dX11_chain_88 : decode cX11_chain 88 = .ok (.iconst 0, 1) := by decide +kernel
theorem dX11_chain_89 : decode cX11_chain 89 = .ok (.aload_n 0, 1) := by decide +kernel
theorem dX11_chain_90 : decode cX11_chain 90 = .ok (.getfield 10, 3) := by decide +kernel
theorem dX11_chain_93 : decode cX11_chain 93 = .ok (.sipush 976, 3) := by decide +kernel
theorem dX11_chain_96 : decode cX11_chain 96 = .ok (.iload_n 1, 1) := by decide +kernel
theorem dX11_chain_97 : decode cX11_chain 97 = .ok (.iadd, 1) := by decide +kernel
theorem dX11_chain_98 : decode cX11_chain 98 = .ok (.iaload, 1) := by decide +kernel
theorem dX11_chain_99 : decode cX11_chain 99 = .ok (.iload_n 2, 1) := by decide +kernel
theorem dX11_chain_100 : decode cX11_chain 100 = .ok (.invokevirtual 121, 3) := by decide +kernel
theorem dX11_chain_103 : decode cX11_chain 103 = .ok (.goto 4, 3) := by decide +kernel
theorem dX11_chain_106 : decode cX11_chain 106 = .ok (.iconst 0, 1) := by decide +kernel
theorem dX11_chain_107 : decode cX11_chain 107 = .ok (.ireturn, 1) := by decide +kernel
theorem dX11_knot_0 : decode cX11_knot 0 = .ok (.aload_n 0, 1) := by decide +kernel
theorem dX11_knot_1 : decode cX11_knot 1 = .ok (.iconst 0, 1) := by decide +kernel
theorem dX11_knot_2 : decode cX11_knot 2 = .ok (.putfield 88, 3) := by decide +kernel
theorem dX11_knot_5 : decode cX11_knot 5 = .ok (.aload_n 0, 1) := by decide +kernel
theorem dX11_knot_6 : decode cX11_knot 6 = .ok (.iload_n 1, 1) := by decide +kernel
theorem dX11_knot_7 : decode cX11_knot 7 = .ok (.iconst 0, 1) := by decide +kernel
theorem dX11_knot_8 : decode cX11_knot 8 = .ok (.iconst 2, 1) := by decide +kernel
theorem dX11_knot_9 : decode cX11_knot 9 = .ok (.invokestatic 286, 3) := by decide +kernel
theorem dX11_knot_12 : decode cX11_knot 12 = .ok (.iconst 1, 1) := by decide +kernel
theorem dX11_knot_13 : decode cX11_knot 13 = .ok (.invokevirtual 358, 3) := by decide +kernel
theorem dX11_knot_16 : decode cX11_knot 16 = .ok (.ifCond .ne 5, 3) := by decide +kernel
theorem dX11_knot_19 : decode cX11_knot 19 = .ok (.iconst 0, 1) := by decide +kernel
theorem dX11_knot_20 : decode cX11_knot 20 = .ok (.ireturn, 1) := by decide +kernel
theorem dX11_knot_21 : decode cX11_knot 21 = .ok (.iload_n 2, 1) := by decide +kernel
theorem dX11_knot_22 : decode cX11_knot 22 = .ok (.ifCond .eq 9, 3) := by decide +kernel
theorem dX11_knot_25 : decode cX11_knot 25 = .ok (.sipush 1072, 3) := by decide +kernel
theorem dX11_knot_28 : decode cX11_knot 28 = .ok (.goto 6, 3) := by decide +kernel
theorem dX11_knot_31 : decode cX11_knot 31 = .ok (.sipush 1363, 3) := by decide +kernel
theorem dX11_knot_34 : decode cX11_knot 34 = .ok (.bipush 97, 2) := by decide +kernel
theorem dX11_knot_36 : decode cX11_knot 36 = .ok (.iload_n 1, 1) := by decide +kernel
theorem dX11_knot_37 : decode cX11_knot 37 = .ok (.imul, 1) := by decide +kernel
theorem dX11_knot_38 : decode cX11_knot 38 = .ok (.iadd, 1) := by decide +kernel
theorem dX11_knot_39 : decode cX11_knot 39 = .ok (.istore 5, 2) := by decide +kernel
theorem dX11_knot_41 : decode cX11_knot 41 = .ok (.iload_n 3, 1) := by decide +kernel
theorem dX11_knot_42 : decode cX11_knot 42 = .ok (.iconst (-1), 1) := by decide +kernel
theorem dX11_knot_43 : decode cX11_knot 43 = .ok (.if_icmp .ne 11, 3) := by decide +kernel
theorem dX11_knot_46 : decode cX11_knot 46 = .ok (.aload_n 0, 1) := by decide +kernel
theorem dX11_knot_47 : decode cX11_knot 47 = .ok (.getfield 10, 3) := by decide +kernel
theorem dX11_knot_50 : decode cX11_knot 50 = .ok (.iload 5, 2) := by decide +kernel
theorem dX11_knot_52 : decode cX11_knot 52 = .ok (.iaload, 1) := by decide +kernel
theorem dX11_knot_53 : decode cX11_knot 53 = .ok (.ireturn, 1) := by decide +kernel
theorem dX11_knot_54 : decode cX11_knot 54 = .ok (.aload_n 0, 1) := by decide +kernel
theorem dX11_knot_55 : decode cX11_knot 55 = .ok (.iload_n 3, 1) := by decide +kernel
theorem dX11_knot_56 : decode cX11_knot 56 = .ok (.ifCond .lt 28, 3) := by decide +kernel
theorem dX11_knot_59 : decode cX11_knot 59 = .ok (.iload_n 3, 1) := by decide +kernel
theorem dX11_knot_60 : decode cX11_knot 60 = .ok (.aload_n 0, 1) := by decide +kernel
theorem dX11_knot_61 : decode cX11_knot 61 = .ok (.getfield 10, 3) := by decide +kernel
theorem dX11_knot_64 : decode cX11_knot 64 = .ok (.iload 5, 2) := by decide +kernel
theorem dX11_knot_66 : decode cX11_knot 66 = .ok (.iaload, 1) := by decide +kernel
theorem dX11_knot_67 : decode cX11_knot 67 = .ok (.if_icmp .ge 17, 3) := by decide +kernel
theorem dX11_knot_70 : decode cX11_knot 70 = .ok (.iload 4, 2) := by decide +kernel
theorem dX11_knot_72 : decode cX11_knot 72 = .ok (.iconst 0, 1) := by decide +kernel
theorem dX11_knot_73 : decode cX11_knot 73 = .ok (.iconst 1, 1) := by decide +kernel
theorem dX11_knot_74 : decode cX11_knot 74 = .ok (.invokestatic 286, 3) := by decide +kernel
theorem dX11_knot_77 : decode cX11_knot 77 = .ok (.ifCond .eq 7, 3) := by decide +kernel
theorem dX11_knot_80 : decode cX11_knot 80 = .ok (.iconst 1, 1) := by decide +kernel
theorem dX11_knot_81 : decode cX11_knot 81 = .ok (.goto 4, 3) := by decide +kernel
theorem dX11_knot_84 : decode cX11_knot 84 = .ok (.iconst 0, 1) := by decide +kernel
theorem dX11_knot_85 : decode cX11_knot 85 = .ok (.iconst 1, 1) := by decide +kernel
theorem dX11_knot_86 : decode cX11_knot 86 = .ok (.invokevirtual 358, 3) := by decide +kernel
theorem dX11_knot_89 : decode cX11_knot 89 = .ok (.ifCond .ne 5, 3) := by decide +kernel
theorem dX11_knot_92 : decode cX11_knot 92 = .ok (.iconst 0, 1) := by decide +kernel
theorem dX11_knot_93 : decode cX11_knot 93 = .ok (.ireturn, 1) := by decide +kernel
theorem dX11_knot_94 : decode cX11_knot 94 = .ok (.iload 4, 2) := by decide +kernel
theorem dX11_knot_96 : decode cX11_knot 96 = .ok (.iconst 1, 1) := by decide +kernel
theorem dX11_knot_97 : decode cX11_knot 97 = .ok (.if_icmp .ne 16, 3) := by decide +kernel
theorem dX11_knot_100 : decode cX11_knot 100 = .ok (.aload_n 0, 1) := by decide +kernel
theorem dX11_knot_101 : decode cX11_knot 101 = .ok (.getfield 10, 3) := by decide +kernel
theorem dX11_knot_104 : decode cX11_knot 104 = .ok (.iload 5, 2) := by decide +kernel
theorem dX11_knot_106 : decode cX11_knot 106 = .ok (.bipush 49, 2) := by decide +kernel
theorem dX11_knot_108 : decode cX11_knot 108 = .ok (.iadd, 1) := by decide +kernel
theorem dX11_knot_109 : decode cX11_knot 109 = .ok (.iload_n 3, 1) := by decide +kernel
theorem dX11_knot_110 : decode cX11_knot 110 = .ok (.iadd, 1) := by decide +kernel
theorem dX11_knot_111 : decode cX11_knot 111 = .ok (.iaload, 1) := by decide +kernel
theorem dX11_knot_112 : decode cX11_knot 112 = .ok (.ireturn, 1) := by decide +kernel
theorem dX11_knot_113 : decode cX11_knot 113 = .ok (.iload_n 2, 1) := by decide +kernel
theorem dX11_knot_114 : decode cX11_knot 114 = .ok (.ifCond .eq 23, 3) := by decide +kernel
theorem dX11_knot_117 : decode cX11_knot 117 = .ok (.aload_n 0, 1) := by decide +kernel
theorem dX11_knot_118 : decode cX11_knot 118 = .ok (.iconst 0, 1) := by decide +kernel
theorem dX11_knot_119 : decode cX11_knot 119 = .ok (.aload_n 0, 1) := by decide +kernel
theorem dX11_knot_120 : decode cX11_knot 120 = .ok (.getfield 10, 3) := by decide +kernel
theorem dX11_knot_123 : decode cX11_knot 123 = .ok (.iload 5, 2) := by decide +kernel
theorem dX11_knot_125 : decode cX11_knot 125 = .ok (.iconst 1, 1) := by decide +kernel
theorem dX11_knot_126 : decode cX11_knot 126 = .ok (.iadd, 1) := by decide +kernel
theorem dX11_knot_127 : decode cX11_knot 127 = .ok (.iload_n 3, 1) := by decide +kernel
theorem dX11_knot_128 : decode cX11_knot 128 = .ok (.iadd, 1) := by decide +kernel
theorem dX11_knot_129 : decode cX11_knot 129 = .ok (.iaload, 1) := by decide +kernel
theorem dX11_knot_130 : decode cX11_knot 130 = .ok (.iconst 0, 1) := by decide +kernel
theorem dX11_knot_131 : decode cX11_knot 131 = .ok (.invokevirtual 121, 3) := by decide +kernel
theorem dX11_knot_134 : decode cX11_knot 134 = .ok (.goto 18, 3) := by decide +kernel
theorem dX11_knot_137 : decode cX11_knot 137 = .ok (.aload_n 0, 1) := by decide +kernel
theorem dX11_knot_138 : decode cX11_knot 138 = .ok (.aload_n 0, 1) := by decide +kernel
theorem dX11_knot_139 : decode cX11_knot 139 = .ok (.getfield 10, 3) := by decide +kernel
theorem dX11_knot_142 : decode cX11_knot 142 = .ok (.iload 5, 2) := by decide +kernel
theorem dX11_knot_144 : decode cX11_knot 144 = .ok (.iconst 1, 1) := by decide +kernel
theorem dX11_knot_145 : decode cX11_knot 145 = .ok (.iadd, 1) := by decide +kernel
theorem dX11_knot_146 : decode cX11_knot 146 = .ok (.iload_n 3, 1) := by decide +kernel
theorem dX11_knot_147 : decode cX11_knot 147 = .ok (.iadd, 1) := by decide +kernel
theorem dX11_knot_148 : decode cX11_knot 148 = .ok (.iaload, 1) := by decide +kernel
theorem dX11_knot_149 : decode cX11_knot 149 = .ok (.invokevirtual 436, 3) := by decide +kernel
theorem dX11_knot_152 : decode cX11_knot 152 = .ok (.ireturn, 1) := by decide +kernel
theorem dX11_areLike_0 : decode cX11_areLike 0 = .ok (.iconst 0, 1) := by decide +kernel
theorem dX11_areLike_1 : decode cX11_areLike 1 = .ok (.istore_n 3, 1) := by decide +kernel
theorem dX11_areLike_2 : decode cX11_areLike 2 = .ok (.iload_n 3, 1) := by decide +kernel
theorem dX11_areLike_3 : decode cX11_areLike 3 = .ok (.iconst 4, 1) := by decide +kernel
theorem dX11_areLike_4 : decode cX11_areLike 4 = .ok (.if_icmp .ge 28, 3) := by decide +kernel
theorem dX11_areLike_7 : decode cX11_areLike 7 = .ok (.aload_n 0, 1) := by decide +kernel
theorem dX11_areLike_8 : decode cX11_areLike 8 = .ok (.iconst 0, 1) := by decide +kernel
theorem dX11_areLike_9 : decode cX11_areLike 9 = .ok (.iload_n 1, 1) := by decide +kernel
theorem dX11_areLike_10 : decode cX11_areLike 10 = .ok (.iload_n 3, 1) := by decide +kernel
theorem dX11_areLike_11 : decode cX11_areLike 11 = .ok (.invokevirtual 117, 3) := by decide +kernel
theorem dX11_areLike_14 : decode cX11_areLike 14 = .ok (.aload_n 0, 1) := by decide +kernel
theorem dX11_areLike_15 : decode cX11_areLike 15 = .ok (.iconst 0, 1) := by decide +kernel
theorem dX11_areLike_16 : decode cX11_areLike 16 = .ok (.iload_n 2, 1) := by decide +kernel
theorem dX11_areLike_17 : decode cX11_areLike 17 = .ok (.iload_n 3, 1) := by decide +kernel
theorem dX11_areLike_18 : decode cX11_areLike 18 = .ok (.invokevirtual 117, 3) := by decide +kernel
theorem dX11_areLike_21 : decode cX11_areLike 21 = .ok (.if_icmp .eq 5, 3) := by decide +kernel
theorem dX11_areLike_24 : decode cX11_areLike 24 = .ok (.iconst 0, 1) := by decide +kernel
theorem dX11_areLike_25 : decode cX11_areLike 25 = .ok (.ireturn, 1) := by decide +kernel
theorem dX11_areLike_26 : decode cX11_areLike 26 = .ok (.iinc 3 1, 3) := by decide +kernel
theorem dX11_areLike_29 : decode cX11_areLike 29 = .ok (.goto (-27), 3) := by decide +kernel
theorem dX11_areLike_32 : decode cX11_areLike 32 = .ok (.iconst 1, 1) := by decide +kernel
theorem dX11_areLike_33 : decode cX11_areLike 33 = .ok (.ireturn, 1) := by decide +kernel
theorem dX11_like_0 : decode cX11_like 0 = .ok (.aload_n 0, 1) := by decide +kernel
theorem dX11_like_1 : decode cX11_like 1 = .ok (.iconst 0, 1) := by decide +kernel
theorem dX11_like_2 : decode cX11_like 2 = .ok (.putfield 88, 3) := by decide +kernel
theorem dX11_like_5 : decode cX11_like 5 = .ok (.aload_n 0, 1) := by decide +kernel
theorem dX11_like_6 : decode cX11_like 6 = .ok (.iload_n 1, 1) := by decide +kernel
theorem dX11_like_7 : decode cX11_like 7 = .ok (.iload_n 2, 1) := by decide +kernel
theorem dX11_like_8 : decode cX11_like 8 = .ok (.invokevirtual 430, 3) := by decide +kernel
theorem dX11_like_11 : decode cX11_like 11 = .ok (.ifCond .ne 5, 3) := by decide +kernel
theorem dX11_like_14 : decode cX11_like 14 = .ok (.iconst 0, 1) := by decide +kernel
theorem dX11_like_15 : decode cX11_like 15 = .ok (.ireturn, 1) := by decide +kernel
theorem dX11_like_16 : decode cX11_like 16 = .ok (.aload_n 0, 1) := by decide +kernel
theorem dX11_like_17 : decode cX11_like 17 = .ok (.getfield 42, 3) := by decide +kernel
theorem dX11_like_20 : decode cX11_like 20 = .ok (.iload_n 1, 1) := by decide +kernel
theorem dX11_like_21 : decode cX11_like 21 = .ok (.iaload, 1) := by decide +kernel
theorem dX11_like_22 : decode cX11_like 22 = .ok (.iload_n 2, 1) := by decide +kernel
theorem dX11_like_23 : decode cX11_like 23 = .ok (.iadd, 1) := by decide +kernel
theorem dX11_like_24 : decode cX11_like 24 = .ok (.istore 4, 2) := by decide +kernel
theorem dX11_like_26 : decode cX11_like 26 = .ok (.iconst 0, 1) := by decide +kernel
theorem dX11_like_27 : decode cX11_like 27 = .ok (.istore 5, 2) := by decide +kernel
theorem dX11_like_29 : decode cX11_like 29 = .ok (.iconst 0, 1) := by decide +kernel
theorem dX11_like_30 : decode cX11_like 30 = .ok (.istore 6, 2) := by decide +kernel
theorem dX11_like_32 : decode cX11_like 32 = .ok (.iload 6, 2) := by decide +kernel
theorem dX11_like_34 : decode cX11_like 34 = .ok (.aload_n 0, 1) := by decide +kernel
theorem dX11_like_35 : decode cX11_like 35 = .ok (.getfield 178, 3) := by decide +kernel
theorem dX11_like_38 : decode cX11_like 38 = .ok (.if_icmp .ge 46, 3) := by decide +kernel
theorem dX11_like_41 : decode cX11_like 41 = .ok (.iload 6, 2) := by decide +kernel
theorem dX11_like_43 : decode cX11_like 43 = .ok (.iload 4, 2) := by decide +kernel
theorem dX11_like_45 : decode cX11_like 45 = .ok (.if_icmp .eq 33, 3) := by decide +kernel
theorem dX11_like_48 : decode cX11_like 48 = .ok (.aload_n 0, 1) := by decide +kernel
theorem dX11_like_49 : decode cX11_like 49 = .ok (.iload 4, 2) := by decide +kernel
theorem dX11_like_51 : decode cX11_like 51 = .ok (.iload 6, 2) := by decide +kernel
theorem dX11_like_53 : decode cX11_like 53 = .ok (.invokevirtual 439, 3) := by decide +kernel
theorem dX11_like_56 : decode cX11_like 56 = .ok (.ifCond .ne 6, 3) := by decide +kernel
theorem dX11_like_59 : decode cX11_like 59 = .ok (.goto 19, 3) := by decide +kernel
theorem dX11_like_62 : decode cX11_like 62 = .ok (.iload 5, 2) := by decide +kernel
theorem dX11_like_64 : decode cX11_like 64 = .ok (.iload_n 3, 1) := by decide +kernel
theorem dX11_like_65 : decode cX11_like 65 = .ok (.if_icmp .ne 10, 3) := by decide +kernel
theorem dX11_like_68 : decode cX11_like 68 = .ok (.aload_n 0, 1) := by decide +kernel
theorem dX11_like_69 : decode cX11_like 69 = .ok (.iload 6, 2) := by decide +kernel
theorem dX11_like_71 : decode cX11_like 71 = .ok (.invokevirtual 436, 3) := by decide +kernel
theorem dX11_like_74 : decode cX11_like 74 = .ok (.ireturn, 1) := by decide +kernel
theorem dX11_like_75 : decode cX11_like 75 = .ok (.iinc 5 1, 3) := by decide +kernel
theorem dX11_like_78 : decode cX11_like 78 = .ok (.iinc 6 1, 3) := by decide +kernel
theorem dX11_like_81 : decode cX11_like 81 = .ok (.goto (-49), 3) := by decide +kernel
theorem dX11_like_84 : decode cX11_like 84 = .ok (.aload_n 0, 1) := by decide +kernel
theorem dX11_like_85 : decode cX11_like 85 = .ok (.iload_n 3, 1) := by decide +kernel
theorem dX11_like_86 : decode cX11_like 86 = .ok (.iconst (-1), 1) := by decide +kernel
theorem dX11_like_87 : decode cX11_like 87 = .ok (.if_icmp .ne 7, 3) := by decide +kernel
theorem dX11_like_90 : decode cX11_like 90 = .ok (.iconst 1, 1) := by decide +kernel
theorem dX11_like_91 : decode cX11_like 91 = .ok (.goto 4, 3) := by decide +kernel
theorem dX11_like_94 : decode cX11_like 94 = .ok (.iconst 0, 1) := by decide +kernel
theorem dX11_like_95 : decode cX11_like 95 = .ok (.iconst 1, 1) := by decide +kernel
theorem dX11_like_96 : decode cX11_like 96 = .ok (.invokevirtual 358, 3) := by decide +kernel
theorem dX11_like_99 : decode cX11_like 99 = .ok (.ifCond .eq 8, 3) := by decide +kernel
theorem dX11_like_102 : decode cX11_like 102 = .ok (.iload 5, 2) := by decide +kernel
theorem dX11_like_104 : decode cX11_like 104 = .ok (.goto 4, 3) := by decide +kernel
theorem dX11_like_107 : decode cX11_like 107 = .ok (.iconst 0, 1) := by decide +kernel
theorem dX11_like_108 : decode cX11_like 108 = .ok (.ireturn, 1) := by decide +kernel
theorem dX11_keptAt_0 : decode cX11_keptAt 0 = .ok (.sipush 1654, 3) := by decide +kernel
theorem dX11_keptAt_3 : decode cX11_keptAt 3 = .ok (.iconst 2, 1) := by decide +kernel
theorem dX11_keptAt_4 : decode cX11_keptAt 4 = .ok (.iload_n 0, 1) := by decide +kernel
theorem dX11_keptAt_5 : decode cX11_keptAt 5 = .ok (.iload_n 1, 1) := by decide +kernel
theorem dX11_keptAt_6 : decode cX11_keptAt 6 = .ok (.iadd, 1) := by decide +kernel
theorem dX11_keptAt_7 : decode cX11_keptAt 7 = .ok (.bipush 40, 2) := by decide +kernel
theorem dX11_keptAt_9 : decode cX11_keptAt 9 = .ok (.irem, 1) := by decide +kernel
theorem dX11_keptAt_10 : decode cX11_keptAt 10 = .ok (.iadd, 1) := by decide +kernel
theorem dX11_keptAt_11 : decode cX11_keptAt 11 = .ok (.imul, 1) := by decide +kernel
theorem dX11_keptAt_12 : decode cX11_keptAt 12 = .ok (.ireturn, 1) := by decide +kernel
theorem dX11_keeps_0 : decode cX11_keeps 0 = .ok (.aload_n 0, 1) := by decide +kernel
theorem dX11_keeps_1 : decode cX11_keeps 1 = .ok (.getfield 352, 3) := by decide +kernel
theorem dX11_keeps_4 : decode cX11_keeps 4 = .ok (.bipush 40, 2) := by decide +kernel
theorem dX11_keeps_6 : decode cX11_keeps 6 = .ok (.if_icmp .ne 26, 3) := by decide +kernel
theorem dX11_keeps_9 : decode cX11_keeps 9 = .ok (.aload_n 0, 1) := by decide +kernel
theorem dX11_keeps_10 : decode cX11_keeps 10 = .ok (.aload_n 0, 1) := by decide +kernel
theorem dX11_keeps_11 : decode cX11_keeps 11 = .ok (.getfield 349, 3) := by decide +kernel
theorem dX11_keeps_14 : decode cX11_keeps 14 = .ok (.iconst 1, 1) := by decide +kernel
theorem dX11_keeps_15 : decode cX11_keeps 15 = .ok (.iadd, 1) := by decide +kernel
theorem dX11_keeps_16 : decode cX11_keeps 16 = .ok (.bipush 40, 2) := by decide +kernel
theorem dX11_keeps_18 : decode cX11_keeps 18 = .ok (.irem, 1) := by decide +kernel
theorem dX11_keeps_19 : decode cX11_keeps 19 = .ok (.putfield 349, 3) := by decide +kernel
theorem dX11_keeps_22 : decode cX11_keeps 22 = .ok (.aload_n 0, 1) := by decide +kernel
theorem dX11_keeps_23 : decode cX11_keeps 23 = .ok (.dup, 1) := by decide +kernel
theorem dX11_keeps_24 : decode cX11_keeps 24 = .ok (.getfield 352, 3) := by decide +kernel
theorem dX11_keeps_27 : decode cX11_keeps 27 = .ok (.iconst 1, 1) := by decide +kernel
theorem dX11_keeps_28 : decode cX11_keeps 28 = .ok (.isub, 1) := by decide +kernel
theorem dX11_keeps_29 : decode cX11_keeps 29 = .ok (.putfield 352, 3) := by decide +kernel
theorem dX11_keeps_32 : decode cX11_keeps 32 = .ok (.aload_n 0, 1) := by decide +kernel
theorem dX11_keeps_33 : decode cX11_keeps 33 = .ok (.iload_n 1, 1) := by decide +kernel
theorem dX11_keeps_34 : decode cX11_keeps 34 = .ok (.aload_n 0, 1) := by decide +kernel
theorem dX11_keeps_35 : decode cX11_keeps 35 = .ok (.getfield 349, 3) := by decide +kernel
theorem dX11_keeps_38 : decode cX11_keeps 38 = .ok (.aload_n 0, 1) := by decide +kernel
theorem dX11_keeps_39 : decode cX11_keeps 39 = .ok (.getfield 352, 3) := by decide +kernel
theorem dX11_keeps_42 : decode cX11_keeps 42 = .ok (.invokestatic 442, 3) := by decide +kernel
theorem dX11_keeps_45 : decode cX11_keeps 45 = .ok (.sipush 1654, 3) := by decide +kernel
theorem dX11_keeps_48 : decode cX11_keeps 48 = .ok (.invokevirtual 394, 3) := by decide +kernel
theorem dX11_keeps_51 : decode cX11_keeps 51 = .ok (.aload_n 0, 1) := by decide +kernel
theorem dX11_keeps_52 : decode cX11_keeps 52 = .ok (.dup, 1) := by decide +kernel
theorem dX11_keeps_53 : decode cX11_keeps 53 = .ok (.getfield 352, 3) := by decide +kernel
theorem dX11_keeps_56 : decode cX11_keeps 56 = .ok (.iconst 1, 1) := by decide +kernel
theorem dX11_keeps_57 : decode cX11_keeps 57 = .ok (.iadd, 1) := by decide +kernel
theorem dX11_keeps_58 : decode cX11_keeps 58 = .ok (.putfield 352, 3) := by decide +kernel
theorem dX11_keeps_61 : decode cX11_keeps 61 = .ok (.return_, 1) := by decide +kernel
theorem dX11_refuses_0 : decode cX11_refuses 0 = .ok (.aload_n 0, 1) := by decide +kernel
theorem dX11_refuses_1 : decode cX11_refuses 1 = .ok (.getfield 20, 3) := by decide +kernel
theorem dX11_refuses_4 : decode cX11_refuses 4 = .ok (.iload_n 1, 1) := by decide +kernel
theorem dX11_refuses_5 : decode cX11_refuses 5 = .ok (.dup2, 1) := by decide +kernel
theorem dX11_refuses_6 : decode cX11_refuses 6 = .ok (.iaload, 1) := by decide +kernel
theorem dX11_refuses_7 : decode cX11_refuses 7 = .ok (.iconst 1, 1) := by decide +kernel
theorem dX11_refuses_8 : decode cX11_refuses 8 = .ok (.iadd, 1) := by decide +kernel
theorem dX11_refuses_9 : decode cX11_refuses 9 = .ok (.iastore, 1) := by decide +kernel
theorem dX11_refuses_10 : decode cX11_refuses 10 = .ok (.iconst (-1), 1) := by decide +kernel
theorem dX11_refuses_11 : decode cX11_refuses 11 = .ok (.ireturn, 1) := by decide +kernel
theorem dX11_does_0 : decode cX11_does 0 = .ok (.iload_n 1, 1) := by decide +kernel
theorem dX11_does_1 : decode cX11_does 1 = .ok (.iconst (-1), 1) := by decide +kernel
theorem dX11_does_2 : decode cX11_does 2 = .ok (.if_icmp .ne 9, 3) := by decide +kernel
theorem dX11_does_5 : decode cX11_does 5 = .ok (.aload_n 0, 1) := by decide +kernel
theorem dX11_does_6 : decode cX11_does 6 = .ok (.iconst 1, 1) := by decide +kernel
theorem dX11_does_7 : decode cX11_does 7 = .ok (.invokevirtual 445, 3) := by decide +kernel
theorem dX11_does_10 : decode cX11_does 10 = .ok (.ireturn, 1) := by decide +kernel
theorem dX11_does_11 : decode cX11_does 11 = .ok (.aload_n 0, 1) := by decide +kernel
theorem dX11_does_12 : decode cX11_does 12 = .ok (.iconst 0, 1) := by decide +kernel
theorem dX11_does_13 : decode cX11_does 13 = .ok (.invokevirtual 400, 3) := by decide +kernel
theorem dX11_does_16 : decode cX11_does 16 = .ok (.aload_n 0, 1) := by decide +kernel
theorem dX11_does_17 : decode cX11_does 17 = .ok (.sipush 1654, 3) := by decide +kernel
theorem dX11_does_20 : decode cX11_does 20 = .ok (.iconst 0, 1) := by decide +kernel
theorem dX11_does_21 : decode cX11_does 21 = .ok (.sipush 1654, 3) := by decide +kernel
theorem dX11_does_24 : decode cX11_does 24 = .ok (.invokevirtual 394, 3) := by decide +kernel
theorem dX11_does_27 : decode cX11_does 27 = .ok (.iload_n 1, 1) := by decide +kernel
theorem dX11_does_28 : decode cX11_does 28 = .ok (.ireturn, 1) := by decide +kernel
theorem dX11_tries_0 : decode cX11_tries 0 = .ok (.aload_n 0, 1) := by decide +kernel
theorem dX11_tries_1 : decode cX11_tries 1 = .ok (.iconst 0, 1) := by decide +kernel
theorem dX11_tries_2 : decode cX11_tries 2 = .ok (.sipush 1654, 3) := by decide +kernel
theorem dX11_tries_5 : decode cX11_tries 5 = .ok (.sipush 1654, 3) := by decide +kernel
theorem dX11_tries_8 : decode cX11_tries 8 = .ok (.invokevirtual 394, 3) := by decide +kernel
theorem dX11_tries_11 : decode cX11_tries 11 = .ok (.return_, 1) := by decide +kernel
theorem dX11_write_0 : decode cX11_write 0 = .ok (.aload_n 0, 1) := by decide +kernel
theorem dX11_write_1 : decode cX11_write 1 = .ok (.iconst 0, 1) := by decide +kernel
theorem dX11_write_2 : decode cX11_write 2 = .ok (.putfield 88, 3) := by decide +kernel
theorem dX11_write_5 : decode cX11_write 5 = .ok (.aload_n 0, 1) := by decide +kernel
theorem dX11_write_6 : decode cX11_write 6 = .ok (.iload_n 1, 1) := by decide +kernel
theorem dX11_write_7 : decode cX11_write 7 = .ok (.iload_n 2, 1) := by decide +kernel
theorem dX11_write_8 : decode cX11_write 8 = .ok (.invokevirtual 430, 3) := by decide +kernel
theorem dX11_write_11 : decode cX11_write 11 = .ok (.ifCond .eq 17, 3) := by decide +kernel
theorem dX11_write_14 : decode cX11_write 14 = .ok (.aload_n 0, 1) := by decide +kernel
theorem dX11_write_15 : decode cX11_write 15 = .ok (.iload_n 3, 1) := by decide +kernel
theorem dX11_write_16 : decode cX11_write 16 = .ok (.iconst 0, 1) := by decide +kernel
theorem dX11_write_17 : decode cX11_write 17 = .ok (.iconst 3, 1) := by decide +kernel
theorem dX11_write_18 : decode cX11_write 18 = .ok (.invokestatic 286, 3) := by decide +kernel
theorem dX11_write_21 : decode cX11_write 21 = .ok (.iconst 1, 1) := by decide +kernel
theorem dX11_write_22 : decode cX11_write 22 = .ok (.invokevirtual 358, 3) := by decide +kernel
theorem dX11_write_25 : decode cX11_write 25 = .ok (.ifCond .ne 5, 3) := by decide +kernel
theorem dX11_write_28 : decode cX11_write 28 = .ok (.iconst 0, 1) := by decide +kernel
theorem dX11_write_29 : decode cX11_write 29 = .ok (.ireturn, 1) := by decide +kernel
theorem dX11_write_30 : decode cX11_write 30 = .ok (.aload_n 0, 1) := by decide +kernel
theorem dX11_write_31 : decode cX11_write 31 = .ok (.invokevirtual 448, 3) := by decide +kernel
theorem dX11_write_34 : decode cX11_write 34 = .ok (.aload_n 0, 1) := by decide +kernel
theorem dX11_write_35 : decode cX11_write 35 = .ok (.iload 4, 2) := by decide +kernel
theorem dX11_write_37 : decode cX11_write 37 = .ok (.iconst 0, 1) := by decide +kernel
theorem dX11_write_38 : decode cX11_write 38 = .ok (.bipush 15, 2) := by decide +kernel
theorem dX11_write_40 : decode cX11_write 40 = .ok (.invokestatic 286, 3) := by decide +kernel
theorem dX11_write_43 : decode cX11_write 43 = .ok (.ifCond .eq 24, 3) := by decide +kernel
theorem dX11_write_46 : decode cX11_write 46 = .ok (.aload_n 0, 1) := by decide +kernel
theorem dX11_write_47 : decode cX11_write 47 = .ok (.sipush 1654, 3) := by decide +kernel
theorem dX11_write_50 : decode cX11_write 50 = .ok (.aload_n 0, 1) := by decide +kernel
theorem dX11_write_51 : decode cX11_write 51 = .ok (.getfield 42, 3) := by decide +kernel
theorem dX11_write_54 : decode cX11_write 54 = .ok (.iload_n 1, 1) := by decide +kernel
theorem dX11_write_55 : decode cX11_write 55 = .ok (.iaload, 1) := by decide +kernel
theorem dX11_write_56 : decode cX11_write 56 = .ok (.iload_n 2, 1) := by decide +kernel
theorem dX11_write_57 : decode cX11_write 57 = .ok (.iadd, 1) := by decide +kernel
theorem dX11_write_58 : decode cX11_write 58 = .ok (.iload_n 3, 1) := by decide +kernel
