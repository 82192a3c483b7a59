theorem dL_machine_0 : decode cL_machine 0 = .ok (.aload_n 2, 1) := by decide +kernel
theorem dL_machine_1 : decode cL_machine 1 = .ok (.iconst 0, 1) := by decide +kernel
theorem dL_machine_2 : decode cL_machine 2 = .ok (.aload_n 0, 1) := by decide +kernel
theorem dL_machine_3 : decode cL_machine 3 = .ok (.iload_n 1, 1) := by decide +kernel
theorem dL_machine_4 : decode cL_machine 4 = .ok (.invokevirtual 7, 3) := by decide +kernel
theorem dL_machine_7 : decode cL_machine 7 = .ok (.i2l, 1) := by decide +kernel
theorem dL_machine_8 : decode cL_machine 8 = .ok (.lastore, 1) := by decide +kernel
theorem dL_machine_9 : decode cL_machine 9 = .ok (.goto 6, 3) := by decide +kernel
theorem dL_machine_12 : decode cL_machine 12 = .ok (.astore_n 3, 1) := by decide +kernel
theorem dL_machine_13 : decode cL_machine 13 = .ok (.iconst 1, 1) := by decide +kernel
theorem dL_machine_14 : decode cL_machine 14 = .ok (.ireturn, 1) := by decide +kernel
theorem dL_machine_15 : decode cL_machine 15 = .ok (.iconst 0, 1) := by decide +kernel
theorem dL_machine_16 : decode cL_machine 16 = .ok (.ireturn, 1) := by decide +kernel
theorem dL_orders_0 : decode cL_orders 0 = .ok (.aload_n 2, 1) := by decide +kernel
theorem dL_orders_1 : decode cL_orders 1 = .ok (.iconst 0, 1) := by decide +kernel
theorem dL_orders_2 : decode cL_orders 2 = .ok (.aload_n 0, 1) := by decide +kernel
theorem dL_orders_3 : decode cL_orders 3 = .ok (.iload_n 1, 1) := by decide +kernel
theorem dL_orders_4 : decode cL_orders 4 = .ok (.invokevirtual 15, 3) := by decide +kernel
theorem dL_orders_7 : decode cL_orders 7 = .ok (.i2l, 1) := by decide +kernel
theorem dL_orders_8 : decode cL_orders 8 = .ok (.lastore, 1) := by decide +kernel
theorem dL_orders_9 : decode cL_orders 9 = .ok (.goto 6, 3) := by decide +kernel
theorem dL_orders_12 : decode cL_orders 12 = .ok (.astore_n 3, 1) := by decide +kernel
theorem dL_orders_13 : decode cL_orders 13 = .ok (.iconst 1, 1) := by decide +kernel
theorem dL_orders_14 : decode cL_orders 14 = .ok (.ireturn, 1) := by decide +kernel
theorem dL_orders_15 : decode cL_orders 15 = .ok (.iconst 0, 1) := by decide +kernel
theorem dL_orders_16 : decode cL_orders 16 = .ok (.ireturn, 1) := by decide +kernel
theorem dL_count_0 : decode cL_count 0 = .ok (.aload_n 2, 1) := by decide +kernel
theorem dL_count_1 : decode cL_count 1 = .ok (.iconst 0, 1) := by decide +kernel
theorem dL_count_2 : decode cL_count 2 = .ok (.aload_n 0, 1) := by decide +kernel
theorem dL_count_3 : decode cL_count 3 = .ok (.iload_n 1, 1) := by decide +kernel
theorem dL_count_4 : decode cL_count 4 = .ok (.invokevirtual 18, 3) := by decide +kernel
theorem dL_count_7 : decode cL_count 7 = .ok (.i2l, 1) := by decide +kernel
theorem dL_count_8 : decode cL_count 8 = .ok (.lastore, 1) := by decide +kernel
theorem dL_count_9 : decode cL_count 9 = .ok (.goto 6, 3) := by decide +kernel
theorem dL_count_12 : decode cL_count 12 = .ok (.astore_n 3, 1) := by decide +kernel
theorem dL_count_13 : decode cL_count 13 = .ok (.iconst 1, 1) := by decide +kernel
theorem dL_count_14 : decode cL_count 14 = .ok (.ireturn, 1) := by decide +kernel
theorem dL_count_15 : decode cL_count 15 = .ok (.iconst 0, 1) := by decide +kernel
theorem dL_count_16 : decode cL_count 16 = .ok (.ireturn, 1) := by decide +kernel
theorem dL_guest_0 : decode cL_guest 0 = .ok (.aload_n 3, 1) := by decide +kernel
theorem dL_guest_1 : decode cL_guest 1 = .ok (.iconst 0, 1) := by decide +kernel
theorem dL_guest_2 : decode cL_guest 2 = .ok (.aload_n 0, 1) := by decide +kernel
theorem dL_guest_3 : decode cL_guest 3 = .ok (.iload_n 1, 1) := by decide +kernel
theorem dL_guest_4 : decode cL_guest 4 = .ok (.iload_n 2, 1) := by decide +kernel
theorem dL_guest_5 : decode cL_guest 5 = .ok (.invokevirtual 23, 3) := by decide +kernel
theorem dL_guest_8 : decode cL_guest 8 = .ok (.i2l, 1) := by decide +kernel
theorem dL_guest_9 : decode cL_guest 9 = .ok (.lastore, 1) := by decide +kernel
theorem dL_guest_10 : decode cL_guest 10 = .ok (.goto 7, 3) := by decide +kernel
theorem dL_guest_13 : decode cL_guest 13 = .ok (.astore 4, 2) := by decide +kernel
theorem dL_guest_15 : decode cL_guest 15 = .ok (.iconst 1, 1) := by decide +kernel
theorem dL_guest_16 : decode cL_guest 16 = .ok (.ireturn, 1) := by decide +kernel
theorem dL_guest_17 : decode cL_guest 17 = .ok (.iconst 0, 1) := by decide +kernel
theorem dL_guest_18 : decode cL_guest 18 = .ok (.ireturn, 1) := by decide +kernel
theorem dL_read_0 : decode cL_read 0 = .ok (.aload 4, 2) := by decide +kernel
theorem dL_read_2 : decode cL_read 2 = .ok (.iconst 0, 1) := by decide +kernel
theorem dL_read_3 : decode cL_read 3 = .ok (.aload_n 0, 1) := by decide +kernel
theorem dL_read_4 : decode cL_read 4 = .ok (.iload_n 1, 1) := by decide +kernel
theorem dL_read_5 : decode cL_read 5 = .ok (.iload_n 2, 1) := by decide +kernel
theorem dL_read_6 : decode cL_read 6 = .ok (.iload_n 3, 1) := by decide +kernel
theorem dL_read_7 : decode cL_read 7 = .ok (.invokevirtual 27, 3) := by decide +kernel
theorem dL_read_10 : decode cL_read 10 = .ok (.i2l, 1) := by decide +kernel
theorem dL_read_11 : decode cL_read 11 = .ok (.lastore, 1) := by decide +kernel
theorem dL_read_12 : decode cL_read 12 = .ok (.goto 7, 3) := by decide +kernel
theorem dL_read_15 : decode cL_read 15 = .ok (.astore 5, 2) := by decide +kernel
theorem dL_read_17 : decode cL_read 17 = .ok (.iconst 1, 1) := by decide +kernel
theorem dL_read_18 : decode cL_read 18 = .ok (.ireturn, 1) := by decide +kernel
theorem dL_read_19 : decode cL_read 19 = .ok (.iconst 0, 1) := by decide +kernel
theorem dL_read_20 : decode cL_read 20 = .ok (.ireturn, 1) := by decide +kernel
theorem dL_page_0 : decode cL_page 0 = .ok (.aload 4, 2) := by decide +kernel
theorem dL_page_2 : decode cL_page 2 = .ok (.iconst 0, 1) := by decide +kernel
theorem dL_page_3 : decode cL_page 3 = .ok (.aload_n 0, 1) := by decide +kernel
theorem dL_page_4 : decode cL_page 4 = .ok (.iload_n 1, 1) := by decide +kernel
theorem dL_page_5 : decode cL_page 5 = .ok (.iload_n 2, 1) := by decide +kernel
theorem dL_page_6 : decode cL_page 6 = .ok (.iload_n 3, 1) := by decide +kernel
theorem dL_page_7 : decode cL_page 7 = .ok (.invokevirtual 31, 3) := by decide +kernel
theorem dL_page_10 : decode cL_page 10 = .ok (.i2l, 1) := by decide +kernel
theorem dL_page_11 : decode cL_page 11 = .ok (.lastore, 1) := by decide +kernel
theorem dL_page_12 : decode cL_page 12 = .ok (.goto 7, 3) := by decide +kernel
theorem dL_page_15 : decode cL_page 15 = .ok (.astore 5, 2) := by decide +kernel
theorem dL_page_17 : decode cL_page 17 = .ok (.iconst 1, 1) := by decide +kernel
theorem dL_page_18 : decode cL_page 18 = .ok (.ireturn, 1) := by decide +kernel
theorem dL_page_19 : decode cL_page 19 = .ok (.iconst 0, 1) := by decide +kernel
theorem dL_page_20 : decode cL_page 20 = .ok (.ireturn, 1) := by decide +kernel
theorem dL_frame_0 : decode cL_frame 0 = .ok (.aload_n 3, 1) := by decide +kernel
theorem dL_frame_1 : decode cL_frame 1 = .ok (.iconst 0, 1) := by decide +kernel
theorem dL_frame_2 : decode cL_frame 2 = .ok (.aload_n 0, 1) := by decide +kernel
theorem dL_frame_3 : decode cL_frame 3 = .ok (.iload_n 1, 1) := by decide +kernel
theorem dL_frame_4 : decode cL_frame 4 = .ok (.iload_n 2, 1) := by decide +kernel
theorem dL_frame_5 : decode cL_frame 5 = .ok (.invokevirtual 34, 3) := by decide +kernel
theorem dL_frame_8 : decode cL_frame 8 = .ok (.i2l, 1) := by decide +kernel
theorem dL_frame_9 : decode cL_frame 9 = .ok (.lastore, 1) := by decide +kernel
theorem dL_frame_10 : decode cL_frame 10 = .ok (.goto 7, 3) := by decide +kernel
theorem dL_frame_13 : decode cL_frame 13 = .ok (.astore 4, 2) := by decide +kernel
theorem dL_frame_15 : decode cL_frame 15 = .ok (.iconst 1, 1) := by decide +kernel
theorem dL_frame_16 : decode cL_frame 16 = .ok (.ireturn, 1) := by decide +kernel
theorem dL_frame_17 : decode cL_frame 17 = .ok (.iconst 0, 1) := by decide +kernel
theorem dL_frame_18 : decode cL_frame 18 = .ok (.ireturn, 1) := by decide +kernel
theorem dL_chain_0 : decode cL_chain 0 = .ok (.aload_n 3, 1) := by decide +kernel
theorem dL_chain_1 : decode cL_chain 1 = .ok (.iconst 0, 1) := by decide +kernel
theorem dL_chain_2 : decode cL_chain 2 = .ok (.aload_n 0, 1) := by decide +kernel
theorem dL_chain_3 : decode cL_chain 3 = .ok (.iload_n 1, 1) := by decide +kernel
theorem dL_chain_4 : decode cL_chain 4 = .ok (.iload_n 2, 1) := by decide +kernel
theorem dL_chain_5 : decode cL_chain 5 = .ok (.invokevirtual 37, 3) := by decide +kernel
theorem dL_chain_8 : decode cL_chain 8 = .ok (.i2l, 1) := by decide +kernel
theorem dL_chain_9 : decode cL_chain 9 = .ok (.lastore, 1) := by decide +kernel
theorem dL_chain_10 : decode cL_chain 10 = .ok (.goto 7, 3) := by decide +kernel
theorem dL_chain_13 : decode cL_chain 13 = .ok (.astore 4, 2) := by decide +kernel
theorem dL_chain_15 : decode cL_chain 15 = .ok (.iconst 1, 1) := by decide +kernel
theorem dL_chain_16 : decode cL_chain 16 = .ok (.ireturn, 1) := by decide +kernel
theorem dL_chain_17 : decode cL_chain 17 = .ok (.iconst 0, 1) := by decide +kernel
theorem dL_chain_18 : decode cL_chain 18 = .ok (.ireturn, 1) := by decide +kernel
theorem dL_knot_0 : decode cL_knot 0 = .ok (.aload 5, 2) := by decide +kernel
theorem dL_knot_2 : decode cL_knot 2 = .ok (.iconst 0, 1) := by decide +kernel
theorem dL_knot_3 : decode cL_knot 3 = .ok (.aload_n 0, 1) := by decide +kernel
theorem dL_knot_4 : decode cL_knot 4 = .ok (.iload_n 1, 1) := by decide +kernel
theorem dL_knot_5 : decode cL_knot 5 = .ok (.iload_n 2, 1) := by decide +kernel
theorem dL_knot_6 : decode cL_knot 6 = .ok (.iload_n 3, 1) := by decide +kernel
theorem dL_knot_7 : decode cL_knot 7 = .ok (.iload 4, 2) := by decide +kernel
theorem dL_knot_9 : decode cL_knot 9 = .ok (.invokevirtual 40, 3) := by decide +kernel
theorem dL_knot_12 : decode cL_knot 12 = .ok (.i2l, 1) := by decide +kernel
theorem dL_knot_13 : decode cL_knot 13 = .ok (.lastore, 1) := by decide +kernel
theorem dL_knot_14 : decode cL_knot 14 = .ok (.goto 7, 3) := by decide +kernel
theorem dL_knot_17 : decode cL_knot 17 = .ok (.astore 6, 2) := by decide +kernel
theorem dL_knot_19 : decode cL_knot 19 = .ok (.iconst 1, 1) := by decide +kernel
theorem dL_knot_20 : decode cL_knot 20 = .ok (.ireturn, 1) := by decide +kernel
theorem dL_knot_21 : decode cL_knot 21 = .ok (.iconst 0, 1) := by decide +kernel
theorem dL_knot_22 : decode cL_knot 22 = .ok (.ireturn, 1) := by decide +kernel
theorem dL_like_0 : decode cL_like 0 = .ok (.aload 4, 2) := by decide +kernel
theorem dL_like_2 : decode cL_like 2 = .ok (.iconst 0, 1) := by decide +kernel
theorem dL_like_3 : decode cL_like 3 = .ok (.aload_n 0, 1) := by decide +kernel
theorem dL_like_4 : decode cL_like 4 = .ok (.iload_n 1, 1) := by decide +kernel
theorem dL_like_5 : decode cL_like 5 = .ok (.iload_n 2, 1) := by decide +kernel
theorem dL_like_6 : decode cL_like 6 = .ok (.iload_n 3, 1) := by decide +kernel
theorem dL_like_7 : decode cL_like 7 = .ok (.invokevirtual 44, 3) := by decide +kernel
theorem dL_like_10 : decode cL_like 10 = .ok (.i2l, 1) := by decide +kernel
theorem dL_like_11 : decode cL_like 11 = .ok (.lastore, 1) := by decide +kernel
theorem dL_like_12 : decode cL_like 12 = .ok (.goto 7, 3) := by decide +kernel
theorem dL_like_15 : decode cL_like 15 = .ok (.astore 5, 2) := by decide +kernel
theorem dL_like_17 : decode cL_like 17 = .ok (.iconst 1, 1) := by decide +kernel
theorem dL_like_18 : decode cL_like 18 = .ok (.ireturn, 1) := by decide +kernel
theorem dL_like_19 : decode cL_like 19 = .ok (.iconst 0, 1) := by decide +kernel
theorem dL_like_20 : decode cL_like 20 = .ok (.ireturn, 1) := by decide +kernel
theorem dL_write_0 : decode cL_write 0 = .ok (.aload 5, 2) := by decide +kernel
theorem dL_write_2 : decode cL_write 2 = .ok (.iconst 0, 1) := by decide +kernel
theorem dL_write_3 : decode cL_write 3 = .ok (.aload_n 0, 1) := by decide +kernel
theorem dL_write_4 : decode cL_write 4 = .ok (.iload_n 1, 1) := by decide +kernel
theorem dL_write_5 : decode cL_write 5 = .ok (.iload_n 2, 1) := by decide +kernel
theorem dL_write_6 : decode cL_write 6 = .ok (.iload_n 3, 1) := by decide +kernel
theorem dL_write_7 : decode cL_write 7 = .ok (.iload 4, 2) := by decide +kernel
theorem dL_write_9 : decode cL_write 9 = .ok (.invokevirtual 47, 3) := by decide +kernel
theorem dL_write_12 : decode cL_write 12 = .ok (.i2l, 1) := by decide +kernel
theorem dL_write_13 : decode cL_write 13 = .ok (.lastore, 1) := by decide +kernel
theorem dL_write_14 : decode cL_write 14 = .ok (.goto 7, 3) := by decide +kernel
theorem dL_write_17 : decode cL_write 17 = .ok (.astore 6, 2) := by decide +kernel
theorem dL_write_19 : decode cL_write 19 = .ok (.iconst 1, 1) := by decide +kernel
theorem dL_write_20 : decode cL_write 20 = .ok (.ireturn, 1) := by decide +kernel
theorem dL_write_21 : decode cL_write 21 = .ok (.iconst 0, 1) := by decide +kernel
theorem dL_write_22 : decode cL_write 22 = .ok (.ireturn, 1) := by decide +kernel
theorem dL_copy_0 : decode cL_copy 0 = .ok (.aload 5, 2) := by decide +kernel
theorem dL_copy_2 : decode cL_copy 2 = .ok (.iconst 0, 1) := by decide +kernel
theorem dL_copy_3 : decode cL_copy 3 = .ok (.aload_n 0, 1) := by decide +kernel
theorem dL_copy_4 : decode cL_copy 4 = .ok (.iload_n 1, 1) := by decide +kernel
theorem dL_copy_5 : decode cL_copy 5 = .ok (.iload_n 2, 1) := by decide +kernel
theorem dL_copy_6 : decode cL_copy 6 = .ok (.iload_n 3, 1) := by decide +kernel
theorem dL_copy_7 : decode cL_copy 7 = .ok (.iload 4, 2) := by decide +kernel
theorem dL_copy_9 : decode cL_copy 9 = .ok (.invokevirtual 51, 3) := by decide +kernel
theorem dL_copy_12 : decode cL_copy 12 = .ok (.i2l, 1) := by decide +kernel
theorem dL_copy_13 : decode cL_copy 13 = .ok (.lastore, 1) := by decide +kernel
theorem dL_copy_14 : decode cL_copy 14 = .ok (.goto 7, 3) := by decide +kernel
theorem dL_copy_17 : decode cL_copy 17 = .ok (.astore 6, 2) := by decide +kernel
theorem dL_copy_19 : decode cL_copy 19 = .ok (.iconst 1, 1) := by decide +kernel
theorem dL_copy_20 : decode cL_copy 20 = .ok (.ireturn, 1) := by decide +kernel
theorem dL_copy_21 : decode cL_copy 21 = .ok (.iconst 0, 1) := by decide +kernel
theorem dL_copy_22 : decode cL_copy 22 = .ok (.ireturn, 1) := by decide +kernel
theorem dL_drop_0 : decode cL_drop 0 = .ok (.aload_n 3, 1) := by decide +kernel
theorem dL_drop_1 : decode cL_drop 1 = .ok (.iconst 0, 1) := by decide +kernel
theorem dL_drop_2 : decode cL_drop 2 = .ok (.aload_n 0, 1) := by decide +kernel
theorem dL_drop_3 : decode cL_drop 3 = .ok (.iload_n 1, 1) := by decide +kernel
theorem dL_drop_4 : decode cL_drop 4 = .ok (.iload_n 2, 1) := by decide +kernel
theorem dL_drop_5 : decode cL_drop 5 = .ok (.invokevirtual 54, 3) := by decide +kernel
theorem dL_drop_8 : decode cL_drop 8 = .ok (.i2l, 1) := by decide +kernel
theorem dL_drop_9 : decode cL_drop 9 = .ok (.lastore, 1) := by decide +kernel
theorem dL_drop_10 : decode cL_drop 10 = .ok (.goto 7, 3) := by decide +kernel
theorem dL_drop_13 : decode cL_drop 13 = .ok (.astore 4, 2) := by decide +kernel
theorem dL_drop_15 : decode cL_drop 15 = .ok (.iconst 1, 1) := by decide +kernel
theorem dL_drop_16 : decode cL_drop 16 = .ok (.ireturn, 1) := by decide +kernel
theorem dL_drop_17 : decode cL_drop 17 = .ok (.iconst 0, 1) := by decide +kernel
theorem dL_drop_18 : decode cL_drop 18 = .ok (.ireturn, 1) := by decide +kernel
theorem dL_advise_0 : decode cL_advise 0 = .ok (.aload 5, 2) := by decide +kernel
theorem dL_advise_2 : decode cL_advise 2 = .ok (.iconst 0, 1) := by decide +kernel
theorem dL_advise_3 : decode cL_advise 3 = .ok (.aload_n 0, 1) := by decide +kernel
theorem dL_advise_4 : decode cL_advise 4 = .ok (.iload_n 1, 1) := by decide +kernel
theorem dL_advise_5 : decode cL_advise 5 = .ok (.iload_n 2, 1) := by decide +kernel
theorem dL_advise_6 : decode cL_advise 6 = .ok (.iload_n 3, 1) := by decide +kernel
theorem dL_advise_7 : decode cL_advise 7 = .ok (.iload 4, 2) := by decide +kernel
theorem dL_advise_9 : decode cL_advise 9 = .ok (.invokevirtual 57, 3) := by decide +kernel
theorem dL_advise_12 : decode cL_advise 12 = .ok (.i2l, 1) := by decide +kernel
theorem dL_advise_13 : decode cL_advise 13 = .ok (.lastore, 1) := by decide +kernel
theorem dL_advise_14 : decode cL_advise 14 = .ok (.goto 7, 3) := by decide +kernel
theorem dL_advise_17 : decode cL_advise 17 = .ok (.astore 6, 2) := by decide +kernel
theorem dL_advise_19 : decode cL_advise 19 = .ok (.iconst 1, 1) := by decide +kernel
theorem dL_advise_20 : decode cL_advise 20 = .ok (.ireturn, 1) := by decide +kernel
theorem dL_advise_21 : decode cL_advise 21 = .ok (.iconst 0, 1) := by decide +kernel
theorem dL_advise_22 : decode cL_advise 22 = .ok (.ireturn, 1) := by decide +kernel
theorem dL_then_0 : decode cL_then 0 = .ok (.aload_n 3, 1) := by decide +kernel
theorem dL_then_1 : decode cL_then 1 = .ok (.iconst 0, 1) := by decide +kernel
theorem dL_then_2 : decode cL_then 2 = .ok (.aload_n 0, 1) := by decide +kernel
theorem dL_then_3 : decode cL_then 3 = .ok (.iload_n 1, 1) := by decide +kernel
theorem dL_then_4 : decode cL_then 4 = .ok (.iload_n 2, 1) := by decide +kernel
theorem dL_then_5 : decode cL_then 5 = .ok (.invokevirtual 61, 3) := by decide +kernel
theorem dL_then_8 : decode cL_then 8 = .ok (.i2l, 1) := by decide +kernel
theorem dL_then_9 : decode cL_then 9 = .ok (.lastore, 1) := by decide +kernel
theorem dL_then_10 : decode cL_then 10 = .ok (.goto 11, 3) := by decide +kernel
theorem dL_then_13 : decode cL_then 13 = .ok (.astore 4, 2) := by decide +kernel
theorem dL_then_15 : decode cL_then 15 = .ok (.iconst 1, 1) := by decide +kernel
theorem dL_then_16 : decode cL_then 16 = .ok (.ireturn, 1) := by decide +kernel
theorem dL_then_17 : decode cL_then 17 = .ok (.astore 4, 2) := by decide +kernel
theorem dL_then_19 : decode cL_then 19 = .ok (.iconst 2, 1) := by decide +kernel
theorem dL_then_20 : decode cL_then 20 = .ok (.ireturn, 1) := by decide +kernel
theorem dL_then_21 : decode cL_then 21 = .ok (.iconst 0, 1) := by decide +kernel
theorem dL_then_22 : decode cL_then 22 = .ok (.ireturn, 1) := by decide +kernel
theorem dL_merges_0 : decode cL_merges 0 = .ok (.aload_n 3, 1) := by decide +kernel
theorem dL_merges_1 : decode cL_merges 1 = .ok (.iconst 0, 1) := by decide +kernel
theorem dL_merges_2 : decode cL_merges 2 = .ok (.aload_n 0, 1) := by decide +kernel
theorem dL_merges_3 : decode cL_merges 3 = .ok (.iload_n 1, 1) := by decide +kernel
theorem dL_merges_4 : decode cL_merges 4 = .ok (.iload_n 2, 1) := by decide +kernel
theorem dL_merges_5 : decode cL_merges 5 = .ok (.invokevirtual 64, 3) := by decide +kernel
theorem dL_merges_8 : decode cL_merges 8 = .ok (.i2l, 1) := by decide +kernel
theorem dL_merges_9 : decode cL_merges 9 = .ok (.lastore, 1) := by decide +kernel
theorem dL_merges_10 : decode cL_merges 10 = .ok (.goto 7, 3) := by decide +kernel
theorem dL_merges_13 : decode cL_merges 13 = .ok (.astore 4, 2) := by decide +kernel
theorem dL_merges_15 : decode cL_merges 15 = .ok (.iconst 1, 1) := by decide +kernel
theorem dL_merges_16 : decode cL_merges 16 = .ok (.ireturn, 1) := by decide +kernel
theorem dL_merges_17 : decode cL_merges 17 = .ok (.iconst 0, 1) := by decide +kernel
theorem dL_merges_18 : decode cL_merges 18 = .ok (.ireturn, 1) := by decide +kernel
theorem dL_ideal_0 : decode cL_ideal 0 = .ok (.aload_n 2, 1) := by decide +kernel
theorem dL_ideal_1 : decode cL_ideal 1 = .ok (.iconst 0, 1) := by decide +kernel
theorem dL_ideal_2 : decode cL_ideal 2 = .ok (.aload_n 0, 1) := by decide +kernel
theorem dL_ideal_3 : decode cL_ideal 3 = .ok (.iload_n 1, 1) := by decide +kernel
theorem dL_ideal_4 : decode cL_ideal 4 = .ok (.invokevirtual 67, 3) := by decide +kernel
theorem dL_ideal_7 : decode cL_ideal 7 = .ok (.i2l, 1) := by decide +kernel
theorem dL_ideal_8 : decode cL_ideal 8 = .ok (.lastore, 1) := by decide +kernel
theorem dL_ideal_9 : decode cL_ideal 9 = .ok (.goto 6, 3) := by decide +kernel
theorem dL_ideal_12 : decode cL_ideal 12 = .ok (.astore_n 3, 1) := by decide +kernel
theorem dL_ideal_13 : decode cL_ideal 13 = .ok (.iconst 1, 1) := by decide +kernel
theorem dL_ideal_14 : decode cL_ideal 14 = .ok (.ireturn, 1) := by decide +kernel
theorem dL_ideal_15 : decode cL_ideal 15 = .ok (.iconst 0, 1) := by decide +kernel
theorem dL_ideal_16 : decode cL_ideal 16 = .ok (.ireturn, 1) := by decide +kernel
theorem dL_probe_0 : decode cL_probe 0 = .ok (.aload 5, 2) := by decide +kernel
theorem dL_probe_2 : decode cL_probe 2 = .ok (.iconst 0, 1) := by decide +kernel
theorem dL_probe_3 : decode cL_probe 3 = .ok (.aload_n 0, 1) := by decide +kernel
theorem dL_probe_4 : decode cL_probe 4 = .ok (.iload_n 1, 1) := by decide +kernel
theorem dL_probe_5 : decode cL_probe 5 = .ok (.iload_n 2, 1) := by decide +kernel
theorem dL_probe_6 : decode cL_probe 6 = .ok (.iload_n 3, 1) := by decide +kernel
theorem dL_probe_7 : decode cL_probe 7 = .ok (.iload 4, 2) := by decide +kernel
theorem dL_probe_9 : decode cL_probe 9 = .ok (.invokevirtual 70, 3) := by decide +kernel
theorem dL_probe_12 : decode cL_probe 12 = .ok (.i2l, 1) := by decide +kernel
theorem dL_probe_13 : decode cL_probe 13 = .ok (.lastore, 1) := by decide +kernel
theorem dL_probe_14 : decode cL_probe 14 = .ok (.goto 11, 3) := by decide +kernel
theorem dL_probe_17 : decode cL_probe 17 = .ok (.astore 6, 2) := by decide +kernel
theorem dL_probe_19 : decode cL_probe 19 = .ok (.iconst 1, 1) := by decide +kernel
theorem dL_probe_20 : decode cL_probe 20 = .ok (.ireturn, 1) := by decide +kernel
theorem dL_probe_21 : decode cL_probe 21 = .ok (.astore 6, 2) := by decide +kernel
theorem dL_probe_23 : decode cL_probe 23 = .ok (.iconst 2, 1) := by decide +kernel
theorem dL_probe_24 : decode cL_probe 24 = .ok (.ireturn, 1) := by decide +kernel
theorem dL_probe_25 : decode cL_probe 25 = .ok (.iconst 0, 1) := by decide +kernel
theorem dL_probe_26 : decode cL_probe 26 = .ok (.ireturn, 1) := by decide +kernel
theorem dL_toAdvise_0 : decode cL_toAdvise 0 = .ok (.aload_n 3, 1) := by decide +kernel
theorem dL_toAdvise_1 : decode cL_toAdvise 1 = .ok (.iconst 0, 1) := by decide +kernel
theorem dL_toAdvise_2 : decode cL_toAdvise 2 = .ok (.aload_n 0, 1) := by decide +kernel
theorem dL_toAdvise_3 : decode cL_toAdvise 3 = .ok (.iload_n 1, 1) := by decide +kernel
theorem dL_toAdvise_4 : decode cL_toAdvise 4 = .ok (.iload_n 2, 1) := by decide +kernel
theorem dL_toAdvise_5 : decode cL_toAdvise 5 = .ok (.invokevirtual 73, 3) := by decide +kernel
theorem dL_toAdvise_8 : decode cL_toAdvise 8 = .ok (.i2l, 1) := by decide +kernel
theorem dL_toAdvise_9 : decode cL_toAdvise 9 = .ok (.lastore, 1) := by decide +kernel
theorem dL_toAdvise_10 : decode cL_toAdvise 10 = .ok (.goto 11, 3) := by decide +kernel
theorem dL_toAdvise_13 : decode cL_toAdvise 13 = .ok (.astore 4, 2) := by decide +kernel
theorem dL_toAdvise_15 : decode cL_toAdvise 15 = .ok (.iconst 1, 1) := by decide +kernel
theorem dL_toAdvise_16 : decode cL_toAdvise 16 = .ok (.ireturn, 1) := by decide +kernel
theorem dL_toAdvise_17 : decode cL_toAdvise 17 = .ok (.astore 4, 2) := by decide +kernel
theorem dL_toAdvise_19 : decode cL_toAdvise 19 = .ok (.iconst 2, 1) := by decide +kernel
theorem dL_toAdvise_20 : decode cL_toAdvise 20 = .ok (.ireturn, 1) := by decide +kernel
theorem dL_toAdvise_21 : decode cL_toAdvise 21 = .ok (.iconst 0, 1) := by decide +kernel
theorem dL_toAdvise_22 : decode cL_toAdvise 22 = .ok (.ireturn, 1) := by decide +kernel
theorem dL_toRate_0 : decode cL_toRate 0 = .ok (.aload_n 3, 1) := by decide +kernel
theorem dL_toRate_1 : decode cL_toRate 1 = .ok (.iconst 0, 1) := by decide +kernel
theorem dL_toRate_2 : decode cL_toRate 2 = .ok (.aload_n 0, 1) := by decide +kernel
theorem dL_toRate_3 : decode cL_toRate 3 = .ok (.iload_n 1, 1) := by decide +kernel
theorem dL_toRate_4 : decode cL_toRate 4 = .ok (.iload_n 2, 1) := by decide +kernel
theorem dL_toRate_5 : decode cL_toRate 5 = .ok (.invokevirtual 76, 3) := by decide +kernel
theorem dL_toRate_8 : decode cL_toRate 8 = .ok (.i2l, 1) := by decide +kernel
theorem dL_toRate_9 : decode cL_toRate 9 = .ok (.lastore, 1) := by decide +kernel
theorem dL_toRate_10 : decode cL_toRate 10 = .ok (.goto 11, 3) := by decide +kernel
theorem dL_toRate_13 : decode cL_toRate 13 = .ok (.astore 4, 2) := by decide +kernel
theorem dL_toRate_15 : decode cL_toRate 15 = .ok (.iconst 1, 1) := by decide +kernel
theorem dL_toRate_16 : decode cL_toRate 16 = .ok (.ireturn, 1) := by decide +kernel
theorem dL_toRate_17 : decode cL_toRate 17 = .ok (.astore 4, 2) := by decide +kernel
theorem dL_toRate_19 : decode cL_toRate 19 = .ok (.iconst 2, 1) := by decide +kernel
theorem dL_toRate_20 : decode cL_toRate 20 = .ok (.ireturn, 1) := by decide +kernel
theorem dL_toRate_21 : decode cL_toRate 21 = .ok (.iconst 0, 1) := by decide +kernel
theorem dL_toRate_22 : decode cL_toRate 22 = .ok (.ireturn, 1) := by decide +kernel
theorem dL_guess_0 : decode cL_guess 0 = .ok (.aload 5, 2) := by decide +kernel
theorem dL_guess_2 : decode cL_guess 2 = .ok (.iconst 0, 1) := by decide +kernel
theorem dL_guess_3 : decode cL_guess 3 = .ok (.aload_n 0, 1) := by decide +kernel
theorem dL_guess_4 : decode cL_guess 4 = .ok (.iload_n 1, 1) := by decide +kernel
theorem dL_guess_5 : decode cL_guess 5 = .ok (.iload_n 2, 1) := by decide +kernel
theorem dL_guess_6 : decode cL_guess 6 = .ok (.iload_n 3, 1) := by decide +kernel
theorem dL_guess_7 : decode cL_guess 7 = .ok (.iload 4, 2) := by decide +kernel
theorem dL_guess_9 : decode cL_guess 9 = .ok (.invokevirtual 79, 3) := by decide +kernel
theorem dL_guess_12 : decode cL_guess 12 = .ok (.i2l, 1) := by decide +kernel
theorem dL_guess_13 : decode cL_guess 13 = .ok (.lastore, 1) := by decide +kernel
theorem dL_guess_14 : decode cL_guess 14 = .ok (.goto 7, 3) := by decide +kernel
theorem dL_guess_17 : decode cL_guess 17 = .ok (.astore 6, 2) := by decide +kernel
theorem dL_guess_19 : decode cL_guess 19 = .ok (.iconst 1, 1) := by decide +kernel
theorem dL_guess_20 : decode cL_guess 20 = .ok (.ireturn, 1) := by decide +kernel
theorem dL_guess_21 : decode cL_guess 21 = .ok (.iconst 0, 1) := by decide +kernel
theorem dL_guess_22 : decode cL_guess 22 = .ok (.ireturn, 1) := by decide +kernel
theorem dL_look_0 : decode cL_look 0 = .ok (.aload 5, 2) := by decide +kernel
theorem dL_look_2 : decode cL_look 2 = .ok (.iconst 0, 1) := by decide +kernel
theorem dL_look_3 : decode cL_look 3 = .ok (.aload_n 0, 1) := by decide +kernel
theorem dL_look_4 : decode cL_look 4 = .ok (.iload_n 1, 1) := by decide +kernel
theorem dL_look_5 : decode cL_look 5 = .ok (.iload_n 2, 1) := by decide +kernel
theorem dL_look_6 : decode cL_look 6 = .ok (.iload_n 3, 1) := by decide +kernel
theorem dL_look_7 : decode cL_look 7 = .ok (.iload 4, 2) := by decide +kernel
theorem dL_look_9 : decode cL_look 9 = .ok (.invokevirtual 82, 3) := by decide +kernel
theorem dL_look_12 : decode cL_look 12 = .ok (.i2l, 1) := by decide +kernel
theorem dL_look_13 : decode cL_look 13 = .ok (.lastore, 1) := by decide +kernel
theorem dL_look_14 : decode cL_look 14 = .ok (.goto 7, 3) := by decide +kernel
theorem dL_look_17 : decode cL_look 17 = .ok (.astore 6, 2) := by decide +kernel
theorem dL_look_19 : decode cL_look 19 = .ok (.iconst 1, 1) := by decide +kernel
theorem dL_look_20 : decode cL_look 20 = .ok (.ireturn, 1) := by decide +kernel
theorem dL_look_21 : decode cL_look 21 = .ok (.iconst 0, 1) := by decide +kernel
theorem dL_look_22 : decode cL_look 22 = .ok (.ireturn, 1) := by decide +kernel
theorem dL_dirt_0 : decode cL_dirt 0 = .ok (.aload 6, 2) := by decide +kernel
theorem dL_dirt_2 : decode cL_dirt 2 = .ok (.iconst 0, 1) := by decide +kernel
theorem dL_dirt_3 : decode cL_dirt 3 = .ok (.aload_n 0, 1) := by decide +kernel
theorem dL_dirt_4 : decode cL_dirt 4 = .ok (.iload_n 1, 1) := by decide +kernel
theorem dL_dirt_5 : decode cL_dirt 5 = .ok (.iload_n 2, 1) := by decide +kernel
theorem dL_dirt_6 : decode cL_dirt 6 = .ok (.iload_n 3, 1) := by decide +kernel
theorem dL_dirt_7 : decode cL_dirt 7 = .ok (.iload 4, 2) := by decide +kernel
theorem dL_dirt_9 : decode cL_dirt 9 = .ok (.iload 5, 2) := by decide +kernel
theorem dL_dirt_11 : decode cL_dirt 11 = .ok (.invokevirtual 85, 3) := by decide +kernel
theorem dL_dirt_14 : decode cL_dirt 14 = .ok (.i2l, 1) := by decide +kernel
theorem dL_dirt_15 : decode cL_dirt 15 = .ok (.lastore, 1) := by decide +kernel
theorem dL_dirt_16 : decode cL_dirt 16 = .ok (.goto 11, 3) := by decide +kernel
theorem dL_dirt_19 : decode cL_dirt 19 = .ok (.astore 7, 2) := by decide +kernel
theorem dL_dirt_21 : decode cL_dirt 21 = .ok (.iconst 1, 1) := by decide +kernel
theorem dL_dirt_22 : decode cL_dirt 22 = .ok (.ireturn, 1) := by decide +kernel
theorem dL_dirt_23 : decode cL_dirt 23 = .ok (.astore 7, 2) := by decide +kernel
theorem dL_dirt_25 : decode cL_dirt 25 = .ok (.iconst 2, 1) := by decide +kernel
theorem dL_dirt_26 : decode cL_dirt 26 = .ok (.ireturn, 1) := by decide +kernel
theorem dL_dirt_27 : decode cL_dirt 27 = .ok (.iconst 0, 1) := by decide +kernel
theorem dL_dirt_28 : decode cL_dirt 28 = .ok (.ireturn, 1) := by decide +kernel
theorem dL_years_0 : decode cL_years 0 = .ok (.aload 4, 2) := by decide +kernel
theorem dL_years_2 : decode cL_years 2 = .ok (.iconst 0, 1) := by decide +kernel
theorem dL_years_3 : decode cL_years 3 = .ok (.aload_n 0, 1) := by decide +kernel
theorem dL_years_4 : decode cL_years 4 = .ok (.iload_n 1, 1) := by decide +kernel
theorem dL_years_5 : decode cL_years 5 = .ok (.iload_n 2, 1) := by decide +kernel
theorem dL_years_6 : decode cL_years 6 = .ok (.iload_n 3, 1) := by decide +kernel
theorem dL_years_7 : decode cL_years 7 = .ok (.invokevirtual 89, 3) := by decide +kernel
theorem dL_years_10 : decode cL_years 10 = .ok (.i2l, 1) := by decide +kernel
theorem dL_years_11 : decode cL_years 11 = .ok (.lastore, 1) := by decide +kernel
theorem dL_years_12 : decode cL_years 12 = .ok (.goto 11, 3) := by decide +kernel
theorem dL_years_15 : decode cL_years 15 = .ok (.astore 5, 2) := by decide +kernel
theorem dL_years_17 : decode cL_years 17 = .ok (.iconst 1, 1) := by decide +kernel
theorem dL_years_18 : decode cL_years 18 = .ok (.ireturn, 1) := by decide +kernel
theorem dL_years_19 : decode cL_years 19 = .ok (.astore 5, 2) := by decide +kernel
theorem dL_years_21 : decode cL_years 21 = .ok (.iconst 2, 1) := by decide +kernel
theorem dL_years_22 : decode cL_years 22 = .ok (.ireturn, 1) := by decide +kernel
theorem dL_years_23 : decode cL_years 23 = .ok (.iconst 0, 1) := by decide +kernel
theorem dL_years_24 : decode cL_years 24 = .ok (.ireturn, 1) := by decide +kernel
theorem dL_law_0 : decode cL_law 0 = .ok (.new 8, 3) := by decide +kernel
theorem dL_law_3 : decode cL_law 3 = .ok (.dup, 1) := by decide +kernel
theorem dL_law_4 : decode cL_law 4 = .ok (.invokespecial 92, 3) := by decide +kernel
theorem dL_law_7 : decode cL_law 7 = .ok (.astore_n 1, 1) := by decide +kernel
theorem dL_law_8 : decode cL_law 8 = .ok (.new 93, 3) := by decide +kernel
theorem dL_law_11 : decode cL_law 11 = .ok (.dup, 1) := by decide +kernel
theorem dL_law_12 : decode cL_law 12 = .ok (.invokespecial 95, 3) := by decide +kernel
theorem dL_law_15 : decode cL_law 15 = .ok (.astore_n 2, 1) := by decide +kernel
theorem dL_law_16 : decode cL_law 16 = .ok (.iconst 1, 1) := by decide +kernel
theorem dL_law_17 : decode cL_law 17 = .ok (.newarray .long, 2) := by decide +kernel
theorem dL_law_19 : decode cL_law 19 = .ok (.astore_n 3, 1) := by decide +kernel
theorem dL_law_20 : decode cL_law 20 = .ok (.iconst 0, 1) := by decide +kernel
theorem dL_law_21 : decode cL_law 21 = .ok (.istore 4, 2) := by decide +kernel
theorem dL_law_23 : decode cL_law 23 = .ok (.iload 4, 2) := by decide +kernel
theorem dL_law_25 : decode cL_law 25 = .ok (.aload_n 0, 1) := by decide +kernel
theorem dL_law_26 : decode cL_law 26 = .ok (.arraylength, 1) := by decide +kernel
theorem dL_law_27 : decode cL_law 27 = .ok (.bipush 6, 2) := by decide +kernel
theorem dL_law_29 : decode cL_law 29 = .ok (.isub, 1) := by decide +kernel
theorem dL_law_30 : decode cL_law 30 = .ok (.if_icmp .gt 2299, 3) := by decide +kernel
theorem dL_law_33 : decode cL_law 33 = .ok (.aload_n 0, 1) := by decide +kernel
theorem dL_law_34 : decode cL_law 34 = .ok (.iload 4, 2) := by decide +kernel
theorem dL_law_36 : decode cL_law 36 = .ok (.iaload, 1) := by decide +kernel
theorem dL_law_37 : decode cL_law 37 = .ok (.bipush 63, 2) := by decide +kernel
theorem dL_law_39 : decode cL_law 39 = .ok (.iand, 1) := by decide +kernel
theorem dL_law_40 : decode cL_law 40 = .ok (.tableswitch 2283 0 34 #[156, 229, 285, 341, 354, 410, 478, 558, 638, 706, 774, 882, 962, 1054, 1146, 1214, 1322, 1347, 1372, 1397, 1410, 1478, 1491, 1559, 1615, 1707, 1775, 1843, 1880, 1972, 2064, 2075, 2179, 2259, 2270], 156) := by decide +kernel
theorem dL_law_196 : decode cL_law 196 = .ok (.aload_n 1, 1) := by decide +kernel
theorem dL_law_197 : decode cL_law 197 = .ok (.aload_n 0, 1) := by decide +kernel
theorem dL_law_198 : decode cL_law 198 = .ok (.iload 4, 2) := by decide +kernel
theorem dL_law_200 : decode cL_law 200 = .ok (.iconst 1, 1) := by decide +kernel
theorem dL_law_201 : decode cL_law 201 = .ok (.iadd, 1) := by decide +kernel
theorem dL_law_202 : decode cL_law 202 = .ok (.iaload, 1) := by decide +kernel
theorem dL_law_203 : decode cL_law 203 = .ok (.aload_n 0, 1) := by decide +kernel
theorem dL_law_204 : decode cL_law 204 = .ok (.iload 4, 2) := by decide +kernel
theorem dL_law_206 : decode cL_law 206 = .ok (.iconst 2, 1) := by decide +kernel
theorem dL_law_207 : decode cL_law 207 = .ok (.iadd, 1) := by decide +kernel
theorem dL_law_208 : decode cL_law 208 = .ok (.iaload, 1) := by decide +kernel
theorem dL_law_209 : decode cL_law 209 = .ok (.aload_n 0, 1) := by decide +kernel
theorem dL_law_210 : decode cL_law 210 = .ok (.iload 4, 2) := by decide +kernel
theorem dL_law_212 : decode cL_law 212 = .ok (.iconst 3, 1) := by decide +kernel
theorem dL_law_213 : decode cL_law 213 = .ok (.iadd, 1) := by decide +kernel
theorem dL_law_214 : decode cL_law 214 = .ok (.iaload, 1) := by decide +kernel
theorem dL_law_215 : decode cL_law 215 = .ok (.aload_n 0, 1) := by decide +kernel
theorem dL_law_216 : decode cL_law 216 = .ok (.iload 4, 2) := by decide +kernel
theorem dL_law_218 : decode cL_law 218 = .ok (.iconst 4, 1) := by decide +kernel
theorem dL_law_219 : decode cL_law 219 = .ok (.iadd, 1) := by decide +kernel
theorem dL_law_220 : decode cL_law 220 = .ok (.iaload, 1) := by decide +kernel
theorem dL_law_221 : decode cL_law 221 = .ok (.aload_n 0, 1) := by decide +kernel
theorem dL_law_222 : decode cL_law 222 = .ok (.iload 4, 2) := by decide +kernel
theorem dL_law_224 : decode cL_law 224 = .ok (.iconst 5, 1) := by decide +kernel
theorem dL_law_225 : decode cL_law 225 = .ok (.iadd, 1) := by decide +kernel
theorem dL_law_226 : decode cL_law 226 = .ok (.iaload, 1) := by decide +kernel
theorem dL_law_227 : decode cL_law 227 = .ok (.invokevirtual 96, 3) := by decide +kernel
theorem dL_law_230 : decode cL_law 230 = .ok (.aload_n 2, 1) := by decide +kernel
theorem dL_law_231 : decode cL_law 231 = .ok (.aload_n 0, 1) := by decide +kernel
theorem dL_law_232 : decode cL_law 232 = .ok (.iload 4, 2) := by decide +kernel
theorem dL_law_234 : decode cL_law 234 = .ok (.iconst 1, 1) := by decide +kernel
theorem dL_law_235 : decode cL_law 235 = .ok (.iadd, 1) := by decide +kernel
theorem dL_law_236 : decode cL_law 236 = .ok (.iaload, 1) := by decide +kernel
theorem dL_law_237 : decode cL_law 237 = .ok (.aload_n 0, 1) := by decide +kernel
theorem dL_law_238 : decode cL_law 238 = .ok (.iload 4, 2) := by decide +kernel
theorem dL_law_240 : decode cL_law 240 = .ok (.iconst 2, 1) := by decide +kernel
theorem dL_law_241 : decode cL_law 241 = .ok (.iadd, 1) := by decide +kernel
theorem dL_law_242 : decode cL_law 242 = .ok (.iaload, 1) := by decide +kernel
theorem dL_law_243 : decode cL_law 243 = .ok (.aload_n 0, 1) := by decide +kernel
theorem dL_law_244 : decode cL_law 244 = .ok (.iload 4, 2) := by decide +kernel
theorem dL_law_246 : decode cL_law 246 = .ok (.iconst 3, 1) := by decide +kernel
theorem dL_law_247 : decode cL_law 247 = .ok (.iadd, 1) := by decide +kernel
theorem dL_law_248 : decode cL_law 248 = .ok (.iaload, 1) := by decide +kernel
theorem dL_law_249 : decode cL_law 249 = .ok (.aload_n 0, 1) := by decide +kernel
theorem dL_law_250 : decode cL_law 250 = .ok (.iload 4, 2) := by decide +kernel
theorem dL_law_252 : decode cL_law 252 = .ok (.iconst 4, 1) := by decide +kernel
theorem dL_law_253 : decode cL_law 253 = .ok (.iadd, 1) := by decide +kernel
theorem dL_law_254 : decode cL_law 254 = .ok (.iaload, 1) := by decide +kernel
theorem dL_law_255 : decode cL_law 255 = .ok (.aload_n 0, 1) := by decide +kernel
theorem dL_law_256 : decode cL_law 256 = .ok (.iload 4, 2) := by decide +kernel
theorem dL_law_258 : decode cL_law 258 = .ok (.iconst 5, 1) := by decide +kernel
theorem dL_law_259 : decode cL_law 259 = .ok (.iadd, 1) := by decide +kernel
theorem dL_law_260 : decode cL_law 260 = .ok (.iaload, 1) := by decide +kernel
theorem dL_law_261 : decode cL_law 261 = .ok (.invokevirtual 99, 3) := by decide +kernel
theorem dL_law_264 : decode cL_law 264 = .ok (.if_icmp .eq 2059, 3) := by decide +kernel
theorem dL_law_267 : decode cL_law 267 = .ok (.iconst 0, 1) := by decide +kernel
theorem dL_law_268 : decode cL_law 268 = .ok (.ireturn, 1) := by decide +kernel
theorem dL_law_269 : decode cL_law 269 = .ok (.aload_n 1, 1) := by decide +kernel
theorem dL_law_270 : decode cL_law 270 = .ok (.aload_n 0, 1) := by decide +kernel
theorem dL_law_271 : decode cL_law 271 = .ok (.iload 4, 2) := by decide +kernel
theorem dL_law_273 : decode cL_law 273 = .ok (.iconst 1, 1) := by decide +kernel
theorem dL_law_274 : decode cL_law 274 = .ok (.iadd, 1) := by decide +kernel
theorem dL_law_275 : decode cL_law 275 = .ok (.iaload, 1) := by decide +kernel
theorem dL_law_276 : decode cL_law 276 = .ok (.aload_n 3, 1) := by decide +kernel
theorem dL_law_277 : decode cL_law 277 = .ok (.invokestatic 100, 3) := by decide +kernel
theorem dL_law_280 : decode cL_law 280 = .ok (.istore 5, 2) := by decide +kernel
theorem dL_law_282 : decode cL_law 282 = .ok (.aload_n 2, 1) := by decide +kernel
theorem dL_law_283 : decode cL_law 283 = .ok (.aload_n 0, 1) := by decide +kernel
theorem dL_law_284 : decode cL_law 284 = .ok (.iload 4, 2) := by decide +kernel
theorem dL_law_286 : decode cL_law 286 = .ok (.iconst 1, 1) := by decide +kernel
theorem dL_law_287 : decode cL_law 287 = .ok (.iadd, 1) := by decide +kernel
theorem dL_law_288 : decode cL_law 288 = .ok (.iaload, 1) := by decide +kernel
theorem dL_law_289 : decode cL_law 289 = .ok (.invokevirtual 105, 3) := by decide +kernel
theorem dL_law_292 : decode cL_law 292 = .ok (.istore 6, 2) := by decide +kernel
theorem dL_law_294 : decode cL_law 294 = .ok (.aload_n 2, 1) := by decide +kernel
theorem dL_law_295 : decode cL_law 295 = .ok (.invokevirtual 106, 3) := by decide +kernel
theorem dL_law_298 : decode cL_law 298 = .ok (.iload 5, 2) := by decide +kernel
theorem dL_law_300 : decode cL_law 300 = .ok (.if_icmp .eq 5, 3) := by decide +kernel
theorem dL_law_303 : decode cL_law 303 = .ok (.iconst 0, 1) := by decide +kernel
theorem dL_law_304 : decode cL_law 304 = .ok (.ireturn, 1) := by decide +kernel
theorem dL_law_305 : decode cL_law 305 = .ok (.iload 5, 2) := by decide +kernel
theorem dL_law_307 : decode cL_law 307 = .ok (.ifCond .ne 15, 3) := by decide +kernel
theorem dL_law_310 : decode cL_law 310 = .ok (.aload_n 3, 1) := by decide +kernel
theorem dL_law_311 : decode cL_law 311 = .ok (.iconst 0, 1) := by decide +kernel
theorem dL_law_312 : decode cL_law 312 = .ok (.laload, 1) := by decide +kernel
theorem dL_law_313 : decode cL_law 313 = .ok (.iload 6, 2) := by decide +kernel
theorem dL_law_315 : decode cL_law 315 = .ok (.i2l, 1) := by decide +kernel
theorem dL_law_316 : decode cL_law 316 = .ok (.lcmp, 1) := by decide +kernel
theorem dL_law_317 : decode cL_law 317 = .ok (.ifCond .eq 5, 3) := by decide +kernel
theorem dL_law_320 : decode cL_law 320 = .ok (.iconst 0, 1) := by decide +kernel
theorem dL_law_321 : decode cL_law 321 = .ok (.ireturn, 1) := by decide +kernel
theorem dL_law_322 : decode cL_law 322 = .ok (.goto 2001, 3) := by decide +kernel
theorem dL_law_325 : decode cL_law 325 = .ok (.aload_n 1, 1) := by decide +kernel
theorem dL_law_326 : decode cL_law 326 = .ok (.aload_n 0, 1) := by decide +kernel
theorem dL_law_327 : decode cL_law 327 = .ok (.iload 4, 2) := by decide +kernel
theorem dL_law_329 : decode cL_law 329 = .ok (.iconst 1, 1) := by decide +kernel
theorem dL_law_330 : decode cL_law 330 = .ok (.iadd, 1) := by decide +kernel
theorem dL_law_331 : decode cL_law 331 = .ok (.iaload, 1) := by decide +kernel
theorem dL_law_332 : decode cL_law 332 = .ok (.aload_n 3, 1) := by decide +kernel
theorem dL_law_333 : decode cL_law 333 = .ok (.invokestatic 110, 3) := by decide +kernel
theorem dL_law_336 : decode cL_law 336 = .ok (.istore 5, 2) := by decide +kernel
theorem dL_law_338 : decode cL_law 338 = .ok (.aload_n 2, 1) := by decide +kernel
theorem dL_law_339 : decode cL_law 339 = .ok (.aload_n 0, 1) := by decide +kernel
theorem dL_law_340 : decode cL_law 340 = .ok (.iload 4, 2) := by decide +kernel
theorem dL_law_342 : decode cL_law 342 = .ok (.iconst 1, 1) := by decide +kernel
theorem dL_law_343 : decode cL_law 343 = .ok (.iadd, 1) := by decide +kernel
theorem dL_law_344 : decode cL_law 344 = .ok (.iaload, 1) := by decide +kernel
theorem dL_law_345 : decode cL_law 345 = .ok (.invokevirtual 112, 3) := by decide +kernel
theorem dL_law_348 : decode cL_law 348 = .ok (.istore 6, 2) := by decide +kernel
theorem dL_law_350 : decode cL_law 350 = .ok (.aload_n 2, 1) := by decide +kernel
theorem dL_law_351 : decode cL_law 351 = .ok (.invokevirtual 106, 3) := by decide +kernel
theorem dL_law_354 : decode cL_law 354 = .ok (.iload 5, 2) := by decide +kernel
theorem dL_law_356 : decode cL_law 356 = .ok (.if_icmp .eq 5, 3) := by decide +kernel
theorem dL_law_359 : decode cL_law 359 = .ok (.iconst 0, 1) := by decide +kernel
theorem dL_law_360 : decode cL_law 360 = .ok (.ireturn, 1) := by decide +kernel
theorem dL_law_361 : decode cL_law 361 = .ok (.iload 5, 2) := by decide +kernel
theorem dL_law_363 : decode cL_law 363 = .ok (.ifCond .ne 15, 3) := by decide +kernel
theorem dL_law_366 : decode cL_law 366 = .ok (.aload_n 3, 1) := by decide +kernel
theorem dL_law_367 : decode cL_law 367 = .ok (.iconst 0, 1) := by decide +kernel
theorem dL_law_368 : decode cL_law 368 = .ok (.laload, 1) := by decide +kernel
theorem dL_law_369 : decode cL_law 369 = .ok (.iload 6, 2) := by decide +kernel
theorem dL_law_371 : decode cL_law 371 = .ok (.i2l, 1) := by decide +kernel
theorem dL_law_372 : decode cL_law 372 = .ok (.lcmp, 1) := by decide +kernel
theorem dL_law_373 : decode cL_law 373 = .ok (.ifCond .eq 5, 3) := by decide +kernel
theorem dL_law_376 : decode cL_law 376 = .ok (.iconst 0, 1) := by decide +kernel
theorem dL_law_377 : decode cL_law 377 = .ok (.ireturn, 1) := by decide +kernel
theorem dL_law_378 : decode cL_law 378 = .ok (.goto 1945, 3) := by decide +kernel
theorem dL_law_381 : decode cL_law 381 = .ok (.aload_n 1, 1) := by decide +kernel
theorem dL_law_382 : decode cL_law 382 = .ok (.invokevirtual 113, 3) := by decide +kernel
theorem dL_law_385 : decode cL_law 385 = .ok (.aload_n 2, 1) := by decide +kernel
theorem dL_law_386 : decode cL_law 386 = .ok (.invokevirtual 116, 3) := by decide +kernel
theorem dL_law_389 : decode cL_law 389 = .ok (.if_icmp .eq 1934, 3) := by decide +kernel
theorem dL_law_392 : decode cL_law 392 = .ok (.iconst 0, 1) := by decide +kernel
theorem dL_law_393 : decode cL_law 393 = .ok (.ireturn, 1) := by decide +kernel
theorem dL_law_394 : decode cL_law 394 = .ok (.aload_n 1, 1) := by decide +kernel
theorem dL_law_395 : decode cL_law 395 = .ok (.aload_n 0, 1) := by decide +kernel
theorem dL_law_396 : decode cL_law 396 = .ok (.iload 4, 2) := by decide +kernel
theorem dL_law_398 : decode cL_law 398 = .ok (.iconst 1, 1) := by decide +kernel
theorem dL_law_399 : decode cL_law 399 = .ok (.iadd, 1) := by decide +kernel
theorem dL_law_400 : decode cL_law 400 = .ok (.iaload, 1) := by decide +kernel
theorem dL_law_401 : decode cL_law 401 = .ok (.aload_n 3, 1) := by decide +kernel
theorem dL_law_402 : decode cL_law 402 = .ok (.invokestatic 117, 3) := by decide +kernel
theorem dL_law_405 : decode cL_law 405 = .ok (.istore 5, 2) := by decide +kernel
theorem dL_law_407 : decode cL_law 407 = .ok (.aload_n 2, 1) := by decide +kernel
theorem dL_law_408 : decode cL_law 408 = .ok (.aload_n 0, 1) := by decide +kernel
theorem dL_law_409 : decode cL_law 409 = .ok (.iload 4, 2) := by decide +kernel
theorem dL_law_411 : decode cL_law 411 = .ok (.iconst 1, 1) := by decide +kernel
theorem dL_law_412 : decode cL_law 412 = .ok (.iadd, 1) := by decide +kernel
theorem dL_law_413 : decode cL_law 413 = .ok (.iaload, 1) := by decide +kernel
theorem dL_law_414 : decode cL_law 414 = .ok (.invokevirtual 119, 3) := by decide +kernel
theorem dL_law_417 : decode cL_law 417 = .ok (.istore 6, 2) := by decide +kernel
theorem dL_law_419 : decode cL_law 419 = .ok (.aload_n 2, 1) := by decide +kernel
theorem dL_law_420 : decode cL_law 420 = .ok (.invokevirtual 106, 3) := by decide +kernel
theorem dL_law_423 : decode cL_law 423 = .ok (.iload 5, 2) := by decide +kernel
theorem dL_law_425 : decode cL_law 425 = .ok (.if_icmp .eq 5, 3) := by decide +kernel
theorem dL_law_428 : decode cL_law 428 = .ok (.iconst 0, 1) := by decide +kernel
theorem dL_law_429 : decode cL_law 429 = .ok (.ireturn, 1) := by decide +kernel
theorem dL_law_430 : decode cL_law 430 = .ok (.iload 5, 2) := by decide +kernel
theorem dL_law_432 : decode cL_law 432 = .ok (.ifCond .ne 15, 3) := by decide +kernel
theorem dL_law_435 : decode cL_law 435 = .ok (.aload_n 3, 1) := by decide +kernel
theorem dL_law_436 : decode cL_law 436 = .ok (.iconst 0, 1) := by decide +kernel
theorem dL_law_437 : decode cL_law 437 = .ok (.laload, 1) := by decide +kernel
theorem dL_law_438 : decode cL_law 438 = .ok (.iload 6, 2) := by decide +kernel
theorem dL_law_440 : decode cL_law 440 = .ok (.i2l, 1) := by decide +kernel
theorem dL_law_441 : decode cL_law 441 = .ok (.lcmp, 1) := by decide +kernel
theorem dL_law_442 : decode cL_law 442 = .ok (.ifCond .eq 5, 3) := by decide +kernel
theorem dL_law_445 : decode cL_law 445 = .ok (.iconst 0, 1) := by decide +kernel
theorem dL_law_446 : decode cL_law 446 = .ok (.ireturn, 1) := by decide +kernel
theorem dL_law_447 : decode cL_law 447 = .ok (.goto 1876, 3) := by decide +kernel
theorem dL_law_450 : decode cL_law 450 = .ok (.aload_n 1, 1) := by decide +kernel
theorem dL_law_451 : decode cL_law 451 = .ok (.aload_n 0, 1) := by decide +kernel
theorem dL_law_452 : decode cL_law 452 = .ok (.iload 4, 2) := by decide +kernel
theorem dL_law_454 : decode cL_law 454 = .ok (.iconst 1, 1) := by decide +kernel
theorem dL_law_455 : decode cL_law 455 = .ok (.iadd, 1) := by decide +kernel
theorem dL_law_456 : decode cL_law 456 = .ok (.iaload, 1) := by decide +kernel
theorem dL_law_457 : decode cL_law 457 = .ok (.aload_n 0, 1) := by decide +kernel
theorem dL_law_458 : decode cL_law 458 = .ok (.iload 4, 2) := by decide +kernel
theorem dL_law_460 : decode cL_law 460 = .ok (.iconst 2, 1) := by decide +kernel
theorem dL_law_461 : decode cL_law 461 = .ok (.iadd, 1) := by decide +kernel
theorem dL_law_462 : decode cL_law 462 = .ok (.iaload, 1) := by decide +kernel
theorem dL_law_463 : decode cL_law 463 = .ok (.aload_n 3, 1) := by decide +kernel
theorem dL_law_464 : decode cL_law 464 = .ok (.invokestatic 120, 3) := by decide +kernel
theorem dL_law_467 : decode cL_law 467 = .ok (.istore 5, 2) := by decide +kernel
theorem dL_law_469 : decode cL_law 469 = .ok (.aload_n 2, 1) := by decide +kernel
theorem dL_law_470 : decode cL_law 470 = .ok (.aload_n 0, 1) := by decide +kernel
theorem dL_law_471 : decode cL_law 471 = .ok (.iload 4, 2) := by decide +kernel
theorem dL_law_473 : decode cL_law 473 = .ok (.iconst 1, 1) := by decide +kernel
theorem dL_law_474 : decode cL_law 474 = .ok (.iadd, 1) := by decide +kernel
theorem dL_law_475 : decode cL_law 475 = .ok (.iaload, 1) := by decide +kernel
theorem dL_law_476 : decode cL_law 476 = .ok (.aload_n 0, 1) := by decide +kernel
theorem dL_law_477 : decode cL_law 477 = .ok (.iload 4, 2) := by decide +kernel
theorem dL_law_479 : decode cL_law 479 = .ok (.iconst 2, 1) := by decide +kernel
theorem dL_law_480 : decode cL_law 480 = .ok (.iadd, 1) := by decide +kernel
theorem dL_law_481 : decode cL_law 481 = .ok (.iaload, 1) := by decide +kernel
theorem dL_law_482 : decode cL_law 482 = .ok (.invokevirtual 123, 3) := by decide +kernel
theorem dL_law_485 : decode cL_law 485 = .ok (.istore 6, 2) := by decide +kernel
theorem dL_law_487 : decode cL_law 487 = .ok (.aload_n 2, 1) := by decide +kernel
theorem dL_law_488 : decode cL_law 488 = .ok (.invokevirtual 106, 3) := by decide +kernel
theorem dL_law_491 : decode cL_law 491 = .ok (.iload 5, 2) := by decide +kernel
theorem dL_law_493 : decode cL_law 493 = .ok (.if_icmp .eq 5, 3) := by decide +kernel
theorem dL_law_496 : decode cL_law 496 = .ok (.iconst 0, 1) := by decide +kernel
theorem dL_law_497 : decode cL_law 497 = .ok (.ireturn, 1) := by decide +kernel
theorem dL_law_498 : decode cL_law 498 = .ok (.iload 5, 2) := by decide +kernel
theorem dL_law_500 : decode cL_law 500 = .ok (.ifCond .ne 15, 3) := by decide +kernel
theorem dL_law_503 : decode cL_law 503 = .ok (.aload_n 3, 1) := by decide +kernel
theorem dL_law_504 : decode cL_law 504 = .ok (.iconst 0, 1) := by decide +kernel
theorem dL_law_505 : decode cL_law 505 = .ok (.laload, 1) := by decide +kernel
theorem dL_law_506 : decode cL_law 506 = .ok (.iload 6, 2) := by decide +kernel
theorem dL_law_508 : decode cL_law 508 = .ok (.i2l, 1) := by decide +kernel
theorem dL_law_509 : decode cL_law 509 = .ok (.lcmp, 1) := by decide +kernel
theorem dL_law_510 : decode cL_law 510 = .ok (.ifCond .eq 5, 3) := by decide +kernel
theorem dL_law_513 : decode cL_law 513 = .ok (.iconst 0, 1) := by decide +kernel
theorem dL_law_514 : decode cL_law 514 = .ok (.ireturn, 1) := by decide +kernel
theorem dL_law_515 : decode cL_law 515 = .ok (.goto 1808, 3) := by decide +kernel
theorem dL_law_518 : decode cL_law 518 = .ok (.aload_n 1, 1) := by decide +kernel
theorem dL_law_519 : decode cL_law 519 = .ok (.aload_n 0, 1) := by decide +kernel
theorem dL_law_520 : decode cL_law 520 = .ok (.iload 4, 2) := by decide +kernel
theorem dL_law_522 : decode cL_law 522 = .ok (.iconst 1, 1) := by decide +kernel
theorem dL_law_523 : decode cL_law 523 = .ok (.iadd, 1) := by decide +kernel
theorem dL_law_524 : decode cL_law 524 = .ok (.iaload, 1) := by decide +kernel
theorem dL_law_525 : decode cL_law 525 = .ok (.aload_n 0, 1) := by decide +kernel
theorem dL_law_526 : decode cL_law 526 = .ok (.iload 4, 2) := by decide +kernel
theorem dL_law_528 : decode cL_law 528 = .ok (.iconst 2, 1) := by decide +kernel
theorem dL_law_529 : decode cL_law 529 = .ok (.iadd, 1) := by decide +kernel
theorem dL_law_530 : decode cL_law 530 = .ok (.iaload, 1) := by decide +kernel
theorem dL_law_531 : decode cL_law 531 = .ok (.aload_n 0, 1) := by decide +kernel
theorem dL_law_532 : decode cL_law 532 = .ok (.iload 4, 2) := by decide +kernel
theorem dL_law_534 : decode cL_law 534 = .ok (.iconst 3, 1) := by decide +kernel
theorem dL_law_535 : decode cL_law 535 = .ok (.iadd, 1) := by decide +kernel
theorem dL_law_536 : decode cL_law 536 = .ok (.iaload, 1) := by decide +kernel
theorem dL_law_537 : decode cL_law 537 = .ok (.aload_n 3, 1) := by decide +kernel
theorem dL_law_538 : decode cL_law 538 = .ok (.invokestatic 124, 3) := by decide +kernel
theorem dL_law_541 : decode cL_law 541 = .ok (.istore 5, 2) := by decide +kernel
theorem dL_law_543 : decode cL_law 543 = .ok (.aload_n 2, 1) := by decide +kernel
theorem dL_law_544 : decode cL_law 544 = .ok (.aload_n 0, 1) := by decide +kernel
theorem dL_law_545 : decode cL_law 545 = .ok (.iload 4, 2) := by decide +kernel
theorem dL_law_547 : decode cL_law 547 = .ok (.iconst 1, 1) := by decide +kernel
theorem dL_law_548 : decode cL_law 548 = .ok (.iadd, 1) := by decide +kernel
theorem dL_law_549 : decode cL_law 549 = .ok (.iaload, 1) := by decide +kernel
theorem dL_law_550 : decode cL_law 550 = .ok (.aload_n 0, 1) := by decide +kernel
theorem dL_law_551 : decode cL_law 551 = .ok (.iload 4, 2) := by decide +kernel
theorem dL_law_553 : decode cL_law 553 = .ok (.iconst 2, 1) := by decide +kernel
theorem dL_law_554 : decode cL_law 554 = .ok (.iadd, 1) := by decide +kernel
theorem dL_law_555 : decode cL_law 555 = .ok (.iaload, 1) := by decide +kernel
theorem dL_law_556 : decode cL_law 556 = .ok (.aload_n 0, 1) := by decide +kernel
theorem dL_law_557 : decode cL_law 557 = .ok (.iload 4, 2) := by decide +kernel
theorem dL_law_559 : decode cL_law 559 = .ok (.iconst 3, 1) := by decide +kernel
theorem dL_law_560 : decode cL_law 560 = .ok (.iadd, 1) := by decide +kernel
theorem dL_law_561 : decode cL_law 561 = .ok (.iaload, 1) := by decide +kernel
theorem dL_law_562 : decode cL_law 562 = .ok (.invokevirtual 127, 3) := by decide +kernel
theorem dL_law_565 : decode cL_law 565 = .ok (.istore 6, 2) := by decide +kernel
theorem dL_law_567 : decode cL_law 567 = .ok (.aload_n 2, 1) := by decide +kernel
theorem dL_law_568 : decode cL_law 568 = .ok (.invokevirtual 106, 3) := by decide +kernel
theorem dL_law_571 : decode cL_law 571 = .ok (.iload 5, 2) := by decide +kernel
theorem dL_law_573 : decode cL_law 573 = .ok (.if_icmp .eq 5, 3) := by decide +kernel
theorem dL_law_576 : decode cL_law 576 = .ok (.iconst 0, 1) := by decide +kernel
theorem dL_law_577 : decode cL_law 577 = .ok (.ireturn, 1) := by decide +kernel
theorem dL_law_578 : decode cL_law 578 = .ok (.iload 5, 2) := by decide +kernel
theorem dL_law_580 : decode cL_law 580 = .ok (.ifCond .ne 15, 3) := by decide +kernel
theorem dL_law_583 : decode cL_law 583 = .ok (.aload_n 3, 1) := by decide +kernel
theorem dL_law_584 : decode cL_law 584 = .ok (.iconst 0, 1) := by decide +kernel
theorem dL_law_585 : decode cL_law 585 = .ok (.laload, 1) := by decide +kernel
theorem dL_law_586 : decode cL_law 586 = .ok (.iload 6, 2) := by decide +kernel
theorem dL_law_588 : decode cL_law 588 = .ok (.i2l, 1) := by decide +kernel
theorem dL_law_589 : decode cL_law 589 = .ok (.lcmp, 1) := by decide +kernel
theorem dL_law_590 : decode cL_law 590 = .ok (.ifCond .eq 5, 3) := by decide +kernel
theorem dL_law_593 : decode cL_law 593 = .ok (.iconst 0, 1) := by decide +kernel
theorem dL_law_594 : decode cL_law 594 = .ok (.ireturn, 1) := by decide +kernel
theorem dL_law_595 : decode cL_law 595 = .ok (.goto 1728, 3) := by decide +kernel
theorem dL_law_598 : decode cL_law 598 = .ok (.aload_n 1, 1) := by decide +kernel
theorem dL_law_599 : decode cL_law 599 = .ok (.aload_n 0, 1) := by decide +kernel
theorem dL_law_600 : decode cL_law 600 = .ok (.iload 4, 2) := by decide +kernel
theorem dL_law_602 : decode cL_law 602 = .ok (.iconst 1, 1) := by decide +kernel
theorem dL_law_603 : decode cL_law 603 = .ok (.iadd, 1) := by decide +kernel
theorem dL_law_604 : decode cL_law 604 = .ok (.iaload, 1) := by decide +kernel
theorem dL_law_605 : decode cL_law 605 = .ok (.aload_n 0, 1) := by decide +kernel
theorem dL_law_606 : decode cL_law 606 = .ok (.iload 4, 2) := by decide +kernel
theorem dL_law_608 : decode cL_law 608 = .ok (.iconst 2, 1) := by decide +kernel
theorem dL_law_609 : decode cL_law 609 = .ok (.iadd, 1) := by decide +kernel
theorem dL_law_610 : decode cL_law 610 = .ok (.iaload, 1) := by decide +kernel
theorem dL_law_611 : decode cL_law 611 = .ok (.aload_n 0, 1) := by decide +kernel
theorem dL_law_612 : decode cL_law 612 = .ok (.iload 4, 2) := by decide +kernel
theorem dL_law_614 : decode cL_law 614 = .ok (.iconst 3, 1) := by decide +kernel
theorem dL_law_615 : decode cL_law 615 = .ok (.iadd, 1) := by decide +kernel
theorem dL_law_616 : decode cL_law 616 = .ok (.iaload, 1) := by decide +kernel
theorem dL_law_617 : decode cL_law 617 = .ok (.aload_n 3, 1) := by decide +kernel
theorem dL_law_618 : decode cL_law 618 = .ok (.invokestatic 128, 3) := by decide +kernel
theorem dL_law_621 : decode cL_law 621 = .ok (.istore 5, 2) := by decide +kernel
theorem dL_law_623 : decode cL_law 623 = .ok (.aload_n 2, 1) := by decide +kernel
theorem dL_law_624 : decode cL_law 624 = .ok (.aload_n 0, 1) := by decide +kernel
theorem dL_law_625 : decode cL_law 625 = .ok (.iload 4, 2) := by decide +kernel
theorem dL_law_627 : decode cL_law 627 = .ok (.iconst 1, 1) := by decide +kernel
theorem dL_law_628 : decode cL_law 628 = .ok (.iadd, 1) := by decide +kernel
theorem dL_law_629 : decode cL_law 629 = .ok (.iaload, 1) := by decide +kernel
theorem dL_law_630 : decode cL_law 630 = .ok (.aload_n 0, 1) := by decide +kernel
theorem dL_law_631 : decode cL_law 631 = .ok (.iload 4, 2) := by decide +kernel
theorem dL_law_633 : decode cL_law 633 = .ok (.iconst 2, 1) := by decide +kernel
theorem dL_law_634 : decode cL_law 634 = .ok (.iadd, 1) := by decide +kernel
theorem dL_law_635 : decode cL_law 635 = .ok (.iaload, 1) := by decide +kernel
theorem dL_law_636 : decode cL_law 636 = .ok (.aload_n 0, 1) := by decide +kernel
theorem dL_law_637 : decode cL_law 637 = .ok (.iload 4, 2) := by decide +kernel
theorem dL_law_639 : decode cL_law 639 = .ok (.iconst 3, 1) := by decide +kernel
theorem dL_law_640 : decode cL_law 640 = .ok (.iadd, 1) := by decide +kernel
theorem dL_law_641 : decode cL_law 641 = .ok (.iaload, 1) := by decide +kernel
theorem dL_law_642 : decode cL_law 642 = .ok (.invokevirtual 130, 3) := by decide +kernel
theorem dL_law_645 : decode cL_law 645 = .ok (.istore 6, 2) := by decide +kernel
theorem dL_law_647 : decode cL_law 647 = .ok (.aload_n 2, 1) := by decide +kernel
theorem dL_law_648 : decode cL_law 648 = .ok (.invokevirtual 106, 3) := by decide +kernel
theorem dL_law_651 : decode cL_law 651 = .ok (.iload 5, 2) := by decide +kernel
theorem dL_law_653 : decode cL_law 653 = .ok (.if_icmp .eq 5, 3) := by decide +kernel
theorem dL_law_656 : decode cL_law 656 = .ok (.iconst 0, 1) := by decide +kernel
theorem dL_law_657 : decode cL_law 657 = .ok (.ireturn, 1) := by decide +kernel
theorem dL_law_658 : decode cL_law 658 = .ok (.iload 5, 2) := by decide +kernel
theorem dL_law_660 : decode cL_law 660 = .ok (.ifCond .ne 15, 3) := by decide +kernel
theorem dL_law_663 : decode cL_law 663 = .ok (.aload_n 3, 1) := by decide +kernel
theorem dL_law_664 : decode cL_law 664 = .ok (.iconst 0, 1) := by decide +kernel
theorem dL_law_665 : decode cL_law 665 = .ok (.laload, 1) := by decide +kernel
theorem dL_law_666 : decode cL_law 666 = .ok (.iload 6, 2) := by decide +kernel
theorem dL_law_668 : decode cL_law 668 = .ok (.i2l, 1) := by decide +kernel
theorem dL_law_669 : decode cL_law 669 = .ok (.lcmp, 1) := by decide +kernel
theorem dL_law_670 : decode cL_law 670 = .ok (.ifCond .eq 5, 3) := by decide +kernel
theorem dL_law_673 : decode cL_law 673 = .ok (.iconst 0, 1) := by decide +kernel
theorem dL_law_674 : decode cL_law 674 = .ok (.ireturn, 1) := by decide +kernel
theorem dL_law_675 : decode cL_law 675 = .ok (.goto 1648, 3) := by decide +kernel
theorem dL_law_678 : decode cL_law 678 = .ok (.aload_n 1, 1) := by decide +kernel
theorem dL_law_679 : decode cL_law 679 = .ok (.aload_n 0, 1) := by decide +kernel
theorem dL_law_680 : decode cL_law 680 = .ok (.iload 4, 2) := by decide +kernel
theorem dL_law_682 : decode cL_law 682 = .ok (.iconst 1, 1) := by decide +kernel
theorem dL_law_683 : decode cL_law 683 = .ok (.iadd, 1) := by decide +kernel
theorem dL_law_684 : decode cL_law 684 = .ok (.iaload, 1) := by decide +kernel
theorem dL_law_685 : decode cL_law 685 = .ok (.aload_n 0, 1) := by decide +kernel
theorem dL_law_686 : decode cL_law 686 = .ok (.iload 4, 2) := by decide +kernel
theorem dL_law_688 : decode cL_law 688 = .ok (.iconst 2, 1) := by decide +kernel
theorem dL_law_689 : decode cL_law 689 = .ok (.iadd, 1) := by decide +kernel
theorem dL_law_690 : decode cL_law 690 = .ok (.iaload, 1) := by decide +kernel
theorem dL_law_691 : decode cL_law 691 = .ok (.aload_n 3, 1) := by decide +kernel
theorem dL_law_692 : decode cL_law 692 = .ok (.invokestatic 131, 3) := by decide +kernel
theorem dL_law_695 : decode cL_law 695 = .ok (.istore 5, 2) := by decide +kernel
theorem dL_law_697 : decode cL_law 697 = .ok (.aload_n 2, 1) := by decide +kernel
theorem dL_law_698 : decode cL_law 698 = .ok (.aload_n 0, 1) := by decide +kernel
theorem dL_law_699 : decode cL_law 699 = .ok (.iload 4, 2) := by decide +kernel
theorem dL_law_701 : decode cL_law 701 = .ok (.iconst 1, 1) := by decide +kernel
theorem dL_law_702 : decode cL_law 702 = .ok (.iadd, 1) := by decide +kernel
theorem dL_law_703 : decode cL_law 703 = .ok (.iaload, 1) := by decide +kernel
theorem dL_law_704 : decode cL_law 704 = .ok (.aload_n 0, 1) := by decide +kernel
theorem dL_law_705 : decode cL_law 705 = .ok (.iload 4, 2) := by decide +kernel
theorem dL_law_707 : decode cL_law 707 = .ok (.iconst 2, 1) := by decide +kernel
theorem dL_law_708 : decode cL_law 708 = .ok (.iadd, 1) := by decide +kernel
theorem dL_law_709 : decode cL_law 709 = .ok (.iaload, 1) := by decide +kernel
theorem dL_law_710 : decode cL_law 710 = .ok (.invokevirtual 133, 3) := by decide +kernel
theorem dL_law_713 : decode cL_law 713 = .ok (.istore 6, 2) := by decide +kernel
theorem dL_law_715 : decode cL_law 715 = .ok (.aload_n 2, 1) := by decide +kernel
theorem dL_law_716 : decode cL_law 716 = .ok (.invokevirtual 106, 3) := by decide +kernel
theorem dL_law_719 : decode cL_law 719 = .ok (.iload 5, 2) := by decide +kernel
theorem dL_law_721 : decode cL_law 721 = .ok (.if_icmp .eq 5, 3) := by decide +kernel
theorem dL_law_724 : decode cL_law 724 = .ok (.iconst 0, 1) := by decide +kernel
theorem dL_law_725 : decode cL_law 725 = .ok (.ireturn, 1) := by decide +kernel
theorem dL_law_726 : decode cL_law 726 = .ok (.iload 5, 2) := by decide +kernel
theorem dL_law_728 : decode cL_law 728 = .ok (.ifCond .ne 15, 3) := by decide +kernel
theorem dL_law_731 : decode cL_law 731 = .ok (.aload_n 3, 1) := by decide +kernel
theorem dL_law_732 : decode cL_law 732 = .ok (.iconst 0, 1) := by decide +kernel
theorem dL_law_733 : decode cL_law 733 = .ok (.laload, 1) := by decide +kernel
theorem dL_law_734 : decode cL_law 734 = .ok (.iload 6, 2) := by decide +kernel
theorem dL_law_736 : decode cL_law 736 = .ok (.i2l, 1) := by decide +kernel
theorem dL_law_737 : decode cL_law 737 = .ok (.lcmp, 1) := by decide +kernel
theorem dL_law_738 : decode cL_law 738 = .ok (.ifCond .eq 5, 3) := by decide +kernel
theorem dL_law_741 : decode cL_law 741 = .ok (.iconst 0, 1) := by decide +kernel
theorem dL_law_742 : decode cL_law 742 = .ok (.ireturn, 1) := by decide +kernel
theorem dL_law_743 : decode cL_law 743 = .ok (.goto 1580, 3) := by decide +kernel
theorem dL_law_746 : decode cL_law 746 = .ok (.aload_n 1, 1) := by decide +kernel
theorem dL_law_747 : decode cL_law 747 = .ok (.aload_n 0, 1) := by decide +kernel
theorem dL_law_748 : decode cL_law 748 = .ok (.iload 4, 2) := by decide +kernel
theorem dL_law_750 : decode cL_law 750 = .ok (.iconst 1, 1) := by decide +kernel
theorem dL_law_751 : decode cL_law 751 = .ok (.iadd, 1) := by decide +kernel
theorem dL_law_752 : decode cL_law 752 = .ok (.iaload, 1) := by decide +kernel
theorem dL_law_753 : decode cL_law 753 = .ok (.aload_n 0, 1) := by decide +kernel
theorem dL_law_754 : decode cL_law 754 = .ok (.iload 4, 2) := by decide +kernel
theorem dL_law_756 : decode cL_law 756 = .ok (.iconst 2, 1) := by decide +kernel
theorem dL_law_757 : decode cL_law 757 = .ok (.iadd, 1) := by decide +kernel
theorem dL_law_758 : decode cL_law 758 = .ok (.iaload, 1) := by decide +kernel
theorem dL_law_759 : decode cL_law 759 = .ok (.aload_n 3, 1) := by decide +kernel
theorem dL_law_760 : decode cL_law 760 = .ok (.invokestatic 134, 3) := by decide +kernel
theorem dL_law_763 : decode cL_law 763 = .ok (.istore 5, 2) := by decide +kernel
theorem dL_law_765 : decode cL_law 765 = .ok (.aload_n 2, 1) := by decide +kernel
theorem dL_law_766 : decode cL_law 766 = .ok (.aload_n 0, 1) := by decide +kernel
theorem dL_law_767 : decode cL_law 767 = .ok (.iload 4, 2) := by decide +kernel
theorem dL_law_769 : decode cL_law 769 = .ok (.iconst 1, 1) := by decide +kernel
theorem dL_law_770 : decode cL_law 770 = .ok (.iadd, 1) := by decide +kernel
theorem dL_law_771 : decode cL_law 771 = .ok (.iaload, 1) := by decide +kernel
theorem dL_law_772 : decode cL_law 772 = .ok (.aload_n 0, 1) := by decide +kernel
theorem dL_law_773 : decode cL_law 773 = .ok (.iload 4, 2) := by decide +kernel
theorem dL_law_775 : decode cL_law 775 = .ok (.iconst 2, 1) := by decide +kernel
theorem dL_law_776 : decode cL_law 776 = .ok (.iadd, 1) := by decide +kernel
theorem dL_law_777 : decode cL_law 777 = .ok (.iaload, 1) := by decide +kernel
theorem dL_law_778 : decode cL_law 778 = .ok (.invokevirtual 136, 3) := by decide +kernel
theorem dL_law_781 : decode cL_law 781 = .ok (.istore 6, 2) := by decide +kernel
theorem dL_law_783 : decode cL_law 783 = .ok (.aload_n 2, 1) := by decide +kernel
theorem dL_law_784 : decode cL_law 784 = .ok (.invokevirtual 106, 3) := by decide +kernel
theorem dL_law_787 : decode cL_law 787 = .ok (.iload 5, 2) := by decide +kernel
theorem dL_law_789 : decode cL_law 789 = .ok (.if_icmp .eq 5, 3) := by decide +kernel
theorem dL_law_792 : decode cL_law 792 = .ok (.iconst 0, 1) := by decide +kernel
theorem dL_law_793 : decode cL_law 793 = .ok (.ireturn, 1) := by decide +kernel
theorem dL_law_794 : decode cL_law 794 = .ok (.iload 5, 2) := by decide +kernel
theorem dL_law_796 : decode cL_law 796 = .ok (.ifCond .ne 15, 3) := by decide +kernel
theorem dL_law_799 : decode cL_law 799 = .ok (.aload_n 3, 1) := by decide +kernel
theorem dL_law_800 : decode cL_law 800 = .ok (.iconst 0, 1) := by decide +kernel
theorem dL_law_801 : decode cL_law 801 = .ok (.laload, 1) := by decide +kernel
theorem dL_law_802 : decode cL_law 802 = .ok (.iload 6, 2) := by decide +kernel
theorem dL_law_804 : decode cL_law 804 = .ok (.i2l, 1) := by decide +kernel
theorem dL_law_805 : decode cL_law 805 = .ok (.lcmp, 1) := by decide +kernel
theorem dL_law_806 : decode cL_law 806 = .ok (.ifCond .eq 5, 3) := by decide +kernel
theorem dL_law_809 : decode cL_law 809 = .ok (.iconst 0, 1) := by decide +kernel
theorem dL_law_810 : decode cL_law 810 = .ok (.ireturn, 1) := by decide +kernel
theorem dL_law_811 : decode cL_law 811 = .ok (.goto 1512, 3) := by decide +kernel
theorem dL_law_814 : decode cL_law 814 = .ok (.aload_n 1, 1) := by decide +kernel
theorem dL_law_815 : decode cL_law 815 = .ok (.aload_n 0, 1) := by decide +kernel
theorem dL_law_816 : decode cL_law 816 = .ok (.iload 4, 2) := by decide +kernel
theorem dL_law_818 : decode cL_law 818 = .ok (.iconst 1, 1) := by decide +kernel
theorem dL_law_819 : decode cL_law 819 = .ok (.iadd, 1) := by decide +kernel
theorem dL_law_820 : decode cL_law 820 = .ok (.iaload, 1) := by decide +kernel
theorem dL_law_821 : decode cL_law 821 = .ok (.aload_n 0, 1) := by decide +kernel
theorem dL_law_822 : decode cL_law 822 = .ok (.iload 4, 2) := by decide +kernel
theorem dL_law_824 : decode cL_law 824 = .ok (.iconst 2, 1) := by decide +kernel
theorem dL_law_825 : decode cL_law 825 = .ok (.iadd, 1) := by decide +kernel
theorem dL_law_826 : decode cL_law 826 = .ok (.iaload, 1) := by decide +kernel
theorem dL_law_827 : decode cL_law 827 = .ok (.ifCond .eq 7, 3) := by decide +kernel
theorem dL_law_830 : decode cL_law 830 = .ok (.iconst 1, 1) := by decide +kernel
theorem dL_law_831 : decode cL_law 831 = .ok (.goto 4, 3) := by decide +kernel
theorem dL_law_834 : decode cL_law 834 = .ok (.iconst 0, 1) := by decide +kernel
theorem dL_law_835 : decode cL_law 835 = .ok (.aload_n 0, 1) := by decide +kernel
theorem dL_law_836 : decode cL_law 836 = .ok (.iload 4, 2) := by decide +kernel
theorem dL_law_838 : decode cL_law 838 = .ok (.iconst 3, 1) := by decide +kernel
theorem dL_law_839 : decode cL_law 839 = .ok (.iadd, 1) := by decide +kernel
theorem dL_law_840 : decode cL_law 840 = .ok (.iaload, 1) := by decide +kernel
theorem dL_law_841 : decode cL_law 841 = .ok (.aload_n 0, 1) := by decide +kernel
theorem dL_law_842 : decode cL_law 842 = .ok (.iload 4, 2) := by decide +kernel
theorem dL_law_844 : decode cL_law 844 = .ok (.iconst 4, 1) := by decide +kernel
theorem dL_law_845 : decode cL_law 845 = .ok (.iadd, 1) := by decide +kernel
theorem dL_law_846 : decode cL_law 846 = .ok (.iaload, 1) := by decide +kernel
theorem dL_law_847 : decode cL_law 847 = .ok (.aload_n 3, 1) := by decide +kernel
theorem dL_law_848 : decode cL_law 848 = .ok (.invokestatic 137, 3) := by decide +kernel
theorem dL_law_851 : decode cL_law 851 = .ok (.istore 5, 2) := by decide +kernel
theorem dL_law_853 : decode cL_law 853 = .ok (.aload_n 2, 1) := by decide +kernel
theorem dL_law_854 : decode cL_law 854 = .ok (.aload_n 0, 1) := by decide +kernel
theorem dL_law_855 : decode cL_law 855 = .ok (.iload 4, 2) := by decide +kernel
theorem dL_law_857 : decode cL_law 857 = .ok (.iconst 1, 1) := by decide +kernel
theorem dL_law_858 : decode cL_law 858 = .ok (.iadd, 1) := by decide +kernel
theorem dL_law_859 : decode cL_law 859 = .ok (.iaload, 1) := by decide +kernel
theorem dL_law_860 : decode cL_law 860 = .ok (.aload_n 0, 1) := by decide +kernel
theorem dL_law_861 : decode cL_law 861 = .ok (.iload 4, 2) := by decide +kernel
theorem dL_law_863 : decode cL_law 863 = .ok (.iconst 2, 1) := by decide +kernel
theorem dL_law_864 : decode cL_law 864 = .ok (.iadd, 1) := by decide +kernel
theorem dL_law_865 : decode cL_law 865 = .ok (.iaload, 1) := by decide +kernel
theorem dL_law_866 : decode cL_law 866 = .ok (.ifCond .eq 7, 3) := by decide +kernel
theorem dL_law_869 : decode cL_law 869 = .ok (.iconst 1, 1) := by decide +kernel
theorem dL_law_870 : decode cL_law 870 = .ok (.goto 4, 3) := by decide +kernel
theorem dL_law_873 : decode cL_law 873 = .ok (.iconst 0, 1) := by decide +kernel
theorem dL_law_874 : decode cL_law 874 = .ok (.aload_n 0, 1) := by decide +kernel
theorem dL_law_875 : decode cL_law 875 = .ok (.iload 4, 2) := by decide +kernel
theorem dL_law_877 : decode cL_law 877 = .ok (.iconst 3, 1) := by decide +kernel
theorem dL_law_878 : decode cL_law 878 = .ok (.iadd, 1) := by decide +kernel
theorem dL_law_879 : decode cL_law 879 = .ok (.iaload, 1) := by decide +kernel
theorem dL_law_880 : decode cL_law 880 = .ok (.aload_n 0, 1) := by decide +kernel
theorem dL_law_881 : decode cL_law 881 = .ok (.iload 4, 2) := by decide +kernel
theorem dL_law_883 : decode cL_law 883 = .ok (.iconst 4, 1) := by decide +kernel
theorem dL_law_884 : decode cL_law 884 = .ok (.iadd, 1) := by decide +kernel
theorem dL_law_885 : decode cL_law 885 = .ok (.iaload, 1) := by decide +kernel
theorem dL_law_886 : decode cL_law 886 = .ok (.invokevirtual 140, 3) := by decide +kernel
theorem dL_law_889 : decode cL_law 889 = .ok (.istore 6, 2) := by decide +kernel
theorem dL_law_891 : decode cL_law 891 = .ok (.aload_n 2, 1) := by decide +kernel
theorem dL_law_892 : decode cL_law 892 = .ok (.invokevirtual 106, 3) := by decide +kernel
theorem dL_law_895 : decode cL_law 895 = .ok (.iload 5, 2) := by decide +kernel
theorem dL_law_897 : decode cL_law 897 = .ok (.if_icmp .eq 5, 3) := by decide +kernel
theorem dL_law_900 : decode cL_law 900 = .ok (.iconst 0, 1) := by decide +kernel
theorem dL_law_901 : decode cL_law 901 = .ok (.ireturn, 1) := by decide +kernel
theorem dL_law_902 : decode cL_law 902 = .ok (.iload 5, 2) := by decide +kernel
theorem dL_law_904 : decode cL_law 904 = .ok (.ifCond .ne 15, 3) := by decide +kernel
theorem dL_law_907 : decode cL_law 907 = .ok (.aload_n 3, 1) := by decide +kernel
theorem dL_law_908 : decode cL_law 908 = .ok (.iconst 0, 1) := by decide +kernel
theorem dL_law_909 : decode cL_law 909 = .ok (.laload, 1) := by decide +kernel
theorem dL_law_910 : decode cL_law 910 = .ok (.iload 6, 2) := by decide +kernel
theorem dL_law_912 : decode cL_law 912 = .ok (.i2l, 1) := by decide +kernel
theorem dL_law_913 : decode cL_law 913 = .ok (.lcmp, 1) := by decide +kernel
theorem dL_law_914 : decode cL_law 914 = .ok (.ifCond .eq 5, 3) := by decide +kernel
theorem dL_law_917 : decode cL_law 917 = .ok (.iconst 0, 1) := by decide +kernel
theorem dL_law_918 : decode cL_law 918 = .ok (.ireturn, 1) := by decide +kernel
theorem dL_law_919 : decode cL_law 919 = .ok (.goto 1404, 3) := by decide +kernel
theorem dL_law_922 : decode cL_law 922 = .ok (.aload_n 1, 1) := by decide +kernel
theorem dL_law_923 : decode cL_law 923 = .ok (.aload_n 0, 1) := by decide +kernel
theorem dL_law_924 : decode cL_law 924 = .ok (.iload 4, 2) := by decide +kernel
theorem dL_law_926 : decode cL_law 926 = .ok (.iconst 1, 1) := by decide +kernel
theorem dL_law_927 : decode cL_law 927 = .ok (.iadd, 1) := by decide +kernel
theorem dL_law_928 : decode cL_law 928 = .ok (.iaload, 1) := by decide +kernel
theorem dL_law_929 : decode cL_law 929 = .ok (.aload_n 0, 1) := by decide +kernel
theorem dL_law_930 : decode cL_law 930 = .ok (.iload 4, 2) := by decide +kernel
theorem dL_law_932 : decode cL_law 932 = .ok (.iconst 2, 1) := by decide +kernel
theorem dL_law_933 : decode cL_law 933 = .ok (.iadd, 1) := by decide +kernel
theorem dL_law_934 : decode cL_law 934 = .ok (.iaload, 1) := by decide +kernel
theorem dL_law_935 : decode cL_law 935 = .ok (.aload_n 0, 1) := by decide +kernel
theorem dL_law_936 : decode cL_law 936 = .ok (.iload 4, 2) := by decide +kernel
theorem dL_law_938 : decode cL_law 938 = .ok (.iconst 3, 1) := by decide +kernel
theorem dL_law_939 : decode cL_law 939 = .ok (.iadd, 1) := by decide +kernel
theorem dL_law_940 : decode cL_law 940 = .ok (.iaload, 1) := by decide +kernel
theorem dL_law_941 : decode cL_law 941 = .ok (.aload_n 3, 1) := by decide +kernel
theorem dL_law_942 : decode cL_law 942 = .ok (.invokestatic 141, 3) := by decide +kernel
theorem dL_law_945 : decode cL_law 945 = .ok (.istore 5, 2) := by decide +kernel
theorem dL_law_947 : decode cL_law 947 = .ok (.aload_n 2, 1) := by decide +kernel
theorem dL_law_948 : decode cL_law 948 = .ok (.aload_n 0, 1) := by decide +kernel
theorem dL_law_949 : decode cL_law 949 = .ok (.iload 4, 2) := by decide +kernel
theorem dL_law_951 : decode cL_law 951 = .ok (.iconst 1, 1) := by decide +kernel
theorem dL_law_952 : decode cL_law 952 = .ok (.iadd, 1) := by decide +kernel
theorem dL_law_953 : decode cL_law 953 = .ok (.iaload, 1) := by decide +kernel
theorem dL_law_954 : decode cL_law 954 = .ok (.aload_n 0, 1) := by decide +kernel
theorem dL_law_955 : decode cL_law 955 = .ok (.iload 4, 2) := by decide +kernel
theorem dL_law_957 : decode cL_law 957 = .ok (.iconst 2, 1) := by decide +kernel
theorem dL_law_958 : decode cL_law 958 = .ok (.iadd, 1) := by decide +kernel
theorem dL_law_959 : decode cL_law 959 = .ok (.iaload, 1) := by decide +kernel
theorem dL_law_960 : decode cL_law 960 = .ok (.aload_n 0, 1) := by decide +kernel
theorem dL_law_961 : decode cL_law 961 = .ok (.iload 4, 2) := by decide +kernel
theorem dL_law_963 : decode cL_law 963 = .ok (.iconst 3, 1) := by decide +kernel
theorem dL_law_964 : decode cL_law 964 = .ok (.iadd, 1) := by decide +kernel
theorem dL_law_965 : decode cL_law 965 = .ok (.iaload, 1) := by decide +kernel
theorem dL_law_966 : decode cL_law 966 = .ok (.invokevirtual 143, 3) := by decide +kernel
theorem dL_law_969 : decode cL_law 969 = .ok (.istore 6, 2) := by decide +kernel
theorem dL_law_971 : decode cL_law 971 = .ok (.aload_n 2, 1) := by decide +kernel
theorem dL_law_972 : decode cL_law 972 = .ok (.invokevirtual 106, 3) := by decide +kernel
theorem dL_law_975 : decode cL_law 975 = .ok (.iload 5, 2) := by decide +kernel
theorem dL_law_977 : decode cL_law 977 = .ok (.if_icmp .eq 5, 3) := by decide +kernel
theorem dL_law_980 : decode cL_law 980 = .ok (.iconst 0, 1) := by decide +kernel
theorem dL_law_981 : decode cL_law 981 = .ok (.ireturn, 1) := by decide +kernel
theorem dL_law_982 : decode cL_law 982 = .ok (.iload 5, 2) := by decide +kernel
theorem dL_law_984 : decode cL_law 984 = .ok (.ifCond .ne 15, 3) := by decide +kernel
theorem dL_law_987 : decode cL_law 987 = .ok (.aload_n 3, 1) := by decide +kernel
theorem dL_law_988 : decode cL_law 988 = .ok (.iconst 0, 1) := by decide +kernel
theorem dL_law_989 : decode cL_law 989 = .ok (.laload, 1) := by decide +kernel
theorem dL_law_990 : decode cL_law 990 = .ok (.iload 6, 2) := by decide +kernel
theorem dL_law_992 : decode cL_law 992 = .ok (.i2l, 1) := by decide +kernel
theorem dL_law_993 : decode cL_law 993 = .ok (.lcmp, 1) := by decide +kernel
theorem dL_law_994 : decode cL_law 994 = .ok (.ifCond .eq 5, 3) := by decide +kernel
theorem dL_law_997 : decode cL_law 997 = .ok (.iconst 0, 1) := by decide +kernel
theorem dL_law_998 : decode cL_law 998 = .ok (.ireturn, 1) := by decide +kernel
theorem dL_law_999 : decode cL_law 999 = .ok (.goto 1324, 3) := by decide +kernel
theorem dL_law_1002 : decode cL_law 1002 = .ok (.aload_n 1, 1) := by decide +kernel
theorem dL_law_1003 : decode cL_law 1003 = .ok (.aload_n 0, 1) := by decide +kernel
theorem dL_law_1004 : decode cL_law 1004 = .ok (.iload 4, 2) := by decide +kernel
theorem dL_law_1006 : decode cL_law 1006 = .ok (.iconst 1, 1) := by decide +kernel
theorem dL_law_1007 : decode cL_law 1007 = .ok (.iadd, 1) := by decide +kernel
theorem dL_law_1008 : decode cL_law 1008 = .ok (.iaload, 1) := by decide +kernel
theorem dL_law_1009 : decode cL_law 1009 = .ok (.aload_n 0, 1) := by decide +kernel
theorem dL_law_1010 : decode cL_law 1010 = .ok (.iload 4, 2) := by decide +kernel
theorem dL_law_1012 : decode cL_law 1012 = .ok (.iconst 2, 1) := by decide +kernel
theorem dL_law_1013 : decode cL_law 1013 = .ok (.iadd, 1) := by decide +kernel
theorem dL_law_1014 : decode cL_law 1014 = .ok (.iaload, 1) := by decide +kernel
theorem dL_law_1015 : decode cL_law 1015 = .ok (.aload_n 0, 1) := by decide +kernel
theorem dL_law_1016 : decode cL_law 1016 = .ok (.iload 4, 2) := by decide +kernel
theorem dL_law_1018 : decode cL_law 1018 = .ok (.iconst 3, 1) := by decide +kernel
theorem dL_law_1019 : decode cL_law 1019 = .ok (.iadd, 1) := by decide +kernel
theorem dL_law_1020 : decode cL_law 1020 = .ok (.iaload, 1) := by decide +kernel
theorem dL_law_1021 : decode cL_law 1021 = .ok (.aload_n 0, 1) := by decide +kernel
theorem dL_law_1022 : decode cL_law 1022 = .ok (.iload 4, 2) := by decide +kernel
theorem dL_law_1024 : decode cL_law 1024 = .ok (.iconst 4, 1) := by decide +kernel
theorem dL_law_1025 : decode cL_law 1025 = .ok (.iadd, 1) := by decide +kernel
theorem dL_law_1026 : decode cL_law 1026 = .ok (.iaload, 1) := by decide +kernel
theorem dL_law_1027 : decode cL_law 1027 = .ok (.aload_n 3, 1) := by decide +kernel
theorem dL_law_1028 : decode cL_law 1028 = .ok (.invokestatic 144, 3) := by decide +kernel
theorem dL_law_1031 : decode cL_law 1031 = .ok (.istore 5, 2) := by decide +kernel
theorem dL_law_1033 : decode cL_law 1033 = .ok (.aload_n 2, 1) := by decide +kernel
theorem dL_law_1034 : decode cL_law 1034 = .ok (.aload_n 0, 1) := by decide +kernel
theorem dL_law_1035 : decode cL_law 1035 = .ok (.iload 4, 2) := by decide +kernel
theorem dL_law_1037 : decode cL_law 1037 = .ok (.iconst 1, 1) := by decide +kernel
theorem dL_law_1038 : decode cL_law 1038 = .ok (.iadd, 1) := by decide +kernel
theorem dL_law_1039 : decode cL_law 1039 = .ok (.iaload, 1) := by decide +kernel
theorem dL_law_1040 : decode cL_law 1040 = .ok (.aload_n 0, 1) := by decide +kernel
theorem dL_law_1041 : decode cL_law 1041 = .ok (.iload 4, 2) := by decide +kernel
theorem dL_law_1043 : decode cL_law 1043 = .ok (.iconst 2, 1) := by decide +kernel
theorem dL_law_1044 : decode cL_law 1044 = .ok (.iadd, 1) := by decide +kernel
theorem dL_law_1045 : decode cL_law 1045 = .ok (.iaload, 1) := by decide +kernel
theorem dL_law_1046 : decode cL_law 1046 = .ok (.aload_n 0, 1) := by decide +kernel
theorem dL_law_1047 : decode cL_law 1047 = .ok (.iload 4, 2) := by decide +kernel
theorem dL_law_1049 : decode cL_law 1049 = .ok (.iconst 3, 1) := by decide +kernel
theorem dL_law_1050 : decode cL_law 1050 = .ok (.iadd, 1) := by decide +kernel
theorem dL_law_1051 : decode cL_law 1051 = .ok (.iaload, 1) := by decide +kernel
theorem dL_law_1052 : decode cL_law 1052 = .ok (.aload_n 0, 1) := by decide +kernel
theorem dL_law_1053 : decode cL_law 1053 = .ok (.iload 4, 2) := by decide +kernel
theorem dL_law_1055 : decode cL_law 1055 = .ok (.iconst 4, 1) := by decide +kernel
theorem dL_law_1056 : decode cL_law 1056 = .ok (.iadd, 1) := by decide +kernel
theorem dL_law_1057 : decode cL_law 1057 = .ok (.iaload, 1) := by decide +kernel
theorem dL_law_1058 : decode cL_law 1058 = .ok (.invokevirtual 147, 3) := by decide +kernel
theorem dL_law_1061 : decode cL_law 1061 = .ok (.istore 6, 2) := by decide +kernel
theorem dL_law_1063 : decode cL_law 1063 = .ok (.aload_n 2, 1) := by decide +kernel
theorem dL_law_1064 : decode cL_law 1064 = .ok (.invokevirtual 106, 3) := by decide +kernel
theorem dL_law_1067 : decode cL_law 1067 = .ok (.iload 5, 2) := by decide +kernel
theorem dL_law_1069 : decode cL_law 1069 = .ok (.if_icmp .eq 5, 3) := by decide +kernel
theorem dL_law_1072 : decode cL_law 1072 = .ok (.iconst 0, 1) := by decide +kernel
theorem dL_law_1073 : decode cL_law 1073 = .ok (.ireturn, 1) := by decide +kernel
theorem dL_law_1074 : decode cL_law 1074 = .ok (.iload 5, 2) := by decide +kernel
theorem dL_law_1076 : decode cL_law 1076 = .ok (.ifCond .ne 15, 3) := by decide +kernel
theorem dL_law_1079 : decode cL_law 1079 = .ok (.aload_n 3, 1) := by decide +kernel
theorem dL_law_1080 : decode cL_law 1080 = .ok (.iconst 0, 1) := by decide +kernel
theorem dL_law_1081 : decode cL_law 1081 = .ok (.laload, 1) := by decide +kernel
theorem dL_law_1082 : decode cL_law 1082 = .ok (.iload 6, 2) := by decide +kernel
theorem dL_law_1084 : decode cL_law 1084 = .ok (.i2l, 1) := by decide +kernel
theorem dL_law_1085 : decode cL_law 1085 = .ok (.lcmp, 1) := by decide +kernel
theorem dL_law_1086 : decode cL_law 1086 = .ok (.ifCond .eq 5, 3) := by decide +kernel
theorem dL_law_1089 : decode cL_law 1089 = .ok (.iconst 0, 1) := by decide +kernel
theorem dL_law_1090 : decode cL_law 1090 = .ok (.ireturn, 1) := by decide +kernel
theorem dL_law_1091 : decode cL_law 1091 = .ok (.goto 1232, 3) := by decide +kernel
theorem dL_law_1094 : decode cL_law 1094 = .ok (.aload_n 1, 1) := by decide +kernel
theorem dL_law_1095 : decode cL_law 1095 = .ok (.aload_n 0, 1) := by decide +kernel
theorem dL_law_1096 : decode cL_law 1096 = .ok (.iload 4, 2) := by decide +kernel
theorem dL_law_1098 : decode cL_law 1098 = .ok (.iconst 1, 1) := by decide +kernel
theorem dL_law_1099 : decode cL_law 1099 = .ok (.iadd, 1) := by decide +kernel
theorem dL_law_1100 : decode cL_law 1100 = .ok (.iaload, 1) := by decide +kernel
theorem dL_law_1101 : decode cL_law 1101 = .ok (.aload_n 0, 1) := by decide +kernel
theorem dL_law_1102 : decode cL_law 1102 = .ok (.iload 4, 2) := by decide +kernel
theorem dL_law_1104 : decode cL_law 1104 = .ok (.iconst 2, 1) := by decide +kernel
theorem dL_law_1105 : decode cL_law 1105 = .ok (.iadd, 1) := by decide +kernel
theorem dL_law_1106 : decode cL_law 1106 = .ok (.iaload, 1) := by decide +kernel
theorem dL_law_1107 : decode cL_law 1107 = .ok (.aload_n 0, 1) := by decide +kernel
theorem dL_law_1108 : decode cL_law 1108 = .ok (.iload 4, 2) := by decide +kernel
theorem dL_law_1110 : decode cL_law 1110 = .ok (.iconst 3, 1) := by decide +kernel
theorem dL_law_1111 : decode cL_law 1111 = .ok (.iadd, 1) := by decide +kernel
theorem dL_law_1112 : decode cL_law 1112 = .ok (.iaload, 1) := by decide +kernel
theorem dL_law_1113 : decode cL_law 1113 = .ok (.aload_n 0, 1) := by decide +kernel
theorem dL_law_1114 : decode cL_law 1114 = .ok (.iload 4, 2) := by decide +kernel
theorem dL_law_1116 : decode cL_law 1116 = .ok (.iconst 4, 1) := by decide +kernel
theorem dL_law_1117 : decode cL_law 1117 = .ok (.iadd, 1) := by decide +kernel
theorem dL_law_1118 : decode cL_law 1118 = .ok (.iaload, 1) := by decide +kernel
theorem dL_law_1119 : decode cL_law 1119 = .ok (.aload_n 3, 1) := by decide +kernel
theorem dL_law_1120 : decode cL_law 1120 = .ok (.invokestatic 148, 3) := by decide +kernel
theorem dL_law_1123 : decode cL_law 1123 = .ok (.istore 5, 2) := by decide +kernel
theorem dL_law_1125 : decode cL_law 1125 = .ok (.aload_n 2, 1) := by decide +kernel
theorem dL_law_1126 : decode cL_law 1126 = .ok (.aload_n 0, 1) := by decide +kernel
theorem dL_law_1127 : decode cL_law 1127 = .ok (.iload 4, 2) := by decide +kernel
theorem dL_law_1129 : decode cL_law 1129 = .ok (.iconst 1, 1) := by decide +kernel
theorem dL_law_1130 : decode cL_law 1130 = .ok (.iadd, 1) := by decide +kernel
theorem dL_law_1131 : decode cL_law 1131 = .ok (.iaload, 1) := by decide +kernel
theorem dL_law_1132 : decode cL_law 1132 = .ok (.aload_n 0, 1) := by decide +kernel
theorem dL_law_1133 : decode cL_law 1133 = .ok (.iload 4, 2) := by decide +kernel
theorem dL_law_1135 : decode cL_law 1135 = .ok (.iconst 2, 1) := by decide +kernel
theorem dL_law_1136 : decode cL_law 1136 = .ok (.iadd, 1) := by decide +kernel
theorem dL_law_1137 : decode cL_law 1137 = .ok (.iaload, 1) := by decide +kernel
theorem dL_law_1138 : decode cL_law 1138 = .ok (.aload_n 0, 1) := by decide +kernel
theorem dL_law_1139 : decode cL_law 1139 = .ok (.iload 4, 2) := by decide +kernel
theorem dL_law_1141 : decode cL_law 1141 = .ok (.iconst 3, 1) := by decide +kernel
theorem dL_law_1142 : decode cL_law 1142 = .ok (.iadd, 1) := by decide +kernel
theorem dL_law_1143 : decode cL_law 1143 = .ok (.iaload, 1) := by decide +kernel
theorem dL_law_1144 : decode cL_law 1144 = .ok (.aload_n 0, 1) := by decide +kernel
theorem dL_law_1145 : decode cL_law 1145 = .ok (.iload 4, 2) := by decide +kernel
theorem dL_law_1147 : decode cL_law 1147 = .ok (.iconst 4, 1) := by decide +kernel
theorem dL_law_1148 : decode cL_law 1148 = .ok (.iadd, 1) := by decide +kernel
theorem dL_law_1149 : decode cL_law 1149 = .ok (.iaload, 1) := by decide +kernel
theorem dL_law_1150 : decode cL_law 1150 = .ok (.invokevirtual 150, 3) := by decide +kernel
theorem dL_law_1153 : decode cL_law 1153 = .ok (.istore 6, 2) := by decide +kernel
theorem dL_law_1155 : decode cL_law 1155 = .ok (.aload_n 2, 1) := by decide +kernel
theorem dL_law_1156 : decode cL_law 1156 = .ok (.invokevirtual 106, 3) := by decide +kernel
theorem dL_law_1159 : decode cL_law 1159 = .ok (.iload 5, 2) := by decide +kernel
theorem dL_law_1161 : decode cL_law 1161 = .ok (.if_icmp .eq 5, 3) := by decide +kernel
theorem dL_law_1164 : decode cL_law 1164 = .ok (.iconst 0, 1) := by decide +kernel
theorem dL_law_1165 : decode cL_law 1165 = .ok (.ireturn, 1) := by decide +kernel
theorem dL_law_1166 : decode cL_law 1166 = .ok (.iload 5, 2) := by decide +kernel
theorem dL_law_1168 : decode cL_law 1168 = .ok (.ifCond .ne 15, 3) := by decide +kernel
theorem dL_law_1171 : decode cL_law 1171 = .ok (.aload_n 3, 1) := by decide +kernel
theorem dL_law_1172 : decode cL_law 1172 = .ok (.iconst 0, 1) := by decide +kernel
theorem dL_law_1173 : decode cL_law 1173 = .ok (.laload, 1) := by decide +kernel
theorem dL_law_1174 : decode cL_law 1174 = .ok (.iload 6, 2) := by decide +kernel
theorem dL_law_1176 : decode cL_law 1176 = .ok (.i2l, 1) := by decide +kernel
theorem dL_law_1177 : decode cL_law 1177 = .ok (.lcmp, 1) := by decide +kernel
theorem dL_law_1178 : decode cL_law 1178 = .ok (.ifCond .eq 5, 3) := by decide +kernel
theorem dL_law_1181 : decode cL_law 1181 = .ok (.iconst 0, 1) := by decide +kernel
theorem dL_law_1182 : decode cL_law 1182 = .ok (.ireturn, 1) := by decide +kernel
theorem dL_law_1183 : decode cL_law 1183 = .ok (.goto 1140, 3) := by decide +kernel
theorem dL_law_1186 : decode cL_law 1186 = .ok (.aload_n 1, 1) := by decide +kernel
theorem dL_law_1187 : decode cL_law 1187 = .ok (.aload_n 0, 1) := by decide +kernel
theorem dL_law_1188 : decode cL_law 1188 = .ok (.iload 4, 2) := by decide +kernel
theorem dL_law_1190 : decode cL_law 1190 = .ok (.iconst 1, 1) := by decide +kernel
theorem dL_law_1191 : decode cL_law 1191 = .ok (.iadd, 1) := by decide +kernel
theorem dL_law_1192 : decode cL_law 1192 = .ok (.iaload, 1) := by decide +kernel
theorem dL_law_1193 : decode cL_law 1193 = .ok (.aload_n 0, 1) := by decide +kernel
theorem dL_law_1194 : decode cL_law 1194 = .ok (.iload 4, 2) := by decide +kernel
theorem dL_law_1196 : decode cL_law 1196 = .ok (.iconst 2, 1) := by decide +kernel
theorem dL_law_1197 : decode cL_law 1197 = .ok (.iadd, 1) := by decide +kernel
theorem dL_law_1198 : decode cL_law 1198 = .ok (.iaload, 1) := by decide +kernel
theorem dL_law_1199 : decode cL_law 1199 = .ok (.aload_n 3, 1) := by decide +kernel
theorem dL_law_1200 : decode cL_law 1200 = .ok (.invokestatic 151, 3) := by decide +kernel
theorem dL_law_1203 : decode cL_law 1203 = .ok (.istore 5, 2) := by decide +kernel
theorem dL_law_1205 : decode cL_law 1205 = .ok (.aload_n 2, 1) := by decide +kernel
theorem dL_law_1206 : decode cL_law 1206 = .ok (.aload_n 0, 1) := by decide +kernel
theorem dL_law_1207 : decode cL_law 1207 = .ok (.iload 4, 2) := by decide +kernel
theorem dL_law_1209 : decode cL_law 1209 = .ok (.iconst 1, 1) := by decide +kernel
theorem dL_law_1210 : decode cL_law 1210 = .ok (.iadd, 1) := by decide +kernel
theorem dL_law_1211 : decode cL_law 1211 = .ok (.iaload, 1) := by decide +kernel
theorem dL_law_1212 : decode cL_law 1212 = .ok (.aload_n 0, 1) := by decide +kernel
theorem dL_law_1213 : decode cL_law 1213 = .ok (.iload 4, 2) := by decide +kernel
theorem dL_law_1215 : decode cL_law 1215 = .ok (.iconst 2, 1) := by decide +kernel
theorem dL_law_1216 : decode cL_law 1216 = .ok (.iadd, 1) := by decide +kernel
theorem dL_law_1217 : decode cL_law 1217 = .ok (.iaload, 1) := by decide +kernel
theorem dL_law_1218 : decode cL_law 1218 = .ok (.invokevirtual 153, 3) := by decide +kernel
theorem dL_law_1221 : decode cL_law 1221 = .ok (.istore 6, 2) := by decide +kernel
theorem dL_law_1223 : decode cL_law 1223 = .ok (.aload_n 2, 1) := by decide +kernel
theorem dL_law_1224 : decode cL_law 1224 = .ok (.invokevirtual 106, 3) := by decide +kernel
theorem dL_law_1227 : decode cL_law 1227 = .ok (.iload 5, 2) := by decide +kernel
theorem dL_law_1229 : decode cL_law 1229 = .ok (.if_icmp .eq 5, 3) := by decide +kernel
theorem dL_law_1232 : decode cL_law 1232 = .ok (.iconst 0, 1) := by decide +kernel
theorem dL_law_1233 : decode cL_law 1233 = .ok (.ireturn, 1) := by decide +kernel
theorem dL_law_1234 : decode cL_law 1234 = .ok (.iload 5, 2) := by decide +kernel
theorem dL_law_1236 : decode cL_law 1236 = .ok (.ifCond .ne 15, 3) := by decide +kernel
theorem dL_law_1239 : decode cL_law 1239 = .ok (.aload_n 3, 1) := by decide +kernel
theorem dL_law_1240 : decode cL_law 1240 = .ok (.iconst 0, 1) := by decide +kernel
theorem dL_law_1241 : decode cL_law 1241 = .ok (.laload, 1) := by decide +kernel
theorem dL_law_1242 : decode cL_law 1242 = .ok (.iload 6, 2) := by decide +kernel
theorem dL_law_1244 : decode cL_law 1244 = .ok (.i2l, 1) := by decide +kernel
theorem dL_law_1245 : decode cL_law 1245 = .ok (.lcmp, 1) := by decide +kernel
theorem dL_law_1246 : decode cL_law 1246 = .ok (.ifCond .eq 5, 3) := by decide +kernel
theorem dL_law_1249 : decode cL_law 1249 = .ok (.iconst 0, 1) := by decide +kernel
theorem dL_law_1250 : decode cL_law 1250 = .ok (.ireturn, 1) := by decide +kernel
theorem dL_law_1251 : decode cL_law 1251 = .ok (.goto 1072, 3) := by decide +kernel
theorem dL_law_1254 : decode cL_law 1254 = .ok (.aload_n 1, 1) := by decide +kernel
theorem dL_law_1255 : decode cL_law 1255 = .ok (.aload_n 0, 1) := by decide +kernel
theorem dL_law_1256 : decode cL_law 1256 = .ok (.iload 4, 2) := by decide +kernel
theorem dL_law_1258 : decode cL_law 1258 = .ok (.iconst 1, 1) := by decide +kernel
theorem dL_law_1259 : decode cL_law 1259 = .ok (.iadd, 1) := by decide +kernel
theorem dL_law_1260 : decode cL_law 1260 = .ok (.iaload, 1) := by decide +kernel
theorem dL_law_1261 : decode cL_law 1261 = .ok (.aload_n 0, 1) := by decide +kernel
theorem dL_law_1262 : decode cL_law 1262 = .ok (.iload 4, 2) := by decide +kernel
theorem dL_law_1264 : decode cL_law 1264 = .ok (.iconst 2, 1) := by decide +kernel
theorem dL_law_1265 : decode cL_law 1265 = .ok (.iadd, 1) := by decide +kernel
theorem dL_law_1266 : decode cL_law 1266 = .ok (.iaload, 1) := by decide +kernel
theorem dL_law_1267 : decode cL_law 1267 = .ok (.aload_n 0, 1) := by decide +kernel
theorem dL_law_1268 : decode cL_law 1268 = .ok (.iload 4, 2) := by decide +kernel
theorem dL_law_1270 : decode cL_law 1270 = .ok (.iconst 3, 1) := by decide +kernel
theorem dL_law_1271 : decode cL_law 1271 = .ok (.iadd, 1) := by decide +kernel
theorem dL_law_1272 : decode cL_law 1272 = .ok (.iaload, 1) := by decide +kernel
theorem dL_law_1273 : decode cL_law 1273 = .ok (.aload_n 0, 1) := by decide +kernel
theorem dL_law_1274 : decode cL_law 1274 = .ok (.iload 4, 2) := by decide +kernel
theorem dL_law_1276 : decode cL_law 1276 = .ok (.iconst 4, 1) := by decide +kernel
theorem dL_law_1277 : decode cL_law 1277 = .ok (.iadd, 1) := by decide +kernel
theorem dL_law_1278 : decode cL_law 1278 = .ok (.iaload, 1) := by decide +kernel
theorem dL_law_1279 : decode cL_law 1279 = .ok (.ifCond .eq 7, 3) := by decide +kernel
theorem dL_law_1282 : decode cL_law 1282 = .ok (.iconst 1, 1) := by decide +kernel
theorem dL_law_1283 : decode cL_law 1283 = .ok (.goto 4, 3) := by decide +kernel
theorem dL_law_1286 : decode cL_law 1286 = .ok (.iconst 0, 1) := by decide +kernel
theorem dL_law_1287 : decode cL_law 1287 = .ok (.aload_n 3, 1) := by decide +kernel
theorem dL_law_1288 : decode cL_law 1288 = .ok (.invokestatic 154, 3) := by decide +kernel
theorem dL_law_1291 : decode cL_law 1291 = .ok (.istore 5, 2) := by decide +kernel
theorem dL_law_1293 : decode cL_law 1293 = .ok (.aload_n 2, 1) := by decide +kernel
theorem dL_law_1294 : decode cL_law 1294 = .ok (.aload_n 0, 1) := by decide +kernel
theorem dL_law_1295 : decode cL_law 1295 = .ok (.iload 4, 2) := by decide +kernel
theorem dL_law_1297 : decode cL_law 1297 = .ok (.iconst 1, 1) := by decide +kernel
theorem dL_law_1298 : decode cL_law 1298 = .ok (.iadd, 1) := by decide +kernel
theorem dL_law_1299 : decode cL_law 1299 = .ok (.iaload, 1) := by decide +kernel
theorem dL_law_1300 : decode cL_law 1300 = .ok (.aload_n 0, 1) := by decide +kernel
theorem dL_law_1301 : decode cL_law 1301 = .ok (.iload 4, 2) := by decide +kernel
theorem dL_law_1303 : decode cL_law 1303 = .ok (.iconst 2, 1) := by decide +kernel
theorem dL_law_1304 : decode cL_law 1304 = .ok (.iadd, 1) := by decide +kernel
theorem dL_law_1305 : decode cL_law 1305 = .ok (.iaload, 1) := by decide +kernel
theorem dL_law_1306 : decode cL_law 1306 = .ok (.aload_n 0, 1) := by decide +kernel
theorem dL_law_1307 : decode cL_law 1307 = .ok (.iload 4, 2) := by decide +kernel
theorem dL_law_1309 : decode cL_law 1309 = .ok (.iconst 3, 1) := by decide +kernel
theorem dL_law_1310 : decode cL_law 1310 = .ok (.iadd, 1) := by decide +kernel
theorem dL_law_1311 : decode cL_law 1311 = .ok (.iaload, 1) := by decide +kernel
theorem dL_law_1312 : decode cL_law 1312 = .ok (.aload_n 0, 1) := by decide +kernel
theorem dL_law_1313 : decode cL_law 1313 = .ok (.iload 4, 2) := by decide +kernel
theorem dL_law_1315 : decode cL_law 1315 = .ok (.iconst 4, 1) := by decide +kernel
theorem dL_law_1316 : decode cL_law 1316 = .ok (.iadd, 1) := by decide +kernel
theorem dL_law_1317 : decode cL_law 1317 = .ok (.iaload, 1) := by decide +kernel
theorem dL_law_1318 : decode cL_law 1318 = .ok (.ifCond .eq 7, 3) := by decide +kernel
theorem dL_law_1321 : decode cL_law 1321 = .ok (.iconst 1, 1) := by decide +kernel
theorem dL_law_1322 : decode cL_law 1322 = .ok (.goto 4, 3) := by decide +kernel
theorem dL_law_1325 : decode cL_law 1325 = .ok (.iconst 0, 1) := by decide +kernel
theorem dL_law_1326 : decode cL_law 1326 = .ok (.invokevirtual 157, 3) := by decide +kernel
theorem dL_law_1329 : decode cL_law 1329 = .ok (.istore 6, 2) := by decide +kernel
theorem dL_law_1331 : decode cL_law 1331 = .ok (.aload_n 2, 1) := by decide +kernel
theorem dL_law_1332 : decode cL_law 1332 = .ok (.invokevirtual 106, 3) := by decide +kernel
theorem dL_law_1335 : decode cL_law 1335 = .ok (.iload 5, 2) := by decide +kernel
theorem dL_law_1337 : decode cL_law 1337 = .ok (.if_icmp .eq 5, 3) := by decide +kernel
theorem dL_law_1340 : decode cL_law 1340 = .ok (.iconst 0, 1) := by decide +kernel
theorem dL_law_1341 : decode cL_law 1341 = .ok (.ireturn, 1) := by decide +kernel
theorem dL_law_1342 : decode cL_law 1342 = .ok (.iload 5, 2) := by decide +kernel
theorem dL_law_1344 : decode cL_law 1344 = .ok (.ifCond .ne 15, 3) := by decide +kernel
theorem dL_law_1347 : decode cL_law 1347 = .ok (.aload_n 3, 1) := by decide +kernel
theorem dL_law_1348 : decode cL_law 1348 = .ok (.iconst 0, 1) := by decide +kernel
theorem dL_law_1349 : decode cL_law 1349 = .ok (.laload, 1) := by decide +kernel
theorem dL_law_1350 : decode cL_law 1350 = .ok (.iload 6, 2) := by decide +kernel
theorem dL_law_1352 : decode cL_law 1352 = .ok (.i2l, 1) := by decide +kernel
theorem dL_law_1353 : decode cL_law 1353 = .ok (.lcmp, 1) := by decide +kernel
theorem dL_law_1354 : decode cL_law 1354 = .ok (.ifCond .eq 5, 3) := by decide +kernel
theorem dL_law_1357 : decode cL_law 1357 = .ok (.iconst 0, 1) := by decide +kernel
theorem dL_law_1358 : decode cL_law 1358 = .ok (.ireturn, 1) := by decide +kernel
theorem dL_law_1359 : decode cL_law 1359 = .ok (.goto 964, 3) := by decide +kernel
theorem dL_law_1362 : decode cL_law 1362 = .ok (.aload_n 1, 1) := by decide +kernel
theorem dL_law_1363 : decode cL_law 1363 = .ok (.aload_n 0, 1) := by decide +kernel
theorem dL_law_1364 : decode cL_law 1364 = .ok (.iload 4, 2) := by decide +kernel
theorem dL_law_1366 : decode cL_law 1366 = .ok (.iconst 1, 1) := by decide +kernel
theorem dL_law_1367 : decode cL_law 1367 = .ok (.iadd, 1) := by decide +kernel
theorem dL_law_1368 : decode cL_law 1368 = .ok (.iaload, 1) := by decide +kernel
theorem dL_law_1369 : decode cL_law 1369 = .ok (.invokevirtual 158, 3) := by decide +kernel
theorem dL_law_1372 : decode cL_law 1372 = .ok (.aload_n 2, 1) := by decide +kernel
theorem dL_law_1373 : decode cL_law 1373 = .ok (.aload_n 0, 1) := by decide +kernel
theorem dL_law_1374 : decode cL_law 1374 = .ok (.iload 4, 2) := by decide +kernel
theorem dL_law_1376 : decode cL_law 1376 = .ok (.iconst 1, 1) := by decide +kernel
theorem dL_law_1377 : decode cL_law 1377 = .ok (.iadd, 1) := by decide +kernel
theorem dL_law_1378 : decode cL_law 1378 = .ok (.iaload, 1) := by decide +kernel
theorem dL_law_1379 : decode cL_law 1379 = .ok (.invokevirtual 161, 3) := by decide +kernel
theorem dL_law_1382 : decode cL_law 1382 = .ok (.if_icmp .eq 941, 3) := by decide +kernel
theorem dL_law_1385 : decode cL_law 1385 = .ok (.iconst 0, 1) := by decide +kernel
theorem dL_law_1386 : decode cL_law 1386 = .ok (.ireturn, 1) := by decide +kernel
theorem dL_law_1387 : decode cL_law 1387 = .ok (.aload_n 1, 1) := by decide +kernel
theorem dL_law_1388 : decode cL_law 1388 = .ok (.aload_n 0, 1) := by decide +kernel
theorem dL_law_1389 : decode cL_law 1389 = .ok (.iload 4, 2) := by decide +kernel
theorem dL_law_1391 : decode cL_law 1391 = .ok (.iconst 1, 1) := by decide +kernel
theorem dL_law_1392 : decode cL_law 1392 = .ok (.iadd, 1) := by decide +kernel
theorem dL_law_1393 : decode cL_law 1393 = .ok (.iaload, 1) := by decide +kernel
theorem dL_law_1394 : decode cL_law 1394 = .ok (.invokevirtual 162, 3) := by decide +kernel
theorem dL_law_1397 : decode cL_law 1397 = .ok (.aload_n 2, 1) := by decide +kernel
theorem dL_law_1398 : decode cL_law 1398 = .ok (.aload_n 0, 1) := by decide +kernel
theorem dL_law_1399 : decode cL_law 1399 = .ok (.iload 4, 2) := by decide +kernel
theorem dL_law_1401 : decode cL_law 1401 = .ok (.iconst 1, 1) := by decide +kernel
theorem dL_law_1402 : decode cL_law 1402 = .ok (.iadd, 1) := by decide +kernel
theorem dL_law_1403 : decode cL_law 1403 = .ok (.iaload, 1) := by decide +kernel
theorem dL_law_1404 : decode cL_law 1404 = .ok (.invokevirtual 165, 3) := by decide +kernel
theorem dL_law_1407 : decode cL_law 1407 = .ok (.if_icmp .eq 916, 3) := by decide +kernel
theorem dL_law_1410 : decode cL_law 1410 = .ok (.iconst 0, 1) := by decide +kernel
theorem dL_law_1411 : decode cL_law 1411 = .ok (.ireturn, 1) := by decide +kernel
theorem dL_law_1412 : decode cL_law 1412 = .ok (.aload_n 1, 1) := by decide +kernel
theorem dL_law_1413 : decode cL_law 1413 = .ok (.aload_n 0, 1) := by decide +kernel
theorem dL_law_1414 : decode cL_law 1414 = .ok (.iload 4, 2) := by decide +kernel
theorem dL_law_1416 : decode cL_law 1416 = .ok (.iconst 1, 1) := by decide +kernel
theorem dL_law_1417 : decode cL_law 1417 = .ok (.iadd, 1) := by decide +kernel
theorem dL_law_1418 : decode cL_law 1418 = .ok (.iaload, 1) := by decide +kernel
theorem dL_law_1419 : decode cL_law 1419 = .ok (.invokevirtual 166, 3) := by decide +kernel
theorem dL_law_1422 : decode cL_law 1422 = .ok (.aload_n 2, 1) := by decide +kernel
theorem dL_law_1423 : decode cL_law 1423 = .ok (.aload_n 0, 1) := by decide +kernel
theorem dL_law_1424 : decode cL_law 1424 = .ok (.iload 4, 2) := by decide +kernel
theorem dL_law_1426 : decode cL_law 1426 = .ok (.iconst 1, 1) := by decide +kernel
theorem dL_law_1427 : decode cL_law 1427 = .ok (.iadd, 1) := by decide +kernel
theorem dL_law_1428 : decode cL_law 1428 = .ok (.iaload, 1) := by decide +kernel
theorem dL_law_1429 : decode cL_law 1429 = .ok (.invokevirtual 169, 3) := by decide +kernel
theorem dL_law_1432 : decode cL_law 1432 = .ok (.if_icmp .eq 891, 3) := by decide +kernel
theorem dL_law_1435 : decode cL_law 1435 = .ok (.iconst 0, 1) := by decide +kernel
theorem dL_law_1436 : decode cL_law 1436 = .ok (.ireturn, 1) := by decide +kernel
theorem dL_law_1437 : decode cL_law 1437 = .ok (.aload_n 1, 1) := by decide +kernel
theorem dL_law_1438 : decode cL_law 1438 = .ok (.invokevirtual 170, 3) := by decide +kernel
theorem dL_law_1441 : decode cL_law 1441 = .ok (.aload_n 2, 1) := by decide +kernel
theorem dL_law_1442 : decode cL_law 1442 = .ok (.invokevirtual 173, 3) := by decide +kernel
theorem dL_law_1445 : decode cL_law 1445 = .ok (.if_icmp .eq 878, 3) := by decide +kernel
theorem dL_law_1448 : decode cL_law 1448 = .ok (.iconst 0, 1) := by decide +kernel
theorem dL_law_1449 : decode cL_law 1449 = .ok (.ireturn, 1) := by decide +kernel
theorem dL_law_1450 : decode cL_law 1450 = .ok (.aload_n 1, 1) := by decide +kernel
theorem dL_law_1451 : decode cL_law 1451 = .ok (.aload_n 0, 1) := by decide +kernel
theorem dL_law_1452 : decode cL_law 1452 = .ok (.iload 4, 2) := by decide +kernel
theorem dL_law_1454 : decode cL_law 1454 = .ok (.iconst 1, 1) := by decide +kernel
theorem dL_law_1455 : decode cL_law 1455 = .ok (.iadd, 1) := by decide +kernel
theorem dL_law_1456 : decode cL_law 1456 = .ok (.iaload, 1) := by decide +kernel
theorem dL_law_1457 : decode cL_law 1457 = .ok (.aload_n 0, 1) := by decide +kernel
theorem dL_law_1458 : decode cL_law 1458 = .ok (.iload 4, 2) := by decide +kernel
theorem dL_law_1460 : decode cL_law 1460 = .ok (.iconst 2, 1) := by decide +kernel
theorem dL_law_1461 : decode cL_law 1461 = .ok (.iadd, 1) := by decide +kernel
theorem dL_law_1462 : decode cL_law 1462 = .ok (.iaload, 1) := by decide +kernel
theorem dL_law_1463 : decode cL_law 1463 = .ok (.aload_n 3, 1) := by decide +kernel
theorem dL_law_1464 : decode cL_law 1464 = .ok (.invokestatic 174, 3) := by decide +kernel
theorem dL_law_1467 : decode cL_law 1467 = .ok (.istore 5, 2) := by decide +kernel
theorem dL_law_1469 : decode cL_law 1469 = .ok (.aload_n 2, 1) := by decide +kernel
theorem dL_law_1470 : decode cL_law 1470 = .ok (.aload_n 0, 1) := by decide +kernel
theorem dL_law_1471 : decode cL_law 1471 = .ok (.iload 4, 2) := by decide +kernel
theorem dL_law_1473 : decode cL_law 1473 = .ok (.iconst 1, 1) := by decide +kernel
theorem dL_law_1474 : decode cL_law 1474 = .ok (.iadd, 1) := by decide +kernel
theorem dL_law_1475 : decode cL_law 1475 = .ok (.iaload, 1) := by decide +kernel
theorem dL_law_1476 : decode cL_law 1476 = .ok (.aload_n 0, 1) := by decide +kernel
theorem dL_law_1477 : decode cL_law 1477 = .ok (.iload 4, 2) := by decide +kernel
theorem dL_law_1479 : decode cL_law 1479 = .ok (.iconst 2, 1) := by decide +kernel
theorem dL_law_1480 : decode cL_law 1480 = .ok (.iadd, 1) := by decide +kernel
theorem dL_law_1481 : decode cL_law 1481 = .ok (.iaload, 1) := by decide +kernel
theorem dL_law_1482 : decode cL_law 1482 = .ok (.invokevirtual 176, 3) := by decide +kernel
theorem dL_law_1485 : decode cL_law 1485 = .ok (.istore 6, 2) := by decide +kernel
theorem dL_law_1487 : decode cL_law 1487 = .ok (.aload_n 2, 1) := by decide +kernel
theorem dL_law_1488 : decode cL_law 1488 = .ok (.invokevirtual 106, 3) := by decide +kernel
theorem dL_law_1491 : decode cL_law 1491 = .ok (.iload 5, 2) := by decide +kernel
theorem dL_law_1493 : decode cL_law 1493 = .ok (.if_icmp .eq 5, 3) := by decide +kernel
theorem dL_law_1496 : decode cL_law 1496 = .ok (.iconst 0, 1) := by decide +kernel
theorem dL_law_1497 : decode cL_law 1497 = .ok (.ireturn, 1) := by decide +kernel
theorem dL_law_1498 : decode cL_law 1498 = .ok (.iload 5, 2) := by decide +kernel
theorem dL_law_1500 : decode cL_law 1500 = .ok (.ifCond .ne 15, 3) := by decide +kernel
theorem dL_law_1503 : decode cL_law 1503 = .ok (.aload_n 3, 1) := by decide +kernel
theorem dL_law_1504 : decode cL_law 1504 = .ok (.iconst 0, 1) := by decide +kernel
theorem dL_law_1505 : decode cL_law 1505 = .ok (.laload, 1) := by decide +kernel
theorem dL_law_1506 : decode cL_law 1506 = .ok (.iload 6, 2) := by decide +kernel
theorem dL_law_1508 : decode cL_law 1508 = .ok (.i2l, 1) := by decide +kernel
theorem dL_law_1509 : decode cL_law 1509 = .ok (.lcmp, 1) := by decide +kernel
theorem dL_law_1510 : decode cL_law 1510 = .ok (.ifCond .eq 5, 3) := by decide +kernel
theorem dL_law_1513 : decode cL_law 1513 = .ok (.iconst 0, 1) := by decide +kernel
theorem dL_law_1514 : decode cL_law 1514 = .ok (.ireturn, 1) := by decide +kernel
theorem dL_law_1515 : decode cL_law 1515 = .ok (.goto 808, 3) := by decide +kernel
theorem dL_law_1518 : decode cL_law 1518 = .ok (.aload_n 1, 1) := by decide +kernel
theorem dL_law_1519 : decode cL_law 1519 = .ok (.invokevirtual 177, 3) := by decide +kernel
theorem dL_law_1522 : decode cL_law 1522 = .ok (.aload_n 2, 1) := by decide +kernel
theorem dL_law_1523 : decode cL_law 1523 = .ok (.invokevirtual 180, 3) := by decide +kernel
theorem dL_law_1526 : decode cL_law 1526 = .ok (.if_icmp .eq 797, 3) := by decide +kernel
theorem dL_law_1529 : decode cL_law 1529 = .ok (.iconst 0, 1) := by decide +kernel
theorem dL_law_1530 : decode cL_law 1530 = .ok (.ireturn, 1) := by decide +kernel
theorem dL_law_1531 : decode cL_law 1531 = .ok (.aload_n 1, 1) := by decide +kernel
theorem dL_law_1532 : decode cL_law 1532 = .ok (.aload_n 0, 1) := by decide +kernel
theorem dL_law_1533 : decode cL_law 1533 = .ok (.iload 4, 2) := by decide +kernel
theorem dL_law_1535 : decode cL_law 1535 = .ok (.iconst 1, 1) := by decide +kernel
theorem dL_law_1536 : decode cL_law 1536 = .ok (.iadd, 1) := by decide +kernel
theorem dL_law_1537 : decode cL_law 1537 = .ok (.iaload, 1) := by decide +kernel
theorem dL_law_1538 : decode cL_law 1538 = .ok (.aload_n 0, 1) := by decide +kernel
theorem dL_law_1539 : decode cL_law 1539 = .ok (.iload 4, 2) := by decide +kernel
theorem dL_law_1541 : decode cL_law 1541 = .ok (.iconst 2, 1) := by decide +kernel
theorem dL_law_1542 : decode cL_law 1542 = .ok (.iadd, 1) := by decide +kernel
theorem dL_law_1543 : decode cL_law 1543 = .ok (.iaload, 1) := by decide +kernel
theorem dL_law_1544 : decode cL_law 1544 = .ok (.aload_n 3, 1) := by decide +kernel
theorem dL_law_1545 : decode cL_law 1545 = .ok (.invokestatic 181, 3) := by decide +kernel
theorem dL_law_1548 : decode cL_law 1548 = .ok (.istore 5, 2) := by decide +kernel
theorem dL_law_1550 : decode cL_law 1550 = .ok (.aload_n 2, 1) := by decide +kernel
theorem dL_law_1551 : decode cL_law 1551 = .ok (.aload_n 0, 1) := by decide +kernel
theorem dL_law_1552 : decode cL_law 1552 = .ok (.iload 4, 2) := by decide +kernel
theorem dL_law_1554 : decode cL_law 1554 = .ok (.iconst 1, 1) := by decide +kernel
theorem dL_law_1555 : decode cL_law 1555 = .ok (.iadd, 1) := by decide +kernel
theorem dL_law_1556 : decode cL_law 1556 = .ok (.iaload, 1) := by decide +kernel
theorem dL_law_1557 : decode cL_law 1557 = .ok (.aload_n 0, 1) := by decide +kernel
theorem dL_law_1558 : decode cL_law 1558 = .ok (.iload 4, 2) := by decide +kernel
theorem dL_law_1560 : decode cL_law 1560 = .ok (.iconst 2, 1) := by decide +kernel
theorem dL_law_1561 : decode cL_law 1561 = .ok (.iadd, 1) := by decide +kernel
theorem dL_law_1562 : decode cL_law 1562 = .ok (.iaload, 1) := by decide +kernel
theorem dL_law_1563 : decode cL_law 1563 = .ok (.invokevirtual 183, 3) := by decide +kernel
theorem dL_law_1566 : decode cL_law 1566 = .ok (.istore 6, 2) := by decide +kernel
theorem dL_law_1568 : decode cL_law 1568 = .ok (.aload_n 2, 1) := by decide +kernel
theorem dL_law_1569 : decode cL_law 1569 = .ok (.invokevirtual 106, 3) := by decide +kernel
theorem dL_law_1572 : decode cL_law 1572 = .ok (.iload 5, 2) := by decide +kernel
theorem dL_law_1574 : decode cL_law 1574 = .ok (.if_icmp .eq 5, 3) := by decide +kernel
theorem dL_law_1577 : decode cL_law 1577 = .ok (.iconst 0, 1) := by decide +kernel
theorem dL_law_1578 : decode cL_law 1578 = .ok (.ireturn, 1) := by decide +kernel
theorem dL_law_1579 : decode cL_law 1579 = .ok (.iload 5, 2) := by decide +kernel
theorem dL_law_1581 : decode cL_law 1581 = .ok (.ifCond .ne 15, 3) := by decide +kernel
theorem dL_law_1584 : decode cL_law 1584 = .ok (.aload_n 3, 1) := by decide +kernel
theorem dL_law_1585 : decode cL_law 1585 = .ok (.iconst 0, 1) := by decide +kernel
theorem dL_law_1586 : decode cL_law 1586 = .ok (.laload, 1) := by decide +kernel
theorem dL_law_1587 : decode cL_law 1587 = .ok (.iload 6, 2) := by decide +kernel
theorem dL_law_1589 : decode cL_law 1589 = .ok (.i2l, 1) := by decide +kernel
theorem dL_law_1590 : decode cL_law 1590 = .ok (.lcmp, 1) := by decide +kernel
theorem dL_law_1591 : decode cL_law 1591 = .ok (.ifCond .eq 5, 3) := by decide +kernel
theorem dL_law_1594 : decode cL_law 1594 = .ok (.iconst 0, 1) := by decide +kernel
theorem dL_law_1595 : decode cL_law 1595 = .ok (.ireturn, 1) := by decide +kernel
theorem dL_law_1596 : decode cL_law 1596 = .ok (.goto 727, 3) := by decide +kernel
theorem dL_law_1599 : decode cL_law 1599 = .ok (.aload_n 1, 1) := by decide +kernel
theorem dL_law_1600 : decode cL_law 1600 = .ok (.aload_n 0, 1) := by decide +kernel
theorem dL_law_1601 : decode cL_law 1601 = .ok (.iload 4, 2) := by decide +kernel
theorem dL_law_1603 : decode cL_law 1603 = .ok (.iconst 1, 1) := by decide +kernel
theorem dL_law_1604 : decode cL_law 1604 = .ok (.iadd, 1) := by decide +kernel
theorem dL_law_1605 : decode cL_law 1605 = .ok (.iaload, 1) := by decide +kernel
theorem dL_law_1606 : decode cL_law 1606 = .ok (.aload_n 3, 1) := by decide +kernel
theorem dL_law_1607 : decode cL_law 1607 = .ok (.invokestatic 184, 3) := by decide +kernel
theorem dL_law_1610 : decode cL_law 1610 = .ok (.istore 5, 2) := by decide +kernel
theorem dL_law_1612 : decode cL_law 1612 = .ok (.aload_n 2, 1) := by decide +kernel
theorem dL_law_1613 : decode cL_law 1613 = .ok (.aload_n 0, 1) := by decide +kernel
theorem dL_law_1614 : decode cL_law 1614 = .ok (.iload 4, 2) := by decide +kernel
theorem dL_law_1616 : decode cL_law 1616 = .ok (.iconst 1, 1) := by decide +kernel
theorem dL_law_1617 : decode cL_law 1617 = .ok (.iadd, 1) := by decide +kernel
theorem dL_law_1618 : decode cL_law 1618 = .ok (.iaload, 1) := by decide +kernel
theorem dL_law_1619 : decode cL_law 1619 = .ok (.invokevirtual 186, 3) := by decide +kernel
theorem dL_law_1622 : decode cL_law 1622 = .ok (.istore 6, 2) := by decide +kernel
theorem dL_law_1624 : decode cL_law 1624 = .ok (.aload_n 2, 1) := by decide +kernel
theorem dL_law_1625 : decode cL_law 1625 = .ok (.invokevirtual 106, 3) := by decide +kernel
theorem dL_law_1628 : decode cL_law 1628 = .ok (.iload 5, 2) := by decide +kernel
theorem dL_law_1630 : decode cL_law 1630 = .ok (.if_icmp .eq 5, 3) := by decide +kernel
theorem dL_law_1633 : decode cL_law 1633 = .ok (.iconst 0, 1) := by decide +kernel
theorem dL_law_1634 : decode cL_law 1634 = .ok (.ireturn, 1) := by decide +kernel
theorem dL_law_1635 : decode cL_law 1635 = .ok (.iload 5, 2) := by decide +kernel
theorem dL_law_1637 : decode cL_law 1637 = .ok (.ifCond .ne 15, 3) := by decide +kernel
theorem dL_law_1640 : decode cL_law 1640 = .ok (.aload_n 3, 1) := by decide +kernel
theorem dL_law_1641 : decode cL_law 1641 = .ok (.iconst 0, 1) := by decide +kernel
theorem dL_law_1642 : decode cL_law 1642 = .ok (.laload, 1) := by decide +kernel
theorem dL_law_1643 : decode cL_law 1643 = .ok (.iload 6, 2) := by decide +kernel
theorem dL_law_1645 : decode cL_law 1645 = .ok (.i2l, 1) := by decide +kernel
theorem dL_law_1646 : decode cL_law 1646 = .ok (.lcmp, 1) := by decide +kernel
theorem dL_law_1647 : decode cL_law 1647 = .ok (.ifCond .eq 5, 3) := by decide +kernel
theorem dL_law_1650 : decode cL_law 1650 = .ok (.iconst 0, 1) := by decide +kernel
theorem dL_law_1651 : decode cL_law 1651 = .ok (.ireturn, 1) := by decide +kernel
theorem dL_law_1652 : decode cL_law 1652 = .ok (.goto 671, 3) := by decide +kernel
theorem dL_law_1655 : decode cL_law 1655 = .ok (.aload_n 1, 1) := by decide +kernel
theorem dL_law_1656 : decode cL_law 1656 = .ok (.aload_n 0, 1) := by decide +kernel
theorem dL_law_1657 : decode cL_law 1657 = .ok (.iload 4, 2) := by decide +kernel
theorem dL_law_1659 : decode cL_law 1659 = .ok (.iconst 1, 1) := by decide +kernel
theorem dL_law_1660 : decode cL_law 1660 = .ok (.iadd, 1) := by decide +kernel
theorem dL_law_1661 : decode cL_law 1661 = .ok (.iaload, 1) := by decide +kernel
theorem dL_law_1662 : decode cL_law 1662 = .ok (.aload_n 0, 1) := by decide +kernel
theorem dL_law_1663 : decode cL_law 1663 = .ok (.iload 4, 2) := by decide +kernel
theorem dL_law_1665 : decode cL_law 1665 = .ok (.iconst 2, 1) := by decide +kernel
theorem dL_law_1666 : decode cL_law 1666 = .ok (.iadd, 1) := by decide +kernel
theorem dL_law_1667 : decode cL_law 1667 = .ok (.iaload, 1) := by decide +kernel
theorem dL_law_1668 : decode cL_law 1668 = .ok (.aload_n 0, 1) := by decide +kernel
theorem dL_law_1669 : decode cL_law 1669 = .ok (.iload 4, 2) := by decide +kernel
theorem dL_law_1671 : decode cL_law 1671 = .ok (.iconst 3, 1) := by decide +kernel
theorem dL_law_1672 : decode cL_law 1672 = .ok (.iadd, 1) := by decide +kernel
theorem dL_law_1673 : decode cL_law 1673 = .ok (.iaload, 1) := by decide +kernel
theorem dL_law_1674 : decode cL_law 1674 = .ok (.aload_n 0, 1) := by decide +kernel
theorem dL_law_1675 : decode cL_law 1675 = .ok (.iload 4, 2) := by decide +kernel
theorem dL_law_1677 : decode cL_law 1677 = .ok (.iconst 4, 1) := by decide +kernel
theorem dL_law_1678 : decode cL_law 1678 = .ok (.iadd, 1) := by decide +kernel
theorem dL_law_1679 : decode cL_law 1679 = .ok (.iaload, 1) := by decide +kernel
theorem dL_law_1680 : decode cL_law 1680 = .ok (.aload_n 3, 1) := by decide +kernel
theorem dL_law_1681 : decode cL_law 1681 = .ok (.invokestatic 187, 3) := by decide +kernel
theorem dL_law_1684 : decode cL_law 1684 = .ok (.istore 5, 2) := by decide +kernel
theorem dL_law_1686 : decode cL_law 1686 = .ok (.aload_n 2, 1) := by decide +kernel
theorem dL_law_1687 : decode cL_law 1687 = .ok (.aload_n 0, 1) := by decide +kernel
theorem dL_law_1688 : decode cL_law 1688 = .ok (.iload 4, 2) := by decide +kernel
theorem dL_law_1690 : decode cL_law 1690 = .ok (.iconst 1, 1) := by decide +kernel
theorem dL_law_1691 : decode cL_law 1691 = .ok (.iadd, 1) := by decide +kernel
theorem dL_law_1692 : decode cL_law 1692 = .ok (.iaload, 1) := by decide +kernel
theorem dL_law_1693 : decode cL_law 1693 = .ok (.aload_n 0, 1) := by decide +kernel
theorem dL_law_1694 : decode cL_law 1694 = .ok (.iload 4, 2) := by decide +kernel
theorem dL_law_1696 : decode cL_law 1696 = .ok (.iconst 2, 1) := by decide +kernel
theorem dL_law_1697 : decode cL_law 1697 = .ok (.iadd, 1) := by decide +kernel
theorem dL_law_1698 : decode cL_law 1698 = .ok (.iaload, 1) := by decide +kernel
theorem dL_law_1699 : decode cL_law 1699 = .ok (.aload_n 0, 1) := by decide +kernel
theorem dL_law_1700 : decode cL_law 1700 = .ok (.iload 4, 2) := by decide +kernel
theorem dL_law_1702 : decode cL_law 1702 = .ok (.iconst 3, 1) := by decide +kernel
theorem dL_law_1703 : decode cL_law 1703 = .ok (.iadd, 1) := by decide +kernel
theorem dL_law_1704 : decode cL_law 1704 = .ok (.iaload, 1) := by decide +kernel
theorem dL_law_1705 : decode cL_law 1705 = .ok (.aload_n 0, 1) := by decide +kernel
theorem dL_law_1706 : decode cL_law 1706 = .ok (.iload 4, 2) := by decide +kernel
theorem dL_law_1708 : decode cL_law 1708 = .ok (.iconst 4, 1) := by decide +kernel
theorem dL_law_1709 : decode cL_law 1709 = .ok (.iadd, 1) := by decide +kernel
theorem dL_law_1710 : decode cL_law 1710 = .ok (.iaload, 1) := by decide +kernel
theorem dL_law_1711 : decode cL_law 1711 = .ok (.invokevirtual 189, 3) := by decide +kernel
theorem dL_law_1714 : decode cL_law 1714 = .ok (.istore 6, 2) := by decide +kernel
theorem dL_law_1716 : decode cL_law 1716 = .ok (.aload_n 2, 1) := by decide +kernel
theorem dL_law_1717 : decode cL_law 1717 = .ok (.invokevirtual 106, 3) := by decide +kernel
theorem dL_law_1720 : decode cL_law 1720 = .ok (.iload 5, 2) := by decide +kernel
theorem dL_law_1722 : decode cL_law 1722 = .ok (.if_icmp .eq 5, 3) := by decide +kernel
theorem dL_law_1725 : decode cL_law 1725 = .ok (.iconst 0, 1) := by decide +kernel
theorem dL_law_1726 : decode cL_law 1726 = .ok (.ireturn, 1) := by decide +kernel
theorem dL_law_1727 : decode cL_law 1727 = .ok (.iload 5, 2) := by decide +kernel
theorem dL_law_1729 : decode cL_law 1729 = .ok (.ifCond .ne 15, 3) := by decide +kernel
theorem dL_law_1732 : decode cL_law 1732 = .ok (.aload_n 3, 1) := by decide +kernel
theorem dL_law_1733 : decode cL_law 1733 = .ok (.iconst 0, 1) := by decide +kernel
theorem dL_law_1734 : decode cL_law 1734 = .ok (.laload, 1) := by decide +kernel
theorem dL_law_1735 : decode cL_law 1735 = .ok (.iload 6, 2) := by decide +kernel
theorem dL_law_1737 : decode cL_law 1737 = .ok (.i2l, 1) := by decide +kernel
theorem dL_law_1738 : decode cL_law 1738 = .ok (.lcmp, 1) := by decide +kernel
theorem dL_law_1739 : decode cL_law 1739 = .ok (.ifCond .eq 5, 3) := by decide +kernel
theorem dL_law_1742 : decode cL_law 1742 = .ok (.iconst 0, 1) := by decide +kernel
theorem dL_law_1743 : decode cL_law 1743 = .ok (.ireturn, 1) := by decide +kernel
theorem dL_law_1744 : decode cL_law 1744 = .ok (.goto 579, 3) := by decide +kernel
theorem dL_law_1747 : decode cL_law 1747 = .ok (.aload_n 1, 1) := by decide +kernel
theorem dL_law_1748 : decode cL_law 1748 = .ok (.aload_n 0, 1) := by decide +kernel
theorem dL_law_1749 : decode cL_law 1749 = .ok (.iload 4, 2) := by decide +kernel
theorem dL_law_1751 : decode cL_law 1751 = .ok (.iconst 1, 1) := by decide +kernel
theorem dL_law_1752 : decode cL_law 1752 = .ok (.iadd, 1) := by decide +kernel
theorem dL_law_1753 : decode cL_law 1753 = .ok (.iaload, 1) := by decide +kernel
theorem dL_law_1754 : decode cL_law 1754 = .ok (.aload_n 0, 1) := by decide +kernel
theorem dL_law_1755 : decode cL_law 1755 = .ok (.iload 4, 2) := by decide +kernel
theorem dL_law_1757 : decode cL_law 1757 = .ok (.iconst 2, 1) := by decide +kernel
theorem dL_law_1758 : decode cL_law 1758 = .ok (.iadd, 1) := by decide +kernel
theorem dL_law_1759 : decode cL_law 1759 = .ok (.iaload, 1) := by decide +kernel
theorem dL_law_1760 : decode cL_law 1760 = .ok (.aload_n 3, 1) := by decide +kernel
theorem dL_law_1761 : decode cL_law 1761 = .ok (.invokestatic 190, 3) := by decide +kernel
theorem dL_law_1764 : decode cL_law 1764 = .ok (.istore 5, 2) := by decide +kernel
theorem dL_law_1766 : decode cL_law 1766 = .ok (.aload_n 2, 1) := by decide +kernel
theorem dL_law_1767 : decode cL_law 1767 = .ok (.aload_n 0, 1) := by decide +kernel
theorem dL_law_1768 : decode cL_law 1768 = .ok (.iload 4, 2) := by decide +kernel
theorem dL_law_1770 : decode cL_law 1770 = .ok (.iconst 1, 1) := by decide +kernel
theorem dL_law_1771 : decode cL_law 1771 = .ok (.iadd, 1) := by decide +kernel
theorem dL_law_1772 : decode cL_law 1772 = .ok (.iaload, 1) := by decide +kernel
theorem dL_law_1773 : decode cL_law 1773 = .ok (.aload_n 0, 1) := by decide +kernel
theorem dL_law_1774 : decode cL_law 1774 = .ok (.iload 4, 2) := by decide +kernel
theorem dL_law_1776 : decode cL_law 1776 = .ok (.iconst 2, 1) := by decide +kernel
theorem dL_law_1777 : decode cL_law 1777 = .ok (.iadd, 1) := by decide +kernel
theorem dL_law_1778 : decode cL_law 1778 = .ok (.iaload, 1) := by decide +kernel
theorem dL_law_1779 : decode cL_law 1779 = .ok (.invokevirtual 192, 3) := by decide +kernel
theorem dL_law_1782 : decode cL_law 1782 = .ok (.istore 6, 2) := by decide +kernel
theorem dL_law_1784 : decode cL_law 1784 = .ok (.aload_n 2, 1) := by decide +kernel
theorem dL_law_1785 : decode cL_law 1785 = .ok (.invokevirtual 106, 3) := by decide +kernel
theorem dL_law_1788 : decode cL_law 1788 = .ok (.iload 5, 2) := by decide +kernel
theorem dL_law_1790 : decode cL_law 1790 = .ok (.if_icmp .eq 5, 3) := by decide +kernel
theorem dL_law_1793 : decode cL_law 1793 = .ok (.iconst 0, 1) := by decide +kernel
theorem dL_law_1794 : decode cL_law 1794 = .ok (.ireturn, 1) := by decide +kernel
theorem dL_law_1795 : decode cL_law 1795 = .ok (.iload 5, 2) := by decide +kernel
theorem dL_law_1797 : decode cL_law 1797 = .ok (.ifCond .ne 15, 3) := by decide +kernel
theorem dL_law_1800 : decode cL_law 1800 = .ok (.aload_n 3, 1) := by decide +kernel
theorem dL_law_1801 : decode cL_law 1801 = .ok (.iconst 0, 1) := by decide +kernel
theorem dL_law_1802 : decode cL_law 1802 = .ok (.laload, 1) := by decide +kernel
theorem dL_law_1803 : decode cL_law 1803 = .ok (.iload 6, 2) := by decide +kernel
theorem dL_law_1805 : decode cL_law 1805 = .ok (.i2l, 1) := by decide +kernel
theorem dL_law_1806 : decode cL_law 1806 = .ok (.lcmp, 1) := by decide +kernel
theorem dL_law_1807 : decode cL_law 1807 = .ok (.ifCond .eq 5, 3) := by decide +kernel
theorem dL_law_1810 : decode cL_law 1810 = .ok (.iconst 0, 1) := by decide +kernel
theorem dL_law_1811 : decode cL_law 1811 = .ok (.ireturn, 1) := by decide +kernel
theorem dL_law_1812 : decode cL_law 1812 = .ok (.goto 511, 3) := by decide +kernel
theorem dL_law_1815 : decode cL_law 1815 = .ok (.aload_n 1, 1) := by decide +kernel
theorem dL_law_1816 : decode cL_law 1816 = .ok (.aload_n 0, 1) := by decide +kernel
theorem dL_law_1817 : decode cL_law 1817 = .ok (.iload 4, 2) := by decide +kernel
theorem dL_law_1819 : decode cL_law 1819 = .ok (.iconst 1, 1) := by decide +kernel
theorem dL_law_1820 : decode cL_law 1820 = .ok (.iadd, 1) := by decide +kernel
theorem dL_law_1821 : decode cL_law 1821 = .ok (.iaload, 1) := by decide +kernel
theorem dL_law_1822 : decode cL_law 1822 = .ok (.aload_n 0, 1) := by decide +kernel
theorem dL_law_1823 : decode cL_law 1823 = .ok (.iload 4, 2) := by decide +kernel
theorem dL_law_1825 : decode cL_law 1825 = .ok (.iconst 2, 1) := by decide +kernel
theorem dL_law_1826 : decode cL_law 1826 = .ok (.iadd, 1) := by decide +kernel
theorem dL_law_1827 : decode cL_law 1827 = .ok (.iaload, 1) := by decide +kernel
theorem dL_law_1828 : decode cL_law 1828 = .ok (.aload_n 3, 1) := by decide +kernel
theorem dL_law_1829 : decode cL_law 1829 = .ok (.invokestatic 193, 3) := by decide +kernel
theorem dL_law_1832 : decode cL_law 1832 = .ok (.istore 5, 2) := by decide +kernel
theorem dL_law_1834 : decode cL_law 1834 = .ok (.aload_n 2, 1) := by decide +kernel
theorem dL_law_1835 : decode cL_law 1835 = .ok (.aload_n 0, 1) := by decide +kernel
theorem dL_law_1836 : decode cL_law 1836 = .ok (.iload 4, 2) := by decide +kernel
theorem dL_law_1838 : decode cL_law 1838 = .ok (.iconst 1, 1) := by decide +kernel
theorem dL_law_1839 : decode cL_law 1839 = .ok (.iadd, 1) := by decide +kernel
theorem dL_law_1840 : decode cL_law 1840 = .ok (.iaload, 1) := by decide +kernel
theorem dL_law_1841 : decode cL_law 1841 = .ok (.aload_n 0, 1) := by decide +kernel
theorem dL_law_1842 : decode cL_law 1842 = .ok (.iload 4, 2) := by decide +kernel
theorem dL_law_1844 : decode cL_law 1844 = .ok (.iconst 2, 1) := by decide +kernel
theorem dL_law_1845 : decode cL_law 1845 = .ok (.iadd, 1) := by decide +kernel
theorem dL_law_1846 : decode cL_law 1846 = .ok (.iaload, 1) := by decide +kernel
theorem dL_law_1847 : decode cL_law 1847 = .ok (.invokevirtual 195, 3) := by decide +kernel
theorem dL_law_1850 : decode cL_law 1850 = .ok (.istore 6, 2) := by decide +kernel
theorem dL_law_1852 : decode cL_law 1852 = .ok (.aload_n 2, 1) := by decide +kernel
theorem dL_law_1853 : decode cL_law 1853 = .ok (.invokevirtual 106, 3) := by decide +kernel
theorem dL_law_1856 : decode cL_law 1856 = .ok (.iload 5, 2) := by decide +kernel
theorem dL_law_1858 : decode cL_law 1858 = .ok (.if_icmp .eq 5, 3) := by decide +kernel
theorem dL_law_1861 : decode cL_law 1861 = .ok (.iconst 0, 1) := by decide +kernel
theorem dL_law_1862 : decode cL_law 1862 = .ok (.ireturn, 1) := by decide +kernel
theorem dL_law_1863 : decode cL_law 1863 = .ok (.iload 5, 2) := by decide +kernel
theorem dL_law_1865 : decode cL_law 1865 = .ok (.ifCond .ne 15, 3) := by decide +kernel
theorem dL_law_1868 : decode cL_law 1868 = .ok (.aload_n 3, 1) := by decide +kernel
theorem dL_law_1869 : decode cL_law 1869 = .ok (.iconst 0, 1) := by decide +kernel
theorem dL_law_1870 : decode cL_law 1870 = .ok (.laload, 1) := by decide +kernel
theorem dL_law_1871 : decode cL_law 1871 = .ok (.iload 6, 2) := by decide +kernel
theorem dL_law_1873 : decode cL_law 1873 = .ok (.i2l, 1) := by decide +kernel
theorem dL_law_1874 : decode cL_law 1874 = .ok (.lcmp, 1) := by decide +kernel
theorem dL_law_1875 : decode cL_law 1875 = .ok (.ifCond .eq 5, 3) := by decide +kernel
theorem dL_law_1878 : decode cL_law 1878 = .ok (.iconst 0, 1) := by decide +kernel
theorem dL_law_1879 : decode cL_law 1879 = .ok (.ireturn, 1) := by decide +kernel
theorem dL_law_1880 : decode cL_law 1880 = .ok (.goto 443, 3) := by decide +kernel
theorem dL_law_1883 : decode cL_law 1883 = .ok (.aload_n 1, 1) := by decide +kernel
theorem dL_law_1884 : decode cL_law 1884 = .ok (.aload_n 0, 1) := by decide +kernel
theorem dL_law_1885 : decode cL_law 1885 = .ok (.iload 4, 2) := by decide +kernel
theorem dL_law_1887 : decode cL_law 1887 = .ok (.iconst 1, 1) := by decide +kernel
theorem dL_law_1888 : decode cL_law 1888 = .ok (.iadd, 1) := by decide +kernel
theorem dL_law_1889 : decode cL_law 1889 = .ok (.iaload, 1) := by decide +kernel
theorem dL_law_1890 : decode cL_law 1890 = .ok (.aload_n 0, 1) := by decide +kernel
theorem dL_law_1891 : decode cL_law 1891 = .ok (.iload 4, 2) := by decide +kernel
theorem dL_law_1893 : decode cL_law 1893 = .ok (.iconst 2, 1) := by decide +kernel
theorem dL_law_1894 : decode cL_law 1894 = .ok (.iadd, 1) := by decide +kernel
theorem dL_law_1895 : decode cL_law 1895 = .ok (.iaload, 1) := by decide +kernel
theorem dL_law_1896 : decode cL_law 1896 = .ok (.invokevirtual 196, 3) := by decide +kernel
theorem dL_law_1899 : decode cL_law 1899 = .ok (.aload_n 2, 1) := by decide +kernel
theorem dL_law_1900 : decode cL_law 1900 = .ok (.aload_n 0, 1) := by decide +kernel
theorem dL_law_1901 : decode cL_law 1901 = .ok (.iload 4, 2) := by decide +kernel
theorem dL_law_1903 : decode cL_law 1903 = .ok (.iconst 1, 1) := by decide +kernel
theorem dL_law_1904 : decode cL_law 1904 = .ok (.iadd, 1) := by decide +kernel
theorem dL_law_1905 : decode cL_law 1905 = .ok (.iaload, 1) := by decide +kernel
theorem dL_law_1906 : decode cL_law 1906 = .ok (.aload_n 0, 1) := by decide +kernel
theorem dL_law_1907 : decode cL_law 1907 = .ok (.iload 4, 2) := by decide +kernel
theorem dL_law_1909 : decode cL_law 1909 = .ok (.iconst 2, 1) := by decide +kernel
theorem dL_law_1910 : decode cL_law 1910 = .ok (.iadd, 1) := by decide +kernel
theorem dL_law_1911 : decode cL_law 1911 = .ok (.iaload, 1) := by decide +kernel
theorem dL_law_1912 : decode cL_law 1912 = .ok (.invokevirtual 199, 3) := by decide +kernel
theorem dL_law_1915 : decode cL_law 1915 = .ok (.if_icmp .eq 408, 3) := by decide +kernel
theorem dL_law_1918 : decode cL_law 1918 = .ok (.iconst 0, 1) := by decide +kernel
theorem dL_law_1919 : decode cL_law 1919 = .ok (.ireturn, 1) := by decide +kernel
theorem dL_law_1920 : decode cL_law 1920 = .ok (.aload_n 1, 1) := by decide +kernel
theorem dL_law_1921 : decode cL_law 1921 = .ok (.aload_n 0, 1) := by decide +kernel
theorem dL_law_1922 : decode cL_law 1922 = .ok (.iload 4, 2) := by decide +kernel
theorem dL_law_1924 : decode cL_law 1924 = .ok (.iconst 1, 1) := by decide +kernel
theorem dL_law_1925 : decode cL_law 1925 = .ok (.iadd, 1) := by decide +kernel
theorem dL_law_1926 : decode cL_law 1926 = .ok (.iaload, 1) := by decide +kernel
theorem dL_law_1927 : decode cL_law 1927 = .ok (.aload_n 0, 1) := by decide +kernel
theorem dL_law_1928 : decode cL_law 1928 = .ok (.iload 4, 2) := by decide +kernel
theorem dL_law_1930 : decode cL_law 1930 = .ok (.iconst 2, 1) := by decide +kernel
theorem dL_law_1931 : decode cL_law 1931 = .ok (.iadd, 1) := by decide +kernel
theorem dL_law_1932 : decode cL_law 1932 = .ok (.iaload, 1) := by decide +kernel
theorem dL_law_1933 : decode cL_law 1933 = .ok (.aload_n 0, 1) := by decide +kernel
theorem dL_law_1934 : decode cL_law 1934 = .ok (.iload 4, 2) := by decide +kernel
theorem dL_law_1936 : decode cL_law 1936 = .ok (.iconst 3, 1) := by decide +kernel
theorem dL_law_1937 : decode cL_law 1937 = .ok (.iadd, 1) := by decide +kernel
theorem dL_law_1938 : decode cL_law 1938 = .ok (.iaload, 1) := by decide +kernel
theorem dL_law_1939 : decode cL_law 1939 = .ok (.aload_n 0, 1) := by decide +kernel
theorem dL_law_1940 : decode cL_law 1940 = .ok (.iload 4, 2) := by decide +kernel
theorem dL_law_1942 : decode cL_law 1942 = .ok (.iconst 4, 1) := by decide +kernel
theorem dL_law_1943 : decode cL_law 1943 = .ok (.iadd, 1) := by decide +kernel
theorem dL_law_1944 : decode cL_law 1944 = .ok (.iaload, 1) := by decide +kernel
theorem dL_law_1945 : decode cL_law 1945 = .ok (.aload_n 3, 1) := by decide +kernel
theorem dL_law_1946 : decode cL_law 1946 = .ok (.invokestatic 200, 3) := by decide +kernel
theorem dL_law_1949 : decode cL_law 1949 = .ok (.istore 5, 2) := by decide +kernel
theorem dL_law_1951 : decode cL_law 1951 = .ok (.aload_n 2, 1) := by decide +kernel
theorem dL_law_1952 : decode cL_law 1952 = .ok (.aload_n 0, 1) := by decide +kernel
theorem dL_law_1953 : decode cL_law 1953 = .ok (.iload 4, 2) := by decide +kernel
theorem dL_law_1955 : decode cL_law 1955 = .ok (.iconst 1, 1) := by decide +kernel
theorem dL_law_1956 : decode cL_law 1956 = .ok (.iadd, 1) := by decide +kernel
theorem dL_law_1957 : decode cL_law 1957 = .ok (.iaload, 1) := by decide +kernel
theorem dL_law_1958 : decode cL_law 1958 = .ok (.aload_n 0, 1) := by decide +kernel
theorem dL_law_1959 : decode cL_law 1959 = .ok (.iload 4, 2) := by decide +kernel
theorem dL_law_1961 : decode cL_law 1961 = .ok (.iconst 2, 1) := by decide +kernel
theorem dL_law_1962 : decode cL_law 1962 = .ok (.iadd, 1) := by decide +kernel
theorem dL_law_1963 : decode cL_law 1963 = .ok (.iaload, 1) := by decide +kernel
theorem dL_law_1964 : decode cL_law 1964 = .ok (.aload_n 0, 1) := by decide +kernel
theorem dL_law_1965 : decode cL_law 1965 = .ok (.iload 4, 2) := by decide +kernel
theorem dL_law_1967 : decode cL_law 1967 = .ok (.iconst 3, 1) := by decide +kernel
theorem dL_law_1968 : decode cL_law 1968 = .ok (.iadd, 1) := by decide +kernel
theorem dL_law_1969 : decode cL_law 1969 = .ok (.iaload, 1) := by decide +kernel
theorem dL_law_1970 : decode cL_law 1970 = .ok (.aload_n 0, 1) := by decide +kernel
theorem dL_law_1971 : decode cL_law 1971 = .ok (.iload 4, 2) := by decide +kernel
theorem dL_law_1973 : decode cL_law 1973 = .ok (.iconst 4, 1) := by decide +kernel
theorem dL_law_1974 : decode cL_law 1974 = .ok (.iadd, 1) := by decide +kernel
theorem dL_law_1975 : decode cL_law 1975 = .ok (.iaload, 1) := by decide +kernel
theorem dL_law_1976 : decode cL_law 1976 = .ok (.invokevirtual 202, 3) := by decide +kernel
theorem dL_law_1979 : decode cL_law 1979 = .ok (.istore 6, 2) := by decide +kernel
theorem dL_law_1981 : decode cL_law 1981 = .ok (.aload_n 2, 1) := by decide +kernel
theorem dL_law_1982 : decode cL_law 1982 = .ok (.invokevirtual 106, 3) := by decide +kernel
theorem dL_law_1985 : decode cL_law 1985 = .ok (.iload 5, 2) := by decide +kernel
theorem dL_law_1987 : decode cL_law 1987 = .ok (.if_icmp .eq 5, 3) := by decide +kernel
theorem dL_law_1990 : decode cL_law 1990 = .ok (.iconst 0, 1) := by decide +kernel
theorem dL_law_1991 : decode cL_law 1991 = .ok (.ireturn, 1) := by decide +kernel
theorem dL_law_1992 : decode cL_law 1992 = .ok (.iload 5, 2) := by decide +kernel
theorem dL_law_1994 : decode cL_law 1994 = .ok (.ifCond .ne 15, 3) := by decide +kernel
theorem dL_law_1997 : decode cL_law 1997 = .ok (.aload_n 3, 1) := by decide +kernel
theorem dL_law_1998 : decode cL_law 1998 = .ok (.iconst 0, 1) := by decide +kernel
theorem dL_law_1999 : decode cL_law 1999 = .ok (.laload, 1) := by decide +kernel
theorem dL_law_2000 : decode cL_law 2000 = .ok (.iload 6, 2) := by decide +kernel
theorem dL_law_2002 : decode cL_law 2002 = .ok (.i2l, 1) := by decide +kernel
theorem dL_law_2003 : decode cL_law 2003 = .ok (.lcmp, 1) := by decide +kernel
theorem dL_law_2004 : decode cL_law 2004 = .ok (.ifCond .eq 5, 3) := by decide +kernel
theorem dL_law_2007 : decode cL_law 2007 = .ok (.iconst 0, 1) := by decide +kernel
theorem dL_law_2008 : decode cL_law 2008 = .ok (.ireturn, 1) := by decide +kernel
theorem dL_law_2009 : decode cL_law 2009 = .ok (.goto 314, 3) := by decide +kernel
theorem dL_law_2012 : decode cL_law 2012 = .ok (.aload_n 1, 1) := by decide +kernel
theorem dL_law_2013 : decode cL_law 2013 = .ok (.aload_n 0, 1) := by decide +kernel
theorem dL_law_2014 : decode cL_law 2014 = .ok (.iload 4, 2) := by decide +kernel
theorem dL_law_2016 : decode cL_law 2016 = .ok (.iconst 1, 1) := by decide +kernel
theorem dL_law_2017 : decode cL_law 2017 = .ok (.iadd, 1) := by decide +kernel
theorem dL_law_2018 : decode cL_law 2018 = .ok (.iaload, 1) := by decide +kernel
theorem dL_law_2019 : decode cL_law 2019 = .ok (.aload_n 0, 1) := by decide +kernel
theorem dL_law_2020 : decode cL_law 2020 = .ok (.iload 4, 2) := by decide +kernel
theorem dL_law_2022 : decode cL_law 2022 = .ok (.iconst 2, 1) := by decide +kernel
theorem dL_law_2023 : decode cL_law 2023 = .ok (.iadd, 1) := by decide +kernel
theorem dL_law_2024 : decode cL_law 2024 = .ok (.iaload, 1) := by decide +kernel
theorem dL_law_2025 : decode cL_law 2025 = .ok (.aload_n 0, 1) := by decide +kernel
theorem dL_law_2026 : decode cL_law 2026 = .ok (.iload 4, 2) := by decide +kernel
theorem dL_law_2028 : decode cL_law 2028 = .ok (.iconst 3, 1) := by decide +kernel
theorem dL_law_2029 : decode cL_law 2029 = .ok (.iadd, 1) := by decide +kernel
theorem dL_law_2030 : decode cL_law 2030 = .ok (.iaload, 1) := by decide +kernel
theorem dL_law_2031 : decode cL_law 2031 = .ok (.aload_n 0, 1) := by decide +kernel
theorem dL_law_2032 : decode cL_law 2032 = .ok (.iload 4, 2) := by decide +kernel
theorem dL_law_2034 : decode cL_law 2034 = .ok (.iconst 4, 1) := by decide +kernel
theorem dL_law_2035 : decode cL_law 2035 = .ok (.iadd, 1) := by decide +kernel
theorem dL_law_2036 : decode cL_law 2036 = .ok (.iaload, 1) := by decide +kernel
theorem dL_law_2037 : decode cL_law 2037 = .ok (.aload_n 3, 1) := by decide +kernel
theorem dL_law_2038 : decode cL_law 2038 = .ok (.invokestatic 203, 3) := by decide +kernel
theorem dL_law_2041 : decode cL_law 2041 = .ok (.istore 5, 2) := by decide +kernel
theorem dL_law_2043 : decode cL_law 2043 = .ok (.aload_n 2, 1) := by decide +kernel
theorem dL_law_2044 : decode cL_law 2044 = .ok (.aload_n 0, 1) := by decide +kernel
theorem dL_law_2045 : decode cL_law 2045 = .ok (.iload 4, 2) := by decide +kernel
theorem dL_law_2047 : decode cL_law 2047 = .ok (.iconst 1, 1) := by decide +kernel
theorem dL_law_2048 : decode cL_law 2048 = .ok (.iadd, 1) := by decide +kernel
theorem dL_law_2049 : decode cL_law 2049 = .ok (.iaload, 1) := by decide +kernel
theorem dL_law_2050 : decode cL_law 2050 = .ok (.aload_n 0, 1) := by decide +kernel
theorem dL_law_2051 : decode cL_law 2051 = .ok (.iload 4, 2) := by decide +kernel
theorem dL_law_2053 : decode cL_law 2053 = .ok (.iconst 2, 1) := by decide +kernel
theorem dL_law_2054 : decode cL_law 2054 = .ok (.iadd, 1) := by decide +kernel
theorem dL_law_2055 : decode cL_law 2055 = .ok (.iaload, 1) := by decide +kernel
theorem dL_law_2056 : decode cL_law 2056 = .ok (.aload_n 0, 1) := by decide +kernel
theorem dL_law_2057 : decode cL_law 2057 = .ok (.iload 4, 2) := by decide +kernel
theorem dL_law_2059 : decode cL_law 2059 = .ok (.iconst 3, 1) := by decide +kernel
theorem dL_law_2060 : decode cL_law 2060 = .ok (.iadd, 1) := by decide +kernel
theorem dL_law_2061 : decode cL_law 2061 = .ok (.iaload, 1) := by decide +kernel
theorem dL_law_2062 : decode cL_law 2062 = .ok (.aload_n 0, 1) := by decide +kernel
theorem dL_law_2063 : decode cL_law 2063 = .ok (.iload 4, 2) := by decide +kernel
theorem dL_law_2065 : decode cL_law 2065 = .ok (.iconst 4, 1) := by decide +kernel
theorem dL_law_2066 : decode cL_law 2066 = .ok (.iadd, 1) := by decide +kernel
theorem dL_law_2067 : decode cL_law 2067 = .ok (.iaload, 1) := by decide +kernel
theorem dL_law_2068 : decode cL_law 2068 = .ok (.invokevirtual 205, 3) := by decide +kernel
theorem dL_law_2071 : decode cL_law 2071 = .ok (.istore 6, 2) := by decide +kernel
theorem dL_law_2073 : decode cL_law 2073 = .ok (.aload_n 2, 1) := by decide +kernel
theorem dL_law_2074 : decode cL_law 2074 = .ok (.invokevirtual 106, 3) := by decide +kernel
theorem dL_law_2077 : decode cL_law 2077 = .ok (.iload 5, 2) := by decide +kernel
theorem dL_law_2079 : decode cL_law 2079 = .ok (.if_icmp .eq 5, 3) := by decide +kernel
theorem dL_law_2082 : decode cL_law 2082 = .ok (.iconst 0, 1) := by decide +kernel
theorem dL_law_2083 : decode cL_law 2083 = .ok (.ireturn, 1) := by decide +kernel
theorem dL_law_2084 : decode cL_law 2084 = .ok (.iload 5, 2) := by decide +kernel
theorem dL_law_2086 : decode cL_law 2086 = .ok (.ifCond .ne 15, 3) := by decide +kernel
theorem dL_law_2089 : decode cL_law 2089 = .ok (.aload_n 3, 1) := by decide +kernel
theorem dL_law_2090 : decode cL_law 2090 = .ok (.iconst 0, 1) := by decide +kernel
theorem dL_law_2091 : decode cL_law 2091 = .ok (.laload, 1) := by decide +kernel
theorem dL_law_2092 : decode cL_law 2092 = .ok (.iload 6, 2) := by decide +kernel
theorem dL_law_2094 : decode cL_law 2094 = .ok (.i2l, 1) := by decide +kernel
theorem dL_law_2095 : decode cL_law 2095 = .ok (.lcmp, 1) := by decide +kernel
theorem dL_law_2096 : decode cL_law 2096 = .ok (.ifCond .eq 5, 3) := by decide +kernel
theorem dL_law_2099 : decode cL_law 2099 = .ok (.iconst 0, 1) := by decide +kernel
theorem dL_law_2100 : decode cL_law 2100 = .ok (.ireturn, 1) := by decide +kernel
theorem dL_law_2101 : decode cL_law 2101 = .ok (.goto 222, 3) := by decide +kernel
theorem dL_law_2104 : decode cL_law 2104 = .ok (.aload_n 1, 1) := by decide +kernel
theorem dL_law_2105 : decode cL_law 2105 = .ok (.invokevirtual 206, 3) := by decide +kernel
theorem dL_law_2108 : decode cL_law 2108 = .ok (.aload_n 2, 1) := by decide +kernel
theorem dL_law_2109 : decode cL_law 2109 = .ok (.invokevirtual 209, 3) := by decide +kernel
theorem dL_law_2112 : decode cL_law 2112 = .ok (.goto 211, 3) := by decide +kernel
theorem dL_law_2115 : decode cL_law 2115 = .ok (.aload_n 1, 1) := by decide +kernel
theorem dL_law_2116 : decode cL_law 2116 = .ok (.aload_n 0, 1) := by decide +kernel
theorem dL_law_2117 : decode cL_law 2117 = .ok (.iload 4, 2) := by decide +kernel
theorem dL_law_2119 : decode cL_law 2119 = .ok (.iconst 1, 1) := by decide +kernel
theorem dL_law_2120 : decode cL_law 2120 = .ok (.iadd, 1) := by decide +kernel
theorem dL_law_2121 : decode cL_law 2121 = .ok (.iaload, 1) := by decide +kernel
theorem dL_law_2122 : decode cL_law 2122 = .ok (.aload_n 0, 1) := by decide +kernel
theorem dL_law_2123 : decode cL_law 2123 = .ok (.iload 4, 2) := by decide +kernel
theorem dL_law_2125 : decode cL_law 2125 = .ok (.iconst 2, 1) := by decide +kernel
theorem dL_law_2126 : decode cL_law 2126 = .ok (.iadd, 1) := by decide +kernel
theorem dL_law_2127 : decode cL_law 2127 = .ok (.iaload, 1) := by decide +kernel
theorem dL_law_2128 : decode cL_law 2128 = .ok (.aload_n 0, 1) := by decide +kernel
theorem dL_law_2129 : decode cL_law 2129 = .ok (.iload 4, 2) := by decide +kernel
theorem dL_law_2131 : decode cL_law 2131 = .ok (.iconst 3, 1) := by decide +kernel
theorem dL_law_2132 : decode cL_law 2132 = .ok (.iadd, 1) := by decide +kernel
theorem dL_law_2133 : decode cL_law 2133 = .ok (.iaload, 1) := by decide +kernel
theorem dL_law_2134 : decode cL_law 2134 = .ok (.aload_n 0, 1) := by decide +kernel
theorem dL_law_2135 : decode cL_law 2135 = .ok (.iload 4, 2) := by decide +kernel
theorem dL_law_2137 : decode cL_law 2137 = .ok (.iconst 4, 1) := by decide +kernel
theorem dL_law_2138 : decode cL_law 2138 = .ok (.iadd, 1) := by decide +kernel
theorem dL_law_2139 : decode cL_law 2139 = .ok (.iaload, 1) := by decide +kernel
theorem dL_law_2140 : decode cL_law 2140 = .ok (.aload_n 0, 1) := by decide +kernel
theorem dL_law_2141 : decode cL_law 2141 = .ok (.iload 4, 2) := by decide +kernel
theorem dL_law_2143 : decode cL_law 2143 = .ok (.iconst 5, 1) := by decide +kernel
theorem dL_law_2144 : decode cL_law 2144 = .ok (.iadd, 1) := by decide +kernel
theorem dL_law_2145 : decode cL_law 2145 = .ok (.iaload, 1) := by decide +kernel
theorem dL_law_2146 : decode cL_law 2146 = .ok (.aload_n 3, 1) := by decide +kernel
theorem dL_law_2147 : decode cL_law 2147 = .ok (.invokestatic 210, 3) := by decide +kernel
theorem dL_law_2150 : decode cL_law 2150 = .ok (.istore 5, 2) := by decide +kernel
theorem dL_law_2152 : decode cL_law 2152 = .ok (.aload_n 2, 1) := by decide +kernel
theorem dL_law_2153 : decode cL_law 2153 = .ok (.aload_n 0, 1) := by decide +kernel
theorem dL_law_2154 : decode cL_law 2154 = .ok (.iload 4, 2) := by decide +kernel
theorem dL_law_2156 : decode cL_law 2156 = .ok (.iconst 1, 1) := by decide +kernel
theorem dL_law_2157 : decode cL_law 2157 = .ok (.iadd, 1) := by decide +kernel
theorem dL_law_2158 : decode cL_law 2158 = .ok (.iaload, 1) := by decide +kernel
theorem dL_law_2159 : decode cL_law 2159 = .ok (.aload_n 0, 1) := by decide +kernel
theorem dL_law_2160 : decode cL_law 2160 = .ok (.iload 4, 2) := by decide +kernel
theorem dL_law_2162 : decode cL_law 2162 = .ok (.iconst 2, 1) := by decide +kernel
theorem dL_law_2163 : decode cL_law 2163 = .ok (.iadd, 1) := by decide +kernel
theorem dL_law_2164 : decode cL_law 2164 = .ok (.iaload, 1) := by decide +kernel
theorem dL_law_2165 : decode cL_law 2165 = .ok (.aload_n 0, 1) := by decide +kernel
theorem dL_law_2166 : decode cL_law 2166 = .ok (.iload 4, 2) := by decide +kernel
theorem dL_law_2168 : decode cL_law 2168 = .ok (.iconst 3, 1) := by decide +kernel
theorem dL_law_2169 : decode cL_law 2169 = .ok (.iadd, 1) := by decide +kernel
theorem dL_law_2170 : decode cL_law 2170 = .ok (.iaload, 1) := by decide +kernel
theorem dL_law_2171 : decode cL_law 2171 = .ok (.aload_n 0, 1) := by decide +kernel
theorem dL_law_2172 : decode cL_law 2172 = .ok (.iload 4, 2) := by decide +kernel
theorem dL_law_2174 : decode cL_law 2174 = .ok (.iconst 4, 1) := by decide +kernel
theorem dL_law_2175 : decode cL_law 2175 = .ok (.iadd, 1) := by decide +kernel
theorem dL_law_2176 : decode cL_law 2176 = .ok (.iaload, 1) := by decide +kernel
theorem dL_law_2177 : decode cL_law 2177 = .ok (.aload_n 0, 1) := by decide +kernel
theorem dL_law_2178 : decode cL_law 2178 = .ok (.iload 4, 2) := by decide +kernel
theorem dL_law_2180 : decode cL_law 2180 = .ok (.iconst 5, 1) := by decide +kernel
theorem dL_law_2181 : decode cL_law 2181 = .ok (.iadd, 1) := by decide +kernel
theorem dL_law_2182 : decode cL_law 2182 = .ok (.iaload, 1) := by decide +kernel
theorem dL_law_2183 : decode cL_law 2183 = .ok (.invokevirtual 213, 3) := by decide +kernel
theorem dL_law_2186 : decode cL_law 2186 = .ok (.istore 6, 2) := by decide +kernel
theorem dL_law_2188 : decode cL_law 2188 = .ok (.aload_n 2, 1) := by decide +kernel
theorem dL_law_2189 : decode cL_law 2189 = .ok (.invokevirtual 106, 3) := by decide +kernel
theorem dL_law_2192 : decode cL_law 2192 = .ok (.iload 5, 2) := by decide +kernel
theorem dL_law_2194 : decode cL_law 2194 = .ok (.if_icmp .eq 5, 3) := by decide +kernel
theorem dL_law_2197 : decode cL_law 2197 = .ok (.iconst 0, 1) := by decide +kernel
theorem dL_law_2198 : decode cL_law 2198 = .ok (.ireturn, 1) := by decide +kernel
theorem dL_law_2199 : decode cL_law 2199 = .ok (.iload 5, 2) := by decide +kernel
theorem dL_law_2201 : decode cL_law 2201 = .ok (.ifCond .ne 15, 3) := by decide +kernel
theorem dL_law_2204 : decode cL_law 2204 = .ok (.aload_n 3, 1) := by decide +kernel
theorem dL_law_2205 : decode cL_law 2205 = .ok (.iconst 0, 1) := by decide +kernel
theorem dL_law_2206 : decode cL_law 2206 = .ok (.laload, 1) := by decide +kernel
theorem dL_law_2207 : decode cL_law 2207 = .ok (.iload 6, 2) := by decide +kernel
theorem dL_law_2209 : decode cL_law 2209 = .ok (.i2l, 1) := by decide +kernel
theorem dL_law_2210 : decode cL_law 2210 = .ok (.lcmp, 1) := by decide +kernel
theorem dL_law_2211 : decode cL_law 2211 = .ok (.ifCond .eq 5, 3) := by decide +kernel
theorem dL_law_2214 : decode cL_law 2214 = .ok (.iconst 0, 1) := by decide +kernel
theorem dL_law_2215 : decode cL_law 2215 = .ok (.ireturn, 1) := by decide +kernel
theorem dL_law_2216 : decode cL_law 2216 = .ok (.goto 107, 3) := by decide +kernel
theorem dL_law_2219 : decode cL_law 2219 = .ok (.aload_n 1, 1) := by decide +kernel
theorem dL_law_2220 : decode cL_law 2220 = .ok (.aload_n 0, 1) := by decide +kernel
theorem dL_law_2221 : decode cL_law 2221 = .ok (.iload 4, 2) := by decide +kernel
theorem dL_law_2223 : decode cL_law 2223 = .ok (.iconst 1, 1) := by decide +kernel
theorem dL_law_2224 : decode cL_law 2224 = .ok (.iadd, 1) := by decide +kernel
theorem dL_law_2225 : decode cL_law 2225 = .ok (.iaload, 1) := by decide +kernel
theorem dL_law_2226 : decode cL_law 2226 = .ok (.aload_n 0, 1) := by decide +kernel
theorem dL_law_2227 : decode cL_law 2227 = .ok (.iload 4, 2) := by decide +kernel
theorem dL_law_2229 : decode cL_law 2229 = .ok (.iconst 2, 1) := by decide +kernel
theorem dL_law_2230 : decode cL_law 2230 = .ok (.iadd, 1) := by decide +kernel
theorem dL_law_2231 : decode cL_law 2231 = .ok (.iaload, 1) := by decide +kernel
theorem dL_law_2232 : decode cL_law 2232 = .ok (.aload_n 0, 1) := by decide +kernel
theorem dL_law_2233 : decode cL_law 2233 = .ok (.iload 4, 2) := by decide +kernel
theorem dL_law_2235 : decode cL_law 2235 = .ok (.iconst 3, 1) := by decide +kernel
theorem dL_law_2236 : decode cL_law 2236 = .ok (.iadd, 1) := by decide +kernel
theorem dL_law_2237 : decode cL_law 2237 = .ok (.iaload, 1) := by decide +kernel
theorem dL_law_2238 : decode cL_law 2238 = .ok (.aload_n 3, 1) := by decide +kernel
theorem dL_law_2239 : decode cL_law 2239 = .ok (.invokestatic 214, 3) := by decide +kernel
theorem dL_law_2242 : decode cL_law 2242 = .ok (.istore 5, 2) := by decide +kernel
theorem dL_law_2244 : decode cL_law 2244 = .ok (.aload_n 2, 1) := by decide +kernel
theorem dL_law_2245 : decode cL_law 2245 = .ok (.aload_n 0, 1) := by decide +kernel
theorem dL_law_2246 : decode cL_law 2246 = .ok (.iload 4, 2) := by decide +kernel
theorem dL_law_2248 : decode cL_law 2248 = .ok (.iconst 1, 1) := by decide +kernel
theorem dL_law_2249 : decode cL_law 2249 = .ok (.iadd, 1) := by decide +kernel
theorem dL_law_2250 : decode cL_law 2250 = .ok (.iaload, 1) := by decide +kernel
theorem dL_law_2251 : decode cL_law 2251 = .ok (.aload_n 0, 1) := by decide +kernel
theorem dL_law_2252 : decode cL_law 2252 = .ok (.iload 4, 2) := by decide +kernel
theorem dL_law_2254 : decode cL_law 2254 = .ok (.iconst 2, 1) := by decide +kernel
theorem dL_law_2255 : decode cL_law 2255 = .ok (.iadd, 1) := by decide +kernel
theorem dL_law_2256 : decode cL_law 2256 = .ok (.iaload, 1) := by decide +kernel
theorem dL_law_2257 : decode cL_law 2257 = .ok (.aload_n 0, 1) := by decide +kernel
theorem dL_law_2258 : decode cL_law 2258 = .ok (.iload 4, 2) := by decide +kernel
theorem dL_law_2260 : decode cL_law 2260 = .ok (.iconst 3, 1) := by decide +kernel
theorem dL_law_2261 : decode cL_law 2261 = .ok (.iadd, 1) := by decide +kernel
theorem dL_law_2262 : decode cL_law 2262 = .ok (.iaload, 1) := by decide +kernel
theorem dL_law_2263 : decode cL_law 2263 = .ok (.invokevirtual 216, 3) := by decide +kernel
theorem dL_law_2266 : decode cL_law 2266 = .ok (.istore 6, 2) := by decide +kernel
theorem dL_law_2268 : decode cL_law 2268 = .ok (.aload_n 2, 1) := by decide +kernel
theorem dL_law_2269 : decode cL_law 2269 = .ok (.invokevirtual 106, 3) := by decide +kernel
theorem dL_law_2272 : decode cL_law 2272 = .ok (.iload 5, 2) := by decide +kernel
theorem dL_law_2274 : decode cL_law 2274 = .ok (.if_icmp .eq 5, 3) := by decide +kernel
theorem dL_law_2277 : decode cL_law 2277 = .ok (.iconst 0, 1) := by decide +kernel
theorem dL_law_2278 : decode cL_law 2278 = .ok (.ireturn, 1) := by decide +kernel
theorem dL_law_2279 : decode cL_law 2279 = .ok (.iload 5, 2) := by decide +kernel
theorem dL_law_2281 : decode cL_law 2281 = .ok (.ifCond .ne 15, 3) := by decide +kernel
theorem dL_law_2284 : decode cL_law 2284 = .ok (.aload_n 3, 1) := by decide +kernel
theorem dL_law_2285 : decode cL_law 2285 = .ok (.iconst 0, 1) := by decide +kernel
theorem dL_law_2286 : decode cL_law 2286 = .ok (.laload, 1) := by decide +kernel
theorem dL_law_2287 : decode cL_law 2287 = .ok (.iload 6, 2) := by decide +kernel
theorem dL_law_2289 : decode cL_law 2289 = .ok (.i2l, 1) := by decide +kernel
theorem dL_law_2290 : decode cL_law 2290 = .ok (.lcmp, 1) := by decide +kernel
theorem dL_law_2291 : decode cL_law 2291 = .ok (.ifCond .eq 5, 3) := by decide +kernel
theorem dL_law_2294 : decode cL_law 2294 = .ok (.iconst 0, 1) := by decide +kernel
theorem dL_law_2295 : decode cL_law 2295 = .ok (.ireturn, 1) := by decide +kernel
theorem dL_law_2296 : decode cL_law 2296 = .ok (.goto 27, 3) := by decide +kernel
theorem dL_law_2299 : decode cL_law 2299 = .ok (.aload_n 1, 1) := by decide +kernel
theorem dL_law_2300 : decode cL_law 2300 = .ok (.invokevirtual 217, 3) := by decide +kernel
theorem dL_law_2303 : decode cL_law 2303 = .ok (.aload_n 2, 1) := by decide +kernel
theorem dL_law_2304 : decode cL_law 2304 = .ok (.invokevirtual 220, 3) := by decide +kernel
theorem dL_law_2307 : decode cL_law 2307 = .ok (.goto 16, 3) := by decide +kernel
theorem dL_law_2310 : decode cL_law 2310 = .ok (.aload_n 1, 1) := by decide +kernel
theorem dL_law_2311 : decode cL_law 2311 = .ok (.invokevirtual 221, 3) := by decide +kernel
theorem dL_law_2314 : decode cL_law 2314 = .ok (.aload_n 2, 1) := by decide +kernel
theorem dL_law_2315 : decode cL_law 2315 = .ok (.invokevirtual 225, 3) := by decide +kernel
theorem dL_law_2318 : decode cL_law 2318 = .ok (.if_icmp .eq 5, 3) := by decide +kernel
theorem dL_law_2321 : decode cL_law 2321 = .ok (.iconst 0, 1) := by decide +kernel
theorem dL_law_2322 : decode cL_law 2322 = .ok (.ireturn, 1) := by decide +kernel
theorem dL_law_2323 : decode cL_law 2323 = .ok (.iinc 4 6, 3) := by decide +kernel
theorem dL_law_2326 : decode cL_law 2326 = .ok (.goto (-2303), 3) := by decide +kernel
theorem dL_law_2329 : decode cL_law 2329 = .ok (.iconst 1, 1) := by decide +kernel
theorem dL_law_2330 : decode cL_law 2330 = .ok (.ireturn, 1) := by decide +kernel
