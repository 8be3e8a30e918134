theorem dL_init_0 : decode cL_init 0 = .ok (.aload_n 0, 1) := by decide +kernel
theorem dL_init_1 : decode cL_init 1 = .ok (.invokespecial 1, 3) := by decide +kernel
theorem dL_init_4 : decode cL_init 4 = .ok (.aload_n 0, 1) := by decide +kernel
theorem dL_init_5 : decode cL_init 5 = .ok (.new 7, 3) := by decide +kernel
theorem dL_init_8 : decode cL_init 8 = .ok (.dup, 1) := by decide +kernel
theorem dL_init_9 : decode cL_init 9 = .ok (.invokespecial 9, 3) := by decide +kernel
theorem dL_init_12 : decode cL_init 12 = .ok (.putfield 10, 3) := by decide +kernel
theorem dL_init_15 : decode cL_init 15 = .ok (.aload_n 0, 1) := by decide +kernel
theorem dL_init_16 : decode cL_init 16 = .ok (.sipush 200, 3) := by decide +kernel
theorem dL_init_19 : decode cL_init 19 = .ok (.newarray .int, 2) := by decide +kernel
theorem dL_init_21 : decode cL_init 21 = .ok (.putfield 16, 3) := by decide +kernel
theorem dL_init_24 : decode cL_init 24 = .ok (.return_, 1) := by decide +kernel
theorem dL_at_0 : decode cL_at 0 = .ok (.iload_n 1, 1) := by decide +kernel
theorem dL_at_1 : decode cL_at 1 = .ok (.aload_n 0, 1) := by decide +kernel
theorem dL_at_2 : decode cL_at 2 = .ok (.arraylength, 1) := by decide +kernel
theorem dL_at_3 : decode cL_at 3 = .ok (.if_icmp .ge 9, 3) := by decide +kernel
theorem dL_at_6 : decode cL_at 6 = .ok (.aload_n 0, 1) := by decide +kernel
theorem dL_at_7 : decode cL_at 7 = .ok (.iload_n 1, 1) := by decide +kernel
theorem dL_at_8 : decode cL_at 8 = .ok (.iaload, 1) := by decide +kernel
theorem dL_at_9 : decode cL_at 9 = .ok (.goto 4, 3) := by decide +kernel
theorem dL_at_12 : decode cL_at 12 = .ok (.iconst 0, 1) := by decide +kernel
theorem dL_at_13 : decode cL_at 13 = .ok (.istore_n 2, 1) := by decide +kernel
theorem dL_at_14 : decode cL_at 14 = .ok (.iload_n 2, 1) := by decide +kernel
theorem dL_at_15 : decode cL_at 15 = .ok (.ifCond .le 22, 3) := by decide +kernel
theorem dL_at_18 : decode cL_at 18 = .ok (.iload_n 2, 1) := by decide +kernel
theorem dL_at_19 : decode cL_at 19 = .ok (.sipush 512, 3) := by decide +kernel
theorem dL_at_22 : decode cL_at 22 = .ok (.if_icmp .ge 15, 3) := by decide +kernel
theorem dL_at_25 : decode cL_at 25 = .ok (.iload_n 2, 1) := by decide +kernel
theorem dL_at_26 : decode cL_at 26 = .ok (.ldc 20, 2) := by decide +kernel
theorem dL_at_28 : decode cL_at 28 = .ok (.imul, 1) := by decide +kernel
theorem dL_at_29 : decode cL_at 29 = .ok (.iload_n 1, 1) := by decide +kernel
theorem dL_at_30 : decode cL_at 30 = .ok (.ldc 21, 2) := by decide +kernel
theorem dL_at_32 : decode cL_at 32 = .ok (.imul, 1) := by decide +kernel
theorem dL_at_33 : decode cL_at 33 = .ok (.ixor, 1) := by decide +kernel
theorem dL_at_34 : decode cL_at 34 = .ok (.goto 4, 3) := by decide +kernel
theorem dL_at_37 : decode cL_at 37 = .ok (.iload_n 2, 1) := by decide +kernel
theorem dL_at_38 : decode cL_at 38 = .ok (.ireturn, 1) := by decide +kernel
theorem dL_draw_0 : decode cL_draw 0 = .ok (.aload_n 0, 1) := by decide +kernel
theorem dL_draw_1 : decode cL_draw 1 = .ok (.getfield 22, 3) := by decide +kernel
theorem dL_draw_4 : decode cL_draw 4 = .ok (.aload_n 0, 1) := by decide +kernel
theorem dL_draw_5 : decode cL_draw 5 = .ok (.getfield 25, 3) := by decide +kernel
theorem dL_draw_8 : decode cL_draw 8 = .ok (.iconst 1, 1) := by decide +kernel
theorem dL_draw_9 : decode cL_draw 9 = .ok (.aload_n 0, 1) := by decide +kernel
theorem dL_draw_10 : decode cL_draw 10 = .ok (.getfield 22, 3) := by decide +kernel
theorem dL_draw_13 : decode cL_draw 13 = .ok (.arraylength, 1) := by decide +kernel
theorem dL_draw_14 : decode cL_draw 14 = .ok (.invokestatic 29, 3) := by decide +kernel
theorem dL_draw_17 : decode cL_draw 17 = .ok (.irem, 1) := by decide +kernel
theorem dL_draw_18 : decode cL_draw 18 = .ok (.invokestatic 35, 3) := by decide +kernel
theorem dL_draw_21 : decode cL_draw 21 = .ok (.aload_n 0, 1) := by decide +kernel
theorem dL_draw_22 : decode cL_draw 22 = .ok (.getfield 25, 3) := by decide +kernel
theorem dL_draw_25 : decode cL_draw 25 = .ok (.ldc 39, 2) := by decide +kernel
theorem dL_draw_27 : decode cL_draw 27 = .ok (.imul, 1) := by decide +kernel
theorem dL_draw_28 : decode cL_draw 28 = .ok (.iadd, 1) := by decide +kernel
theorem dL_draw_29 : decode cL_draw 29 = .ok (.istore_n 2, 1) := by decide +kernel
theorem dL_draw_30 : decode cL_draw 30 = .ok (.aload_n 0, 1) := by decide +kernel
theorem dL_draw_31 : decode cL_draw 31 = .ok (.dup, 1) := by decide +kernel
theorem dL_draw_32 : decode cL_draw 32 = .ok (.getfield 25, 3) := by decide +kernel
theorem dL_draw_35 : decode cL_draw 35 = .ok (.iconst 1, 1) := by decide +kernel
theorem dL_draw_36 : decode cL_draw 36 = .ok (.iadd, 1) := by decide +kernel
theorem dL_draw_37 : decode cL_draw 37 = .ok (.putfield 25, 3) := by decide +kernel
theorem dL_draw_40 : decode cL_draw 40 = .ok (.iload_n 2, 1) := by decide +kernel
theorem dL_draw_41 : decode cL_draw 41 = .ok (.iload_n 2, 1) := by decide +kernel
theorem dL_draw_42 : decode cL_draw 42 = .ok (.bipush 15, 2) := by decide +kernel
theorem dL_draw_44 : decode cL_draw 44 = .ok (.iushr, 1) := by decide +kernel
theorem dL_draw_45 : decode cL_draw 45 = .ok (.ixor, 1) := by decide +kernel
theorem dL_draw_46 : decode cL_draw 46 = .ok (.istore_n 2, 1) := by decide +kernel
theorem dL_draw_47 : decode cL_draw 47 = .ok (.iload_n 2, 1) := by decide +kernel
theorem dL_draw_48 : decode cL_draw 48 = .ok (.ldc 40, 2) := by decide +kernel
theorem dL_draw_50 : decode cL_draw 50 = .ok (.imul, 1) := by decide +kernel
theorem dL_draw_51 : decode cL_draw 51 = .ok (.istore_n 2, 1) := by decide +kernel
theorem dL_draw_52 : decode cL_draw 52 = .ok (.iload_n 2, 1) := by decide +kernel
theorem dL_draw_53 : decode cL_draw 53 = .ok (.iload_n 2, 1) := by decide +kernel
theorem dL_draw_54 : decode cL_draw 54 = .ok (.bipush 13, 2) := by decide +kernel
theorem dL_draw_56 : decode cL_draw 56 = .ok (.iushr, 1) := by decide +kernel
theorem dL_draw_57 : decode cL_draw 57 = .ok (.ixor, 1) := by decide +kernel
theorem dL_draw_58 : decode cL_draw 58 = .ok (.istore_n 2, 1) := by decide +kernel
theorem dL_draw_59 : decode cL_draw 59 = .ok (.iload_n 2, 1) := by decide +kernel
theorem dL_draw_60 : decode cL_draw 60 = .ok (.ldc 41, 2) := by decide +kernel
theorem dL_draw_62 : decode cL_draw 62 = .ok (.iand, 1) := by decide +kernel
theorem dL_draw_63 : decode cL_draw 63 = .ok (.iload_n 1, 1) := by decide +kernel
theorem dL_draw_64 : decode cL_draw 64 = .ok (.irem, 1) := by decide +kernel
theorem dL_draw_65 : decode cL_draw 65 = .ok (.ireturn, 1) := by decide +kernel
theorem dL_addClient_0 : decode cL_addClient 0 = .ok (.aload_n 0, 1) := by decide +kernel
theorem dL_addClient_1 : decode cL_addClient 1 = .ok (.iload_n 1, 1) := by decide +kernel
theorem dL_addClient_2 : decode cL_addClient 2 = .ok (.invokevirtual 42, 3) := by decide +kernel
theorem dL_addClient_5 : decode cL_addClient 5 = .ok (.ireturn, 1) := by decide +kernel
theorem dL_addClient_6 : decode cL_addClient 6 = .ok (.astore_n 2, 1) := by decide +kernel
theorem dL_addClient_7 : decode cL_addClient 7 = .ok (.bipush (-102), 2) := by decide +kernel
theorem dL_addClient_9 : decode cL_addClient 9 = .ok (.ireturn, 1) := by decide +kernel
theorem dL_addClient_10 : decode cL_addClient 10 = .ok (.astore_n 2, 1) := by decide +kernel
theorem dL_addClient_11 : decode cL_addClient 11 = .ok (.bipush (-103), 2) := by decide +kernel
theorem dL_addClient_13 : decode cL_addClient 13 = .ok (.ireturn, 1) := by decide +kernel
theorem dL_setWeight_0 : decode cL_setWeight 0 = .ok (.aload_n 0, 1) := by decide +kernel
theorem dL_setWeight_1 : decode cL_setWeight 1 = .ok (.iload_n 1, 1) := by decide +kernel
theorem dL_setWeight_2 : decode cL_setWeight 2 = .ok (.iload_n 2, 1) := by decide +kernel
theorem dL_setWeight_3 : decode cL_setWeight 3 = .ok (.invokevirtual 50, 3) := by decide +kernel
theorem dL_setWeight_6 : decode cL_setWeight 6 = .ok (.ireturn, 1) := by decide +kernel
theorem dL_setWeight_7 : decode cL_setWeight 7 = .ok (.astore_n 3, 1) := by decide +kernel
theorem dL_setWeight_8 : decode cL_setWeight 8 = .ok (.bipush (-101), 2) := by decide +kernel
theorem dL_setWeight_10 : decode cL_setWeight 10 = .ok (.ireturn, 1) := by decide +kernel
theorem dL_setWeight_11 : decode cL_setWeight 11 = .ok (.astore_n 3, 1) := by decide +kernel
theorem dL_setWeight_12 : decode cL_setWeight 12 = .ok (.bipush (-102), 2) := by decide +kernel
theorem dL_setWeight_14 : decode cL_setWeight 14 = .ok (.ireturn, 1) := by decide +kernel
theorem dL_set_0 : decode cL_set 0 = .ok (.aload_n 0, 1) := by decide +kernel
theorem dL_set_1 : decode cL_set 1 = .ok (.iload_n 1, 1) := by decide +kernel
theorem dL_set_2 : decode cL_set 2 = .ok (.iload_n 2, 1) := by decide +kernel
theorem dL_set_3 : decode cL_set 3 = .ok (.invokevirtual 55, 3) := by decide +kernel
theorem dL_set_6 : decode cL_set 6 = .ok (.ireturn, 1) := by decide +kernel
theorem dL_set_7 : decode cL_set 7 = .ok (.astore_n 3, 1) := by decide +kernel
theorem dL_set_8 : decode cL_set 8 = .ok (.bipush (-102), 2) := by decide +kernel
theorem dL_set_10 : decode cL_set 10 = .ok (.ireturn, 1) := by decide +kernel
theorem dL_shape_0 : decode cL_shape 0 = .ok (.aload_n 0, 1) := by decide +kernel
theorem dL_shape_1 : decode cL_shape 1 = .ok (.iload_n 1, 1) := by decide +kernel
theorem dL_shape_2 : decode cL_shape 2 = .ok (.iload_n 2, 1) := by decide +kernel
theorem dL_shape_3 : decode cL_shape 3 = .ok (.invokevirtual 58, 3) := by decide +kernel
theorem dL_shape_6 : decode cL_shape 6 = .ok (.ireturn, 1) := by decide +kernel
theorem dL_shape_7 : decode cL_shape 7 = .ok (.astore_n 3, 1) := by decide +kernel
theorem dL_shape_8 : decode cL_shape 8 = .ok (.bipush (-102), 2) := by decide +kernel
theorem dL_shape_10 : decode cL_shape 10 = .ok (.ireturn, 1) := by decide +kernel
theorem dL_count_0 : decode cL_count 0 = .ok (.aload_n 0, 1) := by decide +kernel
theorem dL_count_1 : decode cL_count 1 = .ok (.iload_n 1, 1) := by decide +kernel
theorem dL_count_2 : decode cL_count 2 = .ok (.invokevirtual 61, 3) := by decide +kernel
theorem dL_count_5 : decode cL_count 5 = .ok (.ireturn, 1) := by decide +kernel
theorem dL_count_6 : decode cL_count 6 = .ok (.astore_n 2, 1) := by decide +kernel
theorem dL_count_7 : decode cL_count 7 = .ok (.bipush (-102), 2) := by decide +kernel
theorem dL_count_9 : decode cL_count 9 = .ok (.ireturn, 1) := by decide +kernel
theorem dL_client_0 : decode cL_client 0 = .ok (.aload_n 0, 1) := by decide +kernel
theorem dL_client_1 : decode cL_client 1 = .ok (.iload_n 1, 1) := by decide +kernel
theorem dL_client_2 : decode cL_client 2 = .ok (.iload_n 2, 1) := by decide +kernel
theorem dL_client_3 : decode cL_client 3 = .ok (.invokevirtual 64, 3) := by decide +kernel
theorem dL_client_6 : decode cL_client 6 = .ok (.ireturn, 1) := by decide +kernel
theorem dL_client_7 : decode cL_client 7 = .ok (.astore_n 3, 1) := by decide +kernel
theorem dL_client_8 : decode cL_client 8 = .ok (.bipush (-101), 2) := by decide +kernel
theorem dL_client_10 : decode cL_client 10 = .ok (.ireturn, 1) := by decide +kernel
theorem dL_client_11 : decode cL_client 11 = .ok (.astore_n 3, 1) := by decide +kernel
theorem dL_client_12 : decode cL_client 12 = .ok (.bipush (-102), 2) := by decide +kernel
theorem dL_client_14 : decode cL_client 14 = .ok (.ireturn, 1) := by decide +kernel
theorem dL_block_0 : decode cL_block 0 = .ok (.aload_n 0, 1) := by decide +kernel
theorem dL_block_1 : decode cL_block 1 = .ok (.iload_n 1, 1) := by decide +kernel
theorem dL_block_2 : decode cL_block 2 = .ok (.iload_n 2, 1) := by decide +kernel
theorem dL_block_3 : decode cL_block 3 = .ok (.invokevirtual 67, 3) := by decide +kernel
theorem dL_block_6 : decode cL_block 6 = .ok (.ireturn, 1) := by decide +kernel
theorem dL_block_7 : decode cL_block 7 = .ok (.astore_n 3, 1) := by decide +kernel
theorem dL_block_8 : decode cL_block 8 = .ok (.bipush (-102), 2) := by decide +kernel
theorem dL_block_10 : decode cL_block 10 = .ok (.ireturn, 1) := by decide +kernel
theorem dL_at__0 : decode cL_at_ 0 = .ok (.aload_n 0, 1) := by decide +kernel
theorem dL_at__1 : decode cL_at_ 1 = .ok (.iload_n 1, 1) := by decide +kernel
theorem dL_at__2 : decode cL_at_ 2 = .ok (.iload_n 2, 1) := by decide +kernel
theorem dL_at__3 : decode cL_at_ 3 = .ok (.invokevirtual 70, 3) := by decide +kernel
theorem dL_at__6 : decode cL_at_ 6 = .ok (.ireturn, 1) := by decide +kernel
theorem dL_at__7 : decode cL_at_ 7 = .ok (.astore_n 3, 1) := by decide +kernel
theorem dL_at__8 : decode cL_at_ 8 = .ok (.bipush (-101), 2) := by decide +kernel
theorem dL_at__10 : decode cL_at_ 10 = .ok (.ireturn, 1) := by decide +kernel
theorem dL_read_0 : decode cL_read 0 = .ok (.aload_n 0, 1) := by decide +kernel
theorem dL_read_1 : decode cL_read 1 = .ok (.iload_n 1, 1) := by decide +kernel
theorem dL_read_2 : decode cL_read 2 = .ok (.iload_n 2, 1) := by decide +kernel
theorem dL_read_3 : decode cL_read 3 = .ok (.invokevirtual 72, 3) := by decide +kernel
theorem dL_read_6 : decode cL_read 6 = .ok (.ireturn, 1) := by decide +kernel
theorem dL_read_7 : decode cL_read 7 = .ok (.astore_n 3, 1) := by decide +kernel
theorem dL_read_8 : decode cL_read 8 = .ok (.bipush (-101), 2) := by decide +kernel
theorem dL_read_10 : decode cL_read 10 = .ok (.ireturn, 1) := by decide +kernel
theorem dL_read_11 : decode cL_read 11 = .ok (.astore_n 3, 1) := by decide +kernel
theorem dL_read_12 : decode cL_read 12 = .ok (.bipush (-102), 2) := by decide +kernel
theorem dL_read_14 : decode cL_read 14 = .ok (.ireturn, 1) := by decide +kernel
theorem dL_write_0 : decode cL_write 0 = .ok (.aload_n 0, 1) := by decide +kernel
theorem dL_write_1 : decode cL_write 1 = .ok (.iload_n 1, 1) := by decide +kernel
theorem dL_write_2 : decode cL_write 2 = .ok (.iload_n 2, 1) := by decide +kernel
theorem dL_write_3 : decode cL_write 3 = .ok (.iload_n 3, 1) := by decide +kernel
theorem dL_write_4 : decode cL_write 4 = .ok (.invokevirtual 75, 3) := by decide +kernel
theorem dL_write_7 : decode cL_write 7 = .ok (.ireturn, 1) := by decide +kernel
theorem dL_write_8 : decode cL_write 8 = .ok (.astore 4, 2) := by decide +kernel
theorem dL_write_10 : decode cL_write 10 = .ok (.bipush (-101), 2) := by decide +kernel
theorem dL_write_12 : decode cL_write 12 = .ok (.ireturn, 1) := by decide +kernel
theorem dL_write_13 : decode cL_write 13 = .ok (.astore 4, 2) := by decide +kernel
theorem dL_write_15 : decode cL_write 15 = .ok (.bipush (-102), 2) := by decide +kernel
theorem dL_write_17 : decode cL_write 17 = .ok (.ireturn, 1) := by decide +kernel
theorem dL_flush_0 : decode cL_flush 0 = .ok (.aload_n 0, 1) := by decide +kernel
theorem dL_flush_1 : decode cL_flush 1 = .ok (.iload_n 1, 1) := by decide +kernel
theorem dL_flush_2 : decode cL_flush 2 = .ok (.invokevirtual 79, 3) := by decide +kernel
theorem dL_flush_5 : decode cL_flush 5 = .ok (.ireturn, 1) := by decide +kernel
theorem dL_flush_6 : decode cL_flush 6 = .ok (.astore_n 2, 1) := by decide +kernel
theorem dL_flush_7 : decode cL_flush 7 = .ok (.bipush (-102), 2) := by decide +kernel
theorem dL_flush_9 : decode cL_flush 9 = .ok (.ireturn, 1) := by decide +kernel
theorem dL_forget_0 : decode cL_forget 0 = .ok (.aload_n 0, 1) := by decide +kernel
theorem dL_forget_1 : decode cL_forget 1 = .ok (.iload_n 1, 1) := by decide +kernel
theorem dL_forget_2 : decode cL_forget 2 = .ok (.invokevirtual 82, 3) := by decide +kernel
theorem dL_forget_5 : decode cL_forget 5 = .ok (.ifCond .eq 7, 3) := by decide +kernel
theorem dL_forget_8 : decode cL_forget 8 = .ok (.iconst 1, 1) := by decide +kernel
theorem dL_forget_9 : decode cL_forget 9 = .ok (.goto 4, 3) := by decide +kernel
theorem dL_forget_12 : decode cL_forget 12 = .ok (.iconst 0, 1) := by decide +kernel
theorem dL_forget_13 : decode cL_forget 13 = .ok (.ireturn, 1) := by decide +kernel
theorem dL_forget_14 : decode cL_forget 14 = .ok (.astore_n 2, 1) := by decide +kernel
theorem dL_forget_15 : decode cL_forget 15 = .ok (.bipush (-102), 2) := by decide +kernel
theorem dL_forget_17 : decode cL_forget 17 = .ok (.ireturn, 1) := by decide +kernel
theorem dL_order_0 : decode cL_order 0 = .ok (.aload_n 0, 1) := by decide +kernel
theorem dL_order_1 : decode cL_order 1 = .ok (.iload_n 1, 1) := by decide +kernel
theorem dL_order_2 : decode cL_order 2 = .ok (.invokevirtual 92, 3) := by decide +kernel
theorem dL_order_5 : decode cL_order 5 = .ok (.ireturn, 1) := by decide +kernel
theorem dL_order_6 : decode cL_order 6 = .ok (.astore_n 2, 1) := by decide +kernel
theorem dL_order_7 : decode cL_order 7 = .ok (.bipush (-101), 2) := by decide +kernel
theorem dL_order_9 : decode cL_order 9 = .ok (.ireturn, 1) := by decide +kernel
theorem dL_ahead_0 : decode cL_ahead 0 = .ok (.aload_n 0, 1) := by decide +kernel
theorem dL_ahead_1 : decode cL_ahead 1 = .ok (.iload_n 1, 1) := by decide +kernel
theorem dL_ahead_2 : decode cL_ahead 2 = .ok (.iload_n 2, 1) := by decide +kernel
theorem dL_ahead_3 : decode cL_ahead 3 = .ok (.iload_n 3, 1) := by decide +kernel
theorem dL_ahead_4 : decode cL_ahead 4 = .ok (.iload 4, 2) := by decide +kernel
theorem dL_ahead_6 : decode cL_ahead 6 = .ok (.iload 5, 2) := by decide +kernel
theorem dL_ahead_8 : decode cL_ahead 8 = .ok (.invokevirtual 98, 3) := by decide +kernel
theorem dL_ahead_11 : decode cL_ahead 11 = .ok (.ireturn, 1) := by decide +kernel
theorem dL_ahead_12 : decode cL_ahead 12 = .ok (.astore 6, 2) := by decide +kernel
theorem dL_ahead_14 : decode cL_ahead 14 = .ok (.bipush (-101), 2) := by decide +kernel
theorem dL_ahead_16 : decode cL_ahead 16 = .ok (.ireturn, 1) := by decide +kernel
theorem dL_ahead_17 : decode cL_ahead 17 = .ok (.astore 6, 2) := by decide +kernel
theorem dL_ahead_19 : decode cL_ahead 19 = .ok (.bipush (-102), 2) := by decide +kernel
theorem dL_ahead_21 : decode cL_ahead 21 = .ok (.ireturn, 1) := by decide +kernel
theorem dL_bestLength_0 : decode cL_bestLength 0 = .ok (.aload_n 0, 1) := by decide +kernel
theorem dL_bestLength_1 : decode cL_bestLength 1 = .ok (.iload_n 1, 1) := by decide +kernel
theorem dL_bestLength_2 : decode cL_bestLength 2 = .ok (.iload_n 2, 1) := by decide +kernel
theorem dL_bestLength_3 : decode cL_bestLength 3 = .ok (.iload_n 3, 1) := by decide +kernel
theorem dL_bestLength_4 : decode cL_bestLength 4 = .ok (.iload 4, 2) := by decide +kernel
theorem dL_bestLength_6 : decode cL_bestLength 6 = .ok (.invokevirtual 102, 3) := by decide +kernel
theorem dL_bestLength_9 : decode cL_bestLength 9 = .ok (.ireturn, 1) := by decide +kernel
theorem dL_bestLength_10 : decode cL_bestLength 10 = .ok (.astore 5, 2) := by decide +kernel
theorem dL_bestLength_12 : decode cL_bestLength 12 = .ok (.bipush (-101), 2) := by decide +kernel
theorem dL_bestLength_14 : decode cL_bestLength 14 = .ok (.ireturn, 1) := by decide +kernel
theorem dL_bestLength_15 : decode cL_bestLength 15 = .ok (.astore 5, 2) := by decide +kernel
theorem dL_bestLength_17 : decode cL_bestLength 17 = .ok (.bipush (-102), 2) := by decide +kernel
theorem dL_bestLength_19 : decode cL_bestLength 19 = .ok (.ireturn, 1) := by decide +kernel
theorem dL_save_0 : decode cL_save 0 = .ok (.aload_n 0, 1) := by decide +kernel
theorem dL_save_1 : decode cL_save 1 = .ok (.iload_n 1, 1) := by decide +kernel
theorem dL_save_2 : decode cL_save 2 = .ok (.invokevirtual 109, 3) := by decide +kernel
theorem dL_save_5 : decode cL_save 5 = .ok (.iconst 0, 1) := by decide +kernel
theorem dL_save_6 : decode cL_save 6 = .ok (.ireturn, 1) := by decide +kernel
theorem dL_save_7 : decode cL_save 7 = .ok (.astore_n 2, 1) := by decide +kernel
theorem dL_save_8 : decode cL_save 8 = .ok (.bipush (-102), 2) := by decide +kernel
theorem dL_save_10 : decode cL_save 10 = .ok (.ireturn, 1) := by decide +kernel
theorem dL_restore_0 : decode cL_restore 0 = .ok (.aload_n 0, 1) := by decide +kernel
theorem dL_restore_1 : decode cL_restore 1 = .ok (.iload_n 1, 1) := by decide +kernel
theorem dL_restore_2 : decode cL_restore 2 = .ok (.invokevirtual 113, 3) := by decide +kernel
theorem dL_restore_5 : decode cL_restore 5 = .ok (.iconst 0, 1) := by decide +kernel
theorem dL_restore_6 : decode cL_restore 6 = .ok (.ireturn, 1) := by decide +kernel
theorem dL_restore_7 : decode cL_restore 7 = .ok (.astore_n 2, 1) := by decide +kernel
theorem dL_restore_8 : decode cL_restore 8 = .ok (.bipush (-102), 2) := by decide +kernel
theorem dL_restore_10 : decode cL_restore 10 = .ok (.ireturn, 1) := by decide +kernel
theorem dL_restore_11 : decode cL_restore 11 = .ok (.astore_n 2, 1) := by decide +kernel
theorem dL_restore_12 : decode cL_restore 12 = .ok (.bipush (-103), 2) := by decide +kernel
theorem dL_restore_14 : decode cL_restore 14 = .ok (.ireturn, 1) := by decide +kernel
theorem dL_ownedAt_0 : decode cL_ownedAt 0 = .ok (.aload_n 0, 1) := by decide +kernel
theorem dL_ownedAt_1 : decode cL_ownedAt 1 = .ok (.iload_n 1, 1) := by decide +kernel
theorem dL_ownedAt_2 : decode cL_ownedAt 2 = .ok (.iload_n 2, 1) := by decide +kernel
theorem dL_ownedAt_3 : decode cL_ownedAt 3 = .ok (.iload_n 3, 1) := by decide +kernel
theorem dL_ownedAt_4 : decode cL_ownedAt 4 = .ok (.invokevirtual 116, 3) := by decide +kernel
theorem dL_ownedAt_7 : decode cL_ownedAt 7 = .ok (.ireturn, 1) := by decide +kernel
theorem dL_ownedAt_8 : decode cL_ownedAt 8 = .ok (.astore 4, 2) := by decide +kernel
theorem dL_ownedAt_10 : decode cL_ownedAt 10 = .ok (.bipush (-101), 2) := by decide +kernel
theorem dL_ownedAt_12 : decode cL_ownedAt 12 = .ok (.ireturn, 1) := by decide +kernel
theorem dL_excess_0 : decode cL_excess 0 = .ok (.aload_n 0, 1) := by decide +kernel
theorem dL_excess_1 : decode cL_excess 1 = .ok (.iload_n 1, 1) := by decide +kernel
theorem dL_excess_2 : decode cL_excess 2 = .ok (.invokevirtual 119, 3) := by decide +kernel
theorem dL_excess_5 : decode cL_excess 5 = .ok (.freturn, 1) := by decide +kernel
theorem dL_excess_6 : decode cL_excess 6 = .ok (.astore_n 2, 1) := by decide +kernel
theorem dL_excess_7 : decode cL_excess 7 = .ok (.ldc 123, 2) := by decide +kernel
theorem dL_excess_9 : decode cL_excess 9 = .ok (.freturn, 1) := by decide +kernel
theorem dL_toScan_0 : decode cL_toScan 0 = .ok (.aload_n 0, 1) := by decide +kernel
theorem dL_toScan_1 : decode cL_toScan 1 = .ok (.iload_n 1, 1) := by decide +kernel
theorem dL_toScan_2 : decode cL_toScan 2 = .ok (.iload_n 2, 1) := by decide +kernel
theorem dL_toScan_3 : decode cL_toScan 3 = .ok (.invokevirtual 124, 3) := by decide +kernel
theorem dL_toScan_6 : decode cL_toScan 6 = .ok (.ireturn, 1) := by decide +kernel
theorem dL_toScan_7 : decode cL_toScan 7 = .ok (.astore_n 3, 1) := by decide +kernel
theorem dL_toScan_8 : decode cL_toScan 8 = .ok (.bipush (-101), 2) := by decide +kernel
theorem dL_toScan_10 : decode cL_toScan 10 = .ok (.ireturn, 1) := by decide +kernel
theorem dL_toScan_11 : decode cL_toScan 11 = .ok (.astore_n 3, 1) := by decide +kernel
theorem dL_toScan_12 : decode cL_toScan 12 = .ok (.bipush (-102), 2) := by decide +kernel
theorem dL_toScan_14 : decode cL_toScan 14 = .ok (.ireturn, 1) := by decide +kernel
theorem dL_rank_0 : decode cL_rank 0 = .ok (.aload_n 0, 1) := by decide +kernel
theorem dL_rank_1 : decode cL_rank 1 = .ok (.iload_n 1, 1) := by decide +kernel
theorem dL_rank_2 : decode cL_rank 2 = .ok (.invokevirtual 127, 3) := by decide +kernel
theorem dL_rank_5 : decode cL_rank 5 = .ok (.ireturn, 1) := by decide +kernel
theorem dL_rank_6 : decode cL_rank 6 = .ok (.astore_n 2, 1) := by decide +kernel
theorem dL_rank_7 : decode cL_rank 7 = .ok (.bipush (-102), 2) := by decide +kernel
theorem dL_rank_9 : decode cL_rank 9 = .ok (.ireturn, 1) := by decide +kernel
theorem dL_between_0 : decode cL_between 0 = .ok (.aload_n 0, 1) := by decide +kernel
theorem dL_between_1 : decode cL_between 1 = .ok (.iload_n 1, 1) := by decide +kernel
theorem dL_between_2 : decode cL_between 2 = .ok (.iload_n 2, 1) := by decide +kernel
theorem dL_between_3 : decode cL_between 3 = .ok (.iload_n 3, 1) := by decide +kernel
theorem dL_between_4 : decode cL_between 4 = .ok (.invokevirtual 130, 3) := by decide +kernel
theorem dL_between_7 : decode cL_between 7 = .ok (.ireturn, 1) := by decide +kernel
theorem dL_between_8 : decode cL_between 8 = .ok (.astore 4, 2) := by decide +kernel
theorem dL_between_10 : decode cL_between 10 = .ok (.bipush (-101), 2) := by decide +kernel
theorem dL_between_12 : decode cL_between 12 = .ok (.ireturn, 1) := by decide +kernel
theorem dL_between_13 : decode cL_between 13 = .ok (.astore 4, 2) := by decide +kernel
theorem dL_between_15 : decode cL_between 15 = .ok (.bipush (-102), 2) := by decide +kernel
theorem dL_between_17 : decode cL_between 17 = .ok (.ireturn, 1) := by decide +kernel
theorem dL_longest_0 : decode cL_longest 0 = .ok (.aload_n 0, 1) := by decide +kernel
theorem dL_longest_1 : decode cL_longest 1 = .ok (.iload_n 1, 1) := by decide +kernel
theorem dL_longest_2 : decode cL_longest 2 = .ok (.invokevirtual 133, 3) := by decide +kernel
theorem dL_longest_5 : decode cL_longest 5 = .ok (.ireturn, 1) := by decide +kernel
theorem dL_longest_6 : decode cL_longest 6 = .ok (.astore_n 2, 1) := by decide +kernel
theorem dL_longest_7 : decode cL_longest 7 = .ok (.bipush (-101), 2) := by decide +kernel
theorem dL_longest_9 : decode cL_longest 9 = .ok (.ireturn, 1) := by decide +kernel
theorem dL_stale_0 : decode cL_stale 0 = .ok (.aload_n 0, 1) := by decide +kernel
theorem dL_stale_1 : decode cL_stale 1 = .ok (.iload_n 1, 1) := by decide +kernel
theorem dL_stale_2 : decode cL_stale 2 = .ok (.invokevirtual 136, 3) := by decide +kernel
theorem dL_stale_5 : decode cL_stale 5 = .ok (.ireturn, 1) := by decide +kernel
theorem dL_stale_6 : decode cL_stale 6 = .ok (.astore_n 2, 1) := by decide +kernel
theorem dL_stale_7 : decode cL_stale 7 = .ok (.bipush (-102), 2) := by decide +kernel
theorem dL_stale_9 : decode cL_stale 9 = .ok (.ireturn, 1) := by decide +kernel
theorem dL_wouldBe_0 : decode cL_wouldBe 0 = .ok (.aload_n 0, 1) := by decide +kernel
theorem dL_wouldBe_1 : decode cL_wouldBe 1 = .ok (.iload_n 1, 1) := by decide +kernel
theorem dL_wouldBe_2 : decode cL_wouldBe 2 = .ok (.iload_n 2, 1) := by decide +kernel
theorem dL_wouldBe_3 : decode cL_wouldBe 3 = .ok (.iload_n 3, 1) := by decide +kernel
theorem dL_wouldBe_4 : decode cL_wouldBe 4 = .ok (.invokevirtual 139, 3) := by decide +kernel
theorem dL_wouldBe_7 : decode cL_wouldBe 7 = .ok (.ireturn, 1) := by decide +kernel
theorem dL_wouldBe_8 : decode cL_wouldBe 8 = .ok (.astore 4, 2) := by decide +kernel
theorem dL_wouldBe_10 : decode cL_wouldBe 10 = .ok (.bipush (-101), 2) := by decide +kernel
theorem dL_wouldBe_12 : decode cL_wouldBe 12 = .ok (.ireturn, 1) := by decide +kernel
theorem dL_wouldBe_13 : decode cL_wouldBe 13 = .ok (.astore 4, 2) := by decide +kernel
theorem dL_wouldBe_15 : decode cL_wouldBe 15 = .ok (.bipush (-102), 2) := by decide +kernel
theorem dL_wouldBe_17 : decode cL_wouldBe 17 = .ok (.ireturn, 1) := by decide +kernel
theorem dL_someBlock_0 : decode cL_someBlock 0 = .ok (.aload_n 0, 1) := by decide +kernel
theorem dL_someBlock_1 : decode cL_someBlock 1 = .ok (.bipush 9, 2) := by decide +kernel
theorem dL_someBlock_3 : decode cL_someBlock 3 = .ok (.invokevirtual 142, 3) := by decide +kernel
theorem dL_someBlock_6 : decode cL_someBlock 6 = .ok (.ifCond .ne 13, 3) := by decide +kernel
theorem dL_someBlock_9 : decode cL_someBlock 9 = .ok (.aload_n 0, 1) := by decide +kernel
theorem dL_someBlock_10 : decode cL_someBlock 10 = .ok (.sipush 200, 3) := by decide +kernel
theorem dL_someBlock_13 : decode cL_someBlock 13 = .ok (.invokevirtual 142, 3) := by decide +kernel
theorem dL_someBlock_16 : decode cL_someBlock 16 = .ok (.goto 20, 3) := by decide +kernel
theorem dL_someBlock_19 : decode cL_someBlock 19 = .ok (.sipush 199, 3) := by decide +kernel
theorem dL_someBlock_22 : decode cL_someBlock 22 = .ok (.aload_n 0, 1) := by decide +kernel
theorem dL_someBlock_23 : decode cL_someBlock 23 = .ok (.getfield 145, 3) := by decide +kernel
theorem dL_someBlock_26 : decode cL_someBlock 26 = .ok (.aload_n 0, 1) := by decide +kernel
theorem dL_someBlock_27 : decode cL_someBlock 27 = .ok (.bipush 24, 2) := by decide +kernel
theorem dL_someBlock_29 : decode cL_someBlock 29 = .ok (.invokevirtual 142, 3) := by decide +kernel
theorem dL_someBlock_32 : decode cL_someBlock 32 = .ok (.iadd, 1) := by decide +kernel
theorem dL_someBlock_33 : decode cL_someBlock 33 = .ok (.invokestatic 148, 3) := by decide +kernel
theorem dL_someBlock_36 : decode cL_someBlock 36 = .ok (.ireturn, 1) := by decide +kernel
theorem dL_begins_0 : decode cL_begins 0 = .ok (.iconst 0, 1) := by decide +kernel
theorem dL_begins_1 : decode cL_begins 1 = .ok (.istore_n 1, 1) := by decide +kernel
theorem dL_begins_2 : decode cL_begins 2 = .ok (.iload_n 1, 1) := by decide +kernel
theorem dL_begins_3 : decode cL_begins 3 = .ok (.sipush 200, 3) := by decide +kernel
theorem dL_begins_6 : decode cL_begins 6 = .ok (.if_icmp .ge 22, 3) := by decide +kernel
theorem dL_begins_9 : decode cL_begins 9 = .ok (.aload_n 0, 1) := by decide +kernel
theorem dL_begins_10 : decode cL_begins 10 = .ok (.getfield 16, 3) := by decide +kernel
theorem dL_begins_13 : decode cL_begins 13 = .ok (.iload_n 1, 1) := by decide +kernel
theorem dL_begins_14 : decode cL_begins 14 = .ok (.iconst 5, 1) := by decide +kernel
theorem dL_begins_15 : decode cL_begins 15 = .ok (.iload_n 1, 1) := by decide +kernel
theorem dL_begins_16 : decode cL_begins 16 = .ok (.imul, 1) := by decide +kernel
theorem dL_begins_17 : decode cL_begins 17 = .ok (.sipush 1000, 3) := by decide +kernel
theorem dL_begins_20 : decode cL_begins 20 = .ok (.irem, 1) := by decide +kernel
theorem dL_begins_21 : decode cL_begins 21 = .ok (.iastore, 1) := by decide +kernel
theorem dL_begins_22 : decode cL_begins 22 = .ok (.iinc 1 1, 3) := by decide +kernel
theorem dL_begins_25 : decode cL_begins 25 = .ok (.goto (-23), 3) := by decide +kernel
theorem dL_begins_28 : decode cL_begins 28 = .ok (.iconst 1, 1) := by decide +kernel
theorem dL_begins_29 : decode cL_begins 29 = .ok (.aload_n 0, 1) := by decide +kernel
theorem dL_begins_30 : decode cL_begins 30 = .ok (.iconst 4, 1) := by decide +kernel
theorem dL_begins_31 : decode cL_begins 31 = .ok (.invokevirtual 142, 3) := by decide +kernel
theorem dL_begins_34 : decode cL_begins 34 = .ok (.iadd, 1) := by decide +kernel
theorem dL_begins_35 : decode cL_begins 35 = .ok (.istore_n 1, 1) := by decide +kernel
theorem dL_begins_36 : decode cL_begins 36 = .ok (.iconst 0, 1) := by decide +kernel
theorem dL_begins_37 : decode cL_begins 37 = .ok (.istore_n 2, 1) := by decide +kernel
theorem dL_begins_38 : decode cL_begins 38 = .ok (.iload_n 2, 1) := by decide +kernel
theorem dL_begins_39 : decode cL_begins 39 = .ok (.iload_n 1, 1) := by decide +kernel
theorem dL_begins_40 : decode cL_begins 40 = .ok (.if_icmp .ge 30, 3) := by decide +kernel
theorem dL_begins_43 : decode cL_begins 43 = .ok (.aload_n 0, 1) := by decide +kernel
theorem dL_begins_44 : decode cL_begins 44 = .ok (.getfield 10, 3) := by decide +kernel
theorem dL_begins_47 : decode cL_begins 47 = .ok (.iconst 1, 1) := by decide +kernel
theorem dL_begins_48 : decode cL_begins 48 = .ok (.aload_n 0, 1) := by decide +kernel
theorem dL_begins_49 : decode cL_begins 49 = .ok (.bipush 9, 2) := by decide +kernel
theorem dL_begins_51 : decode cL_begins 51 = .ok (.invokevirtual 142, 3) := by decide +kernel
theorem dL_begins_54 : decode cL_begins 54 = .ok (.iadd, 1) := by decide +kernel
theorem dL_begins_55 : decode cL_begins 55 = .ok (.invokestatic 151, 3) := by decide +kernel
theorem dL_begins_58 : decode cL_begins 58 = .ok (.iload_n 2, 1) := by decide +kernel
theorem dL_begins_59 : decode cL_begins 59 = .ok (.if_icmp .eq 5, 3) := by decide +kernel
theorem dL_begins_62 : decode cL_begins 62 = .ok (.iconst 0, 1) := by decide +kernel
theorem dL_begins_63 : decode cL_begins 63 = .ok (.ireturn, 1) := by decide +kernel
theorem dL_begins_64 : decode cL_begins 64 = .ok (.iinc 2 1, 3) := by decide +kernel
theorem dL_begins_67 : decode cL_begins 67 = .ok (.goto (-29), 3) := by decide +kernel
theorem dL_begins_70 : decode cL_begins 70 = .ok (.aload_n 0, 1) := by decide +kernel
theorem dL_begins_71 : decode cL_begins 71 = .ok (.aload_n 0, 1) := by decide +kernel
theorem dL_begins_72 : decode cL_begins 72 = .ok (.sipush 176, 3) := by decide +kernel
theorem dL_begins_75 : decode cL_begins 75 = .ok (.invokevirtual 142, 3) := by decide +kernel
theorem dL_begins_78 : decode cL_begins 78 = .ok (.putfield 145, 3) := by decide +kernel
theorem dL_begins_81 : decode cL_begins 81 = .ok (.aload_n 0, 1) := by decide +kernel
theorem dL_begins_82 : decode cL_begins 82 = .ok (.getfield 10, 3) := by decide +kernel
theorem dL_begins_85 : decode cL_begins 85 = .ok (.iconst 2, 1) := by decide +kernel
theorem dL_begins_86 : decode cL_begins 86 = .ok (.aload_n 0, 1) := by decide +kernel
theorem dL_begins_87 : decode cL_begins 87 = .ok (.bipush 10, 2) := by decide +kernel
theorem dL_begins_89 : decode cL_begins 89 = .ok (.invokevirtual 142, 3) := by decide +kernel
theorem dL_begins_92 : decode cL_begins 92 = .ok (.iadd, 1) := by decide +kernel
theorem dL_begins_93 : decode cL_begins 93 = .ok (.iconst 2, 1) := by decide +kernel
theorem dL_begins_94 : decode cL_begins 94 = .ok (.aload_n 0, 1) := by decide +kernel
theorem dL_begins_95 : decode cL_begins 95 = .ok (.bipush 14, 2) := by decide +kernel
theorem dL_begins_97 : decode cL_begins 97 = .ok (.invokevirtual 142, 3) := by decide +kernel
theorem dL_begins_100 : decode cL_begins 100 = .ok (.iadd, 1) := by decide +kernel
theorem dL_begins_101 : decode cL_begins 101 = .ok (.invokestatic 154, 3) := by decide +kernel
theorem dL_begins_104 : decode cL_begins 104 = .ok (.ifCond .ne 46, 3) := by decide +kernel
theorem dL_begins_107 : decode cL_begins 107 = .ok (.aload_n 0, 1) := by decide +kernel
theorem dL_begins_108 : decode cL_begins 108 = .ok (.getfield 10, 3) := by decide +kernel
theorem dL_begins_111 : decode cL_begins 111 = .ok (.iconst 0, 1) := by decide +kernel
theorem dL_begins_112 : decode cL_begins 112 = .ok (.iconst 2, 1) := by decide +kernel
theorem dL_begins_113 : decode cL_begins 113 = .ok (.aload_n 0, 1) := by decide +kernel
theorem dL_begins_114 : decode cL_begins 114 = .ok (.bipush 8, 2) := by decide +kernel
theorem dL_begins_116 : decode cL_begins 116 = .ok (.invokevirtual 142, 3) := by decide +kernel
theorem dL_begins_119 : decode cL_begins 119 = .ok (.iadd, 1) := by decide +kernel
theorem dL_begins_120 : decode cL_begins 120 = .ok (.invokestatic 157, 3) := by decide +kernel
theorem dL_begins_123 : decode cL_begins 123 = .ok (.iconst 4, 1) := by decide +kernel
theorem dL_begins_124 : decode cL_begins 124 = .ok (.if_icmp .ne 26, 3) := by decide +kernel
theorem dL_begins_127 : decode cL_begins 127 = .ok (.aload_n 0, 1) := by decide +kernel
theorem dL_begins_128 : decode cL_begins 128 = .ok (.getfield 10, 3) := by decide +kernel
theorem dL_begins_131 : decode cL_begins 131 = .ok (.iconst 1, 1) := by decide +kernel
theorem dL_begins_132 : decode cL_begins 132 = .ok (.aload_n 0, 1) := by decide +kernel
theorem dL_begins_133 : decode cL_begins 133 = .ok (.bipush 10, 2) := by decide +kernel
theorem dL_begins_135 : decode cL_begins 135 = .ok (.invokevirtual 142, 3) := by decide +kernel
theorem dL_begins_138 : decode cL_begins 138 = .ok (.invokestatic 157, 3) := by decide +kernel
theorem dL_begins_141 : decode cL_begins 141 = .ok (.bipush 8, 2) := by decide +kernel
theorem dL_begins_143 : decode cL_begins 143 = .ok (.if_icmp .ne 7, 3) := by decide +kernel
theorem dL_begins_146 : decode cL_begins 146 = .ok (.iconst 1, 1) := by decide +kernel
theorem dL_begins_147 : decode cL_begins 147 = .ok (.goto 4, 3) := by decide +kernel
theorem dL_begins_150 : decode cL_begins 150 = .ok (.iconst 0, 1) := by decide +kernel
theorem dL_begins_151 : decode cL_begins 151 = .ok (.ireturn, 1) := by decide +kernel
theorem dL_listsAreSo_0 : decode cL_listsAreSo 0 = .ok (.aload_n 0, 1) := by decide +kernel
theorem dL_listsAreSo_1 : decode cL_listsAreSo 1 = .ok (.getfield 10, 3) := by decide +kernel
theorem dL_listsAreSo_4 : decode cL_listsAreSo 4 = .ok (.iconst 2, 1) := by decide +kernel
theorem dL_listsAreSo_5 : decode cL_listsAreSo 5 = .ok (.invokestatic 159, 3) := by decide +kernel
theorem dL_listsAreSo_8 : decode cL_listsAreSo 8 = .ok (.istore_n 1, 1) := by decide +kernel
theorem dL_listsAreSo_9 : decode cL_listsAreSo 9 = .ok (.iconst 0, 1) := by decide +kernel
theorem dL_listsAreSo_10 : decode cL_listsAreSo 10 = .ok (.istore_n 2, 1) := by decide +kernel
theorem dL_listsAreSo_11 : decode cL_listsAreSo 11 = .ok (.iconst 0, 1) := by decide +kernel
theorem dL_listsAreSo_12 : decode cL_listsAreSo 12 = .ok (.istore_n 3, 1) := by decide +kernel
theorem dL_listsAreSo_13 : decode cL_listsAreSo 13 = .ok (.iconst 0, 1) := by decide +kernel
theorem dL_listsAreSo_14 : decode cL_listsAreSo 14 = .ok (.istore 4, 2) := by decide +kernel
theorem dL_listsAreSo_16 : decode cL_listsAreSo 16 = .ok (.iconst 0, 1) := by decide +kernel
theorem dL_listsAreSo_17 : decode cL_listsAreSo 17 = .ok (.istore 5, 2) := by decide +kernel
theorem dL_listsAreSo_19 : decode cL_listsAreSo 19 = .ok (.iload 5, 2) := by decide +kernel
theorem dL_listsAreSo_21 : decode cL_listsAreSo 21 = .ok (.iconst 5, 1) := by decide +kernel
theorem dL_listsAreSo_22 : decode cL_listsAreSo 22 = .ok (.if_icmp .ge 361, 3) := by decide +kernel
theorem dL_listsAreSo_25 : decode cL_listsAreSo 25 = .ok (.aload_n 0, 1) := by decide +kernel
theorem dL_listsAreSo_26 : decode cL_listsAreSo 26 = .ok (.getfield 10, 3) := by decide +kernel
theorem dL_listsAreSo_29 : decode cL_listsAreSo 29 = .ok (.bipush 7, 2) := by decide +kernel
theorem dL_listsAreSo_31 : decode cL_listsAreSo 31 = .ok (.iload 5, 2) := by decide +kernel
theorem dL_listsAreSo_33 : decode cL_listsAreSo 33 = .ok (.iadd, 1) := by decide +kernel
theorem dL_listsAreSo_34 : decode cL_listsAreSo 34 = .ok (.invokestatic 159, 3) := by decide +kernel
theorem dL_listsAreSo_37 : decode cL_listsAreSo 37 = .ok (.istore 6, 2) := by decide +kernel
theorem dL_listsAreSo_39 : decode cL_listsAreSo 39 = .ok (.iload 6, 2) := by decide +kernel
theorem dL_listsAreSo_41 : decode cL_listsAreSo 41 = .ok (.iload 5, 2) := by decide +kernel
theorem dL_listsAreSo_43 : decode cL_listsAreSo 43 = .ok (.iconst 2, 1) := by decide +kernel
theorem dL_listsAreSo_44 : decode cL_listsAreSo 44 = .ok (.if_icmp .ne 14, 3) := by decide +kernel
theorem dL_listsAreSo_47 : decode cL_listsAreSo 47 = .ok (.aload_n 0, 1) := by decide +kernel
theorem dL_listsAreSo_48 : decode cL_listsAreSo 48 = .ok (.getfield 10, 3) := by decide +kernel
theorem dL_listsAreSo_51 : decode cL_listsAreSo 51 = .ok (.iconst 3, 1) := by decide +kernel
theorem dL_listsAreSo_52 : decode cL_listsAreSo 52 = .ok (.invokestatic 159, 3) := by decide +kernel
theorem dL_listsAreSo_55 : decode cL_listsAreSo 55 = .ok (.goto 4, 3) := by decide +kernel
theorem dL_listsAreSo_58 : decode cL_listsAreSo 58 = .ok (.iload_n 1, 1) := by decide +kernel
theorem dL_listsAreSo_59 : decode cL_listsAreSo 59 = .ok (.if_icmp .gt 18, 3) := by decide +kernel
theorem dL_listsAreSo_62 : decode cL_listsAreSo 62 = .ok (.aload_n 0, 1) := by decide +kernel
theorem dL_listsAreSo_63 : decode cL_listsAreSo 63 = .ok (.getfield 10, 3) := by decide +kernel
theorem dL_listsAreSo_66 : decode cL_listsAreSo 66 = .ok (.iload 5, 2) := by decide +kernel
theorem dL_listsAreSo_68 : decode cL_listsAreSo 68 = .ok (.iload 6, 2) := by decide +kernel
theorem dL_listsAreSo_70 : decode cL_listsAreSo 70 = .ok (.invokestatic 161, 3) := by decide +kernel
theorem dL_listsAreSo_73 : decode cL_listsAreSo 73 = .ok (.iconst (-1), 1) := by decide +kernel
theorem dL_listsAreSo_74 : decode cL_listsAreSo 74 = .ok (.if_icmp .eq 5, 3) := by decide +kernel
theorem dL_listsAreSo_77 : decode cL_listsAreSo 77 = .ok (.iconst 0, 1) := by decide +kernel
theorem dL_listsAreSo_78 : decode cL_listsAreSo 78 = .ok (.ireturn, 1) := by decide +kernel
theorem dL_listsAreSo_79 : decode cL_listsAreSo 79 = .ok (.iconst 0, 1) := by decide +kernel
theorem dL_listsAreSo_80 : decode cL_listsAreSo 80 = .ok (.istore 7, 2) := by decide +kernel
theorem dL_listsAreSo_82 : decode cL_listsAreSo 82 = .ok (.iload 7, 2) := by decide +kernel
theorem dL_listsAreSo_84 : decode cL_listsAreSo 84 = .ok (.iload 6, 2) := by decide +kernel
theorem dL_listsAreSo_86 : decode cL_listsAreSo 86 = .ok (.if_icmp .ge 226, 3) := by decide +kernel
theorem dL_listsAreSo_89 : decode cL_listsAreSo 89 = .ok (.aload_n 0, 1) := by decide +kernel
theorem dL_listsAreSo_90 : decode cL_listsAreSo 90 = .ok (.getfield 10, 3) := by decide +kernel
theorem dL_listsAreSo_93 : decode cL_listsAreSo 93 = .ok (.iload 5, 2) := by decide +kernel
theorem dL_listsAreSo_95 : decode cL_listsAreSo 95 = .ok (.iload 7, 2) := by decide +kernel
theorem dL_listsAreSo_97 : decode cL_listsAreSo 97 = .ok (.invokestatic 161, 3) := by decide +kernel
theorem dL_listsAreSo_100 : decode cL_listsAreSo 100 = .ok (.istore 8, 2) := by decide +kernel
theorem dL_listsAreSo_102 : decode cL_listsAreSo 102 = .ok (.iload 8, 2) := by decide +kernel
theorem dL_listsAreSo_104 : decode cL_listsAreSo 104 = .ok (.ifCond .ge 5, 3) := by decide +kernel
theorem dL_listsAreSo_107 : decode cL_listsAreSo 107 = .ok (.iconst 0, 1) := by decide +kernel
theorem dL_listsAreSo_108 : decode cL_listsAreSo 108 = .ok (.ireturn, 1) := by decide +kernel
theorem dL_listsAreSo_109 : decode cL_listsAreSo 109 = .ok (.iload 5, 2) := by decide +kernel
theorem dL_listsAreSo_111 : decode cL_listsAreSo 111 = .ok (.iconst 3, 1) := by decide +kernel
theorem dL_listsAreSo_112 : decode cL_listsAreSo 112 = .ok (.if_icmp .ge 33, 3) := by decide +kernel
theorem dL_listsAreSo_115 : decode cL_listsAreSo 115 = .ok (.aload_n 0, 1) := by decide +kernel
theorem dL_listsAreSo_116 : decode cL_listsAreSo 116 = .ok (.getfield 10, 3) := by decide +kernel
theorem dL_listsAreSo_119 : decode cL_listsAreSo 119 = .ok (.iload 8, 2) := by decide +kernel
theorem dL_listsAreSo_121 : decode cL_listsAreSo 121 = .ok (.iconst 0, 1) := by decide +kernel
theorem dL_listsAreSo_122 : decode cL_listsAreSo 122 = .ok (.invokestatic 163, 3) := by decide +kernel
theorem dL_listsAreSo_125 : decode cL_listsAreSo 125 = .ok (.iload 5, 2) := by decide +kernel
theorem dL_listsAreSo_127 : decode cL_listsAreSo 127 = .ok (.if_icmp .ne 66, 3) := by decide +kernel
theorem dL_listsAreSo_130 : decode cL_listsAreSo 130 = .ok (.aload_n 0, 1) := by decide +kernel
theorem dL_listsAreSo_131 : decode cL_listsAreSo 131 = .ok (.getfield 10, 3) := by decide +kernel
theorem dL_listsAreSo_134 : decode cL_listsAreSo 134 = .ok (.iload 8, 2) := by decide +kernel
theorem dL_listsAreSo_136 : decode cL_listsAreSo 136 = .ok (.iconst 1, 1) := by decide +kernel
theorem dL_listsAreSo_137 : decode cL_listsAreSo 137 = .ok (.invokestatic 163, 3) := by decide +kernel
theorem dL_listsAreSo_140 : decode cL_listsAreSo 140 = .ok (.iload 7, 2) := by decide +kernel
theorem dL_listsAreSo_142 : decode cL_listsAreSo 142 = .ok (.if_icmp .ne 51, 3) := by decide +kernel
theorem dL_listsAreSo_145 : decode cL_listsAreSo 145 = .ok (.iload 5, 2) := by decide +kernel
theorem dL_listsAreSo_147 : decode cL_listsAreSo 147 = .ok (.iconst 2, 1) := by decide +kernel
theorem dL_listsAreSo_148 : decode cL_listsAreSo 148 = .ok (.if_icmp .le 47, 3) := by decide +kernel
theorem dL_listsAreSo_151 : decode cL_listsAreSo 151 = .ok (.aload_n 0, 1) := by decide +kernel
theorem dL_listsAreSo_152 : decode cL_listsAreSo 152 = .ok (.getfield 10, 3) := by decide +kernel
theorem dL_listsAreSo_155 : decode cL_listsAreSo 155 = .ok (.iload 8, 2) := by decide +kernel
theorem dL_listsAreSo_157 : decode cL_listsAreSo 157 = .ok (.iconst 5, 1) := by decide +kernel
theorem dL_listsAreSo_158 : decode cL_listsAreSo 158 = .ok (.invokestatic 163, 3) := by decide +kernel
theorem dL_listsAreSo_161 : decode cL_listsAreSo 161 = .ok (.iload 5, 2) := by decide +kernel
theorem dL_listsAreSo_163 : decode cL_listsAreSo 163 = .ok (.if_icmp .ne 30, 3) := by decide +kernel
theorem dL_listsAreSo_166 : decode cL_listsAreSo 166 = .ok (.aload_n 0, 1) := by decide +kernel
theorem dL_listsAreSo_167 : decode cL_listsAreSo 167 = .ok (.getfield 10, 3) := by decide +kernel
theorem dL_listsAreSo_170 : decode cL_listsAreSo 170 = .ok (.iload 8, 2) := by decide +kernel
theorem dL_listsAreSo_172 : decode cL_listsAreSo 172 = .ok (.iconst 0, 1) := by decide +kernel
theorem dL_listsAreSo_173 : decode cL_listsAreSo 173 = .ok (.invokestatic 163, 3) := by decide +kernel
theorem dL_listsAreSo_176 : decode cL_listsAreSo 176 = .ok (.ifCond .eq 17, 3) := by decide +kernel
theorem dL_listsAreSo_179 : decode cL_listsAreSo 179 = .ok (.aload_n 0, 1) := by decide +kernel
theorem dL_listsAreSo_180 : decode cL_listsAreSo 180 = .ok (.getfield 10, 3) := by decide +kernel
theorem dL_listsAreSo_183 : decode cL_listsAreSo 183 = .ok (.iload 8, 2) := by decide +kernel
theorem dL_listsAreSo_185 : decode cL_listsAreSo 185 = .ok (.iconst 0, 1) := by decide +kernel
theorem dL_listsAreSo_186 : decode cL_listsAreSo 186 = .ok (.invokestatic 163, 3) := by decide +kernel
theorem dL_listsAreSo_189 : decode cL_listsAreSo 189 = .ok (.iconst 1, 1) := by decide +kernel
theorem dL_listsAreSo_190 : decode cL_listsAreSo 190 = .ok (.if_icmp .ne 5, 3) := by decide +kernel
theorem dL_listsAreSo_193 : decode cL_listsAreSo 193 = .ok (.iconst 0, 1) := by decide +kernel
theorem dL_listsAreSo_194 : decode cL_listsAreSo 194 = .ok (.ireturn, 1) := by decide +kernel
theorem dL_listsAreSo_195 : decode cL_listsAreSo 195 = .ok (.iload 5, 2) := by decide +kernel
theorem dL_listsAreSo_197 : decode cL_listsAreSo 197 = .ok (.iconst 2, 1) := by decide +kernel
theorem dL_listsAreSo_198 : decode cL_listsAreSo 198 = .ok (.if_icmp .ge 19, 3) := by decide +kernel
theorem dL_listsAreSo_201 : decode cL_listsAreSo 201 = .ok (.aload_n 0, 1) := by decide +kernel
theorem dL_listsAreSo_202 : decode cL_listsAreSo 202 = .ok (.getfield 10, 3) := by decide +kernel
theorem dL_listsAreSo_205 : decode cL_listsAreSo 205 = .ok (.iload 8, 2) := by decide +kernel
theorem dL_listsAreSo_207 : decode cL_listsAreSo 207 = .ok (.iconst 5, 1) := by decide +kernel
theorem dL_listsAreSo_208 : decode cL_listsAreSo 208 = .ok (.invokestatic 163, 3) := by decide +kernel
theorem dL_listsAreSo_211 : decode cL_listsAreSo 211 = .ok (.iconst (-1), 1) := by decide +kernel
theorem dL_listsAreSo_212 : decode cL_listsAreSo 212 = .ok (.if_icmp .eq 5, 3) := by decide +kernel
theorem dL_listsAreSo_215 : decode cL_listsAreSo 215 = .ok (.iconst 0, 1) := by decide +kernel
theorem dL_listsAreSo_216 : decode cL_listsAreSo 216 = .ok (.ireturn, 1) := by decide +kernel
theorem dL_listsAreSo_217 : decode cL_listsAreSo 217 = .ok (.iload 5, 2) := by decide +kernel
theorem dL_listsAreSo_219 : decode cL_listsAreSo 219 = .ok (.iconst 3, 1) := by decide +kernel
theorem dL_listsAreSo_220 : decode cL_listsAreSo 220 = .ok (.if_icmp .ge 59, 3) := by decide +kernel
theorem dL_listsAreSo_223 : decode cL_listsAreSo 223 = .ok (.aload_n 0, 1) := by decide +kernel
theorem dL_listsAreSo_224 : decode cL_listsAreSo 224 = .ok (.getfield 10, 3) := by decide +kernel
theorem dL_listsAreSo_227 : decode cL_listsAreSo 227 = .ok (.iload 8, 2) := by decide +kernel
theorem dL_listsAreSo_229 : decode cL_listsAreSo 229 = .ok (.iconst 2, 1) := by decide +kernel
theorem dL_listsAreSo_230 : decode cL_listsAreSo 230 = .ok (.invokestatic 163, 3) := by decide +kernel
theorem dL_listsAreSo_233 : decode cL_listsAreSo 233 = .ok (.aload_n 0, 1) := by decide +kernel
theorem dL_listsAreSo_234 : decode cL_listsAreSo 234 = .ok (.getfield 16, 3) := by decide +kernel
theorem dL_listsAreSo_237 : decode cL_listsAreSo 237 = .ok (.iload 8, 2) := by decide +kernel
theorem dL_listsAreSo_239 : decode cL_listsAreSo 239 = .ok (.iaload, 1) := by decide +kernel
theorem dL_listsAreSo_240 : decode cL_listsAreSo 240 = .ok (.if_icmp .ne 37, 3) := by decide +kernel
theorem dL_listsAreSo_243 : decode cL_listsAreSo 243 = .ok (.aload_n 0, 1) := by decide +kernel
theorem dL_listsAreSo_244 : decode cL_listsAreSo 244 = .ok (.getfield 10, 3) := by decide +kernel
theorem dL_listsAreSo_247 : decode cL_listsAreSo 247 = .ok (.iload 8, 2) := by decide +kernel
theorem dL_listsAreSo_249 : decode cL_listsAreSo 249 = .ok (.iconst 4, 1) := by decide +kernel
theorem dL_listsAreSo_250 : decode cL_listsAreSo 250 = .ok (.invokestatic 163, 3) := by decide +kernel
theorem dL_listsAreSo_253 : decode cL_listsAreSo 253 = .ok (.ifCond .ge 26, 3) := by decide +kernel
theorem dL_listsAreSo_256 : decode cL_listsAreSo 256 = .ok (.aload_n 0, 1) := by decide +kernel
theorem dL_listsAreSo_257 : decode cL_listsAreSo 257 = .ok (.getfield 10, 3) := by decide +kernel
theorem dL_listsAreSo_260 : decode cL_listsAreSo 260 = .ok (.iload 8, 2) := by decide +kernel
theorem dL_listsAreSo_262 : decode cL_listsAreSo 262 = .ok (.bipush 6, 2) := by decide +kernel
theorem dL_listsAreSo_264 : decode cL_listsAreSo 264 = .ok (.invokestatic 163, 3) := by decide +kernel
theorem dL_listsAreSo_267 : decode cL_listsAreSo 267 = .ok (.aload_n 0, 1) := by decide +kernel
theorem dL_listsAreSo_268 : decode cL_listsAreSo 268 = .ok (.getfield 16, 3) := by decide +kernel
theorem dL_listsAreSo_271 : decode cL_listsAreSo 271 = .ok (.iload 8, 2) := by decide +kernel
theorem dL_listsAreSo_273 : decode cL_listsAreSo 273 = .ok (.iaload, 1) := by decide +kernel
theorem dL_listsAreSo_274 : decode cL_listsAreSo 274 = .ok (.if_icmp .eq 5, 3) := by decide +kernel
theorem dL_listsAreSo_277 : decode cL_listsAreSo 277 = .ok (.iconst 0, 1) := by decide +kernel
theorem dL_listsAreSo_278 : decode cL_listsAreSo 278 = .ok (.ireturn, 1) := by decide +kernel
theorem dL_listsAreSo_279 : decode cL_listsAreSo 279 = .ok (.iload 5, 2) := by decide +kernel
theorem dL_listsAreSo_281 : decode cL_listsAreSo 281 = .ok (.iconst 3, 1) := by decide +kernel
theorem dL_listsAreSo_282 : decode cL_listsAreSo 282 = .ok (.if_icmp .ge 24, 3) := by decide +kernel
theorem dL_listsAreSo_285 : decode cL_listsAreSo 285 = .ok (.iload_n 2, 1) := by decide +kernel
theorem dL_listsAreSo_286 : decode cL_listsAreSo 286 = .ok (.aload_n 0, 1) := by decide +kernel
theorem dL_listsAreSo_287 : decode cL_listsAreSo 287 = .ok (.getfield 10, 3) := by decide +kernel
theorem dL_listsAreSo_290 : decode cL_listsAreSo 290 = .ok (.iload 8, 2) := by decide +kernel
theorem dL_listsAreSo_292 : decode cL_listsAreSo 292 = .ok (.iconst 4, 1) := by decide +kernel
theorem dL_listsAreSo_293 : decode cL_listsAreSo 293 = .ok (.invokestatic 163, 3) := by decide +kernel
theorem dL_listsAreSo_296 : decode cL_listsAreSo 296 = .ok (.ifCond .lt 7, 3) := by decide +kernel
theorem dL_listsAreSo_299 : decode cL_listsAreSo 299 = .ok (.iconst 1, 1) := by decide +kernel
theorem dL_listsAreSo_300 : decode cL_listsAreSo 300 = .ok (.goto 4, 3) := by decide +kernel
theorem dL_listsAreSo_303 : decode cL_listsAreSo 303 = .ok (.iconst 0, 1) := by decide +kernel
theorem dL_listsAreSo_304 : decode cL_listsAreSo 304 = .ok (.iadd, 1) := by decide +kernel
theorem dL_listsAreSo_305 : decode cL_listsAreSo 305 = .ok (.istore_n 2, 1) := by decide +kernel
theorem dL_listsAreSo_306 : decode cL_listsAreSo 306 = .ok (.iinc 7 1, 3) := by decide +kernel
theorem dL_listsAreSo_309 : decode cL_listsAreSo 309 = .ok (.goto (-227), 3) := by decide +kernel
theorem dL_listsAreSo_312 : decode cL_listsAreSo 312 = .ok (.aload_n 0, 1) := by decide +kernel
theorem dL_listsAreSo_313 : decode cL_listsAreSo 313 = .ok (.getfield 10, 3) := by decide +kernel
theorem dL_listsAreSo_316 : decode cL_listsAreSo 316 = .ok (.iload 5, 2) := by decide +kernel
theorem dL_listsAreSo_318 : decode cL_listsAreSo 318 = .ok (.iconst 0, 1) := by decide +kernel
theorem dL_listsAreSo_319 : decode cL_listsAreSo 319 = .ok (.sipush 199, 3) := by decide +kernel
theorem dL_listsAreSo_322 : decode cL_listsAreSo 322 = .ok (.invokestatic 165, 3) := by decide +kernel
theorem dL_listsAreSo_325 : decode cL_listsAreSo 325 = .ok (.istore 7, 2) := by decide +kernel
theorem dL_listsAreSo_327 : decode cL_listsAreSo 327 = .ok (.aload_n 0, 1) := by decide +kernel
theorem dL_listsAreSo_328 : decode cL_listsAreSo 328 = .ok (.getfield 10, 3) := by decide +kernel
theorem dL_listsAreSo_331 : decode cL_listsAreSo 331 = .ok (.iload 5, 2) := by decide +kernel
theorem dL_listsAreSo_333 : decode cL_listsAreSo 333 = .ok (.invokestatic 168, 3) := by decide +kernel
theorem dL_listsAreSo_336 : decode cL_listsAreSo 336 = .ok (.istore 8, 2) := by decide +kernel
theorem dL_listsAreSo_338 : decode cL_listsAreSo 338 = .ok (.iload 7, 2) := by decide +kernel
theorem dL_listsAreSo_340 : decode cL_listsAreSo 340 = .ok (.iload 6, 2) := by decide +kernel
theorem dL_listsAreSo_342 : decode cL_listsAreSo 342 = .ok (.if_icmp .ne 33, 3) := by decide +kernel
theorem dL_listsAreSo_345 : decode cL_listsAreSo 345 = .ok (.iload 8, 2) := by decide +kernel
theorem dL_listsAreSo_347 : decode cL_listsAreSo 347 = .ok (.iload 6, 2) := by decide +kernel
theorem dL_listsAreSo_349 : decode cL_listsAreSo 349 = .ok (.if_icmp .gt 26, 3) := by decide +kernel
theorem dL_listsAreSo_352 : decode cL_listsAreSo 352 = .ok (.iload 6, 2) := by decide +kernel
theorem dL_listsAreSo_354 : decode cL_listsAreSo 354 = .ok (.ifCond .le 7, 3) := by decide +kernel
theorem dL_listsAreSo_357 : decode cL_listsAreSo 357 = .ok (.iconst 1, 1) := by decide +kernel
theorem dL_listsAreSo_358 : decode cL_listsAreSo 358 = .ok (.goto 4, 3) := by decide +kernel
theorem dL_listsAreSo_361 : decode cL_listsAreSo 361 = .ok (.iconst 0, 1) := by decide +kernel
theorem dL_listsAreSo_362 : decode cL_listsAreSo 362 = .ok (.iload 8, 2) := by decide +kernel
theorem dL_listsAreSo_364 : decode cL_listsAreSo 364 = .ok (.ifCond .le 7, 3) := by decide +kernel
theorem dL_listsAreSo_367 : decode cL_listsAreSo 367 = .ok (.iconst 1, 1) := by decide +kernel
theorem dL_listsAreSo_368 : decode cL_listsAreSo 368 = .ok (.goto 4, 3) := by decide +kernel
theorem dL_listsAreSo_371 : decode cL_listsAreSo 371 = .ok (.iconst 0, 1) := by decide +kernel
theorem dL_listsAreSo_372 : decode cL_listsAreSo 372 = .ok (.if_icmp .eq 5, 3) := by decide +kernel
theorem dL_listsAreSo_375 : decode cL_listsAreSo 375 = .ok (.iconst 0, 1) := by decide +kernel
theorem dL_listsAreSo_376 : decode cL_listsAreSo 376 = .ok (.ireturn, 1) := by decide +kernel
theorem dL_listsAreSo_377 : decode cL_listsAreSo 377 = .ok (.iinc 5 1, 3) := by decide +kernel
theorem dL_listsAreSo_380 : decode cL_listsAreSo 380 = .ok (.goto (-361), 3) := by decide +kernel
theorem dL_listsAreSo_383 : decode cL_listsAreSo 383 = .ok (.iconst 0, 1) := by decide +kernel
theorem dL_listsAreSo_384 : decode cL_listsAreSo 384 = .ok (.istore 5, 2) := by decide +kernel
theorem dL_listsAreSo_386 : decode cL_listsAreSo 386 = .ok (.iload 5, 2) := by decide +kernel
theorem dL_listsAreSo_388 : decode cL_listsAreSo 388 = .ok (.aload_n 0, 1) := by decide +kernel
theorem dL_listsAreSo_389 : decode cL_listsAreSo 389 = .ok (.getfield 10, 3) := by decide +kernel
theorem dL_listsAreSo_392 : decode cL_listsAreSo 392 = .ok (.bipush 6, 2) := by decide +kernel
theorem dL_listsAreSo_394 : decode cL_listsAreSo 394 = .ok (.invokestatic 159, 3) := by decide +kernel
theorem dL_listsAreSo_397 : decode cL_listsAreSo 397 = .ok (.if_icmp .ge 120, 3) := by decide +kernel
theorem dL_listsAreSo_400 : decode cL_listsAreSo 400 = .ok (.iconst 0, 1) := by decide +kernel
theorem dL_listsAreSo_401 : decode cL_listsAreSo 401 = .ok (.istore 6, 2) := by decide +kernel
theorem dL_listsAreSo_403 : decode cL_listsAreSo 403 = .ok (.iload 6, 2) := by decide +kernel
theorem dL_listsAreSo_405 : decode cL_listsAreSo 405 = .ok (.iconst 3, 1) := by decide +kernel
theorem dL_listsAreSo_406 : decode cL_listsAreSo 406 = .ok (.if_icmp .ge 37, 3) := by decide +kernel
theorem dL_listsAreSo_409 : decode cL_listsAreSo 409 = .ok (.iconst 0, 1) := by decide +kernel
theorem dL_listsAreSo_410 : decode cL_listsAreSo 410 = .ok (.istore 7, 2) := by decide +kernel
theorem dL_listsAreSo_412 : decode cL_listsAreSo 412 = .ok (.aload_n 0, 1) := by decide +kernel
theorem dL_listsAreSo_413 : decode cL_listsAreSo 413 = .ok (.getfield 10, 3) := by decide +kernel
theorem dL_listsAreSo_416 : decode cL_listsAreSo 416 = .ok (.iload 5, 2) := by decide +kernel
theorem dL_listsAreSo_418 : decode cL_listsAreSo 418 = .ok (.iload 6, 2) := by decide +kernel
theorem dL_listsAreSo_420 : decode cL_listsAreSo 420 = .ok (.iload 7, 2) := by decide +kernel
theorem dL_listsAreSo_422 : decode cL_listsAreSo 422 = .ok (.invokestatic 170, 3) := by decide +kernel
theorem dL_listsAreSo_425 : decode cL_listsAreSo 425 = .ok (.ifCond .lt 12, 3) := by decide +kernel
theorem dL_listsAreSo_428 : decode cL_listsAreSo 428 = .ok (.iinc 4 1, 3) := by decide +kernel
theorem dL_listsAreSo_431 : decode cL_listsAreSo 431 = .ok (.iinc 7 1, 3) := by decide +kernel
theorem dL_listsAreSo_434 : decode cL_listsAreSo 434 = .ok (.goto (-22), 3) := by decide +kernel
theorem dL_listsAreSo_437 : decode cL_listsAreSo 437 = .ok (.iinc 6 1, 3) := by decide +kernel
theorem dL_listsAreSo_440 : decode cL_listsAreSo 440 = .ok (.goto (-37), 3) := by decide +kernel
theorem dL_listsAreSo_443 : decode cL_listsAreSo 443 = .ok (.iload_n 3, 1) := by decide +kernel
theorem dL_listsAreSo_444 : decode cL_listsAreSo 444 = .ok (.aload_n 0, 1) := by decide +kernel
theorem dL_listsAreSo_445 : decode cL_listsAreSo 445 = .ok (.getfield 10, 3) := by decide +kernel
theorem dL_listsAreSo_448 : decode cL_listsAreSo 448 = .ok (.iload 5, 2) := by decide +kernel
theorem dL_listsAreSo_450 : decode cL_listsAreSo 450 = .ok (.iconst 1, 1) := by decide +kernel
theorem dL_listsAreSo_451 : decode cL_listsAreSo 451 = .ok (.invokestatic 172, 3) := by decide +kernel
theorem dL_listsAreSo_454 : decode cL_listsAreSo 454 = .ok (.aload_n 0, 1) := by decide +kernel
theorem dL_listsAreSo_455 : decode cL_listsAreSo 455 = .ok (.getfield 10, 3) := by decide +kernel
theorem dL_listsAreSo_458 : decode cL_listsAreSo 458 = .ok (.iload 5, 2) := by decide +kernel
theorem dL_listsAreSo_460 : decode cL_listsAreSo 460 = .ok (.iconst 2, 1) := by decide +kernel
theorem dL_listsAreSo_461 : decode cL_listsAreSo 461 = .ok (.invokestatic 172, 3) := by decide +kernel
theorem dL_listsAreSo_464 : decode cL_listsAreSo 464 = .ok (.iadd, 1) := by decide +kernel
theorem dL_listsAreSo_465 : decode cL_listsAreSo 465 = .ok (.iadd, 1) := by decide +kernel
theorem dL_listsAreSo_466 : decode cL_listsAreSo 466 = .ok (.istore_n 3, 1) := by decide +kernel
theorem dL_listsAreSo_467 : decode cL_listsAreSo 467 = .ok (.aload_n 0, 1) := by decide +kernel
theorem dL_listsAreSo_468 : decode cL_listsAreSo 468 = .ok (.getfield 10, 3) := by decide +kernel
theorem dL_listsAreSo_471 : decode cL_listsAreSo 471 = .ok (.iload 5, 2) := by decide +kernel
theorem dL_listsAreSo_473 : decode cL_listsAreSo 473 = .ok (.invokestatic 174, 3) := by decide +kernel
theorem dL_listsAreSo_476 : decode cL_listsAreSo 476 = .ok (.fconst 0, 1) := by decide +kernel
theorem dL_listsAreSo_477 : decode cL_listsAreSo 477 = .ok (.fcmp .l, 1) := by decide +kernel
theorem dL_listsAreSo_478 : decode cL_listsAreSo 478 = .ok (.ifCond .le 7, 3) := by decide +kernel
theorem dL_listsAreSo_481 : decode cL_listsAreSo 481 = .ok (.iconst 1, 1) := by decide +kernel
theorem dL_listsAreSo_482 : decode cL_listsAreSo 482 = .ok (.goto 4, 3) := by decide +kernel
theorem dL_listsAreSo_485 : decode cL_listsAreSo 485 = .ok (.iconst 0, 1) := by decide +kernel
theorem dL_listsAreSo_486 : decode cL_listsAreSo 486 = .ok (.aload_n 0, 1) := by decide +kernel
theorem dL_listsAreSo_487 : decode cL_listsAreSo 487 = .ok (.getfield 10, 3) := by decide +kernel
theorem dL_listsAreSo_490 : decode cL_listsAreSo 490 = .ok (.iload 5, 2) := by decide +kernel
theorem dL_listsAreSo_492 : decode cL_listsAreSo 492 = .ok (.bipush 10, 2) := by decide +kernel
theorem dL_listsAreSo_494 : decode cL_listsAreSo 494 = .ok (.invokestatic 172, 3) := by decide +kernel
theorem dL_listsAreSo_497 : decode cL_listsAreSo 497 = .ok (.iconst 1, 1) := by decide +kernel
theorem dL_listsAreSo_498 : decode cL_listsAreSo 498 = .ok (.if_icmp .ne 7, 3) := by decide +kernel
theorem dL_listsAreSo_501 : decode cL_listsAreSo 501 = .ok (.iconst 1, 1) := by decide +kernel
theorem dL_listsAreSo_502 : decode cL_listsAreSo 502 = .ok (.goto 4, 3) := by decide +kernel
theorem dL_listsAreSo_505 : decode cL_listsAreSo 505 = .ok (.iconst 0, 1) := by decide +kernel
theorem dL_listsAreSo_506 : decode cL_listsAreSo 506 = .ok (.if_icmp .eq 5, 3) := by decide +kernel
theorem dL_listsAreSo_509 : decode cL_listsAreSo 509 = .ok (.iconst 0, 1) := by decide +kernel
theorem dL_listsAreSo_510 : decode cL_listsAreSo 510 = .ok (.ireturn, 1) := by decide +kernel
theorem dL_listsAreSo_511 : decode cL_listsAreSo 511 = .ok (.iinc 5 1, 3) := by decide +kernel
theorem dL_listsAreSo_514 : decode cL_listsAreSo 514 = .ok (.goto (-128), 3) := by decide +kernel
theorem dL_listsAreSo_517 : decode cL_listsAreSo 517 = .ok (.aload_n 0, 1) := by decide +kernel
theorem dL_listsAreSo_518 : decode cL_listsAreSo 518 = .ok (.getfield 10, 3) := by decide +kernel
theorem dL_listsAreSo_521 : decode cL_listsAreSo 521 = .ok (.bipush 7, 2) := by decide +kernel
theorem dL_listsAreSo_523 : decode cL_listsAreSo 523 = .ok (.invokestatic 159, 3) := by decide +kernel
theorem dL_listsAreSo_526 : decode cL_listsAreSo 526 = .ok (.aload_n 0, 1) := by decide +kernel
theorem dL_listsAreSo_527 : decode cL_listsAreSo 527 = .ok (.getfield 10, 3) := by decide +kernel
theorem dL_listsAreSo_530 : decode cL_listsAreSo 530 = .ok (.bipush 8, 2) := by decide +kernel
theorem dL_listsAreSo_532 : decode cL_listsAreSo 532 = .ok (.invokestatic 159, 3) := by decide +kernel
theorem dL_listsAreSo_535 : decode cL_listsAreSo 535 = .ok (.iadd, 1) := by decide +kernel
theorem dL_listsAreSo_536 : decode cL_listsAreSo 536 = .ok (.aload_n 0, 1) := by decide +kernel
theorem dL_listsAreSo_537 : decode cL_listsAreSo 537 = .ok (.getfield 10, 3) := by decide +kernel
theorem dL_listsAreSo_540 : decode cL_listsAreSo 540 = .ok (.bipush 9, 2) := by decide +kernel
theorem dL_listsAreSo_542 : decode cL_listsAreSo 542 = .ok (.invokestatic 159, 3) := by decide +kernel
theorem dL_listsAreSo_545 : decode cL_listsAreSo 545 = .ok (.iadd, 1) := by decide +kernel
theorem dL_listsAreSo_546 : decode cL_listsAreSo 546 = .ok (.istore 5, 2) := by decide +kernel
theorem dL_listsAreSo_548 : decode cL_listsAreSo 548 = .ok (.aload_n 0, 1) := by decide +kernel
theorem dL_listsAreSo_549 : decode cL_listsAreSo 549 = .ok (.getfield 10, 3) := by decide +kernel
theorem dL_listsAreSo_552 : decode cL_listsAreSo 552 = .ok (.bipush 7, 2) := by decide +kernel
theorem dL_listsAreSo_554 : decode cL_listsAreSo 554 = .ok (.invokestatic 159, 3) := by decide +kernel
theorem dL_listsAreSo_557 : decode cL_listsAreSo 557 = .ok (.aload_n 0, 1) := by decide +kernel
theorem dL_listsAreSo_558 : decode cL_listsAreSo 558 = .ok (.getfield 10, 3) := by decide +kernel
theorem dL_listsAreSo_561 : decode cL_listsAreSo 561 = .ok (.bipush 8, 2) := by decide +kernel
theorem dL_listsAreSo_563 : decode cL_listsAreSo 563 = .ok (.invokestatic 159, 3) := by decide +kernel
theorem dL_listsAreSo_566 : decode cL_listsAreSo 566 = .ok (.iadd, 1) := by decide +kernel
theorem dL_listsAreSo_567 : decode cL_listsAreSo 567 = .ok (.iload_n 1, 1) := by decide +kernel
theorem dL_listsAreSo_568 : decode cL_listsAreSo 568 = .ok (.if_icmp .gt 79, 3) := by decide +kernel
theorem dL_listsAreSo_571 : decode cL_listsAreSo 571 = .ok (.aload_n 0, 1) := by decide +kernel
theorem dL_listsAreSo_572 : decode cL_listsAreSo 572 = .ok (.getfield 10, 3) := by decide +kernel
theorem dL_listsAreSo_575 : decode cL_listsAreSo 575 = .ok (.iconst 4, 1) := by decide +kernel
theorem dL_listsAreSo_576 : decode cL_listsAreSo 576 = .ok (.invokestatic 159, 3) := by decide +kernel
theorem dL_listsAreSo_579 : decode cL_listsAreSo 579 = .ok (.ifCond .lt 68, 3) := by decide +kernel
theorem dL_listsAreSo_582 : decode cL_listsAreSo 582 = .ok (.aload_n 0, 1) := by decide +kernel
theorem dL_listsAreSo_583 : decode cL_listsAreSo 583 = .ok (.getfield 10, 3) := by decide +kernel
theorem dL_listsAreSo_586 : decode cL_listsAreSo 586 = .ok (.iconst 4, 1) := by decide +kernel
theorem dL_listsAreSo_587 : decode cL_listsAreSo 587 = .ok (.invokestatic 159, 3) := by decide +kernel
theorem dL_listsAreSo_590 : decode cL_listsAreSo 590 = .ok (.iload_n 1, 1) := by decide +kernel
theorem dL_listsAreSo_591 : decode cL_listsAreSo 591 = .ok (.if_icmp .gt 56, 3) := by decide +kernel
theorem dL_listsAreSo_594 : decode cL_listsAreSo 594 = .ok (.iload_n 2, 1) := by decide +kernel
theorem dL_listsAreSo_595 : decode cL_listsAreSo 595 = .ok (.aload_n 0, 1) := by decide +kernel
theorem dL_listsAreSo_596 : decode cL_listsAreSo 596 = .ok (.getfield 10, 3) := by decide +kernel
theorem dL_listsAreSo_599 : decode cL_listsAreSo 599 = .ok (.bipush 12, 2) := by decide +kernel
theorem dL_listsAreSo_601 : decode cL_listsAreSo 601 = .ok (.invokestatic 159, 3) := by decide +kernel
theorem dL_listsAreSo_604 : decode cL_listsAreSo 604 = .ok (.if_icmp .ne 43, 3) := by decide +kernel
theorem dL_listsAreSo_607 : decode cL_listsAreSo 607 = .ok (.iload_n 3, 1) := by decide +kernel
theorem dL_listsAreSo_608 : decode cL_listsAreSo 608 = .ok (.iload 5, 2) := by decide +kernel
theorem dL_listsAreSo_610 : decode cL_listsAreSo 610 = .ok (.if_icmp .ne 37, 3) := by decide +kernel
theorem dL_listsAreSo_613 : decode cL_listsAreSo 613 = .ok (.iload 4, 2) := by decide +kernel
theorem dL_listsAreSo_615 : decode cL_listsAreSo 615 = .ok (.iload 5, 2) := by decide +kernel
theorem dL_listsAreSo_617 : decode cL_listsAreSo 617 = .ok (.if_icmp .ne 30, 3) := by decide +kernel
theorem dL_listsAreSo_620 : decode cL_listsAreSo 620 = .ok (.aload_n 0, 1) := by decide +kernel
theorem dL_listsAreSo_621 : decode cL_listsAreSo 621 = .ok (.getfield 10, 3) := by decide +kernel
theorem dL_listsAreSo_624 : decode cL_listsAreSo 624 = .ok (.iconst 0, 1) := by decide +kernel
theorem dL_listsAreSo_625 : decode cL_listsAreSo 625 = .ok (.invokestatic 177, 3) := by decide +kernel
theorem dL_listsAreSo_628 : decode cL_listsAreSo 628 = .ok (.iload_n 2, 1) := by decide +kernel
theorem dL_listsAreSo_629 : decode cL_listsAreSo 629 = .ok (.if_icmp .ne 18, 3) := by decide +kernel
theorem dL_listsAreSo_632 : decode cL_listsAreSo 632 = .ok (.aload_n 0, 1) := by decide +kernel
theorem dL_listsAreSo_633 : decode cL_listsAreSo 633 = .ok (.getfield 10, 3) := by decide +kernel
theorem dL_listsAreSo_636 : decode cL_listsAreSo 636 = .ok (.invokevirtual 179, 3) := by decide +kernel
theorem dL_listsAreSo_639 : decode cL_listsAreSo 639 = .ok (.iload_n 2, 1) := by decide +kernel
theorem dL_listsAreSo_640 : decode cL_listsAreSo 640 = .ok (.if_icmp .gt 7, 3) := by decide +kernel
theorem dL_listsAreSo_643 : decode cL_listsAreSo 643 = .ok (.iconst 1, 1) := by decide +kernel
theorem dL_listsAreSo_644 : decode cL_listsAreSo 644 = .ok (.goto 4, 3) := by decide +kernel
theorem dL_listsAreSo_647 : decode cL_listsAreSo 647 = .ok (.iconst 0, 1) := by decide +kernel
theorem dL_listsAreSo_648 : decode cL_listsAreSo 648 = .ok (.ireturn, 1) := by decide +kernel
theorem dL_ordersAreSo_0 : decode cL_ordersAreSo 0 = .ok (.aload_n 0, 1) := by decide +kernel
theorem dL_ordersAreSo_1 : decode cL_ordersAreSo 1 = .ok (.getfield 10, 3) := by decide +kernel
theorem dL_ordersAreSo_4 : decode cL_ordersAreSo 4 = .ok (.bipush 13, 2) := by decide +kernel
theorem dL_ordersAreSo_6 : decode cL_ordersAreSo 6 = .ok (.invokestatic 159, 3) := by decide +kernel
theorem dL_ordersAreSo_9 : decode cL_ordersAreSo 9 = .ok (.istore_n 1, 1) := by decide +kernel
theorem dL_ordersAreSo_10 : decode cL_ordersAreSo 10 = .ok (.iconst (-1), 1) := by decide +kernel
theorem dL_ordersAreSo_11 : decode cL_ordersAreSo 11 = .ok (.istore_n 2, 1) := by decide +kernel
theorem dL_ordersAreSo_12 : decode cL_ordersAreSo 12 = .ok (.aload_n 0, 1) := by decide +kernel
theorem dL_ordersAreSo_13 : decode cL_ordersAreSo 13 = .ok (.getfield 10, 3) := by decide +kernel
theorem dL_ordersAreSo_16 : decode cL_ordersAreSo 16 = .ok (.bipush 12, 2) := by decide +kernel
theorem dL_ordersAreSo_18 : decode cL_ordersAreSo 18 = .ok (.invokestatic 159, 3) := by decide +kernel
theorem dL_ordersAreSo_21 : decode cL_ordersAreSo 21 = .ok (.istore_n 3, 1) := by decide +kernel
theorem dL_ordersAreSo_22 : decode cL_ordersAreSo 22 = .ok (.iconst (-1), 1) := by decide +kernel
theorem dL_ordersAreSo_23 : decode cL_ordersAreSo 23 = .ok (.istore 4, 2) := by decide +kernel
theorem dL_ordersAreSo_25 : decode cL_ordersAreSo 25 = .ok (.iconst 0, 1) := by decide +kernel
theorem dL_ordersAreSo_26 : decode cL_ordersAreSo 26 = .ok (.istore 5, 2) := by decide +kernel
theorem dL_ordersAreSo_28 : decode cL_ordersAreSo 28 = .ok (.iload 5, 2) := by decide +kernel
theorem dL_ordersAreSo_30 : decode cL_ordersAreSo 30 = .ok (.iload_n 3, 1) := by decide +kernel
theorem dL_ordersAreSo_31 : decode cL_ordersAreSo 31 = .ok (.if_icmp .ge 109, 3) := by decide +kernel
theorem dL_ordersAreSo_34 : decode cL_ordersAreSo 34 = .ok (.aload_n 0, 1) := by decide +kernel
theorem dL_ordersAreSo_35 : decode cL_ordersAreSo 35 = .ok (.getfield 10, 3) := by decide +kernel
theorem dL_ordersAreSo_38 : decode cL_ordersAreSo 38 = .ok (.iload 5, 2) := by decide +kernel
theorem dL_ordersAreSo_40 : decode cL_ordersAreSo 40 = .ok (.invokestatic 183, 3) := by decide +kernel
theorem dL_ordersAreSo_43 : decode cL_ordersAreSo 43 = .ok (.istore 6, 2) := by decide +kernel
theorem dL_ordersAreSo_45 : decode cL_ordersAreSo 45 = .ok (.iload 6, 2) := by decide +kernel
theorem dL_ordersAreSo_47 : decode cL_ordersAreSo 47 = .ok (.iload_n 1, 1) := by decide +kernel
theorem dL_ordersAreSo_48 : decode cL_ordersAreSo 48 = .ok (.isub, 1) := by decide +kernel
theorem dL_ordersAreSo_49 : decode cL_ordersAreSo 49 = .ok (.sipush 200, 3) := by decide +kernel
theorem dL_ordersAreSo_52 : decode cL_ordersAreSo 52 = .ok (.iadd, 1) := by decide +kernel
theorem dL_ordersAreSo_53 : decode cL_ordersAreSo 53 = .ok (.sipush 200, 3) := by decide +kernel
theorem dL_ordersAreSo_56 : decode cL_ordersAreSo 56 = .ok (.irem, 1) := by decide +kernel
theorem dL_ordersAreSo_57 : decode cL_ordersAreSo 57 = .ok (.istore 7, 2) := by decide +kernel
theorem dL_ordersAreSo_59 : decode cL_ordersAreSo 59 = .ok (.iload 7, 2) := by decide +kernel
theorem dL_ordersAreSo_61 : decode cL_ordersAreSo 61 = .ok (.iload_n 2, 1) := by decide +kernel
theorem dL_ordersAreSo_62 : decode cL_ordersAreSo 62 = .ok (.if_icmp .le 30, 3) := by decide +kernel
theorem dL_ordersAreSo_65 : decode cL_ordersAreSo 65 = .ok (.aload_n 0, 1) := by decide +kernel
theorem dL_ordersAreSo_66 : decode cL_ordersAreSo 66 = .ok (.getfield 10, 3) := by decide +kernel
theorem dL_ordersAreSo_69 : decode cL_ordersAreSo 69 = .ok (.iload 6, 2) := by decide +kernel
theorem dL_ordersAreSo_71 : decode cL_ordersAreSo 71 = .ok (.invokestatic 185, 3) := by decide +kernel
theorem dL_ordersAreSo_74 : decode cL_ordersAreSo 74 = .ok (.iload 5, 2) := by decide +kernel
theorem dL_ordersAreSo_76 : decode cL_ordersAreSo 76 = .ok (.if_icmp .ne 16, 3) := by decide +kernel
theorem dL_ordersAreSo_79 : decode cL_ordersAreSo 79 = .ok (.aload_n 0, 1) := by decide +kernel
theorem dL_ordersAreSo_80 : decode cL_ordersAreSo 80 = .ok (.getfield 10, 3) := by decide +kernel
theorem dL_ordersAreSo_83 : decode cL_ordersAreSo 83 = .ok (.iload 6, 2) := by decide +kernel
theorem dL_ordersAreSo_85 : decode cL_ordersAreSo 85 = .ok (.iconst 4, 1) := by decide +kernel
theorem dL_ordersAreSo_86 : decode cL_ordersAreSo 86 = .ok (.invokestatic 163, 3) := by decide +kernel
theorem dL_ordersAreSo_89 : decode cL_ordersAreSo 89 = .ok (.ifCond .ge 5, 3) := by decide +kernel
theorem dL_ordersAreSo_92 : decode cL_ordersAreSo 92 = .ok (.iconst 0, 1) := by decide +kernel
theorem dL_ordersAreSo_93 : decode cL_ordersAreSo 93 = .ok (.ireturn, 1) := by decide +kernel
theorem dL_ordersAreSo_94 : decode cL_ordersAreSo 94 = .ok (.iload 7, 2) := by decide +kernel
theorem dL_ordersAreSo_96 : decode cL_ordersAreSo 96 = .ok (.istore_n 2, 1) := by decide +kernel
theorem dL_ordersAreSo_97 : decode cL_ordersAreSo 97 = .ok (.iload 4, 2) := by decide +kernel
theorem dL_ordersAreSo_99 : decode cL_ordersAreSo 99 = .ok (.ifCond .lt 18, 3) := by decide +kernel
theorem dL_ordersAreSo_102 : decode cL_ordersAreSo 102 = .ok (.aload_n 0, 1) := by decide +kernel
theorem dL_ordersAreSo_103 : decode cL_ordersAreSo 103 = .ok (.getfield 10, 3) := by decide +kernel
theorem dL_ordersAreSo_106 : decode cL_ordersAreSo 106 = .ok (.iload 6, 2) := by decide +kernel
theorem dL_ordersAreSo_108 : decode cL_ordersAreSo 108 = .ok (.iconst 4, 1) := by decide +kernel
theorem dL_ordersAreSo_109 : decode cL_ordersAreSo 109 = .ok (.invokestatic 163, 3) := by decide +kernel
theorem dL_ordersAreSo_112 : decode cL_ordersAreSo 112 = .ok (.iload 4, 2) := by decide +kernel
theorem dL_ordersAreSo_114 : decode cL_ordersAreSo 114 = .ok (.if_icmp .ge 16, 3) := by decide +kernel
theorem dL_ordersAreSo_117 : decode cL_ordersAreSo 117 = .ok (.aload_n 0, 1) := by decide +kernel
theorem dL_ordersAreSo_118 : decode cL_ordersAreSo 118 = .ok (.getfield 10, 3) := by decide +kernel
theorem dL_ordersAreSo_121 : decode cL_ordersAreSo 121 = .ok (.iload 6, 2) := by decide +kernel
theorem dL_ordersAreSo_123 : decode cL_ordersAreSo 123 = .ok (.iconst 4, 1) := by decide +kernel
theorem dL_ordersAreSo_124 : decode cL_ordersAreSo 124 = .ok (.invokestatic 163, 3) := by decide +kernel
theorem dL_ordersAreSo_127 : decode cL_ordersAreSo 127 = .ok (.goto 5, 3) := by decide +kernel
theorem dL_ordersAreSo_130 : decode cL_ordersAreSo 130 = .ok (.iload 4, 2) := by decide +kernel
theorem dL_ordersAreSo_132 : decode cL_ordersAreSo 132 = .ok (.istore 4, 2) := by decide +kernel
theorem dL_ordersAreSo_134 : decode cL_ordersAreSo 134 = .ok (.iinc 5 1, 3) := by decide +kernel
theorem dL_ordersAreSo_137 : decode cL_ordersAreSo 137 = .ok (.goto (-109), 3) := by decide +kernel
theorem dL_ordersAreSo_140 : decode cL_ordersAreSo 140 = .ok (.aload_n 0, 1) := by decide +kernel
theorem dL_ordersAreSo_141 : decode cL_ordersAreSo 141 = .ok (.getfield 10, 3) := by decide +kernel
theorem dL_ordersAreSo_144 : decode cL_ordersAreSo 144 = .ok (.iload_n 3, 1) := by decide +kernel
theorem dL_ordersAreSo_145 : decode cL_ordersAreSo 145 = .ok (.invokestatic 183, 3) := by decide +kernel
theorem dL_ordersAreSo_148 : decode cL_ordersAreSo 148 = .ok (.iconst (-1), 1) := by decide +kernel
theorem dL_ordersAreSo_149 : decode cL_ordersAreSo 149 = .ok (.if_icmp .ne 45, 3) := by decide +kernel
theorem dL_ordersAreSo_152 : decode cL_ordersAreSo 152 = .ok (.iload_n 3, 1) := by decide +kernel
theorem dL_ordersAreSo_153 : decode cL_ordersAreSo 153 = .ok (.ifCond .ne 17, 3) := by decide +kernel
theorem dL_ordersAreSo_156 : decode cL_ordersAreSo 156 = .ok (.aload_n 0, 1) := by decide +kernel
theorem dL_ordersAreSo_157 : decode cL_ordersAreSo 157 = .ok (.getfield 10, 3) := by decide +kernel
theorem dL_ordersAreSo_160 : decode cL_ordersAreSo 160 = .ok (.invokevirtual 187, 3) := by decide +kernel
theorem dL_ordersAreSo_163 : decode cL_ordersAreSo 163 = .ok (.iconst (-1), 1) := by decide +kernel
theorem dL_ordersAreSo_164 : decode cL_ordersAreSo 164 = .ok (.if_icmp .ne 30, 3) := by decide +kernel
theorem dL_ordersAreSo_167 : decode cL_ordersAreSo 167 = .ok (.goto 23, 3) := by decide +kernel
theorem dL_ordersAreSo_170 : decode cL_ordersAreSo 170 = .ok (.aload_n 0, 1) := by decide +kernel
theorem dL_ordersAreSo_171 : decode cL_ordersAreSo 171 = .ok (.getfield 10, 3) := by decide +kernel
theorem dL_ordersAreSo_174 : decode cL_ordersAreSo 174 = .ok (.aload_n 0, 1) := by decide +kernel
theorem dL_ordersAreSo_175 : decode cL_ordersAreSo 175 = .ok (.getfield 10, 3) := by decide +kernel
theorem dL_ordersAreSo_178 : decode cL_ordersAreSo 178 = .ok (.invokevirtual 187, 3) := by decide +kernel
theorem dL_ordersAreSo_181 : decode cL_ordersAreSo 181 = .ok (.iconst 4, 1) := by decide +kernel
theorem dL_ordersAreSo_182 : decode cL_ordersAreSo 182 = .ok (.invokestatic 163, 3) := by decide +kernel
theorem dL_ordersAreSo_185 : decode cL_ordersAreSo 185 = .ok (.iload 4, 2) := by decide +kernel
theorem dL_ordersAreSo_187 : decode cL_ordersAreSo 187 = .ok (.if_icmp .ne 7, 3) := by decide +kernel
theorem dL_ordersAreSo_190 : decode cL_ordersAreSo 190 = .ok (.iconst 1, 1) := by decide +kernel
theorem dL_ordersAreSo_191 : decode cL_ordersAreSo 191 = .ok (.goto 4, 3) := by decide +kernel
theorem dL_ordersAreSo_194 : decode cL_ordersAreSo 194 = .ok (.iconst 0, 1) := by decide +kernel
theorem dL_ordersAreSo_195 : decode cL_ordersAreSo 195 = .ok (.ireturn, 1) := by decide +kernel
theorem dL_sumsAreSo_0 : decode cL_sumsAreSo 0 = .ok (.iconst 0, 1) := by decide +kernel
theorem dL_sumsAreSo_1 : decode cL_sumsAreSo 1 = .ok (.istore_n 1, 1) := by decide +kernel
theorem dL_sumsAreSo_2 : decode cL_sumsAreSo 2 = .ok (.iconst 0, 1) := by decide +kernel
theorem dL_sumsAreSo_3 : decode cL_sumsAreSo 3 = .ok (.istore_n 2, 1) := by decide +kernel
theorem dL_sumsAreSo_4 : decode cL_sumsAreSo 4 = .ok (.iconst 0, 1) := by decide +kernel
theorem dL_sumsAreSo_5 : decode cL_sumsAreSo 5 = .ok (.istore_n 3, 1) := by decide +kernel
theorem dL_sumsAreSo_6 : decode cL_sumsAreSo 6 = .ok (.iconst 0, 1) := by decide +kernel
theorem dL_sumsAreSo_7 : decode cL_sumsAreSo 7 = .ok (.istore 4, 2) := by decide +kernel
theorem dL_sumsAreSo_9 : decode cL_sumsAreSo 9 = .ok (.iconst 0, 1) := by decide +kernel
theorem dL_sumsAreSo_10 : decode cL_sumsAreSo 10 = .ok (.istore 5, 2) := by decide +kernel
theorem dL_sumsAreSo_12 : decode cL_sumsAreSo 12 = .ok (.iconst 0, 1) := by decide +kernel
theorem dL_sumsAreSo_13 : decode cL_sumsAreSo 13 = .ok (.istore 6, 2) := by decide +kernel
theorem dL_sumsAreSo_15 : decode cL_sumsAreSo 15 = .ok (.iload 6, 2) := by decide +kernel
theorem dL_sumsAreSo_17 : decode cL_sumsAreSo 17 = .ok (.aload_n 0, 1) := by decide +kernel
theorem dL_sumsAreSo_18 : decode cL_sumsAreSo 18 = .ok (.getfield 10, 3) := by decide +kernel
theorem dL_sumsAreSo_21 : decode cL_sumsAreSo 21 = .ok (.bipush 6, 2) := by decide +kernel
theorem dL_sumsAreSo_23 : decode cL_sumsAreSo 23 = .ok (.invokestatic 159, 3) := by decide +kernel
theorem dL_sumsAreSo_26 : decode cL_sumsAreSo 26 = .ok (.if_icmp .ge 82, 3) := by decide +kernel
theorem dL_sumsAreSo_29 : decode cL_sumsAreSo 29 = .ok (.iload_n 1, 1) := by decide +kernel
theorem dL_sumsAreSo_30 : decode cL_sumsAreSo 30 = .ok (.aload_n 0, 1) := by decide +kernel
theorem dL_sumsAreSo_31 : decode cL_sumsAreSo 31 = .ok (.getfield 10, 3) := by decide +kernel
theorem dL_sumsAreSo_34 : decode cL_sumsAreSo 34 = .ok (.iload 6, 2) := by decide +kernel
theorem dL_sumsAreSo_36 : decode cL_sumsAreSo 36 = .ok (.iconst 5, 1) := by decide +kernel
theorem dL_sumsAreSo_37 : decode cL_sumsAreSo 37 = .ok (.invokestatic 172, 3) := by decide +kernel
theorem dL_sumsAreSo_40 : decode cL_sumsAreSo 40 = .ok (.iadd, 1) := by decide +kernel
theorem dL_sumsAreSo_41 : decode cL_sumsAreSo 41 = .ok (.istore_n 1, 1) := by decide +kernel
theorem dL_sumsAreSo_42 : decode cL_sumsAreSo 42 = .ok (.iload_n 2, 1) := by decide +kernel
theorem dL_sumsAreSo_43 : decode cL_sumsAreSo 43 = .ok (.aload_n 0, 1) := by decide +kernel
theorem dL_sumsAreSo_44 : decode cL_sumsAreSo 44 = .ok (.getfield 10, 3) := by decide +kernel
theorem dL_sumsAreSo_47 : decode cL_sumsAreSo 47 = .ok (.iload 6, 2) := by decide +kernel
theorem dL_sumsAreSo_49 : decode cL_sumsAreSo 49 = .ok (.bipush 6, 2) := by decide +kernel
theorem dL_sumsAreSo_51 : decode cL_sumsAreSo 51 = .ok (.invokestatic 172, 3) := by decide +kernel
theorem dL_sumsAreSo_54 : decode cL_sumsAreSo 54 = .ok (.iadd, 1) := by decide +kernel
theorem dL_sumsAreSo_55 : decode cL_sumsAreSo 55 = .ok (.istore_n 2, 1) := by decide +kernel
theorem dL_sumsAreSo_56 : decode cL_sumsAreSo 56 = .ok (.iload_n 3, 1) := by decide +kernel
theorem dL_sumsAreSo_57 : decode cL_sumsAreSo 57 = .ok (.aload_n 0, 1) := by decide +kernel
theorem dL_sumsAreSo_58 : decode cL_sumsAreSo 58 = .ok (.getfield 10, 3) := by decide +kernel
theorem dL_sumsAreSo_61 : decode cL_sumsAreSo 61 = .ok (.iload 6, 2) := by decide +kernel
theorem dL_sumsAreSo_63 : decode cL_sumsAreSo 63 = .ok (.bipush 7, 2) := by decide +kernel
theorem dL_sumsAreSo_65 : decode cL_sumsAreSo 65 = .ok (.invokestatic 172, 3) := by decide +kernel
theorem dL_sumsAreSo_68 : decode cL_sumsAreSo 68 = .ok (.iadd, 1) := by decide +kernel
theorem dL_sumsAreSo_69 : decode cL_sumsAreSo 69 = .ok (.istore_n 3, 1) := by decide +kernel
theorem dL_sumsAreSo_70 : decode cL_sumsAreSo 70 = .ok (.iload 4, 2) := by decide +kernel
theorem dL_sumsAreSo_72 : decode cL_sumsAreSo 72 = .ok (.aload_n 0, 1) := by decide +kernel
theorem dL_sumsAreSo_73 : decode cL_sumsAreSo 73 = .ok (.getfield 10, 3) := by decide +kernel
theorem dL_sumsAreSo_76 : decode cL_sumsAreSo 76 = .ok (.iload 6, 2) := by decide +kernel
theorem dL_sumsAreSo_78 : decode cL_sumsAreSo 78 = .ok (.bipush 8, 2) := by decide +kernel
theorem dL_sumsAreSo_80 : decode cL_sumsAreSo 80 = .ok (.invokestatic 172, 3) := by decide +kernel
theorem dL_sumsAreSo_83 : decode cL_sumsAreSo 83 = .ok (.iadd, 1) := by decide +kernel
theorem dL_sumsAreSo_84 : decode cL_sumsAreSo 84 = .ok (.istore 4, 2) := by decide +kernel
theorem dL_sumsAreSo_86 : decode cL_sumsAreSo 86 = .ok (.iload 5, 2) := by decide +kernel
theorem dL_sumsAreSo_88 : decode cL_sumsAreSo 88 = .ok (.aload_n 0, 1) := by decide +kernel
theorem dL_sumsAreSo_89 : decode cL_sumsAreSo 89 = .ok (.getfield 10, 3) := by decide +kernel
theorem dL_sumsAreSo_92 : decode cL_sumsAreSo 92 = .ok (.iload 6, 2) := by decide +kernel
theorem dL_sumsAreSo_94 : decode cL_sumsAreSo 94 = .ok (.bipush 9, 2) := by decide +kernel
theorem dL_sumsAreSo_96 : decode cL_sumsAreSo 96 = .ok (.invokestatic 172, 3) := by decide +kernel
theorem dL_sumsAreSo_99 : decode cL_sumsAreSo 99 = .ok (.iadd, 1) := by decide +kernel
theorem dL_sumsAreSo_100 : decode cL_sumsAreSo 100 = .ok (.istore 5, 2) := by decide +kernel
theorem dL_sumsAreSo_102 : decode cL_sumsAreSo 102 = .ok (.iinc 6 1, 3) := by decide +kernel
theorem dL_sumsAreSo_105 : decode cL_sumsAreSo 105 = .ok (.goto (-90), 3) := by decide +kernel
theorem dL_sumsAreSo_108 : decode cL_sumsAreSo 108 = .ok (.iload_n 1, 1) := by decide +kernel
theorem dL_sumsAreSo_109 : decode cL_sumsAreSo 109 = .ok (.iload_n 2, 1) := by decide +kernel
theorem dL_sumsAreSo_110 : decode cL_sumsAreSo 110 = .ok (.iadd, 1) := by decide +kernel
theorem dL_sumsAreSo_111 : decode cL_sumsAreSo 111 = .ok (.aload_n 0, 1) := by decide +kernel
theorem dL_sumsAreSo_112 : decode cL_sumsAreSo 112 = .ok (.getfield 10, 3) := by decide +kernel
theorem dL_sumsAreSo_115 : decode cL_sumsAreSo 115 = .ok (.iconst 5, 1) := by decide +kernel
theorem dL_sumsAreSo_116 : decode cL_sumsAreSo 116 = .ok (.invokestatic 159, 3) := by decide +kernel
theorem dL_sumsAreSo_119 : decode cL_sumsAreSo 119 = .ok (.if_icmp .ne 113, 3) := by decide +kernel
theorem dL_sumsAreSo_122 : decode cL_sumsAreSo 122 = .ok (.iload_n 3, 1) := by decide +kernel
theorem dL_sumsAreSo_123 : decode cL_sumsAreSo 123 = .ok (.aload_n 0, 1) := by decide +kernel
theorem dL_sumsAreSo_124 : decode cL_sumsAreSo 124 = .ok (.getfield 10, 3) := by decide +kernel
theorem dL_sumsAreSo_127 : decode cL_sumsAreSo 127 = .ok (.bipush 14, 2) := by decide +kernel
theorem dL_sumsAreSo_129 : decode cL_sumsAreSo 129 = .ok (.invokestatic 159, 3) := by decide +kernel
theorem dL_sumsAreSo_132 : decode cL_sumsAreSo 132 = .ok (.if_icmp .ne 100, 3) := by decide +kernel
theorem dL_sumsAreSo_135 : decode cL_sumsAreSo 135 = .ok (.iload 4, 2) := by decide +kernel
theorem dL_sumsAreSo_137 : decode cL_sumsAreSo 137 = .ok (.aload_n 0, 1) := by decide +kernel
theorem dL_sumsAreSo_138 : decode cL_sumsAreSo 138 = .ok (.getfield 10, 3) := by decide +kernel
theorem dL_sumsAreSo_141 : decode cL_sumsAreSo 141 = .ok (.bipush 15, 2) := by decide +kernel
theorem dL_sumsAreSo_143 : decode cL_sumsAreSo 143 = .ok (.invokestatic 159, 3) := by decide +kernel
theorem dL_sumsAreSo_146 : decode cL_sumsAreSo 146 = .ok (.if_icmp .ne 86, 3) := by decide +kernel
theorem dL_sumsAreSo_149 : decode cL_sumsAreSo 149 = .ok (.iload 5, 2) := by decide +kernel
theorem dL_sumsAreSo_151 : decode cL_sumsAreSo 151 = .ok (.aload_n 0, 1) := by decide +kernel
theorem dL_sumsAreSo_152 : decode cL_sumsAreSo 152 = .ok (.getfield 10, 3) := by decide +kernel
theorem dL_sumsAreSo_155 : decode cL_sumsAreSo 155 = .ok (.bipush 16, 2) := by decide +kernel
theorem dL_sumsAreSo_157 : decode cL_sumsAreSo 157 = .ok (.invokestatic 159, 3) := by decide +kernel
theorem dL_sumsAreSo_160 : decode cL_sumsAreSo 160 = .ok (.if_icmp .ne 72, 3) := by decide +kernel
theorem dL_sumsAreSo_163 : decode cL_sumsAreSo 163 = .ok (.iload_n 3, 1) := by decide +kernel
theorem dL_sumsAreSo_164 : decode cL_sumsAreSo 164 = .ok (.iload 4, 2) := by decide +kernel
theorem dL_sumsAreSo_166 : decode cL_sumsAreSo 166 = .ok (.iadd, 1) := by decide +kernel
theorem dL_sumsAreSo_167 : decode cL_sumsAreSo 167 = .ok (.iload 5, 2) := by decide +kernel
theorem dL_sumsAreSo_169 : decode cL_sumsAreSo 169 = .ok (.iadd, 1) := by decide +kernel
theorem dL_sumsAreSo_170 : decode cL_sumsAreSo 170 = .ok (.aload_n 0, 1) := by decide +kernel
theorem dL_sumsAreSo_171 : decode cL_sumsAreSo 171 = .ok (.getfield 10, 3) := by decide +kernel
theorem dL_sumsAreSo_174 : decode cL_sumsAreSo 174 = .ok (.iconst 5, 1) := by decide +kernel
theorem dL_sumsAreSo_175 : decode cL_sumsAreSo 175 = .ok (.invokestatic 159, 3) := by decide +kernel
theorem dL_sumsAreSo_178 : decode cL_sumsAreSo 178 = .ok (.if_icmp .ne 54, 3) := by decide +kernel
theorem dL_sumsAreSo_181 : decode cL_sumsAreSo 181 = .ok (.aload_n 0, 1) := by decide +kernel
theorem dL_sumsAreSo_182 : decode cL_sumsAreSo 182 = .ok (.getfield 10, 3) := by decide +kernel
theorem dL_sumsAreSo_185 : decode cL_sumsAreSo 185 = .ok (.bipush 17, 2) := by decide +kernel
theorem dL_sumsAreSo_187 : decode cL_sumsAreSo 187 = .ok (.invokestatic 159, 3) := by decide +kernel
theorem dL_sumsAreSo_190 : decode cL_sumsAreSo 190 = .ok (.aload_n 0, 1) := by decide +kernel
theorem dL_sumsAreSo_191 : decode cL_sumsAreSo 191 = .ok (.getfield 10, 3) := by decide +kernel
theorem dL_sumsAreSo_194 : decode cL_sumsAreSo 194 = .ok (.bipush 18, 2) := by decide +kernel
theorem dL_sumsAreSo_196 : decode cL_sumsAreSo 196 = .ok (.invokestatic 159, 3) := by decide +kernel
theorem dL_sumsAreSo_199 : decode cL_sumsAreSo 199 = .ok (.iadd, 1) := by decide +kernel
theorem dL_sumsAreSo_200 : decode cL_sumsAreSo 200 = .ok (.iload 4, 2) := by decide +kernel
theorem dL_sumsAreSo_202 : decode cL_sumsAreSo 202 = .ok (.iload 5, 2) := by decide +kernel
theorem dL_sumsAreSo_204 : decode cL_sumsAreSo 204 = .ok (.iadd, 1) := by decide +kernel
theorem dL_sumsAreSo_205 : decode cL_sumsAreSo 205 = .ok (.if_icmp .gt 27, 3) := by decide +kernel
theorem dL_sumsAreSo_208 : decode cL_sumsAreSo 208 = .ok (.aload_n 0, 1) := by decide +kernel
theorem dL_sumsAreSo_209 : decode cL_sumsAreSo 209 = .ok (.getfield 10, 3) := by decide +kernel
theorem dL_sumsAreSo_212 : decode cL_sumsAreSo 212 = .ok (.bipush 22, 2) := by decide +kernel
theorem dL_sumsAreSo_214 : decode cL_sumsAreSo 214 = .ok (.invokestatic 159, 3) := by decide +kernel
theorem dL_sumsAreSo_217 : decode cL_sumsAreSo 217 = .ok (.aload_n 0, 1) := by decide +kernel
theorem dL_sumsAreSo_218 : decode cL_sumsAreSo 218 = .ok (.getfield 10, 3) := by decide +kernel
theorem dL_sumsAreSo_221 : decode cL_sumsAreSo 221 = .ok (.iconst 5, 1) := by decide +kernel
theorem dL_sumsAreSo_222 : decode cL_sumsAreSo 222 = .ok (.invokestatic 159, 3) := by decide +kernel
theorem dL_sumsAreSo_225 : decode cL_sumsAreSo 225 = .ok (.if_icmp .gt 7, 3) := by decide +kernel
theorem dL_sumsAreSo_228 : decode cL_sumsAreSo 228 = .ok (.iconst 1, 1) := by decide +kernel
theorem dL_sumsAreSo_229 : decode cL_sumsAreSo 229 = .ok (.goto 4, 3) := by decide +kernel
theorem dL_sumsAreSo_232 : decode cL_sumsAreSo 232 = .ok (.iconst 0, 1) := by decide +kernel
theorem dL_sumsAreSo_233 : decode cL_sumsAreSo 233 = .ok (.ireturn, 1) := by decide +kernel
theorem dL_accesses_0 : decode cL_accesses 0 = .ok (.aload_n 0, 1) := by decide +kernel
theorem dL_accesses_1 : decode cL_accesses 1 = .ok (.aload_n 0, 1) := by decide +kernel
theorem dL_accesses_2 : decode cL_accesses 2 = .ok (.getfield 10, 3) := by decide +kernel
theorem dL_accesses_5 : decode cL_accesses 5 = .ok (.bipush 6, 2) := by decide +kernel
theorem dL_accesses_7 : decode cL_accesses 7 = .ok (.invokestatic 159, 3) := by decide +kernel
theorem dL_accesses_10 : decode cL_accesses 10 = .ok (.invokevirtual 142, 3) := by decide +kernel
theorem dL_accesses_13 : decode cL_accesses 13 = .ok (.istore_n 1, 1) := by decide +kernel
theorem dL_accesses_14 : decode cL_accesses 14 = .ok (.aload_n 0, 1) := by decide +kernel
theorem dL_accesses_15 : decode cL_accesses 15 = .ok (.getfield 10, 3) := by decide +kernel
theorem dL_accesses_18 : decode cL_accesses 18 = .ok (.iload_n 1, 1) := by decide +kernel
theorem dL_accesses_19 : decode cL_accesses 19 = .ok (.iconst 4, 1) := by decide +kernel
theorem dL_accesses_20 : decode cL_accesses 20 = .ok (.invokestatic 172, 3) := by decide +kernel
theorem dL_accesses_23 : decode cL_accesses 23 = .ok (.ifCond .lt 40, 3) := by decide +kernel
theorem dL_accesses_26 : decode cL_accesses 26 = .ok (.aload_n 0, 1) := by decide +kernel
theorem dL_accesses_27 : decode cL_accesses 27 = .ok (.getfield 10, 3) := by decide +kernel
theorem dL_accesses_30 : decode cL_accesses 30 = .ok (.iload_n 1, 1) := by decide +kernel
theorem dL_accesses_31 : decode cL_accesses 31 = .ok (.iconst 4, 1) := by decide +kernel
theorem dL_accesses_32 : decode cL_accesses 32 = .ok (.invokestatic 172, 3) := by decide +kernel
theorem dL_accesses_35 : decode cL_accesses 35 = .ok (.sipush 199, 3) := by decide +kernel
theorem dL_accesses_38 : decode cL_accesses 38 = .ok (.if_icmp .ge 25, 3) := by decide +kernel
theorem dL_accesses_41 : decode cL_accesses 41 = .ok (.aload_n 0, 1) := by decide +kernel
theorem dL_accesses_42 : decode cL_accesses 42 = .ok (.iconst 3, 1) := by decide +kernel
theorem dL_accesses_43 : decode cL_accesses 43 = .ok (.invokevirtual 142, 3) := by decide +kernel
theorem dL_accesses_46 : decode cL_accesses 46 = .ok (.ifCond .ne 17, 3) := by decide +kernel
theorem dL_accesses_49 : decode cL_accesses 49 = .ok (.aload_n 0, 1) := by decide +kernel
theorem dL_accesses_50 : decode cL_accesses 50 = .ok (.getfield 10, 3) := by decide +kernel
theorem dL_accesses_53 : decode cL_accesses 53 = .ok (.iload_n 1, 1) := by decide +kernel
theorem dL_accesses_54 : decode cL_accesses 54 = .ok (.iconst 4, 1) := by decide +kernel
theorem dL_accesses_55 : decode cL_accesses 55 = .ok (.invokestatic 172, 3) := by decide +kernel
theorem dL_accesses_58 : decode cL_accesses 58 = .ok (.iconst 1, 1) := by decide +kernel
theorem dL_accesses_59 : decode cL_accesses 59 = .ok (.iadd, 1) := by decide +kernel
theorem dL_accesses_60 : decode cL_accesses 60 = .ok (.goto 7, 3) := by decide +kernel
theorem dL_accesses_63 : decode cL_accesses 63 = .ok (.aload_n 0, 1) := by decide +kernel
theorem dL_accesses_64 : decode cL_accesses 64 = .ok (.invokevirtual 190, 3) := by decide +kernel
theorem dL_accesses_67 : decode cL_accesses 67 = .ok (.istore_n 2, 1) := by decide +kernel
theorem dL_accesses_68 : decode cL_accesses 68 = .ok (.aload_n 0, 1) := by decide +kernel
theorem dL_accesses_69 : decode cL_accesses 69 = .ok (.getfield 10, 3) := by decide +kernel
theorem dL_accesses_72 : decode cL_accesses 72 = .ok (.iload_n 2, 1) := by decide +kernel
theorem dL_accesses_73 : decode cL_accesses 73 = .ok (.iconst 0, 1) := by decide +kernel
theorem dL_accesses_74 : decode cL_accesses 74 = .ok (.invokestatic 163, 3) := by decide +kernel
theorem dL_accesses_77 : decode cL_accesses 77 = .ok (.istore_n 3, 1) := by decide +kernel
theorem dL_accesses_78 : decode cL_accesses 78 = .ok (.iload_n 3, 1) := by decide +kernel
theorem dL_accesses_79 : decode cL_accesses 79 = .ok (.ifCond .ge 7, 3) := by decide +kernel
theorem dL_accesses_82 : decode cL_accesses 82 = .ok (.iconst 2, 1) := by decide +kernel
theorem dL_accesses_83 : decode cL_accesses 83 = .ok (.goto 13, 3) := by decide +kernel
theorem dL_accesses_86 : decode cL_accesses 86 = .ok (.iload_n 3, 1) := by decide +kernel
theorem dL_accesses_87 : decode cL_accesses 87 = .ok (.iconst 2, 1) := by decide +kernel
theorem dL_accesses_88 : decode cL_accesses 88 = .ok (.if_icmp .ne 7, 3) := by decide +kernel
theorem dL_accesses_91 : decode cL_accesses 91 = .ok (.iconst 1, 1) := by decide +kernel
theorem dL_accesses_92 : decode cL_accesses 92 = .ok (.goto 4, 3) := by decide +kernel
theorem dL_accesses_95 : decode cL_accesses 95 = .ok (.iconst 0, 1) := by decide +kernel
theorem dL_accesses_96 : decode cL_accesses 96 = .ok (.istore 4, 2) := by decide +kernel
theorem dL_accesses_98 : decode cL_accesses 98 = .ok (.aload_n 0, 1) := by decide +kernel
theorem dL_accesses_99 : decode cL_accesses 99 = .ok (.getfield 10, 3) := by decide +kernel
theorem dL_accesses_102 : decode cL_accesses 102 = .ok (.iload_n 1, 1) := by decide +kernel
theorem dL_accesses_103 : decode cL_accesses 103 = .ok (.iload_n 2, 1) := by decide +kernel
theorem dL_accesses_104 : decode cL_accesses 104 = .ok (.invokestatic 193, 3) := by decide +kernel
theorem dL_accesses_107 : decode cL_accesses 107 = .ok (.iconst 1, 1) := by decide +kernel
theorem dL_accesses_108 : decode cL_accesses 108 = .ok (.if_icmp .ne 7, 3) := by decide +kernel
theorem dL_accesses_111 : decode cL_accesses 111 = .ok (.iconst 1, 1) := by decide +kernel
theorem dL_accesses_112 : decode cL_accesses 112 = .ok (.goto 4, 3) := by decide +kernel
theorem dL_accesses_115 : decode cL_accesses 115 = .ok (.iconst 0, 1) := by decide +kernel
theorem dL_accesses_116 : decode cL_accesses 116 = .ok (.istore 5, 2) := by decide +kernel
theorem dL_accesses_118 : decode cL_accesses 118 = .ok (.aload_n 0, 1) := by decide +kernel
theorem dL_accesses_119 : decode cL_accesses 119 = .ok (.getfield 10, 3) := by decide +kernel
theorem dL_accesses_122 : decode cL_accesses 122 = .ok (.iload_n 1, 1) := by decide +kernel
theorem dL_accesses_123 : decode cL_accesses 123 = .ok (.iload_n 2, 1) := by decide +kernel
theorem dL_accesses_124 : decode cL_accesses 124 = .ok (.iconst 2, 1) := by decide +kernel
theorem dL_accesses_125 : decode cL_accesses 125 = .ok (.invokestatic 195, 3) := by decide +kernel
theorem dL_accesses_128 : decode cL_accesses 128 = .ok (.istore 6, 2) := by decide +kernel
theorem dL_accesses_130 : decode cL_accesses 130 = .ok (.aload_n 0, 1) := by decide +kernel
theorem dL_accesses_131 : decode cL_accesses 131 = .ok (.getfield 10, 3) := by decide +kernel
theorem dL_accesses_134 : decode cL_accesses 134 = .ok (.iload_n 1, 1) := by decide +kernel
theorem dL_accesses_135 : decode cL_accesses 135 = .ok (.iload_n 2, 1) := by decide +kernel
theorem dL_accesses_136 : decode cL_accesses 136 = .ok (.iconst 3, 1) := by decide +kernel
theorem dL_accesses_137 : decode cL_accesses 137 = .ok (.invokestatic 195, 3) := by decide +kernel
theorem dL_accesses_140 : decode cL_accesses 140 = .ok (.istore 7, 2) := by decide +kernel
theorem dL_accesses_142 : decode cL_accesses 142 = .ok (.aload_n 0, 1) := by decide +kernel
theorem dL_accesses_143 : decode cL_accesses 143 = .ok (.getfield 10, 3) := by decide +kernel
theorem dL_accesses_146 : decode cL_accesses 146 = .ok (.iload_n 1, 1) := by decide +kernel
theorem dL_accesses_147 : decode cL_accesses 147 = .ok (.iload_n 2, 1) := by decide +kernel
theorem dL_accesses_148 : decode cL_accesses 148 = .ok (.iconst 4, 1) := by decide +kernel
theorem dL_accesses_149 : decode cL_accesses 149 = .ok (.invokestatic 195, 3) := by decide +kernel
theorem dL_accesses_152 : decode cL_accesses 152 = .ok (.istore 8, 2) := by decide +kernel
theorem dL_accesses_154 : decode cL_accesses 154 = .ok (.aload_n 0, 1) := by decide +kernel
theorem dL_accesses_155 : decode cL_accesses 155 = .ok (.getfield 10, 3) := by decide +kernel
theorem dL_accesses_158 : decode cL_accesses 158 = .ok (.iload_n 1, 1) := by decide +kernel
theorem dL_accesses_159 : decode cL_accesses 159 = .ok (.iload_n 2, 1) := by decide +kernel
theorem dL_accesses_160 : decode cL_accesses 160 = .ok (.iconst 5, 1) := by decide +kernel
theorem dL_accesses_161 : decode cL_accesses 161 = .ok (.invokestatic 195, 3) := by decide +kernel
theorem dL_accesses_164 : decode cL_accesses 164 = .ok (.istore 9, 2) := by decide +kernel
theorem dL_accesses_166 : decode cL_accesses 166 = .ok (.aload_n 0, 1) := by decide +kernel
theorem dL_accesses_167 : decode cL_accesses 167 = .ok (.getfield 10, 3) := by decide +kernel
theorem dL_accesses_170 : decode cL_accesses 170 = .ok (.iload_n 1, 1) := by decide +kernel
theorem dL_accesses_171 : decode cL_accesses 171 = .ok (.iload_n 2, 1) := by decide +kernel
theorem dL_accesses_172 : decode cL_accesses 172 = .ok (.bipush 6, 2) := by decide +kernel
theorem dL_accesses_174 : decode cL_accesses 174 = .ok (.invokestatic 195, 3) := by decide +kernel
theorem dL_accesses_177 : decode cL_accesses 177 = .ok (.istore 10, 2) := by decide +kernel
theorem dL_accesses_179 : decode cL_accesses 179 = .ok (.aload_n 0, 1) := by decide +kernel
theorem dL_accesses_180 : decode cL_accesses 180 = .ok (.getfield 10, 3) := by decide +kernel
theorem dL_accesses_183 : decode cL_accesses 183 = .ok (.bipush 7, 2) := by decide +kernel
theorem dL_accesses_185 : decode cL_accesses 185 = .ok (.invokestatic 159, 3) := by decide +kernel
theorem dL_accesses_188 : decode cL_accesses 188 = .ok (.aload_n 0, 1) := by decide +kernel
theorem dL_accesses_189 : decode cL_accesses 189 = .ok (.getfield 10, 3) := by decide +kernel
theorem dL_accesses_192 : decode cL_accesses 192 = .ok (.bipush 8, 2) := by decide +kernel
theorem dL_accesses_194 : decode cL_accesses 194 = .ok (.invokestatic 159, 3) := by decide +kernel
theorem dL_accesses_197 : decode cL_accesses 197 = .ok (.iadd, 1) := by decide +kernel
theorem dL_accesses_198 : decode cL_accesses 198 = .ok (.aload_n 0, 1) := by decide +kernel
theorem dL_accesses_199 : decode cL_accesses 199 = .ok (.getfield 10, 3) := by decide +kernel
theorem dL_accesses_202 : decode cL_accesses 202 = .ok (.iconst 2, 1) := by decide +kernel
theorem dL_accesses_203 : decode cL_accesses 203 = .ok (.invokestatic 159, 3) := by decide +kernel
theorem dL_accesses_206 : decode cL_accesses 206 = .ok (.if_icmp .ne 7, 3) := by decide +kernel
theorem dL_accesses_209 : decode cL_accesses 209 = .ok (.iconst 1, 1) := by decide +kernel
theorem dL_accesses_210 : decode cL_accesses 210 = .ok (.goto 4, 3) := by decide +kernel
theorem dL_accesses_213 : decode cL_accesses 213 = .ok (.iconst 0, 1) := by decide +kernel
theorem dL_accesses_214 : decode cL_accesses 214 = .ok (.istore 11, 2) := by decide +kernel
theorem dL_accesses_216 : decode cL_accesses 216 = .ok (.bipush 6, 2) := by decide +kernel
theorem dL_accesses_218 : decode cL_accesses 218 = .ok (.newarray .int, 2) := by decide +kernel
theorem dL_accesses_220 : decode cL_accesses 220 = .ok (.dup, 1) := by decide +kernel
theorem dL_accesses_221 : decode cL_accesses 221 = .ok (.iconst 0, 1) := by decide +kernel
theorem dL_accesses_222 : decode cL_accesses 222 = .ok (.aload_n 0, 1) := by decide +kernel
theorem dL_accesses_223 : decode cL_accesses 223 = .ok (.getfield 10, 3) := by decide +kernel
theorem dL_accesses_226 : decode cL_accesses 226 = .ok (.bipush 14, 2) := by decide +kernel
theorem dL_accesses_228 : decode cL_accesses 228 = .ok (.iload 4, 2) := by decide +kernel
theorem dL_accesses_230 : decode cL_accesses 230 = .ok (.iadd, 1) := by decide +kernel
theorem dL_accesses_231 : decode cL_accesses 231 = .ok (.invokestatic 159, 3) := by decide +kernel
theorem dL_accesses_234 : decode cL_accesses 234 = .ok (.iastore, 1) := by decide +kernel
theorem dL_accesses_235 : decode cL_accesses 235 = .ok (.dup, 1) := by decide +kernel
theorem dL_accesses_236 : decode cL_accesses 236 = .ok (.iconst 1, 1) := by decide +kernel
theorem dL_accesses_237 : decode cL_accesses 237 = .ok (.aload_n 0, 1) := by decide +kernel
theorem dL_accesses_238 : decode cL_accesses 238 = .ok (.getfield 10, 3) := by decide +kernel
theorem dL_accesses_241 : decode cL_accesses 241 = .ok (.bipush 19, 2) := by decide +kernel
theorem dL_accesses_243 : decode cL_accesses 243 = .ok (.invokestatic 159, 3) := by decide +kernel
theorem dL_accesses_246 : decode cL_accesses 246 = .ok (.iastore, 1) := by decide +kernel
theorem dL_accesses_247 : decode cL_accesses 247 = .ok (.dup, 1) := by decide +kernel
theorem dL_accesses_248 : decode cL_accesses 248 = .ok (.iconst 2, 1) := by decide +kernel
theorem dL_accesses_249 : decode cL_accesses 249 = .ok (.aload_n 0, 1) := by decide +kernel
theorem dL_accesses_250 : decode cL_accesses 250 = .ok (.getfield 10, 3) := by decide +kernel
theorem dL_accesses_253 : decode cL_accesses 253 = .ok (.bipush 20, 2) := by decide +kernel
theorem dL_accesses_255 : decode cL_accesses 255 = .ok (.invokestatic 159, 3) := by decide +kernel
theorem dL_accesses_258 : decode cL_accesses 258 = .ok (.iastore, 1) := by decide +kernel
theorem dL_accesses_259 : decode cL_accesses 259 = .ok (.dup, 1) := by decide +kernel
theorem dL_accesses_260 : decode cL_accesses 260 = .ok (.iconst 3, 1) := by decide +kernel
theorem dL_accesses_261 : decode cL_accesses 261 = .ok (.aload_n 0, 1) := by decide +kernel
theorem dL_accesses_262 : decode cL_accesses 262 = .ok (.getfield 10, 3) := by decide +kernel
theorem dL_accesses_265 : decode cL_accesses 265 = .ok (.bipush 21, 2) := by decide +kernel
theorem dL_accesses_267 : decode cL_accesses 267 = .ok (.invokestatic 159, 3) := by decide +kernel
theorem dL_accesses_270 : decode cL_accesses 270 = .ok (.iastore, 1) := by decide +kernel
theorem dL_accesses_271 : decode cL_accesses 271 = .ok (.dup, 1) := by decide +kernel
theorem dL_accesses_272 : decode cL_accesses 272 = .ok (.iconst 4, 1) := by decide +kernel
theorem dL_accesses_273 : decode cL_accesses 273 = .ok (.aload_n 0, 1) := by decide +kernel
theorem dL_accesses_274 : decode cL_accesses 274 = .ok (.getfield 10, 3) := by decide +kernel
theorem dL_accesses_277 : decode cL_accesses 277 = .ok (.bipush 22, 2) := by decide +kernel
theorem dL_accesses_279 : decode cL_accesses 279 = .ok (.invokestatic 159, 3) := by decide +kernel
theorem dL_accesses_282 : decode cL_accesses 282 = .ok (.iastore, 1) := by decide +kernel
theorem dL_accesses_283 : decode cL_accesses 283 = .ok (.dup, 1) := by decide +kernel
theorem dL_accesses_284 : decode cL_accesses 284 = .ok (.iconst 5, 1) := by decide +kernel
theorem dL_accesses_285 : decode cL_accesses 285 = .ok (.aload_n 0, 1) := by decide +kernel
theorem dL_accesses_286 : decode cL_accesses 286 = .ok (.getfield 10, 3) := by decide +kernel
theorem dL_accesses_289 : decode cL_accesses 289 = .ok (.iconst 5, 1) := by decide +kernel
theorem dL_accesses_290 : decode cL_accesses 290 = .ok (.invokestatic 159, 3) := by decide +kernel
theorem dL_accesses_293 : decode cL_accesses 293 = .ok (.iastore, 1) := by decide +kernel
theorem dL_accesses_294 : decode cL_accesses 294 = .ok (.astore 12, 2) := by decide +kernel
theorem dL_accesses_296 : decode cL_accesses 296 = .ok (.aload_n 0, 1) := by decide +kernel
theorem dL_accesses_297 : decode cL_accesses 297 = .ok (.getfield 10, 3) := by decide +kernel
theorem dL_accesses_300 : decode cL_accesses 300 = .ok (.iload_n 1, 1) := by decide +kernel
theorem dL_accesses_301 : decode cL_accesses 301 = .ok (.iload_n 2, 1) := by decide +kernel
theorem dL_accesses_302 : decode cL_accesses 302 = .ok (.iconst 0, 1) := by decide +kernel
theorem dL_accesses_303 : decode cL_accesses 303 = .ok (.invokestatic 195, 3) := by decide +kernel
theorem dL_accesses_306 : decode cL_accesses 306 = .ok (.iload 4, 2) := by decide +kernel
theorem dL_accesses_308 : decode cL_accesses 308 = .ok (.if_icmp .ne 18, 3) := by decide +kernel
theorem dL_accesses_311 : decode cL_accesses 311 = .ok (.aload_n 0, 1) := by decide +kernel
theorem dL_accesses_312 : decode cL_accesses 312 = .ok (.getfield 10, 3) := by decide +kernel
theorem dL_accesses_315 : decode cL_accesses 315 = .ok (.iload_n 1, 1) := by decide +kernel
theorem dL_accesses_316 : decode cL_accesses 316 = .ok (.iload_n 2, 1) := by decide +kernel
theorem dL_accesses_317 : decode cL_accesses 317 = .ok (.iconst 1, 1) := by decide +kernel
theorem dL_accesses_318 : decode cL_accesses 318 = .ok (.invokestatic 195, 3) := by decide +kernel
theorem dL_accesses_321 : decode cL_accesses 321 = .ok (.iload 5, 2) := by decide +kernel
theorem dL_accesses_323 : decode cL_accesses 323 = .ok (.if_icmp .eq 5, 3) := by decide +kernel
theorem dL_accesses_326 : decode cL_accesses 326 = .ok (.iconst 0, 1) := by decide +kernel
theorem dL_accesses_327 : decode cL_accesses 327 = .ok (.ireturn, 1) := by decide +kernel
theorem dL_accesses_328 : decode cL_accesses 328 = .ok (.aload_n 0, 1) := by decide +kernel
theorem dL_accesses_329 : decode cL_accesses 329 = .ok (.iconst 2, 1) := by decide +kernel
theorem dL_accesses_330 : decode cL_accesses 330 = .ok (.invokevirtual 142, 3) := by decide +kernel
theorem dL_accesses_333 : decode cL_accesses 333 = .ok (.ifCond .ne 7, 3) := by decide +kernel
theorem dL_accesses_336 : decode cL_accesses 336 = .ok (.iconst 1, 1) := by decide +kernel
theorem dL_accesses_337 : decode cL_accesses 337 = .ok (.goto 4, 3) := by decide +kernel
theorem dL_accesses_340 : decode cL_accesses 340 = .ok (.iconst 0, 1) := by decide +kernel
theorem dL_accesses_341 : decode cL_accesses 341 = .ok (.istore 13, 2) := by decide +kernel
theorem dL_accesses_343 : decode cL_accesses 343 = .ok (.aload_n 0, 1) := by decide +kernel
theorem dL_accesses_344 : decode cL_accesses 344 = .ok (.sipush 1000, 3) := by decide +kernel
theorem dL_accesses_347 : decode cL_accesses 347 = .ok (.invokevirtual 142, 3) := by decide +kernel
theorem dL_accesses_350 : decode cL_accesses 350 = .ok (.istore 14, 2) := by decide +kernel
theorem dL_accesses_352 : decode cL_accesses 352 = .ok (.iload 13, 2) := by decide +kernel
theorem dL_accesses_354 : decode cL_accesses 354 = .ok (.ifCond .eq 84, 3) := by decide +kernel
theorem dL_accesses_357 : decode cL_accesses 357 = .ok (.aload_n 0, 1) := by decide +kernel
theorem dL_accesses_358 : decode cL_accesses 358 = .ok (.getfield 10, 3) := by decide +kernel
theorem dL_accesses_361 : decode cL_accesses 361 = .ok (.iload_n 1, 1) := by decide +kernel
theorem dL_accesses_362 : decode cL_accesses 362 = .ok (.iload_n 2, 1) := by decide +kernel
theorem dL_accesses_363 : decode cL_accesses 363 = .ok (.iload 14, 2) := by decide +kernel
theorem dL_accesses_365 : decode cL_accesses 365 = .ok (.invokestatic 197, 3) := by decide +kernel
theorem dL_accesses_368 : decode cL_accesses 368 = .ok (.istore 15, 2) := by decide +kernel
theorem dL_accesses_370 : decode cL_accesses 370 = .ok (.aload_n 0, 1) := by decide +kernel
theorem dL_accesses_371 : decode cL_accesses 371 = .ok (.getfield 10, 3) := by decide +kernel
theorem dL_accesses_374 : decode cL_accesses 374 = .ok (.bipush 12, 2) := by decide +kernel
theorem dL_accesses_376 : decode cL_accesses 376 = .ok (.invokestatic 159, 3) := by decide +kernel
theorem dL_accesses_379 : decode cL_accesses 379 = .ok (.istore 16, 2) := by decide +kernel
theorem dL_accesses_381 : decode cL_accesses 381 = .ok (.aload_n 0, 1) := by decide +kernel
theorem dL_accesses_382 : decode cL_accesses 382 = .ok (.getfield 16, 3) := by decide +kernel
theorem dL_accesses_385 : decode cL_accesses 385 = .ok (.iload_n 2, 1) := by decide +kernel
theorem dL_accesses_386 : decode cL_accesses 386 = .ok (.iload 14, 2) := by decide +kernel
theorem dL_accesses_388 : decode cL_accesses 388 = .ok (.iastore, 1) := by decide +kernel
theorem dL_accesses_389 : decode cL_accesses 389 = .ok (.iload 15, 2) := by decide +kernel
theorem dL_accesses_391 : decode cL_accesses 391 = .ok (.iload 9, 2) := by decide +kernel
theorem dL_accesses_393 : decode cL_accesses 393 = .ok (.if_icmp .lt 40, 3) := by decide +kernel
theorem dL_accesses_396 : decode cL_accesses 396 = .ok (.iload 16, 2) := by decide +kernel
theorem dL_accesses_398 : decode cL_accesses 398 = .ok (.aload_n 0, 1) := by decide +kernel
theorem dL_accesses_399 : decode cL_accesses 399 = .ok (.getfield 10, 3) := by decide +kernel
theorem dL_accesses_402 : decode cL_accesses 402 = .ok (.iconst 1, 1) := by decide +kernel
theorem dL_accesses_403 : decode cL_accesses 403 = .ok (.invokestatic 159, 3) := by decide +kernel
theorem dL_accesses_406 : decode cL_accesses 406 = .ok (.if_icmp .le 8, 3) := by decide +kernel
theorem dL_accesses_409 : decode cL_accesses 409 = .ok (.iload 16, 2) := by decide +kernel
theorem dL_accesses_411 : decode cL_accesses 411 = .ok (.ifCond .gt 22, 3) := by decide +kernel
theorem dL_accesses_414 : decode cL_accesses 414 = .ok (.aload_n 0, 1) := by decide +kernel
theorem dL_accesses_415 : decode cL_accesses 415 = .ok (.getfield 10, 3) := by decide +kernel
theorem dL_accesses_418 : decode cL_accesses 418 = .ok (.bipush 21, 2) := by decide +kernel
theorem dL_accesses_420 : decode cL_accesses 420 = .ok (.invokestatic 159, 3) := by decide +kernel
theorem dL_accesses_423 : decode cL_accesses 423 = .ok (.aload 12, 2) := by decide +kernel
theorem dL_accesses_425 : decode cL_accesses 425 = .ok (.iconst 3, 1) := by decide +kernel
theorem dL_accesses_426 : decode cL_accesses 426 = .ok (.iaload, 1) := by decide +kernel
theorem dL_accesses_427 : decode cL_accesses 427 = .ok (.iload 15, 2) := by decide +kernel
theorem dL_accesses_429 : decode cL_accesses 429 = .ok (.iadd, 1) := by decide +kernel
theorem dL_accesses_430 : decode cL_accesses 430 = .ok (.if_icmp .eq 5, 3) := by decide +kernel
theorem dL_accesses_433 : decode cL_accesses 433 = .ok (.iconst 0, 1) := by decide +kernel
theorem dL_accesses_434 : decode cL_accesses 434 = .ok (.ireturn, 1) := by decide +kernel
theorem dL_accesses_435 : decode cL_accesses 435 = .ok (.goto 42, 3) := by decide +kernel
theorem dL_accesses_438 : decode cL_accesses 438 = .ok (.aload_n 0, 1) := by decide +kernel
theorem dL_accesses_439 : decode cL_accesses 439 = .ok (.getfield 10, 3) := by decide +kernel
theorem dL_accesses_442 : decode cL_accesses 442 = .ok (.iload_n 1, 1) := by decide +kernel
theorem dL_accesses_443 : decode cL_accesses 443 = .ok (.iload_n 2, 1) := by decide +kernel
theorem dL_accesses_444 : decode cL_accesses 444 = .ok (.invokestatic 199, 3) := by decide +kernel
theorem dL_accesses_447 : decode cL_accesses 447 = .ok (.aload_n 0, 1) := by decide +kernel
theorem dL_accesses_448 : decode cL_accesses 448 = .ok (.getfield 16, 3) := by decide +kernel
theorem dL_accesses_451 : decode cL_accesses 451 = .ok (.iload_n 2, 1) := by decide +kernel
theorem dL_accesses_452 : decode cL_accesses 452 = .ok (.iaload, 1) := by decide +kernel
theorem dL_accesses_453 : decode cL_accesses 453 = .ok (.if_icmp .ne 22, 3) := by decide +kernel
theorem dL_accesses_456 : decode cL_accesses 456 = .ok (.aload_n 0, 1) := by decide +kernel
theorem dL_accesses_457 : decode cL_accesses 457 = .ok (.getfield 10, 3) := by decide +kernel
theorem dL_accesses_460 : decode cL_accesses 460 = .ok (.bipush 21, 2) := by decide +kernel
theorem dL_accesses_462 : decode cL_accesses 462 = .ok (.invokestatic 159, 3) := by decide +kernel
theorem dL_accesses_465 : decode cL_accesses 465 = .ok (.aload 12, 2) := by decide +kernel
theorem dL_accesses_467 : decode cL_accesses 467 = .ok (.iconst 3, 1) := by decide +kernel
theorem dL_accesses_468 : decode cL_accesses 468 = .ok (.iaload, 1) := by decide +kernel
theorem dL_accesses_469 : decode cL_accesses 469 = .ok (.iload 9, 2) := by decide +kernel
theorem dL_accesses_471 : decode cL_accesses 471 = .ok (.iadd, 1) := by decide +kernel
theorem dL_accesses_472 : decode cL_accesses 472 = .ok (.if_icmp .eq 5, 3) := by decide +kernel
theorem dL_accesses_475 : decode cL_accesses 475 = .ok (.iconst 0, 1) := by decide +kernel
theorem dL_accesses_476 : decode cL_accesses 476 = .ok (.ireturn, 1) := by decide +kernel
theorem dL_accesses_477 : decode cL_accesses 477 = .ok (.aload_n 0, 1) := by decide +kernel
theorem dL_accesses_478 : decode cL_accesses 478 = .ok (.getfield 10, 3) := by decide +kernel
theorem dL_accesses_481 : decode cL_accesses 481 = .ok (.bipush 14, 2) := by decide +kernel
theorem dL_accesses_483 : decode cL_accesses 483 = .ok (.iload 4, 2) := by decide +kernel
theorem dL_accesses_485 : decode cL_accesses 485 = .ok (.iadd, 1) := by decide +kernel
theorem dL_accesses_486 : decode cL_accesses 486 = .ok (.invokestatic 159, 3) := by decide +kernel
theorem dL_accesses_489 : decode cL_accesses 489 = .ok (.aload 12, 2) := by decide +kernel
theorem dL_accesses_491 : decode cL_accesses 491 = .ok (.iconst 0, 1) := by decide +kernel
theorem dL_accesses_492 : decode cL_accesses 492 = .ok (.iaload, 1) := by decide +kernel
theorem dL_accesses_493 : decode cL_accesses 493 = .ok (.iconst 1, 1) := by decide +kernel
theorem dL_accesses_494 : decode cL_accesses 494 = .ok (.iadd, 1) := by decide +kernel
theorem dL_accesses_495 : decode cL_accesses 495 = .ok (.if_icmp .ne 93, 3) := by decide +kernel
theorem dL_accesses_498 : decode cL_accesses 498 = .ok (.aload_n 0, 1) := by decide +kernel
theorem dL_accesses_499 : decode cL_accesses 499 = .ok (.getfield 10, 3) := by decide +kernel
theorem dL_accesses_502 : decode cL_accesses 502 = .ok (.iconst 5, 1) := by decide +kernel
theorem dL_accesses_503 : decode cL_accesses 503 = .ok (.invokestatic 159, 3) := by decide +kernel
theorem dL_accesses_506 : decode cL_accesses 506 = .ok (.aload 12, 2) := by decide +kernel
theorem dL_accesses_508 : decode cL_accesses 508 = .ok (.iconst 5, 1) := by decide +kernel
theorem dL_accesses_509 : decode cL_accesses 509 = .ok (.iaload, 1) := by decide +kernel
theorem dL_accesses_510 : decode cL_accesses 510 = .ok (.iconst 1, 1) := by decide +kernel
theorem dL_accesses_511 : decode cL_accesses 511 = .ok (.iadd, 1) := by decide +kernel
theorem dL_accesses_512 : decode cL_accesses 512 = .ok (.if_icmp .ne 76, 3) := by decide +kernel
theorem dL_accesses_515 : decode cL_accesses 515 = .ok (.aload_n 0, 1) := by decide +kernel
theorem dL_accesses_516 : decode cL_accesses 516 = .ok (.getfield 10, 3) := by decide +kernel
theorem dL_accesses_519 : decode cL_accesses 519 = .ok (.bipush 22, 2) := by decide +kernel
theorem dL_accesses_521 : decode cL_accesses 521 = .ok (.invokestatic 159, 3) := by decide +kernel
theorem dL_accesses_524 : decode cL_accesses 524 = .ok (.aload 12, 2) := by decide +kernel
theorem dL_accesses_526 : decode cL_accesses 526 = .ok (.iconst 4, 1) := by decide +kernel
theorem dL_accesses_527 : decode cL_accesses 527 = .ok (.iaload, 1) := by decide +kernel
theorem dL_accesses_528 : decode cL_accesses 528 = .ok (.iload 5, 2) := by decide +kernel
theorem dL_accesses_530 : decode cL_accesses 530 = .ok (.iadd, 1) := by decide +kernel
theorem dL_accesses_531 : decode cL_accesses 531 = .ok (.if_icmp .ne 57, 3) := by decide +kernel
theorem dL_accesses_534 : decode cL_accesses 534 = .ok (.aload_n 0, 1) := by decide +kernel
theorem dL_accesses_535 : decode cL_accesses 535 = .ok (.getfield 10, 3) := by decide +kernel
theorem dL_accesses_538 : decode cL_accesses 538 = .ok (.bipush 19, 2) := by decide +kernel
theorem dL_accesses_540 : decode cL_accesses 540 = .ok (.invokestatic 159, 3) := by decide +kernel
theorem dL_accesses_543 : decode cL_accesses 543 = .ok (.aload 12, 2) := by decide +kernel
theorem dL_accesses_545 : decode cL_accesses 545 = .ok (.iconst 1, 1) := by decide +kernel
theorem dL_accesses_546 : decode cL_accesses 546 = .ok (.iaload, 1) := by decide +kernel
theorem dL_accesses_547 : decode cL_accesses 547 = .ok (.iload 7, 2) := by decide +kernel
theorem dL_accesses_549 : decode cL_accesses 549 = .ok (.ifCond .ge 7, 3) := by decide +kernel
theorem dL_accesses_552 : decode cL_accesses 552 = .ok (.iconst 0, 1) := by decide +kernel
theorem dL_accesses_553 : decode cL_accesses 553 = .ok (.goto 4, 3) := by decide +kernel
theorem dL_accesses_556 : decode cL_accesses 556 = .ok (.iconst 1, 1) := by decide +kernel
theorem dL_accesses_557 : decode cL_accesses 557 = .ok (.iadd, 1) := by decide +kernel
theorem dL_accesses_558 : decode cL_accesses 558 = .ok (.if_icmp .ne 30, 3) := by decide +kernel
theorem dL_accesses_561 : decode cL_accesses 561 = .ok (.aload_n 0, 1) := by decide +kernel
theorem dL_accesses_562 : decode cL_accesses 562 = .ok (.getfield 10, 3) := by decide +kernel
theorem dL_accesses_565 : decode cL_accesses 565 = .ok (.bipush 20, 2) := by decide +kernel
theorem dL_accesses_567 : decode cL_accesses 567 = .ok (.invokestatic 159, 3) := by decide +kernel
theorem dL_accesses_570 : decode cL_accesses 570 = .ok (.aload 12, 2) := by decide +kernel
theorem dL_accesses_572 : decode cL_accesses 572 = .ok (.iconst 2, 1) := by decide +kernel
theorem dL_accesses_573 : decode cL_accesses 573 = .ok (.iaload, 1) := by decide +kernel
theorem dL_accesses_574 : decode cL_accesses 574 = .ok (.iload 8, 2) := by decide +kernel
theorem dL_accesses_576 : decode cL_accesses 576 = .ok (.ifCond .ge 7, 3) := by decide +kernel
theorem dL_accesses_579 : decode cL_accesses 579 = .ok (.iconst 0, 1) := by decide +kernel
theorem dL_accesses_580 : decode cL_accesses 580 = .ok (.goto 4, 3) := by decide +kernel
theorem dL_accesses_583 : decode cL_accesses 583 = .ok (.iconst 1, 1) := by decide +kernel
theorem dL_accesses_584 : decode cL_accesses 584 = .ok (.iadd, 1) := by decide +kernel
theorem dL_accesses_585 : decode cL_accesses 585 = .ok (.if_icmp .eq 5, 3) := by decide +kernel
theorem dL_accesses_588 : decode cL_accesses 588 = .ok (.iconst 0, 1) := by decide +kernel
theorem dL_accesses_589 : decode cL_accesses 589 = .ok (.ireturn, 1) := by decide +kernel
theorem dL_accesses_590 : decode cL_accesses 590 = .ok (.aload_n 0, 1) := by decide +kernel
theorem dL_accesses_591 : decode cL_accesses 591 = .ok (.getfield 10, 3) := by decide +kernel
theorem dL_accesses_594 : decode cL_accesses 594 = .ok (.iload_n 2, 1) := by decide +kernel
theorem dL_accesses_595 : decode cL_accesses 595 = .ok (.iconst 0, 1) := by decide +kernel
theorem dL_accesses_596 : decode cL_accesses 596 = .ok (.invokestatic 163, 3) := by decide +kernel
theorem dL_accesses_599 : decode cL_accesses 599 = .ok (.iload 6, 2) := by decide +kernel
theorem dL_accesses_601 : decode cL_accesses 601 = .ok (.if_icmp .ne 59, 3) := by decide +kernel
theorem dL_accesses_604 : decode cL_accesses 604 = .ok (.aload_n 0, 1) := by decide +kernel
theorem dL_accesses_605 : decode cL_accesses 605 = .ok (.getfield 10, 3) := by decide +kernel
theorem dL_accesses_608 : decode cL_accesses 608 = .ok (.iload_n 2, 1) := by decide +kernel
theorem dL_accesses_609 : decode cL_accesses 609 = .ok (.iconst 1, 1) := by decide +kernel
theorem dL_accesses_610 : decode cL_accesses 610 = .ok (.invokestatic 163, 3) := by decide +kernel
theorem dL_accesses_613 : decode cL_accesses 613 = .ok (.ifCond .eq 8, 3) := by decide +kernel
theorem dL_accesses_616 : decode cL_accesses 616 = .ok (.iload 4, 2) := by decide +kernel
theorem dL_accesses_618 : decode cL_accesses 618 = .ok (.ifCond .gt 42, 3) := by decide +kernel
theorem dL_accesses_621 : decode cL_accesses 621 = .ok (.aload_n 0, 1) := by decide +kernel
theorem dL_accesses_622 : decode cL_accesses 622 = .ok (.getfield 10, 3) := by decide +kernel
theorem dL_accesses_625 : decode cL_accesses 625 = .ok (.iload_n 2, 1) := by decide +kernel
theorem dL_accesses_626 : decode cL_accesses 626 = .ok (.iconst 3, 1) := by decide +kernel
theorem dL_accesses_627 : decode cL_accesses 627 = .ok (.invokestatic 163, 3) := by decide +kernel
theorem dL_accesses_630 : decode cL_accesses 630 = .ok (.iload_n 1, 1) := by decide +kernel
theorem dL_accesses_631 : decode cL_accesses 631 = .ok (.if_icmp .ne 29, 3) := by decide +kernel
theorem dL_accesses_634 : decode cL_accesses 634 = .ok (.aload_n 0, 1) := by decide +kernel
theorem dL_accesses_635 : decode cL_accesses 635 = .ok (.getfield 10, 3) := by decide +kernel
theorem dL_accesses_638 : decode cL_accesses 638 = .ok (.iconst 4, 1) := by decide +kernel
theorem dL_accesses_639 : decode cL_accesses 639 = .ok (.invokestatic 159, 3) := by decide +kernel
theorem dL_accesses_642 : decode cL_accesses 642 = .ok (.iload 10, 2) := by decide +kernel
theorem dL_accesses_644 : decode cL_accesses 644 = .ok (.if_icmp .ne 16, 3) := by decide +kernel
theorem dL_accesses_647 : decode cL_accesses 647 = .ok (.aload_n 0, 1) := by decide +kernel
theorem dL_accesses_648 : decode cL_accesses 648 = .ok (.getfield 10, 3) := by decide +kernel
theorem dL_accesses_651 : decode cL_accesses 651 = .ok (.iload_n 1, 1) := by decide +kernel
theorem dL_accesses_652 : decode cL_accesses 652 = .ok (.iconst 4, 1) := by decide +kernel
theorem dL_accesses_653 : decode cL_accesses 653 = .ok (.invokestatic 172, 3) := by decide +kernel
theorem dL_accesses_656 : decode cL_accesses 656 = .ok (.iload_n 2, 1) := by decide +kernel
theorem dL_accesses_657 : decode cL_accesses 657 = .ok (.if_icmp .eq 5, 3) := by decide +kernel
theorem dL_accesses_660 : decode cL_accesses 660 = .ok (.iconst 0, 1) := by decide +kernel
theorem dL_accesses_661 : decode cL_accesses 661 = .ok (.ireturn, 1) := by decide +kernel
theorem dL_accesses_662 : decode cL_accesses 662 = .ok (.iload 7, 2) := by decide +kernel
theorem dL_accesses_664 : decode cL_accesses 664 = .ok (.ifCond .lt 49, 3) := by decide +kernel
theorem dL_accesses_667 : decode cL_accesses 667 = .ok (.aload_n 0, 1) := by decide +kernel
theorem dL_accesses_668 : decode cL_accesses 668 = .ok (.getfield 10, 3) := by decide +kernel
theorem dL_accesses_671 : decode cL_accesses 671 = .ok (.iload 7, 2) := by decide +kernel
theorem dL_accesses_673 : decode cL_accesses 673 = .ok (.iconst 0, 1) := by decide +kernel
theorem dL_accesses_674 : decode cL_accesses 674 = .ok (.invokestatic 163, 3) := by decide +kernel
theorem dL_accesses_677 : decode cL_accesses 677 = .ok (.iconst 2, 1) := by decide +kernel
theorem dL_accesses_678 : decode cL_accesses 678 = .ok (.if_icmp .ne 33, 3) := by decide +kernel
theorem dL_accesses_681 : decode cL_accesses 681 = .ok (.aload_n 0, 1) := by decide +kernel
theorem dL_accesses_682 : decode cL_accesses 682 = .ok (.getfield 10, 3) := by decide +kernel
theorem dL_accesses_685 : decode cL_accesses 685 = .ok (.iload 7, 2) := by decide +kernel
theorem dL_accesses_687 : decode cL_accesses 687 = .ok (.iconst 5, 1) := by decide +kernel
theorem dL_accesses_688 : decode cL_accesses 688 = .ok (.invokestatic 163, 3) := by decide +kernel
theorem dL_accesses_691 : decode cL_accesses 691 = .ok (.iconst 3, 1) := by decide +kernel
theorem dL_accesses_692 : decode cL_accesses 692 = .ok (.if_icmp .lt 19, 3) := by decide +kernel
theorem dL_accesses_695 : decode cL_accesses 695 = .ok (.iload 11, 2) := by decide +kernel
theorem dL_accesses_697 : decode cL_accesses 697 = .ok (.ifCond .eq 14, 3) := by decide +kernel
theorem dL_accesses_700 : decode cL_accesses 700 = .ok (.iload 4, 2) := by decide +kernel
theorem dL_accesses_702 : decode cL_accesses 702 = .ok (.ifCond .eq 9, 3) := by decide +kernel
theorem dL_accesses_705 : decode cL_accesses 705 = .ok (.iload 5, 2) := by decide +kernel
theorem dL_accesses_707 : decode cL_accesses 707 = .ok (.iconst 1, 1) := by decide +kernel
theorem dL_accesses_708 : decode cL_accesses 708 = .ok (.if_icmp .ne 5, 3) := by decide +kernel
theorem dL_accesses_711 : decode cL_accesses 711 = .ok (.iconst 0, 1) := by decide +kernel
theorem dL_accesses_712 : decode cL_accesses 712 = .ok (.ireturn, 1) := by decide +kernel
theorem dL_accesses_713 : decode cL_accesses 713 = .ok (.iload 8, 2) := by decide +kernel
theorem dL_accesses_715 : decode cL_accesses 715 = .ok (.ifCond .lt 17, 3) := by decide +kernel
theorem dL_accesses_718 : decode cL_accesses 718 = .ok (.aload_n 0, 1) := by decide +kernel
theorem dL_accesses_719 : decode cL_accesses 719 = .ok (.getfield 10, 3) := by decide +kernel
theorem dL_accesses_722 : decode cL_accesses 722 = .ok (.iload 8, 2) := by decide +kernel
theorem dL_accesses_724 : decode cL_accesses 724 = .ok (.iconst 0, 1) := by decide +kernel
theorem dL_accesses_725 : decode cL_accesses 725 = .ok (.invokestatic 163, 3) := by decide +kernel
theorem dL_accesses_728 : decode cL_accesses 728 = .ok (.iconst (-1), 1) := by decide +kernel
theorem dL_accesses_729 : decode cL_accesses 729 = .ok (.if_icmp .ne 35, 3) := by decide +kernel
theorem dL_accesses_732 : decode cL_accesses 732 = .ok (.iload 5, 2) := by decide +kernel
theorem dL_accesses_734 : decode cL_accesses 734 = .ok (.iconst 1, 1) := by decide +kernel
theorem dL_accesses_735 : decode cL_accesses 735 = .ok (.if_icmp .eq 9, 3) := by decide +kernel
theorem dL_accesses_738 : decode cL_accesses 738 = .ok (.iload 6, 2) := by decide +kernel
theorem dL_accesses_740 : decode cL_accesses 740 = .ok (.iconst 2, 1) := by decide +kernel
theorem dL_accesses_741 : decode cL_accesses 741 = .ok (.if_icmp .ge 23, 3) := by decide +kernel
theorem dL_accesses_744 : decode cL_accesses 744 = .ok (.iload 4, 2) := by decide +kernel
theorem dL_accesses_746 : decode cL_accesses 746 = .ok (.ifCond .eq 14, 3) := by decide +kernel
theorem dL_accesses_749 : decode cL_accesses 749 = .ok (.iload 5, 2) := by decide +kernel
theorem dL_accesses_751 : decode cL_accesses 751 = .ok (.ifCond .eq 9, 3) := by decide +kernel
theorem dL_accesses_754 : decode cL_accesses 754 = .ok (.iload 6, 2) := by decide +kernel
theorem dL_accesses_756 : decode cL_accesses 756 = .ok (.iconst 2, 1) := by decide +kernel
theorem dL_accesses_757 : decode cL_accesses 757 = .ok (.if_icmp .ne 7, 3) := by decide +kernel
theorem dL_accesses_760 : decode cL_accesses 760 = .ok (.iconst 1, 1) := by decide +kernel
theorem dL_accesses_761 : decode cL_accesses 761 = .ok (.goto 4, 3) := by decide +kernel
theorem dL_accesses_764 : decode cL_accesses 764 = .ok (.iconst 0, 1) := by decide +kernel
theorem dL_accesses_765 : decode cL_accesses 765 = .ok (.ireturn, 1) := by decide +kernel
theorem dL_others_0 : decode cL_others 0 = .ok (.aload_n 0, 1) := by decide +kernel
theorem dL_others_1 : decode cL_others 1 = .ok (.invokevirtual 190, 3) := by decide +kernel
theorem dL_others_4 : decode cL_others 4 = .ok (.istore_n 1, 1) := by decide +kernel
theorem dL_others_5 : decode cL_others 5 = .ok (.aload_n 0, 1) := by decide +kernel
theorem dL_others_6 : decode cL_others 6 = .ok (.getfield 10, 3) := by decide +kernel
theorem dL_others_9 : decode cL_others 9 = .ok (.bipush 23, 2) := by decide +kernel
theorem dL_others_11 : decode cL_others 11 = .ok (.invokestatic 159, 3) := by decide +kernel
theorem dL_others_14 : decode cL_others 14 = .ok (.istore_n 2, 1) := by decide +kernel
theorem dL_others_15 : decode cL_others 15 = .ok (.aload_n 0, 1) := by decide +kernel
theorem dL_others_16 : decode cL_others 16 = .ok (.getfield 10, 3) := by decide +kernel
theorem dL_others_19 : decode cL_others 19 = .ok (.bipush 12, 2) := by decide +kernel
theorem dL_others_21 : decode cL_others 21 = .ok (.invokestatic 159, 3) := by decide +kernel
theorem dL_others_24 : decode cL_others 24 = .ok (.istore_n 3, 1) := by decide +kernel
theorem dL_others_25 : decode cL_others 25 = .ok (.aload_n 0, 1) := by decide +kernel
theorem dL_others_26 : decode cL_others 26 = .ok (.getfield 10, 3) := by decide +kernel
theorem dL_others_29 : decode cL_others 29 = .ok (.bipush 21, 2) := by decide +kernel
theorem dL_others_31 : decode cL_others 31 = .ok (.invokestatic 159, 3) := by decide +kernel
theorem dL_others_34 : decode cL_others 34 = .ok (.istore 4, 2) := by decide +kernel
theorem dL_others_36 : decode cL_others 36 = .ok (.aload_n 0, 1) := by decide +kernel
theorem dL_others_37 : decode cL_others 37 = .ok (.iconst 4, 1) := by decide +kernel
theorem dL_others_38 : decode cL_others 38 = .ok (.invokevirtual 142, 3) := by decide +kernel
theorem dL_others_41 : decode cL_others 41 = .ok (.tableswitch 402 0 2 #[27, 118, 221], 27) := by decide +kernel
theorem dL_others_68 : decode cL_others 68 = .ok (.iconst 1, 1) := by decide +kernel
theorem dL_others_69 : decode cL_others 69 = .ok (.aload_n 0, 1) := by decide +kernel
theorem dL_others_70 : decode cL_others 70 = .ok (.bipush 12, 2) := by decide +kernel
theorem dL_others_72 : decode cL_others 72 = .ok (.invokevirtual 142, 3) := by decide +kernel
theorem dL_others_75 : decode cL_others 75 = .ok (.iadd, 1) := by decide +kernel
theorem dL_others_76 : decode cL_others 76 = .ok (.istore 5, 2) := by decide +kernel
theorem dL_others_78 : decode cL_others 78 = .ok (.aload_n 0, 1) := by decide +kernel
theorem dL_others_79 : decode cL_others 79 = .ok (.getfield 10, 3) := by decide +kernel
theorem dL_others_82 : decode cL_others 82 = .ok (.iload 5, 2) := by decide +kernel
theorem dL_others_84 : decode cL_others 84 = .ok (.invokestatic 201, 3) := by decide +kernel
theorem dL_others_87 : decode cL_others 87 = .ok (.istore 6, 2) := by decide +kernel
theorem dL_others_89 : decode cL_others 89 = .ok (.iload 6, 2) := by decide +kernel
theorem dL_others_91 : decode cL_others 91 = .ok (.iload 5, 2) := by decide +kernel
theorem dL_others_93 : decode cL_others 93 = .ok (.iload_n 3, 1) := by decide +kernel
theorem dL_others_94 : decode cL_others 94 = .ok (.invokestatic 148, 3) := by decide +kernel
theorem dL_others_97 : decode cL_others 97 = .ok (.if_icmp .ne 60, 3) := by decide +kernel
theorem dL_others_100 : decode cL_others 100 = .ok (.aload_n 0, 1) := by decide +kernel
theorem dL_others_101 : decode cL_others 101 = .ok (.getfield 10, 3) := by decide +kernel
theorem dL_others_104 : decode cL_others 104 = .ok (.bipush 12, 2) := by decide +kernel
theorem dL_others_106 : decode cL_others 106 = .ok (.invokestatic 159, 3) := by decide +kernel
theorem dL_others_109 : decode cL_others 109 = .ok (.iload_n 3, 1) := by decide +kernel
theorem dL_others_110 : decode cL_others 110 = .ok (.iload 6, 2) := by decide +kernel
theorem dL_others_112 : decode cL_others 112 = .ok (.isub, 1) := by decide +kernel
theorem dL_others_113 : decode cL_others 113 = .ok (.if_icmp .ne 44, 3) := by decide +kernel
theorem dL_others_116 : decode cL_others 116 = .ok (.aload_n 0, 1) := by decide +kernel
theorem dL_others_117 : decode cL_others 117 = .ok (.getfield 10, 3) := by decide +kernel
theorem dL_others_120 : decode cL_others 120 = .ok (.bipush 21, 2) := by decide +kernel
theorem dL_others_122 : decode cL_others 122 = .ok (.invokestatic 159, 3) := by decide +kernel
theorem dL_others_125 : decode cL_others 125 = .ok (.iload 4, 2) := by decide +kernel
theorem dL_others_127 : decode cL_others 127 = .ok (.iload 6, 2) := by decide +kernel
theorem dL_others_129 : decode cL_others 129 = .ok (.iadd, 1) := by decide +kernel
theorem dL_others_130 : decode cL_others 130 = .ok (.if_icmp .ne 27, 3) := by decide +kernel
theorem dL_others_133 : decode cL_others 133 = .ok (.aload_n 0, 1) := by decide +kernel
theorem dL_others_134 : decode cL_others 134 = .ok (.getfield 10, 3) := by decide +kernel
theorem dL_others_137 : decode cL_others 137 = .ok (.bipush 23, 2) := by decide +kernel
theorem dL_others_139 : decode cL_others 139 = .ok (.invokestatic 159, 3) := by decide +kernel
theorem dL_others_142 : decode cL_others 142 = .ok (.bipush 8, 2) := by decide +kernel
theorem dL_others_144 : decode cL_others 144 = .ok (.iload_n 2, 1) := by decide +kernel
theorem dL_others_145 : decode cL_others 145 = .ok (.iconst 1, 1) := by decide +kernel
theorem dL_others_146 : decode cL_others 146 = .ok (.iadd, 1) := by decide +kernel
theorem dL_others_147 : decode cL_others 147 = .ok (.invokestatic 148, 3) := by decide +kernel
theorem dL_others_150 : decode cL_others 150 = .ok (.if_icmp .ne 7, 3) := by decide +kernel
theorem dL_others_153 : decode cL_others 153 = .ok (.iconst 1, 1) := by decide +kernel
theorem dL_others_154 : decode cL_others 154 = .ok (.goto 4, 3) := by decide +kernel
theorem dL_others_157 : decode cL_others 157 = .ok (.iconst 0, 1) := by decide +kernel
theorem dL_others_158 : decode cL_others 158 = .ok (.ireturn, 1) := by decide +kernel
theorem dL_others_159 : decode cL_others 159 = .ok (.aload_n 0, 1) := by decide +kernel
theorem dL_others_160 : decode cL_others 160 = .ok (.getfield 10, 3) := by decide +kernel
theorem dL_others_163 : decode cL_others 163 = .ok (.iload_n 1, 1) := by decide +kernel
theorem dL_others_164 : decode cL_others 164 = .ok (.iconst 0, 1) := by decide +kernel
theorem dL_others_165 : decode cL_others 165 = .ok (.invokestatic 163, 3) := by decide +kernel
theorem dL_others_168 : decode cL_others 168 = .ok (.istore 5, 2) := by decide +kernel
theorem dL_others_170 : decode cL_others 170 = .ok (.aload_n 0, 1) := by decide +kernel
theorem dL_others_171 : decode cL_others 171 = .ok (.getfield 10, 3) := by decide +kernel
theorem dL_others_174 : decode cL_others 174 = .ok (.iload_n 1, 1) := by decide +kernel
theorem dL_others_175 : decode cL_others 175 = .ok (.invokestatic 203, 3) := by decide +kernel
theorem dL_others_178 : decode cL_others 178 = .ok (.istore 6, 2) := by decide +kernel
theorem dL_others_180 : decode cL_others 180 = .ok (.iload 5, 2) := by decide +kernel
theorem dL_others_182 : decode cL_others 182 = .ok (.ifCond .lt 19, 3) := by decide +kernel
theorem dL_others_185 : decode cL_others 185 = .ok (.aload_n 0, 1) := by decide +kernel
theorem dL_others_186 : decode cL_others 186 = .ok (.getfield 16, 3) := by decide +kernel
theorem dL_others_189 : decode cL_others 189 = .ok (.iload_n 1, 1) := by decide +kernel
theorem dL_others_190 : decode cL_others 190 = .ok (.aload_n 0, 1) := by decide +kernel
theorem dL_others_191 : decode cL_others 191 = .ok (.getfield 10, 3) := by decide +kernel
theorem dL_others_194 : decode cL_others 194 = .ok (.iload_n 1, 1) := by decide +kernel
theorem dL_others_195 : decode cL_others 195 = .ok (.bipush 6, 2) := by decide +kernel
theorem dL_others_197 : decode cL_others 197 = .ok (.invokestatic 163, 3) := by decide +kernel
theorem dL_others_200 : decode cL_others 200 = .ok (.iastore, 1) := by decide +kernel
theorem dL_others_201 : decode cL_others 201 = .ok (.iload 6, 2) := by decide +kernel
theorem dL_others_203 : decode cL_others 203 = .ok (.iload 5, 2) := by decide +kernel
theorem dL_others_205 : decode cL_others 205 = .ok (.ifCond .ge 7, 3) := by decide +kernel
theorem dL_others_208 : decode cL_others 208 = .ok (.iconst 0, 1) := by decide +kernel
theorem dL_others_209 : decode cL_others 209 = .ok (.goto 4, 3) := by decide +kernel
theorem dL_others_212 : decode cL_others 212 = .ok (.iconst 1, 1) := by decide +kernel
theorem dL_others_213 : decode cL_others 213 = .ok (.if_icmp .ne 47, 3) := by decide +kernel
theorem dL_others_216 : decode cL_others 216 = .ok (.aload_n 0, 1) := by decide +kernel
theorem dL_others_217 : decode cL_others 217 = .ok (.getfield 10, 3) := by decide +kernel
theorem dL_others_220 : decode cL_others 220 = .ok (.iload_n 1, 1) := by decide +kernel
theorem dL_others_221 : decode cL_others 221 = .ok (.iconst 0, 1) := by decide +kernel
theorem dL_others_222 : decode cL_others 222 = .ok (.invokestatic 163, 3) := by decide +kernel
theorem dL_others_225 : decode cL_others 225 = .ok (.iconst (-1), 1) := by decide +kernel
theorem dL_others_226 : decode cL_others 226 = .ok (.if_icmp .ne 34, 3) := by decide +kernel
theorem dL_others_229 : decode cL_others 229 = .ok (.aload_n 0, 1) := by decide +kernel
theorem dL_others_230 : decode cL_others 230 = .ok (.getfield 10, 3) := by decide +kernel
theorem dL_others_233 : decode cL_others 233 = .ok (.iload_n 1, 1) := by decide +kernel
theorem dL_others_234 : decode cL_others 234 = .ok (.iconst 5, 1) := by decide +kernel
theorem dL_others_235 : decode cL_others 235 = .ok (.invokestatic 163, 3) := by decide +kernel
theorem dL_others_238 : decode cL_others 238 = .ok (.iconst (-1), 1) := by decide +kernel
theorem dL_others_239 : decode cL_others 239 = .ok (.if_icmp .ne 21, 3) := by decide +kernel
theorem dL_others_242 : decode cL_others 242 = .ok (.aload_n 0, 1) := by decide +kernel
theorem dL_others_243 : decode cL_others 243 = .ok (.getfield 10, 3) := by decide +kernel
theorem dL_others_246 : decode cL_others 246 = .ok (.bipush 21, 2) := by decide +kernel
theorem dL_others_248 : decode cL_others 248 = .ok (.invokestatic 159, 3) := by decide +kernel
theorem dL_others_251 : decode cL_others 251 = .ok (.iload 4, 2) := by decide +kernel
theorem dL_others_253 : decode cL_others 253 = .ok (.if_icmp .ne 7, 3) := by decide +kernel
theorem dL_others_256 : decode cL_others 256 = .ok (.iconst 1, 1) := by decide +kernel
theorem dL_others_257 : decode cL_others 257 = .ok (.goto 4, 3) := by decide +kernel
theorem dL_others_260 : decode cL_others 260 = .ok (.iconst 0, 1) := by decide +kernel
theorem dL_others_261 : decode cL_others 261 = .ok (.ireturn, 1) := by decide +kernel
theorem dL_others_262 : decode cL_others 262 = .ok (.aload_n 0, 1) := by decide +kernel
theorem dL_others_263 : decode cL_others 263 = .ok (.getfield 10, 3) := by decide +kernel
theorem dL_others_266 : decode cL_others 266 = .ok (.iload_n 1, 1) := by decide +kernel
theorem dL_others_267 : decode cL_others 267 = .ok (.iconst 2, 1) := by decide +kernel
theorem dL_others_268 : decode cL_others 268 = .ok (.invokestatic 163, 3) := by decide +kernel
theorem dL_others_271 : decode cL_others 271 = .ok (.istore 5, 2) := by decide +kernel
theorem dL_others_273 : decode cL_others 273 = .ok (.aload_n 0, 1) := by decide +kernel
theorem dL_others_274 : decode cL_others 274 = .ok (.getfield 10, 3) := by decide +kernel
theorem dL_others_277 : decode cL_others 277 = .ok (.iload_n 1, 1) := by decide +kernel
theorem dL_others_278 : decode cL_others 278 = .ok (.bipush 6, 2) := by decide +kernel
theorem dL_others_280 : decode cL_others 280 = .ok (.invokestatic 163, 3) := by decide +kernel
theorem dL_others_283 : decode cL_others 283 = .ok (.istore 6, 2) := by decide +kernel
theorem dL_others_285 : decode cL_others 285 = .ok (.aload_n 0, 1) := by decide +kernel
theorem dL_others_286 : decode cL_others 286 = .ok (.getfield 10, 3) := by decide +kernel
theorem dL_others_289 : decode cL_others 289 = .ok (.iconst 5, 1) := by decide +kernel
theorem dL_others_290 : decode cL_others 290 = .ok (.invokestatic 159, 3) := by decide +kernel
theorem dL_others_293 : decode cL_others 293 = .ok (.istore 7, 2) := by decide +kernel
theorem dL_others_295 : decode cL_others 295 = .ok (.aload_n 0, 1) := by decide +kernel
theorem dL_others_296 : decode cL_others 296 = .ok (.getfield 10, 3) := by decide +kernel
theorem dL_others_299 : decode cL_others 299 = .ok (.iload_n 1, 1) := by decide +kernel
theorem dL_others_300 : decode cL_others 300 = .ok (.iconst 0, 1) := by decide +kernel
theorem dL_others_301 : decode cL_others 301 = .ok (.invokestatic 163, 3) := by decide +kernel
theorem dL_others_304 : decode cL_others 304 = .ok (.istore 8, 2) := by decide +kernel
theorem dL_others_306 : decode cL_others 306 = .ok (.aload_n 0, 1) := by decide +kernel
theorem dL_others_307 : decode cL_others 307 = .ok (.getfield 10, 3) := by decide +kernel
theorem dL_others_310 : decode cL_others 310 = .ok (.iload_n 1, 1) := by decide +kernel
theorem dL_others_311 : decode cL_others 311 = .ok (.iconst 1, 1) := by decide +kernel
theorem dL_others_312 : decode cL_others 312 = .ok (.invokestatic 163, 3) := by decide +kernel
theorem dL_others_315 : decode cL_others 315 = .ok (.istore 9, 2) := by decide +kernel
theorem dL_others_317 : decode cL_others 317 = .ok (.aload_n 0, 1) := by decide +kernel
theorem dL_others_318 : decode cL_others 318 = .ok (.getfield 10, 3) := by decide +kernel
theorem dL_others_321 : decode cL_others 321 = .ok (.iconst 0, 1) := by decide +kernel
theorem dL_others_322 : decode cL_others 322 = .ok (.iload_n 1, 1) := by decide +kernel
theorem dL_others_323 : decode cL_others 323 = .ok (.aload_n 0, 1) := by decide +kernel
theorem dL_others_324 : decode cL_others 324 = .ok (.sipush 1000, 3) := by decide +kernel
theorem dL_others_327 : decode cL_others 327 = .ok (.invokevirtual 142, 3) := by decide +kernel
theorem dL_others_330 : decode cL_others 330 = .ok (.invokestatic 197, 3) := by decide +kernel
theorem dL_others_333 : decode cL_others 333 = .ok (.ifCond .lt 19, 3) := by decide +kernel
theorem dL_others_336 : decode cL_others 336 = .ok (.aload_n 0, 1) := by decide +kernel
theorem dL_others_337 : decode cL_others 337 = .ok (.getfield 10, 3) := by decide +kernel
theorem dL_others_340 : decode cL_others 340 = .ok (.invokevirtual 205, 3) := by decide +kernel
theorem dL_others_343 : decode cL_others 343 = .ok (.bipush 7, 2) := by decide +kernel
theorem dL_others_345 : decode cL_others 345 = .ok (.iload_n 2, 1) := by decide +kernel
theorem dL_others_346 : decode cL_others 346 = .ok (.invokestatic 148, 3) := by decide +kernel
theorem dL_others_349 : decode cL_others 349 = .ok (.if_icmp .eq 5, 3) := by decide +kernel
theorem dL_others_352 : decode cL_others 352 = .ok (.iconst 0, 1) := by decide +kernel
theorem dL_others_353 : decode cL_others 353 = .ok (.ireturn, 1) := by decide +kernel
theorem dL_others_354 : decode cL_others 354 = .ok (.aload_n 0, 1) := by decide +kernel
theorem dL_others_355 : decode cL_others 355 = .ok (.getfield 10, 3) := by decide +kernel
theorem dL_others_358 : decode cL_others 358 = .ok (.iload_n 1, 1) := by decide +kernel
theorem dL_others_359 : decode cL_others 359 = .ok (.iconst 2, 1) := by decide +kernel
theorem dL_others_360 : decode cL_others 360 = .ok (.invokestatic 163, 3) := by decide +kernel
theorem dL_others_363 : decode cL_others 363 = .ok (.iload 5, 2) := by decide +kernel
theorem dL_others_365 : decode cL_others 365 = .ok (.if_icmp .ne 76, 3) := by decide +kernel
theorem dL_others_368 : decode cL_others 368 = .ok (.aload_n 0, 1) := by decide +kernel
theorem dL_others_369 : decode cL_others 369 = .ok (.getfield 10, 3) := by decide +kernel
theorem dL_others_372 : decode cL_others 372 = .ok (.iload_n 1, 1) := by decide +kernel
theorem dL_others_373 : decode cL_others 373 = .ok (.bipush 6, 2) := by decide +kernel
theorem dL_others_375 : decode cL_others 375 = .ok (.invokestatic 163, 3) := by decide +kernel
theorem dL_others_378 : decode cL_others 378 = .ok (.iload 6, 2) := by decide +kernel
theorem dL_others_380 : decode cL_others 380 = .ok (.if_icmp .ne 61, 3) := by decide +kernel
theorem dL_others_383 : decode cL_others 383 = .ok (.aload_n 0, 1) := by decide +kernel
theorem dL_others_384 : decode cL_others 384 = .ok (.getfield 10, 3) := by decide +kernel
theorem dL_others_387 : decode cL_others 387 = .ok (.iconst 5, 1) := by decide +kernel
theorem dL_others_388 : decode cL_others 388 = .ok (.invokestatic 159, 3) := by decide +kernel
theorem dL_others_391 : decode cL_others 391 = .ok (.iload 7, 2) := by decide +kernel
theorem dL_others_393 : decode cL_others 393 = .ok (.if_icmp .ne 48, 3) := by decide +kernel
theorem dL_others_396 : decode cL_others 396 = .ok (.aload_n 0, 1) := by decide +kernel
theorem dL_others_397 : decode cL_others 397 = .ok (.getfield 10, 3) := by decide +kernel
theorem dL_others_400 : decode cL_others 400 = .ok (.iload_n 1, 1) := by decide +kernel
theorem dL_others_401 : decode cL_others 401 = .ok (.iconst 0, 1) := by decide +kernel
theorem dL_others_402 : decode cL_others 402 = .ok (.invokestatic 163, 3) := by decide +kernel
theorem dL_others_405 : decode cL_others 405 = .ok (.iload 8, 2) := by decide +kernel
theorem dL_others_407 : decode cL_others 407 = .ok (.if_icmp .ne 34, 3) := by decide +kernel
theorem dL_others_410 : decode cL_others 410 = .ok (.aload_n 0, 1) := by decide +kernel
theorem dL_others_411 : decode cL_others 411 = .ok (.getfield 10, 3) := by decide +kernel
theorem dL_others_414 : decode cL_others 414 = .ok (.iload_n 1, 1) := by decide +kernel
theorem dL_others_415 : decode cL_others 415 = .ok (.iconst 1, 1) := by decide +kernel
theorem dL_others_416 : decode cL_others 416 = .ok (.invokestatic 163, 3) := by decide +kernel
theorem dL_others_419 : decode cL_others 419 = .ok (.iload 9, 2) := by decide +kernel
theorem dL_others_421 : decode cL_others 421 = .ok (.if_icmp .ne 20, 3) := by decide +kernel
theorem dL_others_424 : decode cL_others 424 = .ok (.aload_n 0, 1) := by decide +kernel
theorem dL_others_425 : decode cL_others 425 = .ok (.getfield 10, 3) := by decide +kernel
theorem dL_others_428 : decode cL_others 428 = .ok (.bipush 12, 2) := by decide +kernel
theorem dL_others_430 : decode cL_others 430 = .ok (.invokestatic 159, 3) := by decide +kernel
theorem dL_others_433 : decode cL_others 433 = .ok (.iload_n 3, 1) := by decide +kernel
theorem dL_others_434 : decode cL_others 434 = .ok (.if_icmp .ne 7, 3) := by decide +kernel
theorem dL_others_437 : decode cL_others 437 = .ok (.iconst 1, 1) := by decide +kernel
theorem dL_others_438 : decode cL_others 438 = .ok (.goto 4, 3) := by decide +kernel
theorem dL_others_441 : decode cL_others 441 = .ok (.iconst 0, 1) := by decide +kernel
theorem dL_others_442 : decode cL_others 442 = .ok (.ireturn, 1) := by decide +kernel
theorem dL_others_443 : decode cL_others 443 = .ok (.aload_n 0, 1) := by decide +kernel
theorem dL_others_444 : decode cL_others 444 = .ok (.aload_n 0, 1) := by decide +kernel
theorem dL_others_445 : decode cL_others 445 = .ok (.sipush 176, 3) := by decide +kernel
theorem dL_others_448 : decode cL_others 448 = .ok (.invokevirtual 142, 3) := by decide +kernel
theorem dL_others_451 : decode cL_others 451 = .ok (.putfield 145, 3) := by decide +kernel
theorem dL_others_454 : decode cL_others 454 = .ok (.aload_n 0, 1) := by decide +kernel
theorem dL_others_455 : decode cL_others 455 = .ok (.getfield 10, 3) := by decide +kernel
theorem dL_others_458 : decode cL_others 458 = .ok (.aload_n 0, 1) := by decide +kernel
theorem dL_others_459 : decode cL_others 459 = .ok (.aload_n 0, 1) := by decide +kernel
theorem dL_others_460 : decode cL_others 460 = .ok (.getfield 10, 3) := by decide +kernel
theorem dL_others_463 : decode cL_others 463 = .ok (.bipush 6, 2) := by decide +kernel
theorem dL_others_465 : decode cL_others 465 = .ok (.invokestatic 159, 3) := by decide +kernel
theorem dL_others_468 : decode cL_others 468 = .ok (.invokevirtual 142, 3) := by decide +kernel
theorem dL_others_471 : decode cL_others 471 = .ok (.iconst 1, 1) := by decide +kernel
theorem dL_others_472 : decode cL_others 472 = .ok (.aload_n 0, 1) := by decide +kernel
theorem dL_others_473 : decode cL_others 473 = .ok (.bipush 9, 2) := by decide +kernel
theorem dL_others_475 : decode cL_others 475 = .ok (.invokevirtual 142, 3) := by decide +kernel
theorem dL_others_478 : decode cL_others 478 = .ok (.iadd, 1) := by decide +kernel
theorem dL_others_479 : decode cL_others 479 = .ok (.invokestatic 208, 3) := by decide +kernel
theorem dL_others_482 : decode cL_others 482 = .ok (.ifCond .le 7, 3) := by decide +kernel
theorem dL_others_485 : decode cL_others 485 = .ok (.iconst 1, 1) := by decide +kernel
theorem dL_others_486 : decode cL_others 486 = .ok (.goto 4, 3) := by decide +kernel
theorem dL_others_489 : decode cL_others 489 = .ok (.iconst 0, 1) := by decide +kernel
theorem dL_others_490 : decode cL_others 490 = .ok (.ireturn, 1) := by decide +kernel
theorem dL_foretells_0 : decode cL_foretells 0 = .ok (.aload_n 0, 1) := by decide +kernel
theorem dL_foretells_1 : decode cL_foretells 1 = .ok (.aload_n 0, 1) := by decide +kernel
theorem dL_foretells_2 : decode cL_foretells 2 = .ok (.getfield 10, 3) := by decide +kernel
theorem dL_foretells_5 : decode cL_foretells 5 = .ok (.bipush 6, 2) := by decide +kernel
theorem dL_foretells_7 : decode cL_foretells 7 = .ok (.invokestatic 159, 3) := by decide +kernel
theorem dL_foretells_10 : decode cL_foretells 10 = .ok (.invokevirtual 142, 3) := by decide +kernel
theorem dL_foretells_13 : decode cL_foretells 13 = .ok (.istore_n 1, 1) := by decide +kernel
theorem dL_foretells_14 : decode cL_foretells 14 = .ok (.sipush 150, 3) := by decide +kernel
theorem dL_foretells_17 : decode cL_foretells 17 = .ok (.aload_n 0, 1) := by decide +kernel
theorem dL_foretells_18 : decode cL_foretells 18 = .ok (.invokevirtual 190, 3) := by decide +kernel
theorem dL_foretells_21 : decode cL_foretells 21 = .ok (.invokestatic 148, 3) := by decide +kernel
theorem dL_foretells_24 : decode cL_foretells 24 = .ok (.istore_n 2, 1) := by decide +kernel
theorem dL_foretells_25 : decode cL_foretells 25 = .ok (.iconst 1, 1) := by decide +kernel
theorem dL_foretells_26 : decode cL_foretells 26 = .ok (.aload_n 0, 1) := by decide +kernel
theorem dL_foretells_27 : decode cL_foretells 27 = .ok (.bipush 20, 2) := by decide +kernel
theorem dL_foretells_29 : decode cL_foretells 29 = .ok (.invokevirtual 142, 3) := by decide +kernel
theorem dL_foretells_32 : decode cL_foretells 32 = .ok (.iadd, 1) := by decide +kernel
theorem dL_foretells_33 : decode cL_foretells 33 = .ok (.istore_n 3, 1) := by decide +kernel
theorem dL_foretells_34 : decode cL_foretells 34 = .ok (.iconst 1, 1) := by decide +kernel
theorem dL_foretells_35 : decode cL_foretells 35 = .ok (.aload_n 0, 1) := by decide +kernel
theorem dL_foretells_36 : decode cL_foretells 36 = .ok (.iconst 3, 1) := by decide +kernel
theorem dL_foretells_37 : decode cL_foretells 37 = .ok (.invokevirtual 142, 3) := by decide +kernel
theorem dL_foretells_40 : decode cL_foretells 40 = .ok (.iadd, 1) := by decide +kernel
theorem dL_foretells_41 : decode cL_foretells 41 = .ok (.istore 4, 2) := by decide +kernel
theorem dL_foretells_43 : decode cL_foretells 43 = .ok (.aload_n 0, 1) := by decide +kernel
theorem dL_foretells_44 : decode cL_foretells 44 = .ok (.getfield 10, 3) := by decide +kernel
theorem dL_foretells_47 : decode cL_foretells 47 = .ok (.iload_n 1, 1) := by decide +kernel
theorem dL_foretells_48 : decode cL_foretells 48 = .ok (.iload_n 2, 1) := by decide +kernel
theorem dL_foretells_49 : decode cL_foretells 49 = .ok (.iload_n 3, 1) := by decide +kernel
theorem dL_foretells_50 : decode cL_foretells 50 = .ok (.iload 4, 2) := by decide +kernel
theorem dL_foretells_52 : decode cL_foretells 52 = .ok (.invokestatic 210, 3) := by decide +kernel
theorem dL_foretells_55 : decode cL_foretells 55 = .ok (.istore 5, 2) := by decide +kernel
theorem dL_foretells_57 : decode cL_foretells 57 = .ok (.iconst (-1), 1) := by decide +kernel
theorem dL_foretells_58 : decode cL_foretells 58 = .ok (.istore 6, 2) := by decide +kernel
theorem dL_foretells_60 : decode cL_foretells 60 = .ok (.iconst (-1), 1) := by decide +kernel
theorem dL_foretells_61 : decode cL_foretells 61 = .ok (.istore 7, 2) := by decide +kernel
theorem dL_foretells_63 : decode cL_foretells 63 = .ok (.bipush 7, 2) := by decide +kernel
theorem dL_foretells_65 : decode cL_foretells 65 = .ok (.newarray .int, 2) := by decide +kernel
theorem dL_foretells_67 : decode cL_foretells 67 = .ok (.astore 8, 2) := by decide +kernel
theorem dL_foretells_69 : decode cL_foretells 69 = .ok (.bipush 7, 2) := by decide +kernel
theorem dL_foretells_71 : decode cL_foretells 71 = .ok (.newarray .int, 2) := by decide +kernel
theorem dL_foretells_73 : decode cL_foretells 73 = .ok (.dup, 1) := by decide +kernel
theorem dL_foretells_74 : decode cL_foretells 74 = .ok (.iconst 0, 1) := by decide +kernel
theorem dL_foretells_75 : decode cL_foretells 75 = .ok (.bipush 14, 2) := by decide +kernel
theorem dL_foretells_77 : decode cL_foretells 77 = .ok (.iastore, 1) := by decide +kernel
theorem dL_foretells_78 : decode cL_foretells 78 = .ok (.dup, 1) := by decide +kernel
theorem dL_foretells_79 : decode cL_foretells 79 = .ok (.iconst 1, 1) := by decide +kernel
theorem dL_foretells_80 : decode cL_foretells 80 = .ok (.bipush 15, 2) := by decide +kernel
theorem dL_foretells_82 : decode cL_foretells 82 = .ok (.iastore, 1) := by decide +kernel
theorem dL_foretells_83 : decode cL_foretells 83 = .ok (.dup, 1) := by decide +kernel
theorem dL_foretells_84 : decode cL_foretells 84 = .ok (.iconst 2, 1) := by decide +kernel
theorem dL_foretells_85 : decode cL_foretells 85 = .ok (.bipush 16, 2) := by decide +kernel
theorem dL_foretells_87 : decode cL_foretells 87 = .ok (.iastore, 1) := by decide +kernel
theorem dL_foretells_88 : decode cL_foretells 88 = .ok (.dup, 1) := by decide +kernel
theorem dL_foretells_89 : decode cL_foretells 89 = .ok (.iconst 3, 1) := by decide +kernel
theorem dL_foretells_90 : decode cL_foretells 90 = .ok (.bipush 19, 2) := by decide +kernel
theorem dL_foretells_92 : decode cL_foretells 92 = .ok (.iastore, 1) := by decide +kernel
theorem dL_foretells_93 : decode cL_foretells 93 = .ok (.dup, 1) := by decide +kernel
theorem dL_foretells_94 : decode cL_foretells 94 = .ok (.iconst 4, 1) := by decide +kernel
theorem dL_foretells_95 : decode cL_foretells 95 = .ok (.bipush 21, 2) := by decide +kernel
theorem dL_foretells_97 : decode cL_foretells 97 = .ok (.iastore, 1) := by decide +kernel
theorem dL_foretells_98 : decode cL_foretells 98 = .ok (.dup, 1) := by decide +kernel
theorem dL_foretells_99 : decode cL_foretells 99 = .ok (.iconst 5, 1) := by decide +kernel
theorem dL_foretells_100 : decode cL_foretells 100 = .ok (.iconst 4, 1) := by decide +kernel
theorem dL_foretells_101 : decode cL_foretells 101 = .ok (.iastore, 1) := by decide +kernel
theorem dL_foretells_102 : decode cL_foretells 102 = .ok (.dup, 1) := by decide +kernel
theorem dL_foretells_103 : decode cL_foretells 103 = .ok (.bipush 6, 2) := by decide +kernel
theorem dL_foretells_105 : decode cL_foretells 105 = .ok (.bipush 22, 2) := by decide +kernel
theorem dL_foretells_107 : decode cL_foretells 107 = .ok (.iastore, 1) := by decide +kernel
theorem dL_foretells_108 : decode cL_foretells 108 = .ok (.astore 9, 2) := by decide +kernel
theorem dL_foretells_110 : decode cL_foretells 110 = .ok (.iconst 0, 1) := by decide +kernel
theorem dL_foretells_111 : decode cL_foretells 111 = .ok (.istore 10, 2) := by decide +kernel
theorem dL_foretells_113 : decode cL_foretells 113 = .ok (.iload 10, 2) := by decide +kernel
theorem dL_foretells_115 : decode cL_foretells 115 = .ok (.bipush 7, 2) := by decide +kernel
theorem dL_foretells_117 : decode cL_foretells 117 = .ok (.if_icmp .ge 51, 3) := by decide +kernel
theorem dL_foretells_120 : decode cL_foretells 120 = .ok (.aload 8, 2) := by decide +kernel
theorem dL_foretells_122 : decode cL_foretells 122 = .ok (.iload 10, 2) := by decide +kernel
theorem dL_foretells_124 : decode cL_foretells 124 = .ok (.aload_n 0, 1) := by decide +kernel
theorem dL_foretells_125 : decode cL_foretells 125 = .ok (.getfield 10, 3) := by decide +kernel
theorem dL_foretells_128 : decode cL_foretells 128 = .ok (.iload_n 1, 1) := by decide +kernel
theorem dL_foretells_129 : decode cL_foretells 129 = .ok (.iload_n 2, 1) := by decide +kernel
theorem dL_foretells_130 : decode cL_foretells 130 = .ok (.iload_n 3, 1) := by decide +kernel
theorem dL_foretells_131 : decode cL_foretells 131 = .ok (.iload 4, 2) := by decide +kernel
theorem dL_foretells_133 : decode cL_foretells 133 = .ok (.iload 10, 2) := by decide +kernel
theorem dL_foretells_135 : decode cL_foretells 135 = .ok (.invokestatic 213, 3) := by decide +kernel
theorem dL_foretells_138 : decode cL_foretells 138 = .ok (.iload 10, 2) := by decide +kernel
theorem dL_foretells_140 : decode cL_foretells 140 = .ok (.iconst 5, 1) := by decide +kernel
theorem dL_foretells_141 : decode cL_foretells 141 = .ok (.if_icmp .ne 7, 3) := by decide +kernel
theorem dL_foretells_144 : decode cL_foretells 144 = .ok (.iconst 0, 1) := by decide +kernel
theorem dL_foretells_145 : decode cL_foretells 145 = .ok (.goto 15, 3) := by decide +kernel
theorem dL_foretells_148 : decode cL_foretells 148 = .ok (.aload_n 0, 1) := by decide +kernel
theorem dL_foretells_149 : decode cL_foretells 149 = .ok (.getfield 10, 3) := by decide +kernel
theorem dL_foretells_152 : decode cL_foretells 152 = .ok (.aload 9, 2) := by decide +kernel
theorem dL_foretells_154 : decode cL_foretells 154 = .ok (.iload 10, 2) := by decide +kernel
theorem dL_foretells_156 : decode cL_foretells 156 = .ok (.iaload, 1) := by decide +kernel
theorem dL_foretells_157 : decode cL_foretells 157 = .ok (.invokestatic 159, 3) := by decide +kernel
theorem dL_foretells_160 : decode cL_foretells 160 = .ok (.iadd, 1) := by decide +kernel
theorem dL_foretells_161 : decode cL_foretells 161 = .ok (.iastore, 1) := by decide +kernel
theorem dL_foretells_162 : decode cL_foretells 162 = .ok (.iinc 10 1, 3) := by decide +kernel
theorem dL_foretells_165 : decode cL_foretells 165 = .ok (.goto (-52), 3) := by decide +kernel
theorem dL_foretells_168 : decode cL_foretells 168 = .ok (.aload_n 0, 1) := by decide +kernel
theorem dL_foretells_169 : decode cL_foretells 169 = .ok (.getfield 10, 3) := by decide +kernel
theorem dL_foretells_172 : decode cL_foretells 172 = .ok (.iconst 1, 1) := by decide +kernel
theorem dL_foretells_173 : decode cL_foretells 173 = .ok (.invokestatic 216, 3) := by decide +kernel
theorem dL_foretells_176 : decode cL_foretells 176 = .ok (.ifCond .eq 5, 3) := by decide +kernel
theorem dL_foretells_179 : decode cL_foretells 179 = .ok (.iconst 0, 1) := by decide +kernel
theorem dL_foretells_180 : decode cL_foretells 180 = .ok (.ireturn, 1) := by decide +kernel
theorem dL_foretells_181 : decode cL_foretells 181 = .ok (.iconst 2, 1) := by decide +kernel
theorem dL_foretells_182 : decode cL_foretells 182 = .ok (.istore 10, 2) := by decide +kernel
theorem dL_foretells_184 : decode cL_foretells 184 = .ok (.iload 10, 2) := by decide +kernel
theorem dL_foretells_186 : decode cL_foretells 186 = .ok (.bipush 21, 2) := by decide +kernel
theorem dL_foretells_188 : decode cL_foretells 188 = .ok (.if_icmp .ge 74, 3) := by decide +kernel
theorem dL_foretells_191 : decode cL_foretells 191 = .ok (.aload_n 0, 1) := by decide +kernel
theorem dL_foretells_192 : decode cL_foretells 192 = .ok (.getfield 10, 3) := by decide +kernel
theorem dL_foretells_195 : decode cL_foretells 195 = .ok (.iconst 0, 1) := by decide +kernel
theorem dL_foretells_196 : decode cL_foretells 196 = .ok (.iload 10, 2) := by decide +kernel
theorem dL_foretells_198 : decode cL_foretells 198 = .ok (.invokestatic 157, 3) := by decide +kernel
theorem dL_foretells_201 : decode cL_foretells 201 = .ok (.iconst 2, 1) := by decide +kernel
theorem dL_foretells_202 : decode cL_foretells 202 = .ok (.if_icmp .ge 5, 3) := by decide +kernel
theorem dL_foretells_205 : decode cL_foretells 205 = .ok (.iconst 0, 1) := by decide +kernel
theorem dL_foretells_206 : decode cL_foretells 206 = .ok (.ireturn, 1) := by decide +kernel
theorem dL_foretells_207 : decode cL_foretells 207 = .ok (.aload_n 0, 1) := by decide +kernel
theorem dL_foretells_208 : decode cL_foretells 208 = .ok (.getfield 10, 3) := by decide +kernel
theorem dL_foretells_211 : decode cL_foretells 211 = .ok (.iload_n 1, 1) := by decide +kernel
theorem dL_foretells_212 : decode cL_foretells 212 = .ok (.iload_n 2, 1) := by decide +kernel
theorem dL_foretells_213 : decode cL_foretells 213 = .ok (.iload_n 3, 1) := by decide +kernel
theorem dL_foretells_214 : decode cL_foretells 214 = .ok (.iload 4, 2) := by decide +kernel
theorem dL_foretells_216 : decode cL_foretells 216 = .ok (.iconst 0, 1) := by decide +kernel
theorem dL_foretells_217 : decode cL_foretells 217 = .ok (.invokestatic 213, 3) := by decide +kernel
theorem dL_foretells_220 : decode cL_foretells 220 = .ok (.aload_n 0, 1) := by decide +kernel
theorem dL_foretells_221 : decode cL_foretells 221 = .ok (.getfield 10, 3) := by decide +kernel
theorem dL_foretells_224 : decode cL_foretells 224 = .ok (.iload_n 1, 1) := by decide +kernel
theorem dL_foretells_225 : decode cL_foretells 225 = .ok (.iload_n 2, 1) := by decide +kernel
theorem dL_foretells_226 : decode cL_foretells 226 = .ok (.iload_n 3, 1) := by decide +kernel
theorem dL_foretells_227 : decode cL_foretells 227 = .ok (.iload 4, 2) := by decide +kernel
theorem dL_foretells_229 : decode cL_foretells 229 = .ok (.iconst 1, 1) := by decide +kernel
theorem dL_foretells_230 : decode cL_foretells 230 = .ok (.invokestatic 213, 3) := by decide +kernel
theorem dL_foretells_233 : decode cL_foretells 233 = .ok (.iadd, 1) := by decide +kernel
theorem dL_foretells_234 : decode cL_foretells 234 = .ok (.istore 11, 2) := by decide +kernel
theorem dL_foretells_236 : decode cL_foretells 236 = .ok (.iload 11, 2) := by decide +kernel
theorem dL_foretells_238 : decode cL_foretells 238 = .ok (.iload 7, 2) := by decide +kernel
theorem dL_foretells_240 : decode cL_foretells 240 = .ok (.if_icmp .le 7, 3) := by decide +kernel
theorem dL_foretells_243 : decode cL_foretells 243 = .ok (.iload 10, 2) := by decide +kernel
theorem dL_foretells_245 : decode cL_foretells 245 = .ok (.istore 6, 2) := by decide +kernel
theorem dL_foretells_247 : decode cL_foretells 247 = .ok (.iload 7, 2) := by decide +kernel
theorem dL_foretells_249 : decode cL_foretells 249 = .ok (.iload 11, 2) := by decide +kernel
theorem dL_foretells_251 : decode cL_foretells 251 = .ok (.invokestatic 29, 3) := by decide +kernel
theorem dL_foretells_254 : decode cL_foretells 254 = .ok (.istore 7, 2) := by decide +kernel
theorem dL_foretells_256 : decode cL_foretells 256 = .ok (.iinc 10 1, 3) := by decide +kernel
theorem dL_foretells_259 : decode cL_foretells 259 = .ok (.goto (-75), 3) := by decide +kernel
theorem dL_foretells_262 : decode cL_foretells 262 = .ok (.iload 6, 2) := by decide +kernel
theorem dL_foretells_264 : decode cL_foretells 264 = .ok (.iload 5, 2) := by decide +kernel
theorem dL_foretells_266 : decode cL_foretells 266 = .ok (.if_icmp .ne 14, 3) := by decide +kernel
theorem dL_foretells_269 : decode cL_foretells 269 = .ok (.aload_n 0, 1) := by decide +kernel
theorem dL_foretells_270 : decode cL_foretells 270 = .ok (.getfield 10, 3) := by decide +kernel
theorem dL_foretells_273 : decode cL_foretells 273 = .ok (.iconst 1, 1) := by decide +kernel
theorem dL_foretells_274 : decode cL_foretells 274 = .ok (.invokestatic 218, 3) := by decide +kernel
theorem dL_foretells_277 : decode cL_foretells 277 = .ok (.ifCond .eq 5, 3) := by decide +kernel
theorem dL_foretells_280 : decode cL_foretells 280 = .ok (.iconst 0, 1) := by decide +kernel
theorem dL_foretells_281 : decode cL_foretells 281 = .ok (.ireturn, 1) := by decide +kernel
theorem dL_foretells_282 : decode cL_foretells 282 = .ok (.iconst 0, 1) := by decide +kernel
theorem dL_foretells_283 : decode cL_foretells 283 = .ok (.istore 10, 2) := by decide +kernel
theorem dL_foretells_285 : decode cL_foretells 285 = .ok (.iload 10, 2) := by decide +kernel
theorem dL_foretells_287 : decode cL_foretells 287 = .ok (.iload 4, 2) := by decide +kernel
theorem dL_foretells_289 : decode cL_foretells 289 = .ok (.if_icmp .ge 48, 3) := by decide +kernel
theorem dL_foretells_292 : decode cL_foretells 292 = .ok (.iload_n 2, 1) := by decide +kernel
theorem dL_foretells_293 : decode cL_foretells 293 = .ok (.istore 11, 2) := by decide +kernel
theorem dL_foretells_295 : decode cL_foretells 295 = .ok (.iload 11, 2) := by decide +kernel
theorem dL_foretells_297 : decode cL_foretells 297 = .ok (.iload_n 2, 1) := by decide +kernel
theorem dL_foretells_298 : decode cL_foretells 298 = .ok (.iload_n 3, 1) := by decide +kernel
theorem dL_foretells_299 : decode cL_foretells 299 = .ok (.iadd, 1) := by decide +kernel
theorem dL_foretells_300 : decode cL_foretells 300 = .ok (.if_icmp .ge 31, 3) := by decide +kernel
theorem dL_foretells_303 : decode cL_foretells 303 = .ok (.aload_n 0, 1) := by decide +kernel
theorem dL_foretells_304 : decode cL_foretells 304 = .ok (.getfield 10, 3) := by decide +kernel
theorem dL_foretells_307 : decode cL_foretells 307 = .ok (.iload_n 1, 1) := by decide +kernel
theorem dL_foretells_308 : decode cL_foretells 308 = .ok (.iload 11, 2) := by decide +kernel
theorem dL_foretells_310 : decode cL_foretells 310 = .ok (.invokestatic 199, 3) := by decide +kernel
theorem dL_foretells_313 : decode cL_foretells 313 = .ok (.aload_n 0, 1) := by decide +kernel
theorem dL_foretells_314 : decode cL_foretells 314 = .ok (.getfield 16, 3) := by decide +kernel
theorem dL_foretells_317 : decode cL_foretells 317 = .ok (.iload 11, 2) := by decide +kernel
theorem dL_foretells_319 : decode cL_foretells 319 = .ok (.iaload, 1) := by decide +kernel
theorem dL_foretells_320 : decode cL_foretells 320 = .ok (.if_icmp .eq 5, 3) := by decide +kernel
theorem dL_foretells_323 : decode cL_foretells 323 = .ok (.iconst 0, 1) := by decide +kernel
theorem dL_foretells_324 : decode cL_foretells 324 = .ok (.ireturn, 1) := by decide +kernel
theorem dL_foretells_325 : decode cL_foretells 325 = .ok (.iinc 11 1, 3) := by decide +kernel
theorem dL_foretells_328 : decode cL_foretells 328 = .ok (.goto (-33), 3) := by decide +kernel
theorem dL_foretells_331 : decode cL_foretells 331 = .ok (.iinc 10 1, 3) := by decide +kernel
theorem dL_foretells_334 : decode cL_foretells 334 = .ok (.goto (-49), 3) := by decide +kernel
theorem dL_foretells_337 : decode cL_foretells 337 = .ok (.iconst 0, 1) := by decide +kernel
theorem dL_foretells_338 : decode cL_foretells 338 = .ok (.istore 10, 2) := by decide +kernel
theorem dL_foretells_340 : decode cL_foretells 340 = .ok (.iload 10, 2) := by decide +kernel
theorem dL_foretells_342 : decode cL_foretells 342 = .ok (.bipush 7, 2) := by decide +kernel
theorem dL_foretells_344 : decode cL_foretells 344 = .ok (.if_icmp .ge 31, 3) := by decide +kernel
theorem dL_foretells_347 : decode cL_foretells 347 = .ok (.aload_n 0, 1) := by decide +kernel
theorem dL_foretells_348 : decode cL_foretells 348 = .ok (.getfield 10, 3) := by decide +kernel
theorem dL_foretells_351 : decode cL_foretells 351 = .ok (.aload 9, 2) := by decide +kernel
theorem dL_foretells_353 : decode cL_foretells 353 = .ok (.iload 10, 2) := by decide +kernel
theorem dL_foretells_355 : decode cL_foretells 355 = .ok (.iaload, 1) := by decide +kernel
theorem dL_foretells_356 : decode cL_foretells 356 = .ok (.invokestatic 159, 3) := by decide +kernel
theorem dL_foretells_359 : decode cL_foretells 359 = .ok (.aload 8, 2) := by decide +kernel
theorem dL_foretells_361 : decode cL_foretells 361 = .ok (.iload 10, 2) := by decide +kernel
theorem dL_foretells_363 : decode cL_foretells 363 = .ok (.iaload, 1) := by decide +kernel
theorem dL_foretells_364 : decode cL_foretells 364 = .ok (.if_icmp .eq 5, 3) := by decide +kernel
theorem dL_foretells_367 : decode cL_foretells 367 = .ok (.iconst 0, 1) := by decide +kernel
theorem dL_foretells_368 : decode cL_foretells 368 = .ok (.ireturn, 1) := by decide +kernel
theorem dL_foretells_369 : decode cL_foretells 369 = .ok (.iinc 10 1, 3) := by decide +kernel
theorem dL_foretells_372 : decode cL_foretells 372 = .ok (.goto (-32), 3) := by decide +kernel
theorem dL_foretells_375 : decode cL_foretells 375 = .ok (.iconst 1, 1) := by decide +kernel
theorem dL_foretells_376 : decode cL_foretells 376 = .ok (.ireturn, 1) := by decide +kernel
theorem dL_holds_0 : decode cL_holds 0 = .ok (.aload_n 0, 1) := by decide +kernel
theorem dL_holds_1 : decode cL_holds 1 = .ok (.aload_n 1, 1) := by decide +kernel
theorem dL_holds_2 : decode cL_holds 2 = .ok (.putfield 22, 3) := by decide +kernel
theorem dL_holds_5 : decode cL_holds 5 = .ok (.aload_n 0, 1) := by decide +kernel
theorem dL_holds_6 : decode cL_holds 6 = .ok (.invokevirtual 225, 3) := by decide +kernel
theorem dL_holds_9 : decode cL_holds 9 = .ok (.ifCond .ne 5, 3) := by decide +kernel
theorem dL_holds_12 : decode cL_holds 12 = .ok (.iconst 0, 1) := by decide +kernel
theorem dL_holds_13 : decode cL_holds 13 = .ok (.ireturn, 1) := by decide +kernel
theorem dL_holds_14 : decode cL_holds 14 = .ok (.iconst 0, 1) := by decide +kernel
theorem dL_holds_15 : decode cL_holds 15 = .ok (.istore_n 2, 1) := by decide +kernel
theorem dL_holds_16 : decode cL_holds 16 = .ok (.iload_n 2, 1) := by decide +kernel
theorem dL_holds_17 : decode cL_holds 17 = .ok (.bipush 90, 2) := by decide +kernel
theorem dL_holds_19 : decode cL_holds 19 = .ok (.if_icmp .ge 79, 3) := by decide +kernel
theorem dL_holds_22 : decode cL_holds 22 = .ok (.aload_n 0, 1) := by decide +kernel
theorem dL_holds_23 : decode cL_holds 23 = .ok (.invokevirtual 229, 3) := by decide +kernel
theorem dL_holds_26 : decode cL_holds 26 = .ok (.ifCond .eq 64, 3) := by decide +kernel
theorem dL_holds_29 : decode cL_holds 29 = .ok (.aload_n 0, 1) := by decide +kernel
theorem dL_holds_30 : decode cL_holds 30 = .ok (.bipush 6, 2) := by decide +kernel
theorem dL_holds_32 : decode cL_holds 32 = .ok (.invokevirtual 142, 3) := by decide +kernel
theorem dL_holds_35 : decode cL_holds 35 = .ok (.ifCond .ne 10, 3) := by decide +kernel
theorem dL_holds_38 : decode cL_holds 38 = .ok (.aload_n 0, 1) := by decide +kernel
theorem dL_holds_39 : decode cL_holds 39 = .ok (.invokevirtual 232, 3) := by decide +kernel
theorem dL_holds_42 : decode cL_holds 42 = .ok (.ifCond .eq 48, 3) := by decide +kernel
theorem dL_holds_45 : decode cL_holds 45 = .ok (.iload_n 2, 1) := by decide +kernel
theorem dL_holds_46 : decode cL_holds 46 = .ok (.bipush 8, 2) := by decide +kernel
theorem dL_holds_48 : decode cL_holds 48 = .ok (.irem, 1) := by decide +kernel
theorem dL_holds_49 : decode cL_holds 49 = .ok (.iconst 3, 1) := by decide +kernel
theorem dL_holds_50 : decode cL_holds 50 = .ok (.if_icmp .ne 24, 3) := by decide +kernel
theorem dL_holds_53 : decode cL_holds 53 = .ok (.aload_n 0, 1) := by decide +kernel
theorem dL_holds_54 : decode cL_holds 54 = .ok (.invokevirtual 235, 3) := by decide +kernel
theorem dL_holds_57 : decode cL_holds 57 = .ok (.ifCond .eq 33, 3) := by decide +kernel
theorem dL_holds_60 : decode cL_holds 60 = .ok (.aload_n 0, 1) := by decide +kernel
theorem dL_holds_61 : decode cL_holds 61 = .ok (.invokevirtual 238, 3) := by decide +kernel
theorem dL_holds_64 : decode cL_holds 64 = .ok (.ifCond .eq 26, 3) := by decide +kernel
theorem dL_holds_67 : decode cL_holds 67 = .ok (.aload_n 0, 1) := by decide +kernel
theorem dL_holds_68 : decode cL_holds 68 = .ok (.invokevirtual 241, 3) := by decide +kernel
theorem dL_holds_71 : decode cL_holds 71 = .ok (.ifCond .eq 19, 3) := by decide +kernel
theorem dL_holds_74 : decode cL_holds 74 = .ok (.iload_n 2, 1) := by decide +kernel
theorem dL_holds_75 : decode cL_holds 75 = .ok (.bipush 29, 2) := by decide +kernel
theorem dL_holds_77 : decode cL_holds 77 = .ok (.irem, 1) := by decide +kernel
theorem dL_holds_78 : decode cL_holds 78 = .ok (.bipush 20, 2) := by decide +kernel
theorem dL_holds_80 : decode cL_holds 80 = .ok (.if_icmp .ne 12, 3) := by decide +kernel
theorem dL_holds_83 : decode cL_holds 83 = .ok (.aload_n 0, 1) := by decide +kernel
theorem dL_holds_84 : decode cL_holds 84 = .ok (.invokevirtual 244, 3) := by decide +kernel
theorem dL_holds_87 : decode cL_holds 87 = .ok (.ifCond .ne 5, 3) := by decide +kernel
theorem dL_holds_90 : decode cL_holds 90 = .ok (.iconst 0, 1) := by decide +kernel
theorem dL_holds_91 : decode cL_holds 91 = .ok (.ireturn, 1) := by decide +kernel
theorem dL_holds_92 : decode cL_holds 92 = .ok (.iinc 2 1, 3) := by decide +kernel
theorem dL_holds_95 : decode cL_holds 95 = .ok (.goto (-79), 3) := by decide +kernel
theorem dL_holds_98 : decode cL_holds 98 = .ok (.aload_n 0, 1) := by decide +kernel
theorem dL_holds_99 : decode cL_holds 99 = .ok (.invokevirtual 235, 3) := by decide +kernel
theorem dL_holds_102 : decode cL_holds 102 = .ok (.ifCond .eq 55, 3) := by decide +kernel
theorem dL_holds_105 : decode cL_holds 105 = .ok (.aload_n 0, 1) := by decide +kernel
theorem dL_holds_106 : decode cL_holds 106 = .ok (.invokevirtual 238, 3) := by decide +kernel
theorem dL_holds_109 : decode cL_holds 109 = .ok (.ifCond .eq 48, 3) := by decide +kernel
theorem dL_holds_112 : decode cL_holds 112 = .ok (.aload_n 0, 1) := by decide +kernel
theorem dL_holds_113 : decode cL_holds 113 = .ok (.invokevirtual 241, 3) := by decide +kernel
theorem dL_holds_116 : decode cL_holds 116 = .ok (.ifCond .eq 41, 3) := by decide +kernel
theorem dL_holds_119 : decode cL_holds 119 = .ok (.aload_n 0, 1) := by decide +kernel
theorem dL_holds_120 : decode cL_holds 120 = .ok (.getfield 10, 3) := by decide +kernel
theorem dL_holds_123 : decode cL_holds 123 = .ok (.iconst 5, 1) := by decide +kernel
theorem dL_holds_124 : decode cL_holds 124 = .ok (.iconst 5, 1) := by decide +kernel
theorem dL_holds_125 : decode cL_holds 125 = .ok (.invokestatic 154, 3) := by decide +kernel
theorem dL_holds_128 : decode cL_holds 128 = .ok (.ifCond .lt 29, 3) := by decide +kernel
theorem dL_holds_131 : decode cL_holds 131 = .ok (.aload_n 0, 1) := by decide +kernel
theorem dL_holds_132 : decode cL_holds 132 = .ok (.getfield 10, 3) := by decide +kernel
theorem dL_holds_135 : decode cL_holds 135 = .ok (.bipush 12, 2) := by decide +kernel
theorem dL_holds_137 : decode cL_holds 137 = .ok (.invokestatic 159, 3) := by decide +kernel
theorem dL_holds_140 : decode cL_holds 140 = .ok (.ifCond .ne 17, 3) := by decide +kernel
theorem dL_holds_143 : decode cL_holds 143 = .ok (.aload_n 0, 1) := by decide +kernel
theorem dL_holds_144 : decode cL_holds 144 = .ok (.getfield 10, 3) := by decide +kernel
theorem dL_holds_147 : decode cL_holds 147 = .ok (.invokevirtual 179, 3) := by decide +kernel
theorem dL_holds_150 : decode cL_holds 150 = .ok (.ifCond .ne 7, 3) := by decide +kernel
theorem dL_holds_153 : decode cL_holds 153 = .ok (.iconst 1, 1) := by decide +kernel
theorem dL_holds_154 : decode cL_holds 154 = .ok (.goto 4, 3) := by decide +kernel
theorem dL_holds_157 : decode cL_holds 157 = .ok (.iconst 0, 1) := by decide +kernel
theorem dL_holds_158 : decode cL_holds 158 = .ok (.ireturn, 1) := by decide +kernel
theorem dL_law_0 : decode cL_law 0 = .ok (.new 11, 3) := by decide +kernel
theorem dL_law_3 : decode cL_law 3 = .ok (.dup, 1) := by decide +kernel
theorem dL_law_4 : decode cL_law 4 = .ok (.invokespecial 220, 3) := by decide +kernel
theorem dL_law_7 : decode cL_law 7 = .ok (.aload_n 0, 1) := by decide +kernel
theorem dL_law_8 : decode cL_law 8 = .ok (.invokevirtual 221, 3) := by decide +kernel
theorem dL_law_11 : decode cL_law 11 = .ok (.ireturn, 1) := by decide +kernel
