theorem dX0_init_0 : decode cX0_init 0 = .ok (.aload_n 0, 1) := by decide +kernel
theorem dX0_init_1 : decode cX0_init 1 = .ok (.invokespecial 3, 3) := by decide +kernel
theorem dX0_init_4 : decode cX0_init 4 = .ok (.aload_n 0, 1) := by decide +kernel
theorem dX0_init_5 : decode cX0_init 5 = .ok (.bipush 8, 2) := by decide +kernel
theorem dX0_init_7 : decode cX0_init 7 = .ok (.newarray .int, 2) := by decide +kernel
theorem dX0_init_9 : decode cX0_init 9 = .ok (.putfield 9, 3) := by decide +kernel
theorem dX0_init_12 : decode cX0_init 12 = .ok (.aload_n 0, 1) := by decide +kernel
theorem dX0_init_13 : decode cX0_init 13 = .ok (.bipush 112, 2) := by decide +kernel
theorem dX0_init_15 : decode cX0_init 15 = .ok (.newarray .char, 2) := by decide +kernel
theorem dX0_init_17 : decode cX0_init 17 = .ok (.putfield 15, 3) := by decide +kernel
theorem dX0_init_20 : decode cX0_init 20 = .ok (.aload_n 0, 1) := by decide +kernel
theorem dX0_init_21 : decode cX0_init 21 = .ok (.bipush 112, 2) := by decide +kernel
theorem dX0_init_23 : decode cX0_init 23 = .ok (.newarray .int, 2) := by decide +kernel
theorem dX0_init_25 : decode cX0_init 25 = .ok (.putfield 19, 3) := by decide +kernel
theorem dX0_init_28 : decode cX0_init 28 = .ok (.return_, 1) := by decide +kernel
theorem dX0_kindAt_0 : decode cX0_kindAt 0 = .ok (.aload_n 0, 1) := by decide +kernel
theorem dX0_kindAt_1 : decode cX0_kindAt 1 = .ok (.getfield 15, 3) := by decide +kernel
theorem dX0_kindAt_4 : decode cX0_kindAt 4 = .ok (.iload_n 1, 1) := by decide +kernel
theorem dX0_kindAt_5 : decode cX0_kindAt 5 = .ok (.bipush 14, 2) := by decide +kernel
theorem dX0_kindAt_7 : decode cX0_kindAt 7 = .ok (.imul, 1) := by decide +kernel
theorem dX0_kindAt_8 : decode cX0_kindAt 8 = .ok (.iload_n 2, 1) := by decide +kernel
theorem dX0_kindAt_9 : decode cX0_kindAt 9 = .ok (.iadd, 1) := by decide +kernel
theorem dX0_kindAt_10 : decode cX0_kindAt 10 = .ok (.caload, 1) := by decide +kernel
theorem dX0_kindAt_11 : decode cX0_kindAt 11 = .ok (.ireturn, 1) := by decide +kernel
theorem dX0_numberAt_0 : decode cX0_numberAt 0 = .ok (.aload_n 0, 1) := by decide +kernel
theorem dX0_numberAt_1 : decode cX0_numberAt 1 = .ok (.getfield 19, 3) := by decide +kernel
theorem dX0_numberAt_4 : decode cX0_numberAt 4 = .ok (.iload_n 1, 1) := by decide +kernel
theorem dX0_numberAt_5 : decode cX0_numberAt 5 = .ok (.bipush 14, 2) := by decide +kernel
theorem dX0_numberAt_7 : decode cX0_numberAt 7 = .ok (.imul, 1) := by decide +kernel
theorem dX0_numberAt_8 : decode cX0_numberAt 8 = .ok (.iload_n 2, 1) := by decide +kernel
theorem dX0_numberAt_9 : decode cX0_numberAt 9 = .ok (.iadd, 1) := by decide +kernel
theorem dX0_numberAt_10 : decode cX0_numberAt 10 = .ok (.iaload, 1) := by decide +kernel
theorem dX0_numberAt_11 : decode cX0_numberAt 11 = .ok (.ireturn, 1) := by decide +kernel
theorem dX0_isCall_0 : decode cX0_isCall 0 = .ok (.aload_n 0, 1) := by decide +kernel
theorem dX0_isCall_1 : decode cX0_isCall 1 = .ok (.iload_n 1, 1) := by decide +kernel
theorem dX0_isCall_2 : decode cX0_isCall 2 = .ok (.iload_n 2, 1) := by decide +kernel
theorem dX0_isCall_3 : decode cX0_isCall 3 = .ok (.invokevirtual 22, 3) := by decide +kernel
theorem dX0_isCall_6 : decode cX0_isCall 6 = .ok (.bipush 99, 2) := by decide +kernel
theorem dX0_isCall_8 : decode cX0_isCall 8 = .ok (.if_icmp .ne 7, 3) := by decide +kernel
theorem dX0_isCall_11 : decode cX0_isCall 11 = .ok (.iconst 1, 1) := by decide +kernel
theorem dX0_isCall_12 : decode cX0_isCall 12 = .ok (.goto 4, 3) := by decide +kernel
theorem dX0_isCall_15 : decode cX0_isCall 15 = .ok (.iconst 0, 1) := by decide +kernel
theorem dX0_isCall_16 : decode cX0_isCall 16 = .ok (.ireturn, 1) := by decide +kernel
theorem dX0_readBy_0 : decode cX0_readBy 0 = .ok (.aload_n 0, 1) := by decide +kernel
theorem dX0_readBy_1 : decode cX0_readBy 1 = .ok (.iload_n 1, 1) := by decide +kernel
theorem dX0_readBy_2 : decode cX0_readBy 2 = .ok (.iload_n 2, 1) := by decide +kernel
theorem dX0_readBy_3 : decode cX0_readBy 3 = .ok (.invokevirtual 22, 3) := by decide +kernel
theorem dX0_readBy_6 : decode cX0_readBy 6 = .ok (.istore_n 3, 1) := by decide +kernel
theorem dX0_readBy_7 : decode cX0_readBy 7 = .ok (.aload_n 0, 1) := by decide +kernel
theorem dX0_readBy_8 : decode cX0_readBy 8 = .ok (.iload_n 1, 1) := by decide +kernel
theorem dX0_readBy_9 : decode cX0_readBy 9 = .ok (.iload_n 2, 1) := by decide +kernel
theorem dX0_readBy_10 : decode cX0_readBy 10 = .ok (.invokevirtual 26, 3) := by decide +kernel
theorem dX0_readBy_13 : decode cX0_readBy 13 = .ok (.istore 4, 2) := by decide +kernel
theorem dX0_readBy_15 : decode cX0_readBy 15 = .ok (.iload_n 3, 1) := by decide +kernel
theorem dX0_readBy_16 : decode cX0_readBy 16 = .ok (.bipush 117, 2) := by decide +kernel
theorem dX0_readBy_18 : decode cX0_readBy 18 = .ok (.if_icmp .ne 8, 3) := by decide +kernel
theorem dX0_readBy_21 : decode cX0_readBy 21 = .ok (.iconst 1, 1) := by decide +kernel
theorem dX0_readBy_22 : decode cX0_readBy 22 = .ok (.iload 4, 2) := by decide +kernel
theorem dX0_readBy_24 : decode cX0_readBy 24 = .ok (.ishl, 1) := by decide +kernel
theorem dX0_readBy_25 : decode cX0_readBy 25 = .ok (.ireturn, 1) := by decide +kernel
theorem dX0_readBy_26 : decode cX0_readBy 26 = .ok (.iload_n 3, 1) := by decide +kernel
theorem dX0_readBy_27 : decode cX0_readBy 27 = .ok (.bipush 109, 2) := by decide +kernel
theorem dX0_readBy_29 : decode cX0_readBy 29 = .ok (.if_icmp .ne 13, 3) := by decide +kernel
theorem dX0_readBy_32 : decode cX0_readBy 32 = .ok (.iconst 1, 1) := by decide +kernel
theorem dX0_readBy_33 : decode cX0_readBy 33 = .ok (.iload 4, 2) := by decide +kernel
theorem dX0_readBy_35 : decode cX0_readBy 35 = .ok (.bipush 10, 2) := by decide +kernel
theorem dX0_readBy_37 : decode cX0_readBy 37 = .ok (.irem, 1) := by decide +kernel
theorem dX0_readBy_38 : decode cX0_readBy 38 = .ok (.ishl, 1) := by decide +kernel
theorem dX0_readBy_39 : decode cX0_readBy 39 = .ok (.goto 4, 3) := by decide +kernel
theorem dX0_readBy_42 : decode cX0_readBy 42 = .ok (.iconst 0, 1) := by decide +kernel
theorem dX0_readBy_43 : decode cX0_readBy 43 = .ok (.ireturn, 1) := by decide +kernel
theorem dX0_writtenBy_0 : decode cX0_writtenBy 0 = .ok (.aload_n 0, 1) := by decide +kernel
theorem dX0_writtenBy_1 : decode cX0_writtenBy 1 = .ok (.iload_n 1, 1) := by decide +kernel
theorem dX0_writtenBy_2 : decode cX0_writtenBy 2 = .ok (.iload_n 2, 1) := by decide +kernel
theorem dX0_writtenBy_3 : decode cX0_writtenBy 3 = .ok (.invokevirtual 22, 3) := by decide +kernel
theorem dX0_writtenBy_6 : decode cX0_writtenBy 6 = .ok (.istore_n 3, 1) := by decide +kernel
theorem dX0_writtenBy_7 : decode cX0_writtenBy 7 = .ok (.aload_n 0, 1) := by decide +kernel
theorem dX0_writtenBy_8 : decode cX0_writtenBy 8 = .ok (.iload_n 1, 1) := by decide +kernel
theorem dX0_writtenBy_9 : decode cX0_writtenBy 9 = .ok (.iload_n 2, 1) := by decide +kernel
theorem dX0_writtenBy_10 : decode cX0_writtenBy 10 = .ok (.invokevirtual 26, 3) := by decide +kernel
theorem dX0_writtenBy_13 : decode cX0_writtenBy 13 = .ok (.istore 4, 2) := by decide +kernel
theorem dX0_writtenBy_15 : decode cX0_writtenBy 15 = .ok (.iload_n 3, 1) := by decide +kernel
theorem dX0_writtenBy_16 : decode cX0_writtenBy 16 = .ok (.bipush 100, 2) := by decide +kernel
theorem dX0_writtenBy_18 : decode cX0_writtenBy 18 = .ok (.if_icmp .eq 9, 3) := by decide +kernel
theorem dX0_writtenBy_21 : decode cX0_writtenBy 21 = .ok (.iload_n 3, 1) := by decide +kernel
theorem dX0_writtenBy_22 : decode cX0_writtenBy 22 = .ok (.bipush 45, 2) := by decide +kernel
theorem dX0_writtenBy_24 : decode cX0_writtenBy 24 = .ok (.if_icmp .ne 8, 3) := by decide +kernel
theorem dX0_writtenBy_27 : decode cX0_writtenBy 27 = .ok (.iconst 1, 1) := by decide +kernel
theorem dX0_writtenBy_28 : decode cX0_writtenBy 28 = .ok (.iload 4, 2) := by decide +kernel
theorem dX0_writtenBy_30 : decode cX0_writtenBy 30 = .ok (.ishl, 1) := by decide +kernel
theorem dX0_writtenBy_31 : decode cX0_writtenBy 31 = .ok (.ireturn, 1) := by decide +kernel
theorem dX0_writtenBy_32 : decode cX0_writtenBy 32 = .ok (.iload_n 3, 1) := by decide +kernel
theorem dX0_writtenBy_33 : decode cX0_writtenBy 33 = .ok (.bipush 109, 2) := by decide +kernel
theorem dX0_writtenBy_35 : decode cX0_writtenBy 35 = .ok (.if_icmp .ne 13, 3) := by decide +kernel
theorem dX0_writtenBy_38 : decode cX0_writtenBy 38 = .ok (.iconst 1, 1) := by decide +kernel
theorem dX0_writtenBy_39 : decode cX0_writtenBy 39 = .ok (.iload 4, 2) := by decide +kernel
theorem dX0_writtenBy_41 : decode cX0_writtenBy 41 = .ok (.bipush 10, 2) := by decide +kernel
theorem dX0_writtenBy_43 : decode cX0_writtenBy 43 = .ok (.idiv, 1) := by decide +kernel
theorem dX0_writtenBy_44 : decode cX0_writtenBy 44 = .ok (.ishl, 1) := by decide +kernel
theorem dX0_writtenBy_45 : decode cX0_writtenBy 45 = .ok (.goto 4, 3) := by decide +kernel
theorem dX0_writtenBy_48 : decode cX0_writtenBy 48 = .ok (.iconst 0, 1) := by decide +kernel
theorem dX0_writtenBy_49 : decode cX0_writtenBy 49 = .ok (.ireturn, 1) := by decide +kernel
theorem dX0_entry_0 : decode cX0_entry 0 = .ok (.aload_n 0, 1) := by decide +kernel
theorem dX0_entry_1 : decode cX0_entry 1 = .ok (.getfield 9, 3) := by decide +kernel
theorem dX0_entry_4 : decode cX0_entry 4 = .ok (.iload_n 1, 1) := by decide +kernel
theorem dX0_entry_5 : decode cX0_entry 5 = .ok (.iaload, 1) := by decide +kernel
theorem dX0_entry_6 : decode cX0_entry 6 = .ok (.ifCond .ne 8, 3) := by decide +kernel
theorem dX0_entry_9 : decode cX0_entry 9 = .ok (.bipush 14, 2) := by decide +kernel
theorem dX0_entry_11 : decode cX0_entry 11 = .ok (.goto 4, 3) := by decide +kernel
theorem dX0_entry_14 : decode cX0_entry 14 = .ok (.iconst 0, 1) := by decide +kernel
theorem dX0_entry_15 : decode cX0_entry 15 = .ok (.ireturn, 1) := by decide +kernel
theorem dX0_next_0 : decode cX0_next 0 = .ok (.aload_n 0, 1) := by decide +kernel
theorem dX0_next_1 : decode cX0_next 1 = .ok (.iload_n 1, 1) := by decide +kernel
theorem dX0_next_2 : decode cX0_next 2 = .ok (.iload_n 2, 1) := by decide +kernel
theorem dX0_next_3 : decode cX0_next 3 = .ok (.iconst 0, 1) := by decide +kernel
theorem dX0_next_4 : decode cX0_next 4 = .ok (.invokevirtual 30, 3) := by decide +kernel
theorem dX0_next_7 : decode cX0_next 7 = .ok (.ireturn, 1) := by decide +kernel
theorem dX0_other_0 : decode cX0_other 0 = .ok (.iload_n 1, 1) := by decide +kernel
theorem dX0_other_1 : decode cX0_other 1 = .ok (.bipush 14, 2) := by decide +kernel
theorem dX0_other_3 : decode cX0_other 3 = .ok (.imul, 1) := by decide +kernel
theorem dX0_other_4 : decode cX0_other 4 = .ok (.iload_n 2, 1) := by decide +kernel
theorem dX0_other_5 : decode cX0_other 5 = .ok (.iadd, 1) := by decide +kernel
theorem dX0_other_6 : decode cX0_other 6 = .ok (.istore_n 3, 1) := by decide +kernel
theorem dX0_other_7 : decode cX0_other 7 = .ok (.aload_n 0, 1) := by decide +kernel
theorem dX0_other_8 : decode cX0_other 8 = .ok (.iload_n 1, 1) := by decide +kernel
theorem dX0_other_9 : decode cX0_other 9 = .ok (.iload_n 2, 1) := by decide +kernel
theorem dX0_other_10 : decode cX0_other 10 = .ok (.aload_n 0, 1) := by decide +kernel
theorem dX0_other_11 : decode cX0_other 11 = .ok (.getfield 15, 3) := by decide +kernel
theorem dX0_other_14 : decode cX0_other 14 = .ok (.iload_n 3, 1) := by decide +kernel
theorem dX0_other_15 : decode cX0_other 15 = .ok (.caload, 1) := by decide +kernel
theorem dX0_other_16 : decode cX0_other 16 = .ok (.bipush 98, 2) := by decide +kernel
theorem dX0_other_18 : decode cX0_other 18 = .ok (.if_icmp .ne 12, 3) := by decide +kernel
theorem dX0_other_21 : decode cX0_other 21 = .ok (.aload_n 0, 1) := by decide +kernel
theorem dX0_other_22 : decode cX0_other 22 = .ok (.getfield 19, 3) := by decide +kernel
theorem dX0_other_25 : decode cX0_other 25 = .ok (.iload_n 3, 1) := by decide +kernel
theorem dX0_other_26 : decode cX0_other 26 = .ok (.iaload, 1) := by decide +kernel
theorem dX0_other_27 : decode cX0_other 27 = .ok (.goto 4, 3) := by decide +kernel
theorem dX0_other_30 : decode cX0_other 30 = .ok (.iconst 0, 1) := by decide +kernel
theorem dX0_other_31 : decode cX0_other 31 = .ok (.invokevirtual 30, 3) := by decide +kernel
theorem dX0_other_34 : decode cX0_other 34 = .ok (.ireturn, 1) := by decide +kernel
theorem dX0_nodeBehind_0 : decode cX0_nodeBehind 0 = .ok (.iload_n 2, 1) := by decide +kernel
theorem dX0_nodeBehind_1 : decode cX0_nodeBehind 1 = .ok (.iconst 1, 1) := by decide +kernel
theorem dX0_nodeBehind_2 : decode cX0_nodeBehind 2 = .ok (.iadd, 1) := by decide +kernel
theorem dX0_nodeBehind_3 : decode cX0_nodeBehind 3 = .ok (.iload_n 3, 1) := by decide +kernel
theorem dX0_nodeBehind_4 : decode cX0_nodeBehind 4 = .ok (.iadd, 1) := by decide +kernel
theorem dX0_nodeBehind_5 : decode cX0_nodeBehind 5 = .ok (.istore 4, 2) := by decide +kernel
theorem dX0_nodeBehind_7 : decode cX0_nodeBehind 7 = .ok (.aload_n 0, 1) := by decide +kernel
theorem dX0_nodeBehind_8 : decode cX0_nodeBehind 8 = .ok (.getfield 15, 3) := by decide +kernel
theorem dX0_nodeBehind_11 : decode cX0_nodeBehind 11 = .ok (.iload_n 1, 1) := by decide +kernel
theorem dX0_nodeBehind_12 : decode cX0_nodeBehind 12 = .ok (.bipush 14, 2) := by decide +kernel
theorem dX0_nodeBehind_14 : decode cX0_nodeBehind 14 = .ok (.imul, 1) := by decide +kernel
theorem dX0_nodeBehind_15 : decode cX0_nodeBehind 15 = .ok (.iload_n 2, 1) := by decide +kernel
theorem dX0_nodeBehind_16 : decode cX0_nodeBehind 16 = .ok (.iadd, 1) := by decide +kernel
theorem dX0_nodeBehind_17 : decode cX0_nodeBehind 17 = .ok (.caload, 1) := by decide +kernel
theorem dX0_nodeBehind_18 : decode cX0_nodeBehind 18 = .ok (.bipush 114, 2) := by decide +kernel
theorem dX0_nodeBehind_20 : decode cX0_nodeBehind 20 = .ok (.if_icmp .eq 14, 3) := by decide +kernel
theorem dX0_nodeBehind_23 : decode cX0_nodeBehind 23 = .ok (.iload 4, 2) := by decide +kernel
theorem dX0_nodeBehind_25 : decode cX0_nodeBehind 25 = .ok (.aload_n 0, 1) := by decide +kernel
theorem dX0_nodeBehind_26 : decode cX0_nodeBehind 26 = .ok (.getfield 9, 3) := by decide +kernel
theorem dX0_nodeBehind_29 : decode cX0_nodeBehind 29 = .ok (.iload_n 1, 1) := by decide +kernel
theorem dX0_nodeBehind_30 : decode cX0_nodeBehind 30 = .ok (.iaload, 1) := by decide +kernel
theorem dX0_nodeBehind_31 : decode cX0_nodeBehind 31 = .ok (.if_icmp .lt 7, 3) := by decide +kernel
theorem dX0_nodeBehind_34 : decode cX0_nodeBehind 34 = .ok (.iconst 1, 1) := by decide +kernel
theorem dX0_nodeBehind_35 : decode cX0_nodeBehind 35 = .ok (.goto 4, 3) := by decide +kernel
theorem dX0_nodeBehind_38 : decode cX0_nodeBehind 38 = .ok (.iconst 0, 1) := by decide +kernel
theorem dX0_nodeBehind_39 : decode cX0_nodeBehind 39 = .ok (.istore 5, 2) := by decide +kernel
theorem dX0_nodeBehind_41 : decode cX0_nodeBehind 41 = .ok (.iload 5, 2) := by decide +kernel
theorem dX0_nodeBehind_43 : decode cX0_nodeBehind 43 = .ok (.ifCond .eq 8, 3) := by decide +kernel
theorem dX0_nodeBehind_46 : decode cX0_nodeBehind 46 = .ok (.bipush 14, 2) := by decide +kernel
theorem dX0_nodeBehind_48 : decode cX0_nodeBehind 48 = .ok (.goto 5, 3) := by decide +kernel
theorem dX0_nodeBehind_51 : decode cX0_nodeBehind 51 = .ok (.iload 4, 2) := by decide +kernel
theorem dX0_nodeBehind_53 : decode cX0_nodeBehind 53 = .ok (.ireturn, 1) := by decide +kernel
theorem dX0_countFilled_0 : decode cX0_countFilled 0 = .ok (.iconst 0, 1) := by decide +kernel
theorem dX0_countFilled_1 : decode cX0_countFilled 1 = .ok (.istore_n 1, 1) := by decide +kernel
theorem dX0_countFilled_2 : decode cX0_countFilled 2 = .ok (.iconst 0, 1) := by decide +kernel
theorem dX0_countFilled_3 : decode cX0_countFilled 3 = .ok (.istore_n 2, 1) := by decide +kernel
theorem dX0_countFilled_4 : decode cX0_countFilled 4 = .ok (.iload_n 2, 1) := by decide +kernel
theorem dX0_countFilled_5 : decode cX0_countFilled 5 = .ok (.bipush 8, 2) := by decide +kernel
theorem dX0_countFilled_7 : decode cX0_countFilled 7 = .ok (.if_icmp .ge 21, 3) := by decide +kernel
theorem dX0_countFilled_10 : decode cX0_countFilled 10 = .ok (.aload_n 0, 1) := by decide +kernel
theorem dX0_countFilled_11 : decode cX0_countFilled 11 = .ok (.getfield 9, 3) := by decide +kernel
theorem dX0_countFilled_14 : decode cX0_countFilled 14 = .ok (.iload_n 2, 1) := by decide +kernel
theorem dX0_countFilled_15 : decode cX0_countFilled 15 = .ok (.iaload, 1) := by decide +kernel
theorem dX0_countFilled_16 : decode cX0_countFilled 16 = .ok (.ifCond .le 6, 3) := by decide +kernel
theorem dX0_countFilled_19 : decode cX0_countFilled 19 = .ok (.iinc 1 1, 3) := by decide +kernel
theorem dX0_countFilled_22 : decode cX0_countFilled 22 = .ok (.iinc 2 1, 3) := by decide +kernel
theorem dX0_countFilled_25 : decode cX0_countFilled 25 = .ok (.goto (-21), 3) := by decide +kernel
theorem dX0_countFilled_28 : decode cX0_countFilled 28 = .ok (.iload_n 1, 1) := by decide +kernel
theorem dX0_countFilled_29 : decode cX0_countFilled 29 = .ok (.ireturn, 1) := by decide +kernel
theorem dX0_take_0 : decode cX0_take 0 = .ok (.iload_n 1, 1) := by decide +kernel
theorem dX0_take_1 : decode cX0_take 1 = .ok (.bipush 14, 2) := by decide +kernel
theorem dX0_take_3 : decode cX0_take 3 = .ok (.imul, 1) := by decide +kernel
theorem dX0_take_4 : decode cX0_take 4 = .ok (.istore_n 3, 1) := by decide +kernel
theorem dX0_take_5 : decode cX0_take 5 = .ok (.aload_n 2, 1) := by decide +kernel
theorem dX0_take_6 : decode cX0_take 6 = .ok (.getfield 34, 3) := by decide +kernel
theorem dX0_take_9 : decode cX0_take 9 = .ok (.bipush 14, 2) := by decide +kernel
theorem dX0_take_11 : decode cX0_take 11 = .ok (.invokestatic 40, 3) := by decide +kernel
theorem dX0_take_14 : decode cX0_take 14 = .ok (.istore 4, 2) := by decide +kernel
theorem dX0_take_16 : decode cX0_take 16 = .ok (.iconst 0, 1) := by decide +kernel
theorem dX0_take_17 : decode cX0_take 17 = .ok (.istore 5, 2) := by decide +kernel
theorem dX0_take_19 : decode cX0_take 19 = .ok (.iload 5, 2) := by decide +kernel
theorem dX0_take_21 : decode cX0_take 21 = .ok (.iload 4, 2) := by decide +kernel
theorem dX0_take_23 : decode cX0_take 23 = .ok (.if_icmp .ge 41, 3) := by decide +kernel
theorem dX0_take_26 : decode cX0_take 26 = .ok (.aload_n 0, 1) := by decide +kernel
theorem dX0_take_27 : decode cX0_take 27 = .ok (.getfield 15, 3) := by decide +kernel
theorem dX0_take_30 : decode cX0_take 30 = .ok (.iload_n 3, 1) := by decide +kernel
theorem dX0_take_31 : decode cX0_take 31 = .ok (.iload 5, 2) := by decide +kernel
theorem dX0_take_33 : decode cX0_take 33 = .ok (.iadd, 1) := by decide +kernel
theorem dX0_take_34 : decode cX0_take 34 = .ok (.aload_n 2, 1) := by decide +kernel
theorem dX0_take_35 : decode cX0_take 35 = .ok (.getfield 45, 3) := by decide +kernel
theorem dX0_take_38 : decode cX0_take 38 = .ok (.iload 5, 2) := by decide +kernel
theorem dX0_take_40 : decode cX0_take 40 = .ok (.caload, 1) := by decide +kernel
theorem dX0_take_41 : decode cX0_take 41 = .ok (.castore, 1) := by decide +kernel
theorem dX0_take_42 : decode cX0_take 42 = .ok (.aload_n 0, 1) := by decide +kernel
theorem dX0_take_43 : decode cX0_take 43 = .ok (.getfield 19, 3) := by decide +kernel
theorem dX0_take_46 : decode cX0_take 46 = .ok (.iload_n 3, 1) := by decide +kernel
theorem dX0_take_47 : decode cX0_take 47 = .ok (.iload 5, 2) := by decide +kernel
theorem dX0_take_49 : decode cX0_take 49 = .ok (.iadd, 1) := by decide +kernel
theorem dX0_take_50 : decode cX0_take 50 = .ok (.aload_n 2, 1) := by decide +kernel
theorem dX0_take_51 : decode cX0_take 51 = .ok (.getfield 46, 3) := by decide +kernel
theorem dX0_take_54 : decode cX0_take 54 = .ok (.iload 5, 2) := by decide +kernel
theorem dX0_take_56 : decode cX0_take 56 = .ok (.iaload, 1) := by decide +kernel
theorem dX0_take_57 : decode cX0_take 57 = .ok (.iastore, 1) := by decide +kernel
theorem dX0_take_58 : decode cX0_take 58 = .ok (.iinc 5 1, 3) := by decide +kernel
theorem dX0_take_61 : decode cX0_take 61 = .ok (.goto (-42), 3) := by decide +kernel
theorem dX0_take_64 : decode cX0_take 64 = .ok (.aload_n 0, 1) := by decide +kernel
theorem dX0_take_65 : decode cX0_take 65 = .ok (.getfield 9, 3) := by decide +kernel
theorem dX0_take_68 : decode cX0_take 68 = .ok (.iload_n 1, 1) := by decide +kernel
theorem dX0_take_69 : decode cX0_take 69 = .ok (.iload 4, 2) := by decide +kernel
theorem dX0_take_71 : decode cX0_take 71 = .ok (.iastore, 1) := by decide +kernel
theorem dX0_take_72 : decode cX0_take 72 = .ok (.return_, 1) := by decide +kernel
theorem dX0_drop_0 : decode cX0_drop 0 = .ok (.iload_n 1, 1) := by decide +kernel
theorem dX0_drop_1 : decode cX0_drop 1 = .ok (.bipush 14, 2) := by decide +kernel
theorem dX0_drop_3 : decode cX0_drop 3 = .ok (.imul, 1) := by decide +kernel
theorem dX0_drop_4 : decode cX0_drop 4 = .ok (.istore_n 3, 1) := by decide +kernel
theorem dX0_drop_5 : decode cX0_drop 5 = .ok (.iload_n 2, 1) := by decide +kernel
theorem dX0_drop_6 : decode cX0_drop 6 = .ok (.istore 4, 2) := by decide +kernel
theorem dX0_drop_8 : decode cX0_drop 8 = .ok (.iload 4, 2) := by decide +kernel
theorem dX0_drop_10 : decode cX0_drop 10 = .ok (.iconst 1, 1) := by decide +kernel
theorem dX0_drop_11 : decode cX0_drop 11 = .ok (.iadd, 1) := by decide +kernel
theorem dX0_drop_12 : decode cX0_drop 12 = .ok (.aload_n 0, 1) := by decide +kernel
theorem dX0_drop_13 : decode cX0_drop 13 = .ok (.getfield 9, 3) := by decide +kernel
theorem dX0_drop_16 : decode cX0_drop 16 = .ok (.iload_n 1, 1) := by decide +kernel
theorem dX0_drop_17 : decode cX0_drop 17 = .ok (.iaload, 1) := by decide +kernel
theorem dX0_drop_18 : decode cX0_drop 18 = .ok (.if_icmp .ge 49, 3) := by decide +kernel
theorem dX0_drop_21 : decode cX0_drop 21 = .ok (.aload_n 0, 1) := by decide +kernel
theorem dX0_drop_22 : decode cX0_drop 22 = .ok (.getfield 15, 3) := by decide +kernel
theorem dX0_drop_25 : decode cX0_drop 25 = .ok (.iload_n 3, 1) := by decide +kernel
theorem dX0_drop_26 : decode cX0_drop 26 = .ok (.iload 4, 2) := by decide +kernel
theorem dX0_drop_28 : decode cX0_drop 28 = .ok (.iadd, 1) := by decide +kernel
theorem dX0_drop_29 : decode cX0_drop 29 = .ok (.aload_n 0, 1) := by decide +kernel
theorem dX0_drop_30 : decode cX0_drop 30 = .ok (.getfield 15, 3) := by decide +kernel
theorem dX0_drop_33 : decode cX0_drop 33 = .ok (.iload_n 3, 1) := by decide +kernel
theorem dX0_drop_34 : decode cX0_drop 34 = .ok (.iload 4, 2) := by decide +kernel
theorem dX0_drop_36 : decode cX0_drop 36 = .ok (.iadd, 1) := by decide +kernel
theorem dX0_drop_37 : decode cX0_drop 37 = .ok (.iconst 1, 1) := by decide +kernel
theorem dX0_drop_38 : decode cX0_drop 38 = .ok (.iadd, 1) := by decide +kernel
theorem dX0_drop_39 : decode cX0_drop 39 = .ok (.caload, 1) := by decide +kernel
theorem dX0_drop_40 : decode cX0_drop 40 = .ok (.castore, 1) := by decide +kernel
theorem dX0_drop_41 : decode cX0_drop 41 = .ok (.aload_n 0, 1) := by decide +kernel
theorem dX0_drop_42 : decode cX0_drop 42 = .ok (.getfield 19, 3) := by decide +kernel
theorem dX0_drop_45 : decode cX0_drop 45 = .ok (.iload_n 3, 1) := by decide +kernel
theorem dX0_drop_46 : decode cX0_drop 46 = .ok (.iload 4, 2) := by decide +kernel
theorem dX0_drop_48 : decode cX0_drop 48 = .ok (.iadd, 1) := by decide +kernel
theorem dX0_drop_49 : decode cX0_drop 49 = .ok (.aload_n 0, 1) := by decide +kernel
theorem dX0_drop_50 : decode cX0_drop 50 = .ok (.getfield 19, 3) := by decide +kernel
theorem dX0_drop_53 : decode cX0_drop 53 = .ok (.iload_n 3, 1) := by decide +kernel
theorem dX0_drop_54 : decode cX0_drop 54 = .ok (.iload 4, 2) := by decide +kernel
theorem dX0_drop_56 : decode cX0_drop 56 = .ok (.iadd, 1) := by decide +kernel
theorem dX0_drop_57 : decode cX0_drop 57 = .ok (.iconst 1, 1) := by decide +kernel
theorem dX0_drop_58 : decode cX0_drop 58 = .ok (.iadd, 1) := by decide +kernel
theorem dX0_drop_59 : decode cX0_drop 59 = .ok (.iaload, 1) := by decide +kernel
theorem dX0_drop_60 : decode cX0_drop 60 = .ok (.iastore, 1) := by decide +kernel
theorem dX0_drop_61 : decode cX0_drop 61 = .ok (.iinc 4 1, 3) := by decide +kernel
theorem dX0_drop_64 : decode cX0_drop 64 = .ok (.goto (-56), 3) := by decide +kernel
theorem dX0_drop_67 : decode cX0_drop 67 = .ok (.aload_n 0, 1) := by decide +kernel
theorem dX0_drop_68 : decode cX0_drop 68 = .ok (.getfield 9, 3) := by decide +kernel
theorem dX0_drop_71 : decode cX0_drop 71 = .ok (.iload_n 1, 1) := by decide +kernel
theorem dX0_drop_72 : decode cX0_drop 72 = .ok (.dup2, 1) := by decide +kernel
theorem dX0_drop_73 : decode cX0_drop 73 = .ok (.iaload, 1) := by decide +kernel
theorem dX0_drop_74 : decode cX0_drop 74 = .ok (.iconst 1, 1) := by decide +kernel
theorem dX0_drop_75 : decode cX0_drop 75 = .ok (.isub, 1) := by decide +kernel
theorem dX0_drop_76 : decode cX0_drop 76 = .ok (.iastore, 1) := by decide +kernel
theorem dX0_drop_77 : decode cX0_drop 77 = .ok (.return_, 1) := by decide +kernel
theorem dX0_copyFrom_0 : decode cX0_copyFrom 0 = .ok (.aload_n 1, 1) := by decide +kernel
theorem dX0_copyFrom_1 : decode cX0_copyFrom 1 = .ok (.getfield 9, 3) := by decide +kernel
theorem dX0_copyFrom_4 : decode cX0_copyFrom 4 = .ok (.iconst 0, 1) := by decide +kernel
theorem dX0_copyFrom_5 : decode cX0_copyFrom 5 = .ok (.aload_n 0, 1) := by decide +kernel
theorem dX0_copyFrom_6 : decode cX0_copyFrom 6 = .ok (.getfield 9, 3) := by decide +kernel
theorem dX0_copyFrom_9 : decode cX0_copyFrom 9 = .ok (.iconst 0, 1) := by decide +kernel
theorem dX0_copyFrom_10 : decode cX0_copyFrom 10 = .ok (.bipush 8, 2) := by decide +kernel
theorem dX0_copyFrom_12 : decode cX0_copyFrom 12 = .ok (.invokestatic 47, 3) := by decide +kernel
theorem dX0_copyFrom_15 : decode cX0_copyFrom 15 = .ok (.aload_n 1, 1) := by decide +kernel
theorem dX0_copyFrom_16 : decode cX0_copyFrom 16 = .ok (.getfield 15, 3) := by decide +kernel
theorem dX0_copyFrom_19 : decode cX0_copyFrom 19 = .ok (.iconst 0, 1) := by decide +kernel
theorem dX0_copyFrom_20 : decode cX0_copyFrom 20 = .ok (.aload_n 0, 1) := by decide +kernel
theorem dX0_copyFrom_21 : decode cX0_copyFrom 21 = .ok (.getfield 15, 3) := by decide +kernel
theorem dX0_copyFrom_24 : decode cX0_copyFrom 24 = .ok (.iconst 0, 1) := by decide +kernel
theorem dX0_copyFrom_25 : decode cX0_copyFrom 25 = .ok (.bipush 112, 2) := by decide +kernel
theorem dX0_copyFrom_27 : decode cX0_copyFrom 27 = .ok (.invokestatic 47, 3) := by decide +kernel
theorem dX0_copyFrom_30 : decode cX0_copyFrom 30 = .ok (.aload_n 1, 1) := by decide +kernel
theorem dX0_copyFrom_31 : decode cX0_copyFrom 31 = .ok (.getfield 19, 3) := by decide +kernel
theorem dX0_copyFrom_34 : decode cX0_copyFrom 34 = .ok (.iconst 0, 1) := by decide +kernel
theorem dX0_copyFrom_35 : decode cX0_copyFrom 35 = .ok (.aload_n 0, 1) := by decide +kernel
theorem dX0_copyFrom_36 : decode cX0_copyFrom 36 = .ok (.getfield 19, 3) := by decide +kernel
theorem dX0_copyFrom_39 : decode cX0_copyFrom 39 = .ok (.iconst 0, 1) := by decide +kernel
theorem dX0_copyFrom_40 : decode cX0_copyFrom 40 = .ok (.bipush 112, 2) := by decide +kernel
theorem dX0_copyFrom_42 : decode cX0_copyFrom 42 = .ok (.invokestatic 47, 3) := by decide +kernel
theorem dX0_copyFrom_45 : decode cX0_copyFrom 45 = .ok (.return_, 1) := by decide +kernel
theorem dX1_init_0 : decode cX1_init 0 = .ok (.aload_n 0, 1) := by decide +kernel
theorem dX1_init_1 : decode cX1_init 1 = .ok (.invokespecial 3, 3) := by decide +kernel
theorem dX1_init_4 : decode cX1_init 4 = .ok (.aload_n 0, 1) := by decide +kernel
theorem dX1_init_5 : decode cX1_init 5 = .ok (.bipush 8, 2) := by decide +kernel
theorem dX1_init_7 : decode cX1_init 7 = .ok (.newarray .int, 2) := by decide +kernel
theorem dX1_init_9 : decode cX1_init 9 = .ok (.putfield 9, 3) := by decide +kernel
theorem dX1_init_12 : decode cX1_init 12 = .ok (.aload_n 0, 1) := by decide +kernel
theorem dX1_init_13 : decode cX1_init 13 = .ok (.bipush 15, 2) := by decide +kernel
theorem dX1_init_15 : decode cX1_init 15 = .ok (.newarray .int, 2) := by decide +kernel
theorem dX1_init_17 : decode cX1_init 17 = .ok (.putfield 15, 3) := by decide +kernel
theorem dX1_init_20 : decode cX1_init 20 = .ok (.aload_n 0, 1) := by decide +kernel
theorem dX1_init_21 : decode cX1_init 21 = .ok (.aload_n 1, 1) := by decide +kernel
theorem dX1_init_22 : decode cX1_init 22 = .ok (.putfield 18, 3) := by decide +kernel
theorem dX1_init_25 : decode cX1_init 25 = .ok (.aload_n 0, 1) := by decide +kernel
theorem dX1_init_26 : decode cX1_init 26 = .ok (.aload_n 2, 1) := by decide +kernel
theorem dX1_init_27 : decode cX1_init 27 = .ok (.putfield 22, 3) := by decide +kernel
theorem dX1_init_30 : decode cX1_init 30 = .ok (.return_, 1) := by decide +kernel
theorem dX1_infer_0 : decode cX1_infer 0 = .ok (.aload_n 0, 1) := by decide +kernel
theorem dX1_infer_1 : decode cX1_infer 1 = .ok (.getfield 9, 3) := by decide +kernel
theorem dX1_infer_4 : decode cX1_infer 4 = .ok (.iconst 0, 1) := by decide +kernel
theorem dX1_infer_5 : decode cX1_infer 5 = .ok (.invokestatic 26, 3) := by decide +kernel
theorem dX1_infer_8 : decode cX1_infer 8 = .ok (.iconst 1, 1) := by decide +kernel
theorem dX1_infer_9 : decode cX1_infer 9 = .ok (.istore_n 1, 1) := by decide +kernel
theorem dX1_infer_10 : decode cX1_infer 10 = .ok (.iconst 0, 1) := by decide +kernel
theorem dX1_infer_11 : decode cX1_infer 11 = .ok (.istore_n 2, 1) := by decide +kernel
theorem dX1_infer_12 : decode cX1_infer 12 = .ok (.iload_n 1, 1) := by decide +kernel
theorem dX1_infer_13 : decode cX1_infer 13 = .ok (.ifCond .eq 59, 3) := by decide +kernel
theorem dX1_infer_16 : decode cX1_infer 16 = .ok (.iload_n 2, 1) := by decide +kernel
theorem dX1_infer_17 : decode cX1_infer 17 = .ok (.bipush 64, 2) := by decide +kernel
theorem dX1_infer_19 : decode cX1_infer 19 = .ok (.if_icmp .gt 53, 3) := by decide +kernel
theorem dX1_infer_22 : decode cX1_infer 22 = .ok (.iconst 0, 1) := by decide +kernel
theorem dX1_infer_23 : decode cX1_infer 23 = .ok (.istore_n 1, 1) := by decide +kernel
theorem dX1_infer_24 : decode cX1_infer 24 = .ok (.iconst 0, 1) := by decide +kernel
theorem dX1_infer_25 : decode cX1_infer 25 = .ok (.istore_n 3, 1) := by decide +kernel
theorem dX1_infer_26 : decode cX1_infer 26 = .ok (.iload_n 3, 1) := by decide +kernel
theorem dX1_infer_27 : decode cX1_infer 27 = .ok (.bipush 8, 2) := by decide +kernel
theorem dX1_infer_29 : decode cX1_infer 29 = .ok (.if_icmp .ge 37, 3) := by decide +kernel
theorem dX1_infer_32 : decode cX1_infer 32 = .ok (.aload_n 0, 1) := by decide +kernel
theorem dX1_infer_33 : decode cX1_infer 33 = .ok (.iload_n 3, 1) := by decide +kernel
theorem dX1_infer_34 : decode cX1_infer 34 = .ok (.invokevirtual 32, 3) := by decide +kernel
theorem dX1_infer_37 : decode cX1_infer 37 = .ok (.istore 4, 2) := by decide +kernel
theorem dX1_infer_39 : decode cX1_infer 39 = .ok (.iload 4, 2) := by decide +kernel
theorem dX1_infer_41 : decode cX1_infer 41 = .ok (.aload_n 0, 1) := by decide +kernel
theorem dX1_infer_42 : decode cX1_infer 42 = .ok (.getfield 9, 3) := by decide +kernel
theorem dX1_infer_45 : decode cX1_infer 45 = .ok (.iload_n 3, 1) := by decide +kernel
theorem dX1_infer_46 : decode cX1_infer 46 = .ok (.iaload, 1) := by decide +kernel
theorem dX1_infer_47 : decode cX1_infer 47 = .ok (.if_icmp .eq 13, 3) := by decide +kernel
theorem dX1_infer_50 : decode cX1_infer 50 = .ok (.aload_n 0, 1) := by decide +kernel
theorem dX1_infer_51 : decode cX1_infer 51 = .ok (.getfield 9, 3) := by decide +kernel
theorem dX1_infer_54 : decode cX1_infer 54 = .ok (.iload_n 3, 1) := by decide +kernel
theorem dX1_infer_55 : decode cX1_infer 55 = .ok (.iload 4, 2) := by decide +kernel
theorem dX1_infer_57 : decode cX1_infer 57 = .ok (.iastore, 1) := by decide +kernel
theorem dX1_infer_58 : decode cX1_infer 58 = .ok (.iconst 1, 1) := by decide +kernel
theorem dX1_infer_59 : decode cX1_infer 59 = .ok (.istore_n 1, 1) := by decide +kernel
theorem dX1_infer_60 : decode cX1_infer 60 = .ok (.iinc 3 1, 3) := by decide +kernel
theorem dX1_infer_63 : decode cX1_infer 63 = .ok (.goto (-37), 3) := by decide +kernel
theorem dX1_infer_66 : decode cX1_infer 66 = .ok (.iinc 2 1, 3) := by decide +kernel
theorem dX1_infer_69 : decode cX1_infer 69 = .ok (.goto (-57), 3) := by decide +kernel
theorem dX1_infer_72 : decode cX1_infer 72 = .ok (.return_, 1) := by decide +kernel
theorem dX1_definedBy_0 : decode cX1_definedBy 0 = .ok (.aload_n 0, 1) := by decide +kernel
theorem dX1_definedBy_1 : decode cX1_definedBy 1 = .ok (.getfield 15, 3) := by decide +kernel
theorem dX1_definedBy_4 : decode cX1_definedBy 4 = .ok (.sipush 255, 3) := by decide +kernel
theorem dX1_definedBy_7 : decode cX1_definedBy 7 = .ok (.invokestatic 26, 3) := by decide +kernel
theorem dX1_definedBy_10 : decode cX1_definedBy 10 = .ok (.aload_n 0, 1) := by decide +kernel
theorem dX1_definedBy_11 : decode cX1_definedBy 11 = .ok (.getfield 15, 3) := by decide +kernel
theorem dX1_definedBy_14 : decode cX1_definedBy 14 = .ok (.aload_n 0, 1) := by decide +kernel
theorem dX1_definedBy_15 : decode cX1_definedBy 15 = .ok (.getfield 18, 3) := by decide +kernel
theorem dX1_definedBy_18 : decode cX1_definedBy 18 = .ok (.iload_n 1, 1) := by decide +kernel
theorem dX1_definedBy_19 : decode cX1_definedBy 19 = .ok (.invokevirtual 36, 3) := by decide +kernel
theorem dX1_definedBy_22 : decode cX1_definedBy 22 = .ok (.iconst 0, 1) := by decide +kernel
theorem dX1_definedBy_23 : decode cX1_definedBy 23 = .ok (.iastore, 1) := by decide +kernel
theorem dX1_definedBy_24 : decode cX1_definedBy 24 = .ok (.iconst 0, 1) := by decide +kernel
theorem dX1_definedBy_25 : decode cX1_definedBy 25 = .ok (.istore_n 2, 1) := by decide +kernel
theorem dX1_definedBy_26 : decode cX1_definedBy 26 = .ok (.iload_n 2, 1) := by decide +kernel
theorem dX1_definedBy_27 : decode cX1_definedBy 27 = .ok (.aload_n 0, 1) := by decide +kernel
theorem dX1_definedBy_28 : decode cX1_definedBy 28 = .ok (.getfield 18, 3) := by decide +kernel
theorem dX1_definedBy_31 : decode cX1_definedBy 31 = .ok (.getfield 41, 3) := by decide +kernel
theorem dX1_definedBy_34 : decode cX1_definedBy 34 = .ok (.iload_n 1, 1) := by decide +kernel
theorem dX1_definedBy_35 : decode cX1_definedBy 35 = .ok (.iaload, 1) := by decide +kernel
theorem dX1_definedBy_36 : decode cX1_definedBy 36 = .ok (.if_icmp .ge 71, 3) := by decide +kernel
theorem dX1_definedBy_39 : decode cX1_definedBy 39 = .ok (.aload_n 0, 1) := by decide +kernel
theorem dX1_definedBy_40 : decode cX1_definedBy 40 = .ok (.getfield 22, 3) := by decide +kernel
theorem dX1_definedBy_43 : decode cX1_definedBy 43 = .ok (.iload_n 1, 1) := by decide +kernel
theorem dX1_definedBy_44 : decode cX1_definedBy 44 = .ok (.iload_n 2, 1) := by decide +kernel
theorem dX1_definedBy_45 : decode cX1_definedBy 45 = .ok (.invokevirtual 44, 3) := by decide +kernel
theorem dX1_definedBy_48 : decode cX1_definedBy 48 = .ok (.ifCond .eq 53, 3) := by decide +kernel
theorem dX1_definedBy_51 : decode cX1_definedBy 51 = .ok (.aload_n 0, 1) := by decide +kernel
theorem dX1_definedBy_52 : decode cX1_definedBy 52 = .ok (.getfield 15, 3) := by decide +kernel
theorem dX1_definedBy_55 : decode cX1_definedBy 55 = .ok (.iload_n 2, 1) := by decide +kernel
theorem dX1_definedBy_56 : decode cX1_definedBy 56 = .ok (.iaload, 1) := by decide +kernel
theorem dX1_definedBy_57 : decode cX1_definedBy 57 = .ok (.aload_n 0, 1) := by decide +kernel
theorem dX1_definedBy_58 : decode cX1_definedBy 58 = .ok (.iload_n 1, 1) := by decide +kernel
theorem dX1_definedBy_59 : decode cX1_definedBy 59 = .ok (.iload_n 2, 1) := by decide +kernel
theorem dX1_definedBy_60 : decode cX1_definedBy 60 = .ok (.invokevirtual 50, 3) := by decide +kernel
theorem dX1_definedBy_63 : decode cX1_definedBy 63 = .ok (.ior, 1) := by decide +kernel
theorem dX1_definedBy_64 : decode cX1_definedBy 64 = .ok (.istore_n 3, 1) := by decide +kernel
theorem dX1_definedBy_65 : decode cX1_definedBy 65 = .ok (.aload_n 0, 1) := by decide +kernel
theorem dX1_definedBy_66 : decode cX1_definedBy 66 = .ok (.getfield 15, 3) := by decide +kernel
theorem dX1_definedBy_69 : decode cX1_definedBy 69 = .ok (.aload_n 0, 1) := by decide +kernel
theorem dX1_definedBy_70 : decode cX1_definedBy 70 = .ok (.getfield 18, 3) := by decide +kernel
theorem dX1_definedBy_73 : decode cX1_definedBy 73 = .ok (.iload_n 1, 1) := by decide +kernel
theorem dX1_definedBy_74 : decode cX1_definedBy 74 = .ok (.iload_n 2, 1) := by decide +kernel
theorem dX1_definedBy_75 : decode cX1_definedBy 75 = .ok (.invokevirtual 54, 3) := by decide +kernel
theorem dX1_definedBy_78 : decode cX1_definedBy 78 = .ok (.dup2, 1) := by decide +kernel
theorem dX1_definedBy_79 : decode cX1_definedBy 79 = .ok (.iaload, 1) := by decide +kernel
theorem dX1_definedBy_80 : decode cX1_definedBy 80 = .ok (.iload_n 3, 1) := by decide +kernel
theorem dX1_definedBy_81 : decode cX1_definedBy 81 = .ok (.iand, 1) := by decide +kernel
theorem dX1_definedBy_82 : decode cX1_definedBy 82 = .ok (.iastore, 1) := by decide +kernel
theorem dX1_definedBy_83 : decode cX1_definedBy 83 = .ok (.aload_n 0, 1) := by decide +kernel
theorem dX1_definedBy_84 : decode cX1_definedBy 84 = .ok (.getfield 15, 3) := by decide +kernel
theorem dX1_definedBy_87 : decode cX1_definedBy 87 = .ok (.aload_n 0, 1) := by decide +kernel
theorem dX1_definedBy_88 : decode cX1_definedBy 88 = .ok (.getfield 18, 3) := by decide +kernel
theorem dX1_definedBy_91 : decode cX1_definedBy 91 = .ok (.iload_n 1, 1) := by decide +kernel
theorem dX1_definedBy_92 : decode cX1_definedBy 92 = .ok (.iload_n 2, 1) := by decide +kernel
theorem dX1_definedBy_93 : decode cX1_definedBy 93 = .ok (.invokevirtual 57, 3) := by decide +kernel
theorem dX1_definedBy_96 : decode cX1_definedBy 96 = .ok (.dup2, 1) := by decide +kernel
theorem dX1_definedBy_97 : decode cX1_definedBy 97 = .ok (.iaload, 1) := by decide +kernel
theorem dX1_definedBy_98 : decode cX1_definedBy 98 = .ok (.iload_n 3, 1) := by decide +kernel
theorem dX1_definedBy_99 : decode cX1_definedBy 99 = .ok (.iand, 1) := by decide +kernel
theorem dX1_definedBy_100 : decode cX1_definedBy 100 = .ok (.iastore, 1) := by decide +kernel
theorem dX1_definedBy_101 : decode cX1_definedBy 101 = .ok (.iinc 2 1, 3) := by decide +kernel
theorem dX1_definedBy_104 : decode cX1_definedBy 104 = .ok (.goto (-78), 3) := by decide +kernel
theorem dX1_definedBy_107 : decode cX1_definedBy 107 = .ok (.aload_n 0, 1) := by decide +kernel
theorem dX1_definedBy_108 : decode cX1_definedBy 108 = .ok (.getfield 15, 3) := by decide +kernel
theorem dX1_definedBy_111 : decode cX1_definedBy 111 = .ok (.bipush 14, 2) := by decide +kernel
theorem dX1_definedBy_113 : decode cX1_definedBy 113 = .ok (.iaload, 1) := by decide +kernel
theorem dX1_definedBy_114 : decode cX1_definedBy 114 = .ok (.ireturn, 1) := by decide +kernel
theorem dX1_definedAt_0 : decode cX1_definedAt 0 = .ok (.aload_n 0, 1) := by decide +kernel
theorem dX1_definedAt_1 : decode cX1_definedAt 1 = .ok (.getfield 18, 3) := by decide +kernel
theorem dX1_definedAt_4 : decode cX1_definedAt 4 = .ok (.iload_n 1, 1) := by decide +kernel
theorem dX1_definedAt_5 : decode cX1_definedAt 5 = .ok (.iload_n 2, 1) := by decide +kernel
theorem dX1_definedAt_6 : decode cX1_definedAt 6 = .ok (.invokevirtual 60, 3) := by decide +kernel
theorem dX1_definedAt_9 : decode cX1_definedAt 9 = .ok (.ifCond .eq 18, 3) := by decide +kernel
theorem dX1_definedAt_12 : decode cX1_definedAt 12 = .ok (.aload_n 0, 1) := by decide +kernel
theorem dX1_definedAt_13 : decode cX1_definedAt 13 = .ok (.getfield 9, 3) := by decide +kernel
theorem dX1_definedAt_16 : decode cX1_definedAt 16 = .ok (.aload_n 0, 1) := by decide +kernel
theorem dX1_definedAt_17 : decode cX1_definedAt 17 = .ok (.getfield 18, 3) := by decide +kernel
theorem dX1_definedAt_20 : decode cX1_definedAt 20 = .ok (.iload_n 1, 1) := by decide +kernel
theorem dX1_definedAt_21 : decode cX1_definedAt 21 = .ok (.iload_n 2, 1) := by decide +kernel
theorem dX1_definedAt_22 : decode cX1_definedAt 22 = .ok (.invokevirtual 63, 3) := by decide +kernel
theorem dX1_definedAt_25 : decode cX1_definedAt 25 = .ok (.iaload, 1) := by decide +kernel
theorem dX1_definedAt_26 : decode cX1_definedAt 26 = .ok (.ireturn, 1) := by decide +kernel
theorem dX1_definedAt_27 : decode cX1_definedAt 27 = .ok (.aload_n 0, 1) := by decide +kernel
theorem dX1_definedAt_28 : decode cX1_definedAt 28 = .ok (.getfield 18, 3) := by decide +kernel
theorem dX1_definedAt_31 : decode cX1_definedAt 31 = .ok (.iload_n 1, 1) := by decide +kernel
theorem dX1_definedAt_32 : decode cX1_definedAt 32 = .ok (.iload_n 2, 1) := by decide +kernel
theorem dX1_definedAt_33 : decode cX1_definedAt 33 = .ok (.invokevirtual 66, 3) := by decide +kernel
theorem dX1_definedAt_36 : decode cX1_definedAt 36 = .ok (.ireturn, 1) := by decide +kernel
theorem dX2_init_0 : decode cX2_init 0 = .ok (.aload_n 0, 1) := by decide +kernel
theorem dX2_init_1 : decode cX2_init 1 = .ok (.invokespecial 3, 3) := by decide +kernel
theorem dX2_init_4 : decode cX2_init 4 = .ok (.aload_n 0, 1) := by decide +kernel
theorem dX2_init_5 : decode cX2_init 5 = .ok (.bipush 8, 2) := by decide +kernel
theorem dX2_init_7 : decode cX2_init 7 = .ok (.newarray .int, 2) := by decide +kernel
theorem dX2_init_9 : decode cX2_init 9 = .ok (.putfield 9, 3) := by decide +kernel
theorem dX2_init_12 : decode cX2_init 12 = .ok (.aload_n 0, 1) := by decide +kernel
theorem dX2_init_13 : decode cX2_init 13 = .ok (.bipush 8, 2) := by decide +kernel
theorem dX2_init_15 : decode cX2_init 15 = .ok (.newarray .int, 2) := by decide +kernel
theorem dX2_init_17 : decode cX2_init 17 = .ok (.putfield 15, 3) := by decide +kernel
theorem dX2_init_20 : decode cX2_init 20 = .ok (.aload_n 0, 1) := by decide +kernel
theorem dX2_init_21 : decode cX2_init 21 = .ok (.aload_n 1, 1) := by decide +kernel
theorem dX2_init_22 : decode cX2_init 22 = .ok (.putfield 18, 3) := by decide +kernel
theorem dX2_init_25 : decode cX2_init 25 = .ok (.return_, 1) := by decide +kernel
theorem dX2_infer_0 : decode cX2_infer 0 = .ok (.iconst 0, 1) := by decide +kernel
theorem dX2_infer_1 : decode cX2_infer 1 = .ok (.istore_n 1, 1) := by decide +kernel
theorem dX2_infer_2 : decode cX2_infer 2 = .ok (.iload_n 1, 1) := by decide +kernel
theorem dX2_infer_3 : decode cX2_infer 3 = .ok (.bipush 8, 2) := by decide +kernel
theorem dX2_infer_5 : decode cX2_infer 5 = .ok (.if_icmp .ge 14, 3) := by decide +kernel
theorem dX2_infer_8 : decode cX2_infer 8 = .ok (.aload_n 0, 1) := by decide +kernel
theorem dX2_infer_9 : decode cX2_infer 9 = .ok (.iload_n 1, 1) := by decide +kernel
theorem dX2_infer_10 : decode cX2_infer 10 = .ok (.invokevirtual 22, 3) := by decide +kernel
theorem dX2_infer_13 : decode cX2_infer 13 = .ok (.iinc 1 1, 3) := by decide +kernel
theorem dX2_infer_16 : decode cX2_infer 16 = .ok (.goto (-14), 3) := by decide +kernel
theorem dX2_infer_19 : decode cX2_infer 19 = .ok (.return_, 1) := by decide +kernel
theorem dX2_follow_0 : decode cX2_follow 0 = .ok (.iconst 1, 1) := by decide +kernel
theorem dX2_follow_1 : decode cX2_follow 1 = .ok (.aload_n 0, 1) := by decide +kernel
theorem dX2_follow_2 : decode cX2_follow 2 = .ok (.getfield 18, 3) := by decide +kernel
theorem dX2_follow_5 : decode cX2_follow 5 = .ok (.iload_n 1, 1) := by decide +kernel
theorem dX2_follow_6 : decode cX2_follow 6 = .ok (.invokevirtual 26, 3) := by decide +kernel
theorem dX2_follow_9 : decode cX2_follow 9 = .ok (.ishl, 1) := by decide +kernel
theorem dX2_follow_10 : decode cX2_follow 10 = .ok (.istore_n 2, 1) := by decide +kernel
theorem dX2_follow_11 : decode cX2_follow 11 = .ok (.iconst 0, 1) := by decide +kernel
theorem dX2_follow_12 : decode cX2_follow 12 = .ok (.istore_n 3, 1) := by decide +kernel
theorem dX2_follow_13 : decode cX2_follow 13 = .ok (.iconst 0, 1) := by decide +kernel
theorem dX2_follow_14 : decode cX2_follow 14 = .ok (.istore 4, 2) := by decide +kernel
theorem dX2_follow_16 : decode cX2_follow 16 = .ok (.iload 4, 2) := by decide +kernel
theorem dX2_follow_18 : decode cX2_follow 18 = .ok (.aload_n 0, 1) := by decide +kernel
theorem dX2_follow_19 : decode cX2_follow 19 = .ok (.getfield 18, 3) := by decide +kernel
theorem dX2_follow_22 : decode cX2_follow 22 = .ok (.getfield 32, 3) := by decide +kernel
theorem dX2_follow_25 : decode cX2_follow 25 = .ok (.iload_n 1, 1) := by decide +kernel
theorem dX2_follow_26 : decode cX2_follow 26 = .ok (.iaload, 1) := by decide +kernel
theorem dX2_follow_27 : decode cX2_follow 27 = .ok (.if_icmp .ge 78, 3) := by decide +kernel
theorem dX2_follow_30 : decode cX2_follow 30 = .ok (.iload_n 2, 1) := by decide +kernel
theorem dX2_follow_31 : decode cX2_follow 31 = .ok (.iload 4, 2) := by decide +kernel
theorem dX2_follow_33 : decode cX2_follow 33 = .ok (.invokestatic 35, 3) := by decide +kernel
theorem dX2_follow_36 : decode cX2_follow 36 = .ok (.ifCond .eq 63, 3) := by decide +kernel
theorem dX2_follow_39 : decode cX2_follow 39 = .ok (.iload_n 2, 1) := by decide +kernel
theorem dX2_follow_40 : decode cX2_follow 40 = .ok (.iconst 1, 1) := by decide +kernel
theorem dX2_follow_41 : decode cX2_follow 41 = .ok (.aload_n 0, 1) := by decide +kernel
theorem dX2_follow_42 : decode cX2_follow 42 = .ok (.getfield 18, 3) := by decide +kernel
theorem dX2_follow_45 : decode cX2_follow 45 = .ok (.iload_n 1, 1) := by decide +kernel
theorem dX2_follow_46 : decode cX2_follow 46 = .ok (.iload 4, 2) := by decide +kernel
theorem dX2_follow_48 : decode cX2_follow 48 = .ok (.invokevirtual 39, 3) := by decide +kernel
theorem dX2_follow_51 : decode cX2_follow 51 = .ok (.ishl, 1) := by decide +kernel
theorem dX2_follow_52 : decode cX2_follow 52 = .ok (.iconst 1, 1) := by decide +kernel
theorem dX2_follow_53 : decode cX2_follow 53 = .ok (.aload_n 0, 1) := by decide +kernel
theorem dX2_follow_54 : decode cX2_follow 54 = .ok (.getfield 18, 3) := by decide +kernel
theorem dX2_follow_57 : decode cX2_follow 57 = .ok (.iload_n 1, 1) := by decide +kernel
theorem dX2_follow_58 : decode cX2_follow 58 = .ok (.iload 4, 2) := by decide +kernel
theorem dX2_follow_60 : decode cX2_follow 60 = .ok (.invokevirtual 43, 3) := by decide +kernel
theorem dX2_follow_63 : decode cX2_follow 63 = .ok (.ishl, 1) := by decide +kernel
theorem dX2_follow_64 : decode cX2_follow 64 = .ok (.ior, 1) := by decide +kernel
theorem dX2_follow_65 : decode cX2_follow 65 = .ok (.ior, 1) := by decide +kernel
theorem dX2_follow_66 : decode cX2_follow 66 = .ok (.istore_n 2, 1) := by decide +kernel
theorem dX2_follow_67 : decode cX2_follow 67 = .ok (.iload_n 3, 1) := by decide +kernel
theorem dX2_follow_68 : decode cX2_follow 68 = .ok (.aload_n 0, 1) := by decide +kernel
theorem dX2_follow_69 : decode cX2_follow 69 = .ok (.getfield 18, 3) := by decide +kernel
theorem dX2_follow_72 : decode cX2_follow 72 = .ok (.iload_n 1, 1) := by decide +kernel
theorem dX2_follow_73 : decode cX2_follow 73 = .ok (.iload 4, 2) := by decide +kernel
theorem dX2_follow_75 : decode cX2_follow 75 = .ok (.invokevirtual 46, 3) := by decide +kernel
theorem dX2_follow_78 : decode cX2_follow 78 = .ok (.ifCond .eq 18, 3) := by decide +kernel
theorem dX2_follow_81 : decode cX2_follow 81 = .ok (.iconst 1, 1) := by decide +kernel
theorem dX2_follow_82 : decode cX2_follow 82 = .ok (.aload_n 0, 1) := by decide +kernel
theorem dX2_follow_83 : decode cX2_follow 83 = .ok (.getfield 18, 3) := by decide +kernel
theorem dX2_follow_86 : decode cX2_follow 86 = .ok (.iload_n 1, 1) := by decide +kernel
theorem dX2_follow_87 : decode cX2_follow 87 = .ok (.iload 4, 2) := by decide +kernel
theorem dX2_follow_89 : decode cX2_follow 89 = .ok (.invokevirtual 49, 3) := by decide +kernel
theorem dX2_follow_92 : decode cX2_follow 92 = .ok (.ishl, 1) := by decide +kernel
theorem dX2_follow_93 : decode cX2_follow 93 = .ok (.goto 4, 3) := by decide +kernel
theorem dX2_follow_96 : decode cX2_follow 96 = .ok (.iconst 0, 1) := by decide +kernel
theorem dX2_follow_97 : decode cX2_follow 97 = .ok (.ior, 1) := by decide +kernel
theorem dX2_follow_98 : decode cX2_follow 98 = .ok (.istore_n 3, 1) := by decide +kernel
theorem dX2_follow_99 : decode cX2_follow 99 = .ok (.iinc 4 1, 3) := by decide +kernel
theorem dX2_follow_102 : decode cX2_follow 102 = .ok (.goto (-86), 3) := by decide +kernel
theorem dX2_follow_105 : decode cX2_follow 105 = .ok (.aload_n 0, 1) := by decide +kernel
theorem dX2_follow_106 : decode cX2_follow 106 = .ok (.getfield 9, 3) := by decide +kernel
theorem dX2_follow_109 : decode cX2_follow 109 = .ok (.iload_n 1, 1) := by decide +kernel
theorem dX2_follow_110 : decode cX2_follow 110 = .ok (.iload_n 2, 1) := by decide +kernel
theorem dX2_follow_111 : decode cX2_follow 111 = .ok (.iastore, 1) := by decide +kernel
theorem dX2_follow_112 : decode cX2_follow 112 = .ok (.aload_n 0, 1) := by decide +kernel
theorem dX2_follow_113 : decode cX2_follow 113 = .ok (.getfield 15, 3) := by decide +kernel
theorem dX2_follow_116 : decode cX2_follow 116 = .ok (.iload_n 1, 1) := by decide +kernel
theorem dX2_follow_117 : decode cX2_follow 117 = .ok (.iload_n 3, 1) := by decide +kernel
theorem dX2_follow_118 : decode cX2_follow 118 = .ok (.iastore, 1) := by decide +kernel
theorem dX2_follow_119 : decode cX2_follow 119 = .ok (.return_, 1) := by decide +kernel
theorem dX2_reaches_0 : decode cX2_reaches 0 = .ok (.aload_n 0, 1) := by decide +kernel
theorem dX2_reaches_1 : decode cX2_reaches 1 = .ok (.getfield 9, 3) := by decide +kernel
theorem dX2_reaches_4 : decode cX2_reaches 4 = .ok (.iload_n 1, 1) := by decide +kernel
theorem dX2_reaches_5 : decode cX2_reaches 5 = .ok (.iaload, 1) := by decide +kernel
theorem dX2_reaches_6 : decode cX2_reaches 6 = .ok (.iload_n 2, 1) := by decide +kernel
theorem dX2_reaches_7 : decode cX2_reaches 7 = .ok (.invokestatic 35, 3) := by decide +kernel
theorem dX2_reaches_10 : decode cX2_reaches 10 = .ok (.ireturn, 1) := by decide +kernel
theorem dX2_callers_0 : decode cX2_callers 0 = .ok (.iconst 0, 1) := by decide +kernel
theorem dX2_callers_1 : decode cX2_callers 1 = .ok (.istore_n 2, 1) := by decide +kernel
theorem dX2_callers_2 : decode cX2_callers 2 = .ok (.iconst 0, 1) := by decide +kernel
theorem dX2_callers_3 : decode cX2_callers 3 = .ok (.istore_n 3, 1) := by decide +kernel
theorem dX2_callers_4 : decode cX2_callers 4 = .ok (.iload_n 3, 1) := by decide +kernel
theorem dX2_callers_5 : decode cX2_callers 5 = .ok (.bipush 8, 2) := by decide +kernel
theorem dX2_callers_7 : decode cX2_callers 7 = .ok (.if_icmp .ge 28, 3) := by decide +kernel
theorem dX2_callers_10 : decode cX2_callers 10 = .ok (.aload_n 0, 1) := by decide +kernel
theorem dX2_callers_11 : decode cX2_callers 11 = .ok (.getfield 15, 3) := by decide +kernel
theorem dX2_callers_14 : decode cX2_callers 14 = .ok (.iload_n 3, 1) := by decide +kernel
theorem dX2_callers_15 : decode cX2_callers 15 = .ok (.iaload, 1) := by decide +kernel
theorem dX2_callers_16 : decode cX2_callers 16 = .ok (.iload_n 1, 1) := by decide +kernel
theorem dX2_callers_17 : decode cX2_callers 17 = .ok (.invokestatic 35, 3) := by decide +kernel
theorem dX2_callers_20 : decode cX2_callers 20 = .ok (.ifCond .eq 9, 3) := by decide +kernel
theorem dX2_callers_23 : decode cX2_callers 23 = .ok (.iload_n 2, 1) := by decide +kernel
theorem dX2_callers_24 : decode cX2_callers 24 = .ok (.iconst 1, 1) := by decide +kernel
theorem dX2_callers_25 : decode cX2_callers 25 = .ok (.iload_n 3, 1) := by decide +kernel
theorem dX2_callers_26 : decode cX2_callers 26 = .ok (.ishl, 1) := by decide +kernel
theorem dX2_callers_27 : decode cX2_callers 27 = .ok (.ior, 1) := by decide +kernel
theorem dX2_callers_28 : decode cX2_callers 28 = .ok (.istore_n 2, 1) := by decide +kernel
theorem dX2_callers_29 : decode cX2_callers 29 = .ok (.iinc 3 1, 3) := by decide +kernel
theorem dX2_callers_32 : decode cX2_callers 32 = .ok (.goto (-28), 3) := by decide +kernel
theorem dX2_callers_35 : decode cX2_callers 35 = .ok (.iload_n 2, 1) := by decide +kernel
theorem dX2_callers_36 : decode cX2_callers 36 = .ok (.ireturn, 1) := by decide +kernel
theorem dX2_calledInAll_0 : decode cX2_calledInAll 0 = .ok (.aload_n 0, 1) := by decide +kernel
theorem dX2_calledInAll_1 : decode cX2_calledInAll 1 = .ok (.getfield 15, 3) := by decide +kernel
theorem dX2_calledInAll_4 : decode cX2_calledInAll 4 = .ok (.iload_n 1, 1) := by decide +kernel
theorem dX2_calledInAll_5 : decode cX2_calledInAll 5 = .ok (.iaload, 1) := by decide +kernel
theorem dX2_calledInAll_6 : decode cX2_calledInAll 6 = .ok (.istore_n 2, 1) := by decide +kernel
theorem dX2_calledInAll_7 : decode cX2_calledInAll 7 = .ok (.iconst 1, 1) := by decide +kernel
theorem dX2_calledInAll_8 : decode cX2_calledInAll 8 = .ok (.istore_n 3, 1) := by decide +kernel
theorem dX2_calledInAll_9 : decode cX2_calledInAll 9 = .ok (.iload_n 3, 1) := by decide +kernel
theorem dX2_calledInAll_10 : decode cX2_calledInAll 10 = .ok (.bipush 8, 2) := by decide +kernel
theorem dX2_calledInAll_12 : decode cX2_calledInAll 12 = .ok (.if_icmp .ge 56, 3) := by decide +kernel
theorem dX2_calledInAll_15 : decode cX2_calledInAll 15 = .ok (.iload_n 2, 1) := by decide +kernel
theorem dX2_calledInAll_16 : decode cX2_calledInAll 16 = .ok (.istore 4, 2) := by decide +kernel
theorem dX2_calledInAll_18 : decode cX2_calledInAll 18 = .ok (.iconst 0, 1) := by decide +kernel
theorem dX2_calledInAll_19 : decode cX2_calledInAll 19 = .ok (.istore 5, 2) := by decide +kernel
theorem dX2_calledInAll_21 : decode cX2_calledInAll 21 = .ok (.iload 5, 2) := by decide +kernel
theorem dX2_calledInAll_23 : decode cX2_calledInAll 23 = .ok (.bipush 8, 2) := by decide +kernel
theorem dX2_calledInAll_25 : decode cX2_calledInAll 25 = .ok (.if_icmp .ge 34, 3) := by decide +kernel
theorem dX2_calledInAll_28 : decode cX2_calledInAll 28 = .ok (.iload 4, 2) := by decide +kernel
theorem dX2_calledInAll_30 : decode cX2_calledInAll 30 = .ok (.iload_n 2, 1) := by decide +kernel
theorem dX2_calledInAll_31 : decode cX2_calledInAll 31 = .ok (.iload 5, 2) := by decide +kernel
theorem dX2_calledInAll_33 : decode cX2_calledInAll 33 = .ok (.invokestatic 35, 3) := by decide +kernel
theorem dX2_calledInAll_36 : decode cX2_calledInAll 36 = .ok (.ifCond .eq 13, 3) := by decide +kernel
theorem dX2_calledInAll_39 : decode cX2_calledInAll 39 = .ok (.aload_n 0, 1) := by decide +kernel
theorem dX2_calledInAll_40 : decode cX2_calledInAll 40 = .ok (.getfield 15, 3) := by decide +kernel
theorem dX2_calledInAll_43 : decode cX2_calledInAll 43 = .ok (.iload 5, 2) := by decide +kernel
theorem dX2_calledInAll_45 : decode cX2_calledInAll 45 = .ok (.iaload, 1) := by decide +kernel
theorem dX2_calledInAll_46 : decode cX2_calledInAll 46 = .ok (.goto 4, 3) := by decide +kernel
theorem dX2_calledInAll_49 : decode cX2_calledInAll 49 = .ok (.iconst 0, 1) := by decide +kernel
theorem dX2_calledInAll_50 : decode cX2_calledInAll 50 = .ok (.ior, 1) := by decide +kernel
theorem dX2_calledInAll_51 : decode cX2_calledInAll 51 = .ok (.istore 4, 2) := by decide +kernel
theorem dX2_calledInAll_53 : decode cX2_calledInAll 53 = .ok (.iinc 5 1, 3) := by decide +kernel
theorem dX2_calledInAll_56 : decode cX2_calledInAll 56 = .ok (.goto (-35), 3) := by decide +kernel
theorem dX2_calledInAll_59 : decode cX2_calledInAll 59 = .ok (.iload 4, 2) := by decide +kernel
theorem dX2_calledInAll_61 : decode cX2_calledInAll 61 = .ok (.istore_n 2, 1) := by decide +kernel
theorem dX2_calledInAll_62 : decode cX2_calledInAll 62 = .ok (.iinc 3 1, 3) := by decide +kernel
theorem dX2_calledInAll_65 : decode cX2_calledInAll 65 = .ok (.goto (-56), 3) := by decide +kernel
theorem dX2_calledInAll_68 : decode cX2_calledInAll 68 = .ok (.iload_n 2, 1) := by decide +kernel
theorem dX2_calledInAll_69 : decode cX2_calledInAll 69 = .ok (.ireturn, 1) := by decide +kernel
theorem dX3_init_0 : decode cX3_init 0 = .ok (.aload_n 0, 1) := by decide +kernel
theorem dX3_init_1 : decode cX3_init 1 = .ok (.invokespecial 3, 3) := by decide +kernel
theorem dX3_init_4 : decode cX3_init 4 = .ok (.aload_n 0, 1) := by decide +kernel
theorem dX3_init_5 : decode cX3_init 5 = .ok (.bipush 120, 2) := by decide +kernel
theorem dX3_init_7 : decode cX3_init 7 = .ok (.newarray .int, 2) := by decide +kernel
theorem dX3_init_9 : decode cX3_init 9 = .ok (.putfield 9, 3) := by decide +kernel
theorem dX3_init_12 : decode cX3_init 12 = .ok (.aload_n 0, 1) := by decide +kernel
theorem dX3_init_13 : decode cX3_init 13 = .ok (.bipush 8, 2) := by decide +kernel
theorem dX3_init_15 : decode cX3_init 15 = .ok (.newarray .int, 2) := by decide +kernel
theorem dX3_init_17 : decode cX3_init 17 = .ok (.putfield 15, 3) := by decide +kernel
theorem dX3_init_20 : decode cX3_init 20 = .ok (.aload_n 0, 1) := by decide +kernel
theorem dX3_init_21 : decode cX3_init 21 = .ok (.bipush 8, 2) := by decide +kernel
theorem dX3_init_23 : decode cX3_init 23 = .ok (.newarray .int, 2) := by decide +kernel
theorem dX3_init_25 : decode cX3_init 25 = .ok (.putfield 18, 3) := by decide +kernel
theorem dX3_init_28 : decode cX3_init 28 = .ok (.aload_n 0, 1) := by decide +kernel
theorem dX3_init_29 : decode cX3_init 29 = .ok (.aload_n 1, 1) := by decide +kernel
theorem dX3_init_30 : decode cX3_init 30 = .ok (.putfield 21, 3) := by decide +kernel
theorem dX3_init_33 : decode cX3_init 33 = .ok (.aload_n 0, 1) := by decide +kernel
theorem dX3_init_34 : decode cX3_init 34 = .ok (.aload_n 2, 1) := by decide +kernel
theorem dX3_init_35 : decode cX3_init 35 = .ok (.putfield 25, 3) := by decide +kernel
theorem dX3_init_38 : decode cX3_init 38 = .ok (.aload_n 0, 1) := by decide +kernel
theorem dX3_init_39 : decode cX3_init 39 = .ok (.aload_n 3, 1) := by decide +kernel
theorem dX3_init_40 : decode cX3_init 40 = .ok (.putfield 29, 3) := by decide +kernel
theorem dX3_init_43 : decode cX3_init 43 = .ok (.aload_n 0, 1) := by decide +kernel
theorem dX3_init_44 : decode cX3_init 44 = .ok (.aload 4, 2) := by decide +kernel
theorem dX3_init_46 : decode cX3_init 46 = .ok (.putfield 33, 3) := by decide +kernel
theorem dX3_init_49 : decode cX3_init 49 = .ok (.return_, 1) := by decide +kernel
theorem dX3_before_0 : decode cX3_before 0 = .ok (.aload_n 0, 1) := by decide +kernel
theorem dX3_before_1 : decode cX3_before 1 = .ok (.getfield 9, 3) := by decide +kernel
theorem dX3_before_4 : decode cX3_before 4 = .ok (.iload_n 1, 1) := by decide +kernel
theorem dX3_before_5 : decode cX3_before 5 = .ok (.bipush 15, 2) := by decide +kernel
theorem dX3_before_7 : decode cX3_before 7 = .ok (.imul, 1) := by decide +kernel
theorem dX3_before_8 : decode cX3_before 8 = .ok (.iload_n 2, 1) := by decide +kernel
theorem dX3_before_9 : decode cX3_before 9 = .ok (.iadd, 1) := by decide +kernel
theorem dX3_before_10 : decode cX3_before 10 = .ok (.iaload, 1) := by decide +kernel
theorem dX3_before_11 : decode cX3_before 11 = .ok (.ireturn, 1) := by decide +kernel
theorem dX3_behind_0 : decode cX3_behind 0 = .ok (.aload_n 0, 1) := by decide +kernel
theorem dX3_behind_1 : decode cX3_behind 1 = .ok (.iload_n 1, 1) := by decide +kernel
theorem dX3_behind_2 : decode cX3_behind 2 = .ok (.aload_n 0, 1) := by decide +kernel
theorem dX3_behind_3 : decode cX3_behind 3 = .ok (.getfield 21, 3) := by decide +kernel
theorem dX3_behind_6 : decode cX3_behind 6 = .ok (.iload_n 1, 1) := by decide +kernel
theorem dX3_behind_7 : decode cX3_behind 7 = .ok (.iload_n 2, 1) := by decide +kernel
theorem dX3_behind_8 : decode cX3_behind 8 = .ok (.invokevirtual 37, 3) := by decide +kernel
theorem dX3_behind_11 : decode cX3_behind 11 = .ok (.invokevirtual 43, 3) := by decide +kernel
theorem dX3_behind_14 : decode cX3_behind 14 = .ok (.aload_n 0, 1) := by decide +kernel
theorem dX3_behind_15 : decode cX3_behind 15 = .ok (.iload_n 1, 1) := by decide +kernel
theorem dX3_behind_16 : decode cX3_behind 16 = .ok (.aload_n 0, 1) := by decide +kernel
theorem dX3_behind_17 : decode cX3_behind 17 = .ok (.getfield 21, 3) := by decide +kernel
theorem dX3_behind_20 : decode cX3_behind 20 = .ok (.iload_n 1, 1) := by decide +kernel
theorem dX3_behind_21 : decode cX3_behind 21 = .ok (.iload_n 2, 1) := by decide +kernel
theorem dX3_behind_22 : decode cX3_behind 22 = .ok (.invokevirtual 46, 3) := by decide +kernel
theorem dX3_behind_25 : decode cX3_behind 25 = .ok (.invokevirtual 43, 3) := by decide +kernel
theorem dX3_behind_28 : decode cX3_behind 28 = .ok (.ior, 1) := by decide +kernel
theorem dX3_behind_29 : decode cX3_behind 29 = .ok (.ireturn, 1) := by decide +kernel
theorem dX3_infer_0 : decode cX3_infer 0 = .ok (.aload_n 0, 1) := by decide +kernel
theorem dX3_infer_1 : decode cX3_infer 1 = .ok (.getfield 9, 3) := by decide +kernel
theorem dX3_infer_4 : decode cX3_infer 4 = .ok (.iconst 0, 1) := by decide +kernel
theorem dX3_infer_5 : decode cX3_infer 5 = .ok (.invokestatic 49, 3) := by decide +kernel
theorem dX3_infer_8 : decode cX3_infer 8 = .ok (.aload_n 0, 1) := by decide +kernel
theorem dX3_infer_9 : decode cX3_infer 9 = .ok (.getfield 15, 3) := by decide +kernel
theorem dX3_infer_12 : decode cX3_infer 12 = .ok (.iconst 0, 1) := by decide +kernel
theorem dX3_infer_13 : decode cX3_infer 13 = .ok (.invokestatic 49, 3) := by decide +kernel
theorem dX3_infer_16 : decode cX3_infer 16 = .ok (.aload_n 0, 1) := by decide +kernel
theorem dX3_infer_17 : decode cX3_infer 17 = .ok (.getfield 18, 3) := by decide +kernel
theorem dX3_infer_20 : decode cX3_infer 20 = .ok (.iconst 0, 1) := by decide +kernel
theorem dX3_infer_21 : decode cX3_infer 21 = .ok (.invokestatic 49, 3) := by decide +kernel
theorem dX3_infer_24 : decode cX3_infer 24 = .ok (.iconst 1, 1) := by decide +kernel
theorem dX3_infer_25 : decode cX3_infer 25 = .ok (.istore_n 1, 1) := by decide +kernel
theorem dX3_infer_26 : decode cX3_infer 26 = .ok (.iconst 0, 1) := by decide +kernel
theorem dX3_infer_27 : decode cX3_infer 27 = .ok (.istore_n 2, 1) := by decide +kernel
theorem dX3_infer_28 : decode cX3_infer 28 = .ok (.iload_n 1, 1) := by decide +kernel
theorem dX3_infer_29 : decode cX3_infer 29 = .ok (.ifCond .eq 42, 3) := by decide +kernel
theorem dX3_infer_32 : decode cX3_infer 32 = .ok (.iload_n 2, 1) := by decide +kernel
theorem dX3_infer_33 : decode cX3_infer 33 = .ok (.sipush 128, 3) := by decide +kernel
theorem dX3_infer_36 : decode cX3_infer 36 = .ok (.if_icmp .gt 35, 3) := by decide +kernel
theorem dX3_infer_39 : decode cX3_infer 39 = .ok (.iconst 0, 1) := by decide +kernel
theorem dX3_infer_40 : decode cX3_infer 40 = .ok (.istore_n 1, 1) := by decide +kernel
theorem dX3_infer_41 : decode cX3_infer 41 = .ok (.iconst 0, 1) := by decide +kernel
theorem dX3_infer_42 : decode cX3_infer 42 = .ok (.istore_n 3, 1) := by decide +kernel
theorem dX3_infer_43 : decode cX3_infer 43 = .ok (.iload_n 3, 1) := by decide +kernel
theorem dX3_infer_44 : decode cX3_infer 44 = .ok (.bipush 8, 2) := by decide +kernel
theorem dX3_infer_46 : decode cX3_infer 46 = .ok (.if_icmp .ge 19, 3) := by decide +kernel
theorem dX3_infer_49 : decode cX3_infer 49 = .ok (.aload_n 0, 1) := by decide +kernel
theorem dX3_infer_50 : decode cX3_infer 50 = .ok (.iload_n 3, 1) := by decide +kernel
theorem dX3_infer_51 : decode cX3_infer 51 = .ok (.invokevirtual 55, 3) := by decide +kernel
theorem dX3_infer_54 : decode cX3_infer 54 = .ok (.ifCond .eq 5, 3) := by decide +kernel
theorem dX3_infer_57 : decode cX3_infer 57 = .ok (.iconst 1, 1) := by decide +kernel
theorem dX3_infer_58 : decode cX3_infer 58 = .ok (.istore_n 1, 1) := by decide +kernel
theorem dX3_infer_59 : decode cX3_infer 59 = .ok (.iinc 3 1, 3) := by decide +kernel
theorem dX3_infer_62 : decode cX3_infer 62 = .ok (.goto (-19), 3) := by decide +kernel
theorem dX3_infer_65 : decode cX3_infer 65 = .ok (.iinc 2 1, 3) := by decide +kernel
theorem dX3_infer_68 : decode cX3_infer 68 = .ok (.goto (-40), 3) := by decide +kernel
theorem dX3_infer_71 : decode cX3_infer 71 = .ok (.return_, 1) := by decide +kernel
theorem dX3_trace_0 : decode cX3_trace 0 = .ok (.iconst 0, 1) := by decide +kernel
theorem dX3_trace_1 : decode cX3_trace 1 = .ok (.istore_n 2, 1) := by decide +kernel
theorem dX3_trace_2 : decode cX3_trace 2 = .ok (.aload_n 0, 1) := by decide +kernel
theorem dX3_trace_3 : decode cX3_trace 3 = .ok (.getfield 9, 3) := by decide +kernel
theorem dX3_trace_6 : decode cX3_trace 6 = .ok (.iload_n 1, 1) := by decide +kernel
theorem dX3_trace_7 : decode cX3_trace 7 = .ok (.bipush 15, 2) := by decide +kernel
theorem dX3_trace_9 : decode cX3_trace 9 = .ok (.imul, 1) := by decide +kernel
theorem dX3_trace_10 : decode cX3_trace 10 = .ok (.bipush 14, 2) := by decide +kernel
theorem dX3_trace_12 : decode cX3_trace 12 = .ok (.iadd, 1) := by decide +kernel
theorem dX3_trace_13 : decode cX3_trace 13 = .ok (.aload_n 0, 1) := by decide +kernel
theorem dX3_trace_14 : decode cX3_trace 14 = .ok (.getfield 18, 3) := by decide +kernel
theorem dX3_trace_17 : decode cX3_trace 17 = .ok (.iload_n 1, 1) := by decide +kernel
theorem dX3_trace_18 : decode cX3_trace 18 = .ok (.iaload, 1) := by decide +kernel
theorem dX3_trace_19 : decode cX3_trace 19 = .ok (.iastore, 1) := by decide +kernel
theorem dX3_trace_20 : decode cX3_trace 20 = .ok (.aload_n 0, 1) := by decide +kernel
theorem dX3_trace_21 : decode cX3_trace 21 = .ok (.getfield 21, 3) := by decide +kernel
theorem dX3_trace_24 : decode cX3_trace 24 = .ok (.getfield 59, 3) := by decide +kernel
theorem dX3_trace_27 : decode cX3_trace 27 = .ok (.iload_n 1, 1) := by decide +kernel
theorem dX3_trace_28 : decode cX3_trace 28 = .ok (.iaload, 1) := by decide +kernel
theorem dX3_trace_29 : decode cX3_trace 29 = .ok (.iconst 1, 1) := by decide +kernel
theorem dX3_trace_30 : decode cX3_trace 30 = .ok (.isub, 1) := by decide +kernel
theorem dX3_trace_31 : decode cX3_trace 31 = .ok (.istore_n 3, 1) := by decide +kernel
theorem dX3_trace_32 : decode cX3_trace 32 = .ok (.iload_n 3, 1) := by decide +kernel
theorem dX3_trace_33 : decode cX3_trace 33 = .ok (.ifCond .lt 90, 3) := by decide +kernel
theorem dX3_trace_36 : decode cX3_trace 36 = .ok (.aload_n 0, 1) := by decide +kernel
theorem dX3_trace_37 : decode cX3_trace 37 = .ok (.getfield 25, 3) := by decide +kernel
theorem dX3_trace_40 : decode cX3_trace 40 = .ok (.iload_n 1, 1) := by decide +kernel
theorem dX3_trace_41 : decode cX3_trace 41 = .ok (.iload_n 3, 1) := by decide +kernel
theorem dX3_trace_42 : decode cX3_trace 42 = .ok (.invokevirtual 62, 3) := by decide +kernel
theorem dX3_trace_45 : decode cX3_trace 45 = .ok (.ifCond .eq 72, 3) := by decide +kernel
theorem dX3_trace_48 : decode cX3_trace 48 = .ok (.aload_n 0, 1) := by decide +kernel
theorem dX3_trace_49 : decode cX3_trace 49 = .ok (.iload_n 1, 1) := by decide +kernel
theorem dX3_trace_50 : decode cX3_trace 50 = .ok (.iload_n 3, 1) := by decide +kernel
theorem dX3_trace_51 : decode cX3_trace 51 = .ok (.invokevirtual 68, 3) := by decide +kernel
theorem dX3_trace_54 : decode cX3_trace 54 = .ok (.istore 4, 2) := by decide +kernel
theorem dX3_trace_56 : decode cX3_trace 56 = .ok (.aload_n 0, 1) := by decide +kernel
theorem dX3_trace_57 : decode cX3_trace 57 = .ok (.getfield 21, 3) := by decide +kernel
theorem dX3_trace_60 : decode cX3_trace 60 = .ok (.iload_n 1, 1) := by decide +kernel
theorem dX3_trace_61 : decode cX3_trace 61 = .ok (.iload_n 3, 1) := by decide +kernel
theorem dX3_trace_62 : decode cX3_trace 62 = .ok (.invokevirtual 71, 3) := by decide +kernel
theorem dX3_trace_65 : decode cX3_trace 65 = .ok (.ifCond .eq 23, 3) := by decide +kernel
theorem dX3_trace_68 : decode cX3_trace 68 = .ok (.aload_n 0, 1) := by decide +kernel
theorem dX3_trace_69 : decode cX3_trace 69 = .ok (.aload_n 0, 1) := by decide +kernel
theorem dX3_trace_70 : decode cX3_trace 70 = .ok (.getfield 21, 3) := by decide +kernel
theorem dX3_trace_73 : decode cX3_trace 73 = .ok (.iload_n 1, 1) := by decide +kernel
theorem dX3_trace_74 : decode cX3_trace 74 = .ok (.iload_n 3, 1) := by decide +kernel
theorem dX3_trace_75 : decode cX3_trace 75 = .ok (.invokevirtual 74, 3) := by decide +kernel
theorem dX3_trace_78 : decode cX3_trace 78 = .ok (.iload 4, 2) := by decide +kernel
theorem dX3_trace_80 : decode cX3_trace 80 = .ok (.invokevirtual 77, 3) := by decide +kernel
theorem dX3_trace_83 : decode cX3_trace 83 = .ok (.ifCond .eq 5, 3) := by decide +kernel
theorem dX3_trace_86 : decode cX3_trace 86 = .ok (.iconst 1, 1) := by decide +kernel
theorem dX3_trace_87 : decode cX3_trace 87 = .ok (.istore_n 2, 1) := by decide +kernel
theorem dX3_trace_88 : decode cX3_trace 88 = .ok (.aload_n 0, 1) := by decide +kernel
theorem dX3_trace_89 : decode cX3_trace 89 = .ok (.getfield 9, 3) := by decide +kernel
theorem dX3_trace_92 : decode cX3_trace 92 = .ok (.iload_n 1, 1) := by decide +kernel
theorem dX3_trace_93 : decode cX3_trace 93 = .ok (.bipush 15, 2) := by decide +kernel
theorem dX3_trace_95 : decode cX3_trace 95 = .ok (.imul, 1) := by decide +kernel
theorem dX3_trace_96 : decode cX3_trace 96 = .ok (.iload_n 3, 1) := by decide +kernel
theorem dX3_trace_97 : decode cX3_trace 97 = .ok (.iadd, 1) := by decide +kernel
theorem dX3_trace_98 : decode cX3_trace 98 = .ok (.aload_n 0, 1) := by decide +kernel
theorem dX3_trace_99 : decode cX3_trace 99 = .ok (.iload_n 1, 1) := by decide +kernel
theorem dX3_trace_100 : decode cX3_trace 100 = .ok (.iload_n 3, 1) := by decide +kernel
theorem dX3_trace_101 : decode cX3_trace 101 = .ok (.invokevirtual 80, 3) := by decide +kernel
theorem dX3_trace_104 : decode cX3_trace 104 = .ok (.iload 4, 2) := by decide +kernel
theorem dX3_trace_106 : decode cX3_trace 106 = .ok (.aload_n 0, 1) := by decide +kernel
theorem dX3_trace_107 : decode cX3_trace 107 = .ok (.iload_n 1, 1) := by decide +kernel
theorem dX3_trace_108 : decode cX3_trace 108 = .ok (.iload_n 3, 1) := by decide +kernel
theorem dX3_trace_109 : decode cX3_trace 109 = .ok (.invokevirtual 83, 3) := by decide +kernel
theorem dX3_trace_112 : decode cX3_trace 112 = .ok (.iconst (-1), 1) := by decide +kernel
theorem dX3_trace_113 : decode cX3_trace 113 = .ok (.ixor, 1) := by decide +kernel
theorem dX3_trace_114 : decode cX3_trace 114 = .ok (.iand, 1) := by decide +kernel
theorem dX3_trace_115 : decode cX3_trace 115 = .ok (.ior, 1) := by decide +kernel
theorem dX3_trace_116 : decode cX3_trace 116 = .ok (.iastore, 1) := by decide +kernel
theorem dX3_trace_117 : decode cX3_trace 117 = .ok (.iinc 3 (-1), 3) := by decide +kernel
theorem dX3_trace_120 : decode cX3_trace 120 = .ok (.goto (-88), 3) := by decide +kernel
theorem dX3_trace_123 : decode cX3_trace 123 = .ok (.aload_n 0, 1) := by decide +kernel
theorem dX3_trace_124 : decode cX3_trace 124 = .ok (.iload_n 1, 1) := by decide +kernel
theorem dX3_trace_125 : decode cX3_trace 125 = .ok (.aload_n 0, 1) := by decide +kernel
theorem dX3_trace_126 : decode cX3_trace 126 = .ok (.getfield 21, 3) := by decide +kernel
theorem dX3_trace_129 : decode cX3_trace 129 = .ok (.iload_n 1, 1) := by decide +kernel
theorem dX3_trace_130 : decode cX3_trace 130 = .ok (.invokevirtual 86, 3) := by decide +kernel
theorem dX3_trace_133 : decode cX3_trace 133 = .ok (.invokevirtual 43, 3) := by decide +kernel
theorem dX3_trace_136 : decode cX3_trace 136 = .ok (.istore_n 3, 1) := by decide +kernel
theorem dX3_trace_137 : decode cX3_trace 137 = .ok (.iload_n 3, 1) := by decide +kernel
theorem dX3_trace_138 : decode cX3_trace 138 = .ok (.aload_n 0, 1) := by decide +kernel
theorem dX3_trace_139 : decode cX3_trace 139 = .ok (.getfield 15, 3) := by decide +kernel
theorem dX3_trace_142 : decode cX3_trace 142 = .ok (.iload_n 1, 1) := by decide +kernel
theorem dX3_trace_143 : decode cX3_trace 143 = .ok (.iaload, 1) := by decide +kernel
theorem dX3_trace_144 : decode cX3_trace 144 = .ok (.if_icmp .eq 12, 3) := by decide +kernel
theorem dX3_trace_147 : decode cX3_trace 147 = .ok (.aload_n 0, 1) := by decide +kernel
theorem dX3_trace_148 : decode cX3_trace 148 = .ok (.getfield 15, 3) := by decide +kernel
theorem dX3_trace_151 : decode cX3_trace 151 = .ok (.iload_n 1, 1) := by decide +kernel
theorem dX3_trace_152 : decode cX3_trace 152 = .ok (.iload_n 3, 1) := by decide +kernel
theorem dX3_trace_153 : decode cX3_trace 153 = .ok (.iastore, 1) := by decide +kernel
theorem dX3_trace_154 : decode cX3_trace 154 = .ok (.iconst 1, 1) := by decide +kernel
theorem dX3_trace_155 : decode cX3_trace 155 = .ok (.istore_n 2, 1) := by decide +kernel
theorem dX3_trace_156 : decode cX3_trace 156 = .ok (.iload_n 2, 1) := by decide +kernel
theorem dX3_trace_157 : decode cX3_trace 157 = .ok (.ireturn, 1) := by decide +kernel
theorem dX3_ask_0 : decode cX3_ask 0 = .ok (.aload_n 0, 1) := by decide +kernel
theorem dX3_ask_1 : decode cX3_ask 1 = .ok (.getfield 18, 3) := by decide +kernel
theorem dX3_ask_4 : decode cX3_ask 4 = .ok (.iload_n 1, 1) := by decide +kernel
theorem dX3_ask_5 : decode cX3_ask 5 = .ok (.iaload, 1) := by decide +kernel
theorem dX3_ask_6 : decode cX3_ask 6 = .ok (.iload_n 2, 1) := by decide +kernel
theorem dX3_ask_7 : decode cX3_ask 7 = .ok (.aload_n 0, 1) := by decide +kernel
theorem dX3_ask_8 : decode cX3_ask 8 = .ok (.getfield 29, 3) := by decide +kernel
theorem dX3_ask_11 : decode cX3_ask 11 = .ok (.iload_n 1, 1) := by decide +kernel
theorem dX3_ask_12 : decode cX3_ask 12 = .ok (.invokevirtual 90, 3) := by decide +kernel
theorem dX3_ask_15 : decode cX3_ask 15 = .ok (.iand, 1) := by decide +kernel
theorem dX3_ask_16 : decode cX3_ask 16 = .ok (.aload_n 0, 1) := by decide +kernel
theorem dX3_ask_17 : decode cX3_ask 17 = .ok (.getfield 33, 3) := by decide +kernel
theorem dX3_ask_20 : decode cX3_ask 20 = .ok (.getfield 95, 3) := by decide +kernel
theorem dX3_ask_23 : decode cX3_ask 23 = .ok (.iload_n 1, 1) := by decide +kernel
theorem dX3_ask_24 : decode cX3_ask 24 = .ok (.iaload, 1) := by decide +kernel
theorem dX3_ask_25 : decode cX3_ask 25 = .ok (.iand, 1) := by decide +kernel
theorem dX3_ask_26 : decode cX3_ask 26 = .ok (.ior, 1) := by decide +kernel
theorem dX3_ask_27 : decode cX3_ask 27 = .ok (.istore_n 3, 1) := by decide +kernel
theorem dX3_ask_28 : decode cX3_ask 28 = .ok (.iload_n 3, 1) := by decide +kernel
theorem dX3_ask_29 : decode cX3_ask 29 = .ok (.aload_n 0, 1) := by decide +kernel
theorem dX3_ask_30 : decode cX3_ask 30 = .ok (.getfield 18, 3) := by decide +kernel
theorem dX3_ask_33 : decode cX3_ask 33 = .ok (.iload_n 1, 1) := by decide +kernel
theorem dX3_ask_34 : decode cX3_ask 34 = .ok (.iaload, 1) := by decide +kernel
theorem dX3_ask_35 : decode cX3_ask 35 = .ok (.if_icmp .eq 7, 3) := by decide +kernel
theorem dX3_ask_38 : decode cX3_ask 38 = .ok (.iconst 1, 1) := by decide +kernel
theorem dX3_ask_39 : decode cX3_ask 39 = .ok (.goto 4, 3) := by decide +kernel
theorem dX3_ask_42 : decode cX3_ask 42 = .ok (.iconst 0, 1) := by decide +kernel
theorem dX3_ask_43 : decode cX3_ask 43 = .ok (.istore 4, 2) := by decide +kernel
theorem dX3_ask_45 : decode cX3_ask 45 = .ok (.aload_n 0, 1) := by decide +kernel
theorem dX3_ask_46 : decode cX3_ask 46 = .ok (.getfield 18, 3) := by decide +kernel
theorem dX3_ask_49 : decode cX3_ask 49 = .ok (.iload_n 1, 1) := by decide +kernel
theorem dX3_ask_50 : decode cX3_ask 50 = .ok (.iload_n 3, 1) := by decide +kernel
theorem dX3_ask_51 : decode cX3_ask 51 = .ok (.iastore, 1) := by decide +kernel
theorem dX3_ask_52 : decode cX3_ask 52 = .ok (.iload 4, 2) := by decide +kernel
theorem dX3_ask_54 : decode cX3_ask 54 = .ok (.ireturn, 1) := by decide +kernel
theorem dX3_readAt_0 : decode cX3_readAt 0 = .ok (.aload_n 0, 1) := by decide +kernel
theorem dX3_readAt_1 : decode cX3_readAt 1 = .ok (.getfield 21, 3) := by decide +kernel
theorem dX3_readAt_4 : decode cX3_readAt 4 = .ok (.iload_n 1, 1) := by decide +kernel
theorem dX3_readAt_5 : decode cX3_readAt 5 = .ok (.iload_n 2, 1) := by decide +kernel
theorem dX3_readAt_6 : decode cX3_readAt 6 = .ok (.invokevirtual 71, 3) := by decide +kernel
theorem dX3_readAt_9 : decode cX3_readAt 9 = .ok (.ifCond .eq 18, 3) := by decide +kernel
theorem dX3_readAt_12 : decode cX3_readAt 12 = .ok (.aload_n 0, 1) := by decide +kernel
theorem dX3_readAt_13 : decode cX3_readAt 13 = .ok (.getfield 15, 3) := by decide +kernel
theorem dX3_readAt_16 : decode cX3_readAt 16 = .ok (.aload_n 0, 1) := by decide +kernel
theorem dX3_readAt_17 : decode cX3_readAt 17 = .ok (.getfield 21, 3) := by decide +kernel
theorem dX3_readAt_20 : decode cX3_readAt 20 = .ok (.iload_n 1, 1) := by decide +kernel
theorem dX3_readAt_21 : decode cX3_readAt 21 = .ok (.iload_n 2, 1) := by decide +kernel
theorem dX3_readAt_22 : decode cX3_readAt 22 = .ok (.invokevirtual 74, 3) := by decide +kernel
theorem dX3_readAt_25 : decode cX3_readAt 25 = .ok (.iaload, 1) := by decide +kernel
theorem dX3_readAt_26 : decode cX3_readAt 26 = .ok (.ireturn, 1) := by decide +kernel
theorem dX3_readAt_27 : decode cX3_readAt 27 = .ok (.aload_n 0, 1) := by decide +kernel
theorem dX3_readAt_28 : decode cX3_readAt 28 = .ok (.getfield 21, 3) := by decide +kernel
theorem dX3_readAt_31 : decode cX3_readAt 31 = .ok (.iload_n 1, 1) := by decide +kernel
theorem dX3_readAt_32 : decode cX3_readAt 32 = .ok (.iload_n 2, 1) := by decide +kernel
theorem dX3_readAt_33 : decode cX3_readAt 33 = .ok (.invokevirtual 100, 3) := by decide +kernel
theorem dX3_readAt_36 : decode cX3_readAt 36 = .ok (.ireturn, 1) := by decide +kernel
theorem dX3_writtenAt_0 : decode cX3_writtenAt 0 = .ok (.aload_n 0, 1) := by decide +kernel
theorem dX3_writtenAt_1 : decode cX3_writtenAt 1 = .ok (.getfield 21, 3) := by decide +kernel
theorem dX3_writtenAt_4 : decode cX3_writtenAt 4 = .ok (.iload_n 1, 1) := by decide +kernel
theorem dX3_writtenAt_5 : decode cX3_writtenAt 5 = .ok (.iload_n 2, 1) := by decide +kernel
theorem dX3_writtenAt_6 : decode cX3_writtenAt 6 = .ok (.invokevirtual 71, 3) := by decide +kernel
theorem dX3_writtenAt_9 : decode cX3_writtenAt 9 = .ok (.ifCond .eq 20, 3) := by decide +kernel
theorem dX3_writtenAt_12 : decode cX3_writtenAt 12 = .ok (.aload_n 0, 1) := by decide +kernel
theorem dX3_writtenAt_13 : decode cX3_writtenAt 13 = .ok (.getfield 29, 3) := by decide +kernel
theorem dX3_writtenAt_16 : decode cX3_writtenAt 16 = .ok (.aload_n 0, 1) := by decide +kernel
theorem dX3_writtenAt_17 : decode cX3_writtenAt 17 = .ok (.getfield 21, 3) := by decide +kernel
theorem dX3_writtenAt_20 : decode cX3_writtenAt 20 = .ok (.iload_n 1, 1) := by decide +kernel
theorem dX3_writtenAt_21 : decode cX3_writtenAt 21 = .ok (.iload_n 2, 1) := by decide +kernel
theorem dX3_writtenAt_22 : decode cX3_writtenAt 22 = .ok (.invokevirtual 74, 3) := by decide +kernel
theorem dX3_writtenAt_25 : decode cX3_writtenAt 25 = .ok (.invokevirtual 90, 3) := by decide +kernel
theorem dX3_writtenAt_28 : decode cX3_writtenAt 28 = .ok (.ireturn, 1) := by decide +kernel
theorem dX3_writtenAt_29 : decode cX3_writtenAt 29 = .ok (.aload_n 0, 1) := by decide +kernel
theorem dX3_writtenAt_30 : decode cX3_writtenAt 30 = .ok (.getfield 21, 3) := by decide +kernel
theorem dX3_writtenAt_33 : decode cX3_writtenAt 33 = .ok (.iload_n 1, 1) := by decide +kernel
theorem dX3_writtenAt_34 : decode cX3_writtenAt 34 = .ok (.iload_n 2, 1) := by decide +kernel
theorem dX3_writtenAt_35 : decode cX3_writtenAt 35 = .ok (.invokevirtual 103, 3) := by decide +kernel
theorem dX3_writtenAt_38 : decode cX3_writtenAt 38 = .ok (.ireturn, 1) := by decide +kernel
theorem dX4_init_0 : decode cX4_init 0 = .ok (.aload_n 0, 1) := by decide +kernel
theorem dX4_init_1 : decode cX4_init 1 = .ok (.invokespecial 3, 3) := by decide +kernel
theorem dX4_init_4 : decode cX4_init 4 = .ok (.aload_n 0, 1) := by decide +kernel
theorem dX4_init_5 : decode cX4_init 5 = .ok (.bipush 8, 2) := by decide +kernel
theorem dX4_init_7 : decode cX4_init 7 = .ok (.newarray .int, 2) := by decide +kernel
theorem dX4_init_9 : decode cX4_init 9 = .ok (.putfield 9, 3) := by decide +kernel
theorem dX4_init_12 : decode cX4_init 12 = .ok (.aload_n 0, 1) := by decide +kernel
theorem dX4_init_13 : decode cX4_init 13 = .ok (.bipush 8, 2) := by decide +kernel
theorem dX4_init_15 : decode cX4_init 15 = .ok (.newarray .int, 2) := by decide +kernel
theorem dX4_init_17 : decode cX4_init 17 = .ok (.putfield 15, 3) := by decide +kernel
theorem dX4_init_20 : decode cX4_init 20 = .ok (.aload_n 0, 1) := by decide +kernel
theorem dX4_init_21 : decode cX4_init 21 = .ok (.bipush 8, 2) := by decide +kernel
theorem dX4_init_23 : decode cX4_init 23 = .ok (.newarray .int, 2) := by decide +kernel
theorem dX4_init_25 : decode cX4_init 25 = .ok (.putfield 18, 3) := by decide +kernel
theorem dX4_init_28 : decode cX4_init 28 = .ok (.aload_n 0, 1) := by decide +kernel
theorem dX4_init_29 : decode cX4_init 29 = .ok (.bipush 8, 2) := by decide +kernel
theorem dX4_init_31 : decode cX4_init 31 = .ok (.newarray .int, 2) := by decide +kernel
theorem dX4_init_33 : decode cX4_init 33 = .ok (.putfield 21, 3) := by decide +kernel
theorem dX4_init_36 : decode cX4_init 36 = .ok (.aload_n 0, 1) := by decide +kernel
theorem dX4_init_37 : decode cX4_init 37 = .ok (.bipush 48, 2) := by decide +kernel
theorem dX4_init_39 : decode cX4_init 39 = .ok (.newarray .int, 2) := by decide +kernel
theorem dX4_init_41 : decode cX4_init 41 = .ok (.putfield 24, 3) := by decide +kernel
theorem dX4_init_44 : decode cX4_init 44 = .ok (.aload_n 0, 1) := by decide +kernel
theorem dX4_init_45 : decode cX4_init 45 = .ok (.iconst 0, 1) := by decide +kernel
theorem dX4_init_46 : decode cX4_init 46 = .ok (.putfield 27, 3) := by decide +kernel
theorem dX4_init_49 : decode cX4_init 49 = .ok (.aload_n 0, 1) := by decide +kernel
theorem dX4_init_50 : decode cX4_init 50 = .ok (.iconst 0, 1) := by decide +kernel
theorem dX4_init_51 : decode cX4_init 51 = .ok (.putfield 31, 3) := by decide +kernel
theorem dX4_init_54 : decode cX4_init 54 = .ok (.aload_n 0, 1) := by decide +kernel
theorem dX4_init_55 : decode cX4_init 55 = .ok (.iconst 0, 1) := by decide +kernel
theorem dX4_init_56 : decode cX4_init 56 = .ok (.putfield 34, 3) := by decide +kernel
theorem dX4_init_59 : decode cX4_init 59 = .ok (.aload_n 0, 1) := by decide +kernel
theorem dX4_init_60 : decode cX4_init 60 = .ok (.iconst 0, 1) := by decide +kernel
theorem dX4_init_61 : decode cX4_init 61 = .ok (.putfield 37, 3) := by decide +kernel
theorem dX4_init_64 : decode cX4_init 64 = .ok (.aload_n 0, 1) := by decide +kernel
theorem dX4_init_65 : decode cX4_init 65 = .ok (.bipush 8, 2) := by decide +kernel
theorem dX4_init_67 : decode cX4_init 67 = .ok (.putfield 40, 3) := by decide +kernel
theorem dX4_init_70 : decode cX4_init 70 = .ok (.aload_n 0, 1) := by decide +kernel
theorem dX4_init_71 : decode cX4_init 71 = .ok (.iconst 0, 1) := by decide +kernel
theorem dX4_init_72 : decode cX4_init 72 = .ok (.putfield 43, 3) := by decide +kernel
theorem dX4_init_75 : decode cX4_init 75 = .ok (.aload_n 0, 1) := by decide +kernel
theorem dX4_init_76 : decode cX4_init 76 = .ok (.aload_n 1, 1) := by decide +kernel
theorem dX4_init_77 : decode cX4_init 77 = .ok (.putfield 47, 3) := by decide +kernel
theorem dX4_init_80 : decode cX4_init 80 = .ok (.return_, 1) := by decide +kernel
theorem dX4_execute_0 : decode cX4_execute 0 = .ok (.iconst 0, 1) := by decide +kernel
theorem dX4_execute_1 : decode cX4_execute 1 = .ok (.istore_n 3, 1) := by decide +kernel
theorem dX4_execute_2 : decode cX4_execute 2 = .ok (.iload_n 3, 1) := by decide +kernel
theorem dX4_execute_3 : decode cX4_execute 3 = .ok (.bipush 8, 2) := by decide +kernel
theorem dX4_execute_5 : decode cX4_execute 5 = .ok (.if_icmp .ge 16, 3) := by decide +kernel
theorem dX4_execute_8 : decode cX4_execute 8 = .ok (.aload_n 0, 1) := by decide +kernel
theorem dX4_execute_9 : decode cX4_execute 9 = .ok (.getfield 9, 3) := by decide +kernel
theorem dX4_execute_12 : decode cX4_execute 12 = .ok (.iload_n 3, 1) := by decide +kernel
theorem dX4_execute_13 : decode cX4_execute 13 = .ok (.iload_n 3, 1) := by decide +kernel
theorem dX4_execute_14 : decode cX4_execute 14 = .ok (.iastore, 1) := by decide +kernel
theorem dX4_execute_15 : decode cX4_execute 15 = .ok (.iinc 3 1, 3) := by decide +kernel
theorem dX4_execute_18 : decode cX4_execute 18 = .ok (.goto (-16), 3) := by decide +kernel
theorem dX4_execute_21 : decode cX4_execute 21 = .ok (.aload_n 0, 1) := by decide +kernel
theorem dX4_execute_22 : decode cX4_execute 22 = .ok (.iconst 0, 1) := by decide +kernel
theorem dX4_execute_23 : decode cX4_execute 23 = .ok (.putfield 27, 3) := by decide +kernel
theorem dX4_execute_26 : decode cX4_execute 26 = .ok (.aload_n 0, 1) := by decide +kernel
theorem dX4_execute_27 : decode cX4_execute 27 = .ok (.iconst 0, 1) := by decide +kernel
theorem dX4_execute_28 : decode cX4_execute 28 = .ok (.putfield 31, 3) := by decide +kernel
theorem dX4_execute_31 : decode cX4_execute 31 = .ok (.aload_n 0, 1) := by decide +kernel
theorem dX4_execute_32 : decode cX4_execute 32 = .ok (.iconst 0, 1) := by decide +kernel
theorem dX4_execute_33 : decode cX4_execute 33 = .ok (.putfield 34, 3) := by decide +kernel
theorem dX4_execute_36 : decode cX4_execute 36 = .ok (.aload_n 0, 1) := by decide +kernel
theorem dX4_execute_37 : decode cX4_execute 37 = .ok (.iload_n 2, 1) := by decide +kernel
theorem dX4_execute_38 : decode cX4_execute 38 = .ok (.putfield 37, 3) := by decide +kernel
theorem dX4_execute_41 : decode cX4_execute 41 = .ok (.aload_n 0, 1) := by decide +kernel
theorem dX4_execute_42 : decode cX4_execute 42 = .ok (.bipush 8, 2) := by decide +kernel
theorem dX4_execute_44 : decode cX4_execute 44 = .ok (.putfield 40, 3) := by decide +kernel
theorem dX4_execute_47 : decode cX4_execute 47 = .ok (.aload_n 0, 1) := by decide +kernel
theorem dX4_execute_48 : decode cX4_execute 48 = .ok (.iconst 0, 1) := by decide +kernel
theorem dX4_execute_49 : decode cX4_execute 49 = .ok (.putfield 43, 3) := by decide +kernel
theorem dX4_execute_52 : decode cX4_execute 52 = .ok (.aload_n 0, 1) := by decide +kernel
theorem dX4_execute_53 : decode cX4_execute 53 = .ok (.iload_n 1, 1) := by decide +kernel
theorem dX4_execute_54 : decode cX4_execute 54 = .ok (.invokevirtual 51, 3) := by decide +kernel
theorem dX4_execute_57 : decode cX4_execute 57 = .ok (.iconst 0, 1) := by decide +kernel
theorem dX4_execute_58 : decode cX4_execute 58 = .ok (.istore_n 3, 1) := by decide +kernel
theorem dX4_execute_59 : decode cX4_execute 59 = .ok (.iload_n 3, 1) := by decide +kernel
theorem dX4_execute_60 : decode cX4_execute 60 = .ok (.sipush 602, 3) := by decide +kernel
theorem dX4_execute_63 : decode cX4_execute 63 = .ok (.if_icmp .ge 33, 3) := by decide +kernel
theorem dX4_execute_66 : decode cX4_execute 66 = .ok (.aload_n 0, 1) := by decide +kernel
theorem dX4_execute_67 : decode cX4_execute 67 = .ok (.getfield 27, 3) := by decide +kernel
theorem dX4_execute_70 : decode cX4_execute 70 = .ok (.ifCond .le 26, 3) := by decide +kernel
theorem dX4_execute_73 : decode cX4_execute 73 = .ok (.aload_n 0, 1) := by decide +kernel
theorem dX4_execute_74 : decode cX4_execute 74 = .ok (.getfield 43, 3) := by decide +kernel
theorem dX4_execute_77 : decode cX4_execute 77 = .ok (.ifCond .ne 19, 3) := by decide +kernel
theorem dX4_execute_80 : decode cX4_execute 80 = .ok (.aload_n 0, 1) := by decide +kernel
theorem dX4_execute_81 : decode cX4_execute 81 = .ok (.aload_n 0, 1) := by decide +kernel
theorem dX4_execute_82 : decode cX4_execute 82 = .ok (.getfield 27, 3) := by decide +kernel
theorem dX4_execute_85 : decode cX4_execute 85 = .ok (.iconst 1, 1) := by decide +kernel
theorem dX4_execute_86 : decode cX4_execute 86 = .ok (.isub, 1) := by decide +kernel
theorem dX4_execute_87 : decode cX4_execute 87 = .ok (.invokevirtual 55, 3) := by decide +kernel
theorem dX4_execute_90 : decode cX4_execute 90 = .ok (.iinc 3 1, 3) := by decide +kernel
theorem dX4_execute_93 : decode cX4_execute 93 = .ok (.goto (-34), 3) := by decide +kernel
theorem dX4_execute_96 : decode cX4_execute 96 = .ok (.return_, 1) := by decide +kernel
theorem dX4_enter_0 : decode cX4_enter 0 = .ok (.aload_n 0, 1) := by decide +kernel
theorem dX4_enter_1 : decode cX4_enter 1 = .ok (.getfield 15, 3) := by decide +kernel
theorem dX4_enter_4 : decode cX4_enter 4 = .ok (.aload_n 0, 1) := by decide +kernel
theorem dX4_enter_5 : decode cX4_enter 5 = .ok (.getfield 27, 3) := by decide +kernel
theorem dX4_enter_8 : decode cX4_enter 8 = .ok (.iload_n 1, 1) := by decide +kernel
theorem dX4_enter_9 : decode cX4_enter 9 = .ok (.iastore, 1) := by decide +kernel
theorem dX4_enter_10 : decode cX4_enter 10 = .ok (.aload_n 0, 1) := by decide +kernel
theorem dX4_enter_11 : decode cX4_enter 11 = .ok (.getfield 18, 3) := by decide +kernel
theorem dX4_enter_14 : decode cX4_enter 14 = .ok (.aload_n 0, 1) := by decide +kernel
theorem dX4_enter_15 : decode cX4_enter 15 = .ok (.getfield 27, 3) := by decide +kernel
theorem dX4_enter_18 : decode cX4_enter 18 = .ok (.iconst 0, 1) := by decide +kernel
theorem dX4_enter_19 : decode cX4_enter 19 = .ok (.iastore, 1) := by decide +kernel
theorem dX4_enter_20 : decode cX4_enter 20 = .ok (.aload_n 0, 1) := by decide +kernel
theorem dX4_enter_21 : decode cX4_enter 21 = .ok (.getfield 21, 3) := by decide +kernel
theorem dX4_enter_24 : decode cX4_enter 24 = .ok (.aload_n 0, 1) := by decide +kernel
theorem dX4_enter_25 : decode cX4_enter 25 = .ok (.getfield 27, 3) := by decide +kernel
theorem dX4_enter_28 : decode cX4_enter 28 = .ok (.iconst 0, 1) := by decide +kernel
theorem dX4_enter_29 : decode cX4_enter 29 = .ok (.iastore, 1) := by decide +kernel
theorem dX4_enter_30 : decode cX4_enter 30 = .ok (.aload_n 0, 1) := by decide +kernel
theorem dX4_enter_31 : decode cX4_enter 31 = .ok (.dup, 1) := by decide +kernel
theorem dX4_enter_32 : decode cX4_enter 32 = .ok (.getfield 27, 3) := by decide +kernel
theorem dX4_enter_35 : decode cX4_enter 35 = .ok (.iconst 1, 1) := by decide +kernel
theorem dX4_enter_36 : decode cX4_enter 36 = .ok (.iadd, 1) := by decide +kernel
theorem dX4_enter_37 : decode cX4_enter 37 = .ok (.putfield 27, 3) := by decide +kernel
theorem dX4_enter_40 : decode cX4_enter 40 = .ok (.return_, 1) := by decide +kernel
theorem dX4_advance_0 : decode cX4_advance 0 = .ok (.aload_n 0, 1) := by decide +kernel
theorem dX4_advance_1 : decode cX4_advance 1 = .ok (.getfield 15, 3) := by decide +kernel
theorem dX4_advance_4 : decode cX4_advance 4 = .ok (.iload_n 1, 1) := by decide +kernel
theorem dX4_advance_5 : decode cX4_advance 5 = .ok (.iaload, 1) := by decide +kernel
theorem dX4_advance_6 : decode cX4_advance 6 = .ok (.istore_n 2, 1) := by decide +kernel
theorem dX4_advance_7 : decode cX4_advance 7 = .ok (.aload_n 0, 1) := by decide +kernel
theorem dX4_advance_8 : decode cX4_advance 8 = .ok (.getfield 18, 3) := by decide +kernel
theorem dX4_advance_11 : decode cX4_advance 11 = .ok (.iload_n 1, 1) := by decide +kernel
theorem dX4_advance_12 : decode cX4_advance 12 = .ok (.iaload, 1) := by decide +kernel
theorem dX4_advance_13 : decode cX4_advance 13 = .ok (.istore_n 3, 1) := by decide +kernel
theorem dX4_advance_14 : decode cX4_advance 14 = .ok (.iload_n 3, 1) := by decide +kernel
theorem dX4_advance_15 : decode cX4_advance 15 = .ok (.aload_n 0, 1) := by decide +kernel
theorem dX4_advance_16 : decode cX4_advance 16 = .ok (.getfield 47, 3) := by decide +kernel
theorem dX4_advance_19 : decode cX4_advance 19 = .ok (.getfield 58, 3) := by decide +kernel
theorem dX4_advance_22 : decode cX4_advance 22 = .ok (.iload_n 2, 1) := by decide +kernel
theorem dX4_advance_23 : decode cX4_advance 23 = .ok (.iaload, 1) := by decide +kernel
theorem dX4_advance_24 : decode cX4_advance 24 = .ok (.if_icmp .lt 14, 3) := by decide +kernel
theorem dX4_advance_27 : decode cX4_advance 27 = .ok (.aload_n 0, 1) := by decide +kernel
theorem dX4_advance_28 : decode cX4_advance 28 = .ok (.dup, 1) := by decide +kernel
theorem dX4_advance_29 : decode cX4_advance 29 = .ok (.getfield 27, 3) := by decide +kernel
theorem dX4_advance_32 : decode cX4_advance 32 = .ok (.iconst 1, 1) := by decide +kernel
theorem dX4_advance_33 : decode cX4_advance 33 = .ok (.isub, 1) := by decide +kernel
theorem dX4_advance_34 : decode cX4_advance 34 = .ok (.putfield 27, 3) := by decide +kernel
theorem dX4_advance_37 : decode cX4_advance 37 = .ok (.return_, 1) := by decide +kernel
theorem dX4_advance_38 : decode cX4_advance 38 = .ok (.aload_n 0, 1) := by decide +kernel
theorem dX4_advance_39 : decode cX4_advance 39 = .ok (.getfield 47, 3) := by decide +kernel
theorem dX4_advance_42 : decode cX4_advance 42 = .ok (.iload_n 2, 1) := by decide +kernel
theorem dX4_advance_43 : decode cX4_advance 43 = .ok (.iload_n 3, 1) := by decide +kernel
theorem dX4_advance_44 : decode cX4_advance 44 = .ok (.invokevirtual 63, 3) := by decide +kernel
theorem dX4_advance_47 : decode cX4_advance 47 = .ok (.istore 4, 2) := by decide +kernel
theorem dX4_advance_49 : decode cX4_advance 49 = .ok (.aload_n 0, 1) := by decide +kernel
theorem dX4_advance_50 : decode cX4_advance 50 = .ok (.getfield 31, 3) := by decide +kernel
theorem dX4_advance_53 : decode cX4_advance 53 = .ok (.sipush 300, 3) := by decide +kernel
theorem dX4_advance_56 : decode cX4_advance 56 = .ok (.if_icmp .ge 18, 3) := by decide +kernel
theorem dX4_advance_59 : decode cX4_advance 59 = .ok (.aload_n 0, 1) := by decide +kernel
theorem dX4_advance_60 : decode cX4_advance 60 = .ok (.iload 4, 2) := by decide +kernel
theorem dX4_advance_62 : decode cX4_advance 62 = .ok (.aload_n 0, 1) := by decide +kernel
theorem dX4_advance_63 : decode cX4_advance 63 = .ok (.getfield 21, 3) := by decide +kernel
theorem dX4_advance_66 : decode cX4_advance 66 = .ok (.iload_n 1, 1) := by decide +kernel
theorem dX4_advance_67 : decode cX4_advance 67 = .ok (.iaload, 1) := by decide +kernel
theorem dX4_advance_68 : decode cX4_advance 68 = .ok (.invokevirtual 67, 3) := by decide +kernel
theorem dX4_advance_71 : decode cX4_advance 71 = .ok (.ifCond .eq 9, 3) := by decide +kernel
theorem dX4_advance_74 : decode cX4_advance 74 = .ok (.aload_n 0, 1) := by decide +kernel
theorem dX4_advance_75 : decode cX4_advance 75 = .ok (.iconst 1, 1) := by decide +kernel
theorem dX4_advance_76 : decode cX4_advance 76 = .ok (.putfield 43, 3) := by decide +kernel
theorem dX4_advance_79 : decode cX4_advance 79 = .ok (.return_, 1) := by decide +kernel
theorem dX4_advance_80 : decode cX4_advance 80 = .ok (.aload_n 0, 1) := by decide +kernel
theorem dX4_advance_81 : decode cX4_advance 81 = .ok (.dup, 1) := by decide +kernel
theorem dX4_advance_82 : decode cX4_advance 82 = .ok (.getfield 31, 3) := by decide +kernel
theorem dX4_advance_85 : decode cX4_advance 85 = .ok (.iconst 1, 1) := by decide +kernel
theorem dX4_advance_86 : decode cX4_advance 86 = .ok (.iadd, 1) := by decide +kernel
theorem dX4_advance_87 : decode cX4_advance 87 = .ok (.putfield 31, 3) := by decide +kernel
theorem dX4_advance_90 : decode cX4_advance 90 = .ok (.aload_n 0, 1) := by decide +kernel
theorem dX4_advance_91 : decode cX4_advance 91 = .ok (.getfield 18, 3) := by decide +kernel
theorem dX4_advance_94 : decode cX4_advance 94 = .ok (.iload_n 1, 1) := by decide +kernel
theorem dX4_advance_95 : decode cX4_advance 95 = .ok (.dup2, 1) := by decide +kernel
theorem dX4_advance_96 : decode cX4_advance 96 = .ok (.iaload, 1) := by decide +kernel
theorem dX4_advance_97 : decode cX4_advance 97 = .ok (.iconst 1, 1) := by decide +kernel
theorem dX4_advance_98 : decode cX4_advance 98 = .ok (.iadd, 1) := by decide +kernel
theorem dX4_advance_99 : decode cX4_advance 99 = .ok (.iastore, 1) := by decide +kernel
theorem dX4_advance_100 : decode cX4_advance 100 = .ok (.aload_n 0, 1) := by decide +kernel
theorem dX4_advance_101 : decode cX4_advance 101 = .ok (.iload 4, 2) := by decide +kernel
theorem dX4_advance_103 : decode cX4_advance 103 = .ok (.aload_n 0, 1) := by decide +kernel
theorem dX4_advance_104 : decode cX4_advance 104 = .ok (.getfield 47, 3) := by decide +kernel
theorem dX4_advance_107 : decode cX4_advance 107 = .ok (.iload_n 2, 1) := by decide +kernel
theorem dX4_advance_108 : decode cX4_advance 108 = .ok (.iload_n 3, 1) := by decide +kernel
theorem dX4_advance_109 : decode cX4_advance 109 = .ok (.invokevirtual 71, 3) := by decide +kernel
theorem dX4_advance_112 : decode cX4_advance 112 = .ok (.iload_n 1, 1) := by decide +kernel
theorem dX4_advance_113 : decode cX4_advance 113 = .ok (.invokevirtual 75, 3) := by decide +kernel
theorem dX4_advance_116 : decode cX4_advance 116 = .ok (.return_, 1) := by decide +kernel
theorem dX4_isBlocked_0 : decode cX4_isBlocked 0 = .ok (.iload_n 1, 1) := by decide +kernel
theorem dX4_isBlocked_1 : decode cX4_isBlocked 1 = .ok (.bipush 45, 2) := by decide +kernel
theorem dX4_isBlocked_3 : decode cX4_isBlocked 3 = .ok (.if_icmp .ne 7, 3) := by decide +kernel
theorem dX4_isBlocked_6 : decode cX4_isBlocked 6 = .ok (.iload_n 2, 1) := by decide +kernel
theorem dX4_isBlocked_7 : decode cX4_isBlocked 7 = .ok (.ifCond .le 30, 3) := by decide +kernel
theorem dX4_isBlocked_10 : decode cX4_isBlocked 10 = .ok (.iload_n 1, 1) := by decide +kernel
theorem dX4_isBlocked_11 : decode cX4_isBlocked 11 = .ok (.bipush 43, 2) := by decide +kernel
theorem dX4_isBlocked_13 : decode cX4_isBlocked 13 = .ok (.if_icmp .ne 9, 3) := by decide +kernel
theorem dX4_isBlocked_16 : decode cX4_isBlocked 16 = .ok (.iload_n 2, 1) := by decide +kernel
theorem dX4_isBlocked_17 : decode cX4_isBlocked 17 = .ok (.bipush 6, 2) := by decide +kernel
theorem dX4_isBlocked_19 : decode cX4_isBlocked 19 = .ok (.if_icmp .ge 18, 3) := by decide +kernel
theorem dX4_isBlocked_22 : decode cX4_isBlocked 22 = .ok (.iload_n 1, 1) := by decide +kernel
theorem dX4_isBlocked_23 : decode cX4_isBlocked 23 = .ok (.bipush 99, 2) := by decide +kernel
theorem dX4_isBlocked_25 : decode cX4_isBlocked 25 = .ok (.if_icmp .ne 16, 3) := by decide +kernel
theorem dX4_isBlocked_28 : decode cX4_isBlocked 28 = .ok (.aload_n 0, 1) := by decide +kernel
theorem dX4_isBlocked_29 : decode cX4_isBlocked 29 = .ok (.getfield 27, 3) := by decide +kernel
theorem dX4_isBlocked_32 : decode cX4_isBlocked 32 = .ok (.bipush 8, 2) := by decide +kernel
theorem dX4_isBlocked_34 : decode cX4_isBlocked 34 = .ok (.if_icmp .lt 7, 3) := by decide +kernel
theorem dX4_isBlocked_37 : decode cX4_isBlocked 37 = .ok (.iconst 1, 1) := by decide +kernel
theorem dX4_isBlocked_38 : decode cX4_isBlocked 38 = .ok (.goto 4, 3) := by decide +kernel
theorem dX4_isBlocked_41 : decode cX4_isBlocked 41 = .ok (.iconst 0, 1) := by decide +kernel
theorem dX4_isBlocked_42 : decode cX4_isBlocked 42 = .ok (.ireturn, 1) := by decide +kernel
theorem dX4_perform_0 : decode cX4_perform 0 = .ok (.iload_n 1, 1) := by decide +kernel
theorem dX4_perform_1 : decode cX4_perform 1 = .ok (.bipush 100, 2) := by decide +kernel
theorem dX4_perform_3 : decode cX4_perform 3 = .ok (.if_icmp .ne 26, 3) := by decide +kernel
theorem dX4_perform_6 : decode cX4_perform 6 = .ok (.aload_n 0, 1) := by decide +kernel
theorem dX4_perform_7 : decode cX4_perform 7 = .ok (.getfield 9, 3) := by decide +kernel
theorem dX4_perform_10 : decode cX4_perform 10 = .ok (.iload_n 2, 1) := by decide +kernel
theorem dX4_perform_11 : decode cX4_perform 11 = .ok (.aload_n 0, 1) := by decide +kernel
theorem dX4_perform_12 : decode cX4_perform 12 = .ok (.getfield 40, 3) := by decide +kernel
theorem dX4_perform_15 : decode cX4_perform 15 = .ok (.iastore, 1) := by decide +kernel
theorem dX4_perform_16 : decode cX4_perform 16 = .ok (.aload_n 0, 1) := by decide +kernel
theorem dX4_perform_17 : decode cX4_perform 17 = .ok (.dup, 1) := by decide +kernel
theorem dX4_perform_18 : decode cX4_perform 18 = .ok (.getfield 40, 3) := by decide +kernel
theorem dX4_perform_21 : decode cX4_perform 21 = .ok (.iconst 1, 1) := by decide +kernel
theorem dX4_perform_22 : decode cX4_perform 22 = .ok (.iadd, 1) := by decide +kernel
theorem dX4_perform_23 : decode cX4_perform 23 = .ok (.putfield 40, 3) := by decide +kernel
theorem dX4_perform_26 : decode cX4_perform 26 = .ok (.goto 172, 3) := by decide +kernel
theorem dX4_perform_29 : decode cX4_perform 29 = .ok (.iload_n 1, 1) := by decide +kernel
theorem dX4_perform_30 : decode cX4_perform 30 = .ok (.bipush 109, 2) := by decide +kernel
theorem dX4_perform_32 : decode cX4_perform 32 = .ok (.if_icmp .ne 24, 3) := by decide +kernel
theorem dX4_perform_35 : decode cX4_perform 35 = .ok (.aload_n 0, 1) := by decide +kernel
theorem dX4_perform_36 : decode cX4_perform 36 = .ok (.getfield 9, 3) := by decide +kernel
theorem dX4_perform_39 : decode cX4_perform 39 = .ok (.iload_n 2, 1) := by decide +kernel
theorem dX4_perform_40 : decode cX4_perform 40 = .ok (.bipush 10, 2) := by decide +kernel
theorem dX4_perform_42 : decode cX4_perform 42 = .ok (.idiv, 1) := by decide +kernel
theorem dX4_perform_43 : decode cX4_perform 43 = .ok (.aload_n 0, 1) := by decide +kernel
theorem dX4_perform_44 : decode cX4_perform 44 = .ok (.getfield 9, 3) := by decide +kernel
theorem dX4_perform_47 : decode cX4_perform 47 = .ok (.iload_n 2, 1) := by decide +kernel
theorem dX4_perform_48 : decode cX4_perform 48 = .ok (.bipush 10, 2) := by decide +kernel
theorem dX4_perform_50 : decode cX4_perform 50 = .ok (.irem, 1) := by decide +kernel
theorem dX4_perform_51 : decode cX4_perform 51 = .ok (.iaload, 1) := by decide +kernel
theorem dX4_perform_52 : decode cX4_perform 52 = .ok (.iastore, 1) := by decide +kernel
theorem dX4_perform_53 : decode cX4_perform 53 = .ok (.goto 145, 3) := by decide +kernel
theorem dX4_perform_56 : decode cX4_perform 56 = .ok (.iload_n 1, 1) := by decide +kernel
theorem dX4_perform_57 : decode cX4_perform 57 = .ok (.bipush 43, 2) := by decide +kernel
theorem dX4_perform_59 : decode cX4_perform 59 = .ok (.if_icmp .ne 38, 3) := by decide +kernel
theorem dX4_perform_62 : decode cX4_perform 62 = .ok (.aload_n 0, 1) := by decide +kernel
theorem dX4_perform_63 : decode cX4_perform 63 = .ok (.getfield 24, 3) := by decide +kernel
theorem dX4_perform_66 : decode cX4_perform 66 = .ok (.iload_n 3, 1) := by decide +kernel
theorem dX4_perform_67 : decode cX4_perform 67 = .ok (.bipush 6, 2) := by decide +kernel
theorem dX4_perform_69 : decode cX4_perform 69 = .ok (.imul, 1) := by decide +kernel
theorem dX4_perform_70 : decode cX4_perform 70 = .ok (.aload_n 0, 1) := by decide +kernel
theorem dX4_perform_71 : decode cX4_perform 71 = .ok (.getfield 21, 3) := by decide +kernel
theorem dX4_perform_74 : decode cX4_perform 74 = .ok (.iload_n 3, 1) := by decide +kernel
theorem dX4_perform_75 : decode cX4_perform 75 = .ok (.iaload, 1) := by decide +kernel
theorem dX4_perform_76 : decode cX4_perform 76 = .ok (.iadd, 1) := by decide +kernel
theorem dX4_perform_77 : decode cX4_perform 77 = .ok (.aload_n 0, 1) := by decide +kernel
theorem dX4_perform_78 : decode cX4_perform 78 = .ok (.getfield 9, 3) := by decide +kernel
theorem dX4_perform_81 : decode cX4_perform 81 = .ok (.iload_n 2, 1) := by decide +kernel
theorem dX4_perform_82 : decode cX4_perform 82 = .ok (.iaload, 1) := by decide +kernel
theorem dX4_perform_83 : decode cX4_perform 83 = .ok (.iastore, 1) := by decide +kernel
theorem dX4_perform_84 : decode cX4_perform 84 = .ok (.aload_n 0, 1) := by decide +kernel
theorem dX4_perform_85 : decode cX4_perform 85 = .ok (.getfield 21, 3) := by decide +kernel
theorem dX4_perform_88 : decode cX4_perform 88 = .ok (.iload_n 3, 1) := by decide +kernel
theorem dX4_perform_89 : decode cX4_perform 89 = .ok (.dup2, 1) := by decide +kernel
theorem dX4_perform_90 : decode cX4_perform 90 = .ok (.iaload, 1) := by decide +kernel
theorem dX4_perform_91 : decode cX4_perform 91 = .ok (.iconst 1, 1) := by decide +kernel
theorem dX4_perform_92 : decode cX4_perform 92 = .ok (.iadd, 1) := by decide +kernel
theorem dX4_perform_93 : decode cX4_perform 93 = .ok (.iastore, 1) := by decide +kernel
theorem dX4_perform_94 : decode cX4_perform 94 = .ok (.goto 104, 3) := by decide +kernel
theorem dX4_perform_97 : decode cX4_perform 97 = .ok (.iload_n 1, 1) := by decide +kernel
theorem dX4_perform_98 : decode cX4_perform 98 = .ok (.bipush 45, 2) := by decide +kernel
theorem dX4_perform_100 : decode cX4_perform 100 = .ok (.if_icmp .ne 38, 3) := by decide +kernel
theorem dX4_perform_103 : decode cX4_perform 103 = .ok (.aload_n 0, 1) := by decide +kernel
theorem dX4_perform_104 : decode cX4_perform 104 = .ok (.getfield 21, 3) := by decide +kernel
theorem dX4_perform_107 : decode cX4_perform 107 = .ok (.iload_n 3, 1) := by decide +kernel
theorem dX4_perform_108 : decode cX4_perform 108 = .ok (.dup2, 1) := by decide +kernel
theorem dX4_perform_109 : decode cX4_perform 109 = .ok (.iaload, 1) := by decide +kernel
theorem dX4_perform_110 : decode cX4_perform 110 = .ok (.iconst 1, 1) := by decide +kernel
theorem dX4_perform_111 : decode cX4_perform 111 = .ok (.isub, 1) := by decide +kernel
theorem dX4_perform_112 : decode cX4_perform 112 = .ok (.iastore, 1) := by decide +kernel
theorem dX4_perform_113 : decode cX4_perform 113 = .ok (.aload_n 0, 1) := by decide +kernel
theorem dX4_perform_114 : decode cX4_perform 114 = .ok (.getfield 9, 3) := by decide +kernel
theorem dX4_perform_117 : decode cX4_perform 117 = .ok (.iload_n 2, 1) := by decide +kernel
theorem dX4_perform_118 : decode cX4_perform 118 = .ok (.aload_n 0, 1) := by decide +kernel
theorem dX4_perform_119 : decode cX4_perform 119 = .ok (.getfield 24, 3) := by decide +kernel
theorem dX4_perform_122 : decode cX4_perform 122 = .ok (.iload_n 3, 1) := by decide +kernel
theorem dX4_perform_123 : decode cX4_perform 123 = .ok (.bipush 6, 2) := by decide +kernel
theorem dX4_perform_125 : decode cX4_perform 125 = .ok (.imul, 1) := by decide +kernel
theorem dX4_perform_126 : decode cX4_perform 126 = .ok (.aload_n 0, 1) := by decide +kernel
theorem dX4_perform_127 : decode cX4_perform 127 = .ok (.getfield 21, 3) := by decide +kernel
theorem dX4_perform_130 : decode cX4_perform 130 = .ok (.iload_n 3, 1) := by decide +kernel
theorem dX4_perform_131 : decode cX4_perform 131 = .ok (.iaload, 1) := by decide +kernel
theorem dX4_perform_132 : decode cX4_perform 132 = .ok (.iadd, 1) := by decide +kernel
theorem dX4_perform_133 : decode cX4_perform 133 = .ok (.iaload, 1) := by decide +kernel
theorem dX4_perform_134 : decode cX4_perform 134 = .ok (.iastore, 1) := by decide +kernel
theorem dX4_perform_135 : decode cX4_perform 135 = .ok (.goto 63, 3) := by decide +kernel
theorem dX4_perform_138 : decode cX4_perform 138 = .ok (.iload_n 1, 1) := by decide +kernel
theorem dX4_perform_139 : decode cX4_perform 139 = .ok (.bipush 99, 2) := by decide +kernel
theorem dX4_perform_141 : decode cX4_perform 141 = .ok (.if_icmp .ne 11, 3) := by decide +kernel
theorem dX4_perform_144 : decode cX4_perform 144 = .ok (.aload_n 0, 1) := by decide +kernel
theorem dX4_perform_145 : decode cX4_perform 145 = .ok (.iload_n 2, 1) := by decide +kernel
theorem dX4_perform_146 : decode cX4_perform 146 = .ok (.invokevirtual 51, 3) := by decide +kernel
theorem dX4_perform_149 : decode cX4_perform 149 = .ok (.goto 49, 3) := by decide +kernel
theorem dX4_perform_152 : decode cX4_perform 152 = .ok (.iload_n 1, 1) := by decide +kernel
theorem dX4_perform_153 : decode cX4_perform 153 = .ok (.bipush 98, 2) := by decide +kernel
theorem dX4_perform_155 : decode cX4_perform 155 = .ok (.if_icmp .ne 27, 3) := by decide +kernel
theorem dX4_perform_158 : decode cX4_perform 158 = .ok (.aload_n 0, 1) := by decide +kernel
theorem dX4_perform_159 : decode cX4_perform 159 = .ok (.getfield 18, 3) := by decide +kernel
theorem dX4_perform_162 : decode cX4_perform 162 = .ok (.iload_n 3, 1) := by decide +kernel
theorem dX4_perform_163 : decode cX4_perform 163 = .ok (.dup2, 1) := by decide +kernel
theorem dX4_perform_164 : decode cX4_perform 164 = .ok (.iaload, 1) := by decide +kernel
theorem dX4_perform_165 : decode cX4_perform 165 = .ok (.aload_n 0, 1) := by decide +kernel
theorem dX4_perform_166 : decode cX4_perform 166 = .ok (.invokevirtual 79, 3) := by decide +kernel
theorem dX4_perform_169 : decode cX4_perform 169 = .ok (.ifCond .eq 7, 3) := by decide +kernel
theorem dX4_perform_172 : decode cX4_perform 172 = .ok (.iload_n 2, 1) := by decide +kernel
theorem dX4_perform_173 : decode cX4_perform 173 = .ok (.goto 4, 3) := by decide +kernel
theorem dX4_perform_176 : decode cX4_perform 176 = .ok (.iconst 0, 1) := by decide +kernel
theorem dX4_perform_177 : decode cX4_perform 177 = .ok (.iadd, 1) := by decide +kernel
theorem dX4_perform_178 : decode cX4_perform 178 = .ok (.iastore, 1) := by decide +kernel
theorem dX4_perform_179 : decode cX4_perform 179 = .ok (.goto 19, 3) := by decide +kernel
theorem dX4_perform_182 : decode cX4_perform 182 = .ok (.iload_n 1, 1) := by decide +kernel
theorem dX4_perform_183 : decode cX4_perform 183 = .ok (.bipush 114, 2) := by decide +kernel
theorem dX4_perform_185 : decode cX4_perform 185 = .ok (.if_icmp .ne 13, 3) := by decide +kernel
theorem dX4_perform_188 : decode cX4_perform 188 = .ok (.aload_n 0, 1) := by decide +kernel
theorem dX4_perform_189 : decode cX4_perform 189 = .ok (.dup, 1) := by decide +kernel
theorem dX4_perform_190 : decode cX4_perform 190 = .ok (.getfield 27, 3) := by decide +kernel
theorem dX4_perform_193 : decode cX4_perform 193 = .ok (.iconst 1, 1) := by decide +kernel
theorem dX4_perform_194 : decode cX4_perform 194 = .ok (.isub, 1) := by decide +kernel
theorem dX4_perform_195 : decode cX4_perform 195 = .ok (.putfield 27, 3) := by decide +kernel
theorem dX4_perform_198 : decode cX4_perform 198 = .ok (.return_, 1) := by decide +kernel
theorem dX4_isTaken_0 : decode cX4_isTaken 0 = .ok (.aload_n 0, 1) := by decide +kernel
theorem dX4_isTaken_1 : decode cX4_isTaken 1 = .ok (.getfield 37, 3) := by decide +kernel
theorem dX4_isTaken_4 : decode cX4_isTaken 4 = .ok (.aload_n 0, 1) := by decide +kernel
theorem dX4_isTaken_5 : decode cX4_isTaken 5 = .ok (.getfield 34, 3) := by decide +kernel
theorem dX4_isTaken_8 : decode cX4_isTaken 8 = .ok (.bipush 32, 2) := by decide +kernel
theorem dX4_isTaken_10 : decode cX4_isTaken 10 = .ok (.irem, 1) := by decide +kernel
theorem dX4_isTaken_11 : decode cX4_isTaken 11 = .ok (.invokestatic 83, 3) := by decide +kernel
theorem dX4_isTaken_14 : decode cX4_isTaken 14 = .ok (.istore_n 1, 1) := by decide +kernel
theorem dX4_isTaken_15 : decode cX4_isTaken 15 = .ok (.aload_n 0, 1) := by decide +kernel
theorem dX4_isTaken_16 : decode cX4_isTaken 16 = .ok (.dup, 1) := by decide +kernel
theorem dX4_isTaken_17 : decode cX4_isTaken 17 = .ok (.getfield 34, 3) := by decide +kernel
theorem dX4_isTaken_20 : decode cX4_isTaken 20 = .ok (.iconst 1, 1) := by decide +kernel
theorem dX4_isTaken_21 : decode cX4_isTaken 21 = .ok (.iadd, 1) := by decide +kernel
theorem dX4_isTaken_22 : decode cX4_isTaken 22 = .ok (.putfield 34, 3) := by decide +kernel
theorem dX4_isTaken_25 : decode cX4_isTaken 25 = .ok (.iload_n 1, 1) := by decide +kernel
theorem dX4_isTaken_26 : decode cX4_isTaken 26 = .ok (.ireturn, 1) := by decide +kernel
theorem dX5_init_0 : decode cX5_init 0 = .ok (.aload_n 0, 1) := by decide +kernel
theorem dX5_init_1 : decode cX5_init 1 = .ok (.invokespecial 3, 3) := by decide +kernel
theorem dX5_init_4 : decode cX5_init 4 = .ok (.aload_n 0, 1) := by decide +kernel
theorem dX5_init_5 : decode cX5_init 5 = .ok (.bipush 112, 2) := by decide +kernel
theorem dX5_init_7 : decode cX5_init 7 = .ok (.newarray .int, 2) := by decide +kernel
theorem dX5_init_9 : decode cX5_init 9 = .ok (.putfield 9, 3) := by decide +kernel
theorem dX5_init_12 : decode cX5_init 12 = .ok (.aload_n 0, 1) := by decide +kernel
theorem dX5_init_13 : decode cX5_init 13 = .ok (.bipush 112, 2) := by decide +kernel
theorem dX5_init_15 : decode cX5_init 15 = .ok (.newarray .int, 2) := by decide +kernel
theorem dX5_init_17 : decode cX5_init 17 = .ok (.putfield 15, 3) := by decide +kernel
theorem dX5_init_20 : decode cX5_init 20 = .ok (.aload_n 0, 1) := by decide +kernel
theorem dX5_init_21 : decode cX5_init 21 = .ok (.bipush 112, 2) := by decide +kernel
theorem dX5_init_23 : decode cX5_init 23 = .ok (.newarray .int, 2) := by decide +kernel
theorem dX5_init_25 : decode cX5_init 25 = .ok (.putfield 18, 3) := by decide +kernel
theorem dX5_init_28 : decode cX5_init 28 = .ok (.aload_n 0, 1) := by decide +kernel
theorem dX5_init_29 : decode cX5_init 29 = .ok (.bipush 112, 2) := by decide +kernel
theorem dX5_init_31 : decode cX5_init 31 = .ok (.newarray .int, 2) := by decide +kernel
theorem dX5_init_33 : decode cX5_init 33 = .ok (.putfield 21, 3) := by decide +kernel
theorem dX5_init_36 : decode cX5_init 36 = .ok (.aload_n 0, 1) := by decide +kernel
theorem dX5_init_37 : decode cX5_init 37 = .ok (.bipush 8, 2) := by decide +kernel
theorem dX5_init_39 : decode cX5_init 39 = .ok (.newarray .int, 2) := by decide +kernel
theorem dX5_init_41 : decode cX5_init 41 = .ok (.putfield 24, 3) := by decide +kernel
theorem dX5_init_44 : decode cX5_init 44 = .ok (.aload_n 0, 1) := by decide +kernel
theorem dX5_init_45 : decode cX5_init 45 = .ok (.bipush 15, 2) := by decide +kernel
theorem dX5_init_47 : decode cX5_init 47 = .ok (.newarray .int, 2) := by decide +kernel
theorem dX5_init_49 : decode cX5_init 49 = .ok (.putfield 27, 3) := by decide +kernel
theorem dX5_init_52 : decode cX5_init 52 = .ok (.aload_n 0, 1) := by decide +kernel
theorem dX5_init_53 : decode cX5_init 53 = .ok (.iconst 0, 1) := by decide +kernel
theorem dX5_init_54 : decode cX5_init 54 = .ok (.putfield 30, 3) := by decide +kernel
theorem dX5_init_57 : decode cX5_init 57 = .ok (.aload_n 0, 1) := by decide +kernel
theorem dX5_init_58 : decode cX5_init 58 = .ok (.aload_n 1, 1) := by decide +kernel
theorem dX5_init_59 : decode cX5_init 59 = .ok (.putfield 34, 3) := by decide +kernel
theorem dX5_init_62 : decode cX5_init 62 = .ok (.aload_n 0, 1) := by decide +kernel
theorem dX5_init_63 : decode cX5_init 63 = .ok (.aload_n 2, 1) := by decide +kernel
theorem dX5_init_64 : decode cX5_init 64 = .ok (.putfield 38, 3) := by decide +kernel
theorem dX5_init_67 : decode cX5_init 67 = .ok (.return_, 1) := by decide +kernel
theorem dX5_infer_0 : decode cX5_infer 0 = .ok (.aload_n 0, 1) := by decide +kernel
theorem dX5_infer_1 : decode cX5_infer 1 = .ok (.iconst 0, 1) := by decide +kernel
theorem dX5_infer_2 : decode cX5_infer 2 = .ok (.putfield 30, 3) := by decide +kernel
theorem dX5_infer_5 : decode cX5_infer 5 = .ok (.iconst 0, 1) := by decide +kernel
theorem dX5_infer_6 : decode cX5_infer 6 = .ok (.istore_n 1, 1) := by decide +kernel
theorem dX5_infer_7 : decode cX5_infer 7 = .ok (.iload_n 1, 1) := by decide +kernel
theorem dX5_infer_8 : decode cX5_infer 8 = .ok (.bipush 8, 2) := by decide +kernel
theorem dX5_infer_10 : decode cX5_infer 10 = .ok (.if_icmp .ge 21, 3) := by decide +kernel
theorem dX5_infer_13 : decode cX5_infer 13 = .ok (.aload_n 0, 1) := by decide +kernel
theorem dX5_infer_14 : decode cX5_infer 14 = .ok (.getfield 24, 3) := by decide +kernel
theorem dX5_infer_17 : decode cX5_infer 17 = .ok (.iload_n 1, 1) := by decide +kernel
theorem dX5_infer_18 : decode cX5_infer 18 = .ok (.iconst 0, 1) := by decide +kernel
theorem dX5_infer_19 : decode cX5_infer 19 = .ok (.iastore, 1) := by decide +kernel
theorem dX5_infer_20 : decode cX5_infer 20 = .ok (.aload_n 0, 1) := by decide +kernel
theorem dX5_infer_21 : decode cX5_infer 21 = .ok (.iload_n 1, 1) := by decide +kernel
theorem dX5_infer_22 : decode cX5_infer 22 = .ok (.invokevirtual 42, 3) := by decide +kernel
theorem dX5_infer_25 : decode cX5_infer 25 = .ok (.iinc 1 1, 3) := by decide +kernel
theorem dX5_infer_28 : decode cX5_infer 28 = .ok (.goto (-21), 3) := by decide +kernel
theorem dX5_infer_31 : decode cX5_infer 31 = .ok (.return_, 1) := by decide +kernel
theorem dX5_collect_0 : decode cX5_collect 0 = .ok (.aload_n 0, 1) := by decide +kernel
theorem dX5_collect_1 : decode cX5_collect 1 = .ok (.getfield 27, 3) := by decide +kernel
theorem dX5_collect_4 : decode cX5_collect 4 = .ok (.bipush 15, 2) := by decide +kernel
theorem dX5_collect_6 : decode cX5_collect 6 = .ok (.invokestatic 46, 3) := by decide +kernel
theorem dX5_collect_9 : decode cX5_collect 9 = .ok (.aload_n 0, 1) := by decide +kernel
theorem dX5_collect_10 : decode cX5_collect 10 = .ok (.getfield 27, 3) := by decide +kernel
theorem dX5_collect_13 : decode cX5_collect 13 = .ok (.aload_n 0, 1) := by decide +kernel
theorem dX5_collect_14 : decode cX5_collect 14 = .ok (.getfield 34, 3) := by decide +kernel
theorem dX5_collect_17 : decode cX5_collect 17 = .ok (.iload_n 1, 1) := by decide +kernel
theorem dX5_collect_18 : decode cX5_collect 18 = .ok (.invokevirtual 52, 3) := by decide +kernel
theorem dX5_collect_21 : decode cX5_collect 21 = .ok (.iconst 0, 1) := by decide +kernel
theorem dX5_collect_22 : decode cX5_collect 22 = .ok (.iastore, 1) := by decide +kernel
theorem dX5_collect_23 : decode cX5_collect 23 = .ok (.iconst 0, 1) := by decide +kernel
theorem dX5_collect_24 : decode cX5_collect 24 = .ok (.istore_n 2, 1) := by decide +kernel
theorem dX5_collect_25 : decode cX5_collect 25 = .ok (.iload_n 2, 1) := by decide +kernel
theorem dX5_collect_26 : decode cX5_collect 26 = .ok (.aload_n 0, 1) := by decide +kernel
theorem dX5_collect_27 : decode cX5_collect 27 = .ok (.getfield 34, 3) := by decide +kernel
theorem dX5_collect_30 : decode cX5_collect 30 = .ok (.getfield 58, 3) := by decide +kernel
theorem dX5_collect_33 : decode cX5_collect 33 = .ok (.iload_n 1, 1) := by decide +kernel
theorem dX5_collect_34 : decode cX5_collect 34 = .ok (.iaload, 1) := by decide +kernel
theorem dX5_collect_35 : decode cX5_collect 35 = .ok (.if_icmp .ge 70, 3) := by decide +kernel
theorem dX5_collect_38 : decode cX5_collect 38 = .ok (.aload_n 0, 1) := by decide +kernel
theorem dX5_collect_39 : decode cX5_collect 39 = .ok (.getfield 38, 3) := by decide +kernel
theorem dX5_collect_42 : decode cX5_collect 42 = .ok (.iload_n 1, 1) := by decide +kernel
theorem dX5_collect_43 : decode cX5_collect 43 = .ok (.iload_n 2, 1) := by decide +kernel
theorem dX5_collect_44 : decode cX5_collect 44 = .ok (.invokevirtual 61, 3) := by decide +kernel
theorem dX5_collect_47 : decode cX5_collect 47 = .ok (.ifCond .eq 52, 3) := by decide +kernel
theorem dX5_collect_50 : decode cX5_collect 50 = .ok (.aload_n 0, 1) := by decide +kernel
theorem dX5_collect_51 : decode cX5_collect 51 = .ok (.iload_n 1, 1) := by decide +kernel
theorem dX5_collect_52 : decode cX5_collect 52 = .ok (.iload_n 2, 1) := by decide +kernel
theorem dX5_collect_53 : decode cX5_collect 53 = .ok (.invokevirtual 67, 3) := by decide +kernel
theorem dX5_collect_56 : decode cX5_collect 56 = .ok (.aload_n 0, 1) := by decide +kernel
theorem dX5_collect_57 : decode cX5_collect 57 = .ok (.iload_n 1, 1) := by decide +kernel
theorem dX5_collect_58 : decode cX5_collect 58 = .ok (.iload_n 2, 1) := by decide +kernel
theorem dX5_collect_59 : decode cX5_collect 59 = .ok (.invokevirtual 71, 3) := by decide +kernel
theorem dX5_collect_62 : decode cX5_collect 62 = .ok (.istore_n 3, 1) := by decide +kernel
theorem dX5_collect_63 : decode cX5_collect 63 = .ok (.aload_n 0, 1) := by decide +kernel
theorem dX5_collect_64 : decode cX5_collect 64 = .ok (.getfield 27, 3) := by decide +kernel
theorem dX5_collect_67 : decode cX5_collect 67 = .ok (.aload_n 0, 1) := by decide +kernel
theorem dX5_collect_68 : decode cX5_collect 68 = .ok (.getfield 34, 3) := by decide +kernel
theorem dX5_collect_71 : decode cX5_collect 71 = .ok (.iload_n 1, 1) := by decide +kernel
theorem dX5_collect_72 : decode cX5_collect 72 = .ok (.iload_n 2, 1) := by decide +kernel
theorem dX5_collect_73 : decode cX5_collect 73 = .ok (.invokevirtual 75, 3) := by decide +kernel
theorem dX5_collect_76 : decode cX5_collect 76 = .ok (.dup2, 1) := by decide +kernel
theorem dX5_collect_77 : decode cX5_collect 77 = .ok (.iaload, 1) := by decide +kernel
theorem dX5_collect_78 : decode cX5_collect 78 = .ok (.iload_n 3, 1) := by decide +kernel
theorem dX5_collect_79 : decode cX5_collect 79 = .ok (.iand, 1) := by decide +kernel
theorem dX5_collect_80 : decode cX5_collect 80 = .ok (.iastore, 1) := by decide +kernel
theorem dX5_collect_81 : decode cX5_collect 81 = .ok (.aload_n 0, 1) := by decide +kernel
theorem dX5_collect_82 : decode cX5_collect 82 = .ok (.getfield 27, 3) := by decide +kernel
theorem dX5_collect_85 : decode cX5_collect 85 = .ok (.aload_n 0, 1) := by decide +kernel
theorem dX5_collect_86 : decode cX5_collect 86 = .ok (.getfield 34, 3) := by decide +kernel
theorem dX5_collect_89 : decode cX5_collect 89 = .ok (.iload_n 1, 1) := by decide +kernel
theorem dX5_collect_90 : decode cX5_collect 90 = .ok (.iload_n 2, 1) := by decide +kernel
theorem dX5_collect_91 : decode cX5_collect 91 = .ok (.invokevirtual 78, 3) := by decide +kernel
theorem dX5_collect_94 : decode cX5_collect 94 = .ok (.dup2, 1) := by decide +kernel
theorem dX5_collect_95 : decode cX5_collect 95 = .ok (.iaload, 1) := by decide +kernel
theorem dX5_collect_96 : decode cX5_collect 96 = .ok (.iload_n 3, 1) := by decide +kernel
theorem dX5_collect_97 : decode cX5_collect 97 = .ok (.iand, 1) := by decide +kernel
theorem dX5_collect_98 : decode cX5_collect 98 = .ok (.iastore, 1) := by decide +kernel
theorem dX5_collect_99 : decode cX5_collect 99 = .ok (.iinc 2 1, 3) := by decide +kernel
theorem dX5_collect_102 : decode cX5_collect 102 = .ok (.goto (-77), 3) := by decide +kernel
theorem dX5_collect_105 : decode cX5_collect 105 = .ok (.return_, 1) := by decide +kernel
theorem dX5_visit_0 : decode cX5_visit 0 = .ok (.aload_n 0, 1) := by decide +kernel
theorem dX5_visit_1 : decode cX5_visit 1 = .ok (.getfield 34, 3) := by decide +kernel
theorem dX5_visit_4 : decode cX5_visit 4 = .ok (.iload_n 1, 1) := by decide +kernel
theorem dX5_visit_5 : decode cX5_visit 5 = .ok (.iload_n 2, 1) := by decide +kernel
theorem dX5_visit_6 : decode cX5_visit 6 = .ok (.invokevirtual 81, 3) := by decide +kernel
theorem dX5_visit_9 : decode cX5_visit 9 = .ok (.istore_n 3, 1) := by decide +kernel
theorem dX5_visit_10 : decode cX5_visit 10 = .ok (.aload_n 0, 1) := by decide +kernel
theorem dX5_visit_11 : decode cX5_visit 11 = .ok (.getfield 34, 3) := by decide +kernel
theorem dX5_visit_14 : decode cX5_visit 14 = .ok (.iload_n 1, 1) := by decide +kernel
theorem dX5_visit_15 : decode cX5_visit 15 = .ok (.iload_n 2, 1) := by decide +kernel
theorem dX5_visit_16 : decode cX5_visit 16 = .ok (.invokevirtual 85, 3) := by decide +kernel
theorem dX5_visit_19 : decode cX5_visit 19 = .ok (.istore 4, 2) := by decide +kernel
theorem dX5_visit_21 : decode cX5_visit 21 = .ok (.iload_n 3, 1) := by decide +kernel
theorem dX5_visit_22 : decode cX5_visit 22 = .ok (.bipush 108, 2) := by decide +kernel
theorem dX5_visit_24 : decode cX5_visit 24 = .ok (.if_icmp .ne 25, 3) := by decide +kernel
theorem dX5_visit_27 : decode cX5_visit 27 = .ok (.aload_n 0, 1) := by decide +kernel
theorem dX5_visit_28 : decode cX5_visit 28 = .ok (.getfield 24, 3) := by decide +kernel
theorem dX5_visit_31 : decode cX5_visit 31 = .ok (.iload_n 1, 1) := by decide +kernel
theorem dX5_visit_32 : decode cX5_visit 32 = .ok (.aload_n 0, 1) := by decide +kernel
theorem dX5_visit_33 : decode cX5_visit 33 = .ok (.getfield 24, 3) := by decide +kernel
theorem dX5_visit_36 : decode cX5_visit 36 = .ok (.iload_n 1, 1) := by decide +kernel
theorem dX5_visit_37 : decode cX5_visit 37 = .ok (.iaload, 1) := by decide +kernel
theorem dX5_visit_38 : decode cX5_visit 38 = .ok (.iload 4, 2) := by decide +kernel
theorem dX5_visit_40 : decode cX5_visit 40 = .ok (.iconst 1, 1) := by decide +kernel
theorem dX5_visit_41 : decode cX5_visit 41 = .ok (.iadd, 1) := by decide +kernel
theorem dX5_visit_42 : decode cX5_visit 42 = .ok (.invokestatic 88, 3) := by decide +kernel
theorem dX5_visit_45 : decode cX5_visit 45 = .ok (.iastore, 1) := by decide +kernel
theorem dX5_visit_46 : decode cX5_visit 46 = .ok (.goto 74, 3) := by decide +kernel
theorem dX5_visit_49 : decode cX5_visit 49 = .ok (.iload_n 3, 1) := by decide +kernel
theorem dX5_visit_50 : decode cX5_visit 50 = .ok (.bipush 99, 2) := by decide +kernel
theorem dX5_visit_52 : decode cX5_visit 52 = .ok (.if_icmp .ne 68, 3) := by decide +kernel
theorem dX5_visit_55 : decode cX5_visit 55 = .ok (.aload_n 0, 1) := by decide +kernel
theorem dX5_visit_56 : decode cX5_visit 56 = .ok (.getfield 30, 3) := by decide +kernel
theorem dX5_visit_59 : decode cX5_visit 59 = .ok (.bipush 112, 2) := by decide +kernel
theorem dX5_visit_61 : decode cX5_visit 61 = .ok (.if_icmp .ge 59, 3) := by decide +kernel
theorem dX5_visit_64 : decode cX5_visit 64 = .ok (.aload_n 0, 1) := by decide +kernel
theorem dX5_visit_65 : decode cX5_visit 65 = .ok (.getfield 9, 3) := by decide +kernel
theorem dX5_visit_68 : decode cX5_visit 68 = .ok (.aload_n 0, 1) := by decide +kernel
theorem dX5_visit_69 : decode cX5_visit 69 = .ok (.getfield 30, 3) := by decide +kernel
theorem dX5_visit_72 : decode cX5_visit 72 = .ok (.iload_n 1, 1) := by decide +kernel
theorem dX5_visit_73 : decode cX5_visit 73 = .ok (.iastore, 1) := by decide +kernel
theorem dX5_visit_74 : decode cX5_visit 74 = .ok (.aload_n 0, 1) := by decide +kernel
theorem dX5_visit_75 : decode cX5_visit 75 = .ok (.getfield 15, 3) := by decide +kernel
theorem dX5_visit_78 : decode cX5_visit 78 = .ok (.aload_n 0, 1) := by decide +kernel
theorem dX5_visit_79 : decode cX5_visit 79 = .ok (.getfield 30, 3) := by decide +kernel
theorem dX5_visit_82 : decode cX5_visit 82 = .ok (.iload_n 2, 1) := by decide +kernel
theorem dX5_visit_83 : decode cX5_visit 83 = .ok (.iastore, 1) := by decide +kernel
theorem dX5_visit_84 : decode cX5_visit 84 = .ok (.aload_n 0, 1) := by decide +kernel
theorem dX5_visit_85 : decode cX5_visit 85 = .ok (.getfield 18, 3) := by decide +kernel
theorem dX5_visit_88 : decode cX5_visit 88 = .ok (.aload_n 0, 1) := by decide +kernel
theorem dX5_visit_89 : decode cX5_visit 89 = .ok (.getfield 30, 3) := by decide +kernel
theorem dX5_visit_92 : decode cX5_visit 92 = .ok (.iload 4, 2) := by decide +kernel
theorem dX5_visit_94 : decode cX5_visit 94 = .ok (.iastore, 1) := by decide +kernel
theorem dX5_visit_95 : decode cX5_visit 95 = .ok (.aload_n 0, 1) := by decide +kernel
theorem dX5_visit_96 : decode cX5_visit 96 = .ok (.getfield 21, 3) := by decide +kernel
theorem dX5_visit_99 : decode cX5_visit 99 = .ok (.aload_n 0, 1) := by decide +kernel
theorem dX5_visit_100 : decode cX5_visit 100 = .ok (.getfield 30, 3) := by decide +kernel
theorem dX5_visit_103 : decode cX5_visit 103 = .ok (.aload_n 0, 1) := by decide +kernel
theorem dX5_visit_104 : decode cX5_visit 104 = .ok (.getfield 27, 3) := by decide +kernel
theorem dX5_visit_107 : decode cX5_visit 107 = .ok (.iload_n 2, 1) := by decide +kernel
theorem dX5_visit_108 : decode cX5_visit 108 = .ok (.iaload, 1) := by decide +kernel
theorem dX5_visit_109 : decode cX5_visit 109 = .ok (.iastore, 1) := by decide +kernel
theorem dX5_visit_110 : decode cX5_visit 110 = .ok (.aload_n 0, 1) := by decide +kernel
theorem dX5_visit_111 : decode cX5_visit 111 = .ok (.dup, 1) := by decide +kernel
theorem dX5_visit_112 : decode cX5_visit 112 = .ok (.getfield 30, 3) := by decide +kernel
theorem dX5_visit_115 : decode cX5_visit 115 = .ok (.iconst 1, 1) := by decide +kernel
theorem dX5_visit_116 : decode cX5_visit 116 = .ok (.iadd, 1) := by decide +kernel
theorem dX5_visit_117 : decode cX5_visit 117 = .ok (.putfield 30, 3) := by decide +kernel
theorem dX5_visit_120 : decode cX5_visit 120 = .ok (.return_, 1) := by decide +kernel
theorem dX5_storedBehind_0 : decode cX5_storedBehind 0 = .ok (.aload_n 0, 1) := by decide +kernel
theorem dX5_storedBehind_1 : decode cX5_storedBehind 1 = .ok (.getfield 34, 3) := by decide +kernel
theorem dX5_storedBehind_4 : decode cX5_storedBehind 4 = .ok (.iload_n 1, 1) := by decide +kernel
theorem dX5_storedBehind_5 : decode cX5_storedBehind 5 = .ok (.iload_n 2, 1) := by decide +kernel
theorem dX5_storedBehind_6 : decode cX5_storedBehind 6 = .ok (.invokevirtual 81, 3) := by decide +kernel
theorem dX5_storedBehind_9 : decode cX5_storedBehind 9 = .ok (.istore_n 3, 1) := by decide +kernel
theorem dX5_storedBehind_10 : decode cX5_storedBehind 10 = .ok (.iload_n 3, 1) := by decide +kernel
theorem dX5_storedBehind_11 : decode cX5_storedBehind 11 = .ok (.bipush 99, 2) := by decide +kernel
theorem dX5_storedBehind_13 : decode cX5_storedBehind 13 = .ok (.if_icmp .ne 5, 3) := by decide +kernel
theorem dX5_storedBehind_16 : decode cX5_storedBehind 16 = .ok (.iconst 0, 1) := by decide +kernel
theorem dX5_storedBehind_17 : decode cX5_storedBehind 17 = .ok (.ireturn, 1) := by decide +kernel
theorem dX5_storedBehind_18 : decode cX5_storedBehind 18 = .ok (.iload_n 3, 1) := by decide +kernel
theorem dX5_storedBehind_19 : decode cX5_storedBehind 19 = .ok (.bipush 115, 2) := by decide +kernel
theorem dX5_storedBehind_21 : decode cX5_storedBehind 21 = .ok (.if_icmp .ne 17, 3) := by decide +kernel
theorem dX5_storedBehind_24 : decode cX5_storedBehind 24 = .ok (.iconst 1, 1) := by decide +kernel
theorem dX5_storedBehind_25 : decode cX5_storedBehind 25 = .ok (.aload_n 0, 1) := by decide +kernel
theorem dX5_storedBehind_26 : decode cX5_storedBehind 26 = .ok (.getfield 34, 3) := by decide +kernel
theorem dX5_storedBehind_29 : decode cX5_storedBehind 29 = .ok (.iload_n 1, 1) := by decide +kernel
theorem dX5_storedBehind_30 : decode cX5_storedBehind 30 = .ok (.iload_n 2, 1) := by decide +kernel
theorem dX5_storedBehind_31 : decode cX5_storedBehind 31 = .ok (.invokevirtual 85, 3) := by decide +kernel
theorem dX5_storedBehind_34 : decode cX5_storedBehind 34 = .ok (.ishl, 1) := by decide +kernel
theorem dX5_storedBehind_35 : decode cX5_storedBehind 35 = .ok (.goto 4, 3) := by decide +kernel
theorem dX5_storedBehind_38 : decode cX5_storedBehind 38 = .ok (.iconst 0, 1) := by decide +kernel
theorem dX5_storedBehind_39 : decode cX5_storedBehind 39 = .ok (.istore 4, 2) := by decide +kernel
theorem dX5_storedBehind_41 : decode cX5_storedBehind 41 = .ok (.aload_n 0, 1) := by decide +kernel
theorem dX5_storedBehind_42 : decode cX5_storedBehind 42 = .ok (.getfield 27, 3) := by decide +kernel
theorem dX5_storedBehind_45 : decode cX5_storedBehind 45 = .ok (.iload_n 2, 1) := by decide +kernel
theorem dX5_storedBehind_46 : decode cX5_storedBehind 46 = .ok (.iaload, 1) := by decide +kernel
theorem dX5_storedBehind_47 : decode cX5_storedBehind 47 = .ok (.iload 4, 2) := by decide +kernel
theorem dX5_storedBehind_49 : decode cX5_storedBehind 49 = .ok (.ior, 1) := by decide +kernel
theorem dX5_storedBehind_50 : decode cX5_storedBehind 50 = .ok (.ireturn, 1) := by decide +kernel
theorem dX5_missing_0 : decode cX5_missing 0 = .ok (.iconst 1, 1) := by decide +kernel
theorem dX5_missing_1 : decode cX5_missing 1 = .ok (.aload_n 0, 1) := by decide +kernel
theorem dX5_missing_2 : decode cX5_missing 2 = .ok (.getfield 24, 3) := by decide +kernel
theorem dX5_missing_5 : decode cX5_missing 5 = .ok (.aload_n 0, 1) := by decide +kernel
theorem dX5_missing_6 : decode cX5_missing 6 = .ok (.getfield 18, 3) := by decide +kernel
theorem dX5_missing_9 : decode cX5_missing 9 = .ok (.iload_n 1, 1) := by decide +kernel
theorem dX5_missing_10 : decode cX5_missing 10 = .ok (.iaload, 1) := by decide +kernel
theorem dX5_missing_11 : decode cX5_missing 11 = .ok (.iaload, 1) := by decide +kernel
theorem dX5_missing_12 : decode cX5_missing 12 = .ok (.ishl, 1) := by decide +kernel
theorem dX5_missing_13 : decode cX5_missing 13 = .ok (.iconst 1, 1) := by decide +kernel
theorem dX5_missing_14 : decode cX5_missing 14 = .ok (.isub, 1) := by decide +kernel
theorem dX5_missing_15 : decode cX5_missing 15 = .ok (.istore_n 2, 1) := by decide +kernel
theorem dX5_missing_16 : decode cX5_missing 16 = .ok (.iload_n 2, 1) := by decide +kernel
theorem dX5_missing_17 : decode cX5_missing 17 = .ok (.aload_n 0, 1) := by decide +kernel
theorem dX5_missing_18 : decode cX5_missing 18 = .ok (.getfield 21, 3) := by decide +kernel
theorem dX5_missing_21 : decode cX5_missing 21 = .ok (.iload_n 1, 1) := by decide +kernel
theorem dX5_missing_22 : decode cX5_missing 22 = .ok (.iaload, 1) := by decide +kernel
theorem dX5_missing_23 : decode cX5_missing 23 = .ok (.iconst (-1), 1) := by decide +kernel
theorem dX5_missing_24 : decode cX5_missing 24 = .ok (.ixor, 1) := by decide +kernel
theorem dX5_missing_25 : decode cX5_missing 25 = .ok (.iand, 1) := by decide +kernel
theorem dX5_missing_26 : decode cX5_missing 26 = .ok (.ireturn, 1) := by decide +kernel
theorem dX5_differFor_0 : decode cX5_differFor 0 = .ok (.iconst (-1), 1) := by decide +kernel
theorem dX5_differFor_1 : decode cX5_differFor 1 = .ok (.istore_n 2, 1) := by decide +kernel
theorem dX5_differFor_2 : decode cX5_differFor 2 = .ok (.iconst 0, 1) := by decide +kernel
theorem dX5_differFor_3 : decode cX5_differFor 3 = .ok (.istore_n 3, 1) := by decide +kernel
theorem dX5_differFor_4 : decode cX5_differFor 4 = .ok (.iload_n 3, 1) := by decide +kernel
theorem dX5_differFor_5 : decode cX5_differFor 5 = .ok (.aload_n 0, 1) := by decide +kernel
theorem dX5_differFor_6 : decode cX5_differFor 6 = .ok (.getfield 30, 3) := by decide +kernel
theorem dX5_differFor_9 : decode cX5_differFor 9 = .ok (.if_icmp .ge 42, 3) := by decide +kernel
theorem dX5_differFor_12 : decode cX5_differFor 12 = .ok (.aload_n 0, 1) := by decide +kernel
theorem dX5_differFor_13 : decode cX5_differFor 13 = .ok (.getfield 18, 3) := by decide +kernel
theorem dX5_differFor_16 : decode cX5_differFor 16 = .ok (.iload_n 3, 1) := by decide +kernel
theorem dX5_differFor_17 : decode cX5_differFor 17 = .ok (.iaload, 1) := by decide +kernel
theorem dX5_differFor_18 : decode cX5_differFor 18 = .ok (.iload_n 1, 1) := by decide +kernel
theorem dX5_differFor_19 : decode cX5_differFor 19 = .ok (.if_icmp .ne 26, 3) := by decide +kernel
theorem dX5_differFor_22 : decode cX5_differFor 22 = .ok (.iload_n 2, 1) := by decide +kernel
theorem dX5_differFor_23 : decode cX5_differFor 23 = .ok (.ifCond .lt 20, 3) := by decide +kernel
theorem dX5_differFor_26 : decode cX5_differFor 26 = .ok (.aload_n 0, 1) := by decide +kernel
theorem dX5_differFor_27 : decode cX5_differFor 27 = .ok (.getfield 21, 3) := by decide +kernel
theorem dX5_differFor_30 : decode cX5_differFor 30 = .ok (.iload_n 3, 1) := by decide +kernel
theorem dX5_differFor_31 : decode cX5_differFor 31 = .ok (.iaload, 1) := by decide +kernel
theorem dX5_differFor_32 : decode cX5_differFor 32 = .ok (.aload_n 0, 1) := by decide +kernel
theorem dX5_differFor_33 : decode cX5_differFor 33 = .ok (.getfield 21, 3) := by decide +kernel
theorem dX5_differFor_36 : decode cX5_differFor 36 = .ok (.iload_n 2, 1) := by decide +kernel
theorem dX5_differFor_37 : decode cX5_differFor 37 = .ok (.iaload, 1) := by decide +kernel
theorem dX5_differFor_38 : decode cX5_differFor 38 = .ok (.if_icmp .eq 5, 3) := by decide +kernel
theorem dX5_differFor_41 : decode cX5_differFor 41 = .ok (.iconst 1, 1) := by decide +kernel
theorem dX5_differFor_42 : decode cX5_differFor 42 = .ok (.ireturn, 1) := by decide +kernel
theorem dX5_differFor_43 : decode cX5_differFor 43 = .ok (.iload_n 3, 1) := by decide +kernel
theorem dX5_differFor_44 : decode cX5_differFor 44 = .ok (.istore_n 2, 1) := by decide +kernel
theorem dX5_differFor_45 : decode cX5_differFor 45 = .ok (.iinc 3 1, 3) := by decide +kernel
theorem dX5_differFor_48 : decode cX5_differFor 48 = .ok (.goto (-44), 3) := by decide +kernel
theorem dX5_differFor_51 : decode cX5_differFor 51 = .ok (.iconst 0, 1) := by decide +kernel
theorem dX5_differFor_52 : decode cX5_differFor 52 = .ok (.ireturn, 1) := by decide +kernel
theorem dX6_init_0 : decode cX6_init 0 = .ok (.aload_n 0, 1) := by decide +kernel
theorem dX6_init_1 : decode cX6_init 1 = .ok (.invokespecial 3, 3) := by decide +kernel
theorem dX6_init_4 : decode cX6_init 4 = .ok (.aload_n 0, 1) := by decide +kernel
theorem dX6_init_5 : decode cX6_init 5 = .ok (.bipush 60, 2) := by decide +kernel
theorem dX6_init_7 : decode cX6_init 7 = .ok (.newarray .char, 2) := by decide +kernel
theorem dX6_init_9 : decode cX6_init 9 = .ok (.putfield 9, 3) := by decide +kernel
theorem dX6_init_12 : decode cX6_init 12 = .ok (.aload_n 0, 1) := by decide +kernel
theorem dX6_init_13 : decode cX6_init 13 = .ok (.bipush 14, 2) := by decide +kernel
theorem dX6_init_15 : decode cX6_init 15 = .ok (.newarray .char, 2) := by decide +kernel
theorem dX6_init_17 : decode cX6_init 17 = .ok (.putfield 15, 3) := by decide +kernel
theorem dX6_init_20 : decode cX6_init 20 = .ok (.aload_n 0, 1) := by decide +kernel
theorem dX6_init_21 : decode cX6_init 21 = .ok (.bipush 14, 2) := by decide +kernel
theorem dX6_init_23 : decode cX6_init 23 = .ok (.newarray .int, 2) := by decide +kernel
theorem dX6_init_25 : decode cX6_init 25 = .ok (.putfield 18, 3) := by decide +kernel
theorem dX6_init_28 : decode cX6_init 28 = .ok (.aload_n 0, 1) := by decide +kernel
theorem dX6_init_29 : decode cX6_init 29 = .ok (.iconst 0, 1) := by decide +kernel
theorem dX6_init_30 : decode cX6_init 30 = .ok (.putfield 22, 3) := by decide +kernel
theorem dX6_init_33 : decode cX6_init 33 = .ok (.aload_n 0, 1) := by decide +kernel
theorem dX6_init_34 : decode cX6_init 34 = .ok (.iconst 0, 1) := by decide +kernel
theorem dX6_init_35 : decode cX6_init 35 = .ok (.putfield 26, 3) := by decide +kernel
theorem dX6_init_38 : decode cX6_init 38 = .ok (.aload_n 0, 1) := by decide +kernel
theorem dX6_init_39 : decode cX6_init 39 = .ok (.iconst (-1), 1) := by decide +kernel
theorem dX6_init_40 : decode cX6_init 40 = .ok (.putfield 29, 3) := by decide +kernel
theorem dX6_init_43 : decode cX6_init 43 = .ok (.return_, 1) := by decide +kernel
theorem dX6_read_0 : decode cX6_read 0 = .ok (.aload_n 0, 1) := by decide +kernel
theorem dX6_read_1 : decode cX6_read 1 = .ok (.iconst 0, 1) := by decide +kernel
theorem dX6_read_2 : decode cX6_read 2 = .ok (.putfield 26, 3) := by decide +kernel
theorem dX6_read_5 : decode cX6_read 5 = .ok (.aload_n 0, 1) := by decide +kernel
theorem dX6_read_6 : decode cX6_read 6 = .ok (.aload_n 0, 1) := by decide +kernel
theorem dX6_read_7 : decode cX6_read 7 = .ok (.invokevirtual 32, 3) := by decide +kernel
theorem dX6_read_10 : decode cX6_read 10 = .ok (.putfield 29, 3) := by decide +kernel
theorem dX6_read_13 : decode cX6_read 13 = .ok (.aload_n 0, 1) := by decide +kernel
theorem dX6_read_14 : decode cX6_read 14 = .ok (.iconst 0, 1) := by decide +kernel
theorem dX6_read_15 : decode cX6_read 15 = .ok (.putfield 22, 3) := by decide +kernel
theorem dX6_read_18 : decode cX6_read 18 = .ok (.return_, 1) := by decide +kernel
theorem dX6_findFault_0 : decode cX6_findFault 0 = .ok (.iconst 1, 1) := by decide +kernel
theorem dX6_findFault_1 : decode cX6_findFault 1 = .ok (.istore_n 1, 1) := by decide +kernel
theorem dX6_findFault_2 : decode cX6_findFault 2 = .ok (.bipush 114, 2) := by decide +kernel
theorem dX6_findFault_4 : decode cX6_findFault 4 = .ok (.istore_n 2, 1) := by decide +kernel
theorem dX6_findFault_5 : decode cX6_findFault 5 = .ok (.iconst 0, 1) := by decide +kernel
theorem dX6_findFault_6 : decode cX6_findFault 6 = .ok (.istore_n 3, 1) := by decide +kernel
theorem dX6_findFault_7 : decode cX6_findFault 7 = .ok (.iconst 0, 1) := by decide +kernel
theorem dX6_findFault_8 : decode cX6_findFault 8 = .ok (.istore 4, 2) := by decide +kernel
theorem dX6_findFault_10 : decode cX6_findFault 10 = .ok (.iconst 0, 1) := by decide +kernel
theorem dX6_findFault_11 : decode cX6_findFault 11 = .ok (.istore 5, 2) := by decide +kernel
theorem dX6_findFault_13 : decode cX6_findFault 13 = .ok (.iload 5, 2) := by decide +kernel
theorem dX6_findFault_15 : decode cX6_findFault 15 = .ok (.aload_n 0, 1) := by decide +kernel
theorem dX6_findFault_16 : decode cX6_findFault 16 = .ok (.getfield 22, 3) := by decide +kernel
theorem dX6_findFault_19 : decode cX6_findFault 19 = .ok (.if_icmp .ge 99, 3) := by decide +kernel
theorem dX6_findFault_22 : decode cX6_findFault 22 = .ok (.aload_n 0, 1) := by decide +kernel
theorem dX6_findFault_23 : decode cX6_findFault 23 = .ok (.getfield 9, 3) := by decide +kernel
theorem dX6_findFault_26 : decode cX6_findFault 26 = .ok (.iload 5, 2) := by decide +kernel
theorem dX6_findFault_28 : decode cX6_findFault 28 = .ok (.caload, 1) := by decide +kernel
theorem dX6_findFault_29 : decode cX6_findFault 29 = .ok (.istore 6, 2) := by decide +kernel
theorem dX6_findFault_31 : decode cX6_findFault 31 = .ok (.iload_n 1, 1) := by decide +kernel
theorem dX6_findFault_32 : decode cX6_findFault 32 = .ok (.ifCond .eq 28, 3) := by decide +kernel
theorem dX6_findFault_35 : decode cX6_findFault 35 = .ok (.iload 6, 2) := by decide +kernel
theorem dX6_findFault_37 : decode cX6_findFault 37 = .ok (.istore_n 2, 1) := by decide +kernel
theorem dX6_findFault_38 : decode cX6_findFault 38 = .ok (.iconst 0, 1) := by decide +kernel
theorem dX6_findFault_39 : decode cX6_findFault 39 = .ok (.istore_n 3, 1) := by decide +kernel
theorem dX6_findFault_40 : decode cX6_findFault 40 = .ok (.iload 6, 2) := by decide +kernel
theorem dX6_findFault_42 : decode cX6_findFault 42 = .ok (.invokestatic 36, 3) := by decide +kernel
theorem dX6_findFault_45 : decode cX6_findFault 45 = .ok (.istore 4, 2) := by decide +kernel
theorem dX6_findFault_47 : decode cX6_findFault 47 = .ok (.iload 4, 2) := by decide +kernel
theorem dX6_findFault_49 : decode cX6_findFault 49 = .ok (.ifCond .ge 6, 3) := by decide +kernel
theorem dX6_findFault_52 : decode cX6_findFault 52 = .ok (.iload 5, 2) := by decide +kernel
theorem dX6_findFault_54 : decode cX6_findFault 54 = .ok (.ireturn, 1) := by decide +kernel
theorem dX6_findFault_55 : decode cX6_findFault 55 = .ok (.iconst 0, 1) := by decide +kernel
theorem dX6_findFault_56 : decode cX6_findFault 56 = .ok (.istore_n 1, 1) := by decide +kernel
theorem dX6_findFault_57 : decode cX6_findFault 57 = .ok (.goto 55, 3) := by decide +kernel
theorem dX6_findFault_60 : decode cX6_findFault 60 = .ok (.iload 4, 2) := by decide +kernel
theorem dX6_findFault_62 : decode cX6_findFault 62 = .ok (.ifCond .le 32, 3) := by decide +kernel
theorem dX6_findFault_65 : decode cX6_findFault 65 = .ok (.iload_n 2, 1) := by decide +kernel
theorem dX6_findFault_66 : decode cX6_findFault 66 = .ok (.iload 6, 2) := by decide +kernel
theorem dX6_findFault_68 : decode cX6_findFault 68 = .ok (.invokestatic 40, 3) := by decide +kernel
theorem dX6_findFault_71 : decode cX6_findFault 71 = .ok (.ifCond .ne 6, 3) := by decide +kernel
theorem dX6_findFault_74 : decode cX6_findFault 74 = .ok (.iload 5, 2) := by decide +kernel
theorem dX6_findFault_76 : decode cX6_findFault 76 = .ok (.ireturn, 1) := by decide +kernel
theorem dX6_findFault_77 : decode cX6_findFault 77 = .ok (.bipush 10, 2) := by decide +kernel
theorem dX6_findFault_79 : decode cX6_findFault 79 = .ok (.iload_n 3, 1) := by decide +kernel
theorem dX6_findFault_80 : decode cX6_findFault 80 = .ok (.imul, 1) := by decide +kernel
theorem dX6_findFault_81 : decode cX6_findFault 81 = .ok (.iload 6, 2) := by decide +kernel
theorem dX6_findFault_83 : decode cX6_findFault 83 = .ok (.bipush 48, 2) := by decide +kernel
theorem dX6_findFault_85 : decode cX6_findFault 85 = .ok (.isub, 1) := by decide +kernel
theorem dX6_findFault_86 : decode cX6_findFault 86 = .ok (.iadd, 1) := by decide +kernel
theorem dX6_findFault_87 : decode cX6_findFault 87 = .ok (.istore_n 3, 1) := by decide +kernel
theorem dX6_findFault_88 : decode cX6_findFault 88 = .ok (.iinc 4 (-1), 3) := by decide +kernel
theorem dX6_findFault_91 : decode cX6_findFault 91 = .ok (.goto 21, 3) := by decide +kernel
theorem dX6_findFault_94 : decode cX6_findFault 94 = .ok (.iload 6, 2) := by decide +kernel
theorem dX6_findFault_96 : decode cX6_findFault 96 = .ok (.bipush 59, 2) := by decide +kernel
theorem dX6_findFault_98 : decode cX6_findFault 98 = .ok (.if_icmp .eq 6, 3) := by decide +kernel
theorem dX6_findFault_101 : decode cX6_findFault 101 = .ok (.iload 5, 2) := by decide +kernel
theorem dX6_findFault_103 : decode cX6_findFault 103 = .ok (.ireturn, 1) := by decide +kernel
theorem dX6_findFault_104 : decode cX6_findFault 104 = .ok (.aload_n 0, 1) := by decide +kernel
theorem dX6_findFault_105 : decode cX6_findFault 105 = .ok (.iload_n 2, 1) := by decide +kernel
theorem dX6_findFault_106 : decode cX6_findFault 106 = .ok (.iload_n 3, 1) := by decide +kernel
theorem dX6_findFault_107 : decode cX6_findFault 107 = .ok (.invokevirtual 44, 3) := by decide +kernel
theorem dX6_findFault_110 : decode cX6_findFault 110 = .ok (.iconst 1, 1) := by decide +kernel
theorem dX6_findFault_111 : decode cX6_findFault 111 = .ok (.istore_n 1, 1) := by decide +kernel
theorem dX6_findFault_112 : decode cX6_findFault 112 = .ok (.iinc 5 1, 3) := by decide +kernel
theorem dX6_findFault_115 : decode cX6_findFault 115 = .ok (.goto (-102), 3) := by decide +kernel
theorem dX6_findFault_118 : decode cX6_findFault 118 = .ok (.aload_n 0, 1) := by decide +kernel
theorem dX6_findFault_119 : decode cX6_findFault 119 = .ok (.getfield 22, 3) := by decide +kernel
theorem dX6_findFault_122 : decode cX6_findFault 122 = .ok (.ifCond .ne 5, 3) := by decide +kernel
theorem dX6_findFault_125 : decode cX6_findFault 125 = .ok (.iconst (-1), 1) := by decide +kernel
theorem dX6_findFault_126 : decode cX6_findFault 126 = .ok (.ireturn, 1) := by decide +kernel
theorem dX6_findFault_127 : decode cX6_findFault 127 = .ok (.iload_n 1, 1) := by decide +kernel
theorem dX6_findFault_128 : decode cX6_findFault 128 = .ok (.ifCond .ne 8, 3) := by decide +kernel
theorem dX6_findFault_131 : decode cX6_findFault 131 = .ok (.iload 4, 2) := by decide +kernel
theorem dX6_findFault_133 : decode cX6_findFault 133 = .ok (.ifCond .le 8, 3) := by decide +kernel
theorem dX6_findFault_136 : decode cX6_findFault 136 = .ok (.aload_n 0, 1) := by decide +kernel
theorem dX6_findFault_137 : decode cX6_findFault 137 = .ok (.getfield 22, 3) := by decide +kernel
theorem dX6_findFault_140 : decode cX6_findFault 140 = .ok (.ireturn, 1) := by decide +kernel
theorem dX6_findFault_141 : decode cX6_findFault 141 = .ok (.aload_n 0, 1) := by decide +kernel
theorem dX6_findFault_142 : decode cX6_findFault 142 = .ok (.iload_n 2, 1) := by decide +kernel
theorem dX6_findFault_143 : decode cX6_findFault 143 = .ok (.iload_n 3, 1) := by decide +kernel
theorem dX6_findFault_144 : decode cX6_findFault 144 = .ok (.invokevirtual 44, 3) := by decide +kernel
theorem dX6_findFault_147 : decode cX6_findFault 147 = .ok (.iconst (-1), 1) := by decide +kernel
theorem dX6_findFault_148 : decode cX6_findFault 148 = .ok (.ireturn, 1) := by decide +kernel
theorem dX6_keep_0 : decode cX6_keep 0 = .ok (.aload_n 0, 1) := by decide +kernel
theorem dX6_keep_1 : decode cX6_keep 1 = .ok (.getfield 26, 3) := by decide +kernel
theorem dX6_keep_4 : decode cX6_keep 4 = .ok (.bipush 14, 2) := by decide +kernel
theorem dX6_keep_6 : decode cX6_keep 6 = .ok (.if_icmp .ge 23, 3) := by decide +kernel
theorem dX6_keep_9 : decode cX6_keep 9 = .ok (.aload_n 0, 1) := by decide +kernel
theorem dX6_keep_10 : decode cX6_keep 10 = .ok (.getfield 15, 3) := by decide +kernel
theorem dX6_keep_13 : decode cX6_keep 13 = .ok (.aload_n 0, 1) := by decide +kernel
theorem dX6_keep_14 : decode cX6_keep 14 = .ok (.getfield 26, 3) := by decide +kernel
theorem dX6_keep_17 : decode cX6_keep 17 = .ok (.iload_n 1, 1) := by decide +kernel
theorem dX6_keep_18 : decode cX6_keep 18 = .ok (.castore, 1) := by decide +kernel
theorem dX6_keep_19 : decode cX6_keep 19 = .ok (.aload_n 0, 1) := by decide +kernel
theorem dX6_keep_20 : decode cX6_keep 20 = .ok (.getfield 18, 3) := by decide +kernel
theorem dX6_keep_23 : decode cX6_keep 23 = .ok (.aload_n 0, 1) := by decide +kernel
theorem dX6_keep_24 : decode cX6_keep 24 = .ok (.getfield 26, 3) := by decide +kernel
theorem dX6_keep_27 : decode cX6_keep 27 = .ok (.iload_n 2, 1) := by decide +kernel
theorem dX6_keep_28 : decode cX6_keep 28 = .ok (.iastore, 1) := by decide +kernel
theorem dX6_keep_29 : decode cX6_keep 29 = .ok (.aload_n 0, 1) := by decide +kernel
theorem dX6_keep_30 : decode cX6_keep 30 = .ok (.dup, 1) := by decide +kernel
theorem dX6_keep_31 : decode cX6_keep 31 = .ok (.getfield 26, 3) := by decide +kernel
theorem dX6_keep_34 : decode cX6_keep 34 = .ok (.iconst 1, 1) := by decide +kernel
theorem dX6_keep_35 : decode cX6_keep 35 = .ok (.iadd, 1) := by decide +kernel
theorem dX6_keep_36 : decode cX6_keep 36 = .ok (.putfield 26, 3) := by decide +kernel
theorem dX6_keep_39 : decode cX6_keep 39 = .ok (.return_, 1) := by decide +kernel
theorem dX6_digitsBehind_0 : decode cX6_digitsBehind 0 = .ok (.iload_n 0, 1) := by decide +kernel
theorem dX6_digitsBehind_1 : decode cX6_digitsBehind 1 = .ok (.bipush 109, 2) := by decide +kernel
theorem dX6_digitsBehind_3 : decode cX6_digitsBehind 3 = .ok (.if_icmp .ne 5, 3) := by decide +kernel
theorem dX6_digitsBehind_6 : decode cX6_digitsBehind 6 = .ok (.iconst 2, 1) := by decide +kernel
theorem dX6_digitsBehind_7 : decode cX6_digitsBehind 7 = .ok (.ireturn, 1) := by decide +kernel
theorem dX6_digitsBehind_8 : decode cX6_digitsBehind 8 = .ok (.iload_n 0, 1) := by decide +kernel
theorem dX6_digitsBehind_9 : decode cX6_digitsBehind 9 = .ok (.bipush 114, 2) := by decide +kernel
theorem dX6_digitsBehind_11 : decode cX6_digitsBehind 11 = .ok (.if_icmp .ne 5, 3) := by decide +kernel
theorem dX6_digitsBehind_14 : decode cX6_digitsBehind 14 = .ok (.iconst 0, 1) := by decide +kernel
theorem dX6_digitsBehind_15 : decode cX6_digitsBehind 15 = .ok (.ireturn, 1) := by decide +kernel
theorem dX6_digitsBehind_16 : decode cX6_digitsBehind 16 = .ok (.iload_n 0, 1) := by decide +kernel
theorem dX6_digitsBehind_17 : decode cX6_digitsBehind 17 = .ok (.bipush 117, 2) := by decide +kernel
theorem dX6_digitsBehind_19 : decode cX6_digitsBehind 19 = .ok (.if_icmp .eq 45, 3) := by decide +kernel
theorem dX6_digitsBehind_22 : decode cX6_digitsBehind 22 = .ok (.iload_n 0, 1) := by decide +kernel
theorem dX6_digitsBehind_23 : decode cX6_digitsBehind 23 = .ok (.bipush 100, 2) := by decide +kernel
theorem dX6_digitsBehind_25 : decode cX6_digitsBehind 25 = .ok (.if_icmp .eq 39, 3) := by decide +kernel
theorem dX6_digitsBehind_28 : decode cX6_digitsBehind 28 = .ok (.iload_n 0, 1) := by decide +kernel
theorem dX6_digitsBehind_29 : decode cX6_digitsBehind 29 = .ok (.bipush 43, 2) := by decide +kernel
theorem dX6_digitsBehind_31 : decode cX6_digitsBehind 31 = .ok (.if_icmp .eq 33, 3) := by decide +kernel
theorem dX6_digitsBehind_34 : decode cX6_digitsBehind 34 = .ok (.iload_n 0, 1) := by decide +kernel
theorem dX6_digitsBehind_35 : decode cX6_digitsBehind 35 = .ok (.bipush 45, 2) := by decide +kernel
theorem dX6_digitsBehind_37 : decode cX6_digitsBehind 37 = .ok (.if_icmp .eq 27, 3) := by decide +kernel
theorem dX6_digitsBehind_40 : decode cX6_digitsBehind 40 = .ok (.iload_n 0, 1) := by decide +kernel
theorem dX6_digitsBehind_41 : decode cX6_digitsBehind 41 = .ok (.bipush 99, 2) := by decide +kernel
theorem dX6_digitsBehind_43 : decode cX6_digitsBehind 43 = .ok (.if_icmp .eq 21, 3) := by decide +kernel
theorem dX6_digitsBehind_46 : decode cX6_digitsBehind 46 = .ok (.iload_n 0, 1) := by decide +kernel
theorem dX6_digitsBehind_47 : decode cX6_digitsBehind 47 = .ok (.bipush 108, 2) := by decide +kernel
theorem dX6_digitsBehind_49 : decode cX6_digitsBehind 49 = .ok (.if_icmp .eq 15, 3) := by decide +kernel
theorem dX6_digitsBehind_52 : decode cX6_digitsBehind 52 = .ok (.iload_n 0, 1) := by decide +kernel
theorem dX6_digitsBehind_53 : decode cX6_digitsBehind 53 = .ok (.bipush 115, 2) := by decide +kernel
theorem dX6_digitsBehind_55 : decode cX6_digitsBehind 55 = .ok (.if_icmp .eq 9, 3) := by decide +kernel
theorem dX6_digitsBehind_58 : decode cX6_digitsBehind 58 = .ok (.iload_n 0, 1) := by decide +kernel
theorem dX6_digitsBehind_59 : decode cX6_digitsBehind 59 = .ok (.bipush 98, 2) := by decide +kernel
theorem dX6_digitsBehind_61 : decode cX6_digitsBehind 61 = .ok (.if_icmp .ne 7, 3) := by decide +kernel
theorem dX6_digitsBehind_64 : decode cX6_digitsBehind 64 = .ok (.iconst 1, 1) := by decide +kernel
theorem dX6_digitsBehind_65 : decode cX6_digitsBehind 65 = .ok (.goto 4, 3) := by decide +kernel
theorem dX6_digitsBehind_68 : decode cX6_digitsBehind 68 = .ok (.iconst 0, 1) := by decide +kernel
theorem dX6_digitsBehind_69 : decode cX6_digitsBehind 69 = .ok (.istore_n 1, 1) := by decide +kernel
theorem dX6_digitsBehind_70 : decode cX6_digitsBehind 70 = .ok (.iload_n 1, 1) := by decide +kernel
theorem dX6_digitsBehind_71 : decode cX6_digitsBehind 71 = .ok (.ifCond .eq 7, 3) := by decide +kernel
theorem dX6_digitsBehind_74 : decode cX6_digitsBehind 74 = .ok (.iconst 1, 1) := by decide +kernel
theorem dX6_digitsBehind_75 : decode cX6_digitsBehind 75 = .ok (.goto 4, 3) := by decide +kernel
theorem dX6_digitsBehind_78 : decode cX6_digitsBehind 78 = .ok (.iconst (-1), 1) := by decide +kernel
theorem dX6_digitsBehind_79 : decode cX6_digitsBehind 79 = .ok (.ireturn, 1) := by decide +kernel
theorem dX6_fits_0 : decode cX6_fits 0 = .ok (.iload_n 0, 1) := by decide +kernel
theorem dX6_fits_1 : decode cX6_fits 1 = .ok (.bipush 98, 2) := by decide +kernel
theorem dX6_fits_3 : decode cX6_fits 3 = .ok (.if_icmp .ne 21, 3) := by decide +kernel
theorem dX6_fits_6 : decode cX6_fits 6 = .ok (.iload_n 1, 1) := by decide +kernel
theorem dX6_fits_7 : decode cX6_fits 7 = .ok (.bipush 49, 2) := by decide +kernel
theorem dX6_fits_9 : decode cX6_fits 9 = .ok (.if_icmp .lt 13, 3) := by decide +kernel
theorem dX6_fits_12 : decode cX6_fits 12 = .ok (.iload_n 1, 1) := by decide +kernel
theorem dX6_fits_13 : decode cX6_fits 13 = .ok (.bipush 57, 2) := by decide +kernel
theorem dX6_fits_15 : decode cX6_fits 15 = .ok (.if_icmp .gt 7, 3) := by decide +kernel
theorem dX6_fits_18 : decode cX6_fits 18 = .ok (.iconst 1, 1) := by decide +kernel
theorem dX6_fits_19 : decode cX6_fits 19 = .ok (.goto 4, 3) := by decide +kernel
theorem dX6_fits_22 : decode cX6_fits 22 = .ok (.iconst 0, 1) := by decide +kernel
theorem dX6_fits_23 : decode cX6_fits 23 = .ok (.ireturn, 1) := by decide +kernel
theorem dX6_fits_24 : decode cX6_fits 24 = .ok (.iload_n 0, 1) := by decide +kernel
theorem dX6_fits_25 : decode cX6_fits 25 = .ok (.bipush 108, 2) := by decide +kernel
theorem dX6_fits_27 : decode cX6_fits 27 = .ok (.if_icmp .eq 9, 3) := by decide +kernel
theorem dX6_fits_30 : decode cX6_fits 30 = .ok (.iload_n 0, 1) := by decide +kernel
theorem dX6_fits_31 : decode cX6_fits 31 = .ok (.bipush 115, 2) := by decide +kernel
theorem dX6_fits_33 : decode cX6_fits 33 = .ok (.if_icmp .ne 21, 3) := by decide +kernel
theorem dX6_fits_36 : decode cX6_fits 36 = .ok (.iload_n 1, 1) := by decide +kernel
theorem dX6_fits_37 : decode cX6_fits 37 = .ok (.bipush 48, 2) := by decide +kernel
theorem dX6_fits_39 : decode cX6_fits 39 = .ok (.if_icmp .lt 13, 3) := by decide +kernel
theorem dX6_fits_42 : decode cX6_fits 42 = .ok (.iload_n 1, 1) := by decide +kernel
theorem dX6_fits_43 : decode cX6_fits 43 = .ok (.bipush 51, 2) := by decide +kernel
theorem dX6_fits_45 : decode cX6_fits 45 = .ok (.if_icmp .gt 7, 3) := by decide +kernel
theorem dX6_fits_48 : decode cX6_fits 48 = .ok (.iconst 1, 1) := by decide +kernel
theorem dX6_fits_49 : decode cX6_fits 49 = .ok (.goto 4, 3) := by decide +kernel
theorem dX6_fits_52 : decode cX6_fits 52 = .ok (.iconst 0, 1) := by decide +kernel
theorem dX6_fits_53 : decode cX6_fits 53 = .ok (.ireturn, 1) := by decide +kernel
theorem dX6_fits_54 : decode cX6_fits 54 = .ok (.iload_n 1, 1) := by decide +kernel
theorem dX6_fits_55 : decode cX6_fits 55 = .ok (.bipush 48, 2) := by decide +kernel
theorem dX6_fits_57 : decode cX6_fits 57 = .ok (.if_icmp .lt 13, 3) := by decide +kernel
theorem dX6_fits_60 : decode cX6_fits 60 = .ok (.iload_n 1, 1) := by decide +kernel
theorem dX6_fits_61 : decode cX6_fits 61 = .ok (.bipush 55, 2) := by decide +kernel
theorem dX6_fits_63 : decode cX6_fits 63 = .ok (.if_icmp .gt 7, 3) := by decide +kernel
theorem dX6_fits_66 : decode cX6_fits 66 = .ok (.iconst 1, 1) := by decide +kernel
theorem dX6_fits_67 : decode cX6_fits 67 = .ok (.goto 4, 3) := by decide +kernel
theorem dX6_fits_70 : decode cX6_fits 70 = .ok (.iconst 0, 1) := by decide +kernel
theorem dX6_fits_71 : decode cX6_fits 71 = .ok (.ireturn, 1) := by decide +kernel
theorem dX7_init_0 : decode cX7_init 0 = .ok (.aload_n 0, 1) := by decide +kernel
theorem dX7_init_1 : decode cX7_init 1 = .ok (.invokespecial 3, 3) := by decide +kernel
theorem dX7_init_4 : decode cX7_init 4 = .ok (.aload_n 0, 1) := by decide +kernel
theorem dX7_init_5 : decode cX7_init 5 = .ok (.bipush 8, 2) := by decide +kernel
theorem dX7_init_7 : decode cX7_init 7 = .ok (.newarray .boolean, 2) := by decide +kernel
theorem dX7_init_9 : decode cX7_init 9 = .ok (.putfield 9, 3) := by decide +kernel
theorem dX7_init_12 : decode cX7_init 12 = .ok (.aload_n 0, 1) := by decide +kernel
theorem dX7_init_13 : decode cX7_init 13 = .ok (.bipush 8, 2) := by decide +kernel
theorem dX7_init_15 : decode cX7_init 15 = .ok (.newarray .int, 2) := by decide +kernel
theorem dX7_init_17 : decode cX7_init 17 = .ok (.putfield 15, 3) := by decide +kernel
theorem dX7_init_20 : decode cX7_init 20 = .ok (.aload_n 0, 1) := by decide +kernel
theorem dX7_init_21 : decode cX7_init 21 = .ok (.bipush 120, 2) := by decide +kernel
theorem dX7_init_23 : decode cX7_init 23 = .ok (.newarray .int, 2) := by decide +kernel
theorem dX7_init_25 : decode cX7_init 25 = .ok (.putfield 19, 3) := by decide +kernel
theorem dX7_init_28 : decode cX7_init 28 = .ok (.aload_n 0, 1) := by decide +kernel
theorem dX7_init_29 : decode cX7_init 29 = .ok (.sipush 210, 3) := by decide +kernel
theorem dX7_init_32 : decode cX7_init 32 = .ok (.newarray .int, 2) := by decide +kernel
theorem dX7_init_34 : decode cX7_init 34 = .ok (.putfield 22, 3) := by decide +kernel
theorem dX7_init_37 : decode cX7_init 37 = .ok (.aload_n 0, 1) := by decide +kernel
theorem dX7_init_38 : decode cX7_init 38 = .ok (.bipush 14, 2) := by decide +kernel
theorem dX7_init_40 : decode cX7_init 40 = .ok (.newarray .int, 2) := by decide +kernel
theorem dX7_init_42 : decode cX7_init 42 = .ok (.putfield 25, 3) := by decide +kernel
theorem dX7_init_45 : decode cX7_init 45 = .ok (.aload_n 0, 1) := by decide +kernel
theorem dX7_init_46 : decode cX7_init 46 = .ok (.iconst 0, 1) := by decide +kernel
theorem dX7_init_47 : decode cX7_init 47 = .ok (.putfield 28, 3) := by decide +kernel
theorem dX7_init_50 : decode cX7_init 50 = .ok (.aload_n 0, 1) := by decide +kernel
theorem dX7_init_51 : decode cX7_init 51 = .ok (.aload_n 1, 1) := by decide +kernel
theorem dX7_init_52 : decode cX7_init 52 = .ok (.putfield 32, 3) := by decide +kernel
theorem dX7_init_55 : decode cX7_init 55 = .ok (.aload_n 0, 1) := by decide +kernel
theorem dX7_init_56 : decode cX7_init 56 = .ok (.aload_n 2, 1) := by decide +kernel
theorem dX7_init_57 : decode cX7_init 57 = .ok (.putfield 36, 3) := by decide +kernel
theorem dX7_init_60 : decode cX7_init 60 = .ok (.return_, 1) := by decide +kernel
theorem dX7_clobbered_0 : decode cX7_clobbered 0 = .ok (.sipush 255, 3) := by decide +kernel
theorem dX7_clobbered_3 : decode cX7_clobbered 3 = .ok (.aload_n 0, 1) := by decide +kernel
theorem dX7_clobbered_4 : decode cX7_clobbered 4 = .ok (.getfield 15, 3) := by decide +kernel
theorem dX7_clobbered_7 : decode cX7_clobbered 7 = .ok (.iload_n 1, 1) := by decide +kernel
theorem dX7_clobbered_8 : decode cX7_clobbered 8 = .ok (.iaload, 1) := by decide +kernel
theorem dX7_clobbered_9 : decode cX7_clobbered 9 = .ok (.iconst (-1), 1) := by decide +kernel
theorem dX7_clobbered_10 : decode cX7_clobbered 10 = .ok (.ixor, 1) := by decide +kernel
theorem dX7_clobbered_11 : decode cX7_clobbered 11 = .ok (.iand, 1) := by decide +kernel
theorem dX7_clobbered_12 : decode cX7_clobbered 12 = .ok (.ireturn, 1) := by decide +kernel
theorem dX7_infer_0 : decode cX7_infer 0 = .ok (.iconst 0, 1) := by decide +kernel
theorem dX7_infer_1 : decode cX7_infer 1 = .ok (.istore_n 1, 1) := by decide +kernel
theorem dX7_infer_2 : decode cX7_infer 2 = .ok (.iload_n 1, 1) := by decide +kernel
theorem dX7_infer_3 : decode cX7_infer 3 = .ok (.bipush 8, 2) := by decide +kernel
theorem dX7_infer_5 : decode cX7_infer 5 = .ok (.if_icmp .ge 42, 3) := by decide +kernel
theorem dX7_infer_8 : decode cX7_infer 8 = .ok (.aload_n 0, 1) := by decide +kernel
theorem dX7_infer_9 : decode cX7_infer 9 = .ok (.getfield 9, 3) := by decide +kernel
theorem dX7_infer_12 : decode cX7_infer 12 = .ok (.iload_n 1, 1) := by decide +kernel
theorem dX7_infer_13 : decode cX7_infer 13 = .ok (.aload_n 0, 1) := by decide +kernel
theorem dX7_infer_14 : decode cX7_infer 14 = .ok (.iload_n 1, 1) := by decide +kernel
theorem dX7_infer_15 : decode cX7_infer 15 = .ok (.invokevirtual 40, 3) := by decide +kernel
theorem dX7_infer_18 : decode cX7_infer 18 = .ok (.bastore, 1) := by decide +kernel
theorem dX7_infer_19 : decode cX7_infer 19 = .ok (.aload_n 0, 1) := by decide +kernel
theorem dX7_infer_20 : decode cX7_infer 20 = .ok (.getfield 15, 3) := by decide +kernel
theorem dX7_infer_23 : decode cX7_infer 23 = .ok (.iload_n 1, 1) := by decide +kernel
theorem dX7_infer_24 : decode cX7_infer 24 = .ok (.aload_n 0, 1) := by decide +kernel
theorem dX7_infer_25 : decode cX7_infer 25 = .ok (.getfield 9, 3) := by decide +kernel
theorem dX7_infer_28 : decode cX7_infer 28 = .ok (.iload_n 1, 1) := by decide +kernel
theorem dX7_infer_29 : decode cX7_infer 29 = .ok (.baload, 1) := by decide +kernel
theorem dX7_infer_30 : decode cX7_infer 30 = .ok (.ifCond .eq 9, 3) := by decide +kernel
theorem dX7_infer_33 : decode cX7_infer 33 = .ok (.sipush 255, 3) := by decide +kernel
theorem dX7_infer_36 : decode cX7_infer 36 = .ok (.goto 4, 3) := by decide +kernel
theorem dX7_infer_39 : decode cX7_infer 39 = .ok (.iconst 0, 1) := by decide +kernel
theorem dX7_infer_40 : decode cX7_infer 40 = .ok (.iastore, 1) := by decide +kernel
theorem dX7_infer_41 : decode cX7_infer 41 = .ok (.iinc 1 1, 3) := by decide +kernel
theorem dX7_infer_44 : decode cX7_infer 44 = .ok (.goto (-42), 3) := by decide +kernel
theorem dX7_infer_47 : decode cX7_infer 47 = .ok (.iconst 1, 1) := by decide +kernel
theorem dX7_infer_48 : decode cX7_infer 48 = .ok (.istore_n 1, 1) := by decide +kernel
theorem dX7_infer_49 : decode cX7_infer 49 = .ok (.iconst 0, 1) := by decide +kernel
theorem dX7_infer_50 : decode cX7_infer 50 = .ok (.istore_n 2, 1) := by decide +kernel
theorem dX7_infer_51 : decode cX7_infer 51 = .ok (.iload_n 1, 1) := by decide +kernel
theorem dX7_infer_52 : decode cX7_infer 52 = .ok (.ifCond .eq 72, 3) := by decide +kernel
theorem dX7_infer_55 : decode cX7_infer 55 = .ok (.iload_n 2, 1) := by decide +kernel
theorem dX7_infer_56 : decode cX7_infer 56 = .ok (.bipush 64, 2) := by decide +kernel
theorem dX7_infer_58 : decode cX7_infer 58 = .ok (.if_icmp .gt 66, 3) := by decide +kernel
theorem dX7_infer_61 : decode cX7_infer 61 = .ok (.iconst 0, 1) := by decide +kernel
theorem dX7_infer_62 : decode cX7_infer 62 = .ok (.istore_n 1, 1) := by decide +kernel
theorem dX7_infer_63 : decode cX7_infer 63 = .ok (.iconst 0, 1) := by decide +kernel
theorem dX7_infer_64 : decode cX7_infer 64 = .ok (.istore_n 3, 1) := by decide +kernel
theorem dX7_infer_65 : decode cX7_infer 65 = .ok (.iload_n 3, 1) := by decide +kernel
theorem dX7_infer_66 : decode cX7_infer 66 = .ok (.bipush 8, 2) := by decide +kernel
theorem dX7_infer_68 : decode cX7_infer 68 = .ok (.if_icmp .ge 50, 3) := by decide +kernel
theorem dX7_infer_71 : decode cX7_infer 71 = .ok (.aload_n 0, 1) := by decide +kernel
theorem dX7_infer_72 : decode cX7_infer 72 = .ok (.getfield 9, 3) := by decide +kernel
theorem dX7_infer_75 : decode cX7_infer 75 = .ok (.iload_n 3, 1) := by decide +kernel
theorem dX7_infer_76 : decode cX7_infer 76 = .ok (.baload, 1) := by decide +kernel
theorem dX7_infer_77 : decode cX7_infer 77 = .ok (.ifCond .eq 11, 3) := by decide +kernel
theorem dX7_infer_80 : decode cX7_infer 80 = .ok (.aload_n 0, 1) := by decide +kernel
theorem dX7_infer_81 : decode cX7_infer 81 = .ok (.iload_n 3, 1) := by decide +kernel
theorem dX7_infer_82 : decode cX7_infer 82 = .ok (.invokevirtual 44, 3) := by decide +kernel
theorem dX7_infer_85 : decode cX7_infer 85 = .ok (.goto 4, 3) := by decide +kernel
theorem dX7_infer_88 : decode cX7_infer 88 = .ok (.iconst 0, 1) := by decide +kernel
theorem dX7_infer_89 : decode cX7_infer 89 = .ok (.istore 4, 2) := by decide +kernel
theorem dX7_infer_91 : decode cX7_infer 91 = .ok (.iload 4, 2) := by decide +kernel
theorem dX7_infer_93 : decode cX7_infer 93 = .ok (.aload_n 0, 1) := by decide +kernel
theorem dX7_infer_94 : decode cX7_infer 94 = .ok (.getfield 15, 3) := by decide +kernel
theorem dX7_infer_97 : decode cX7_infer 97 = .ok (.iload_n 3, 1) := by decide +kernel
theorem dX7_infer_98 : decode cX7_infer 98 = .ok (.iaload, 1) := by decide +kernel
theorem dX7_infer_99 : decode cX7_infer 99 = .ok (.if_icmp .eq 13, 3) := by decide +kernel
theorem dX7_infer_102 : decode cX7_infer 102 = .ok (.aload_n 0, 1) := by decide +kernel
theorem dX7_infer_103 : decode cX7_infer 103 = .ok (.getfield 15, 3) := by decide +kernel
theorem dX7_infer_106 : decode cX7_infer 106 = .ok (.iload_n 3, 1) := by decide +kernel
theorem dX7_infer_107 : decode cX7_infer 107 = .ok (.iload 4, 2) := by decide +kernel
theorem dX7_infer_109 : decode cX7_infer 109 = .ok (.iastore, 1) := by decide +kernel
theorem dX7_infer_110 : decode cX7_infer 110 = .ok (.iconst 1, 1) := by decide +kernel
theorem dX7_infer_111 : decode cX7_infer 111 = .ok (.istore_n 1, 1) := by decide +kernel
theorem dX7_infer_112 : decode cX7_infer 112 = .ok (.iinc 3 1, 3) := by decide +kernel
theorem dX7_infer_115 : decode cX7_infer 115 = .ok (.goto (-50), 3) := by decide +kernel
theorem dX7_infer_118 : decode cX7_infer 118 = .ok (.iinc 2 1, 3) := by decide +kernel
theorem dX7_infer_121 : decode cX7_infer 121 = .ok (.goto (-70), 3) := by decide +kernel
theorem dX7_infer_124 : decode cX7_infer 124 = .ok (.return_, 1) := by decide +kernel
theorem dX7_measure_0 : decode cX7_measure 0 = .ok (.iload_n 1, 1) := by decide +kernel
theorem dX7_measure_1 : decode cX7_measure 1 = .ok (.bipush 15, 2) := by decide +kernel
theorem dX7_measure_3 : decode cX7_measure 3 = .ok (.imul, 1) := by decide +kernel
theorem dX7_measure_4 : decode cX7_measure 4 = .ok (.istore_n 2, 1) := by decide +kernel
theorem dX7_measure_5 : decode cX7_measure 5 = .ok (.iconst 0, 1) := by decide +kernel
theorem dX7_measure_6 : decode cX7_measure 6 = .ok (.istore_n 3, 1) := by decide +kernel
theorem dX7_measure_7 : decode cX7_measure 7 = .ok (.iload_n 3, 1) := by decide +kernel
theorem dX7_measure_8 : decode cX7_measure 8 = .ok (.bipush 15, 2) := by decide +kernel
theorem dX7_measure_10 : decode cX7_measure 10 = .ok (.if_icmp .ge 18, 3) := by decide +kernel
theorem dX7_measure_13 : decode cX7_measure 13 = .ok (.aload_n 0, 1) := by decide +kernel
theorem dX7_measure_14 : decode cX7_measure 14 = .ok (.getfield 19, 3) := by decide +kernel
theorem dX7_measure_17 : decode cX7_measure 17 = .ok (.iload_n 2, 1) := by decide +kernel
theorem dX7_measure_18 : decode cX7_measure 18 = .ok (.iload_n 3, 1) := by decide +kernel
theorem dX7_measure_19 : decode cX7_measure 19 = .ok (.iadd, 1) := by decide +kernel
theorem dX7_measure_20 : decode cX7_measure 20 = .ok (.iconst (-1), 1) := by decide +kernel
theorem dX7_measure_21 : decode cX7_measure 21 = .ok (.iastore, 1) := by decide +kernel
theorem dX7_measure_22 : decode cX7_measure 22 = .ok (.iinc 3 1, 3) := by decide +kernel
theorem dX7_measure_25 : decode cX7_measure 25 = .ok (.goto (-18), 3) := by decide +kernel
theorem dX7_measure_28 : decode cX7_measure 28 = .ok (.aload_n 0, 1) := by decide +kernel
theorem dX7_measure_29 : decode cX7_measure 29 = .ok (.getfield 19, 3) := by decide +kernel
theorem dX7_measure_32 : decode cX7_measure 32 = .ok (.iload_n 2, 1) := by decide +kernel
theorem dX7_measure_33 : decode cX7_measure 33 = .ok (.aload_n 0, 1) := by decide +kernel
theorem dX7_measure_34 : decode cX7_measure 34 = .ok (.getfield 32, 3) := by decide +kernel
theorem dX7_measure_37 : decode cX7_measure 37 = .ok (.iload_n 1, 1) := by decide +kernel
theorem dX7_measure_38 : decode cX7_measure 38 = .ok (.invokevirtual 48, 3) := by decide +kernel
theorem dX7_measure_41 : decode cX7_measure 41 = .ok (.iadd, 1) := by decide +kernel
theorem dX7_measure_42 : decode cX7_measure 42 = .ok (.iconst 0, 1) := by decide +kernel
theorem dX7_measure_43 : decode cX7_measure 43 = .ok (.iastore, 1) := by decide +kernel
theorem dX7_measure_44 : decode cX7_measure 44 = .ok (.iconst 0, 1) := by decide +kernel
theorem dX7_measure_45 : decode cX7_measure 45 = .ok (.istore_n 3, 1) := by decide +kernel
theorem dX7_measure_46 : decode cX7_measure 46 = .ok (.iload_n 3, 1) := by decide +kernel
theorem dX7_measure_47 : decode cX7_measure 47 = .ok (.aload_n 0, 1) := by decide +kernel
theorem dX7_measure_48 : decode cX7_measure 48 = .ok (.getfield 32, 3) := by decide +kernel
theorem dX7_measure_51 : decode cX7_measure 51 = .ok (.getfield 53, 3) := by decide +kernel
theorem dX7_measure_54 : decode cX7_measure 54 = .ok (.iload_n 1, 1) := by decide +kernel
theorem dX7_measure_55 : decode cX7_measure 55 = .ok (.iaload, 1) := by decide +kernel
theorem dX7_measure_56 : decode cX7_measure 56 = .ok (.if_icmp .ge 98, 3) := by decide +kernel
theorem dX7_measure_59 : decode cX7_measure 59 = .ok (.aload_n 0, 1) := by decide +kernel
theorem dX7_measure_60 : decode cX7_measure 60 = .ok (.getfield 19, 3) := by decide +kernel
theorem dX7_measure_63 : decode cX7_measure 63 = .ok (.iload_n 2, 1) := by decide +kernel
theorem dX7_measure_64 : decode cX7_measure 64 = .ok (.iload_n 3, 1) := by decide +kernel
theorem dX7_measure_65 : decode cX7_measure 65 = .ok (.iadd, 1) := by decide +kernel
theorem dX7_measure_66 : decode cX7_measure 66 = .ok (.iaload, 1) := by decide +kernel
theorem dX7_measure_67 : decode cX7_measure 67 = .ok (.iconst (-1), 1) := by decide +kernel
theorem dX7_measure_68 : decode cX7_measure 68 = .ok (.if_icmp .eq 80, 3) := by decide +kernel
theorem dX7_measure_71 : decode cX7_measure 71 = .ok (.aload_n 0, 1) := by decide +kernel
theorem dX7_measure_72 : decode cX7_measure 72 = .ok (.getfield 19, 3) := by decide +kernel
theorem dX7_measure_75 : decode cX7_measure 75 = .ok (.iload_n 2, 1) := by decide +kernel
theorem dX7_measure_76 : decode cX7_measure 76 = .ok (.iload_n 3, 1) := by decide +kernel
theorem dX7_measure_77 : decode cX7_measure 77 = .ok (.iadd, 1) := by decide +kernel
theorem dX7_measure_78 : decode cX7_measure 78 = .ok (.iaload, 1) := by decide +kernel
theorem dX7_measure_79 : decode cX7_measure 79 = .ok (.aload_n 0, 1) := by decide +kernel
theorem dX7_measure_80 : decode cX7_measure 80 = .ok (.getfield 32, 3) := by decide +kernel
theorem dX7_measure_83 : decode cX7_measure 83 = .ok (.iload_n 1, 1) := by decide +kernel
theorem dX7_measure_84 : decode cX7_measure 84 = .ok (.iload_n 3, 1) := by decide +kernel
theorem dX7_measure_85 : decode cX7_measure 85 = .ok (.invokevirtual 56, 3) := by decide +kernel
theorem dX7_measure_88 : decode cX7_measure 88 = .ok (.invokestatic 60, 3) := by decide +kernel
theorem dX7_measure_91 : decode cX7_measure 91 = .ok (.iadd, 1) := by decide +kernel
theorem dX7_measure_92 : decode cX7_measure 92 = .ok (.istore 4, 2) := by decide +kernel
theorem dX7_measure_94 : decode cX7_measure 94 = .ok (.iload 4, 2) := by decide +kernel
theorem dX7_measure_96 : decode cX7_measure 96 = .ok (.ifCond .lt 50, 3) := by decide +kernel
theorem dX7_measure_99 : decode cX7_measure 99 = .ok (.iload 4, 2) := by decide +kernel
theorem dX7_measure_101 : decode cX7_measure 101 = .ok (.bipush 6, 2) := by decide +kernel
theorem dX7_measure_103 : decode cX7_measure 103 = .ok (.if_icmp .gt 43, 3) := by decide +kernel
theorem dX7_measure_106 : decode cX7_measure 106 = .ok (.aload_n 0, 1) := by decide +kernel
theorem dX7_measure_107 : decode cX7_measure 107 = .ok (.iload_n 2, 1) := by decide +kernel
theorem dX7_measure_108 : decode cX7_measure 108 = .ok (.aload_n 0, 1) := by decide +kernel
theorem dX7_measure_109 : decode cX7_measure 109 = .ok (.getfield 32, 3) := by decide +kernel
theorem dX7_measure_112 : decode cX7_measure 112 = .ok (.iload_n 1, 1) := by decide +kernel
theorem dX7_measure_113 : decode cX7_measure 113 = .ok (.iload_n 3, 1) := by decide +kernel
theorem dX7_measure_114 : decode cX7_measure 114 = .ok (.invokevirtual 64, 3) := by decide +kernel
theorem dX7_measure_117 : decode cX7_measure 117 = .ok (.iadd, 1) := by decide +kernel
theorem dX7_measure_118 : decode cX7_measure 118 = .ok (.iload 4, 2) := by decide +kernel
theorem dX7_measure_120 : decode cX7_measure 120 = .ok (.invokevirtual 68, 3) := by decide +kernel
theorem dX7_measure_123 : decode cX7_measure 123 = .ok (.ifCond .eq 23, 3) := by decide +kernel
theorem dX7_measure_126 : decode cX7_measure 126 = .ok (.aload_n 0, 1) := by decide +kernel
theorem dX7_measure_127 : decode cX7_measure 127 = .ok (.iload_n 2, 1) := by decide +kernel
theorem dX7_measure_128 : decode cX7_measure 128 = .ok (.aload_n 0, 1) := by decide +kernel
theorem dX7_measure_129 : decode cX7_measure 129 = .ok (.getfield 32, 3) := by decide +kernel
theorem dX7_measure_132 : decode cX7_measure 132 = .ok (.iload_n 1, 1) := by decide +kernel
theorem dX7_measure_133 : decode cX7_measure 133 = .ok (.iload_n 3, 1) := by decide +kernel
theorem dX7_measure_134 : decode cX7_measure 134 = .ok (.invokevirtual 72, 3) := by decide +kernel
theorem dX7_measure_137 : decode cX7_measure 137 = .ok (.iadd, 1) := by decide +kernel
theorem dX7_measure_138 : decode cX7_measure 138 = .ok (.iload 4, 2) := by decide +kernel
theorem dX7_measure_140 : decode cX7_measure 140 = .ok (.invokevirtual 68, 3) := by decide +kernel
theorem dX7_measure_143 : decode cX7_measure 143 = .ok (.ifCond .ne 5, 3) := by decide +kernel
theorem dX7_measure_146 : decode cX7_measure 146 = .ok (.iconst 0, 1) := by decide +kernel
theorem dX7_measure_147 : decode cX7_measure 147 = .ok (.ireturn, 1) := by decide +kernel
theorem dX7_measure_148 : decode cX7_measure 148 = .ok (.iinc 3 1, 3) := by decide +kernel
theorem dX7_measure_151 : decode cX7_measure 151 = .ok (.goto (-105), 3) := by decide +kernel
theorem dX7_measure_154 : decode cX7_measure 154 = .ok (.aload_n 0, 1) := by decide +kernel
theorem dX7_measure_155 : decode cX7_measure 155 = .ok (.getfield 19, 3) := by decide +kernel
theorem dX7_measure_158 : decode cX7_measure 158 = .ok (.iload_n 2, 1) := by decide +kernel
theorem dX7_measure_159 : decode cX7_measure 159 = .ok (.bipush 14, 2) := by decide +kernel
theorem dX7_measure_161 : decode cX7_measure 161 = .ok (.iadd, 1) := by decide +kernel
theorem dX7_measure_162 : decode cX7_measure 162 = .ok (.iaload, 1) := by decide +kernel
theorem dX7_measure_163 : decode cX7_measure 163 = .ok (.ifCond .ne 7, 3) := by decide +kernel
theorem dX7_measure_166 : decode cX7_measure 166 = .ok (.iconst 1, 1) := by decide +kernel
theorem dX7_measure_167 : decode cX7_measure 167 = .ok (.goto 4, 3) := by decide +kernel
theorem dX7_measure_170 : decode cX7_measure 170 = .ok (.iconst 0, 1) := by decide +kernel
theorem dX7_measure_171 : decode cX7_measure 171 = .ok (.ireturn, 1) := by decide +kernel
theorem dX7_growth_0 : decode cX7_growth 0 = .ok (.iload_n 0, 1) := by decide +kernel
theorem dX7_growth_1 : decode cX7_growth 1 = .ok (.bipush 43, 2) := by decide +kernel
theorem dX7_growth_3 : decode cX7_growth 3 = .ok (.if_icmp .ne 5, 3) := by decide +kernel
theorem dX7_growth_6 : decode cX7_growth 6 = .ok (.iconst 1, 1) := by decide +kernel
theorem dX7_growth_7 : decode cX7_growth 7 = .ok (.ireturn, 1) := by decide +kernel
theorem dX7_growth_8 : decode cX7_growth 8 = .ok (.iload_n 0, 1) := by decide +kernel
theorem dX7_growth_9 : decode cX7_growth 9 = .ok (.bipush 45, 2) := by decide +kernel
theorem dX7_growth_11 : decode cX7_growth 11 = .ok (.if_icmp .ne 7, 3) := by decide +kernel
theorem dX7_growth_14 : decode cX7_growth 14 = .ok (.iconst (-1), 1) := by decide +kernel
theorem dX7_growth_15 : decode cX7_growth 15 = .ok (.goto 4, 3) := by decide +kernel
theorem dX7_growth_18 : decode cX7_growth 18 = .ok (.iconst 0, 1) := by decide +kernel
theorem dX7_growth_19 : decode cX7_growth 19 = .ok (.ireturn, 1) := by decide +kernel
theorem dX7_agrees_0 : decode cX7_agrees 0 = .ok (.aload_n 0, 1) := by decide +kernel
theorem dX7_agrees_1 : decode cX7_agrees 1 = .ok (.getfield 19, 3) := by decide +kernel
theorem dX7_agrees_4 : decode cX7_agrees 4 = .ok (.iload_n 1, 1) := by decide +kernel
theorem dX7_agrees_5 : decode cX7_agrees 5 = .ok (.iaload, 1) := by decide +kernel
theorem dX7_agrees_6 : decode cX7_agrees 6 = .ok (.iconst (-1), 1) := by decide +kernel
theorem dX7_agrees_7 : decode cX7_agrees 7 = .ok (.if_icmp .ne 10, 3) := by decide +kernel
theorem dX7_agrees_10 : decode cX7_agrees 10 = .ok (.aload_n 0, 1) := by decide +kernel
theorem dX7_agrees_11 : decode cX7_agrees 11 = .ok (.getfield 19, 3) := by decide +kernel
theorem dX7_agrees_14 : decode cX7_agrees 14 = .ok (.iload_n 1, 1) := by decide +kernel
theorem dX7_agrees_15 : decode cX7_agrees 15 = .ok (.iload_n 2, 1) := by decide +kernel
theorem dX7_agrees_16 : decode cX7_agrees 16 = .ok (.iastore, 1) := by decide +kernel
theorem dX7_agrees_17 : decode cX7_agrees 17 = .ok (.aload_n 0, 1) := by decide +kernel
theorem dX7_agrees_18 : decode cX7_agrees 18 = .ok (.getfield 19, 3) := by decide +kernel
theorem dX7_agrees_21 : decode cX7_agrees 21 = .ok (.iload_n 1, 1) := by decide +kernel
theorem dX7_agrees_22 : decode cX7_agrees 22 = .ok (.iaload, 1) := by decide +kernel
theorem dX7_agrees_23 : decode cX7_agrees 23 = .ok (.iload_n 2, 1) := by decide +kernel
theorem dX7_agrees_24 : decode cX7_agrees 24 = .ok (.if_icmp .ne 7, 3) := by decide +kernel
theorem dX7_agrees_27 : decode cX7_agrees 27 = .ok (.iconst 1, 1) := by decide +kernel
theorem dX7_agrees_28 : decode cX7_agrees 28 = .ok (.goto 4, 3) := by decide +kernel
theorem dX7_agrees_31 : decode cX7_agrees 31 = .ok (.iconst 0, 1) := by decide +kernel
theorem dX7_agrees_32 : decode cX7_agrees 32 = .ok (.ireturn, 1) := by decide +kernel
theorem dX7_keptBy_0 : decode cX7_keptBy 0 = .ok (.iconst 0, 1) := by decide +kernel
theorem dX7_keptBy_1 : decode cX7_keptBy 1 = .ok (.istore_n 2, 1) := by decide +kernel
theorem dX7_keptBy_2 : decode cX7_keptBy 2 = .ok (.iload_n 2, 1) := by decide +kernel
theorem dX7_keptBy_3 : decode cX7_keptBy 3 = .ok (.bipush 14, 2) := by decide +kernel
theorem dX7_keptBy_5 : decode cX7_keptBy 5 = .ok (.if_icmp .ge 26, 3) := by decide +kernel
theorem dX7_keptBy_8 : decode cX7_keptBy 8 = .ok (.aload_n 0, 1) := by decide +kernel
theorem dX7_keptBy_9 : decode cX7_keptBy 9 = .ok (.getfield 25, 3) := by decide +kernel
theorem dX7_keptBy_12 : decode cX7_keptBy 12 = .ok (.iload_n 2, 1) := by decide +kernel
theorem dX7_keptBy_13 : decode cX7_keptBy 13 = .ok (.iload_n 2, 1) := by decide +kernel
theorem dX7_keptBy_14 : decode cX7_keptBy 14 = .ok (.bipush 8, 2) := by decide +kernel
theorem dX7_keptBy_16 : decode cX7_keptBy 16 = .ok (.if_icmp .ge 7, 3) := by decide +kernel
theorem dX7_keptBy_19 : decode cX7_keptBy 19 = .ok (.iload_n 2, 1) := by decide +kernel
theorem dX7_keptBy_20 : decode cX7_keptBy 20 = .ok (.goto 4, 3) := by decide +kernel
theorem dX7_keptBy_23 : decode cX7_keptBy 23 = .ok (.iconst (-1), 1) := by decide +kernel
theorem dX7_keptBy_24 : decode cX7_keptBy 24 = .ok (.iastore, 1) := by decide +kernel
theorem dX7_keptBy_25 : decode cX7_keptBy 25 = .ok (.iinc 2 1, 3) := by decide +kernel
theorem dX7_keptBy_28 : decode cX7_keptBy 28 = .ok (.goto (-26), 3) := by decide +kernel
theorem dX7_keptBy_31 : decode cX7_keptBy 31 = .ok (.aload_n 0, 1) := by decide +kernel
theorem dX7_keptBy_32 : decode cX7_keptBy 32 = .ok (.iconst 0, 1) := by decide +kernel
theorem dX7_keptBy_33 : decode cX7_keptBy 33 = .ok (.putfield 28, 3) := by decide +kernel
theorem dX7_keptBy_36 : decode cX7_keptBy 36 = .ok (.aload_n 0, 1) := by decide +kernel
theorem dX7_keptBy_37 : decode cX7_keptBy 37 = .ok (.aload_n 0, 1) := by decide +kernel
theorem dX7_keptBy_38 : decode cX7_keptBy 38 = .ok (.getfield 32, 3) := by decide +kernel
theorem dX7_keptBy_41 : decode cX7_keptBy 41 = .ok (.iload_n 1, 1) := by decide +kernel
theorem dX7_keptBy_42 : decode cX7_keptBy 42 = .ok (.invokevirtual 48, 3) := by decide +kernel
theorem dX7_keptBy_45 : decode cX7_keptBy 45 = .ok (.invokevirtual 75, 3) := by decide +kernel
theorem dX7_keptBy_48 : decode cX7_keptBy 48 = .ok (.iconst 0, 1) := by decide +kernel
theorem dX7_keptBy_49 : decode cX7_keptBy 49 = .ok (.istore_n 2, 1) := by decide +kernel
theorem dX7_keptBy_50 : decode cX7_keptBy 50 = .ok (.iload_n 2, 1) := by decide +kernel
theorem dX7_keptBy_51 : decode cX7_keptBy 51 = .ok (.aload_n 0, 1) := by decide +kernel
theorem dX7_keptBy_52 : decode cX7_keptBy 52 = .ok (.getfield 32, 3) := by decide +kernel
theorem dX7_keptBy_55 : decode cX7_keptBy 55 = .ok (.getfield 53, 3) := by decide +kernel
theorem dX7_keptBy_58 : decode cX7_keptBy 58 = .ok (.iload_n 1, 1) := by decide +kernel
theorem dX7_keptBy_59 : decode cX7_keptBy 59 = .ok (.iaload, 1) := by decide +kernel
theorem dX7_keptBy_60 : decode cX7_keptBy 60 = .ok (.if_icmp .ge 83, 3) := by decide +kernel
theorem dX7_keptBy_63 : decode cX7_keptBy 63 = .ok (.aload_n 0, 1) := by decide +kernel
theorem dX7_keptBy_64 : decode cX7_keptBy 64 = .ok (.getfield 36, 3) := by decide +kernel
theorem dX7_keptBy_67 : decode cX7_keptBy 67 = .ok (.iload_n 1, 1) := by decide +kernel
theorem dX7_keptBy_68 : decode cX7_keptBy 68 = .ok (.iload_n 2, 1) := by decide +kernel
theorem dX7_keptBy_69 : decode cX7_keptBy 69 = .ok (.invokevirtual 79, 3) := by decide +kernel
theorem dX7_keptBy_72 : decode cX7_keptBy 72 = .ok (.ifCond .eq 65, 3) := by decide +kernel
theorem dX7_keptBy_75 : decode cX7_keptBy 75 = .ok (.aload_n 0, 1) := by decide +kernel
theorem dX7_keptBy_76 : decode cX7_keptBy 76 = .ok (.getfield 22, 3) := by decide +kernel
theorem dX7_keptBy_79 : decode cX7_keptBy 79 = .ok (.iload_n 2, 1) := by decide +kernel
theorem dX7_keptBy_80 : decode cX7_keptBy 80 = .ok (.bipush 14, 2) := by decide +kernel
theorem dX7_keptBy_82 : decode cX7_keptBy 82 = .ok (.imul, 1) := by decide +kernel
theorem dX7_keptBy_83 : decode cX7_keptBy 83 = .ok (.aload_n 0, 1) := by decide +kernel
theorem dX7_keptBy_84 : decode cX7_keptBy 84 = .ok (.getfield 25, 3) := by decide +kernel
theorem dX7_keptBy_87 : decode cX7_keptBy 87 = .ok (.iconst 0, 1) := by decide +kernel
theorem dX7_keptBy_88 : decode cX7_keptBy 88 = .ok (.bipush 14, 2) := by decide +kernel
theorem dX7_keptBy_90 : decode cX7_keptBy 90 = .ok (.invokestatic 84, 3) := by decide +kernel
theorem dX7_keptBy_93 : decode cX7_keptBy 93 = .ok (.aload_n 0, 1) := by decide +kernel
theorem dX7_keptBy_94 : decode cX7_keptBy 94 = .ok (.iload_n 1, 1) := by decide +kernel
theorem dX7_keptBy_95 : decode cX7_keptBy 95 = .ok (.iload_n 2, 1) := by decide +kernel
theorem dX7_keptBy_96 : decode cX7_keptBy 96 = .ok (.invokevirtual 90, 3) := by decide +kernel
theorem dX7_keptBy_99 : decode cX7_keptBy 99 = .ok (.aload_n 0, 1) := by decide +kernel
theorem dX7_keptBy_100 : decode cX7_keptBy 100 = .ok (.getfield 32, 3) := by decide +kernel
theorem dX7_keptBy_103 : decode cX7_keptBy 103 = .ok (.iload_n 1, 1) := by decide +kernel
theorem dX7_keptBy_104 : decode cX7_keptBy 104 = .ok (.iload_n 2, 1) := by decide +kernel
theorem dX7_keptBy_105 : decode cX7_keptBy 105 = .ok (.invokevirtual 64, 3) := by decide +kernel
theorem dX7_keptBy_108 : decode cX7_keptBy 108 = .ok (.istore_n 3, 1) := by decide +kernel
theorem dX7_keptBy_109 : decode cX7_keptBy 109 = .ok (.aload_n 0, 1) := by decide +kernel
theorem dX7_keptBy_110 : decode cX7_keptBy 110 = .ok (.getfield 32, 3) := by decide +kernel
theorem dX7_keptBy_113 : decode cX7_keptBy 113 = .ok (.iload_n 1, 1) := by decide +kernel
theorem dX7_keptBy_114 : decode cX7_keptBy 114 = .ok (.iload_n 2, 1) := by decide +kernel
theorem dX7_keptBy_115 : decode cX7_keptBy 115 = .ok (.invokevirtual 72, 3) := by decide +kernel
theorem dX7_keptBy_118 : decode cX7_keptBy 118 = .ok (.istore 4, 2) := by decide +kernel
theorem dX7_keptBy_120 : decode cX7_keptBy 120 = .ok (.aload_n 0, 1) := by decide +kernel
theorem dX7_keptBy_121 : decode cX7_keptBy 121 = .ok (.iload_n 3, 1) := by decide +kernel
theorem dX7_keptBy_122 : decode cX7_keptBy 122 = .ok (.invokevirtual 75, 3) := by decide +kernel
theorem dX7_keptBy_125 : decode cX7_keptBy 125 = .ok (.iload 4, 2) := by decide +kernel
theorem dX7_keptBy_127 : decode cX7_keptBy 127 = .ok (.iload_n 3, 1) := by decide +kernel
theorem dX7_keptBy_128 : decode cX7_keptBy 128 = .ok (.if_icmp .eq 9, 3) := by decide +kernel
theorem dX7_keptBy_131 : decode cX7_keptBy 131 = .ok (.aload_n 0, 1) := by decide +kernel
theorem dX7_keptBy_132 : decode cX7_keptBy 132 = .ok (.iload 4, 2) := by decide +kernel
theorem dX7_keptBy_134 : decode cX7_keptBy 134 = .ok (.invokevirtual 75, 3) := by decide +kernel
theorem dX7_keptBy_137 : decode cX7_keptBy 137 = .ok (.iinc 2 1, 3) := by decide +kernel
theorem dX7_keptBy_140 : decode cX7_keptBy 140 = .ok (.goto (-90), 3) := by decide +kernel
theorem dX7_keptBy_143 : decode cX7_keptBy 143 = .ok (.iconst 0, 1) := by decide +kernel
theorem dX7_keptBy_144 : decode cX7_keptBy 144 = .ok (.istore_n 2, 1) := by decide +kernel
theorem dX7_keptBy_145 : decode cX7_keptBy 145 = .ok (.iconst 0, 1) := by decide +kernel
theorem dX7_keptBy_146 : decode cX7_keptBy 146 = .ok (.istore_n 3, 1) := by decide +kernel
theorem dX7_keptBy_147 : decode cX7_keptBy 147 = .ok (.iload_n 3, 1) := by decide +kernel
theorem dX7_keptBy_148 : decode cX7_keptBy 148 = .ok (.bipush 8, 2) := by decide +kernel
theorem dX7_keptBy_150 : decode cX7_keptBy 150 = .ok (.if_icmp .ge 29, 3) := by decide +kernel
theorem dX7_keptBy_153 : decode cX7_keptBy 153 = .ok (.aload_n 0, 1) := by decide +kernel
theorem dX7_keptBy_154 : decode cX7_keptBy 154 = .ok (.getfield 22, 3) := by decide +kernel
theorem dX7_keptBy_157 : decode cX7_keptBy 157 = .ok (.sipush 196, 3) := by decide +kernel
theorem dX7_keptBy_160 : decode cX7_keptBy 160 = .ok (.iload_n 3, 1) := by decide +kernel
theorem dX7_keptBy_161 : decode cX7_keptBy 161 = .ok (.iadd, 1) := by decide +kernel
theorem dX7_keptBy_162 : decode cX7_keptBy 162 = .ok (.iaload, 1) := by decide +kernel
theorem dX7_keptBy_163 : decode cX7_keptBy 163 = .ok (.iload_n 3, 1) := by decide +kernel
theorem dX7_keptBy_164 : decode cX7_keptBy 164 = .ok (.if_icmp .ne 9, 3) := by decide +kernel
theorem dX7_keptBy_167 : decode cX7_keptBy 167 = .ok (.iload_n 2, 1) := by decide +kernel
theorem dX7_keptBy_168 : decode cX7_keptBy 168 = .ok (.iconst 1, 1) := by decide +kernel
theorem dX7_keptBy_169 : decode cX7_keptBy 169 = .ok (.iload_n 3, 1) := by decide +kernel
theorem dX7_keptBy_170 : decode cX7_keptBy 170 = .ok (.ishl, 1) := by decide +kernel
theorem dX7_keptBy_171 : decode cX7_keptBy 171 = .ok (.ior, 1) := by decide +kernel
theorem dX7_keptBy_172 : decode cX7_keptBy 172 = .ok (.istore_n 2, 1) := by decide +kernel
theorem dX7_keptBy_173 : decode cX7_keptBy 173 = .ok (.iinc 3 1, 3) := by decide +kernel
theorem dX7_keptBy_176 : decode cX7_keptBy 176 = .ok (.goto (-29), 3) := by decide +kernel
theorem dX7_keptBy_179 : decode cX7_keptBy 179 = .ok (.iload_n 2, 1) := by decide +kernel
theorem dX7_keptBy_180 : decode cX7_keptBy 180 = .ok (.ireturn, 1) := by decide +kernel
theorem dX7_merge_0 : decode cX7_merge 0 = .ok (.aload_n 0, 1) := by decide +kernel
theorem dX7_merge_1 : decode cX7_merge 1 = .ok (.getfield 28, 3) := by decide +kernel
theorem dX7_merge_4 : decode cX7_merge 4 = .ok (.iload_n 1, 1) := by decide +kernel
theorem dX7_merge_5 : decode cX7_merge 5 = .ok (.invokestatic 94, 3) := by decide +kernel
theorem dX7_merge_8 : decode cX7_merge 8 = .ok (.ifCond .ne 7, 3) := by decide +kernel
theorem dX7_merge_11 : decode cX7_merge 11 = .ok (.iconst 1, 1) := by decide +kernel
theorem dX7_merge_12 : decode cX7_merge 12 = .ok (.goto 4, 3) := by decide +kernel
theorem dX7_merge_15 : decode cX7_merge 15 = .ok (.iconst 0, 1) := by decide +kernel
theorem dX7_merge_16 : decode cX7_merge 16 = .ok (.istore_n 2, 1) := by decide +kernel
theorem dX7_merge_17 : decode cX7_merge 17 = .ok (.iconst 0, 1) := by decide +kernel
theorem dX7_merge_18 : decode cX7_merge 18 = .ok (.istore_n 3, 1) := by decide +kernel
theorem dX7_merge_19 : decode cX7_merge 19 = .ok (.iload_n 3, 1) := by decide +kernel
theorem dX7_merge_20 : decode cX7_merge 20 = .ok (.bipush 14, 2) := by decide +kernel
theorem dX7_merge_22 : decode cX7_merge 22 = .ok (.if_icmp .ge 61, 3) := by decide +kernel
theorem dX7_merge_25 : decode cX7_merge 25 = .ok (.iload_n 1, 1) := by decide +kernel
theorem dX7_merge_26 : decode cX7_merge 26 = .ok (.bipush 14, 2) := by decide +kernel
theorem dX7_merge_28 : decode cX7_merge 28 = .ok (.imul, 1) := by decide +kernel
theorem dX7_merge_29 : decode cX7_merge 29 = .ok (.iload_n 3, 1) := by decide +kernel
theorem dX7_merge_30 : decode cX7_merge 30 = .ok (.iadd, 1) := by decide +kernel
theorem dX7_merge_31 : decode cX7_merge 31 = .ok (.istore 4, 2) := by decide +kernel
theorem dX7_merge_33 : decode cX7_merge 33 = .ok (.iload_n 2, 1) := by decide +kernel
theorem dX7_merge_34 : decode cX7_merge 34 = .ok (.ifCond .eq 19, 3) := by decide +kernel
theorem dX7_merge_37 : decode cX7_merge 37 = .ok (.aload_n 0, 1) := by decide +kernel
theorem dX7_merge_38 : decode cX7_merge 38 = .ok (.getfield 22, 3) := by decide +kernel
theorem dX7_merge_41 : decode cX7_merge 41 = .ok (.iload 4, 2) := by decide +kernel
theorem dX7_merge_43 : decode cX7_merge 43 = .ok (.aload_n 0, 1) := by decide +kernel
theorem dX7_merge_44 : decode cX7_merge 44 = .ok (.getfield 25, 3) := by decide +kernel
theorem dX7_merge_47 : decode cX7_merge 47 = .ok (.iload_n 3, 1) := by decide +kernel
theorem dX7_merge_48 : decode cX7_merge 48 = .ok (.iaload, 1) := by decide +kernel
theorem dX7_merge_49 : decode cX7_merge 49 = .ok (.iastore, 1) := by decide +kernel
theorem dX7_merge_50 : decode cX7_merge 50 = .ok (.goto 27, 3) := by decide +kernel
theorem dX7_merge_53 : decode cX7_merge 53 = .ok (.aload_n 0, 1) := by decide +kernel
theorem dX7_merge_54 : decode cX7_merge 54 = .ok (.getfield 22, 3) := by decide +kernel
theorem dX7_merge_57 : decode cX7_merge 57 = .ok (.iload 4, 2) := by decide +kernel
theorem dX7_merge_59 : decode cX7_merge 59 = .ok (.iaload, 1) := by decide +kernel
theorem dX7_merge_60 : decode cX7_merge 60 = .ok (.aload_n 0, 1) := by decide +kernel
theorem dX7_merge_61 : decode cX7_merge 61 = .ok (.getfield 25, 3) := by decide +kernel
theorem dX7_merge_64 : decode cX7_merge 64 = .ok (.iload_n 3, 1) := by decide +kernel
theorem dX7_merge_65 : decode cX7_merge 65 = .ok (.iaload, 1) := by decide +kernel
theorem dX7_merge_66 : decode cX7_merge 66 = .ok (.if_icmp .eq 11, 3) := by decide +kernel
theorem dX7_merge_69 : decode cX7_merge 69 = .ok (.aload_n 0, 1) := by decide +kernel
theorem dX7_merge_70 : decode cX7_merge 70 = .ok (.getfield 22, 3) := by decide +kernel
theorem dX7_merge_73 : decode cX7_merge 73 = .ok (.iload 4, 2) := by decide +kernel
theorem dX7_merge_75 : decode cX7_merge 75 = .ok (.iconst (-1), 1) := by decide +kernel
theorem dX7_merge_76 : decode cX7_merge 76 = .ok (.iastore, 1) := by decide +kernel
theorem dX7_merge_77 : decode cX7_merge 77 = .ok (.iinc 3 1, 3) := by decide +kernel
theorem dX7_merge_80 : decode cX7_merge 80 = .ok (.goto (-61), 3) := by decide +kernel
theorem dX7_merge_83 : decode cX7_merge 83 = .ok (.aload_n 0, 1) := by decide +kernel
theorem dX7_merge_84 : decode cX7_merge 84 = .ok (.dup, 1) := by decide +kernel
theorem dX7_merge_85 : decode cX7_merge 85 = .ok (.getfield 28, 3) := by decide +kernel
theorem dX7_merge_88 : decode cX7_merge 88 = .ok (.iconst 1, 1) := by decide +kernel
theorem dX7_merge_89 : decode cX7_merge 89 = .ok (.iload_n 1, 1) := by decide +kernel
theorem dX7_merge_90 : decode cX7_merge 90 = .ok (.ishl, 1) := by decide +kernel
theorem dX7_merge_91 : decode cX7_merge 91 = .ok (.ior, 1) := by decide +kernel
theorem dX7_merge_92 : decode cX7_merge 92 = .ok (.putfield 28, 3) := by decide +kernel
theorem dX7_merge_95 : decode cX7_merge 95 = .ok (.return_, 1) := by decide +kernel
theorem dX7_step_0 : decode cX7_step 0 = .ok (.aload_n 0, 1) := by decide +kernel
theorem dX7_step_1 : decode cX7_step 1 = .ok (.getfield 32, 3) := by decide +kernel
theorem dX7_step_4 : decode cX7_step 4 = .ok (.iload_n 1, 1) := by decide +kernel
theorem dX7_step_5 : decode cX7_step 5 = .ok (.iload_n 2, 1) := by decide +kernel
theorem dX7_step_6 : decode cX7_step 6 = .ok (.invokevirtual 56, 3) := by decide +kernel
theorem dX7_step_9 : decode cX7_step 9 = .ok (.istore_n 3, 1) := by decide +kernel
theorem dX7_step_10 : decode cX7_step 10 = .ok (.aload_n 0, 1) := by decide +kernel
theorem dX7_step_11 : decode cX7_step 11 = .ok (.getfield 32, 3) := by decide +kernel
theorem dX7_step_14 : decode cX7_step 14 = .ok (.iload_n 1, 1) := by decide +kernel
theorem dX7_step_15 : decode cX7_step 15 = .ok (.iload_n 2, 1) := by decide +kernel
theorem dX7_step_16 : decode cX7_step 16 = .ok (.invokevirtual 97, 3) := by decide +kernel
theorem dX7_step_19 : decode cX7_step 19 = .ok (.istore 4, 2) := by decide +kernel
theorem dX7_step_21 : decode cX7_step 21 = .ok (.aload_n 0, 1) := by decide +kernel
theorem dX7_step_22 : decode cX7_step 22 = .ok (.getfield 19, 3) := by decide +kernel
theorem dX7_step_25 : decode cX7_step 25 = .ok (.iload_n 1, 1) := by decide +kernel
theorem dX7_step_26 : decode cX7_step 26 = .ok (.bipush 15, 2) := by decide +kernel
theorem dX7_step_28 : decode cX7_step 28 = .ok (.imul, 1) := by decide +kernel
theorem dX7_step_29 : decode cX7_step 29 = .ok (.iload_n 2, 1) := by decide +kernel
theorem dX7_step_30 : decode cX7_step 30 = .ok (.iadd, 1) := by decide +kernel
theorem dX7_step_31 : decode cX7_step 31 = .ok (.iaload, 1) := by decide +kernel
theorem dX7_step_32 : decode cX7_step 32 = .ok (.istore 5, 2) := by decide +kernel
theorem dX7_step_34 : decode cX7_step 34 = .ok (.iload_n 3, 1) := by decide +kernel
theorem dX7_step_35 : decode cX7_step 35 = .ok (.bipush 100, 2) := by decide +kernel
theorem dX7_step_37 : decode cX7_step 37 = .ok (.if_icmp .ne 14, 3) := by decide +kernel
theorem dX7_step_40 : decode cX7_step 40 = .ok (.aload_n 0, 1) := by decide +kernel
theorem dX7_step_41 : decode cX7_step 41 = .ok (.getfield 25, 3) := by decide +kernel
theorem dX7_step_44 : decode cX7_step 44 = .ok (.iload 4, 2) := by decide +kernel
theorem dX7_step_46 : decode cX7_step 46 = .ok (.iconst (-1), 1) := by decide +kernel
theorem dX7_step_47 : decode cX7_step 47 = .ok (.iastore, 1) := by decide +kernel
theorem dX7_step_48 : decode cX7_step 48 = .ok (.goto 114, 3) := by decide +kernel
theorem dX7_step_51 : decode cX7_step 51 = .ok (.iload_n 3, 1) := by decide +kernel
theorem dX7_step_52 : decode cX7_step 52 = .ok (.bipush 109, 2) := by decide +kernel
theorem dX7_step_54 : decode cX7_step 54 = .ok (.if_icmp .ne 26, 3) := by decide +kernel
theorem dX7_step_57 : decode cX7_step 57 = .ok (.aload_n 0, 1) := by decide +kernel
theorem dX7_step_58 : decode cX7_step 58 = .ok (.getfield 25, 3) := by decide +kernel
theorem dX7_step_61 : decode cX7_step 61 = .ok (.iload 4, 2) := by decide +kernel
theorem dX7_step_63 : decode cX7_step 63 = .ok (.bipush 10, 2) := by decide +kernel
theorem dX7_step_65 : decode cX7_step 65 = .ok (.idiv, 1) := by decide +kernel
theorem dX7_step_66 : decode cX7_step 66 = .ok (.aload_n 0, 1) := by decide +kernel
theorem dX7_step_67 : decode cX7_step 67 = .ok (.getfield 25, 3) := by decide +kernel
theorem dX7_step_70 : decode cX7_step 70 = .ok (.iload 4, 2) := by decide +kernel
theorem dX7_step_72 : decode cX7_step 72 = .ok (.bipush 10, 2) := by decide +kernel
theorem dX7_step_74 : decode cX7_step 74 = .ok (.irem, 1) := by decide +kernel
theorem dX7_step_75 : decode cX7_step 75 = .ok (.iaload, 1) := by decide +kernel
theorem dX7_step_76 : decode cX7_step 76 = .ok (.iastore, 1) := by decide +kernel
theorem dX7_step_77 : decode cX7_step 77 = .ok (.goto 85, 3) := by decide +kernel
theorem dX7_step_80 : decode cX7_step 80 = .ok (.iload_n 3, 1) := by decide +kernel
theorem dX7_step_81 : decode cX7_step 81 = .ok (.bipush 43, 2) := by decide +kernel
theorem dX7_step_83 : decode cX7_step 83 = .ok (.if_icmp .ne 30, 3) := by decide +kernel
theorem dX7_step_86 : decode cX7_step 86 = .ok (.iload 5, 2) := by decide +kernel
theorem dX7_step_88 : decode cX7_step 88 = .ok (.bipush 6, 2) := by decide +kernel
theorem dX7_step_90 : decode cX7_step 90 = .ok (.if_icmp .ge 23, 3) := by decide +kernel
theorem dX7_step_93 : decode cX7_step 93 = .ok (.aload_n 0, 1) := by decide +kernel
theorem dX7_step_94 : decode cX7_step 94 = .ok (.getfield 25, 3) := by decide +kernel
theorem dX7_step_97 : decode cX7_step 97 = .ok (.bipush 8, 2) := by decide +kernel
theorem dX7_step_99 : decode cX7_step 99 = .ok (.iload 5, 2) := by decide +kernel
theorem dX7_step_101 : decode cX7_step 101 = .ok (.iadd, 1) := by decide +kernel
theorem dX7_step_102 : decode cX7_step 102 = .ok (.aload_n 0, 1) := by decide +kernel
theorem dX7_step_103 : decode cX7_step 103 = .ok (.getfield 25, 3) := by decide +kernel
theorem dX7_step_106 : decode cX7_step 106 = .ok (.iload 4, 2) := by decide +kernel
theorem dX7_step_108 : decode cX7_step 108 = .ok (.iaload, 1) := by decide +kernel
theorem dX7_step_109 : decode cX7_step 109 = .ok (.iastore, 1) := by decide +kernel
theorem dX7_step_110 : decode cX7_step 110 = .ok (.goto 52, 3) := by decide +kernel
theorem dX7_step_113 : decode cX7_step 113 = .ok (.iload_n 3, 1) := by decide +kernel
theorem dX7_step_114 : decode cX7_step 114 = .ok (.bipush 45, 2) := by decide +kernel
theorem dX7_step_116 : decode cX7_step 116 = .ok (.if_icmp .ne 30, 3) := by decide +kernel
theorem dX7_step_119 : decode cX7_step 119 = .ok (.iload 5, 2) := by decide +kernel
theorem dX7_step_121 : decode cX7_step 121 = .ok (.ifCond .le 25, 3) := by decide +kernel
theorem dX7_step_124 : decode cX7_step 124 = .ok (.aload_n 0, 1) := by decide +kernel
theorem dX7_step_125 : decode cX7_step 125 = .ok (.getfield 25, 3) := by decide +kernel
theorem dX7_step_128 : decode cX7_step 128 = .ok (.iload 4, 2) := by decide +kernel
theorem dX7_step_130 : decode cX7_step 130 = .ok (.aload_n 0, 1) := by decide +kernel
theorem dX7_step_131 : decode cX7_step 131 = .ok (.getfield 25, 3) := by decide +kernel
theorem dX7_step_134 : decode cX7_step 134 = .ok (.bipush 8, 2) := by decide +kernel
theorem dX7_step_136 : decode cX7_step 136 = .ok (.iload 5, 2) := by decide +kernel
theorem dX7_step_138 : decode cX7_step 138 = .ok (.iadd, 1) := by decide +kernel
theorem dX7_step_139 : decode cX7_step 139 = .ok (.iconst 1, 1) := by decide +kernel
theorem dX7_step_140 : decode cX7_step 140 = .ok (.isub, 1) := by decide +kernel
theorem dX7_step_141 : decode cX7_step 141 = .ok (.iaload, 1) := by decide +kernel
theorem dX7_step_142 : decode cX7_step 142 = .ok (.iastore, 1) := by decide +kernel
theorem dX7_step_143 : decode cX7_step 143 = .ok (.goto 19, 3) := by decide +kernel
theorem dX7_step_146 : decode cX7_step 146 = .ok (.iload_n 3, 1) := by decide +kernel
theorem dX7_step_147 : decode cX7_step 147 = .ok (.bipush 99, 2) := by decide +kernel
theorem dX7_step_149 : decode cX7_step 149 = .ok (.if_icmp .ne 13, 3) := by decide +kernel
theorem dX7_step_152 : decode cX7_step 152 = .ok (.aload_n 0, 1) := by decide +kernel
theorem dX7_step_153 : decode cX7_step 153 = .ok (.aload_n 0, 1) := by decide +kernel
theorem dX7_step_154 : decode cX7_step 154 = .ok (.iload 4, 2) := by decide +kernel
theorem dX7_step_156 : decode cX7_step 156 = .ok (.invokevirtual 100, 3) := by decide +kernel
theorem dX7_step_159 : decode cX7_step 159 = .ok (.invokevirtual 103, 3) := by decide +kernel
theorem dX7_step_162 : decode cX7_step 162 = .ok (.return_, 1) := by decide +kernel
theorem dX7_forget_0 : decode cX7_forget 0 = .ok (.iconst 0, 1) := by decide +kernel
theorem dX7_forget_1 : decode cX7_forget 1 = .ok (.istore_n 2, 1) := by decide +kernel
theorem dX7_forget_2 : decode cX7_forget 2 = .ok (.iload_n 2, 1) := by decide +kernel
theorem dX7_forget_3 : decode cX7_forget 3 = .ok (.bipush 8, 2) := by decide +kernel
theorem dX7_forget_5 : decode cX7_forget 5 = .ok (.if_icmp .ge 24, 3) := by decide +kernel
theorem dX7_forget_8 : decode cX7_forget 8 = .ok (.iload_n 1, 1) := by decide +kernel
theorem dX7_forget_9 : decode cX7_forget 9 = .ok (.iload_n 2, 1) := by decide +kernel
theorem dX7_forget_10 : decode cX7_forget 10 = .ok (.invokestatic 94, 3) := by decide +kernel
theorem dX7_forget_13 : decode cX7_forget 13 = .ok (.ifCond .eq 10, 3) := by decide +kernel
theorem dX7_forget_16 : decode cX7_forget 16 = .ok (.aload_n 0, 1) := by decide +kernel
theorem dX7_forget_17 : decode cX7_forget 17 = .ok (.getfield 25, 3) := by decide +kernel
theorem dX7_forget_20 : decode cX7_forget 20 = .ok (.iload_n 2, 1) := by decide +kernel
theorem dX7_forget_21 : decode cX7_forget 21 = .ok (.iconst (-1), 1) := by decide +kernel
theorem dX7_forget_22 : decode cX7_forget 22 = .ok (.iastore, 1) := by decide +kernel
theorem dX7_forget_23 : decode cX7_forget 23 = .ok (.iinc 2 1, 3) := by decide +kernel
theorem dX7_forget_26 : decode cX7_forget 26 = .ok (.goto (-24), 3) := by decide +kernel
theorem dX7_forget_29 : decode cX7_forget 29 = .ok (.return_, 1) := by decide +kernel
theorem dX8_init_0 : decode cX8_init 0 = .ok (.aload_n 0, 1) := by decide +kernel
theorem dX8_init_1 : decode cX8_init 1 = .ok (.invokespecial 3, 3) := by decide +kernel
theorem dX8_init_4 : decode cX8_init 4 = .ok (.aload_n 0, 1) := by decide +kernel
theorem dX8_init_5 : decode cX8_init 5 = .ok (.new 9, 3) := by decide +kernel
theorem dX8_init_8 : decode cX8_init 8 = .ok (.dup, 1) := by decide +kernel
theorem dX8_init_9 : decode cX8_init 9 = .ok (.invokespecial 11, 3) := by decide +kernel
theorem dX8_init_12 : decode cX8_init 12 = .ok (.putfield 12, 3) := by decide +kernel
theorem dX8_init_15 : decode cX8_init 15 = .ok (.aload_n 0, 1) := by decide +kernel
theorem dX8_init_16 : decode cX8_init 16 = .ok (.new 16, 3) := by decide +kernel
theorem dX8_init_19 : decode cX8_init 19 = .ok (.dup, 1) := by decide +kernel
theorem dX8_init_20 : decode cX8_init 20 = .ok (.invokespecial 18, 3) := by decide +kernel
theorem dX8_init_23 : decode cX8_init 23 = .ok (.putfield 19, 3) := by decide +kernel
theorem dX8_init_26 : decode cX8_init 26 = .ok (.aload_n 0, 1) := by decide +kernel
theorem dX8_init_27 : decode cX8_init 27 = .ok (.new 16, 3) := by decide +kernel
theorem dX8_init_30 : decode cX8_init 30 = .ok (.dup, 1) := by decide +kernel
theorem dX8_init_31 : decode cX8_init 31 = .ok (.invokespecial 18, 3) := by decide +kernel
theorem dX8_init_34 : decode cX8_init 34 = .ok (.putfield 23, 3) := by decide +kernel
theorem dX8_init_37 : decode cX8_init 37 = .ok (.aload_n 0, 1) := by decide +kernel
theorem dX8_init_38 : decode cX8_init 38 = .ok (.new 26, 3) := by decide +kernel
theorem dX8_init_41 : decode cX8_init 41 = .ok (.dup, 1) := by decide +kernel
theorem dX8_init_42 : decode cX8_init 42 = .ok (.aload_n 0, 1) := by decide +kernel
theorem dX8_init_43 : decode cX8_init 43 = .ok (.getfield 19, 3) := by decide +kernel
theorem dX8_init_46 : decode cX8_init 46 = .ok (.invokespecial 28, 3) := by decide +kernel
theorem dX8_init_49 : decode cX8_init 49 = .ok (.putfield 31, 3) := by decide +kernel
theorem dX8_init_52 : decode cX8_init 52 = .ok (.aload_n 0, 1) := by decide +kernel
theorem dX8_init_53 : decode cX8_init 53 = .ok (.new 35, 3) := by decide +kernel
theorem dX8_init_56 : decode cX8_init 56 = .ok (.dup, 1) := by decide +kernel
theorem dX8_init_57 : decode cX8_init 57 = .ok (.aload_n 0, 1) := by decide +kernel
theorem dX8_init_58 : decode cX8_init 58 = .ok (.getfield 19, 3) := by decide +kernel
theorem dX8_init_61 : decode cX8_init 61 = .ok (.aload_n 0, 1) := by decide +kernel
theorem dX8_init_62 : decode cX8_init 62 = .ok (.getfield 31, 3) := by decide +kernel
theorem dX8_init_65 : decode cX8_init 65 = .ok (.invokespecial 37, 3) := by decide +kernel
theorem dX8_init_68 : decode cX8_init 68 = .ok (.putfield 40, 3) := by decide +kernel
theorem dX8_init_71 : decode cX8_init 71 = .ok (.aload_n 0, 1) := by decide +kernel
theorem dX8_init_72 : decode cX8_init 72 = .ok (.new 44, 3) := by decide +kernel
theorem dX8_init_75 : decode cX8_init 75 = .ok (.dup, 1) := by decide +kernel
theorem dX8_init_76 : decode cX8_init 76 = .ok (.aload_n 0, 1) := by decide +kernel
theorem dX8_init_77 : decode cX8_init 77 = .ok (.getfield 19, 3) := by decide +kernel
theorem dX8_init_80 : decode cX8_init 80 = .ok (.aload_n 0, 1) := by decide +kernel
theorem dX8_init_81 : decode cX8_init 81 = .ok (.getfield 31, 3) := by decide +kernel
theorem dX8_init_84 : decode cX8_init 84 = .ok (.invokespecial 46, 3) := by decide +kernel
theorem dX8_init_87 : decode cX8_init 87 = .ok (.putfield 47, 3) := by decide +kernel
theorem dX8_init_90 : decode cX8_init 90 = .ok (.aload_n 0, 1) := by decide +kernel
theorem dX8_init_91 : decode cX8_init 91 = .ok (.new 51, 3) := by decide +kernel
theorem dX8_init_94 : decode cX8_init 94 = .ok (.dup, 1) := by decide +kernel
theorem dX8_init_95 : decode cX8_init 95 = .ok (.aload_n 0, 1) := by decide +kernel
theorem dX8_init_96 : decode cX8_init 96 = .ok (.getfield 19, 3) := by decide +kernel
theorem dX8_init_99 : decode cX8_init 99 = .ok (.aload_n 0, 1) := by decide +kernel
theorem dX8_init_100 : decode cX8_init 100 = .ok (.getfield 31, 3) := by decide +kernel
theorem dX8_init_103 : decode cX8_init 103 = .ok (.aload_n 0, 1) := by decide +kernel
theorem dX8_init_104 : decode cX8_init 104 = .ok (.getfield 40, 3) := by decide +kernel
theorem dX8_init_107 : decode cX8_init 107 = .ok (.aload_n 0, 1) := by decide +kernel
theorem dX8_init_108 : decode cX8_init 108 = .ok (.getfield 47, 3) := by decide +kernel
theorem dX8_init_111 : decode cX8_init 111 = .ok (.invokespecial 53, 3) := by decide +kernel
theorem dX8_init_114 : decode cX8_init 114 = .ok (.putfield 56, 3) := by decide +kernel
theorem dX8_init_117 : decode cX8_init 117 = .ok (.aload_n 0, 1) := by decide +kernel
theorem dX8_init_118 : decode cX8_init 118 = .ok (.new 60, 3) := by decide +kernel
theorem dX8_init_121 : decode cX8_init 121 = .ok (.dup, 1) := by decide +kernel
theorem dX8_init_122 : decode cX8_init 122 = .ok (.aload_n 0, 1) := by decide +kernel
theorem dX8_init_123 : decode cX8_init 123 = .ok (.getfield 19, 3) := by decide +kernel
theorem dX8_init_126 : decode cX8_init 126 = .ok (.aload_n 0, 1) := by decide +kernel
theorem dX8_init_127 : decode cX8_init 127 = .ok (.getfield 31, 3) := by decide +kernel
theorem dX8_init_130 : decode cX8_init 130 = .ok (.invokespecial 62, 3) := by decide +kernel
theorem dX8_init_133 : decode cX8_init 133 = .ok (.putfield 63, 3) := by decide +kernel
theorem dX8_init_136 : decode cX8_init 136 = .ok (.aload_n 0, 1) := by decide +kernel
theorem dX8_init_137 : decode cX8_init 137 = .ok (.new 67, 3) := by decide +kernel
theorem dX8_init_140 : decode cX8_init 140 = .ok (.dup, 1) := by decide +kernel
theorem dX8_init_141 : decode cX8_init 141 = .ok (.aload_n 0, 1) := by decide +kernel
theorem dX8_init_142 : decode cX8_init 142 = .ok (.getfield 19, 3) := by decide +kernel
theorem dX8_init_145 : decode cX8_init 145 = .ok (.invokespecial 69, 3) := by decide +kernel
theorem dX8_init_148 : decode cX8_init 148 = .ok (.putfield 70, 3) := by decide +kernel
theorem dX8_init_151 : decode cX8_init 151 = .ok (.aload_n 0, 1) := by decide +kernel
theorem dX8_init_152 : decode cX8_init 152 = .ok (.iconst 0, 1) := by decide +kernel
theorem dX8_init_153 : decode cX8_init 153 = .ok (.putfield 74, 3) := by decide +kernel
theorem dX8_init_156 : decode cX8_init 156 = .ok (.aload_n 0, 1) := by decide +kernel
theorem dX8_init_157 : decode cX8_init 157 = .ok (.iconst 1, 1) := by decide +kernel
theorem dX8_init_158 : decode cX8_init 158 = .ok (.putfield 78, 3) := by decide +kernel
theorem dX8_init_161 : decode cX8_init 161 = .ok (.aload_n 0, 1) := by decide +kernel
theorem dX8_init_162 : decode cX8_init 162 = .ok (.iconst 0, 1) := by decide +kernel
theorem dX8_init_163 : decode cX8_init 163 = .ok (.putfield 81, 3) := by decide +kernel
theorem dX8_init_166 : decode cX8_init 166 = .ok (.return_, 1) := by decide +kernel
theorem dX8_appendCharacter_0 : decode cX8_appendCharacter 0 = .ok (.iload_n 1, 1) := by decide +kernel
theorem dX8_appendCharacter_1 : decode cX8_appendCharacter 1 = .ok (.bipush 33, 2) := by decide +kernel
theorem dX8_appendCharacter_3 : decode cX8_appendCharacter 3 = .ok (.if_icmp .lt 9, 3) := by decide +kernel
theorem dX8_appendCharacter_6 : decode cX8_appendCharacter 6 = .ok (.iload_n 1, 1) := by decide +kernel
theorem dX8_appendCharacter_7 : decode cX8_appendCharacter 7 = .ok (.bipush 126, 2) := by decide +kernel
theorem dX8_appendCharacter_9 : decode cX8_appendCharacter 9 = .ok (.if_icmp .le 13, 3) := by decide +kernel
theorem dX8_appendCharacter_12 : decode cX8_appendCharacter 12 = .ok (.new 84, 3) := by decide +kernel
theorem dX8_appendCharacter_15 : decode cX8_appendCharacter 15 = .ok (.dup, 1) := by decide +kernel
theorem dX8_appendCharacter_16 : decode cX8_appendCharacter 16 = .ok (.ldc 86, 2) := by decide +kernel
theorem dX8_appendCharacter_18 : decode cX8_appendCharacter 18 = .ok (.invokespecial 88, 3) := by decide +kernel
theorem dX8_appendCharacter_21 : decode cX8_appendCharacter 21 = .ok (.athrow, 1) := by decide +kernel
theorem dX8_appendCharacter_22 : decode cX8_appendCharacter 22 = .ok (.aload_n 0, 1) := by decide +kernel
theorem dX8_appendCharacter_23 : decode cX8_appendCharacter 23 = .ok (.getfield 12, 3) := by decide +kernel
theorem dX8_appendCharacter_26 : decode cX8_appendCharacter 26 = .ok (.getfield 91, 3) := by decide +kernel
theorem dX8_appendCharacter_29 : decode cX8_appendCharacter 29 = .ok (.bipush 60, 2) := by decide +kernel
theorem dX8_appendCharacter_31 : decode cX8_appendCharacter 31 = .ok (.if_icmp .lt 13, 3) := by decide +kernel
theorem dX8_appendCharacter_34 : decode cX8_appendCharacter 34 = .ok (.new 95, 3) := by decide +kernel
theorem dX8_appendCharacter_37 : decode cX8_appendCharacter 37 = .ok (.dup, 1) := by decide +kernel
theorem dX8_appendCharacter_38 : decode cX8_appendCharacter 38 = .ok (.ldc 97, 2) := by decide +kernel
theorem dX8_appendCharacter_40 : decode cX8_appendCharacter 40 = .ok (.invokespecial 99, 3) := by decide +kernel
theorem dX8_appendCharacter_43 : decode cX8_appendCharacter 43 = .ok (.athrow, 1) := by decide +kernel
theorem dX8_appendCharacter_44 : decode cX8_appendCharacter 44 = .ok (.aload_n 0, 1) := by decide +kernel
theorem dX8_appendCharacter_45 : decode cX8_appendCharacter 45 = .ok (.getfield 12, 3) := by decide +kernel
theorem dX8_appendCharacter_48 : decode cX8_appendCharacter 48 = .ok (.getfield 100, 3) := by decide +kernel
theorem dX8_appendCharacter_51 : decode cX8_appendCharacter 51 = .ok (.aload_n 0, 1) := by decide +kernel
theorem dX8_appendCharacter_52 : decode cX8_appendCharacter 52 = .ok (.getfield 12, 3) := by decide +kernel
theorem dX8_appendCharacter_55 : decode cX8_appendCharacter 55 = .ok (.getfield 91, 3) := by decide +kernel
theorem dX8_appendCharacter_58 : decode cX8_appendCharacter 58 = .ok (.iload_n 1, 1) := by decide +kernel
theorem dX8_appendCharacter_59 : decode cX8_appendCharacter 59 = .ok (.i2c, 1) := by decide +kernel
theorem dX8_appendCharacter_60 : decode cX8_appendCharacter 60 = .ok (.castore, 1) := by decide +kernel
theorem dX8_appendCharacter_61 : decode cX8_appendCharacter 61 = .ok (.aload_n 0, 1) := by decide +kernel
theorem dX8_appendCharacter_62 : decode cX8_appendCharacter 62 = .ok (.getfield 12, 3) := by decide +kernel
theorem dX8_appendCharacter_65 : decode cX8_appendCharacter 65 = .ok (.dup, 1) := by decide +kernel
theorem dX8_appendCharacter_66 : decode cX8_appendCharacter 66 = .ok (.getfield 91, 3) := by decide +kernel
theorem dX8_appendCharacter_69 : decode cX8_appendCharacter 69 = .ok (.iconst 1, 1) := by decide +kernel
theorem dX8_appendCharacter_70 : decode cX8_appendCharacter 70 = .ok (.iadd, 1) := by decide +kernel
theorem dX8_appendCharacter_71 : decode cX8_appendCharacter 71 = .ok (.putfield 91, 3) := by decide +kernel
theorem dX8_appendCharacter_74 : decode cX8_appendCharacter 74 = .ok (.aload_n 0, 1) := by decide +kernel
theorem dX8_appendCharacter_75 : decode cX8_appendCharacter 75 = .ok (.getfield 12, 3) := by decide +kernel
theorem dX8_appendCharacter_78 : decode cX8_appendCharacter 78 = .ok (.getfield 91, 3) := by decide +kernel
theorem dX8_appendCharacter_81 : decode cX8_appendCharacter 81 = .ok (.ireturn, 1) := by decide +kernel
theorem dX8_setBody_0 : decode cX8_setBody 0 = .ok (.aload_n 0, 1) := by decide +kernel
theorem dX8_setBody_1 : decode cX8_setBody 1 = .ok (.iload_n 1, 1) := by decide +kernel
theorem dX8_setBody_2 : decode cX8_setBody 2 = .ok (.invokevirtual 104, 3) := by decide +kernel
theorem dX8_setBody_5 : decode cX8_setBody 5 = .ok (.aload_n 0, 1) := by decide +kernel
theorem dX8_setBody_6 : decode cX8_setBody 6 = .ok (.getfield 12, 3) := by decide +kernel
theorem dX8_setBody_9 : decode cX8_setBody 9 = .ok (.invokevirtual 108, 3) := by decide +kernel
theorem dX8_setBody_12 : decode cX8_setBody 12 = .ok (.aload_n 0, 1) := by decide +kernel
theorem dX8_setBody_13 : decode cX8_setBody 13 = .ok (.getfield 12, 3) := by decide +kernel
theorem dX8_setBody_16 : decode cX8_setBody 16 = .ok (.getfield 111, 3) := by decide +kernel
theorem dX8_setBody_19 : decode cX8_setBody 19 = .ok (.iconst (-1), 1) := by decide +kernel
theorem dX8_setBody_20 : decode cX8_setBody 20 = .ok (.if_icmp .eq 13, 3) := by decide +kernel
theorem dX8_setBody_23 : decode cX8_setBody 23 = .ok (.new 84, 3) := by decide +kernel
theorem dX8_setBody_26 : decode cX8_setBody 26 = .ok (.dup, 1) := by decide +kernel
theorem dX8_setBody_27 : decode cX8_setBody 27 = .ok (.ldc 114, 2) := by decide +kernel
theorem dX8_setBody_29 : decode cX8_setBody 29 = .ok (.invokespecial 88, 3) := by decide +kernel
theorem dX8_setBody_32 : decode cX8_setBody 32 = .ok (.athrow, 1) := by decide +kernel
theorem dX8_setBody_33 : decode cX8_setBody 33 = .ok (.aload_n 0, 1) := by decide +kernel
theorem dX8_setBody_34 : decode cX8_setBody 34 = .ok (.getfield 12, 3) := by decide +kernel
theorem dX8_setBody_37 : decode cX8_setBody 37 = .ok (.getfield 116, 3) := by decide +kernel
theorem dX8_setBody_40 : decode cX8_setBody 40 = .ok (.bipush 14, 2) := by decide +kernel
theorem dX8_setBody_42 : decode cX8_setBody 42 = .ok (.if_icmp .le 13, 3) := by decide +kernel
theorem dX8_setBody_45 : decode cX8_setBody 45 = .ok (.new 95, 3) := by decide +kernel
theorem dX8_setBody_48 : decode cX8_setBody 48 = .ok (.dup, 1) := by decide +kernel
theorem dX8_setBody_49 : decode cX8_setBody 49 = .ok (.ldc 119, 2) := by decide +kernel
theorem dX8_setBody_51 : decode cX8_setBody 51 = .ok (.invokespecial 99, 3) := by decide +kernel
theorem dX8_setBody_54 : decode cX8_setBody 54 = .ok (.athrow, 1) := by decide +kernel
theorem dX8_setBody_55 : decode cX8_setBody 55 = .ok (.aload_n 0, 1) := by decide +kernel
theorem dX8_setBody_56 : decode cX8_setBody 56 = .ok (.getfield 19, 3) := by decide +kernel
theorem dX8_setBody_59 : decode cX8_setBody 59 = .ok (.iload_n 1, 1) := by decide +kernel
theorem dX8_setBody_60 : decode cX8_setBody 60 = .ok (.aload_n 0, 1) := by decide +kernel
theorem dX8_setBody_61 : decode cX8_setBody 61 = .ok (.getfield 12, 3) := by decide +kernel
theorem dX8_setBody_64 : decode cX8_setBody 64 = .ok (.invokevirtual 121, 3) := by decide +kernel
theorem dX8_setBody_67 : decode cX8_setBody 67 = .ok (.aload_n 0, 1) := by decide +kernel
theorem dX8_setBody_68 : decode cX8_setBody 68 = .ok (.invokevirtual 125, 3) := by decide +kernel
theorem dX8_setBody_71 : decode cX8_setBody 71 = .ok (.aload_n 0, 1) := by decide +kernel
theorem dX8_setBody_72 : decode cX8_setBody 72 = .ok (.getfield 19, 3) := by decide +kernel
theorem dX8_setBody_75 : decode cX8_setBody 75 = .ok (.getfield 128, 3) := by decide +kernel
theorem dX8_setBody_78 : decode cX8_setBody 78 = .ok (.iload_n 1, 1) := by decide +kernel
theorem dX8_setBody_79 : decode cX8_setBody 79 = .ok (.iaload, 1) := by decide +kernel
theorem dX8_setBody_80 : decode cX8_setBody 80 = .ok (.ireturn, 1) := by decide +kernel
theorem dX8_faultPosition_0 : decode cX8_faultPosition 0 = .ok (.aload_n 0, 1) := by decide +kernel
theorem dX8_faultPosition_1 : decode cX8_faultPosition 1 = .ok (.getfield 12, 3) := by decide +kernel
theorem dX8_faultPosition_4 : decode cX8_faultPosition 4 = .ok (.getfield 111, 3) := by decide +kernel
theorem dX8_faultPosition_7 : decode cX8_faultPosition 7 = .ok (.ireturn, 1) := by decide +kernel
theorem dX8_length_0 : decode cX8_length 0 = .ok (.aload_n 0, 1) := by decide +kernel
theorem dX8_length_1 : decode cX8_length 1 = .ok (.iload_n 1, 1) := by decide +kernel
theorem dX8_length_2 : decode cX8_length 2 = .ok (.invokevirtual 104, 3) := by decide +kernel
theorem dX8_length_5 : decode cX8_length 5 = .ok (.aload_n 0, 1) := by decide +kernel
theorem dX8_length_6 : decode cX8_length 6 = .ok (.getfield 19, 3) := by decide +kernel
theorem dX8_length_9 : decode cX8_length 9 = .ok (.getfield 128, 3) := by decide +kernel
theorem dX8_length_12 : decode cX8_length 12 = .ok (.iload_n 1, 1) := by decide +kernel
theorem dX8_length_13 : decode cX8_length 13 = .ok (.iaload, 1) := by decide +kernel
theorem dX8_length_14 : decode cX8_length 14 = .ok (.ireturn, 1) := by decide +kernel
theorem dX8_instruction_0 : decode cX8_instruction 0 = .ok (.aload_n 0, 1) := by decide +kernel
theorem dX8_instruction_1 : decode cX8_instruction 1 = .ok (.iload_n 1, 1) := by decide +kernel
theorem dX8_instruction_2 : decode cX8_instruction 2 = .ok (.iload_n 2, 1) := by decide +kernel
theorem dX8_instruction_3 : decode cX8_instruction 3 = .ok (.invokevirtual 132, 3) := by decide +kernel
theorem dX8_instruction_6 : decode cX8_instruction 6 = .ok (.aload_n 0, 1) := by decide +kernel
theorem dX8_instruction_7 : decode cX8_instruction 7 = .ok (.getfield 19, 3) := by decide +kernel
theorem dX8_instruction_10 : decode cX8_instruction 10 = .ok (.iload_n 1, 1) := by decide +kernel
theorem dX8_instruction_11 : decode cX8_instruction 11 = .ok (.iload_n 2, 1) := by decide +kernel
theorem dX8_instruction_12 : decode cX8_instruction 12 = .ok (.invokevirtual 136, 3) := by decide +kernel
theorem dX8_instruction_15 : decode cX8_instruction 15 = .ok (.ireturn, 1) := by decide +kernel
theorem dX8_operand_0 : decode cX8_operand 0 = .ok (.aload_n 0, 1) := by decide +kernel
theorem dX8_operand_1 : decode cX8_operand 1 = .ok (.iload_n 1, 1) := by decide +kernel
theorem dX8_operand_2 : decode cX8_operand 2 = .ok (.iload_n 2, 1) := by decide +kernel
theorem dX8_operand_3 : decode cX8_operand 3 = .ok (.invokevirtual 132, 3) := by decide +kernel
theorem dX8_operand_6 : decode cX8_operand 6 = .ok (.aload_n 0, 1) := by decide +kernel
theorem dX8_operand_7 : decode cX8_operand 7 = .ok (.getfield 19, 3) := by decide +kernel
theorem dX8_operand_10 : decode cX8_operand 10 = .ok (.iload_n 1, 1) := by decide +kernel
theorem dX8_operand_11 : decode cX8_operand 11 = .ok (.iload_n 2, 1) := by decide +kernel
theorem dX8_operand_12 : decode cX8_operand 12 = .ok (.invokevirtual 136, 3) := by decide +kernel
theorem dX8_operand_15 : decode cX8_operand 15 = .ok (.bipush 114, 2) := by decide +kernel
theorem dX8_operand_17 : decode cX8_operand 17 = .ok (.if_icmp .ne 13, 3) := by decide +kernel
theorem dX8_operand_20 : decode cX8_operand 20 = .ok (.new 140, 3) := by decide +kernel
theorem dX8_operand_23 : decode cX8_operand 23 = .ok (.dup, 1) := by decide +kernel
theorem dX8_operand_24 : decode cX8_operand 24 = .ok (.ldc 142, 2) := by decide +kernel
theorem dX8_operand_26 : decode cX8_operand 26 = .ok (.invokespecial 144, 3) := by decide +kernel
theorem dX8_operand_29 : decode cX8_operand 29 = .ok (.athrow, 1) := by decide +kernel
theorem dX8_operand_30 : decode cX8_operand 30 = .ok (.aload_n 0, 1) := by decide +kernel
theorem dX8_operand_31 : decode cX8_operand 31 = .ok (.getfield 19, 3) := by decide +kernel
theorem dX8_operand_34 : decode cX8_operand 34 = .ok (.iload_n 1, 1) := by decide +kernel
theorem dX8_operand_35 : decode cX8_operand 35 = .ok (.iload_n 2, 1) := by decide +kernel
theorem dX8_operand_36 : decode cX8_operand 36 = .ok (.invokevirtual 145, 3) := by decide +kernel
theorem dX8_operand_39 : decode cX8_operand 39 = .ok (.ireturn, 1) := by decide +kernel
theorem dX8_removeInstruction_0 : decode cX8_removeInstruction 0 = .ok (.aload_n 0, 1) := by decide +kernel
theorem dX8_removeInstruction_1 : decode cX8_removeInstruction 1 = .ok (.iload_n 1, 1) := by decide +kernel
theorem dX8_removeInstruction_2 : decode cX8_removeInstruction 2 = .ok (.iload_n 2, 1) := by decide +kernel
theorem dX8_removeInstruction_3 : decode cX8_removeInstruction 3 = .ok (.invokevirtual 132, 3) := by decide +kernel
theorem dX8_removeInstruction_6 : decode cX8_removeInstruction 6 = .ok (.aload_n 0, 1) := by decide +kernel
theorem dX8_removeInstruction_7 : decode cX8_removeInstruction 7 = .ok (.getfield 19, 3) := by decide +kernel
theorem dX8_removeInstruction_10 : decode cX8_removeInstruction 10 = .ok (.iload_n 1, 1) := by decide +kernel
theorem dX8_removeInstruction_11 : decode cX8_removeInstruction 11 = .ok (.iload_n 2, 1) := by decide +kernel
theorem dX8_removeInstruction_12 : decode cX8_removeInstruction 12 = .ok (.invokevirtual 149, 3) := by decide +kernel
theorem dX8_removeInstruction_15 : decode cX8_removeInstruction 15 = .ok (.aload_n 0, 1) := by decide +kernel
theorem dX8_removeInstruction_16 : decode cX8_removeInstruction 16 = .ok (.invokevirtual 125, 3) := by decide +kernel
theorem dX8_removeInstruction_19 : decode cX8_removeInstruction 19 = .ok (.aload_n 0, 1) := by decide +kernel
theorem dX8_removeInstruction_20 : decode cX8_removeInstruction 20 = .ok (.getfield 19, 3) := by decide +kernel
theorem dX8_removeInstruction_23 : decode cX8_removeInstruction 23 = .ok (.getfield 128, 3) := by decide +kernel
theorem dX8_removeInstruction_26 : decode cX8_removeInstruction 26 = .ok (.iload_n 1, 1) := by decide +kernel
theorem dX8_removeInstruction_27 : decode cX8_removeInstruction 27 = .ok (.iaload, 1) := by decide +kernel
theorem dX8_removeInstruction_28 : decode cX8_removeInstruction 28 = .ok (.ireturn, 1) := by decide +kernel
theorem dX8_isReachable_0 : decode cX8_isReachable 0 = .ok (.aload_n 0, 1) := by decide +kernel
theorem dX8_isReachable_1 : decode cX8_isReachable 1 = .ok (.iload_n 1, 1) := by decide +kernel
theorem dX8_isReachable_2 : decode cX8_isReachable 2 = .ok (.iload_n 2, 1) := by decide +kernel
theorem dX8_isReachable_3 : decode cX8_isReachable 3 = .ok (.invokevirtual 132, 3) := by decide +kernel
theorem dX8_isReachable_6 : decode cX8_isReachable 6 = .ok (.aload_n 0, 1) := by decide +kernel
theorem dX8_isReachable_7 : decode cX8_isReachable 7 = .ok (.invokevirtual 152, 3) := by decide +kernel
theorem dX8_isReachable_10 : decode cX8_isReachable 10 = .ok (.aload_n 0, 1) := by decide +kernel
theorem dX8_isReachable_11 : decode cX8_isReachable 11 = .ok (.getfield 31, 3) := by decide +kernel
theorem dX8_isReachable_14 : decode cX8_isReachable 14 = .ok (.iload_n 1, 1) := by decide +kernel
theorem dX8_isReachable_15 : decode cX8_isReachable 15 = .ok (.iload_n 2, 1) := by decide +kernel
theorem dX8_isReachable_16 : decode cX8_isReachable 16 = .ok (.invokevirtual 155, 3) := by decide +kernel
theorem dX8_isReachable_19 : decode cX8_isReachable 19 = .ok (.ireturn, 1) := by decide +kernel
theorem dX8_isBalanced_0 : decode cX8_isBalanced 0 = .ok (.aload_n 0, 1) := by decide +kernel
theorem dX8_isBalanced_1 : decode cX8_isBalanced 1 = .ok (.iload_n 1, 1) := by decide +kernel
theorem dX8_isBalanced_2 : decode cX8_isBalanced 2 = .ok (.invokevirtual 104, 3) := by decide +kernel
theorem dX8_isBalanced_5 : decode cX8_isBalanced 5 = .ok (.aload_n 0, 1) := by decide +kernel
theorem dX8_isBalanced_6 : decode cX8_isBalanced 6 = .ok (.invokevirtual 152, 3) := by decide +kernel
theorem dX8_isBalanced_9 : decode cX8_isBalanced 9 = .ok (.aload_n 0, 1) := by decide +kernel
theorem dX8_isBalanced_10 : decode cX8_isBalanced 10 = .ok (.getfield 40, 3) := by decide +kernel
theorem dX8_isBalanced_13 : decode cX8_isBalanced 13 = .ok (.getfield 159, 3) := by decide +kernel
theorem dX8_isBalanced_16 : decode cX8_isBalanced 16 = .ok (.iload_n 1, 1) := by decide +kernel
theorem dX8_isBalanced_17 : decode cX8_isBalanced 17 = .ok (.baload, 1) := by decide +kernel
theorem dX8_isBalanced_18 : decode cX8_isBalanced 18 = .ok (.ireturn, 1) := by decide +kernel
theorem dX8_preserved_0 : decode cX8_preserved 0 = .ok (.aload_n 0, 1) := by decide +kernel
theorem dX8_preserved_1 : decode cX8_preserved 1 = .ok (.iload_n 1, 1) := by decide +kernel
theorem dX8_preserved_2 : decode cX8_preserved 2 = .ok (.invokevirtual 104, 3) := by decide +kernel
theorem dX8_preserved_5 : decode cX8_preserved 5 = .ok (.aload_n 0, 1) := by decide +kernel
theorem dX8_preserved_6 : decode cX8_preserved 6 = .ok (.invokevirtual 152, 3) := by decide +kernel
theorem dX8_preserved_9 : decode cX8_preserved 9 = .ok (.aload_n 0, 1) := by decide +kernel
theorem dX8_preserved_10 : decode cX8_preserved 10 = .ok (.getfield 40, 3) := by decide +kernel
theorem dX8_preserved_13 : decode cX8_preserved 13 = .ok (.getfield 163, 3) := by decide +kernel
theorem dX8_preserved_16 : decode cX8_preserved 16 = .ok (.iload_n 1, 1) := by decide +kernel
theorem dX8_preserved_17 : decode cX8_preserved 17 = .ok (.iaload, 1) := by decide +kernel
theorem dX8_preserved_18 : decode cX8_preserved 18 = .ok (.ireturn, 1) := by decide +kernel
theorem dX8_surelyDefined_0 : decode cX8_surelyDefined 0 = .ok (.aload_n 0, 1) := by decide +kernel
theorem dX8_surelyDefined_1 : decode cX8_surelyDefined 1 = .ok (.iload_n 1, 1) := by decide +kernel
theorem dX8_surelyDefined_2 : decode cX8_surelyDefined 2 = .ok (.invokevirtual 104, 3) := by decide +kernel
theorem dX8_surelyDefined_5 : decode cX8_surelyDefined 5 = .ok (.aload_n 0, 1) := by decide +kernel
theorem dX8_surelyDefined_6 : decode cX8_surelyDefined 6 = .ok (.invokevirtual 152, 3) := by decide +kernel
theorem dX8_surelyDefined_9 : decode cX8_surelyDefined 9 = .ok (.aload_n 0, 1) := by decide +kernel
theorem dX8_surelyDefined_10 : decode cX8_surelyDefined 10 = .ok (.getfield 47, 3) := by decide +kernel
theorem dX8_surelyDefined_13 : decode cX8_surelyDefined 13 = .ok (.getfield 166, 3) := by decide +kernel
theorem dX8_surelyDefined_16 : decode cX8_surelyDefined 16 = .ok (.iload_n 1, 1) := by decide +kernel
theorem dX8_surelyDefined_17 : decode cX8_surelyDefined 17 = .ok (.iaload, 1) := by decide +kernel
theorem dX8_surelyDefined_18 : decode cX8_surelyDefined 18 = .ok (.ireturn, 1) := by decide +kernel
theorem dX8_arguments_0 : decode cX8_arguments 0 = .ok (.aload_n 0, 1) := by decide +kernel
theorem dX8_arguments_1 : decode cX8_arguments 1 = .ok (.iload_n 1, 1) := by decide +kernel
theorem dX8_arguments_2 : decode cX8_arguments 2 = .ok (.invokevirtual 104, 3) := by decide +kernel
theorem dX8_arguments_5 : decode cX8_arguments 5 = .ok (.aload_n 0, 1) := by decide +kernel
theorem dX8_arguments_6 : decode cX8_arguments 6 = .ok (.invokevirtual 152, 3) := by decide +kernel
theorem dX8_arguments_9 : decode cX8_arguments 9 = .ok (.aload_n 0, 1) := by decide +kernel
theorem dX8_arguments_10 : decode cX8_arguments 10 = .ok (.getfield 56, 3) := by decide +kernel
theorem dX8_arguments_13 : decode cX8_arguments 13 = .ok (.getfield 169, 3) := by decide +kernel
theorem dX8_arguments_16 : decode cX8_arguments 16 = .ok (.iload_n 1, 1) := by decide +kernel
theorem dX8_arguments_17 : decode cX8_arguments 17 = .ok (.iaload, 1) := by decide +kernel
theorem dX8_arguments_18 : decode cX8_arguments 18 = .ok (.ireturn, 1) := by decide +kernel
theorem dX8_results_0 : decode cX8_results 0 = .ok (.aload_n 0, 1) := by decide +kernel
theorem dX8_results_1 : decode cX8_results 1 = .ok (.iload_n 1, 1) := by decide +kernel
theorem dX8_results_2 : decode cX8_results 2 = .ok (.invokevirtual 104, 3) := by decide +kernel
theorem dX8_results_5 : decode cX8_results 5 = .ok (.aload_n 0, 1) := by decide +kernel
theorem dX8_results_6 : decode cX8_results 6 = .ok (.invokevirtual 152, 3) := by decide +kernel
theorem dX8_results_9 : decode cX8_results 9 = .ok (.aload_n 0, 1) := by decide +kernel
theorem dX8_results_10 : decode cX8_results 10 = .ok (.getfield 56, 3) := by decide +kernel
theorem dX8_results_13 : decode cX8_results 13 = .ok (.getfield 172, 3) := by decide +kernel
theorem dX8_results_16 : decode cX8_results 16 = .ok (.iload_n 1, 1) := by decide +kernel
theorem dX8_results_17 : decode cX8_results 17 = .ok (.iaload, 1) := by decide +kernel
theorem dX8_results_18 : decode cX8_results 18 = .ok (.ireturn, 1) := by decide +kernel
theorem dX8_liveBefore_0 : decode cX8_liveBefore 0 = .ok (.aload_n 0, 1) := by decide +kernel
theorem dX8_liveBefore_1 : decode cX8_liveBefore 1 = .ok (.iload_n 1, 1) := by decide +kernel
theorem dX8_liveBefore_2 : decode cX8_liveBefore 2 = .ok (.iload_n 2, 1) := by decide +kernel
theorem dX8_liveBefore_3 : decode cX8_liveBefore 3 = .ok (.invokevirtual 132, 3) := by decide +kernel
theorem dX8_liveBefore_6 : decode cX8_liveBefore 6 = .ok (.aload_n 0, 1) := by decide +kernel
theorem dX8_liveBefore_7 : decode cX8_liveBefore 7 = .ok (.invokevirtual 152, 3) := by decide +kernel
theorem dX8_liveBefore_10 : decode cX8_liveBefore 10 = .ok (.aload_n 0, 1) := by decide +kernel
theorem dX8_liveBefore_11 : decode cX8_liveBefore 11 = .ok (.getfield 31, 3) := by decide +kernel
theorem dX8_liveBefore_14 : decode cX8_liveBefore 14 = .ok (.iload_n 1, 1) := by decide +kernel
theorem dX8_liveBefore_15 : decode cX8_liveBefore 15 = .ok (.iload_n 2, 1) := by decide +kernel
theorem dX8_liveBefore_16 : decode cX8_liveBefore 16 = .ok (.invokevirtual 155, 3) := by decide +kernel
theorem dX8_liveBefore_19 : decode cX8_liveBefore 19 = .ok (.ifCond .ne 13, 3) := by decide +kernel
theorem dX8_liveBefore_22 : decode cX8_liveBefore 22 = .ok (.new 95, 3) := by decide +kernel
theorem dX8_liveBefore_25 : decode cX8_liveBefore 25 = .ok (.dup, 1) := by decide +kernel
theorem dX8_liveBefore_26 : decode cX8_liveBefore 26 = .ok (.ldc 175, 2) := by decide +kernel
theorem dX8_liveBefore_28 : decode cX8_liveBefore 28 = .ok (.invokespecial 99, 3) := by decide +kernel
theorem dX8_liveBefore_31 : decode cX8_liveBefore 31 = .ok (.athrow, 1) := by decide +kernel
theorem dX8_liveBefore_32 : decode cX8_liveBefore 32 = .ok (.aload_n 0, 1) := by decide +kernel
theorem dX8_liveBefore_33 : decode cX8_liveBefore 33 = .ok (.getfield 56, 3) := by decide +kernel
theorem dX8_liveBefore_36 : decode cX8_liveBefore 36 = .ok (.iload_n 1, 1) := by decide +kernel
theorem dX8_liveBefore_37 : decode cX8_liveBefore 37 = .ok (.iload_n 2, 1) := by decide +kernel
theorem dX8_liveBefore_38 : decode cX8_liveBefore 38 = .ok (.invokevirtual 177, 3) := by decide +kernel
theorem dX8_liveBefore_41 : decode cX8_liveBefore 41 = .ok (.ireturn, 1) := by decide +kernel
theorem dX8_neededSlots_0 : decode cX8_neededSlots 0 = .ok (.aload_n 0, 1) := by decide +kernel
theorem dX8_neededSlots_1 : decode cX8_neededSlots 1 = .ok (.iload_n 1, 1) := by decide +kernel
theorem dX8_neededSlots_2 : decode cX8_neededSlots 2 = .ok (.invokevirtual 104, 3) := by decide +kernel
theorem dX8_neededSlots_5 : decode cX8_neededSlots 5 = .ok (.aload_n 0, 1) := by decide +kernel
theorem dX8_neededSlots_6 : decode cX8_neededSlots 6 = .ok (.invokevirtual 152, 3) := by decide +kernel
theorem dX8_neededSlots_9 : decode cX8_neededSlots 9 = .ok (.aload_n 0, 1) := by decide +kernel
theorem dX8_neededSlots_10 : decode cX8_neededSlots 10 = .ok (.getfield 63, 3) := by decide +kernel
theorem dX8_neededSlots_13 : decode cX8_neededSlots 13 = .ok (.getfield 180, 3) := by decide +kernel
theorem dX8_neededSlots_16 : decode cX8_neededSlots 16 = .ok (.iload_n 1, 1) := by decide +kernel
theorem dX8_neededSlots_17 : decode cX8_neededSlots 17 = .ok (.iaload, 1) := by decide +kernel
theorem dX8_neededSlots_18 : decode cX8_neededSlots 18 = .ok (.ireturn, 1) := by decide +kernel
theorem dX8_isVariadic_0 : decode cX8_isVariadic 0 = .ok (.aload_n 0, 1) := by decide +kernel
theorem dX8_isVariadic_1 : decode cX8_isVariadic 1 = .ok (.iload_n 1, 1) := by decide +kernel
theorem dX8_isVariadic_2 : decode cX8_isVariadic 2 = .ok (.invokevirtual 104, 3) := by decide +kernel
theorem dX8_isVariadic_5 : decode cX8_isVariadic 5 = .ok (.aload_n 0, 1) := by decide +kernel
theorem dX8_isVariadic_6 : decode cX8_isVariadic 6 = .ok (.invokevirtual 152, 3) := by decide +kernel
theorem dX8_isVariadic_9 : decode cX8_isVariadic 9 = .ok (.aload_n 0, 1) := by decide +kernel
theorem dX8_isVariadic_10 : decode cX8_isVariadic 10 = .ok (.getfield 63, 3) := by decide +kernel
theorem dX8_isVariadic_13 : decode cX8_isVariadic 13 = .ok (.iload_n 1, 1) := by decide +kernel
theorem dX8_isVariadic_14 : decode cX8_isVariadic 14 = .ok (.invokevirtual 183, 3) := by decide +kernel
theorem dX8_isVariadic_17 : decode cX8_isVariadic 17 = .ok (.ireturn, 1) := by decide +kernel
theorem dX8_callees_0 : decode cX8_callees 0 = .ok (.aload_n 0, 1) := by decide +kernel
theorem dX8_callees_1 : decode cX8_callees 1 = .ok (.iload_n 1, 1) := by decide +kernel
theorem dX8_callees_2 : decode cX8_callees 2 = .ok (.invokevirtual 104, 3) := by decide +kernel
theorem dX8_callees_5 : decode cX8_callees 5 = .ok (.aload_n 0, 1) := by decide +kernel
theorem dX8_callees_6 : decode cX8_callees 6 = .ok (.invokevirtual 152, 3) := by decide +kernel
theorem dX8_callees_9 : decode cX8_callees 9 = .ok (.aload_n 0, 1) := by decide +kernel
theorem dX8_callees_10 : decode cX8_callees 10 = .ok (.getfield 31, 3) := by decide +kernel
theorem dX8_callees_13 : decode cX8_callees 13 = .ok (.getfield 187, 3) := by decide +kernel
theorem dX8_callees_16 : decode cX8_callees 16 = .ok (.iload_n 1, 1) := by decide +kernel
theorem dX8_callees_17 : decode cX8_callees 17 = .ok (.iaload, 1) := by decide +kernel
theorem dX8_callees_18 : decode cX8_callees 18 = .ok (.ireturn, 1) := by decide +kernel
theorem dX8_callersOf_0 : decode cX8_callersOf 0 = .ok (.aload_n 0, 1) := by decide +kernel
theorem dX8_callersOf_1 : decode cX8_callersOf 1 = .ok (.iload_n 1, 1) := by decide +kernel
theorem dX8_callersOf_2 : decode cX8_callersOf 2 = .ok (.invokevirtual 104, 3) := by decide +kernel
theorem dX8_callersOf_5 : decode cX8_callersOf 5 = .ok (.aload_n 0, 1) := by decide +kernel
theorem dX8_callersOf_6 : decode cX8_callersOf 6 = .ok (.invokevirtual 152, 3) := by decide +kernel
theorem dX8_callersOf_9 : decode cX8_callersOf 9 = .ok (.aload_n 0, 1) := by decide +kernel
theorem dX8_callersOf_10 : decode cX8_callersOf 10 = .ok (.getfield 31, 3) := by decide +kernel
theorem dX8_callersOf_13 : decode cX8_callersOf 13 = .ok (.iload_n 1, 1) := by decide +kernel
theorem dX8_callersOf_14 : decode cX8_callersOf 14 = .ok (.invokevirtual 190, 3) := by decide +kernel
theorem dX8_callersOf_17 : decode cX8_callersOf 17 = .ok (.ireturn, 1) := by decide +kernel
theorem dX8_isRecursive_0 : decode cX8_isRecursive 0 = .ok (.aload_n 0, 1) := by decide +kernel
theorem dX8_isRecursive_1 : decode cX8_isRecursive 1 = .ok (.iload_n 1, 1) := by decide +kernel
theorem dX8_isRecursive_2 : decode cX8_isRecursive 2 = .ok (.invokevirtual 104, 3) := by decide +kernel
theorem dX8_isRecursive_5 : decode cX8_isRecursive 5 = .ok (.aload_n 0, 1) := by decide +kernel
theorem dX8_isRecursive_6 : decode cX8_isRecursive 6 = .ok (.invokevirtual 152, 3) := by decide +kernel
theorem dX8_isRecursive_9 : decode cX8_isRecursive 9 = .ok (.aload_n 0, 1) := by decide +kernel
theorem dX8_isRecursive_10 : decode cX8_isRecursive 10 = .ok (.getfield 31, 3) := by decide +kernel
theorem dX8_isRecursive_13 : decode cX8_isRecursive 13 = .ok (.iload_n 1, 1) := by decide +kernel
theorem dX8_isRecursive_14 : decode cX8_isRecursive 14 = .ok (.invokevirtual 194, 3) := by decide +kernel
theorem dX8_isRecursive_17 : decode cX8_isRecursive 17 = .ok (.iload_n 1, 1) := by decide +kernel
theorem dX8_isRecursive_18 : decode cX8_isRecursive 18 = .ok (.invokestatic 197, 3) := by decide +kernel
theorem dX8_isRecursive_21 : decode cX8_isRecursive 21 = .ok (.ireturn, 1) := by decide +kernel
theorem dX8_siteCount_0 : decode cX8_siteCount 0 = .ok (.aload_n 0, 1) := by decide +kernel
theorem dX8_siteCount_1 : decode cX8_siteCount 1 = .ok (.invokevirtual 152, 3) := by decide +kernel
theorem dX8_siteCount_4 : decode cX8_siteCount 4 = .ok (.aload_n 0, 1) := by decide +kernel
theorem dX8_siteCount_5 : decode cX8_siteCount 5 = .ok (.getfield 63, 3) := by decide +kernel
theorem dX8_siteCount_8 : decode cX8_siteCount 8 = .ok (.getfield 200, 3) := by decide +kernel
theorem dX8_siteCount_11 : decode cX8_siteCount 11 = .ok (.ireturn, 1) := by decide +kernel
theorem dX8_site_0 : decode cX8_site 0 = .ok (.aload_n 0, 1) := by decide +kernel
theorem dX8_site_1 : decode cX8_site 1 = .ok (.invokevirtual 152, 3) := by decide +kernel
theorem dX8_site_4 : decode cX8_site 4 = .ok (.aload_n 0, 1) := by decide +kernel
theorem dX8_site_5 : decode cX8_site 5 = .ok (.iload_n 1, 1) := by decide +kernel
theorem dX8_site_6 : decode cX8_site 6 = .ok (.invokevirtual 201, 3) := by decide +kernel
theorem dX8_site_9 : decode cX8_site 9 = .ok (.iload_n 2, 1) := by decide +kernel
theorem dX8_site_10 : decode cX8_site 10 = .ok (.ifCond .lt 8, 3) := by decide +kernel
theorem dX8_site_13 : decode cX8_site 13 = .ok (.iload_n 2, 1) := by decide +kernel
theorem dX8_site_14 : decode cX8_site 14 = .ok (.iconst 2, 1) := by decide +kernel
theorem dX8_site_15 : decode cX8_site 15 = .ok (.if_icmp .le 13, 3) := by decide +kernel
theorem dX8_site_18 : decode cX8_site 18 = .ok (.new 84, 3) := by decide +kernel
theorem dX8_site_21 : decode cX8_site 21 = .ok (.dup, 1) := by decide +kernel
theorem dX8_site_22 : decode cX8_site 22 = .ok (.ldc 204, 2) := by decide +kernel
theorem dX8_site_24 : decode cX8_site 24 = .ok (.invokespecial 88, 3) := by decide +kernel
theorem dX8_site_27 : decode cX8_site 27 = .ok (.athrow, 1) := by decide +kernel
theorem dX8_site_28 : decode cX8_site 28 = .ok (.iload_n 2, 1) := by decide +kernel
theorem dX8_site_29 : decode cX8_site 29 = .ok (.ifCond .ne 13, 3) := by decide +kernel
theorem dX8_site_32 : decode cX8_site 32 = .ok (.aload_n 0, 1) := by decide +kernel
theorem dX8_site_33 : decode cX8_site 33 = .ok (.getfield 63, 3) := by decide +kernel
theorem dX8_site_36 : decode cX8_site 36 = .ok (.getfield 206, 3) := by decide +kernel
theorem dX8_site_39 : decode cX8_site 39 = .ok (.iload_n 1, 1) := by decide +kernel
theorem dX8_site_40 : decode cX8_site 40 = .ok (.iaload, 1) := by decide +kernel
theorem dX8_site_41 : decode cX8_site 41 = .ok (.ireturn, 1) := by decide +kernel
theorem dX8_site_42 : decode cX8_site 42 = .ok (.iload_n 2, 1) := by decide +kernel
theorem dX8_site_43 : decode cX8_site 43 = .ok (.iconst 1, 1) := by decide +kernel
theorem dX8_site_44 : decode cX8_site 44 = .ok (.if_icmp .ne 15, 3) := by decide +kernel
theorem dX8_site_47 : decode cX8_site 47 = .ok (.aload_n 0, 1) := by decide +kernel
theorem dX8_site_48 : decode cX8_site 48 = .ok (.getfield 63, 3) := by decide +kernel
theorem dX8_site_51 : decode cX8_site 51 = .ok (.getfield 208, 3) := by decide +kernel
theorem dX8_site_54 : decode cX8_site 54 = .ok (.iload_n 1, 1) := by decide +kernel
theorem dX8_site_55 : decode cX8_site 55 = .ok (.iaload, 1) := by decide +kernel
theorem dX8_site_56 : decode cX8_site 56 = .ok (.goto 12, 3) := by decide +kernel
theorem dX8_site_59 : decode cX8_site 59 = .ok (.aload_n 0, 1) := by decide +kernel
theorem dX8_site_60 : decode cX8_site 60 = .ok (.getfield 63, 3) := by decide +kernel
theorem dX8_site_63 : decode cX8_site 63 = .ok (.getfield 211, 3) := by decide +kernel
theorem dX8_site_66 : decode cX8_site 66 = .ok (.iload_n 1, 1) := by decide +kernel
theorem dX8_site_67 : decode cX8_site 67 = .ok (.iaload, 1) := by decide +kernel
theorem dX8_site_68 : decode cX8_site 68 = .ok (.ireturn, 1) := by decide +kernel
theorem dX8_passedSlots_0 : decode cX8_passedSlots 0 = .ok (.aload_n 0, 1) := by decide +kernel
theorem dX8_passedSlots_1 : decode cX8_passedSlots 1 = .ok (.invokevirtual 152, 3) := by decide +kernel
theorem dX8_passedSlots_4 : decode cX8_passedSlots 4 = .ok (.aload_n 0, 1) := by decide +kernel
theorem dX8_passedSlots_5 : decode cX8_passedSlots 5 = .ok (.iload_n 1, 1) := by decide +kernel
theorem dX8_passedSlots_6 : decode cX8_passedSlots 6 = .ok (.invokevirtual 201, 3) := by decide +kernel
theorem dX8_passedSlots_9 : decode cX8_passedSlots 9 = .ok (.aload_n 0, 1) := by decide +kernel
theorem dX8_passedSlots_10 : decode cX8_passedSlots 10 = .ok (.getfield 63, 3) := by decide +kernel
theorem dX8_passedSlots_13 : decode cX8_passedSlots 13 = .ok (.getfield 214, 3) := by decide +kernel
theorem dX8_passedSlots_16 : decode cX8_passedSlots 16 = .ok (.iload_n 1, 1) := by decide +kernel
theorem dX8_passedSlots_17 : decode cX8_passedSlots 17 = .ok (.iaload, 1) := by decide +kernel
theorem dX8_passedSlots_18 : decode cX8_passedSlots 18 = .ok (.ireturn, 1) := by decide +kernel
theorem dX8_missingSlots_0 : decode cX8_missingSlots 0 = .ok (.aload_n 0, 1) := by decide +kernel
theorem dX8_missingSlots_1 : decode cX8_missingSlots 1 = .ok (.invokevirtual 152, 3) := by decide +kernel
theorem dX8_missingSlots_4 : decode cX8_missingSlots 4 = .ok (.aload_n 0, 1) := by decide +kernel
theorem dX8_missingSlots_5 : decode cX8_missingSlots 5 = .ok (.iload_n 1, 1) := by decide +kernel
theorem dX8_missingSlots_6 : decode cX8_missingSlots 6 = .ok (.invokevirtual 201, 3) := by decide +kernel
theorem dX8_missingSlots_9 : decode cX8_missingSlots 9 = .ok (.aload_n 0, 1) := by decide +kernel
theorem dX8_missingSlots_10 : decode cX8_missingSlots 10 = .ok (.getfield 63, 3) := by decide +kernel
theorem dX8_missingSlots_13 : decode cX8_missingSlots 13 = .ok (.iload_n 1, 1) := by decide +kernel
theorem dX8_missingSlots_14 : decode cX8_missingSlots 14 = .ok (.invokevirtual 217, 3) := by decide +kernel
theorem dX8_missingSlots_17 : decode cX8_missingSlots 17 = .ok (.ireturn, 1) := by decide +kernel
theorem dX8_lostRegisters_0 : decode cX8_lostRegisters 0 = .ok (.aload_n 0, 1) := by decide +kernel
theorem dX8_lostRegisters_1 : decode cX8_lostRegisters 1 = .ok (.invokevirtual 152, 3) := by decide +kernel
theorem dX8_lostRegisters_4 : decode cX8_lostRegisters 4 = .ok (.aload_n 0, 1) := by decide +kernel
theorem dX8_lostRegisters_5 : decode cX8_lostRegisters 5 = .ok (.iload_n 1, 1) := by decide +kernel
theorem dX8_lostRegisters_6 : decode cX8_lostRegisters 6 = .ok (.invokevirtual 201, 3) := by decide +kernel
theorem dX8_lostRegisters_9 : decode cX8_lostRegisters 9 = .ok (.aload_n 0, 1) := by decide +kernel
theorem dX8_lostRegisters_10 : decode cX8_lostRegisters 10 = .ok (.iload_n 1, 1) := by decide +kernel
theorem dX8_lostRegisters_11 : decode cX8_lostRegisters 11 = .ok (.invokevirtual 220, 3) := by decide +kernel
theorem dX8_lostRegisters_14 : decode cX8_lostRegisters 14 = .ok (.ireturn, 1) := by decide +kernel
theorem dX8_liveBehind_0 : decode cX8_liveBehind 0 = .ok (.aload_n 0, 1) := by decide +kernel
theorem dX8_liveBehind_1 : decode cX8_liveBehind 1 = .ok (.invokevirtual 152, 3) := by decide +kernel
theorem dX8_liveBehind_4 : decode cX8_liveBehind 4 = .ok (.aload_n 0, 1) := by decide +kernel
theorem dX8_liveBehind_5 : decode cX8_liveBehind 5 = .ok (.iload_n 1, 1) := by decide +kernel
theorem dX8_liveBehind_6 : decode cX8_liveBehind 6 = .ok (.invokevirtual 201, 3) := by decide +kernel
theorem dX8_liveBehind_9 : decode cX8_liveBehind 9 = .ok (.aload_n 0, 1) := by decide +kernel
theorem dX8_liveBehind_10 : decode cX8_liveBehind 10 = .ok (.getfield 56, 3) := by decide +kernel
theorem dX8_liveBehind_13 : decode cX8_liveBehind 13 = .ok (.aload_n 0, 1) := by decide +kernel
theorem dX8_liveBehind_14 : decode cX8_liveBehind 14 = .ok (.getfield 63, 3) := by decide +kernel
theorem dX8_liveBehind_17 : decode cX8_liveBehind 17 = .ok (.getfield 206, 3) := by decide +kernel
theorem dX8_liveBehind_20 : decode cX8_liveBehind 20 = .ok (.iload_n 1, 1) := by decide +kernel
theorem dX8_liveBehind_21 : decode cX8_liveBehind 21 = .ok (.iaload, 1) := by decide +kernel
theorem dX8_liveBehind_22 : decode cX8_liveBehind 22 = .ok (.aload_n 0, 1) := by decide +kernel
theorem dX8_liveBehind_23 : decode cX8_liveBehind 23 = .ok (.getfield 63, 3) := by decide +kernel
theorem dX8_liveBehind_26 : decode cX8_liveBehind 26 = .ok (.getfield 208, 3) := by decide +kernel
theorem dX8_liveBehind_29 : decode cX8_liveBehind 29 = .ok (.iload_n 1, 1) := by decide +kernel
theorem dX8_liveBehind_30 : decode cX8_liveBehind 30 = .ok (.iaload, 1) := by decide +kernel
theorem dX8_liveBehind_31 : decode cX8_liveBehind 31 = .ok (.invokevirtual 223, 3) := by decide +kernel
theorem dX8_liveBehind_34 : decode cX8_liveBehind 34 = .ok (.ireturn, 1) := by decide +kernel
theorem dX8_problems_0 : decode cX8_problems 0 = .ok (.aload_n 0, 1) := by decide +kernel
theorem dX8_problems_1 : decode cX8_problems 1 = .ok (.invokevirtual 152, 3) := by decide +kernel
theorem dX8_problems_4 : decode cX8_problems 4 = .ok (.aload_n 0, 1) := by decide +kernel
theorem dX8_problems_5 : decode cX8_problems 5 = .ok (.invokevirtual 226, 3) := by decide +kernel
theorem dX8_problems_8 : decode cX8_problems 8 = .ok (.ireturn, 1) := by decide +kernel
theorem dX8_firstProblem_0 : decode cX8_firstProblem 0 = .ok (.aload_n 0, 1) := by decide +kernel
theorem dX8_firstProblem_1 : decode cX8_firstProblem 1 = .ok (.invokevirtual 152, 3) := by decide +kernel
theorem dX8_firstProblem_4 : decode cX8_firstProblem 4 = .ok (.iconst 0, 1) := by decide +kernel
theorem dX8_firstProblem_5 : decode cX8_firstProblem 5 = .ok (.istore_n 1, 1) := by decide +kernel
theorem dX8_firstProblem_6 : decode cX8_firstProblem 6 = .ok (.iload_n 1, 1) := by decide +kernel
theorem dX8_firstProblem_7 : decode cX8_firstProblem 7 = .ok (.aload_n 0, 1) := by decide +kernel
theorem dX8_firstProblem_8 : decode cX8_firstProblem 8 = .ok (.getfield 63, 3) := by decide +kernel
theorem dX8_firstProblem_11 : decode cX8_firstProblem 11 = .ok (.getfield 200, 3) := by decide +kernel
theorem dX8_firstProblem_14 : decode cX8_firstProblem 14 = .ok (.if_icmp .ge 19, 3) := by decide +kernel
theorem dX8_firstProblem_17 : decode cX8_firstProblem 17 = .ok (.aload_n 0, 1) := by decide +kernel
theorem dX8_firstProblem_18 : decode cX8_firstProblem 18 = .ok (.iload_n 1, 1) := by decide +kernel
theorem dX8_firstProblem_19 : decode cX8_firstProblem 19 = .ok (.invokevirtual 230, 3) := by decide +kernel
theorem dX8_firstProblem_22 : decode cX8_firstProblem 22 = .ok (.ifCond .eq 5, 3) := by decide +kernel
theorem dX8_firstProblem_25 : decode cX8_firstProblem 25 = .ok (.iload_n 1, 1) := by decide +kernel
theorem dX8_firstProblem_26 : decode cX8_firstProblem 26 = .ok (.ireturn, 1) := by decide +kernel
theorem dX8_firstProblem_27 : decode cX8_firstProblem 27 = .ok (.iinc 1 1, 3) := by decide +kernel
theorem dX8_firstProblem_30 : decode cX8_firstProblem 30 = .ok (.goto (-24), 3) := by decide +kernel
theorem dX8_firstProblem_33 : decode cX8_firstProblem 33 = .ok (.new 233, 3) := by decide +kernel
theorem dX8_firstProblem_36 : decode cX8_firstProblem 36 = .ok (.dup, 1) := by decide +kernel
theorem dX8_firstProblem_37 : decode cX8_firstProblem 37 = .ok (.ldc 235, 2) := by decide +kernel
theorem dX8_firstProblem_39 : decode cX8_firstProblem 39 = .ok (.invokespecial 237, 3) := by decide +kernel
theorem dX8_firstProblem_42 : decode cX8_firstProblem 42 = .ok (.athrow, 1) := by decide +kernel
theorem dX8_votes_0 : decode cX8_votes 0 = .ok (.aload_n 0, 1) := by decide +kernel
theorem dX8_votes_1 : decode cX8_votes 1 = .ok (.iload_n 1, 1) := by decide +kernel
theorem dX8_votes_2 : decode cX8_votes 2 = .ok (.invokevirtual 238, 3) := by decide +kernel
theorem dX8_votes_5 : decode cX8_votes 5 = .ok (.iload_n 2, 1) := by decide +kernel
theorem dX8_votes_6 : decode cX8_votes 6 = .ok (.ifCond .lt 8, 3) := by decide +kernel
theorem dX8_votes_9 : decode cX8_votes 9 = .ok (.iload_n 2, 1) := by decide +kernel
theorem dX8_votes_10 : decode cX8_votes 10 = .ok (.iconst 3, 1) := by decide +kernel
theorem dX8_votes_11 : decode cX8_votes 11 = .ok (.if_icmp .le 13, 3) := by decide +kernel
theorem dX8_votes_14 : decode cX8_votes 14 = .ok (.new 84, 3) := by decide +kernel
theorem dX8_votes_17 : decode cX8_votes 17 = .ok (.dup, 1) := by decide +kernel
theorem dX8_votes_18 : decode cX8_votes 18 = .ok (.ldc 241, 2) := by decide +kernel
theorem dX8_votes_20 : decode cX8_votes 20 = .ok (.invokespecial 88, 3) := by decide +kernel
theorem dX8_votes_23 : decode cX8_votes 23 = .ok (.athrow, 1) := by decide +kernel
theorem dX8_votes_24 : decode cX8_votes 24 = .ok (.aload_n 0, 1) := by decide +kernel
theorem dX8_votes_25 : decode cX8_votes 25 = .ok (.invokevirtual 152, 3) := by decide +kernel
theorem dX8_votes_28 : decode cX8_votes 28 = .ok (.aload_n 0, 1) := by decide +kernel
theorem dX8_votes_29 : decode cX8_votes 29 = .ok (.iload_n 1, 1) := by decide +kernel
theorem dX8_votes_30 : decode cX8_votes 30 = .ok (.iload_n 2, 1) := by decide +kernel
theorem dX8_votes_31 : decode cX8_votes 31 = .ok (.invokevirtual 243, 3) := by decide +kernel
theorem dX8_votes_34 : decode cX8_votes 34 = .ok (.ireturn, 1) := by decide +kernel
theorem dX8_role_0 : decode cX8_role 0 = .ok (.aload_n 0, 1) := by decide +kernel
theorem dX8_role_1 : decode cX8_role 1 = .ok (.iload_n 1, 1) := by decide +kernel
theorem dX8_role_2 : decode cX8_role 2 = .ok (.invokevirtual 238, 3) := by decide +kernel
theorem dX8_role_5 : decode cX8_role 5 = .ok (.aload_n 0, 1) := by decide +kernel
theorem dX8_role_6 : decode cX8_role 6 = .ok (.getfield 19, 3) := by decide +kernel
theorem dX8_role_9 : decode cX8_role 9 = .ok (.invokevirtual 246, 3) := by decide +kernel
theorem dX8_role_12 : decode cX8_role 12 = .ok (.istore_n 2, 1) := by decide +kernel
theorem dX8_role_13 : decode cX8_role 13 = .ok (.iload_n 2, 1) := by decide +kernel
theorem dX8_role_14 : decode cX8_role 14 = .ok (.ifCond .ne 13, 3) := by decide +kernel
theorem dX8_role_17 : decode cX8_role 17 = .ok (.new 233, 3) := by decide +kernel
theorem dX8_role_20 : decode cX8_role 20 = .ok (.dup, 1) := by decide +kernel
theorem dX8_role_21 : decode cX8_role 21 = .ok (.ldc 249, 2) := by decide +kernel
theorem dX8_role_23 : decode cX8_role 23 = .ok (.invokespecial 237, 3) := by decide +kernel
theorem dX8_role_26 : decode cX8_role 26 = .ok (.athrow, 1) := by decide +kernel
theorem dX8_role_27 : decode cX8_role 27 = .ok (.aload_n 0, 1) := by decide +kernel
theorem dX8_role_28 : decode cX8_role 28 = .ok (.invokevirtual 152, 3) := by decide +kernel
theorem dX8_role_31 : decode cX8_role 31 = .ok (.iconst 2, 1) := by decide +kernel
theorem dX8_role_32 : decode cX8_role 32 = .ok (.aload_n 0, 1) := by decide +kernel
theorem dX8_role_33 : decode cX8_role 33 = .ok (.iload_n 1, 1) := by decide +kernel
theorem dX8_role_34 : decode cX8_role 34 = .ok (.iconst 0, 1) := by decide +kernel
theorem dX8_role_35 : decode cX8_role 35 = .ok (.invokevirtual 243, 3) := by decide +kernel
theorem dX8_role_38 : decode cX8_role 38 = .ok (.imul, 1) := by decide +kernel
theorem dX8_role_39 : decode cX8_role 39 = .ok (.iload_n 2, 1) := by decide +kernel
theorem dX8_role_40 : decode cX8_role 40 = .ok (.if_icmp .lt 5, 3) := by decide +kernel
theorem dX8_role_43 : decode cX8_role 43 = .ok (.iconst 1, 1) := by decide +kernel
theorem dX8_role_44 : decode cX8_role 44 = .ok (.ireturn, 1) := by decide +kernel
theorem dX8_role_45 : decode cX8_role 45 = .ok (.aload_n 0, 1) := by decide +kernel
theorem dX8_role_46 : decode cX8_role 46 = .ok (.iload_n 1, 1) := by decide +kernel
theorem dX8_role_47 : decode cX8_role 47 = .ok (.iconst 1, 1) := by decide +kernel
theorem dX8_role_48 : decode cX8_role 48 = .ok (.invokevirtual 243, 3) := by decide +kernel
theorem dX8_role_51 : decode cX8_role 51 = .ok (.iconst 1, 1) := by decide +kernel
theorem dX8_role_52 : decode cX8_role 52 = .ok (.if_icmp .lt 5, 3) := by decide +kernel
theorem dX8_role_55 : decode cX8_role 55 = .ok (.iconst 2, 1) := by decide +kernel
theorem dX8_role_56 : decode cX8_role 56 = .ok (.ireturn, 1) := by decide +kernel
theorem dX8_role_57 : decode cX8_role 57 = .ok (.iconst 2, 1) := by decide +kernel
theorem dX8_role_58 : decode cX8_role 58 = .ok (.aload_n 0, 1) := by decide +kernel
theorem dX8_role_59 : decode cX8_role 59 = .ok (.iload_n 1, 1) := by decide +kernel
theorem dX8_role_60 : decode cX8_role 60 = .ok (.iconst 2, 1) := by decide +kernel
theorem dX8_role_61 : decode cX8_role 61 = .ok (.invokevirtual 243, 3) := by decide +kernel
theorem dX8_role_64 : decode cX8_role 64 = .ok (.imul, 1) := by decide +kernel
theorem dX8_role_65 : decode cX8_role 65 = .ok (.iload_n 2, 1) := by decide +kernel
theorem dX8_role_66 : decode cX8_role 66 = .ok (.if_icmp .lt 7, 3) := by decide +kernel
theorem dX8_role_69 : decode cX8_role 69 = .ok (.iconst 3, 1) := by decide +kernel
theorem dX8_role_70 : decode cX8_role 70 = .ok (.goto 4, 3) := by decide +kernel
theorem dX8_role_73 : decode cX8_role 73 = .ok (.iconst 4, 1) := by decide +kernel
theorem dX8_role_74 : decode cX8_role 74 = .ok (.ireturn, 1) := by decide +kernel
theorem dX8_run_0 : decode cX8_run 0 = .ok (.aload_n 0, 1) := by decide +kernel
theorem dX8_run_1 : decode cX8_run 1 = .ok (.iload_n 1, 1) := by decide +kernel
theorem dX8_run_2 : decode cX8_run 2 = .ok (.invokevirtual 104, 3) := by decide +kernel
theorem dX8_run_5 : decode cX8_run 5 = .ok (.aload_n 0, 1) := by decide +kernel
theorem dX8_run_6 : decode cX8_run 6 = .ok (.getfield 70, 3) := by decide +kernel
theorem dX8_run_9 : decode cX8_run 9 = .ok (.iload_n 1, 1) := by decide +kernel
theorem dX8_run_10 : decode cX8_run 10 = .ok (.iload_n 2, 1) := by decide +kernel
theorem dX8_run_11 : decode cX8_run 11 = .ok (.invokevirtual 251, 3) := by decide +kernel
theorem dX8_run_14 : decode cX8_run 14 = .ok (.aload_n 0, 1) := by decide +kernel
theorem dX8_run_15 : decode cX8_run 15 = .ok (.iconst 1, 1) := by decide +kernel
theorem dX8_run_16 : decode cX8_run 16 = .ok (.putfield 81, 3) := by decide +kernel
theorem dX8_run_19 : decode cX8_run 19 = .ok (.aload_n 0, 1) := by decide +kernel
theorem dX8_run_20 : decode cX8_run 20 = .ok (.getfield 70, 3) := by decide +kernel
theorem dX8_run_23 : decode cX8_run 23 = .ok (.getfield 254, 3) := by decide +kernel
theorem dX8_run_26 : decode cX8_run 26 = .ok (.ireturn, 1) := by decide +kernel
theorem dX8_isCut_0 : decode cX8_isCut 0 = .ok (.aload_n 0, 1) := by decide +kernel
theorem dX8_isCut_1 : decode cX8_isCut 1 = .ok (.invokevirtual 257, 3) := by decide +kernel
theorem dX8_isCut_4 : decode cX8_isCut 4 = .ok (.aload_n 0, 1) := by decide +kernel
theorem dX8_isCut_5 : decode cX8_isCut 5 = .ok (.getfield 70, 3) := by decide +kernel
theorem dX8_isCut_8 : decode cX8_isCut 8 = .ok (.getfield 260, 3) := by decide +kernel
theorem dX8_isCut_11 : decode cX8_isCut 11 = .ok (.ireturn, 1) := by decide +kernel
theorem dX8_observed_0 : decode cX8_observed 0 = .ok (.aload_n 0, 1) := by decide +kernel
theorem dX8_observed_1 : decode cX8_observed 1 = .ok (.invokevirtual 257, 3) := by decide +kernel
theorem dX8_observed_4 : decode cX8_observed 4 = .ok (.aload_n 0, 1) := by decide +kernel
theorem dX8_observed_5 : decode cX8_observed 5 = .ok (.invokevirtual 263, 3) := by decide +kernel
theorem dX8_observed_8 : decode cX8_observed 8 = .ok (.iconst 0, 1) := by decide +kernel
theorem dX8_observed_9 : decode cX8_observed 9 = .ok (.istore_n 1, 1) := by decide +kernel
theorem dX8_observed_10 : decode cX8_observed 10 = .ok (.iconst 0, 1) := by decide +kernel
theorem dX8_observed_11 : decode cX8_observed 11 = .ok (.istore_n 2, 1) := by decide +kernel
theorem dX8_observed_12 : decode cX8_observed 12 = .ok (.iload_n 2, 1) := by decide +kernel
theorem dX8_observed_13 : decode cX8_observed 13 = .ok (.bipush 8, 2) := by decide +kernel
theorem dX8_observed_15 : decode cX8_observed 15 = .ok (.if_icmp .ge 28, 3) := by decide +kernel
theorem dX8_observed_18 : decode cX8_observed 18 = .ok (.aload_n 0, 1) := by decide +kernel
theorem dX8_observed_19 : decode cX8_observed 19 = .ok (.getfield 70, 3) := by decide +kernel
theorem dX8_observed_22 : decode cX8_observed 22 = .ok (.getfield 266, 3) := by decide +kernel
theorem dX8_observed_25 : decode cX8_observed 25 = .ok (.iload_n 2, 1) := by decide +kernel
theorem dX8_observed_26 : decode cX8_observed 26 = .ok (.iaload, 1) := by decide +kernel
theorem dX8_observed_27 : decode cX8_observed 27 = .ok (.iload_n 2, 1) := by decide +kernel
theorem dX8_observed_28 : decode cX8_observed 28 = .ok (.if_icmp .ne 9, 3) := by decide +kernel
theorem dX8_observed_31 : decode cX8_observed 31 = .ok (.iload_n 1, 1) := by decide +kernel
theorem dX8_observed_32 : decode cX8_observed 32 = .ok (.iconst 1, 1) := by decide +kernel
theorem dX8_observed_33 : decode cX8_observed 33 = .ok (.iload_n 2, 1) := by decide +kernel
theorem dX8_observed_34 : decode cX8_observed 34 = .ok (.ishl, 1) := by decide +kernel
theorem dX8_observed_35 : decode cX8_observed 35 = .ok (.ior, 1) := by decide +kernel
theorem dX8_observed_36 : decode cX8_observed 36 = .ok (.istore_n 1, 1) := by decide +kernel
theorem dX8_observed_37 : decode cX8_observed 37 = .ok (.iinc 2 1, 3) := by decide +kernel
theorem dX8_observed_40 : decode cX8_observed 40 = .ok (.goto (-28), 3) := by decide +kernel
theorem dX8_observed_43 : decode cX8_observed 43 = .ok (.iload_n 1, 1) := by decide +kernel
theorem dX8_observed_44 : decode cX8_observed 44 = .ok (.ireturn, 1) := by decide +kernel
theorem dX8_origin_0 : decode cX8_origin 0 = .ok (.aload_n 0, 1) := by decide +kernel
theorem dX8_origin_1 : decode cX8_origin 1 = .ok (.iload_n 1, 1) := by decide +kernel
theorem dX8_origin_2 : decode cX8_origin 2 = .ok (.invokevirtual 238, 3) := by decide +kernel
theorem dX8_origin_5 : decode cX8_origin 5 = .ok (.aload_n 0, 1) := by decide +kernel
theorem dX8_origin_6 : decode cX8_origin 6 = .ok (.invokevirtual 257, 3) := by decide +kernel
theorem dX8_origin_9 : decode cX8_origin 9 = .ok (.aload_n 0, 1) := by decide +kernel
theorem dX8_origin_10 : decode cX8_origin 10 = .ok (.invokevirtual 263, 3) := by decide +kernel
theorem dX8_origin_13 : decode cX8_origin 13 = .ok (.aload_n 0, 1) := by decide +kernel
theorem dX8_origin_14 : decode cX8_origin 14 = .ok (.getfield 70, 3) := by decide +kernel
theorem dX8_origin_17 : decode cX8_origin 17 = .ok (.getfield 266, 3) := by decide +kernel
theorem dX8_origin_20 : decode cX8_origin 20 = .ok (.iload_n 1, 1) := by decide +kernel
theorem dX8_origin_21 : decode cX8_origin 21 = .ok (.iaload, 1) := by decide +kernel
theorem dX8_origin_22 : decode cX8_origin 22 = .ok (.istore_n 2, 1) := by decide +kernel
theorem dX8_origin_23 : decode cX8_origin 23 = .ok (.iload_n 2, 1) := by decide +kernel
theorem dX8_origin_24 : decode cX8_origin 24 = .ok (.bipush 8, 2) := by decide +kernel
theorem dX8_origin_26 : decode cX8_origin 26 = .ok (.if_icmp .lt 14, 3) := by decide +kernel
theorem dX8_origin_29 : decode cX8_origin 29 = .ok (.new 233, 3) := by decide +kernel
theorem dX8_origin_32 : decode cX8_origin 32 = .ok (.dup, 1) := by decide +kernel
theorem dX8_origin_33 : decode cX8_origin 33 = .ok (.ldc_w 269, 3) := by decide +kernel
theorem dX8_origin_36 : decode cX8_origin 36 = .ok (.invokespecial 237, 3) := by decide +kernel
theorem dX8_origin_39 : decode cX8_origin 39 = .ok (.athrow, 1) := by decide +kernel
theorem dX8_origin_40 : decode cX8_origin 40 = .ok (.iload_n 2, 1) := by decide +kernel
theorem dX8_origin_41 : decode cX8_origin 41 = .ok (.ireturn, 1) := by decide +kernel
theorem dX8_preservedShare_0 : decode cX8_preservedShare 0 = .ok (.aload_n 0, 1) := by decide +kernel
theorem dX8_preservedShare_1 : decode cX8_preservedShare 1 = .ok (.getfield 19, 3) := by decide +kernel
theorem dX8_preservedShare_4 : decode cX8_preservedShare 4 = .ok (.invokevirtual 246, 3) := by decide +kernel
theorem dX8_preservedShare_7 : decode cX8_preservedShare 7 = .ok (.istore_n 1, 1) := by decide +kernel
theorem dX8_preservedShare_8 : decode cX8_preservedShare 8 = .ok (.iload_n 1, 1) := by decide +kernel
theorem dX8_preservedShare_9 : decode cX8_preservedShare 9 = .ok (.ifCond .ne 13, 3) := by decide +kernel
theorem dX8_preservedShare_12 : decode cX8_preservedShare 12 = .ok (.new 271, 3) := by decide +kernel
theorem dX8_preservedShare_15 : decode cX8_preservedShare 15 = .ok (.dup, 1) := by decide +kernel
theorem dX8_preservedShare_16 : decode cX8_preservedShare 16 = .ok (.ldc 249, 2) := by decide +kernel
theorem dX8_preservedShare_18 : decode cX8_preservedShare 18 = .ok (.invokespecial 273, 3) := by decide +kernel
theorem dX8_preservedShare_21 : decode cX8_preservedShare 21 = .ok (.athrow, 1) := by decide +kernel
theorem dX8_preservedShare_22 : decode cX8_preservedShare 22 = .ok (.aload_n 0, 1) := by decide +kernel
theorem dX8_preservedShare_23 : decode cX8_preservedShare 23 = .ok (.invokevirtual 152, 3) := by decide +kernel
theorem dX8_preservedShare_26 : decode cX8_preservedShare 26 = .ok (.iconst 0, 1) := by decide +kernel
theorem dX8_preservedShare_27 : decode cX8_preservedShare 27 = .ok (.istore_n 2, 1) := by decide +kernel
theorem dX8_preservedShare_28 : decode cX8_preservedShare 28 = .ok (.iconst 0, 1) := by decide +kernel
theorem dX8_preservedShare_29 : decode cX8_preservedShare 29 = .ok (.istore_n 3, 1) := by decide +kernel
theorem dX8_preservedShare_30 : decode cX8_preservedShare 30 = .ok (.iload_n 3, 1) := by decide +kernel
theorem dX8_preservedShare_31 : decode cX8_preservedShare 31 = .ok (.bipush 8, 2) := by decide +kernel
theorem dX8_preservedShare_33 : decode cX8_preservedShare 33 = .ok (.if_icmp .ge 18, 3) := by decide +kernel
theorem dX8_preservedShare_36 : decode cX8_preservedShare 36 = .ok (.iload_n 2, 1) := by decide +kernel
theorem dX8_preservedShare_37 : decode cX8_preservedShare 37 = .ok (.aload_n 0, 1) := by decide +kernel
theorem dX8_preservedShare_38 : decode cX8_preservedShare 38 = .ok (.iload_n 3, 1) := by decide +kernel
theorem dX8_preservedShare_39 : decode cX8_preservedShare 39 = .ok (.iconst 3, 1) := by decide +kernel
theorem dX8_preservedShare_40 : decode cX8_preservedShare 40 = .ok (.invokevirtual 243, 3) := by decide +kernel
theorem dX8_preservedShare_43 : decode cX8_preservedShare 43 = .ok (.iadd, 1) := by decide +kernel
theorem dX8_preservedShare_44 : decode cX8_preservedShare 44 = .ok (.istore_n 2, 1) := by decide +kernel
theorem dX8_preservedShare_45 : decode cX8_preservedShare 45 = .ok (.iinc 3 1, 3) := by decide +kernel
theorem dX8_preservedShare_48 : decode cX8_preservedShare 48 = .ok (.goto (-18), 3) := by decide +kernel
theorem dX8_preservedShare_51 : decode cX8_preservedShare 51 = .ok (.iload_n 2, 1) := by decide +kernel
theorem dX8_preservedShare_52 : decode cX8_preservedShare 52 = .ok (.i2d, 1) := by decide +kernel
theorem dX8_preservedShare_53 : decode cX8_preservedShare 53 = .ok (.iload_n 1, 1) := by decide +kernel
theorem dX8_preservedShare_54 : decode cX8_preservedShare 54 = .ok (.i2d, 1) := by decide +kernel
theorem dX8_preservedShare_55 : decode cX8_preservedShare 55 = .ok (.ddiv, 1) := by decide +kernel
theorem dX8_preservedShare_56 : decode cX8_preservedShare 56 = .ok (.dreturn, 1) := by decide +kernel
theorem dX8_problemShare_0 : decode cX8_problemShare 0 = .ok (.aload_n 0, 1) := by decide +kernel
theorem dX8_problemShare_1 : decode cX8_problemShare 1 = .ok (.invokevirtual 152, 3) := by decide +kernel
theorem dX8_problemShare_4 : decode cX8_problemShare 4 = .ok (.aload_n 0, 1) := by decide +kernel
theorem dX8_problemShare_5 : decode cX8_problemShare 5 = .ok (.getfield 63, 3) := by decide +kernel
theorem dX8_problemShare_8 : decode cX8_problemShare 8 = .ok (.getfield 200, 3) := by decide +kernel
theorem dX8_problemShare_11 : decode cX8_problemShare 11 = .ok (.ifCond .ne 14, 3) := by decide +kernel
theorem dX8_problemShare_14 : decode cX8_problemShare 14 = .ok (.new 271, 3) := by decide +kernel
theorem dX8_problemShare_17 : decode cX8_problemShare 17 = .ok (.dup, 1) := by decide +kernel
theorem dX8_problemShare_18 : decode cX8_problemShare 18 = .ok (.ldc_w 274, 3) := by decide +kernel
theorem dX8_problemShare_21 : decode cX8_problemShare 21 = .ok (.invokespecial 273, 3) := by decide +kernel
theorem dX8_problemShare_24 : decode cX8_problemShare 24 = .ok (.athrow, 1) := by decide +kernel
theorem dX8_problemShare_25 : decode cX8_problemShare 25 = .ok (.aload_n 0, 1) := by decide +kernel
theorem dX8_problemShare_26 : decode cX8_problemShare 26 = .ok (.invokevirtual 226, 3) := by decide +kernel
theorem dX8_problemShare_29 : decode cX8_problemShare 29 = .ok (.i2f, 1) := by decide +kernel
theorem dX8_problemShare_30 : decode cX8_problemShare 30 = .ok (.aload_n 0, 1) := by decide +kernel
theorem dX8_problemShare_31 : decode cX8_problemShare 31 = .ok (.getfield 63, 3) := by decide +kernel
theorem dX8_problemShare_34 : decode cX8_problemShare 34 = .ok (.getfield 200, 3) := by decide +kernel
theorem dX8_problemShare_37 : decode cX8_problemShare 37 = .ok (.i2f, 1) := by decide +kernel
theorem dX8_problemShare_38 : decode cX8_problemShare 38 = .ok (.fdiv, 1) := by decide +kernel
theorem dX8_problemShare_39 : decode cX8_problemShare 39 = .ok (.freturn, 1) := by decide +kernel
theorem dX8_save_0 : decode cX8_save 0 = .ok (.aload_n 0, 1) := by decide +kernel
theorem dX8_save_1 : decode cX8_save 1 = .ok (.getfield 23, 3) := by decide +kernel
theorem dX8_save_4 : decode cX8_save 4 = .ok (.aload_n 0, 1) := by decide +kernel
theorem dX8_save_5 : decode cX8_save 5 = .ok (.getfield 19, 3) := by decide +kernel
theorem dX8_save_8 : decode cX8_save 8 = .ok (.invokevirtual 276, 3) := by decide +kernel
theorem dX8_save_11 : decode cX8_save 11 = .ok (.aload_n 0, 1) := by decide +kernel
theorem dX8_save_12 : decode cX8_save 12 = .ok (.iconst 1, 1) := by decide +kernel
theorem dX8_save_13 : decode cX8_save 13 = .ok (.putfield 74, 3) := by decide +kernel
theorem dX8_save_16 : decode cX8_save 16 = .ok (.return_, 1) := by decide +kernel
theorem dX8_restore_0 : decode cX8_restore 0 = .ok (.aload_n 0, 1) := by decide +kernel
theorem dX8_restore_1 : decode cX8_restore 1 = .ok (.getfield 74, 3) := by decide +kernel
theorem dX8_restore_4 : decode cX8_restore 4 = .ok (.ifCond .ne 14, 3) := by decide +kernel
theorem dX8_restore_7 : decode cX8_restore 7 = .ok (.new 95, 3) := by decide +kernel
theorem dX8_restore_10 : decode cX8_restore 10 = .ok (.dup, 1) := by decide +kernel
theorem dX8_restore_11 : decode cX8_restore 11 = .ok (.ldc_w 279, 3) := by decide +kernel
theorem dX8_restore_14 : decode cX8_restore 14 = .ok (.invokespecial 99, 3) := by decide +kernel
theorem dX8_restore_17 : decode cX8_restore 17 = .ok (.athrow, 1) := by decide +kernel
theorem dX8_restore_18 : decode cX8_restore 18 = .ok (.aload_n 0, 1) := by decide +kernel
theorem dX8_restore_19 : decode cX8_restore 19 = .ok (.getfield 19, 3) := by decide +kernel
theorem dX8_restore_22 : decode cX8_restore 22 = .ok (.aload_n 0, 1) := by decide +kernel
theorem dX8_restore_23 : decode cX8_restore 23 = .ok (.getfield 23, 3) := by decide +kernel
theorem dX8_restore_26 : decode cX8_restore 26 = .ok (.invokevirtual 276, 3) := by decide +kernel
theorem dX8_restore_29 : decode cX8_restore 29 = .ok (.aload_n 0, 1) := by decide +kernel
theorem dX8_restore_30 : decode cX8_restore 30 = .ok (.invokevirtual 125, 3) := by decide +kernel
theorem dX8_restore_33 : decode cX8_restore 33 = .ok (.return_, 1) := by decide +kernel
theorem dX8_checkFunction_0 : decode cX8_checkFunction 0 = .ok (.iload_n 1, 1) := by decide +kernel
theorem dX8_checkFunction_1 : decode cX8_checkFunction 1 = .ok (.ifCond .lt 9, 3) := by decide +kernel
theorem dX8_checkFunction_4 : decode cX8_checkFunction 4 = .ok (.iload_n 1, 1) := by decide +kernel
theorem dX8_checkFunction_5 : decode cX8_checkFunction 5 = .ok (.bipush 8, 2) := by decide +kernel
theorem dX8_checkFunction_7 : decode cX8_checkFunction 7 = .ok (.if_icmp .lt 14, 3) := by decide +kernel
theorem dX8_checkFunction_10 : decode cX8_checkFunction 10 = .ok (.new 281, 3) := by decide +kernel
theorem dX8_checkFunction_13 : decode cX8_checkFunction 13 = .ok (.dup, 1) := by decide +kernel
theorem dX8_checkFunction_14 : decode cX8_checkFunction 14 = .ok (.ldc_w 283, 3) := by decide +kernel
theorem dX8_checkFunction_17 : decode cX8_checkFunction 17 = .ok (.invokespecial 285, 3) := by decide +kernel
theorem dX8_checkFunction_20 : decode cX8_checkFunction 20 = .ok (.athrow, 1) := by decide +kernel
theorem dX8_checkFunction_21 : decode cX8_checkFunction 21 = .ok (.return_, 1) := by decide +kernel
theorem dX8_checkInstruction_0 : decode cX8_checkInstruction 0 = .ok (.aload_n 0, 1) := by decide +kernel
theorem dX8_checkInstruction_1 : decode cX8_checkInstruction 1 = .ok (.iload_n 1, 1) := by decide +kernel
theorem dX8_checkInstruction_2 : decode cX8_checkInstruction 2 = .ok (.invokevirtual 104, 3) := by decide +kernel
theorem dX8_checkInstruction_5 : decode cX8_checkInstruction 5 = .ok (.iload_n 2, 1) := by decide +kernel
theorem dX8_checkInstruction_6 : decode cX8_checkInstruction 6 = .ok (.ifCond .lt 16, 3) := by decide +kernel
theorem dX8_checkInstruction_9 : decode cX8_checkInstruction 9 = .ok (.iload_n 2, 1) := by decide +kernel
theorem dX8_checkInstruction_10 : decode cX8_checkInstruction 10 = .ok (.aload_n 0, 1) := by decide +kernel
theorem dX8_checkInstruction_11 : decode cX8_checkInstruction 11 = .ok (.getfield 19, 3) := by decide +kernel
theorem dX8_checkInstruction_14 : decode cX8_checkInstruction 14 = .ok (.getfield 128, 3) := by decide +kernel
theorem dX8_checkInstruction_17 : decode cX8_checkInstruction 17 = .ok (.iload_n 1, 1) := by decide +kernel
theorem dX8_checkInstruction_18 : decode cX8_checkInstruction 18 = .ok (.iaload, 1) := by decide +kernel
theorem dX8_checkInstruction_19 : decode cX8_checkInstruction 19 = .ok (.if_icmp .lt 14, 3) := by decide +kernel
theorem dX8_checkInstruction_22 : decode cX8_checkInstruction 22 = .ok (.new 281, 3) := by decide +kernel
theorem dX8_checkInstruction_25 : decode cX8_checkInstruction 25 = .ok (.dup, 1) := by decide +kernel
theorem dX8_checkInstruction_26 : decode cX8_checkInstruction 26 = .ok (.ldc_w 286, 3) := by decide +kernel
theorem dX8_checkInstruction_29 : decode cX8_checkInstruction 29 = .ok (.invokespecial 285, 3) := by decide +kernel
theorem dX8_checkInstruction_32 : decode cX8_checkInstruction 32 = .ok (.athrow, 1) := by decide +kernel
theorem dX8_checkInstruction_33 : decode cX8_checkInstruction 33 = .ok (.return_, 1) := by decide +kernel
theorem dX8_checkRegister_0 : decode cX8_checkRegister 0 = .ok (.iload_n 1, 1) := by decide +kernel
theorem dX8_checkRegister_1 : decode cX8_checkRegister 1 = .ok (.ifCond .lt 9, 3) := by decide +kernel
theorem dX8_checkRegister_4 : decode cX8_checkRegister 4 = .ok (.iload_n 1, 1) := by decide +kernel
theorem dX8_checkRegister_5 : decode cX8_checkRegister 5 = .ok (.bipush 8, 2) := by decide +kernel
theorem dX8_checkRegister_7 : decode cX8_checkRegister 7 = .ok (.if_icmp .lt 14, 3) := by decide +kernel
theorem dX8_checkRegister_10 : decode cX8_checkRegister 10 = .ok (.new 281, 3) := by decide +kernel
theorem dX8_checkRegister_13 : decode cX8_checkRegister 13 = .ok (.dup, 1) := by decide +kernel
theorem dX8_checkRegister_14 : decode cX8_checkRegister 14 = .ok (.ldc_w 288, 3) := by decide +kernel
theorem dX8_checkRegister_17 : decode cX8_checkRegister 17 = .ok (.invokespecial 285, 3) := by decide +kernel
theorem dX8_checkRegister_20 : decode cX8_checkRegister 20 = .ok (.athrow, 1) := by decide +kernel
theorem dX8_checkRegister_21 : decode cX8_checkRegister 21 = .ok (.return_, 1) := by decide +kernel
theorem dX8_checkSite_0 : decode cX8_checkSite 0 = .ok (.iload_n 1, 1) := by decide +kernel
theorem dX8_checkSite_1 : decode cX8_checkSite 1 = .ok (.ifCond .lt 14, 3) := by decide +kernel
theorem dX8_checkSite_4 : decode cX8_checkSite 4 = .ok (.iload_n 1, 1) := by decide +kernel
theorem dX8_checkSite_5 : decode cX8_checkSite 5 = .ok (.aload_n 0, 1) := by decide +kernel
theorem dX8_checkSite_6 : decode cX8_checkSite 6 = .ok (.getfield 63, 3) := by decide +kernel
theorem dX8_checkSite_9 : decode cX8_checkSite 9 = .ok (.getfield 200, 3) := by decide +kernel
theorem dX8_checkSite_12 : decode cX8_checkSite 12 = .ok (.if_icmp .lt 14, 3) := by decide +kernel
theorem dX8_checkSite_15 : decode cX8_checkSite 15 = .ok (.new 281, 3) := by decide +kernel
theorem dX8_checkSite_18 : decode cX8_checkSite 18 = .ok (.dup, 1) := by decide +kernel
theorem dX8_checkSite_19 : decode cX8_checkSite 19 = .ok (.ldc_w 290, 3) := by decide +kernel
theorem dX8_checkSite_22 : decode cX8_checkSite 22 = .ok (.invokespecial 285, 3) := by decide +kernel
theorem dX8_checkSite_25 : decode cX8_checkSite 25 = .ok (.athrow, 1) := by decide +kernel
theorem dX8_checkSite_26 : decode cX8_checkSite 26 = .ok (.return_, 1) := by decide +kernel
theorem dX8_checkRun_0 : decode cX8_checkRun 0 = .ok (.aload_n 0, 1) := by decide +kernel
theorem dX8_checkRun_1 : decode cX8_checkRun 1 = .ok (.getfield 81, 3) := by decide +kernel
theorem dX8_checkRun_4 : decode cX8_checkRun 4 = .ok (.ifCond .ne 14, 3) := by decide +kernel
theorem dX8_checkRun_7 : decode cX8_checkRun 7 = .ok (.new 95, 3) := by decide +kernel
theorem dX8_checkRun_10 : decode cX8_checkRun 10 = .ok (.dup, 1) := by decide +kernel
theorem dX8_checkRun_11 : decode cX8_checkRun 11 = .ok (.ldc_w 292, 3) := by decide +kernel
theorem dX8_checkRun_14 : decode cX8_checkRun 14 = .ok (.invokespecial 99, 3) := by decide +kernel
theorem dX8_checkRun_17 : decode cX8_checkRun 17 = .ok (.athrow, 1) := by decide +kernel
theorem dX8_checkRun_18 : decode cX8_checkRun 18 = .ok (.return_, 1) := by decide +kernel
theorem dX8_checkNotCut_0 : decode cX8_checkNotCut 0 = .ok (.aload_n 0, 1) := by decide +kernel
theorem dX8_checkNotCut_1 : decode cX8_checkNotCut 1 = .ok (.getfield 70, 3) := by decide +kernel
theorem dX8_checkNotCut_4 : decode cX8_checkNotCut 4 = .ok (.getfield 260, 3) := by decide +kernel
theorem dX8_checkNotCut_7 : decode cX8_checkNotCut 7 = .ok (.ifCond .eq 14, 3) := by decide +kernel
theorem dX8_checkNotCut_10 : decode cX8_checkNotCut 10 = .ok (.new 233, 3) := by decide +kernel
theorem dX8_checkNotCut_13 : decode cX8_checkNotCut 13 = .ok (.dup, 1) := by decide +kernel
theorem dX8_checkNotCut_14 : decode cX8_checkNotCut 14 = .ok (.ldc_w 294, 3) := by decide +kernel
theorem dX8_checkNotCut_17 : decode cX8_checkNotCut 17 = .ok (.invokespecial 237, 3) := by decide +kernel
theorem dX8_checkNotCut_20 : decode cX8_checkNotCut 20 = .ok (.athrow, 1) := by decide +kernel
theorem dX8_checkNotCut_21 : decode cX8_checkNotCut 21 = .ok (.return_, 1) := by decide +kernel
theorem dX8_forgetFacts_0 : decode cX8_forgetFacts 0 = .ok (.aload_n 0, 1) := by decide +kernel
theorem dX8_forgetFacts_1 : decode cX8_forgetFacts 1 = .ok (.iconst 1, 1) := by decide +kernel
theorem dX8_forgetFacts_2 : decode cX8_forgetFacts 2 = .ok (.putfield 78, 3) := by decide +kernel
theorem dX8_forgetFacts_5 : decode cX8_forgetFacts 5 = .ok (.aload_n 0, 1) := by decide +kernel
theorem dX8_forgetFacts_6 : decode cX8_forgetFacts 6 = .ok (.iconst 0, 1) := by decide +kernel
theorem dX8_forgetFacts_7 : decode cX8_forgetFacts 7 = .ok (.putfield 81, 3) := by decide +kernel
theorem dX8_forgetFacts_10 : decode cX8_forgetFacts 10 = .ok (.return_, 1) := by decide +kernel
theorem dX8_inferFacts_0 : decode cX8_inferFacts 0 = .ok (.aload_n 0, 1) := by decide +kernel
theorem dX8_inferFacts_1 : decode cX8_inferFacts 1 = .ok (.getfield 78, 3) := by decide +kernel
theorem dX8_inferFacts_4 : decode cX8_inferFacts 4 = .ok (.ifCond .eq 43, 3) := by decide +kernel
theorem dX8_inferFacts_7 : decode cX8_inferFacts 7 = .ok (.aload_n 0, 1) := by decide +kernel
theorem dX8_inferFacts_8 : decode cX8_inferFacts 8 = .ok (.getfield 31, 3) := by decide +kernel
theorem dX8_inferFacts_11 : decode cX8_inferFacts 11 = .ok (.invokevirtual 296, 3) := by decide +kernel
theorem dX8_inferFacts_14 : decode cX8_inferFacts 14 = .ok (.aload_n 0, 1) := by decide +kernel
theorem dX8_inferFacts_15 : decode cX8_inferFacts 15 = .ok (.getfield 40, 3) := by decide +kernel
theorem dX8_inferFacts_18 : decode cX8_inferFacts 18 = .ok (.invokevirtual 299, 3) := by decide +kernel
theorem dX8_inferFacts_21 : decode cX8_inferFacts 21 = .ok (.aload_n 0, 1) := by decide +kernel
theorem dX8_inferFacts_22 : decode cX8_inferFacts 22 = .ok (.getfield 47, 3) := by decide +kernel
theorem dX8_inferFacts_25 : decode cX8_inferFacts 25 = .ok (.invokevirtual 300, 3) := by decide +kernel
theorem dX8_inferFacts_28 : decode cX8_inferFacts 28 = .ok (.aload_n 0, 1) := by decide +kernel
theorem dX8_inferFacts_29 : decode cX8_inferFacts 29 = .ok (.getfield 56, 3) := by decide +kernel
theorem dX8_inferFacts_32 : decode cX8_inferFacts 32 = .ok (.invokevirtual 301, 3) := by decide +kernel
theorem dX8_inferFacts_35 : decode cX8_inferFacts 35 = .ok (.aload_n 0, 1) := by decide +kernel
theorem dX8_inferFacts_36 : decode cX8_inferFacts 36 = .ok (.getfield 63, 3) := by decide +kernel
theorem dX8_inferFacts_39 : decode cX8_inferFacts 39 = .ok (.invokevirtual 302, 3) := by decide +kernel
theorem dX8_inferFacts_42 : decode cX8_inferFacts 42 = .ok (.aload_n 0, 1) := by decide +kernel
theorem dX8_inferFacts_43 : decode cX8_inferFacts 43 = .ok (.iconst 0, 1) := by decide +kernel
theorem dX8_inferFacts_44 : decode cX8_inferFacts 44 = .ok (.putfield 78, 3) := by decide +kernel
theorem dX8_inferFacts_47 : decode cX8_inferFacts 47 = .ok (.return_, 1) := by decide +kernel
theorem dX8_lostAt_0 : decode cX8_lostAt 0 = .ok (.aload_n 0, 1) := by decide +kernel
theorem dX8_lostAt_1 : decode cX8_lostAt 1 = .ok (.getfield 63, 3) := by decide +kernel
theorem dX8_lostAt_4 : decode cX8_lostAt 4 = .ok (.getfield 211, 3) := by decide +kernel
theorem dX8_lostAt_7 : decode cX8_lostAt 7 = .ok (.iload_n 1, 1) := by decide +kernel
theorem dX8_lostAt_8 : decode cX8_lostAt 8 = .ok (.iaload, 1) := by decide +kernel
theorem dX8_lostAt_9 : decode cX8_lostAt 9 = .ok (.istore_n 2, 1) := by decide +kernel
theorem dX8_lostAt_10 : decode cX8_lostAt 10 = .ok (.aload_n 0, 1) := by decide +kernel
theorem dX8_lostAt_11 : decode cX8_lostAt 11 = .ok (.getfield 56, 3) := by decide +kernel
theorem dX8_lostAt_14 : decode cX8_lostAt 14 = .ok (.aload_n 0, 1) := by decide +kernel
theorem dX8_lostAt_15 : decode cX8_lostAt 15 = .ok (.getfield 63, 3) := by decide +kernel
theorem dX8_lostAt_18 : decode cX8_lostAt 18 = .ok (.getfield 206, 3) := by decide +kernel
theorem dX8_lostAt_21 : decode cX8_lostAt 21 = .ok (.iload_n 1, 1) := by decide +kernel
theorem dX8_lostAt_22 : decode cX8_lostAt 22 = .ok (.iaload, 1) := by decide +kernel
theorem dX8_lostAt_23 : decode cX8_lostAt 23 = .ok (.aload_n 0, 1) := by decide +kernel
theorem dX8_lostAt_24 : decode cX8_lostAt 24 = .ok (.getfield 63, 3) := by decide +kernel
theorem dX8_lostAt_27 : decode cX8_lostAt 27 = .ok (.getfield 208, 3) := by decide +kernel
theorem dX8_lostAt_30 : decode cX8_lostAt 30 = .ok (.iload_n 1, 1) := by decide +kernel
theorem dX8_lostAt_31 : decode cX8_lostAt 31 = .ok (.iaload, 1) := by decide +kernel
theorem dX8_lostAt_32 : decode cX8_lostAt 32 = .ok (.invokevirtual 223, 3) := by decide +kernel
theorem dX8_lostAt_35 : decode cX8_lostAt 35 = .ok (.istore_n 3, 1) := by decide +kernel
theorem dX8_lostAt_36 : decode cX8_lostAt 36 = .ok (.iload_n 3, 1) := by decide +kernel
theorem dX8_lostAt_37 : decode cX8_lostAt 37 = .ok (.aload_n 0, 1) := by decide +kernel
theorem dX8_lostAt_38 : decode cX8_lostAt 38 = .ok (.getfield 40, 3) := by decide +kernel
theorem dX8_lostAt_41 : decode cX8_lostAt 41 = .ok (.iload_n 2, 1) := by decide +kernel
theorem dX8_lostAt_42 : decode cX8_lostAt 42 = .ok (.invokevirtual 303, 3) := by decide +kernel
theorem dX8_lostAt_45 : decode cX8_lostAt 45 = .ok (.iand, 1) := by decide +kernel
theorem dX8_lostAt_46 : decode cX8_lostAt 46 = .ok (.aload_n 0, 1) := by decide +kernel
theorem dX8_lostAt_47 : decode cX8_lostAt 47 = .ok (.getfield 47, 3) := by decide +kernel
theorem dX8_lostAt_50 : decode cX8_lostAt 50 = .ok (.getfield 166, 3) := by decide +kernel
theorem dX8_lostAt_53 : decode cX8_lostAt 53 = .ok (.iload_n 2, 1) := by decide +kernel
theorem dX8_lostAt_54 : decode cX8_lostAt 54 = .ok (.iaload, 1) := by decide +kernel
theorem dX8_lostAt_55 : decode cX8_lostAt 55 = .ok (.iconst (-1), 1) := by decide +kernel
theorem dX8_lostAt_56 : decode cX8_lostAt 56 = .ok (.ixor, 1) := by decide +kernel
theorem dX8_lostAt_57 : decode cX8_lostAt 57 = .ok (.iand, 1) := by decide +kernel
theorem dX8_lostAt_58 : decode cX8_lostAt 58 = .ok (.ireturn, 1) := by decide +kernel
theorem dX8_hasProblem_0 : decode cX8_hasProblem 0 = .ok (.aload_n 0, 1) := by decide +kernel
theorem dX8_hasProblem_1 : decode cX8_hasProblem 1 = .ok (.getfield 63, 3) := by decide +kernel
theorem dX8_hasProblem_4 : decode cX8_hasProblem 4 = .ok (.iload_n 1, 1) := by decide +kernel
theorem dX8_hasProblem_5 : decode cX8_hasProblem 5 = .ok (.invokevirtual 217, 3) := by decide +kernel
theorem dX8_hasProblem_8 : decode cX8_hasProblem 8 = .ok (.ifCond .ne 11, 3) := by decide +kernel
theorem dX8_hasProblem_11 : decode cX8_hasProblem 11 = .ok (.aload_n 0, 1) := by decide +kernel
theorem dX8_hasProblem_12 : decode cX8_hasProblem 12 = .ok (.iload_n 1, 1) := by decide +kernel
theorem dX8_hasProblem_13 : decode cX8_hasProblem 13 = .ok (.invokevirtual 220, 3) := by decide +kernel
theorem dX8_hasProblem_16 : decode cX8_hasProblem 16 = .ok (.ifCond .eq 7, 3) := by decide +kernel
theorem dX8_hasProblem_19 : decode cX8_hasProblem 19 = .ok (.iconst 1, 1) := by decide +kernel
theorem dX8_hasProblem_20 : decode cX8_hasProblem 20 = .ok (.goto 4, 3) := by decide +kernel
theorem dX8_hasProblem_23 : decode cX8_hasProblem 23 = .ok (.iconst 0, 1) := by decide +kernel
theorem dX8_hasProblem_24 : decode cX8_hasProblem 24 = .ok (.ireturn, 1) := by decide +kernel
theorem dX8_countProblems_0 : decode cX8_countProblems 0 = .ok (.iconst 0, 1) := by decide +kernel
theorem dX8_countProblems_1 : decode cX8_countProblems 1 = .ok (.istore_n 1, 1) := by decide +kernel
theorem dX8_countProblems_2 : decode cX8_countProblems 2 = .ok (.iconst 0, 1) := by decide +kernel
theorem dX8_countProblems_3 : decode cX8_countProblems 3 = .ok (.istore_n 2, 1) := by decide +kernel
theorem dX8_countProblems_4 : decode cX8_countProblems 4 = .ok (.iload_n 2, 1) := by decide +kernel
theorem dX8_countProblems_5 : decode cX8_countProblems 5 = .ok (.aload_n 0, 1) := by decide +kernel
theorem dX8_countProblems_6 : decode cX8_countProblems 6 = .ok (.getfield 63, 3) := by decide +kernel
theorem dX8_countProblems_9 : decode cX8_countProblems 9 = .ok (.getfield 200, 3) := by decide +kernel
theorem dX8_countProblems_12 : decode cX8_countProblems 12 = .ok (.if_icmp .ge 20, 3) := by decide +kernel
theorem dX8_countProblems_15 : decode cX8_countProblems 15 = .ok (.aload_n 0, 1) := by decide +kernel
theorem dX8_countProblems_16 : decode cX8_countProblems 16 = .ok (.iload_n 2, 1) := by decide +kernel
theorem dX8_countProblems_17 : decode cX8_countProblems 17 = .ok (.invokevirtual 230, 3) := by decide +kernel
theorem dX8_countProblems_20 : decode cX8_countProblems 20 = .ok (.ifCond .eq 6, 3) := by decide +kernel
theorem dX8_countProblems_23 : decode cX8_countProblems 23 = .ok (.iinc 1 1, 3) := by decide +kernel
theorem dX8_countProblems_26 : decode cX8_countProblems 26 = .ok (.iinc 2 1, 3) := by decide +kernel
theorem dX8_countProblems_29 : decode cX8_countProblems 29 = .ok (.goto (-25), 3) := by decide +kernel
theorem dX8_countProblems_32 : decode cX8_countProblems 32 = .ok (.iload_n 1, 1) := by decide +kernel
theorem dX8_countProblems_33 : decode cX8_countProblems 33 = .ok (.ireturn, 1) := by decide +kernel
theorem dX8_countVotes_0 : decode cX8_countVotes 0 = .ok (.iconst 0, 1) := by decide +kernel
theorem dX8_countVotes_1 : decode cX8_countVotes 1 = .ok (.istore_n 3, 1) := by decide +kernel
theorem dX8_countVotes_2 : decode cX8_countVotes 2 = .ok (.iconst 0, 1) := by decide +kernel
theorem dX8_countVotes_3 : decode cX8_countVotes 3 = .ok (.istore 4, 2) := by decide +kernel
theorem dX8_countVotes_5 : decode cX8_countVotes 5 = .ok (.iload 4, 2) := by decide +kernel
theorem dX8_countVotes_7 : decode cX8_countVotes 7 = .ok (.bipush 8, 2) := by decide +kernel
theorem dX8_countVotes_9 : decode cX8_countVotes 9 = .ok (.if_icmp .ge 39, 3) := by decide +kernel
theorem dX8_countVotes_12 : decode cX8_countVotes 12 = .ok (.aload_n 0, 1) := by decide +kernel
theorem dX8_countVotes_13 : decode cX8_countVotes 13 = .ok (.getfield 19, 3) := by decide +kernel
theorem dX8_countVotes_16 : decode cX8_countVotes 16 = .ok (.getfield 128, 3) := by decide +kernel
theorem dX8_countVotes_19 : decode cX8_countVotes 19 = .ok (.iload 4, 2) := by decide +kernel
theorem dX8_countVotes_21 : decode cX8_countVotes 21 = .ok (.iaload, 1) := by decide +kernel
theorem dX8_countVotes_22 : decode cX8_countVotes 22 = .ok (.ifCond .le 20, 3) := by decide +kernel
theorem dX8_countVotes_25 : decode cX8_countVotes 25 = .ok (.aload_n 0, 1) := by decide +kernel
theorem dX8_countVotes_26 : decode cX8_countVotes 26 = .ok (.iload 4, 2) := by decide +kernel
theorem dX8_countVotes_28 : decode cX8_countVotes 28 = .ok (.iload_n 2, 1) := by decide +kernel
theorem dX8_countVotes_29 : decode cX8_countVotes 29 = .ok (.invokevirtual 306, 3) := by decide +kernel
theorem dX8_countVotes_32 : decode cX8_countVotes 32 = .ok (.iload_n 1, 1) := by decide +kernel
theorem dX8_countVotes_33 : decode cX8_countVotes 33 = .ok (.invokestatic 197, 3) := by decide +kernel
theorem dX8_countVotes_36 : decode cX8_countVotes 36 = .ok (.ifCond .eq 6, 3) := by decide +kernel
theorem dX8_countVotes_39 : decode cX8_countVotes 39 = .ok (.iinc 3 1, 3) := by decide +kernel
theorem dX8_countVotes_42 : decode cX8_countVotes 42 = .ok (.iinc 4 1, 3) := by decide +kernel
theorem dX8_countVotes_45 : decode cX8_countVotes 45 = .ok (.goto (-40), 3) := by decide +kernel
theorem dX8_countVotes_48 : decode cX8_countVotes 48 = .ok (.iload_n 3, 1) := by decide +kernel
theorem dX8_countVotes_49 : decode cX8_countVotes 49 = .ok (.ireturn, 1) := by decide +kernel
theorem dX8_votedFor_0 : decode cX8_votedFor 0 = .ok (.iload_n 2, 1) := by decide +kernel
theorem dX8_votedFor_1 : decode cX8_votedFor 1 = .ok (.ifCond .ne 13, 3) := by decide +kernel
theorem dX8_votedFor_4 : decode cX8_votedFor 4 = .ok (.aload_n 0, 1) := by decide +kernel
theorem dX8_votedFor_5 : decode cX8_votedFor 5 = .ok (.getfield 56, 3) := by decide +kernel
theorem dX8_votedFor_8 : decode cX8_votedFor 8 = .ok (.getfield 169, 3) := by decide +kernel
theorem dX8_votedFor_11 : decode cX8_votedFor 11 = .ok (.iload_n 1, 1) := by decide +kernel
theorem dX8_votedFor_12 : decode cX8_votedFor 12 = .ok (.iaload, 1) := by decide +kernel
theorem dX8_votedFor_13 : decode cX8_votedFor 13 = .ok (.ireturn, 1) := by decide +kernel
theorem dX8_votedFor_14 : decode cX8_votedFor 14 = .ok (.iload_n 2, 1) := by decide +kernel
theorem dX8_votedFor_15 : decode cX8_votedFor 15 = .ok (.iconst 1, 1) := by decide +kernel
theorem dX8_votedFor_16 : decode cX8_votedFor 16 = .ok (.if_icmp .ne 13, 3) := by decide +kernel
theorem dX8_votedFor_19 : decode cX8_votedFor 19 = .ok (.aload_n 0, 1) := by decide +kernel
theorem dX8_votedFor_20 : decode cX8_votedFor 20 = .ok (.getfield 56, 3) := by decide +kernel
theorem dX8_votedFor_23 : decode cX8_votedFor 23 = .ok (.getfield 172, 3) := by decide +kernel
theorem dX8_votedFor_26 : decode cX8_votedFor 26 = .ok (.iload_n 1, 1) := by decide +kernel
theorem dX8_votedFor_27 : decode cX8_votedFor 27 = .ok (.iaload, 1) := by decide +kernel
theorem dX8_votedFor_28 : decode cX8_votedFor 28 = .ok (.ireturn, 1) := by decide +kernel
theorem dX8_votedFor_29 : decode cX8_votedFor 29 = .ok (.iload_n 2, 1) := by decide +kernel
theorem dX8_votedFor_30 : decode cX8_votedFor 30 = .ok (.iconst 2, 1) := by decide +kernel
theorem dX8_votedFor_31 : decode cX8_votedFor 31 = .ok (.if_icmp .ne 14, 3) := by decide +kernel
theorem dX8_votedFor_34 : decode cX8_votedFor 34 = .ok (.aload_n 0, 1) := by decide +kernel
theorem dX8_votedFor_35 : decode cX8_votedFor 35 = .ok (.getfield 40, 3) := by decide +kernel
theorem dX8_votedFor_38 : decode cX8_votedFor 38 = .ok (.iload_n 1, 1) := by decide +kernel
theorem dX8_votedFor_39 : decode cX8_votedFor 39 = .ok (.invokevirtual 303, 3) := by decide +kernel
theorem dX8_votedFor_42 : decode cX8_votedFor 42 = .ok (.goto 12, 3) := by decide +kernel
theorem dX8_votedFor_45 : decode cX8_votedFor 45 = .ok (.aload_n 0, 1) := by decide +kernel
theorem dX8_votedFor_46 : decode cX8_votedFor 46 = .ok (.getfield 40, 3) := by decide +kernel
theorem dX8_votedFor_49 : decode cX8_votedFor 49 = .ok (.getfield 163, 3) := by decide +kernel
theorem dX8_votedFor_52 : decode cX8_votedFor 52 = .ok (.iload_n 1, 1) := by decide +kernel
theorem dX8_votedFor_53 : decode cX8_votedFor 53 = .ok (.iaload, 1) := by decide +kernel
theorem dX8_votedFor_54 : decode cX8_votedFor 54 = .ok (.ireturn, 1) := by decide +kernel
theorem dX8_contains_0 : decode cX8_contains 0 = .ok (.iload_n 0, 1) := by decide +kernel
theorem dX8_contains_1 : decode cX8_contains 1 = .ok (.iload_n 1, 1) := by decide +kernel
theorem dX8_contains_2 : decode cX8_contains 2 = .ok (.ishr, 1) := by decide +kernel
theorem dX8_contains_3 : decode cX8_contains 3 = .ok (.iconst 1, 1) := by decide +kernel
theorem dX8_contains_4 : decode cX8_contains 4 = .ok (.iand, 1) := by decide +kernel
theorem dX8_contains_5 : decode cX8_contains 5 = .ok (.ifCond .eq 7, 3) := by decide +kernel
theorem dX8_contains_8 : decode cX8_contains 8 = .ok (.iconst 1, 1) := by decide +kernel
theorem dX8_contains_9 : decode cX8_contains 9 = .ok (.goto 4, 3) := by decide +kernel
theorem dX8_contains_12 : decode cX8_contains 12 = .ok (.iconst 0, 1) := by decide +kernel
theorem dX8_contains_13 : decode cX8_contains 13 = .ok (.ireturn, 1) := by decide +kernel
theorem dX9_init_0 : decode cX9_init 0 = .ok (.aload_n 0, 1) := by decide +kernel
theorem dX9_init_1 : decode cX9_init 1 = .ok (.invokespecial 3, 3) := by decide +kernel
theorem dX9_init_4 : decode cX9_init 4 = .ok (.aload_n 0, 1) := by decide +kernel
theorem dX9_init_5 : decode cX9_init 5 = .ok (.sipush 344, 3) := by decide +kernel
theorem dX9_init_8 : decode cX9_init 8 = .ok (.newarray .int, 2) := by decide +kernel
theorem dX9_init_10 : decode cX9_init 10 = .ok (.putfield 9, 3) := by decide +kernel
theorem dX9_init_13 : decode cX9_init 13 = .ok (.aload_n 0, 1) := by decide +kernel
theorem dX9_init_14 : decode cX9_init 14 = .ok (.sipush 344, 3) := by decide +kernel
theorem dX9_init_17 : decode cX9_init 17 = .ok (.newarray .int, 2) := by decide +kernel
theorem dX9_init_19 : decode cX9_init 19 = .ok (.putfield 13, 3) := by decide +kernel
theorem dX9_init_22 : decode cX9_init 22 = .ok (.aload_n 0, 1) := by decide +kernel
theorem dX9_init_23 : decode cX9_init 23 = .ok (.bipush 60, 2) := by decide +kernel
theorem dX9_init_25 : decode cX9_init 25 = .ok (.newarray .int, 2) := by decide +kernel
theorem dX9_init_27 : decode cX9_init 27 = .ok (.putfield 16, 3) := by decide +kernel
theorem dX9_init_30 : decode cX9_init 30 = .ok (.aload_n 0, 1) := by decide +kernel
theorem dX9_init_31 : decode cX9_init 31 = .ok (.iconst (-1), 1) := by decide +kernel
theorem dX9_init_32 : decode cX9_init 32 = .ok (.putfield 19, 3) := by decide +kernel
theorem dX9_init_35 : decode cX9_init 35 = .ok (.aload_n 0, 1) := by decide +kernel
theorem dX9_init_36 : decode cX9_init 36 = .ok (.bipush 60, 2) := by decide +kernel
theorem dX9_init_38 : decode cX9_init 38 = .ok (.newarray .int, 2) := by decide +kernel
theorem dX9_init_40 : decode cX9_init 40 = .ok (.putfield 23, 3) := by decide +kernel
theorem dX9_init_43 : decode cX9_init 43 = .ok (.aload_n 0, 1) := by decide +kernel
theorem dX9_init_44 : decode cX9_init 44 = .ok (.bipush 60, 2) := by decide +kernel
theorem dX9_init_46 : decode cX9_init 46 = .ok (.newarray .int, 2) := by decide +kernel
theorem dX9_init_48 : decode cX9_init 48 = .ok (.putfield 26, 3) := by decide +kernel
theorem dX9_init_51 : decode cX9_init 51 = .ok (.aload_n 0, 1) := by decide +kernel
theorem dX9_init_52 : decode cX9_init 52 = .ok (.bipush 60, 2) := by decide +kernel
theorem dX9_init_54 : decode cX9_init 54 = .ok (.newarray .int, 2) := by decide +kernel
theorem dX9_init_56 : decode cX9_init 56 = .ok (.putfield 29, 3) := by decide +kernel
theorem dX9_init_59 : decode cX9_init 59 = .ok (.aload_n 0, 1) := by decide +kernel
theorem dX9_init_60 : decode cX9_init 60 = .ok (.bipush 120, 2) := by decide +kernel
theorem dX9_init_62 : decode cX9_init 62 = .ok (.newarray .boolean, 2) := by decide +kernel
theorem dX9_init_64 : decode cX9_init 64 = .ok (.putfield 32, 3) := by decide +kernel
theorem dX9_init_67 : decode cX9_init 67 = .ok (.aload_n 0, 1) := by decide +kernel
theorem dX9_init_68 : decode cX9_init 68 = .ok (.bipush 8, 2) := by decide +kernel
theorem dX9_init_70 : decode cX9_init 70 = .ok (.newarray .boolean, 2) := by decide +kernel
theorem dX9_init_72 : decode cX9_init 72 = .ok (.putfield 36, 3) := by decide +kernel
theorem dX9_init_75 : decode cX9_init 75 = .ok (.aload_n 0, 1) := by decide +kernel
theorem dX9_init_76 : decode cX9_init 76 = .ok (.bipush 8, 2) := by decide +kernel
theorem dX9_init_78 : decode cX9_init 78 = .ok (.newarray .int, 2) := by decide +kernel
theorem dX9_init_80 : decode cX9_init 80 = .ok (.putfield 39, 3) := by decide +kernel
theorem dX9_init_83 : decode cX9_init 83 = .ok (.aload_n 0, 1) := by decide +kernel
theorem dX9_init_84 : decode cX9_init 84 = .ok (.bipush 15, 2) := by decide +kernel
theorem dX9_init_86 : decode cX9_init 86 = .ok (.newarray .int, 2) := by decide +kernel
theorem dX9_init_88 : decode cX9_init 88 = .ok (.putfield 42, 3) := by decide +kernel
theorem dX9_init_91 : decode cX9_init 91 = .ok (.aload_n 0, 1) := by decide +kernel
theorem dX9_init_92 : decode cX9_init 92 = .ok (.sipush 210, 3) := by decide +kernel
theorem dX9_init_95 : decode cX9_init 95 = .ok (.newarray .int, 2) := by decide +kernel
theorem dX9_init_97 : decode cX9_init 97 = .ok (.putfield 45, 3) := by decide +kernel
theorem dX9_init_100 : decode cX9_init 100 = .ok (.aload_n 0, 1) := by decide +kernel
theorem dX9_init_101 : decode cX9_init 101 = .ok (.bipush 14, 2) := by decide +kernel
theorem dX9_init_103 : decode cX9_init 103 = .ok (.newarray .int, 2) := by decide +kernel
theorem dX9_init_105 : decode cX9_init 105 = .ok (.putfield 48, 3) := by decide +kernel
theorem dX9_init_108 : decode cX9_init 108 = .ok (.aload_n 0, 1) := by decide +kernel
theorem dX9_init_109 : decode cX9_init 109 = .ok (.bipush 8, 2) := by decide +kernel
theorem dX9_init_111 : decode cX9_init 111 = .ok (.newarray .int, 2) := by decide +kernel
theorem dX9_init_113 : decode cX9_init 113 = .ok (.putfield 51, 3) := by decide +kernel
theorem dX9_init_116 : decode cX9_init 116 = .ok (.aload_n 0, 1) := by decide +kernel
theorem dX9_init_117 : decode cX9_init 117 = .ok (.bipush 15, 2) := by decide +kernel
theorem dX9_init_119 : decode cX9_init 119 = .ok (.newarray .int, 2) := by decide +kernel
theorem dX9_init_121 : decode cX9_init 121 = .ok (.putfield 54, 3) := by decide +kernel
theorem dX9_init_124 : decode cX9_init 124 = .ok (.aload_n 0, 1) := by decide +kernel
theorem dX9_init_125 : decode cX9_init 125 = .ok (.bipush 112, 2) := by decide +kernel
theorem dX9_init_127 : decode cX9_init 127 = .ok (.newarray .int, 2) := by decide +kernel
theorem dX9_init_129 : decode cX9_init 129 = .ok (.putfield 57, 3) := by decide +kernel
theorem dX9_init_132 : decode cX9_init 132 = .ok (.aload_n 0, 1) := by decide +kernel
theorem dX9_init_133 : decode cX9_init 133 = .ok (.bipush 8, 2) := by decide +kernel
theorem dX9_init_135 : decode cX9_init 135 = .ok (.newarray .int, 2) := by decide +kernel
theorem dX9_init_137 : decode cX9_init 137 = .ok (.putfield 60, 3) := by decide +kernel
theorem dX9_init_140 : decode cX9_init 140 = .ok (.aload_n 0, 1) := by decide +kernel
theorem dX9_init_141 : decode cX9_init 141 = .ok (.bipush 8, 2) := by decide +kernel
theorem dX9_init_143 : decode cX9_init 143 = .ok (.newarray .int, 2) := by decide +kernel
theorem dX9_init_145 : decode cX9_init 145 = .ok (.putfield 63, 3) := by decide +kernel
theorem dX9_init_148 : decode cX9_init 148 = .ok (.aload_n 0, 1) := by decide +kernel
theorem dX9_init_149 : decode cX9_init 149 = .ok (.bipush 120, 2) := by decide +kernel
theorem dX9_init_151 : decode cX9_init 151 = .ok (.newarray .int, 2) := by decide +kernel
theorem dX9_init_153 : decode cX9_init 153 = .ok (.putfield 66, 3) := by decide +kernel
theorem dX9_init_156 : decode cX9_init 156 = .ok (.aload_n 0, 1) := by decide +kernel
theorem dX9_init_157 : decode cX9_init 157 = .ok (.bipush 112, 2) := by decide +kernel
theorem dX9_init_159 : decode cX9_init 159 = .ok (.newarray .int, 2) := by decide +kernel
theorem dX9_init_161 : decode cX9_init 161 = .ok (.putfield 69, 3) := by decide +kernel
theorem dX9_init_164 : decode cX9_init 164 = .ok (.aload_n 0, 1) := by decide +kernel
theorem dX9_init_165 : decode cX9_init 165 = .ok (.bipush 112, 2) := by decide +kernel
theorem dX9_init_167 : decode cX9_init 167 = .ok (.newarray .int, 2) := by decide +kernel
theorem dX9_init_169 : decode cX9_init 169 = .ok (.putfield 72, 3) := by decide +kernel
theorem dX9_init_172 : decode cX9_init 172 = .ok (.aload_n 0, 1) := by decide +kernel
theorem dX9_init_173 : decode cX9_init 173 = .ok (.bipush 8, 2) := by decide +kernel
theorem dX9_init_175 : decode cX9_init 175 = .ok (.newarray .int, 2) := by decide +kernel
theorem dX9_init_177 : decode cX9_init 177 = .ok (.putfield 75, 3) := by decide +kernel
theorem dX9_init_180 : decode cX9_init 180 = .ok (.aload_n 0, 1) := by decide +kernel
theorem dX9_init_181 : decode cX9_init 181 = .ok (.bipush 48, 2) := by decide +kernel
theorem dX9_init_183 : decode cX9_init 183 = .ok (.newarray .int, 2) := by decide +kernel
theorem dX9_init_185 : decode cX9_init 185 = .ok (.putfield 78, 3) := by decide +kernel
theorem dX9_init_188 : decode cX9_init 188 = .ok (.aload_n 0, 1) := by decide +kernel
theorem dX9_init_189 : decode cX9_init 189 = .ok (.bipush 8, 2) := by decide +kernel
theorem dX9_init_191 : decode cX9_init 191 = .ok (.newarray .int, 2) := by decide +kernel
theorem dX9_init_193 : decode cX9_init 193 = .ok (.putfield 81, 3) := by decide +kernel
theorem dX9_init_196 : decode cX9_init 196 = .ok (.return_, 1) := by decide +kernel
theorem dX9_thrown_0 : decode cX9_thrown 0 = .ok (.aload_n 0, 1) := by decide +kernel
theorem dX9_thrown_1 : decode cX9_thrown 1 = .ok (.getfield 84, 3) := by decide +kernel
theorem dX9_thrown_4 : decode cX9_thrown 4 = .ok (.ireturn, 1) := by decide +kernel
theorem dX9_in_0 : decode cX9_in 0 = .ok (.lload_n 0, 1) := by decide +kernel
theorem dX9_in_1 : decode cX9_in 1 = .ok (.lload_n 2, 1) := by decide +kernel
theorem dX9_in_2 : decode cX9_in 2 = .ok (.lcmp, 1) := by decide +kernel
theorem dX9_in_3 : decode cX9_in 3 = .ok (.ifCond .lt 14, 3) := by decide +kernel
theorem dX9_in_6 : decode cX9_in 6 = .ok (.lload_n 0, 1) := by decide +kernel
theorem dX9_in_7 : decode cX9_in 7 = .ok (.lload 4, 2) := by decide +kernel
theorem dX9_in_9 : decode cX9_in 9 = .ok (.lcmp, 1) := by decide +kernel
theorem dX9_in_10 : decode cX9_in 10 = .ok (.ifCond .gt 7, 3) := by decide +kernel
theorem dX9_in_13 : decode cX9_in 13 = .ok (.iconst 1, 1) := by decide +kernel
theorem dX9_in_14 : decode cX9_in 14 = .ok (.goto 4, 3) := by decide +kernel
theorem dX9_in_17 : decode cX9_in 17 = .ok (.iconst 0, 1) := by decide +kernel
theorem dX9_in_18 : decode cX9_in 18 = .ok (.ireturn, 1) := by decide +kernel
theorem dX9_isFunction_0 : decode cX9_isFunction 0 = .ok (.iload_n 0, 1) := by decide +kernel
theorem dX9_isFunction_1 : decode cX9_isFunction 1 = .ok (.i2l, 1) := by decide +kernel
theorem dX9_isFunction_2 : decode cX9_isFunction 2 = .ok (.lconst 0, 1) := by decide +kernel
theorem dX9_isFunction_3 : decode cX9_isFunction 3 = .ok (.ldc2_w 87, 3) := by decide +kernel
theorem dX9_isFunction_6 : decode cX9_isFunction 6 = .ok (.invokestatic 89, 3) := by decide +kernel
theorem dX9_isFunction_9 : decode cX9_isFunction 9 = .ok (.ireturn, 1) := by decide +kernel
theorem dX9_isRegister_0 : decode cX9_isRegister 0 = .ok (.iload_n 0, 1) := by decide +kernel
theorem dX9_isRegister_1 : decode cX9_isRegister 1 = .ok (.i2l, 1) := by decide +kernel
theorem dX9_isRegister_2 : decode cX9_isRegister 2 = .ok (.lconst 0, 1) := by decide +kernel
theorem dX9_isRegister_3 : decode cX9_isRegister 3 = .ok (.ldc2_w 87, 3) := by decide +kernel
theorem dX9_isRegister_6 : decode cX9_isRegister 6 = .ok (.invokestatic 89, 3) := by decide +kernel
theorem dX9_isRegister_9 : decode cX9_isRegister 9 = .ok (.ireturn, 1) := by decide +kernel
theorem dX9_isInstruction_0 : decode cX9_isInstruction 0 = .ok (.iload_n 1, 1) := by decide +kernel
theorem dX9_isInstruction_1 : decode cX9_isInstruction 1 = .ok (.invokestatic 93, 3) := by decide +kernel
theorem dX9_isInstruction_4 : decode cX9_isInstruction 4 = .ok (.ifCond .eq 25, 3) := by decide +kernel
theorem dX9_isInstruction_7 : decode cX9_isInstruction 7 = .ok (.iload_n 2, 1) := by decide +kernel
theorem dX9_isInstruction_8 : decode cX9_isInstruction 8 = .ok (.i2l, 1) := by decide +kernel
theorem dX9_isInstruction_9 : decode cX9_isInstruction 9 = .ok (.lconst 0, 1) := by decide +kernel
theorem dX9_isInstruction_10 : decode cX9_isInstruction 10 = .ok (.aload_n 0, 1) := by decide +kernel
theorem dX9_isInstruction_11 : decode cX9_isInstruction 11 = .ok (.getfield 9, 3) := by decide +kernel
theorem dX9_isInstruction_14 : decode cX9_isInstruction 14 = .ok (.iload_n 1, 1) := by decide +kernel
theorem dX9_isInstruction_15 : decode cX9_isInstruction 15 = .ok (.iaload, 1) := by decide +kernel
theorem dX9_isInstruction_16 : decode cX9_isInstruction 16 = .ok (.iconst 1, 1) := by decide +kernel
theorem dX9_isInstruction_17 : decode cX9_isInstruction 17 = .ok (.isub, 1) := by decide +kernel
theorem dX9_isInstruction_18 : decode cX9_isInstruction 18 = .ok (.i2l, 1) := by decide +kernel
theorem dX9_isInstruction_19 : decode cX9_isInstruction 19 = .ok (.invokestatic 89, 3) := by decide +kernel
theorem dX9_isInstruction_22 : decode cX9_isInstruction 22 = .ok (.ifCond .eq 7, 3) := by decide +kernel
theorem dX9_isInstruction_25 : decode cX9_isInstruction 25 = .ok (.iconst 1, 1) := by decide +kernel
theorem dX9_isInstruction_26 : decode cX9_isInstruction 26 = .ok (.goto 4, 3) := by decide +kernel
theorem dX9_isInstruction_29 : decode cX9_isInstruction 29 = .ok (.iconst 0, 1) := by decide +kernel
theorem dX9_isInstruction_30 : decode cX9_isInstruction 30 = .ok (.ireturn, 1) := by decide +kernel
theorem dX9_kind_0 : decode cX9_kind 0 = .ok (.aload_n 0, 1) := by decide +kernel
theorem dX9_kind_1 : decode cX9_kind 1 = .ok (.getfield 9, 3) := by decide +kernel
theorem dX9_kind_4 : decode cX9_kind 4 = .ok (.bipush 8, 2) := by decide +kernel
theorem dX9_kind_6 : decode cX9_kind 6 = .ok (.bipush 14, 2) := by decide +kernel
theorem dX9_kind_8 : decode cX9_kind 8 = .ok (.iload_n 1, 1) := by decide +kernel
theorem dX9_kind_9 : decode cX9_kind 9 = .ok (.imul, 1) := by decide +kernel
theorem dX9_kind_10 : decode cX9_kind 10 = .ok (.iadd, 1) := by decide +kernel
theorem dX9_kind_11 : decode cX9_kind 11 = .ok (.iload_n 2, 1) := by decide +kernel
theorem dX9_kind_12 : decode cX9_kind 12 = .ok (.iadd, 1) := by decide +kernel
theorem dX9_kind_13 : decode cX9_kind 13 = .ok (.iaload, 1) := by decide +kernel
theorem dX9_kind_14 : decode cX9_kind 14 = .ok (.ireturn, 1) := by decide +kernel
theorem dX9_first_0 : decode cX9_first 0 = .ok (.aload_n 0, 1) := by decide +kernel
theorem dX9_first_1 : decode cX9_first 1 = .ok (.getfield 9, 3) := by decide +kernel
theorem dX9_first_4 : decode cX9_first 4 = .ok (.bipush 120, 2) := by decide +kernel
theorem dX9_first_6 : decode cX9_first 6 = .ok (.bipush 14, 2) := by decide +kernel
theorem dX9_first_8 : decode cX9_first 8 = .ok (.iload_n 1, 1) := by decide +kernel
theorem dX9_first_9 : decode cX9_first 9 = .ok (.imul, 1) := by decide +kernel
theorem dX9_first_10 : decode cX9_first 10 = .ok (.iadd, 1) := by decide +kernel
theorem dX9_first_11 : decode cX9_first 11 = .ok (.iload_n 2, 1) := by decide +kernel
theorem dX9_first_12 : decode cX9_first 12 = .ok (.iadd, 1) := by decide +kernel
theorem dX9_first_13 : decode cX9_first 13 = .ok (.iaload, 1) := by decide +kernel
theorem dX9_first_14 : decode cX9_first 14 = .ok (.ireturn, 1) := by decide +kernel
theorem dX9_second_0 : decode cX9_second 0 = .ok (.aload_n 0, 1) := by decide +kernel
theorem dX9_second_1 : decode cX9_second 1 = .ok (.getfield 9, 3) := by decide +kernel
theorem dX9_second_4 : decode cX9_second 4 = .ok (.sipush 232, 3) := by decide +kernel
theorem dX9_second_7 : decode cX9_second 7 = .ok (.bipush 14, 2) := by decide +kernel
theorem dX9_second_9 : decode cX9_second 9 = .ok (.iload_n 1, 1) := by decide +kernel
theorem dX9_second_10 : decode cX9_second 10 = .ok (.imul, 1) := by decide +kernel
theorem dX9_second_11 : decode cX9_second 11 = .ok (.iadd, 1) := by decide +kernel
theorem dX9_second_12 : decode cX9_second 12 = .ok (.iload_n 2, 1) := by decide +kernel
theorem dX9_second_13 : decode cX9_second 13 = .ok (.iadd, 1) := by decide +kernel
theorem dX9_second_14 : decode cX9_second 14 = .ok (.iaload, 1) := by decide +kernel
theorem dX9_second_15 : decode cX9_second 15 = .ok (.ireturn, 1) := by decide +kernel
theorem dX9_changed_0 : decode cX9_changed 0 = .ok (.aload_n 0, 1) := by decide +kernel
theorem dX9_changed_1 : decode cX9_changed 1 = .ok (.iconst 0, 1) := by decide +kernel
theorem dX9_changed_2 : decode cX9_changed 2 = .ok (.putfield 97, 3) := by decide +kernel
theorem dX9_changed_5 : decode cX9_changed 5 = .ok (.aload_n 0, 1) := by decide +kernel
theorem dX9_changed_6 : decode cX9_changed 6 = .ok (.iconst 0, 1) := by decide +kernel
theorem dX9_changed_7 : decode cX9_changed 7 = .ok (.putfield 101, 3) := by decide +kernel
theorem dX9_changed_10 : decode cX9_changed 10 = .ok (.return_, 1) := by decide +kernel
theorem dX9_appendCharacter_0 : decode cX9_appendCharacter 0 = .ok (.aload_n 0, 1) := by decide +kernel
theorem dX9_appendCharacter_1 : decode cX9_appendCharacter 1 = .ok (.iload_n 1, 1) := by decide +kernel
theorem dX9_appendCharacter_2 : decode cX9_appendCharacter 2 = .ok (.i2l, 1) := by decide +kernel
theorem dX9_appendCharacter_3 : decode cX9_appendCharacter 3 = .ok (.ldc2_w 104, 3) := by decide +kernel
theorem dX9_appendCharacter_6 : decode cX9_appendCharacter 6 = .ok (.ldc2_w 106, 3) := by decide +kernel
theorem dX9_appendCharacter_9 : decode cX9_appendCharacter 9 = .ok (.invokestatic 89, 3) := by decide +kernel
theorem dX9_appendCharacter_12 : decode cX9_appendCharacter 12 = .ok (.ifCond .ne 7, 3) := by decide +kernel
theorem dX9_appendCharacter_15 : decode cX9_appendCharacter 15 = .ok (.iconst 1, 1) := by decide +kernel
theorem dX9_appendCharacter_16 : decode cX9_appendCharacter 16 = .ok (.goto 17, 3) := by decide +kernel
theorem dX9_appendCharacter_19 : decode cX9_appendCharacter 19 = .ok (.aload_n 0, 1) := by decide +kernel
theorem dX9_appendCharacter_20 : decode cX9_appendCharacter 20 = .ok (.getfield 108, 3) := by decide +kernel
theorem dX9_appendCharacter_23 : decode cX9_appendCharacter 23 = .ok (.bipush 60, 2) := by decide +kernel
theorem dX9_appendCharacter_25 : decode cX9_appendCharacter 25 = .ok (.if_icmp .ne 7, 3) := by decide +kernel
theorem dX9_appendCharacter_28 : decode cX9_appendCharacter 28 = .ok (.iconst 2, 1) := by decide +kernel
theorem dX9_appendCharacter_29 : decode cX9_appendCharacter 29 = .ok (.goto 4, 3) := by decide +kernel
theorem dX9_appendCharacter_32 : decode cX9_appendCharacter 32 = .ok (.iconst 0, 1) := by decide +kernel
theorem dX9_appendCharacter_33 : decode cX9_appendCharacter 33 = .ok (.putfield 84, 3) := by decide +kernel
theorem dX9_appendCharacter_36 : decode cX9_appendCharacter 36 = .ok (.aload_n 0, 1) := by decide +kernel
theorem dX9_appendCharacter_37 : decode cX9_appendCharacter 37 = .ok (.getfield 84, 3) := by decide +kernel
theorem dX9_appendCharacter_40 : decode cX9_appendCharacter 40 = .ok (.ifCond .le 5, 3) := by decide +kernel
theorem dX9_appendCharacter_43 : decode cX9_appendCharacter 43 = .ok (.iconst 0, 1) := by decide +kernel
theorem dX9_appendCharacter_44 : decode cX9_appendCharacter 44 = .ok (.ireturn, 1) := by decide +kernel
theorem dX9_appendCharacter_45 : decode cX9_appendCharacter 45 = .ok (.aload_n 0, 1) := by decide +kernel
theorem dX9_appendCharacter_46 : decode cX9_appendCharacter 46 = .ok (.getfield 16, 3) := by decide +kernel
theorem dX9_appendCharacter_49 : decode cX9_appendCharacter 49 = .ok (.aload_n 0, 1) := by decide +kernel
theorem dX9_appendCharacter_50 : decode cX9_appendCharacter 50 = .ok (.getfield 108, 3) := by decide +kernel
theorem dX9_appendCharacter_53 : decode cX9_appendCharacter 53 = .ok (.iload_n 1, 1) := by decide +kernel
theorem dX9_appendCharacter_54 : decode cX9_appendCharacter 54 = .ok (.iastore, 1) := by decide +kernel
theorem dX9_appendCharacter_55 : decode cX9_appendCharacter 55 = .ok (.aload_n 0, 1) := by decide +kernel
theorem dX9_appendCharacter_56 : decode cX9_appendCharacter 56 = .ok (.dup, 1) := by decide +kernel
theorem dX9_appendCharacter_57 : decode cX9_appendCharacter 57 = .ok (.getfield 108, 3) := by decide +kernel
theorem dX9_appendCharacter_60 : decode cX9_appendCharacter 60 = .ok (.iconst 1, 1) := by decide +kernel
theorem dX9_appendCharacter_61 : decode cX9_appendCharacter 61 = .ok (.iadd, 1) := by decide +kernel
theorem dX9_appendCharacter_62 : decode cX9_appendCharacter 62 = .ok (.putfield 108, 3) := by decide +kernel
theorem dX9_appendCharacter_65 : decode cX9_appendCharacter 65 = .ok (.aload_n 0, 1) := by decide +kernel
theorem dX9_appendCharacter_66 : decode cX9_appendCharacter 66 = .ok (.getfield 108, 3) := by decide +kernel
theorem dX9_appendCharacter_69 : decode cX9_appendCharacter 69 = .ok (.ireturn, 1) := by decide +kernel
theorem dX9_here_0 : decode cX9_here 0 = .ok (.aload_n 0, 1) := by decide +kernel
theorem dX9_here_1 : decode cX9_here 1 = .ok (.getfield 111, 3) := by decide +kernel
theorem dX9_here_4 : decode cX9_here 4 = .ok (.aload_n 0, 1) := by decide +kernel
theorem dX9_here_5 : decode cX9_here 5 = .ok (.getfield 108, 3) := by decide +kernel
theorem dX9_here_8 : decode cX9_here 8 = .ok (.if_icmp .ge 15, 3) := by decide +kernel
theorem dX9_here_11 : decode cX9_here 11 = .ok (.aload_n 0, 1) := by decide +kernel
theorem dX9_here_12 : decode cX9_here 12 = .ok (.getfield 16, 3) := by decide +kernel
theorem dX9_here_15 : decode cX9_here 15 = .ok (.aload_n 0, 1) := by decide +kernel
theorem dX9_here_16 : decode cX9_here 16 = .ok (.getfield 111, 3) := by decide +kernel
theorem dX9_here_19 : decode cX9_here 19 = .ok (.iaload, 1) := by decide +kernel
theorem dX9_here_20 : decode cX9_here 20 = .ok (.goto 4, 3) := by decide +kernel
theorem dX9_here_23 : decode cX9_here 23 = .ok (.iconst 0, 1) := by decide +kernel
theorem dX9_here_24 : decode cX9_here 24 = .ok (.ireturn, 1) := by decide +kernel
theorem dX9_digit_0 : decode cX9_digit 0 = .ok (.aload_n 0, 1) := by decide +kernel
theorem dX9_digit_1 : decode cX9_digit 1 = .ok (.getfield 114, 3) := by decide +kernel
theorem dX9_digit_4 : decode cX9_digit 4 = .ok (.ifCond .ne 24, 3) := by decide +kernel
theorem dX9_digit_7 : decode cX9_digit 7 = .ok (.aload_n 0, 1) := by decide +kernel
theorem dX9_digit_8 : decode cX9_digit 8 = .ok (.invokevirtual 117, 3) := by decide +kernel
theorem dX9_digit_11 : decode cX9_digit 11 = .ok (.i2l, 1) := by decide +kernel
theorem dX9_digit_12 : decode cX9_digit 12 = .ok (.bipush 48, 2) := by decide +kernel
theorem dX9_digit_14 : decode cX9_digit 14 = .ok (.iload_n 1, 1) := by decide +kernel
theorem dX9_digit_15 : decode cX9_digit 15 = .ok (.iadd, 1) := by decide +kernel
theorem dX9_digit_16 : decode cX9_digit 16 = .ok (.i2l, 1) := by decide +kernel
theorem dX9_digit_17 : decode cX9_digit 17 = .ok (.bipush 48, 2) := by decide +kernel
theorem dX9_digit_19 : decode cX9_digit 19 = .ok (.iload_n 2, 1) := by decide +kernel
theorem dX9_digit_20 : decode cX9_digit 20 = .ok (.iadd, 1) := by decide +kernel
theorem dX9_digit_21 : decode cX9_digit 21 = .ok (.i2l, 1) := by decide +kernel
theorem dX9_digit_22 : decode cX9_digit 22 = .ok (.invokestatic 89, 3) := by decide +kernel
theorem dX9_digit_25 : decode cX9_digit 25 = .ok (.ifCond .ne 10, 3) := by decide +kernel
theorem dX9_digit_28 : decode cX9_digit 28 = .ok (.aload_n 0, 1) := by decide +kernel
theorem dX9_digit_29 : decode cX9_digit 29 = .ok (.iconst 1, 1) := by decide +kernel
theorem dX9_digit_30 : decode cX9_digit 30 = .ok (.putfield 114, 3) := by decide +kernel
theorem dX9_digit_33 : decode cX9_digit 33 = .ok (.iconst 0, 1) := by decide +kernel
theorem dX9_digit_34 : decode cX9_digit 34 = .ok (.ireturn, 1) := by decide +kernel
theorem dX9_digit_35 : decode cX9_digit 35 = .ok (.aload_n 0, 1) := by decide +kernel
theorem dX9_digit_36 : decode cX9_digit 36 = .ok (.dup, 1) := by decide +kernel
theorem dX9_digit_37 : decode cX9_digit 37 = .ok (.getfield 111, 3) := by decide +kernel
theorem dX9_digit_40 : decode cX9_digit 40 = .ok (.iconst 1, 1) := by decide +kernel
theorem dX9_digit_41 : decode cX9_digit 41 = .ok (.iadd, 1) := by decide +kernel
theorem dX9_digit_42 : decode cX9_digit 42 = .ok (.putfield 111, 3) := by decide +kernel
theorem dX9_digit_45 : decode cX9_digit 45 = .ok (.aload_n 0, 1) := by decide +kernel
theorem dX9_digit_46 : decode cX9_digit 46 = .ok (.getfield 16, 3) := by decide +kernel
theorem dX9_digit_49 : decode cX9_digit 49 = .ok (.aload_n 0, 1) := by decide +kernel
theorem dX9_digit_50 : decode cX9_digit 50 = .ok (.getfield 111, 3) := by decide +kernel
theorem dX9_digit_53 : decode cX9_digit 53 = .ok (.iconst 1, 1) := by decide +kernel
theorem dX9_digit_54 : decode cX9_digit 54 = .ok (.isub, 1) := by decide +kernel
theorem dX9_digit_55 : decode cX9_digit 55 = .ok (.iaload, 1) := by decide +kernel
theorem dX9_digit_56 : decode cX9_digit 56 = .ok (.bipush 48, 2) := by decide +kernel
theorem dX9_digit_58 : decode cX9_digit 58 = .ok (.isub, 1) := by decide +kernel
theorem dX9_digit_59 : decode cX9_digit 59 = .ok (.ireturn, 1) := by decide +kernel
theorem dX9_readInstruction_0 : decode cX9_readInstruction 0 = .ok (.aload_n 0, 1) := by decide +kernel
theorem dX9_readInstruction_1 : decode cX9_readInstruction 1 = .ok (.invokevirtual 117, 3) := by decide +kernel
theorem dX9_readInstruction_4 : decode cX9_readInstruction 4 = .ok (.istore_n 1, 1) := by decide +kernel
theorem dX9_readInstruction_5 : decode cX9_readInstruction 5 = .ok (.iload_n 1, 1) := by decide +kernel
theorem dX9_readInstruction_6 : decode cX9_readInstruction 6 = .ok (.bipush 117, 2) := by decide +kernel
theorem dX9_readInstruction_8 : decode cX9_readInstruction 8 = .ok (.if_icmp .eq 57, 3) := by decide +kernel
theorem dX9_readInstruction_11 : decode cX9_readInstruction 11 = .ok (.iload_n 1, 1) := by decide +kernel
theorem dX9_readInstruction_12 : decode cX9_readInstruction 12 = .ok (.bipush 100, 2) := by decide +kernel
theorem dX9_readInstruction_14 : decode cX9_readInstruction 14 = .ok (.if_icmp .eq 51, 3) := by decide +kernel
theorem dX9_readInstruction_17 : decode cX9_readInstruction 17 = .ok (.iload_n 1, 1) := by decide +kernel
theorem dX9_readInstruction_18 : decode cX9_readInstruction 18 = .ok (.bipush 109, 2) := by decide +kernel
theorem dX9_readInstruction_20 : decode cX9_readInstruction 20 = .ok (.if_icmp .eq 45, 3) := by decide +kernel
theorem dX9_readInstruction_23 : decode cX9_readInstruction 23 = .ok (.iload_n 1, 1) := by decide +kernel
theorem dX9_readInstruction_24 : decode cX9_readInstruction 24 = .ok (.bipush 43, 2) := by decide +kernel
theorem dX9_readInstruction_26 : decode cX9_readInstruction 26 = .ok (.if_icmp .eq 39, 3) := by decide +kernel
theorem dX9_readInstruction_29 : decode cX9_readInstruction 29 = .ok (.iload_n 1, 1) := by decide +kernel
theorem dX9_readInstruction_30 : decode cX9_readInstruction 30 = .ok (.bipush 45, 2) := by decide +kernel
theorem dX9_readInstruction_32 : decode cX9_readInstruction 32 = .ok (.if_icmp .eq 33, 3) := by decide +kernel
theorem dX9_readInstruction_35 : decode cX9_readInstruction 35 = .ok (.iload_n 1, 1) := by decide +kernel
theorem dX9_readInstruction_36 : decode cX9_readInstruction 36 = .ok (.bipush 99, 2) := by decide +kernel
theorem dX9_readInstruction_38 : decode cX9_readInstruction 38 = .ok (.if_icmp .eq 27, 3) := by decide +kernel
theorem dX9_readInstruction_41 : decode cX9_readInstruction 41 = .ok (.iload_n 1, 1) := by decide +kernel
theorem dX9_readInstruction_42 : decode cX9_readInstruction 42 = .ok (.bipush 108, 2) := by decide +kernel
theorem dX9_readInstruction_44 : decode cX9_readInstruction 44 = .ok (.if_icmp .eq 21, 3) := by decide +kernel
theorem dX9_readInstruction_47 : decode cX9_readInstruction 47 = .ok (.iload_n 1, 1) := by decide +kernel
theorem dX9_readInstruction_48 : decode cX9_readInstruction 48 = .ok (.bipush 115, 2) := by decide +kernel
theorem dX9_readInstruction_50 : decode cX9_readInstruction 50 = .ok (.if_icmp .eq 15, 3) := by decide +kernel
theorem dX9_readInstruction_53 : decode cX9_readInstruction 53 = .ok (.iload_n 1, 1) := by decide +kernel
theorem dX9_readInstruction_54 : decode cX9_readInstruction 54 = .ok (.bipush 98, 2) := by decide +kernel
theorem dX9_readInstruction_56 : decode cX9_readInstruction 56 = .ok (.if_icmp .eq 9, 3) := by decide +kernel
theorem dX9_readInstruction_59 : decode cX9_readInstruction 59 = .ok (.iload_n 1, 1) := by decide +kernel
theorem dX9_readInstruction_60 : decode cX9_readInstruction 60 = .ok (.bipush 114, 2) := by decide +kernel
theorem dX9_readInstruction_62 : decode cX9_readInstruction 62 = .ok (.if_icmp .ne 7, 3) := by decide +kernel
theorem dX9_readInstruction_65 : decode cX9_readInstruction 65 = .ok (.iconst 1, 1) := by decide +kernel
theorem dX9_readInstruction_66 : decode cX9_readInstruction 66 = .ok (.goto 4, 3) := by decide +kernel
theorem dX9_readInstruction_69 : decode cX9_readInstruction 69 = .ok (.iconst 0, 1) := by decide +kernel
theorem dX9_readInstruction_70 : decode cX9_readInstruction 70 = .ok (.istore_n 2, 1) := by decide +kernel
theorem dX9_readInstruction_71 : decode cX9_readInstruction 71 = .ok (.iload_n 2, 1) := by decide +kernel
theorem dX9_readInstruction_72 : decode cX9_readInstruction 72 = .ok (.ifCond .ne 9, 3) := by decide +kernel
theorem dX9_readInstruction_75 : decode cX9_readInstruction 75 = .ok (.aload_n 0, 1) := by decide +kernel
theorem dX9_readInstruction_76 : decode cX9_readInstruction 76 = .ok (.iconst 1, 1) := by decide +kernel
theorem dX9_readInstruction_77 : decode cX9_readInstruction 77 = .ok (.putfield 114, 3) := by decide +kernel
theorem dX9_readInstruction_80 : decode cX9_readInstruction 80 = .ok (.return_, 1) := by decide +kernel
theorem dX9_readInstruction_81 : decode cX9_readInstruction 81 = .ok (.aload_n 0, 1) := by decide +kernel
theorem dX9_readInstruction_82 : decode cX9_readInstruction 82 = .ok (.dup, 1) := by decide +kernel
theorem dX9_readInstruction_83 : decode cX9_readInstruction 83 = .ok (.getfield 111, 3) := by decide +kernel
theorem dX9_readInstruction_86 : decode cX9_readInstruction 86 = .ok (.iconst 1, 1) := by decide +kernel
theorem dX9_readInstruction_87 : decode cX9_readInstruction 87 = .ok (.iadd, 1) := by decide +kernel
theorem dX9_readInstruction_88 : decode cX9_readInstruction 88 = .ok (.putfield 111, 3) := by decide +kernel
theorem dX9_readInstruction_91 : decode cX9_readInstruction 91 = .ok (.aload_n 0, 1) := by decide +kernel
theorem dX9_readInstruction_92 : decode cX9_readInstruction 92 = .ok (.getfield 23, 3) := by decide +kernel
theorem dX9_readInstruction_95 : decode cX9_readInstruction 95 = .ok (.aload_n 0, 1) := by decide +kernel
theorem dX9_readInstruction_96 : decode cX9_readInstruction 96 = .ok (.getfield 121, 3) := by decide +kernel
theorem dX9_readInstruction_99 : decode cX9_readInstruction 99 = .ok (.iload_n 1, 1) := by decide +kernel
theorem dX9_readInstruction_100 : decode cX9_readInstruction 100 = .ok (.iastore, 1) := by decide +kernel
theorem dX9_readInstruction_101 : decode cX9_readInstruction 101 = .ok (.aload_n 0, 1) := by decide +kernel
theorem dX9_readInstruction_102 : decode cX9_readInstruction 102 = .ok (.getfield 26, 3) := by decide +kernel
theorem dX9_readInstruction_105 : decode cX9_readInstruction 105 = .ok (.aload_n 0, 1) := by decide +kernel
theorem dX9_readInstruction_106 : decode cX9_readInstruction 106 = .ok (.getfield 121, 3) := by decide +kernel
theorem dX9_readInstruction_109 : decode cX9_readInstruction 109 = .ok (.iconst 0, 1) := by decide +kernel
theorem dX9_readInstruction_110 : decode cX9_readInstruction 110 = .ok (.iastore, 1) := by decide +kernel
theorem dX9_readInstruction_111 : decode cX9_readInstruction 111 = .ok (.aload_n 0, 1) := by decide +kernel
theorem dX9_readInstruction_112 : decode cX9_readInstruction 112 = .ok (.getfield 29, 3) := by decide +kernel
theorem dX9_readInstruction_115 : decode cX9_readInstruction 115 = .ok (.aload_n 0, 1) := by decide +kernel
theorem dX9_readInstruction_116 : decode cX9_readInstruction 116 = .ok (.getfield 121, 3) := by decide +kernel
theorem dX9_readInstruction_119 : decode cX9_readInstruction 119 = .ok (.iconst 0, 1) := by decide +kernel
theorem dX9_readInstruction_120 : decode cX9_readInstruction 120 = .ok (.iastore, 1) := by decide +kernel
theorem dX9_readInstruction_121 : decode cX9_readInstruction 121 = .ok (.iload_n 1, 1) := by decide +kernel
theorem dX9_readInstruction_122 : decode cX9_readInstruction 122 = .ok (.bipush 108, 2) := by decide +kernel
theorem dX9_readInstruction_124 : decode cX9_readInstruction 124 = .ok (.if_icmp .eq 9, 3) := by decide +kernel
theorem dX9_readInstruction_127 : decode cX9_readInstruction 127 = .ok (.iload_n 1, 1) := by decide +kernel
theorem dX9_readInstruction_128 : decode cX9_readInstruction 128 = .ok (.bipush 115, 2) := by decide +kernel
theorem dX9_readInstruction_130 : decode cX9_readInstruction 130 = .ok (.if_icmp .ne 21, 3) := by decide +kernel
theorem dX9_readInstruction_133 : decode cX9_readInstruction 133 = .ok (.aload_n 0, 1) := by decide +kernel
theorem dX9_readInstruction_134 : decode cX9_readInstruction 134 = .ok (.getfield 26, 3) := by decide +kernel
theorem dX9_readInstruction_137 : decode cX9_readInstruction 137 = .ok (.aload_n 0, 1) := by decide +kernel
theorem dX9_readInstruction_138 : decode cX9_readInstruction 138 = .ok (.getfield 121, 3) := by decide +kernel
theorem dX9_readInstruction_141 : decode cX9_readInstruction 141 = .ok (.aload_n 0, 1) := by decide +kernel
theorem dX9_readInstruction_142 : decode cX9_readInstruction 142 = .ok (.iconst 0, 1) := by decide +kernel
theorem dX9_readInstruction_143 : decode cX9_readInstruction 143 = .ok (.iconst 3, 1) := by decide +kernel
theorem dX9_readInstruction_144 : decode cX9_readInstruction 144 = .ok (.invokevirtual 124, 3) := by decide +kernel
theorem dX9_readInstruction_147 : decode cX9_readInstruction 147 = .ok (.iastore, 1) := by decide +kernel
theorem dX9_readInstruction_148 : decode cX9_readInstruction 148 = .ok (.goto 50, 3) := by decide +kernel
theorem dX9_readInstruction_151 : decode cX9_readInstruction 151 = .ok (.iload_n 1, 1) := by decide +kernel
theorem dX9_readInstruction_152 : decode cX9_readInstruction 152 = .ok (.bipush 98, 2) := by decide +kernel
theorem dX9_readInstruction_154 : decode cX9_readInstruction 154 = .ok (.if_icmp .ne 22, 3) := by decide +kernel
theorem dX9_readInstruction_157 : decode cX9_readInstruction 157 = .ok (.aload_n 0, 1) := by decide +kernel
theorem dX9_readInstruction_158 : decode cX9_readInstruction 158 = .ok (.getfield 26, 3) := by decide +kernel
theorem dX9_readInstruction_161 : decode cX9_readInstruction 161 = .ok (.aload_n 0, 1) := by decide +kernel
theorem dX9_readInstruction_162 : decode cX9_readInstruction 162 = .ok (.getfield 121, 3) := by decide +kernel
theorem dX9_readInstruction_165 : decode cX9_readInstruction 165 = .ok (.aload_n 0, 1) := by decide +kernel
theorem dX9_readInstruction_166 : decode cX9_readInstruction 166 = .ok (.iconst 1, 1) := by decide +kernel
theorem dX9_readInstruction_167 : decode cX9_readInstruction 167 = .ok (.bipush 9, 2) := by decide +kernel
theorem dX9_readInstruction_169 : decode cX9_readInstruction 169 = .ok (.invokevirtual 124, 3) := by decide +kernel
theorem dX9_readInstruction_172 : decode cX9_readInstruction 172 = .ok (.iastore, 1) := by decide +kernel
theorem dX9_readInstruction_173 : decode cX9_readInstruction 173 = .ok (.goto 25, 3) := by decide +kernel
theorem dX9_readInstruction_176 : decode cX9_readInstruction 176 = .ok (.iload_n 1, 1) := by decide +kernel
theorem dX9_readInstruction_177 : decode cX9_readInstruction 177 = .ok (.bipush 114, 2) := by decide +kernel
theorem dX9_readInstruction_179 : decode cX9_readInstruction 179 = .ok (.if_icmp .eq 19, 3) := by decide +kernel
theorem dX9_readInstruction_182 : decode cX9_readInstruction 182 = .ok (.aload_n 0, 1) := by decide +kernel
theorem dX9_readInstruction_183 : decode cX9_readInstruction 183 = .ok (.getfield 26, 3) := by decide +kernel
theorem dX9_readInstruction_186 : decode cX9_readInstruction 186 = .ok (.aload_n 0, 1) := by decide +kernel
theorem dX9_readInstruction_187 : decode cX9_readInstruction 187 = .ok (.getfield 121, 3) := by decide +kernel
theorem dX9_readInstruction_190 : decode cX9_readInstruction 190 = .ok (.aload_n 0, 1) := by decide +kernel
theorem dX9_readInstruction_191 : decode cX9_readInstruction 191 = .ok (.iconst 0, 1) := by decide +kernel
theorem dX9_readInstruction_192 : decode cX9_readInstruction 192 = .ok (.bipush 7, 2) := by decide +kernel
theorem dX9_readInstruction_194 : decode cX9_readInstruction 194 = .ok (.invokevirtual 124, 3) := by decide +kernel
theorem dX9_readInstruction_197 : decode cX9_readInstruction 197 = .ok (.iastore, 1) := by decide +kernel
theorem dX9_readInstruction_198 : decode cX9_readInstruction 198 = .ok (.iload_n 1, 1) := by decide +kernel
theorem dX9_readInstruction_199 : decode cX9_readInstruction 199 = .ok (.bipush 109, 2) := by decide +kernel
theorem dX9_readInstruction_201 : decode cX9_readInstruction 201 = .ok (.if_icmp .ne 19, 3) := by decide +kernel
theorem dX9_readInstruction_204 : decode cX9_readInstruction 204 = .ok (.aload_n 0, 1) := by decide +kernel
theorem dX9_readInstruction_205 : decode cX9_readInstruction 205 = .ok (.getfield 29, 3) := by decide +kernel
theorem dX9_readInstruction_208 : decode cX9_readInstruction 208 = .ok (.aload_n 0, 1) := by decide +kernel
theorem dX9_readInstruction_209 : decode cX9_readInstruction 209 = .ok (.getfield 121, 3) := by decide +kernel
theorem dX9_readInstruction_212 : decode cX9_readInstruction 212 = .ok (.aload_n 0, 1) := by decide +kernel
theorem dX9_readInstruction_213 : decode cX9_readInstruction 213 = .ok (.iconst 0, 1) := by decide +kernel
theorem dX9_readInstruction_214 : decode cX9_readInstruction 214 = .ok (.bipush 7, 2) := by decide +kernel
theorem dX9_readInstruction_216 : decode cX9_readInstruction 216 = .ok (.invokevirtual 124, 3) := by decide +kernel
theorem dX9_readInstruction_219 : decode cX9_readInstruction 219 = .ok (.iastore, 1) := by decide +kernel
theorem dX9_readInstruction_220 : decode cX9_readInstruction 220 = .ok (.aload_n 0, 1) := by decide +kernel
theorem dX9_readInstruction_221 : decode cX9_readInstruction 221 = .ok (.dup, 1) := by decide +kernel
theorem dX9_readInstruction_222 : decode cX9_readInstruction 222 = .ok (.getfield 121, 3) := by decide +kernel
theorem dX9_readInstruction_225 : decode cX9_readInstruction 225 = .ok (.iconst 1, 1) := by decide +kernel
theorem dX9_readInstruction_226 : decode cX9_readInstruction 226 = .ok (.iadd, 1) := by decide +kernel
theorem dX9_readInstruction_227 : decode cX9_readInstruction 227 = .ok (.putfield 121, 3) := by decide +kernel
theorem dX9_readInstruction_230 : decode cX9_readInstruction 230 = .ok (.return_, 1) := by decide +kernel
theorem dX9_setBody_0 : decode cX9_setBody 0 = .ok (.aload_n 0, 1) := by decide +kernel
theorem dX9_setBody_1 : decode cX9_setBody 1 = .ok (.iload_n 1, 1) := by decide +kernel
theorem dX9_setBody_2 : decode cX9_setBody 2 = .ok (.invokestatic 93, 3) := by decide +kernel
theorem dX9_setBody_5 : decode cX9_setBody 5 = .ok (.ifCond .eq 7, 3) := by decide +kernel
theorem dX9_setBody_8 : decode cX9_setBody 8 = .ok (.iconst 0, 1) := by decide +kernel
theorem dX9_setBody_9 : decode cX9_setBody 9 = .ok (.goto 4, 3) := by decide +kernel
theorem dX9_setBody_12 : decode cX9_setBody 12 = .ok (.iconst 1, 1) := by decide +kernel
theorem dX9_setBody_13 : decode cX9_setBody 13 = .ok (.putfield 84, 3) := by decide +kernel
theorem dX9_setBody_16 : decode cX9_setBody 16 = .ok (.aload_n 0, 1) := by decide +kernel
theorem dX9_setBody_17 : decode cX9_setBody 17 = .ok (.getfield 84, 3) := by decide +kernel
theorem dX9_setBody_20 : decode cX9_setBody 20 = .ok (.ifCond .le 5, 3) := by decide +kernel
theorem dX9_setBody_23 : decode cX9_setBody 23 = .ok (.iconst 0, 1) := by decide +kernel
theorem dX9_setBody_24 : decode cX9_setBody 24 = .ok (.ireturn, 1) := by decide +kernel
theorem dX9_setBody_25 : decode cX9_setBody 25 = .ok (.aload_n 0, 1) := by decide +kernel
theorem dX9_setBody_26 : decode cX9_setBody 26 = .ok (.iconst 0, 1) := by decide +kernel
theorem dX9_setBody_27 : decode cX9_setBody 27 = .ok (.putfield 111, 3) := by decide +kernel
theorem dX9_setBody_30 : decode cX9_setBody 30 = .ok (.aload_n 0, 1) := by decide +kernel
theorem dX9_setBody_31 : decode cX9_setBody 31 = .ok (.iconst 0, 1) := by decide +kernel
theorem dX9_setBody_32 : decode cX9_setBody 32 = .ok (.putfield 114, 3) := by decide +kernel
theorem dX9_setBody_35 : decode cX9_setBody 35 = .ok (.aload_n 0, 1) := by decide +kernel
theorem dX9_setBody_36 : decode cX9_setBody 36 = .ok (.iconst 0, 1) := by decide +kernel
theorem dX9_setBody_37 : decode cX9_setBody 37 = .ok (.putfield 121, 3) := by decide +kernel
theorem dX9_setBody_40 : decode cX9_setBody 40 = .ok (.aload_n 0, 1) := by decide +kernel
theorem dX9_setBody_41 : decode cX9_setBody 41 = .ok (.getfield 108, 3) := by decide +kernel
theorem dX9_setBody_44 : decode cX9_setBody 44 = .ok (.ifCond .le 7, 3) := by decide +kernel
theorem dX9_setBody_47 : decode cX9_setBody 47 = .ok (.iconst 1, 1) := by decide +kernel
theorem dX9_setBody_48 : decode cX9_setBody 48 = .ok (.goto 4, 3) := by decide +kernel
theorem dX9_setBody_51 : decode cX9_setBody 51 = .ok (.iconst 0, 1) := by decide +kernel
theorem dX9_setBody_52 : decode cX9_setBody 52 = .ok (.istore_n 2, 1) := by decide +kernel
theorem dX9_setBody_53 : decode cX9_setBody 53 = .ok (.iload_n 2, 1) := by decide +kernel
theorem dX9_setBody_54 : decode cX9_setBody 54 = .ok (.ifCond .eq 50, 3) := by decide +kernel
theorem dX9_setBody_57 : decode cX9_setBody 57 = .ok (.aload_n 0, 1) := by decide +kernel
theorem dX9_setBody_58 : decode cX9_setBody 58 = .ok (.invokevirtual 128, 3) := by decide +kernel
theorem dX9_setBody_61 : decode cX9_setBody 61 = .ok (.aload_n 0, 1) := by decide +kernel
theorem dX9_setBody_62 : decode cX9_setBody 62 = .ok (.getfield 114, 3) := by decide +kernel
theorem dX9_setBody_65 : decode cX9_setBody 65 = .ok (.ifCond .ne 16, 3) := by decide +kernel
theorem dX9_setBody_68 : decode cX9_setBody 68 = .ok (.aload_n 0, 1) := by decide +kernel
theorem dX9_setBody_69 : decode cX9_setBody 69 = .ok (.invokevirtual 117, 3) := by decide +kernel
theorem dX9_setBody_72 : decode cX9_setBody 72 = .ok (.bipush 59, 2) := by decide +kernel
theorem dX9_setBody_74 : decode cX9_setBody 74 = .ok (.if_icmp .ne 7, 3) := by decide +kernel
theorem dX9_setBody_77 : decode cX9_setBody 77 = .ok (.iconst 1, 1) := by decide +kernel
theorem dX9_setBody_78 : decode cX9_setBody 78 = .ok (.goto 4, 3) := by decide +kernel
theorem dX9_setBody_81 : decode cX9_setBody 81 = .ok (.iconst 0, 1) := by decide +kernel
theorem dX9_setBody_82 : decode cX9_setBody 82 = .ok (.istore_n 2, 1) := by decide +kernel
theorem dX9_setBody_83 : decode cX9_setBody 83 = .ok (.aload_n 0, 1) := by decide +kernel
theorem dX9_setBody_84 : decode cX9_setBody 84 = .ok (.dup, 1) := by decide +kernel
theorem dX9_setBody_85 : decode cX9_setBody 85 = .ok (.getfield 111, 3) := by decide +kernel
theorem dX9_setBody_88 : decode cX9_setBody 88 = .ok (.iload_n 2, 1) := by decide +kernel
theorem dX9_setBody_89 : decode cX9_setBody 89 = .ok (.ifCond .eq 7, 3) := by decide +kernel
theorem dX9_setBody_92 : decode cX9_setBody 92 = .ok (.iconst 1, 1) := by decide +kernel
theorem dX9_setBody_93 : decode cX9_setBody 93 = .ok (.goto 4, 3) := by decide +kernel
theorem dX9_setBody_96 : decode cX9_setBody 96 = .ok (.iconst 0, 1) := by decide +kernel
theorem dX9_setBody_97 : decode cX9_setBody 97 = .ok (.iadd, 1) := by decide +kernel
theorem dX9_setBody_98 : decode cX9_setBody 98 = .ok (.putfield 111, 3) := by decide +kernel
theorem dX9_setBody_101 : decode cX9_setBody 101 = .ok (.goto (-48), 3) := by decide +kernel
theorem dX9_setBody_104 : decode cX9_setBody 104 = .ok (.aload_n 0, 1) := by decide +kernel
theorem dX9_setBody_105 : decode cX9_setBody 105 = .ok (.aload_n 0, 1) := by decide +kernel
theorem dX9_setBody_106 : decode cX9_setBody 106 = .ok (.getfield 114, 3) := by decide +kernel
theorem dX9_setBody_109 : decode cX9_setBody 109 = .ok (.ifCond .ne 14, 3) := by decide +kernel
theorem dX9_setBody_112 : decode cX9_setBody 112 = .ok (.aload_n 0, 1) := by decide +kernel
theorem dX9_setBody_113 : decode cX9_setBody 113 = .ok (.getfield 111, 3) := by decide +kernel
theorem dX9_setBody_116 : decode cX9_setBody 116 = .ok (.aload_n 0, 1) := by decide +kernel
theorem dX9_setBody_117 : decode cX9_setBody 117 = .ok (.getfield 108, 3) := by decide +kernel
theorem dX9_setBody_120 : decode cX9_setBody 120 = .ok (.if_icmp .ge 7, 3) := by decide +kernel
theorem dX9_setBody_123 : decode cX9_setBody 123 = .ok (.iconst 1, 1) := by decide +kernel
theorem dX9_setBody_124 : decode cX9_setBody 124 = .ok (.goto 4, 3) := by decide +kernel
theorem dX9_setBody_127 : decode cX9_setBody 127 = .ok (.iconst 0, 1) := by decide +kernel
theorem dX9_setBody_128 : decode cX9_setBody 128 = .ok (.putfield 114, 3) := by decide +kernel
theorem dX9_setBody_131 : decode cX9_setBody 131 = .ok (.aload_n 0, 1) := by decide +kernel
theorem dX9_setBody_132 : decode cX9_setBody 132 = .ok (.iconst 0, 1) := by decide +kernel
theorem dX9_setBody_133 : decode cX9_setBody 133 = .ok (.putfield 108, 3) := by decide +kernel
theorem dX9_setBody_136 : decode cX9_setBody 136 = .ok (.aload_n 0, 1) := by decide +kernel
theorem dX9_setBody_137 : decode cX9_setBody 137 = .ok (.aload_n 0, 1) := by decide +kernel
theorem dX9_setBody_138 : decode cX9_setBody 138 = .ok (.getfield 114, 3) := by decide +kernel
theorem dX9_setBody_141 : decode cX9_setBody 141 = .ok (.ifCond .eq 10, 3) := by decide +kernel
theorem dX9_setBody_144 : decode cX9_setBody 144 = .ok (.aload_n 0, 1) := by decide +kernel
theorem dX9_setBody_145 : decode cX9_setBody 145 = .ok (.getfield 111, 3) := by decide +kernel
theorem dX9_setBody_148 : decode cX9_setBody 148 = .ok (.goto 4, 3) := by decide +kernel
theorem dX9_setBody_151 : decode cX9_setBody 151 = .ok (.iconst (-1), 1) := by decide +kernel
theorem dX9_setBody_152 : decode cX9_setBody 152 = .ok (.putfield 19, 3) := by decide +kernel
theorem dX9_setBody_155 : decode cX9_setBody 155 = .ok (.aload_n 0, 1) := by decide +kernel
theorem dX9_setBody_156 : decode cX9_setBody 156 = .ok (.aload_n 0, 1) := by decide +kernel
theorem dX9_setBody_157 : decode cX9_setBody 157 = .ok (.getfield 114, 3) := by decide +kernel
theorem dX9_setBody_160 : decode cX9_setBody 160 = .ok (.ifCond .eq 7, 3) := by decide +kernel
theorem dX9_setBody_163 : decode cX9_setBody 163 = .ok (.iconst 2, 1) := by decide +kernel
theorem dX9_setBody_164 : decode cX9_setBody 164 = .ok (.goto 17, 3) := by decide +kernel
theorem dX9_setBody_167 : decode cX9_setBody 167 = .ok (.aload_n 0, 1) := by decide +kernel
theorem dX9_setBody_168 : decode cX9_setBody 168 = .ok (.getfield 121, 3) := by decide +kernel
theorem dX9_setBody_171 : decode cX9_setBody 171 = .ok (.bipush 14, 2) := by decide +kernel
theorem dX9_setBody_173 : decode cX9_setBody 173 = .ok (.if_icmp .le 7, 3) := by decide +kernel
theorem dX9_setBody_176 : decode cX9_setBody 176 = .ok (.iconst 3, 1) := by decide +kernel
theorem dX9_setBody_177 : decode cX9_setBody 177 = .ok (.goto 4, 3) := by decide +kernel
theorem dX9_setBody_180 : decode cX9_setBody 180 = .ok (.iconst 0, 1) := by decide +kernel
theorem dX9_setBody_181 : decode cX9_setBody 181 = .ok (.putfield 84, 3) := by decide +kernel
theorem dX9_setBody_184 : decode cX9_setBody 184 = .ok (.aload_n 0, 1) := by decide +kernel
theorem dX9_setBody_185 : decode cX9_setBody 185 = .ok (.getfield 84, 3) := by decide +kernel
theorem dX9_setBody_188 : decode cX9_setBody 188 = .ok (.ifCond .le 5, 3) := by decide +kernel
theorem dX9_setBody_191 : decode cX9_setBody 191 = .ok (.iconst 0, 1) := by decide +kernel
theorem dX9_setBody_192 : decode cX9_setBody 192 = .ok (.ireturn, 1) := by decide +kernel
theorem dX9_setBody_193 : decode cX9_setBody 193 = .ok (.aload_n 0, 1) := by decide +kernel
theorem dX9_setBody_194 : decode cX9_setBody 194 = .ok (.getfield 9, 3) := by decide +kernel
theorem dX9_setBody_197 : decode cX9_setBody 197 = .ok (.iload_n 1, 1) := by decide +kernel
theorem dX9_setBody_198 : decode cX9_setBody 198 = .ok (.aload_n 0, 1) := by decide +kernel
theorem dX9_setBody_199 : decode cX9_setBody 199 = .ok (.getfield 121, 3) := by decide +kernel
theorem dX9_setBody_202 : decode cX9_setBody 202 = .ok (.iastore, 1) := by decide +kernel
theorem dX9_setBody_203 : decode cX9_setBody 203 = .ok (.iconst 0, 1) := by decide +kernel
theorem dX9_setBody_204 : decode cX9_setBody 204 = .ok (.istore_n 3, 1) := by decide +kernel
theorem dX9_setBody_205 : decode cX9_setBody 205 = .ok (.iload_n 3, 1) := by decide +kernel
theorem dX9_setBody_206 : decode cX9_setBody 206 = .ok (.aload_n 0, 1) := by decide +kernel
theorem dX9_setBody_207 : decode cX9_setBody 207 = .ok (.getfield 121, 3) := by decide +kernel
theorem dX9_setBody_210 : decode cX9_setBody 210 = .ok (.if_icmp .ge 70, 3) := by decide +kernel
theorem dX9_setBody_213 : decode cX9_setBody 213 = .ok (.aload_n 0, 1) := by decide +kernel
theorem dX9_setBody_214 : decode cX9_setBody 214 = .ok (.getfield 9, 3) := by decide +kernel
theorem dX9_setBody_217 : decode cX9_setBody 217 = .ok (.bipush 8, 2) := by decide +kernel
theorem dX9_setBody_219 : decode cX9_setBody 219 = .ok (.bipush 14, 2) := by decide +kernel
theorem dX9_setBody_221 : decode cX9_setBody 221 = .ok (.iload_n 1, 1) := by decide +kernel
theorem dX9_setBody_222 : decode cX9_setBody 222 = .ok (.imul, 1) := by decide +kernel
theorem dX9_setBody_223 : decode cX9_setBody 223 = .ok (.iadd, 1) := by decide +kernel
theorem dX9_setBody_224 : decode cX9_setBody 224 = .ok (.iload_n 3, 1) := by decide +kernel
theorem dX9_setBody_225 : decode cX9_setBody 225 = .ok (.iadd, 1) := by decide +kernel
theorem dX9_setBody_226 : decode cX9_setBody 226 = .ok (.aload_n 0, 1) := by decide +kernel
theorem dX9_setBody_227 : decode cX9_setBody 227 = .ok (.getfield 23, 3) := by decide +kernel
theorem dX9_setBody_230 : decode cX9_setBody 230 = .ok (.iload_n 3, 1) := by decide +kernel
theorem dX9_setBody_231 : decode cX9_setBody 231 = .ok (.iaload, 1) := by decide +kernel
theorem dX9_setBody_232 : decode cX9_setBody 232 = .ok (.iastore, 1) := by decide +kernel
theorem dX9_setBody_233 : decode cX9_setBody 233 = .ok (.aload_n 0, 1) := by decide +kernel
theorem dX9_setBody_234 : decode cX9_setBody 234 = .ok (.getfield 9, 3) := by decide +kernel
theorem dX9_setBody_237 : decode cX9_setBody 237 = .ok (.bipush 120, 2) := by decide +kernel
theorem dX9_setBody_239 : decode cX9_setBody 239 = .ok (.bipush 14, 2) := by decide +kernel
theorem dX9_setBody_241 : decode cX9_setBody 241 = .ok (.iload_n 1, 1) := by decide +kernel
theorem dX9_setBody_242 : decode cX9_setBody 242 = .ok (.imul, 1) := by decide +kernel
theorem dX9_setBody_243 : decode cX9_setBody 243 = .ok (.iadd, 1) := by decide +kernel
theorem dX9_setBody_244 : decode cX9_setBody 244 = .ok (.iload_n 3, 1) := by decide +kernel
theorem dX9_setBody_245 : decode cX9_setBody 245 = .ok (.iadd, 1) := by decide +kernel
theorem dX9_setBody_246 : decode cX9_setBody 246 = .ok (.aload_n 0, 1) := by decide +kernel
theorem dX9_setBody_247 : decode cX9_setBody 247 = .ok (.getfield 26, 3) := by decide +kernel
theorem dX9_setBody_250 : decode cX9_setBody 250 = .ok (.iload_n 3, 1) := by decide +kernel
theorem dX9_setBody_251 : decode cX9_setBody 251 = .ok (.iaload, 1) := by decide +kernel
theorem dX9_setBody_252 : decode cX9_setBody 252 = .ok (.iastore, 1) := by decide +kernel
theorem dX9_setBody_253 : decode cX9_setBody 253 = .ok (.aload_n 0, 1) := by decide +kernel
theorem dX9_setBody_254 : decode cX9_setBody 254 = .ok (.getfield 9, 3) := by decide +kernel
theorem dX9_setBody_257 : decode cX9_setBody 257 = .ok (.sipush 232, 3) := by decide +kernel
theorem dX9_setBody_260 : decode cX9_setBody 260 = .ok (.bipush 14, 2) := by decide +kernel
theorem dX9_setBody_262 : decode cX9_setBody 262 = .ok (.iload_n 1, 1) := by decide +kernel
theorem dX9_setBody_263 : decode cX9_setBody 263 = .ok (.imul, 1) := by decide +kernel
theorem dX9_setBody_264 : decode cX9_setBody 264 = .ok (.iadd, 1) := by decide +kernel
theorem dX9_setBody_265 : decode cX9_setBody 265 = .ok (.iload_n 3, 1) := by decide +kernel
theorem dX9_setBody_266 : decode cX9_setBody 266 = .ok (.iadd, 1) := by decide +kernel
theorem dX9_setBody_267 : decode cX9_setBody 267 = .ok (.aload_n 0, 1) := by decide +kernel
theorem dX9_setBody_268 : decode cX9_setBody 268 = .ok (.getfield 29, 3) := by decide +kernel
theorem dX9_setBody_271 : decode cX9_setBody 271 = .ok (.iload_n 3, 1) := by decide +kernel
theorem dX9_setBody_272 : decode cX9_setBody 272 = .ok (.iaload, 1) := by decide +kernel
theorem dX9_setBody_273 : decode cX9_setBody 273 = .ok (.iastore, 1) := by decide +kernel
theorem dX9_setBody_274 : decode cX9_setBody 274 = .ok (.iinc 3 1, 3) := by decide +kernel
theorem dX9_setBody_277 : decode cX9_setBody 277 = .ok (.goto (-72), 3) := by decide +kernel
theorem dX9_setBody_280 : decode cX9_setBody 280 = .ok (.aload_n 0, 1) := by decide +kernel
theorem dX9_setBody_281 : decode cX9_setBody 281 = .ok (.invokevirtual 131, 3) := by decide +kernel
theorem dX9_setBody_284 : decode cX9_setBody 284 = .ok (.aload_n 0, 1) := by decide +kernel
theorem dX9_setBody_285 : decode cX9_setBody 285 = .ok (.getfield 121, 3) := by decide +kernel
theorem dX9_setBody_288 : decode cX9_setBody 288 = .ok (.ireturn, 1) := by decide +kernel
theorem dX9_faultPosition_0 : decode cX9_faultPosition 0 = .ok (.aload_n 0, 1) := by decide +kernel
theorem dX9_faultPosition_1 : decode cX9_faultPosition 1 = .ok (.iconst 0, 1) := by decide +kernel
theorem dX9_faultPosition_2 : decode cX9_faultPosition 2 = .ok (.putfield 84, 3) := by decide +kernel
theorem dX9_faultPosition_5 : decode cX9_faultPosition 5 = .ok (.aload_n 0, 1) := by decide +kernel
theorem dX9_faultPosition_6 : decode cX9_faultPosition 6 = .ok (.getfield 19, 3) := by decide +kernel
theorem dX9_faultPosition_9 : decode cX9_faultPosition 9 = .ok (.ireturn, 1) := by decide +kernel
theorem dX9_length_0 : decode cX9_length 0 = .ok (.aload_n 0, 1) := by decide +kernel
theorem dX9_length_1 : decode cX9_length 1 = .ok (.iload_n 1, 1) := by decide +kernel
theorem dX9_length_2 : decode cX9_length 2 = .ok (.invokestatic 93, 3) := by decide +kernel
theorem dX9_length_5 : decode cX9_length 5 = .ok (.ifCond .eq 7, 3) := by decide +kernel
theorem dX9_length_8 : decode cX9_length 8 = .ok (.iconst 0, 1) := by decide +kernel
theorem dX9_length_9 : decode cX9_length 9 = .ok (.goto 4, 3) := by decide +kernel
theorem dX9_length_12 : decode cX9_length 12 = .ok (.iconst 1, 1) := by decide +kernel
theorem dX9_length_13 : decode cX9_length 13 = .ok (.putfield 84, 3) := by decide +kernel
theorem dX9_length_16 : decode cX9_length 16 = .ok (.aload_n 0, 1) := by decide +kernel
theorem dX9_length_17 : decode cX9_length 17 = .ok (.getfield 84, 3) := by decide +kernel
theorem dX9_length_20 : decode cX9_length 20 = .ok (.ifCond .le 7, 3) := by decide +kernel
theorem dX9_length_23 : decode cX9_length 23 = .ok (.iconst 0, 1) := by decide +kernel
theorem dX9_length_24 : decode cX9_length 24 = .ok (.goto 9, 3) := by decide +kernel
theorem dX9_length_27 : decode cX9_length 27 = .ok (.aload_n 0, 1) := by decide +kernel
theorem dX9_length_28 : decode cX9_length 28 = .ok (.getfield 9, 3) := by decide +kernel
theorem dX9_length_31 : decode cX9_length 31 = .ok (.iload_n 1, 1) := by decide +kernel
theorem dX9_length_32 : decode cX9_length 32 = .ok (.iaload, 1) := by decide +kernel
theorem dX9_length_33 : decode cX9_length 33 = .ok (.ireturn, 1) := by decide +kernel
theorem dX9_instruction_0 : decode cX9_instruction 0 = .ok (.aload_n 0, 1) := by decide +kernel
theorem dX9_instruction_1 : decode cX9_instruction 1 = .ok (.aload_n 0, 1) := by decide +kernel
theorem dX9_instruction_2 : decode cX9_instruction 2 = .ok (.iload_n 1, 1) := by decide +kernel
theorem dX9_instruction_3 : decode cX9_instruction 3 = .ok (.iload_n 2, 1) := by decide +kernel
theorem dX9_instruction_4 : decode cX9_instruction 4 = .ok (.invokevirtual 134, 3) := by decide +kernel
theorem dX9_instruction_7 : decode cX9_instruction 7 = .ok (.ifCond .eq 7, 3) := by decide +kernel
theorem dX9_instruction_10 : decode cX9_instruction 10 = .ok (.iconst 0, 1) := by decide +kernel
theorem dX9_instruction_11 : decode cX9_instruction 11 = .ok (.goto 4, 3) := by decide +kernel
theorem dX9_instruction_14 : decode cX9_instruction 14 = .ok (.iconst 1, 1) := by decide +kernel
theorem dX9_instruction_15 : decode cX9_instruction 15 = .ok (.putfield 84, 3) := by decide +kernel
theorem dX9_instruction_18 : decode cX9_instruction 18 = .ok (.aload_n 0, 1) := by decide +kernel
theorem dX9_instruction_19 : decode cX9_instruction 19 = .ok (.getfield 84, 3) := by decide +kernel
theorem dX9_instruction_22 : decode cX9_instruction 22 = .ok (.ifCond .le 7, 3) := by decide +kernel
theorem dX9_instruction_25 : decode cX9_instruction 25 = .ok (.iconst 0, 1) := by decide +kernel
theorem dX9_instruction_26 : decode cX9_instruction 26 = .ok (.goto 10, 3) := by decide +kernel
theorem dX9_instruction_29 : decode cX9_instruction 29 = .ok (.aload_n 0, 1) := by decide +kernel
theorem dX9_instruction_30 : decode cX9_instruction 30 = .ok (.iload_n 1, 1) := by decide +kernel
theorem dX9_instruction_31 : decode cX9_instruction 31 = .ok (.iload_n 2, 1) := by decide +kernel
theorem dX9_instruction_32 : decode cX9_instruction 32 = .ok (.invokevirtual 138, 3) := by decide +kernel
theorem dX9_instruction_35 : decode cX9_instruction 35 = .ok (.i2c, 1) := by decide +kernel
theorem dX9_instruction_36 : decode cX9_instruction 36 = .ok (.ireturn, 1) := by decide +kernel
theorem dX9_operand_0 : decode cX9_operand 0 = .ok (.aload_n 0, 1) := by decide +kernel
theorem dX9_operand_1 : decode cX9_operand 1 = .ok (.aload_n 0, 1) := by decide +kernel
theorem dX9_operand_2 : decode cX9_operand 2 = .ok (.iload_n 1, 1) := by decide +kernel
theorem dX9_operand_3 : decode cX9_operand 3 = .ok (.iload_n 2, 1) := by decide +kernel
theorem dX9_operand_4 : decode cX9_operand 4 = .ok (.invokevirtual 134, 3) := by decide +kernel
theorem dX9_operand_7 : decode cX9_operand 7 = .ok (.ifCond .ne 7, 3) := by decide +kernel
theorem dX9_operand_10 : decode cX9_operand 10 = .ok (.iconst 1, 1) := by decide +kernel
theorem dX9_operand_11 : decode cX9_operand 11 = .ok (.goto 19, 3) := by decide +kernel
theorem dX9_operand_14 : decode cX9_operand 14 = .ok (.aload_n 0, 1) := by decide +kernel
theorem dX9_operand_15 : decode cX9_operand 15 = .ok (.iload_n 1, 1) := by decide +kernel
theorem dX9_operand_16 : decode cX9_operand 16 = .ok (.iload_n 2, 1) := by decide +kernel
theorem dX9_operand_17 : decode cX9_operand 17 = .ok (.invokevirtual 138, 3) := by decide +kernel
theorem dX9_operand_20 : decode cX9_operand 20 = .ok (.bipush 114, 2) := by decide +kernel
theorem dX9_operand_22 : decode cX9_operand 22 = .ok (.if_icmp .ne 7, 3) := by decide +kernel
theorem dX9_operand_25 : decode cX9_operand 25 = .ok (.iconst 2, 1) := by decide +kernel
theorem dX9_operand_26 : decode cX9_operand 26 = .ok (.goto 4, 3) := by decide +kernel
theorem dX9_operand_29 : decode cX9_operand 29 = .ok (.iconst 0, 1) := by decide +kernel
theorem dX9_operand_30 : decode cX9_operand 30 = .ok (.putfield 84, 3) := by decide +kernel
theorem dX9_operand_33 : decode cX9_operand 33 = .ok (.aload_n 0, 1) := by decide +kernel
theorem dX9_operand_34 : decode cX9_operand 34 = .ok (.getfield 84, 3) := by decide +kernel
theorem dX9_operand_37 : decode cX9_operand 37 = .ok (.ifCond .le 5, 3) := by decide +kernel
theorem dX9_operand_40 : decode cX9_operand 40 = .ok (.iconst 0, 1) := by decide +kernel
theorem dX9_operand_41 : decode cX9_operand 41 = .ok (.ireturn, 1) := by decide +kernel
theorem dX9_operand_42 : decode cX9_operand 42 = .ok (.aload_n 0, 1) := by decide +kernel
theorem dX9_operand_43 : decode cX9_operand 43 = .ok (.iload_n 1, 1) := by decide +kernel
theorem dX9_operand_44 : decode cX9_operand 44 = .ok (.iload_n 2, 1) := by decide +kernel
theorem dX9_operand_45 : decode cX9_operand 45 = .ok (.invokevirtual 138, 3) := by decide +kernel
theorem dX9_operand_48 : decode cX9_operand 48 = .ok (.bipush 109, 2) := by decide +kernel
theorem dX9_operand_50 : decode cX9_operand 50 = .ok (.if_icmp .ne 22, 3) := by decide +kernel
theorem dX9_operand_53 : decode cX9_operand 53 = .ok (.bipush 10, 2) := by decide +kernel
theorem dX9_operand_55 : decode cX9_operand 55 = .ok (.aload_n 0, 1) := by decide +kernel
theorem dX9_operand_56 : decode cX9_operand 56 = .ok (.iload_n 1, 1) := by decide +kernel
theorem dX9_operand_57 : decode cX9_operand 57 = .ok (.iload_n 2, 1) := by decide +kernel
theorem dX9_operand_58 : decode cX9_operand 58 = .ok (.invokevirtual 141, 3) := by decide +kernel
theorem dX9_operand_61 : decode cX9_operand 61 = .ok (.imul, 1) := by decide +kernel
theorem dX9_operand_62 : decode cX9_operand 62 = .ok (.aload_n 0, 1) := by decide +kernel
theorem dX9_operand_63 : decode cX9_operand 63 = .ok (.iload_n 1, 1) := by decide +kernel
theorem dX9_operand_64 : decode cX9_operand 64 = .ok (.iload_n 2, 1) := by decide +kernel
theorem dX9_operand_65 : decode cX9_operand 65 = .ok (.invokevirtual 144, 3) := by decide +kernel
theorem dX9_operand_68 : decode cX9_operand 68 = .ok (.iadd, 1) := by decide +kernel
theorem dX9_operand_69 : decode cX9_operand 69 = .ok (.goto 9, 3) := by decide +kernel
theorem dX9_operand_72 : decode cX9_operand 72 = .ok (.aload_n 0, 1) := by decide +kernel
theorem dX9_operand_73 : decode cX9_operand 73 = .ok (.iload_n 1, 1) := by decide +kernel
theorem dX9_operand_74 : decode cX9_operand 74 = .ok (.iload_n 2, 1) := by decide +kernel
theorem dX9_operand_75 : decode cX9_operand 75 = .ok (.invokevirtual 141, 3) := by decide +kernel
theorem dX9_operand_78 : decode cX9_operand 78 = .ok (.ireturn, 1) := by decide +kernel
theorem dX9_removeInstruction_0 : decode cX9_removeInstruction 0 = .ok (.aload_n 0, 1) := by decide +kernel
theorem dX9_removeInstruction_1 : decode cX9_removeInstruction 1 = .ok (.aload_n 0, 1) := by decide +kernel
theorem dX9_removeInstruction_2 : decode cX9_removeInstruction 2 = .ok (.iload_n 1, 1) := by decide +kernel
theorem dX9_removeInstruction_3 : decode cX9_removeInstruction 3 = .ok (.iload_n 2, 1) := by decide +kernel
theorem dX9_removeInstruction_4 : decode cX9_removeInstruction 4 = .ok (.invokevirtual 134, 3) := by decide +kernel
theorem dX9_removeInstruction_7 : decode cX9_removeInstruction 7 = .ok (.ifCond .eq 7, 3) := by decide +kernel
theorem dX9_removeInstruction_10 : decode cX9_removeInstruction 10 = .ok (.iconst 0, 1) := by decide +kernel
theorem dX9_removeInstruction_11 : decode cX9_removeInstruction 11 = .ok (.goto 4, 3) := by decide +kernel
theorem dX9_removeInstruction_14 : decode cX9_removeInstruction 14 = .ok (.iconst 1, 1) := by decide +kernel
theorem dX9_removeInstruction_15 : decode cX9_removeInstruction 15 = .ok (.putfield 84, 3) := by decide +kernel
theorem dX9_removeInstruction_18 : decode cX9_removeInstruction 18 = .ok (.aload_n 0, 1) := by decide +kernel
theorem dX9_removeInstruction_19 : decode cX9_removeInstruction 19 = .ok (.getfield 84, 3) := by decide +kernel
theorem dX9_removeInstruction_22 : decode cX9_removeInstruction 22 = .ok (.ifCond .le 5, 3) := by decide +kernel
theorem dX9_removeInstruction_25 : decode cX9_removeInstruction 25 = .ok (.iconst 0, 1) := by decide +kernel
theorem dX9_removeInstruction_26 : decode cX9_removeInstruction 26 = .ok (.ireturn, 1) := by decide +kernel
theorem dX9_removeInstruction_27 : decode cX9_removeInstruction 27 = .ok (.bipush 8, 2) := by decide +kernel
theorem dX9_removeInstruction_29 : decode cX9_removeInstruction 29 = .ok (.istore_n 3, 1) := by decide +kernel
theorem dX9_removeInstruction_30 : decode cX9_removeInstruction 30 = .ok (.iload_n 3, 1) := by decide +kernel
theorem dX9_removeInstruction_31 : decode cX9_removeInstruction 31 = .ok (.sipush 344, 3) := by decide +kernel
theorem dX9_removeInstruction_34 : decode cX9_removeInstruction 34 = .ok (.if_icmp .ge 61, 3) := by decide +kernel
theorem dX9_removeInstruction_37 : decode cX9_removeInstruction 37 = .ok (.iload_n 2, 1) := by decide +kernel
theorem dX9_removeInstruction_38 : decode cX9_removeInstruction 38 = .ok (.istore 4, 2) := by decide +kernel
theorem dX9_removeInstruction_40 : decode cX9_removeInstruction 40 = .ok (.iload 4, 2) := by decide +kernel
theorem dX9_removeInstruction_42 : decode cX9_removeInstruction 42 = .ok (.aload_n 0, 1) := by decide +kernel
theorem dX9_removeInstruction_43 : decode cX9_removeInstruction 43 = .ok (.getfield 9, 3) := by decide +kernel
theorem dX9_removeInstruction_46 : decode cX9_removeInstruction 46 = .ok (.iload_n 1, 1) := by decide +kernel
theorem dX9_removeInstruction_47 : decode cX9_removeInstruction 47 = .ok (.iaload, 1) := by decide +kernel
theorem dX9_removeInstruction_48 : decode cX9_removeInstruction 48 = .ok (.iconst 1, 1) := by decide +kernel
theorem dX9_removeInstruction_49 : decode cX9_removeInstruction 49 = .ok (.isub, 1) := by decide +kernel
theorem dX9_removeInstruction_50 : decode cX9_removeInstruction 50 = .ok (.if_icmp .ge 39, 3) := by decide +kernel
theorem dX9_removeInstruction_53 : decode cX9_removeInstruction 53 = .ok (.aload_n 0, 1) := by decide +kernel
theorem dX9_removeInstruction_54 : decode cX9_removeInstruction 54 = .ok (.getfield 9, 3) := by decide +kernel
theorem dX9_removeInstruction_57 : decode cX9_removeInstruction 57 = .ok (.iload_n 3, 1) := by decide +kernel
theorem dX9_removeInstruction_58 : decode cX9_removeInstruction 58 = .ok (.bipush 14, 2) := by decide +kernel
theorem dX9_removeInstruction_60 : decode cX9_removeInstruction 60 = .ok (.iload_n 1, 1) := by decide +kernel
theorem dX9_removeInstruction_61 : decode cX9_removeInstruction 61 = .ok (.imul, 1) := by decide +kernel
theorem dX9_removeInstruction_62 : decode cX9_removeInstruction 62 = .ok (.iadd, 1) := by decide +kernel
theorem dX9_removeInstruction_63 : decode cX9_removeInstruction 63 = .ok (.iload 4, 2) := by decide +kernel
theorem dX9_removeInstruction_65 : decode cX9_removeInstruction 65 = .ok (.iadd, 1) := by decide +kernel
theorem dX9_removeInstruction_66 : decode cX9_removeInstruction 66 = .ok (.aload_n 0, 1) := by decide +kernel
theorem dX9_removeInstruction_67 : decode cX9_removeInstruction 67 = .ok (.getfield 9, 3) := by decide +kernel
theorem dX9_removeInstruction_70 : decode cX9_removeInstruction 70 = .ok (.iload_n 3, 1) := by decide +kernel
theorem dX9_removeInstruction_71 : decode cX9_removeInstruction 71 = .ok (.bipush 14, 2) := by decide +kernel
theorem dX9_removeInstruction_73 : decode cX9_removeInstruction 73 = .ok (.iload_n 1, 1) := by decide +kernel
theorem dX9_removeInstruction_74 : decode cX9_removeInstruction 74 = .ok (.imul, 1) := by decide +kernel
theorem dX9_removeInstruction_75 : decode cX9_removeInstruction 75 = .ok (.iadd, 1) := by decide +kernel
theorem dX9_removeInstruction_76 : decode cX9_removeInstruction 76 = .ok (.iload 4, 2) := by decide +kernel
theorem dX9_removeInstruction_78 : decode cX9_removeInstruction 78 = .ok (.iadd, 1) := by decide +kernel
theorem dX9_removeInstruction_79 : decode cX9_removeInstruction 79 = .ok (.iconst 1, 1) := by decide +kernel
theorem dX9_removeInstruction_80 : decode cX9_removeInstruction 80 = .ok (.iadd, 1) := by decide +kernel
theorem dX9_removeInstruction_81 : decode cX9_removeInstruction 81 = .ok (.iaload, 1) := by decide +kernel
theorem dX9_removeInstruction_82 : decode cX9_removeInstruction 82 = .ok (.iastore, 1) := by decide +kernel
theorem dX9_removeInstruction_83 : decode cX9_removeInstruction 83 = .ok (.iinc 4 1, 3) := by decide +kernel
theorem dX9_removeInstruction_86 : decode cX9_removeInstruction 86 = .ok (.goto (-46), 3) := by decide +kernel
theorem dX9_removeInstruction_89 : decode cX9_removeInstruction 89 = .ok (.iinc 3 112, 3) := by decide +kernel
theorem dX9_removeInstruction_92 : decode cX9_removeInstruction 92 = .ok (.goto (-62), 3) := by decide +kernel
theorem dX9_removeInstruction_95 : decode cX9_removeInstruction 95 = .ok (.aload_n 0, 1) := by decide +kernel
theorem dX9_removeInstruction_96 : decode cX9_removeInstruction 96 = .ok (.getfield 9, 3) := by decide +kernel
theorem dX9_removeInstruction_99 : decode cX9_removeInstruction 99 = .ok (.iload_n 1, 1) := by decide +kernel
theorem dX9_removeInstruction_100 : decode cX9_removeInstruction 100 = .ok (.dup2, 1) := by decide +kernel
theorem dX9_removeInstruction_101 : decode cX9_removeInstruction 101 = .ok (.iaload, 1) := by decide +kernel
theorem dX9_removeInstruction_102 : decode cX9_removeInstruction 102 = .ok (.iconst 1, 1) := by decide +kernel
theorem dX9_removeInstruction_103 : decode cX9_removeInstruction 103 = .ok (.isub, 1) := by decide +kernel
theorem dX9_removeInstruction_104 : decode cX9_removeInstruction 104 = .ok (.iastore, 1) := by decide +kernel
theorem dX9_removeInstruction_105 : decode cX9_removeInstruction 105 = .ok (.aload_n 0, 1) := by decide +kernel
theorem dX9_removeInstruction_106 : decode cX9_removeInstruction 106 = .ok (.invokevirtual 131, 3) := by decide +kernel
theorem dX9_removeInstruction_109 : decode cX9_removeInstruction 109 = .ok (.aload_n 0, 1) := by decide +kernel
theorem dX9_removeInstruction_110 : decode cX9_removeInstruction 110 = .ok (.getfield 9, 3) := by decide +kernel
theorem dX9_removeInstruction_113 : decode cX9_removeInstruction 113 = .ok (.iload_n 1, 1) := by decide +kernel
theorem dX9_removeInstruction_114 : decode cX9_removeInstruction 114 = .ok (.iaload, 1) := by decide +kernel
theorem dX9_removeInstruction_115 : decode cX9_removeInstruction 115 = .ok (.ireturn, 1) := by decide +kernel
theorem dX9_next_0 : decode cX9_next 0 = .ok (.aload_n 0, 1) := by decide +kernel
theorem dX9_next_1 : decode cX9_next 1 = .ok (.iload_n 1, 1) := by decide +kernel
theorem dX9_next_2 : decode cX9_next 2 = .ok (.iload_n 2, 1) := by decide +kernel
theorem dX9_next_3 : decode cX9_next 3 = .ok (.invokevirtual 138, 3) := by decide +kernel
theorem dX9_next_6 : decode cX9_next 6 = .ok (.bipush 114, 2) := by decide +kernel
theorem dX9_next_8 : decode cX9_next 8 = .ok (.if_icmp .ne 12, 3) := by decide +kernel
theorem dX9_next_11 : decode cX9_next 11 = .ok (.aload_n 0, 1) := by decide +kernel
theorem dX9_next_12 : decode cX9_next 12 = .ok (.getfield 9, 3) := by decide +kernel
theorem dX9_next_15 : decode cX9_next 15 = .ok (.iload_n 1, 1) := by decide +kernel
theorem dX9_next_16 : decode cX9_next 16 = .ok (.iaload, 1) := by decide +kernel
theorem dX9_next_17 : decode cX9_next 17 = .ok (.goto 35, 3) := by decide +kernel
theorem dX9_next_20 : decode cX9_next 20 = .ok (.aload_n 0, 1) := by decide +kernel
theorem dX9_next_21 : decode cX9_next 21 = .ok (.iload_n 1, 1) := by decide +kernel
theorem dX9_next_22 : decode cX9_next 22 = .ok (.iload_n 2, 1) := by decide +kernel
theorem dX9_next_23 : decode cX9_next 23 = .ok (.invokevirtual 138, 3) := by decide +kernel
theorem dX9_next_26 : decode cX9_next 26 = .ok (.bipush 98, 2) := by decide +kernel
theorem dX9_next_28 : decode cX9_next 28 = .ok (.if_icmp .ne 21, 3) := by decide +kernel
theorem dX9_next_31 : decode cX9_next 31 = .ok (.iload_n 3, 1) := by decide +kernel
theorem dX9_next_32 : decode cX9_next 32 = .ok (.iconst 1, 1) := by decide +kernel
theorem dX9_next_33 : decode cX9_next 33 = .ok (.if_icmp .ne 16, 3) := by decide +kernel
theorem dX9_next_36 : decode cX9_next 36 = .ok (.iload_n 2, 1) := by decide +kernel
theorem dX9_next_37 : decode cX9_next 37 = .ok (.iconst 1, 1) := by decide +kernel
theorem dX9_next_38 : decode cX9_next 38 = .ok (.iadd, 1) := by decide +kernel
theorem dX9_next_39 : decode cX9_next 39 = .ok (.aload_n 0, 1) := by decide +kernel
theorem dX9_next_40 : decode cX9_next 40 = .ok (.iload_n 1, 1) := by decide +kernel
theorem dX9_next_41 : decode cX9_next 41 = .ok (.iload_n 2, 1) := by decide +kernel
theorem dX9_next_42 : decode cX9_next 42 = .ok (.invokevirtual 141, 3) := by decide +kernel
theorem dX9_next_45 : decode cX9_next 45 = .ok (.iadd, 1) := by decide +kernel
theorem dX9_next_46 : decode cX9_next 46 = .ok (.goto 6, 3) := by decide +kernel
theorem dX9_next_49 : decode cX9_next 49 = .ok (.iload_n 2, 1) := by decide +kernel
theorem dX9_next_50 : decode cX9_next 50 = .ok (.iconst 1, 1) := by decide +kernel
theorem dX9_next_51 : decode cX9_next 51 = .ok (.iadd, 1) := by decide +kernel
theorem dX9_next_52 : decode cX9_next 52 = .ok (.istore 4, 2) := by decide +kernel
theorem dX9_next_54 : decode cX9_next 54 = .ok (.iload 4, 2) := by decide +kernel
theorem dX9_next_56 : decode cX9_next 56 = .ok (.aload_n 0, 1) := by decide +kernel
theorem dX9_next_57 : decode cX9_next 57 = .ok (.getfield 9, 3) := by decide +kernel
theorem dX9_next_60 : decode cX9_next 60 = .ok (.iload_n 1, 1) := by decide +kernel
theorem dX9_next_61 : decode cX9_next 61 = .ok (.iaload, 1) := by decide +kernel
theorem dX9_next_62 : decode cX9_next 62 = .ok (.invokestatic 147, 3) := by decide +kernel
theorem dX9_next_65 : decode cX9_next 65 = .ok (.ireturn, 1) := by decide +kernel
theorem dX9_reached_0 : decode cX9_reached 0 = .ok (.aload_n 0, 1) := by decide +kernel
theorem dX9_reached_1 : decode cX9_reached 1 = .ok (.getfield 32, 3) := by decide +kernel
theorem dX9_reached_4 : decode cX9_reached 4 = .ok (.bipush 15, 2) := by decide +kernel
theorem dX9_reached_6 : decode cX9_reached 6 = .ok (.iload_n 1, 1) := by decide +kernel
theorem dX9_reached_7 : decode cX9_reached 7 = .ok (.imul, 1) := by decide +kernel
theorem dX9_reached_8 : decode cX9_reached 8 = .ok (.iload_n 2, 1) := by decide +kernel
theorem dX9_reached_9 : decode cX9_reached 9 = .ok (.iadd, 1) := by decide +kernel
theorem dX9_reached_10 : decode cX9_reached 10 = .ok (.baload, 1) := by decide +kernel
theorem dX9_reached_11 : decode cX9_reached 11 = .ok (.ireturn, 1) := by decide +kernel
theorem dX9_findReached_0 : decode cX9_findReached 0 = .ok (.iconst 0, 1) := by decide +kernel
theorem dX9_findReached_1 : decode cX9_findReached 1 = .ok (.istore_n 2, 1) := by decide +kernel
theorem dX9_findReached_2 : decode cX9_findReached 2 = .ok (.iload_n 2, 1) := by decide +kernel
theorem dX9_findReached_3 : decode cX9_findReached 3 = .ok (.bipush 15, 2) := by decide +kernel
theorem dX9_findReached_5 : decode cX9_findReached 5 = .ok (.if_icmp .ge 29, 3) := by decide +kernel
theorem dX9_findReached_8 : decode cX9_findReached 8 = .ok (.aload_n 0, 1) := by decide +kernel
theorem dX9_findReached_9 : decode cX9_findReached 9 = .ok (.getfield 32, 3) := by decide +kernel
theorem dX9_findReached_12 : decode cX9_findReached 12 = .ok (.bipush 15, 2) := by decide +kernel
theorem dX9_findReached_14 : decode cX9_findReached 14 = .ok (.iload_n 1, 1) := by decide +kernel
theorem dX9_findReached_15 : decode cX9_findReached 15 = .ok (.imul, 1) := by decide +kernel
theorem dX9_findReached_16 : decode cX9_findReached 16 = .ok (.iload_n 2, 1) := by decide +kernel
theorem dX9_findReached_17 : decode cX9_findReached 17 = .ok (.iadd, 1) := by decide +kernel
theorem dX9_findReached_18 : decode cX9_findReached 18 = .ok (.iload_n 2, 1) := by decide +kernel
theorem dX9_findReached_19 : decode cX9_findReached 19 = .ok (.ifCond .ne 7, 3) := by decide +kernel
theorem dX9_findReached_22 : decode cX9_findReached 22 = .ok (.iconst 1, 1) := by decide +kernel
theorem dX9_findReached_23 : decode cX9_findReached 23 = .ok (.goto 4, 3) := by decide +kernel
theorem dX9_findReached_26 : decode cX9_findReached 26 = .ok (.iconst 0, 1) := by decide +kernel
theorem dX9_findReached_27 : decode cX9_findReached 27 = .ok (.bastore, 1) := by decide +kernel
theorem dX9_findReached_28 : decode cX9_findReached 28 = .ok (.iinc 2 1, 3) := by decide +kernel
theorem dX9_findReached_31 : decode cX9_findReached 31 = .ok (.goto (-29), 3) := by decide +kernel
theorem dX9_findReached_34 : decode cX9_findReached 34 = .ok (.iconst 0, 1) := by decide +kernel
theorem dX9_findReached_35 : decode cX9_findReached 35 = .ok (.istore_n 2, 1) := by decide +kernel
theorem dX9_findReached_36 : decode cX9_findReached 36 = .ok (.iload_n 2, 1) := by decide +kernel
theorem dX9_findReached_37 : decode cX9_findReached 37 = .ok (.aload_n 0, 1) := by decide +kernel
theorem dX9_findReached_38 : decode cX9_findReached 38 = .ok (.getfield 9, 3) := by decide +kernel
theorem dX9_findReached_41 : decode cX9_findReached 41 = .ok (.iload_n 1, 1) := by decide +kernel
theorem dX9_findReached_42 : decode cX9_findReached 42 = .ok (.iaload, 1) := by decide +kernel
theorem dX9_findReached_43 : decode cX9_findReached 43 = .ok (.if_icmp .ge 49, 3) := by decide +kernel
theorem dX9_findReached_46 : decode cX9_findReached 46 = .ok (.iconst 0, 1) := by decide +kernel
theorem dX9_findReached_47 : decode cX9_findReached 47 = .ok (.istore_n 3, 1) := by decide +kernel
theorem dX9_findReached_48 : decode cX9_findReached 48 = .ok (.iload_n 3, 1) := by decide +kernel
theorem dX9_findReached_49 : decode cX9_findReached 49 = .ok (.iconst 2, 1) := by decide +kernel
theorem dX9_findReached_50 : decode cX9_findReached 50 = .ok (.if_icmp .ge 36, 3) := by decide +kernel
theorem dX9_findReached_53 : decode cX9_findReached 53 = .ok (.aload_n 0, 1) := by decide +kernel
theorem dX9_findReached_54 : decode cX9_findReached 54 = .ok (.iload_n 1, 1) := by decide +kernel
theorem dX9_findReached_55 : decode cX9_findReached 55 = .ok (.iload_n 2, 1) := by decide +kernel
theorem dX9_findReached_56 : decode cX9_findReached 56 = .ok (.invokevirtual 152, 3) := by decide +kernel
theorem dX9_findReached_59 : decode cX9_findReached 59 = .ok (.ifCond .eq 27, 3) := by decide +kernel
theorem dX9_findReached_62 : decode cX9_findReached 62 = .ok (.aload_n 0, 1) := by decide +kernel
theorem dX9_findReached_63 : decode cX9_findReached 63 = .ok (.getfield 32, 3) := by decide +kernel
theorem dX9_findReached_66 : decode cX9_findReached 66 = .ok (.bipush 15, 2) := by decide +kernel
theorem dX9_findReached_68 : decode cX9_findReached 68 = .ok (.iload_n 1, 1) := by decide +kernel
theorem dX9_findReached_69 : decode cX9_findReached 69 = .ok (.imul, 1) := by decide +kernel
theorem dX9_findReached_70 : decode cX9_findReached 70 = .ok (.aload_n 0, 1) := by decide +kernel
theorem dX9_findReached_71 : decode cX9_findReached 71 = .ok (.iload_n 1, 1) := by decide +kernel
theorem dX9_findReached_72 : decode cX9_findReached 72 = .ok (.iload_n 2, 1) := by decide +kernel
theorem dX9_findReached_73 : decode cX9_findReached 73 = .ok (.iload_n 3, 1) := by decide +kernel
theorem dX9_findReached_74 : decode cX9_findReached 74 = .ok (.invokevirtual 155, 3) := by decide +kernel
theorem dX9_findReached_77 : decode cX9_findReached 77 = .ok (.iadd, 1) := by decide +kernel
theorem dX9_findReached_78 : decode cX9_findReached 78 = .ok (.iconst 1, 1) := by decide +kernel
theorem dX9_findReached_79 : decode cX9_findReached 79 = .ok (.bastore, 1) := by decide +kernel
theorem dX9_findReached_80 : decode cX9_findReached 80 = .ok (.iinc 3 1, 3) := by decide +kernel
theorem dX9_findReached_83 : decode cX9_findReached 83 = .ok (.goto (-35), 3) := by decide +kernel
theorem dX9_findReached_86 : decode cX9_findReached 86 = .ok (.iinc 2 1, 3) := by decide +kernel
theorem dX9_findReached_89 : decode cX9_findReached 89 = .ok (.goto (-53), 3) := by decide +kernel
theorem dX9_findReached_92 : decode cX9_findReached 92 = .ok (.return_, 1) := by decide +kernel
theorem dX9_comes_0 : decode cX9_comes 0 = .ok (.aload_n 0, 1) := by decide +kernel
theorem dX9_comes_1 : decode cX9_comes 1 = .ok (.getfield 42, 3) := by decide +kernel
theorem dX9_comes_4 : decode cX9_comes 4 = .ok (.iload_n 1, 1) := by decide +kernel
theorem dX9_comes_5 : decode cX9_comes 5 = .ok (.iaload, 1) := by decide +kernel
theorem dX9_comes_6 : decode cX9_comes 6 = .ok (.ifCond .lt 15, 3) := by decide +kernel
theorem dX9_comes_9 : decode cX9_comes 9 = .ok (.aload_n 0, 1) := by decide +kernel
theorem dX9_comes_10 : decode cX9_comes 10 = .ok (.getfield 42, 3) := by decide +kernel
theorem dX9_comes_13 : decode cX9_comes 13 = .ok (.iload_n 1, 1) := by decide +kernel
theorem dX9_comes_14 : decode cX9_comes 14 = .ok (.iaload, 1) := by decide +kernel
theorem dX9_comes_15 : decode cX9_comes 15 = .ok (.iload_n 2, 1) := by decide +kernel
theorem dX9_comes_16 : decode cX9_comes 16 = .ok (.if_icmp .eq 5, 3) := by decide +kernel
theorem dX9_comes_19 : decode cX9_comes 19 = .ok (.iconst 0, 1) := by decide +kernel
theorem dX9_comes_20 : decode cX9_comes 20 = .ok (.ireturn, 1) := by decide +kernel
theorem dX9_comes_21 : decode cX9_comes 21 = .ok (.iconst 0, 1) := by decide +kernel
theorem dX9_comes_22 : decode cX9_comes 22 = .ok (.istore_n 3, 1) := by decide +kernel
theorem dX9_comes_23 : decode cX9_comes 23 = .ok (.iload_n 3, 1) := by decide +kernel
theorem dX9_comes_24 : decode cX9_comes 24 = .ok (.bipush 14, 2) := by decide +kernel
theorem dX9_comes_26 : decode cX9_comes 26 = .ok (.if_icmp .ge 71, 3) := by decide +kernel
theorem dX9_comes_29 : decode cX9_comes 29 = .ok (.aload_n 0, 1) := by decide +kernel
theorem dX9_comes_30 : decode cX9_comes 30 = .ok (.getfield 42, 3) := by decide +kernel
theorem dX9_comes_33 : decode cX9_comes 33 = .ok (.iload_n 1, 1) := by decide +kernel
theorem dX9_comes_34 : decode cX9_comes 34 = .ok (.iaload, 1) := by decide +kernel
theorem dX9_comes_35 : decode cX9_comes 35 = .ok (.ifCond .lt 23, 3) := by decide +kernel
theorem dX9_comes_38 : decode cX9_comes 38 = .ok (.aload_n 0, 1) := by decide +kernel
theorem dX9_comes_39 : decode cX9_comes 39 = .ok (.getfield 45, 3) := by decide +kernel
theorem dX9_comes_42 : decode cX9_comes 42 = .ok (.bipush 14, 2) := by decide +kernel
theorem dX9_comes_44 : decode cX9_comes 44 = .ok (.iload_n 1, 1) := by decide +kernel
theorem dX9_comes_45 : decode cX9_comes 45 = .ok (.imul, 1) := by decide +kernel
theorem dX9_comes_46 : decode cX9_comes 46 = .ok (.iload_n 3, 1) := by decide +kernel
theorem dX9_comes_47 : decode cX9_comes 47 = .ok (.iadd, 1) := by decide +kernel
theorem dX9_comes_48 : decode cX9_comes 48 = .ok (.iaload, 1) := by decide +kernel
theorem dX9_comes_49 : decode cX9_comes 49 = .ok (.aload_n 0, 1) := by decide +kernel
theorem dX9_comes_50 : decode cX9_comes 50 = .ok (.getfield 48, 3) := by decide +kernel
theorem dX9_comes_53 : decode cX9_comes 53 = .ok (.iload_n 3, 1) := by decide +kernel
theorem dX9_comes_54 : decode cX9_comes 54 = .ok (.iaload, 1) := by decide +kernel
theorem dX9_comes_55 : decode cX9_comes 55 = .ok (.if_icmp .ne 7, 3) := by decide +kernel
theorem dX9_comes_58 : decode cX9_comes 58 = .ok (.iconst 1, 1) := by decide +kernel
theorem dX9_comes_59 : decode cX9_comes 59 = .ok (.goto 4, 3) := by decide +kernel
theorem dX9_comes_62 : decode cX9_comes 62 = .ok (.iconst 0, 1) := by decide +kernel
theorem dX9_comes_63 : decode cX9_comes 63 = .ok (.istore 4, 2) := by decide +kernel
theorem dX9_comes_65 : decode cX9_comes 65 = .ok (.aload_n 0, 1) := by decide +kernel
theorem dX9_comes_66 : decode cX9_comes 66 = .ok (.getfield 45, 3) := by decide +kernel
theorem dX9_comes_69 : decode cX9_comes 69 = .ok (.bipush 14, 2) := by decide +kernel
theorem dX9_comes_71 : decode cX9_comes 71 = .ok (.iload_n 1, 1) := by decide +kernel
theorem dX9_comes_72 : decode cX9_comes 72 = .ok (.imul, 1) := by decide +kernel
theorem dX9_comes_73 : decode cX9_comes 73 = .ok (.iload_n 3, 1) := by decide +kernel
theorem dX9_comes_74 : decode cX9_comes 74 = .ok (.iadd, 1) := by decide +kernel
theorem dX9_comes_75 : decode cX9_comes 75 = .ok (.iload 4, 2) := by decide +kernel
theorem dX9_comes_77 : decode cX9_comes 77 = .ok (.ifCond .eq 12, 3) := by decide +kernel
theorem dX9_comes_80 : decode cX9_comes 80 = .ok (.aload_n 0, 1) := by decide +kernel
theorem dX9_comes_81 : decode cX9_comes 81 = .ok (.getfield 48, 3) := by decide +kernel
theorem dX9_comes_84 : decode cX9_comes 84 = .ok (.iload_n 3, 1) := by decide +kernel
theorem dX9_comes_85 : decode cX9_comes 85 = .ok (.iaload, 1) := by decide +kernel
theorem dX9_comes_86 : decode cX9_comes 86 = .ok (.goto 4, 3) := by decide +kernel
theorem dX9_comes_89 : decode cX9_comes 89 = .ok (.iconst (-1), 1) := by decide +kernel
theorem dX9_comes_90 : decode cX9_comes 90 = .ok (.iastore, 1) := by decide +kernel
theorem dX9_comes_91 : decode cX9_comes 91 = .ok (.iinc 3 1, 3) := by decide +kernel
theorem dX9_comes_94 : decode cX9_comes 94 = .ok (.goto (-71), 3) := by decide +kernel
theorem dX9_comes_97 : decode cX9_comes 97 = .ok (.aload_n 0, 1) := by decide +kernel
theorem dX9_comes_98 : decode cX9_comes 98 = .ok (.getfield 42, 3) := by decide +kernel
theorem dX9_comes_101 : decode cX9_comes 101 = .ok (.iload_n 1, 1) := by decide +kernel
theorem dX9_comes_102 : decode cX9_comes 102 = .ok (.iload_n 2, 1) := by decide +kernel
theorem dX9_comes_103 : decode cX9_comes 103 = .ok (.iastore, 1) := by decide +kernel
theorem dX9_comes_104 : decode cX9_comes 104 = .ok (.iconst 1, 1) := by decide +kernel
theorem dX9_comes_105 : decode cX9_comes 105 = .ok (.ireturn, 1) := by decide +kernel
theorem dX9_does_0 : decode cX9_does 0 = .ok (.aload_n 0, 1) := by decide +kernel
theorem dX9_does_1 : decode cX9_does 1 = .ok (.iload_n 1, 1) := by decide +kernel
theorem dX9_does_2 : decode cX9_does 2 = .ok (.iload_n 2, 1) := by decide +kernel
theorem dX9_does_3 : decode cX9_does 3 = .ok (.invokevirtual 141, 3) := by decide +kernel
theorem dX9_does_6 : decode cX9_does 6 = .ok (.istore 4, 2) := by decide +kernel
theorem dX9_does_8 : decode cX9_does 8 = .ok (.aload_n 0, 1) := by decide +kernel
theorem dX9_does_9 : decode cX9_does 9 = .ok (.iload_n 1, 1) := by decide +kernel
theorem dX9_does_10 : decode cX9_does 10 = .ok (.iload_n 2, 1) := by decide +kernel
theorem dX9_does_11 : decode cX9_does 11 = .ok (.invokevirtual 138, 3) := by decide +kernel
theorem dX9_does_14 : decode cX9_does 14 = .ok (.lookupswitch 206 #[(43, 80), (45, 116), (99, 154), (100, 50), (109, 60)], 50) := by decide +kernel
theorem dX9_does_64 : decode cX9_does 64 = .ok (.aload_n 0, 1) := by decide +kernel
theorem dX9_does_65 : decode cX9_does 65 = .ok (.getfield 48, 3) := by decide +kernel
theorem dX9_does_68 : decode cX9_does 68 = .ok (.iload 4, 2) := by decide +kernel
theorem dX9_does_70 : decode cX9_does 70 = .ok (.iconst (-1), 1) := by decide +kernel
theorem dX9_does_71 : decode cX9_does 71 = .ok (.iastore, 1) := by decide +kernel
theorem dX9_does_72 : decode cX9_does 72 = .ok (.iload_n 3, 1) := by decide +kernel
theorem dX9_does_73 : decode cX9_does 73 = .ok (.ireturn, 1) := by decide +kernel
theorem dX9_does_74 : decode cX9_does 74 = .ok (.aload_n 0, 1) := by decide +kernel
theorem dX9_does_75 : decode cX9_does 75 = .ok (.getfield 48, 3) := by decide +kernel
theorem dX9_does_78 : decode cX9_does 78 = .ok (.iload 4, 2) := by decide +kernel
theorem dX9_does_80 : decode cX9_does 80 = .ok (.aload_n 0, 1) := by decide +kernel
theorem dX9_does_81 : decode cX9_does 81 = .ok (.getfield 48, 3) := by decide +kernel
theorem dX9_does_84 : decode cX9_does 84 = .ok (.aload_n 0, 1) := by decide +kernel
theorem dX9_does_85 : decode cX9_does 85 = .ok (.iload_n 1, 1) := by decide +kernel
theorem dX9_does_86 : decode cX9_does 86 = .ok (.iload_n 2, 1) := by decide +kernel
theorem dX9_does_87 : decode cX9_does 87 = .ok (.invokevirtual 144, 3) := by decide +kernel
theorem dX9_does_90 : decode cX9_does 90 = .ok (.iaload, 1) := by decide +kernel
theorem dX9_does_91 : decode cX9_does 91 = .ok (.iastore, 1) := by decide +kernel
theorem dX9_does_92 : decode cX9_does 92 = .ok (.iload_n 3, 1) := by decide +kernel
theorem dX9_does_93 : decode cX9_does 93 = .ok (.ireturn, 1) := by decide +kernel
theorem dX9_does_94 : decode cX9_does 94 = .ok (.iload_n 3, 1) := by decide +kernel
theorem dX9_does_95 : decode cX9_does 95 = .ok (.bipush 6, 2) := by decide +kernel
theorem dX9_does_97 : decode cX9_does 97 = .ok (.if_icmp .ge 19, 3) := by decide +kernel
theorem dX9_does_100 : decode cX9_does 100 = .ok (.aload_n 0, 1) := by decide +kernel
theorem dX9_does_101 : decode cX9_does 101 = .ok (.getfield 48, 3) := by decide +kernel
theorem dX9_does_104 : decode cX9_does 104 = .ok (.bipush 8, 2) := by decide +kernel
theorem dX9_does_106 : decode cX9_does 106 = .ok (.iload_n 3, 1) := by decide +kernel
theorem dX9_does_107 : decode cX9_does 107 = .ok (.iadd, 1) := by decide +kernel
theorem dX9_does_108 : decode cX9_does 108 = .ok (.aload_n 0, 1) := by decide +kernel
theorem dX9_does_109 : decode cX9_does 109 = .ok (.getfield 48, 3) := by decide +kernel
theorem dX9_does_112 : decode cX9_does 112 = .ok (.iload 4, 2) := by decide +kernel
theorem dX9_does_114 : decode cX9_does 114 = .ok (.iaload, 1) := by decide +kernel
theorem dX9_does_115 : decode cX9_does 115 = .ok (.iastore, 1) := by decide +kernel
theorem dX9_does_116 : decode cX9_does 116 = .ok (.iload_n 3, 1) := by decide +kernel
theorem dX9_does_117 : decode cX9_does 117 = .ok (.bipush 6, 2) := by decide +kernel
theorem dX9_does_119 : decode cX9_does 119 = .ok (.if_icmp .ge 9, 3) := by decide +kernel
theorem dX9_does_122 : decode cX9_does 122 = .ok (.iload_n 3, 1) := by decide +kernel
theorem dX9_does_123 : decode cX9_does 123 = .ok (.iconst 1, 1) := by decide +kernel
theorem dX9_does_124 : decode cX9_does 124 = .ok (.iadd, 1) := by decide +kernel
theorem dX9_does_125 : decode cX9_does 125 = .ok (.goto 4, 3) := by decide +kernel
theorem dX9_does_128 : decode cX9_does 128 = .ok (.iconst (-1), 1) := by decide +kernel
theorem dX9_does_129 : decode cX9_does 129 = .ok (.ireturn, 1) := by decide +kernel
theorem dX9_does_130 : decode cX9_does 130 = .ok (.iload_n 3, 1) := by decide +kernel
theorem dX9_does_131 : decode cX9_does 131 = .ok (.ifCond .le 33, 3) := by decide +kernel
theorem dX9_does_134 : decode cX9_does 134 = .ok (.aload_n 0, 1) := by decide +kernel
theorem dX9_does_135 : decode cX9_does 135 = .ok (.getfield 48, 3) := by decide +kernel
theorem dX9_does_138 : decode cX9_does 138 = .ok (.iload 4, 2) := by decide +kernel
theorem dX9_does_140 : decode cX9_does 140 = .ok (.aload_n 0, 1) := by decide +kernel
theorem dX9_does_141 : decode cX9_does 141 = .ok (.getfield 48, 3) := by decide +kernel
theorem dX9_does_144 : decode cX9_does 144 = .ok (.bipush 8, 2) := by decide +kernel
theorem dX9_does_146 : decode cX9_does 146 = .ok (.iload_n 3, 1) := by decide +kernel
theorem dX9_does_147 : decode cX9_does 147 = .ok (.iadd, 1) := by decide +kernel
theorem dX9_does_148 : decode cX9_does 148 = .ok (.iconst 1, 1) := by decide +kernel
theorem dX9_does_149 : decode cX9_does 149 = .ok (.isub, 1) := by decide +kernel
theorem dX9_does_150 : decode cX9_does 150 = .ok (.iaload, 1) := by decide +kernel
theorem dX9_does_151 : decode cX9_does 151 = .ok (.iastore, 1) := by decide +kernel
theorem dX9_does_152 : decode cX9_does 152 = .ok (.aload_n 0, 1) := by decide +kernel
theorem dX9_does_153 : decode cX9_does 153 = .ok (.getfield 48, 3) := by decide +kernel
theorem dX9_does_156 : decode cX9_does 156 = .ok (.bipush 8, 2) := by decide +kernel
theorem dX9_does_158 : decode cX9_does 158 = .ok (.iload_n 3, 1) := by decide +kernel
theorem dX9_does_159 : decode cX9_does 159 = .ok (.iadd, 1) := by decide +kernel
theorem dX9_does_160 : decode cX9_does 160 = .ok (.iconst 1, 1) := by decide +kernel
theorem dX9_does_161 : decode cX9_does 161 = .ok (.isub, 1) := by decide +kernel
theorem dX9_does_162 : decode cX9_does 162 = .ok (.iconst (-1), 1) := by decide +kernel
theorem dX9_does_163 : decode cX9_does 163 = .ok (.iastore, 1) := by decide +kernel
theorem dX9_does_164 : decode cX9_does 164 = .ok (.iload_n 3, 1) := by decide +kernel
theorem dX9_does_165 : decode cX9_does 165 = .ok (.iconst 1, 1) := by decide +kernel
theorem dX9_does_166 : decode cX9_does 166 = .ok (.isub, 1) := by decide +kernel
theorem dX9_does_167 : decode cX9_does 167 = .ok (.ireturn, 1) := by decide +kernel
theorem dX9_does_168 : decode cX9_does 168 = .ok (.iconst 0, 1) := by decide +kernel
theorem dX9_does_169 : decode cX9_does 169 = .ok (.istore 5, 2) := by decide +kernel
theorem dX9_does_171 : decode cX9_does 171 = .ok (.iload 5, 2) := by decide +kernel
theorem dX9_does_173 : decode cX9_does 173 = .ok (.bipush 8, 2) := by decide +kernel
theorem dX9_does_175 : decode cX9_does 175 = .ok (.if_icmp .ge 43, 3) := by decide +kernel
theorem dX9_does_178 : decode cX9_does 178 = .ok (.aload_n 0, 1) := by decide +kernel
theorem dX9_does_179 : decode cX9_does 179 = .ok (.getfield 48, 3) := by decide +kernel
theorem dX9_does_182 : decode cX9_does 182 = .ok (.iload 5, 2) := by decide +kernel
theorem dX9_does_184 : decode cX9_does 184 = .ok (.aload_n 0, 1) := by decide +kernel
theorem dX9_does_185 : decode cX9_does 185 = .ok (.getfield 39, 3) := by decide +kernel
theorem dX9_does_188 : decode cX9_does 188 = .ok (.iload 4, 2) := by decide +kernel
theorem dX9_does_190 : decode cX9_does 190 = .ok (.iaload, 1) := by decide +kernel
theorem dX9_does_191 : decode cX9_does 191 = .ok (.iload 5, 2) := by decide +kernel
theorem dX9_does_193 : decode cX9_does 193 = .ok (.ishr, 1) := by decide +kernel
theorem dX9_does_194 : decode cX9_does 194 = .ok (.iconst 1, 1) := by decide +kernel
theorem dX9_does_195 : decode cX9_does 195 = .ok (.iand, 1) := by decide +kernel
theorem dX9_does_196 : decode cX9_does 196 = .ok (.iconst 1, 1) := by decide +kernel
theorem dX9_does_197 : decode cX9_does 197 = .ok (.if_icmp .ne 13, 3) := by decide +kernel
theorem dX9_does_200 : decode cX9_does 200 = .ok (.aload_n 0, 1) := by decide +kernel
theorem dX9_does_201 : decode cX9_does 201 = .ok (.getfield 48, 3) := by decide +kernel
theorem dX9_does_204 : decode cX9_does 204 = .ok (.iload 5, 2) := by decide +kernel
theorem dX9_does_206 : decode cX9_does 206 = .ok (.iaload, 1) := by decide +kernel
theorem dX9_does_207 : decode cX9_does 207 = .ok (.goto 4, 3) := by decide +kernel
theorem dX9_does_210 : decode cX9_does 210 = .ok (.iconst (-1), 1) := by decide +kernel
theorem dX9_does_211 : decode cX9_does 211 = .ok (.iastore, 1) := by decide +kernel
theorem dX9_does_212 : decode cX9_does 212 = .ok (.iinc 5 1, 3) := by decide +kernel
theorem dX9_does_215 : decode cX9_does 215 = .ok (.goto (-44), 3) := by decide +kernel
theorem dX9_does_218 : decode cX9_does 218 = .ok (.iload_n 3, 1) := by decide +kernel
theorem dX9_does_219 : decode cX9_does 219 = .ok (.ireturn, 1) := by decide +kernel
theorem dX9_does_220 : decode cX9_does 220 = .ok (.iload_n 3, 1) := by decide +kernel
theorem dX9_does_221 : decode cX9_does 221 = .ok (.ireturn, 1) := by decide +kernel
theorem dX9_follows_0 : decode cX9_follows 0 = .ok (.iconst 0, 1) := by decide +kernel
theorem dX9_follows_1 : decode cX9_follows 1 = .ok (.istore_n 2, 1) := by decide +kernel
theorem dX9_follows_2 : decode cX9_follows 2 = .ok (.iload_n 2, 1) := by decide +kernel
theorem dX9_follows_3 : decode cX9_follows 3 = .ok (.bipush 15, 2) := by decide +kernel
theorem dX9_follows_5 : decode cX9_follows 5 = .ok (.if_icmp .ge 16, 3) := by decide +kernel
theorem dX9_follows_8 : decode cX9_follows 8 = .ok (.aload_n 0, 1) := by decide +kernel
theorem dX9_follows_9 : decode cX9_follows 9 = .ok (.getfield 42, 3) := by decide +kernel
theorem dX9_follows_12 : decode cX9_follows 12 = .ok (.iload_n 2, 1) := by decide +kernel
theorem dX9_follows_13 : decode cX9_follows 13 = .ok (.iconst (-1), 1) := by decide +kernel
theorem dX9_follows_14 : decode cX9_follows 14 = .ok (.iastore, 1) := by decide +kernel
theorem dX9_follows_15 : decode cX9_follows 15 = .ok (.iinc 2 1, 3) := by decide +kernel
theorem dX9_follows_18 : decode cX9_follows 18 = .ok (.goto (-16), 3) := by decide +kernel
theorem dX9_follows_21 : decode cX9_follows 21 = .ok (.iconst 0, 1) := by decide +kernel
theorem dX9_follows_22 : decode cX9_follows 22 = .ok (.istore_n 2, 1) := by decide +kernel
theorem dX9_follows_23 : decode cX9_follows 23 = .ok (.iload_n 2, 1) := by decide +kernel
theorem dX9_follows_24 : decode cX9_follows 24 = .ok (.bipush 14, 2) := by decide +kernel
theorem dX9_follows_26 : decode cX9_follows 26 = .ok (.if_icmp .ge 26, 3) := by decide +kernel
theorem dX9_follows_29 : decode cX9_follows 29 = .ok (.aload_n 0, 1) := by decide +kernel
theorem dX9_follows_30 : decode cX9_follows 30 = .ok (.getfield 48, 3) := by decide +kernel
theorem dX9_follows_33 : decode cX9_follows 33 = .ok (.iload_n 2, 1) := by decide +kernel
theorem dX9_follows_34 : decode cX9_follows 34 = .ok (.iload_n 2, 1) := by decide +kernel
theorem dX9_follows_35 : decode cX9_follows 35 = .ok (.bipush 8, 2) := by decide +kernel
theorem dX9_follows_37 : decode cX9_follows 37 = .ok (.if_icmp .ge 7, 3) := by decide +kernel
theorem dX9_follows_40 : decode cX9_follows 40 = .ok (.iload_n 2, 1) := by decide +kernel
theorem dX9_follows_41 : decode cX9_follows 41 = .ok (.goto 4, 3) := by decide +kernel
theorem dX9_follows_44 : decode cX9_follows 44 = .ok (.iconst (-1), 1) := by decide +kernel
theorem dX9_follows_45 : decode cX9_follows 45 = .ok (.iastore, 1) := by decide +kernel
theorem dX9_follows_46 : decode cX9_follows 46 = .ok (.iinc 2 1, 3) := by decide +kernel
theorem dX9_follows_49 : decode cX9_follows 49 = .ok (.goto (-26), 3) := by decide +kernel
theorem dX9_follows_52 : decode cX9_follows 52 = .ok (.aload_n 0, 1) := by decide +kernel
theorem dX9_follows_53 : decode cX9_follows 53 = .ok (.iconst 0, 1) := by decide +kernel
theorem dX9_follows_54 : decode cX9_follows 54 = .ok (.iconst 0, 1) := by decide +kernel
theorem dX9_follows_55 : decode cX9_follows 55 = .ok (.invokevirtual 159, 3) := by decide +kernel
theorem dX9_follows_58 : decode cX9_follows 58 = .ok (.istore_n 2, 1) := by decide +kernel
theorem dX9_follows_59 : decode cX9_follows 59 = .ok (.iconst 0, 1) := by decide +kernel
theorem dX9_follows_60 : decode cX9_follows 60 = .ok (.istore_n 3, 1) := by decide +kernel
theorem dX9_follows_61 : decode cX9_follows 61 = .ok (.iload_n 3, 1) := by decide +kernel
theorem dX9_follows_62 : decode cX9_follows 62 = .ok (.aload_n 0, 1) := by decide +kernel
theorem dX9_follows_63 : decode cX9_follows 63 = .ok (.getfield 9, 3) := by decide +kernel
theorem dX9_follows_66 : decode cX9_follows 66 = .ok (.iload_n 1, 1) := by decide +kernel
theorem dX9_follows_67 : decode cX9_follows 67 = .ok (.iaload, 1) := by decide +kernel
theorem dX9_follows_68 : decode cX9_follows 68 = .ok (.if_icmp .ge 99, 3) := by decide +kernel
theorem dX9_follows_71 : decode cX9_follows 71 = .ok (.iload_n 2, 1) := by decide +kernel
theorem dX9_follows_72 : decode cX9_follows 72 = .ok (.ifCond .eq 95, 3) := by decide +kernel
theorem dX9_follows_75 : decode cX9_follows 75 = .ok (.aload_n 0, 1) := by decide +kernel
theorem dX9_follows_76 : decode cX9_follows 76 = .ok (.getfield 42, 3) := by decide +kernel
theorem dX9_follows_79 : decode cX9_follows 79 = .ok (.iload_n 3, 1) := by decide +kernel
theorem dX9_follows_80 : decode cX9_follows 80 = .ok (.iaload, 1) := by decide +kernel
theorem dX9_follows_81 : decode cX9_follows 81 = .ok (.ifCond .lt 80, 3) := by decide +kernel
theorem dX9_follows_84 : decode cX9_follows 84 = .ok (.aload_n 0, 1) := by decide +kernel
theorem dX9_follows_85 : decode cX9_follows 85 = .ok (.getfield 45, 3) := by decide +kernel
theorem dX9_follows_88 : decode cX9_follows 88 = .ok (.bipush 14, 2) := by decide +kernel
theorem dX9_follows_90 : decode cX9_follows 90 = .ok (.iload_n 3, 1) := by decide +kernel
theorem dX9_follows_91 : decode cX9_follows 91 = .ok (.imul, 1) := by decide +kernel
theorem dX9_follows_92 : decode cX9_follows 92 = .ok (.aload_n 0, 1) := by decide +kernel
theorem dX9_follows_93 : decode cX9_follows 93 = .ok (.getfield 48, 3) := by decide +kernel
theorem dX9_follows_96 : decode cX9_follows 96 = .ok (.iconst 0, 1) := by decide +kernel
theorem dX9_follows_97 : decode cX9_follows 97 = .ok (.bipush 14, 2) := by decide +kernel
theorem dX9_follows_99 : decode cX9_follows 99 = .ok (.invokestatic 162, 3) := by decide +kernel
theorem dX9_follows_102 : decode cX9_follows 102 = .ok (.aload_n 0, 1) := by decide +kernel
theorem dX9_follows_103 : decode cX9_follows 103 = .ok (.iload_n 1, 1) := by decide +kernel
theorem dX9_follows_104 : decode cX9_follows 104 = .ok (.iload_n 3, 1) := by decide +kernel
theorem dX9_follows_105 : decode cX9_follows 105 = .ok (.aload_n 0, 1) := by decide +kernel
theorem dX9_follows_106 : decode cX9_follows 106 = .ok (.getfield 42, 3) := by decide +kernel
theorem dX9_follows_109 : decode cX9_follows 109 = .ok (.iload_n 3, 1) := by decide +kernel
theorem dX9_follows_110 : decode cX9_follows 110 = .ok (.iaload, 1) := by decide +kernel
theorem dX9_follows_111 : decode cX9_follows 111 = .ok (.invokevirtual 168, 3) := by decide +kernel
theorem dX9_follows_114 : decode cX9_follows 114 = .ok (.istore 4, 2) := by decide +kernel
theorem dX9_follows_116 : decode cX9_follows 116 = .ok (.iload 4, 2) := by decide +kernel
theorem dX9_follows_118 : decode cX9_follows 118 = .ok (.ifCond .lt 7, 3) := by decide +kernel
theorem dX9_follows_121 : decode cX9_follows 121 = .ok (.iconst 1, 1) := by decide +kernel
theorem dX9_follows_122 : decode cX9_follows 122 = .ok (.goto 4, 3) := by decide +kernel
theorem dX9_follows_125 : decode cX9_follows 125 = .ok (.iconst 0, 1) := by decide +kernel
theorem dX9_follows_126 : decode cX9_follows 126 = .ok (.istore_n 2, 1) := by decide +kernel
theorem dX9_follows_127 : decode cX9_follows 127 = .ok (.iconst 0, 1) := by decide +kernel
theorem dX9_follows_128 : decode cX9_follows 128 = .ok (.istore 5, 2) := by decide +kernel
theorem dX9_follows_130 : decode cX9_follows 130 = .ok (.iload 5, 2) := by decide +kernel
theorem dX9_follows_132 : decode cX9_follows 132 = .ok (.iconst 2, 1) := by decide +kernel
theorem dX9_follows_133 : decode cX9_follows 133 = .ok (.if_icmp .ge 28, 3) := by decide +kernel
theorem dX9_follows_136 : decode cX9_follows 136 = .ok (.iload_n 2, 1) := by decide +kernel
theorem dX9_follows_137 : decode cX9_follows 137 = .ok (.ifCond .eq 24, 3) := by decide +kernel
theorem dX9_follows_140 : decode cX9_follows 140 = .ok (.aload_n 0, 1) := by decide +kernel
theorem dX9_follows_141 : decode cX9_follows 141 = .ok (.aload_n 0, 1) := by decide +kernel
theorem dX9_follows_142 : decode cX9_follows 142 = .ok (.iload_n 1, 1) := by decide +kernel
theorem dX9_follows_143 : decode cX9_follows 143 = .ok (.iload_n 3, 1) := by decide +kernel
theorem dX9_follows_144 : decode cX9_follows 144 = .ok (.iload 5, 2) := by decide +kernel
theorem dX9_follows_146 : decode cX9_follows 146 = .ok (.invokevirtual 155, 3) := by decide +kernel
theorem dX9_follows_149 : decode cX9_follows 149 = .ok (.iload 4, 2) := by decide +kernel
theorem dX9_follows_151 : decode cX9_follows 151 = .ok (.invokevirtual 159, 3) := by decide +kernel
theorem dX9_follows_154 : decode cX9_follows 154 = .ok (.istore_n 2, 1) := by decide +kernel
theorem dX9_follows_155 : decode cX9_follows 155 = .ok (.iinc 5 1, 3) := by decide +kernel
theorem dX9_follows_158 : decode cX9_follows 158 = .ok (.goto (-28), 3) := by decide +kernel
theorem dX9_follows_161 : decode cX9_follows 161 = .ok (.iinc 3 1, 3) := by decide +kernel
theorem dX9_follows_164 : decode cX9_follows 164 = .ok (.goto (-103), 3) := by decide +kernel
theorem dX9_follows_167 : decode cX9_follows 167 = .ok (.iload_n 2, 1) := by decide +kernel
theorem dX9_follows_168 : decode cX9_follows 168 = .ok (.ifCond .eq 21, 3) := by decide +kernel
theorem dX9_follows_171 : decode cX9_follows 171 = .ok (.aload_n 0, 1) := by decide +kernel
theorem dX9_follows_172 : decode cX9_follows 172 = .ok (.getfield 42, 3) := by decide +kernel
theorem dX9_follows_175 : decode cX9_follows 175 = .ok (.aload_n 0, 1) := by decide +kernel
theorem dX9_follows_176 : decode cX9_follows 176 = .ok (.getfield 9, 3) := by decide +kernel
theorem dX9_follows_179 : decode cX9_follows 179 = .ok (.iload_n 1, 1) := by decide +kernel
theorem dX9_follows_180 : decode cX9_follows 180 = .ok (.iaload, 1) := by decide +kernel
theorem dX9_follows_181 : decode cX9_follows 181 = .ok (.iaload, 1) := by decide +kernel
theorem dX9_follows_182 : decode cX9_follows 182 = .ok (.ifCond .ne 7, 3) := by decide +kernel
theorem dX9_follows_185 : decode cX9_follows 185 = .ok (.iconst 1, 1) := by decide +kernel
theorem dX9_follows_186 : decode cX9_follows 186 = .ok (.goto 4, 3) := by decide +kernel
theorem dX9_follows_189 : decode cX9_follows 189 = .ok (.iconst 0, 1) := by decide +kernel
theorem dX9_follows_190 : decode cX9_follows 190 = .ok (.ireturn, 1) := by decide +kernel
theorem dX9_preservedBy_0 : decode cX9_preservedBy 0 = .ok (.iconst 0, 1) := by decide +kernel
theorem dX9_preservedBy_1 : decode cX9_preservedBy 1 = .ok (.istore_n 2, 1) := by decide +kernel
theorem dX9_preservedBy_2 : decode cX9_preservedBy 2 = .ok (.aload_n 0, 1) := by decide +kernel
theorem dX9_preservedBy_3 : decode cX9_preservedBy 3 = .ok (.iload_n 1, 1) := by decide +kernel
theorem dX9_preservedBy_4 : decode cX9_preservedBy 4 = .ok (.invokevirtual 171, 3) := by decide +kernel
theorem dX9_preservedBy_7 : decode cX9_preservedBy 7 = .ok (.ifCond .eq 47, 3) := by decide +kernel
theorem dX9_preservedBy_10 : decode cX9_preservedBy 10 = .ok (.iconst 0, 1) := by decide +kernel
theorem dX9_preservedBy_11 : decode cX9_preservedBy 11 = .ok (.istore_n 3, 1) := by decide +kernel
theorem dX9_preservedBy_12 : decode cX9_preservedBy 12 = .ok (.iload_n 3, 1) := by decide +kernel
theorem dX9_preservedBy_13 : decode cX9_preservedBy 13 = .ok (.bipush 8, 2) := by decide +kernel
theorem dX9_preservedBy_15 : decode cX9_preservedBy 15 = .ok (.if_icmp .ge 39, 3) := by decide +kernel
theorem dX9_preservedBy_18 : decode cX9_preservedBy 18 = .ok (.iload_n 2, 1) := by decide +kernel
theorem dX9_preservedBy_19 : decode cX9_preservedBy 19 = .ok (.aload_n 0, 1) := by decide +kernel
theorem dX9_preservedBy_20 : decode cX9_preservedBy 20 = .ok (.getfield 45, 3) := by decide +kernel
theorem dX9_preservedBy_23 : decode cX9_preservedBy 23 = .ok (.bipush 14, 2) := by decide +kernel
theorem dX9_preservedBy_25 : decode cX9_preservedBy 25 = .ok (.aload_n 0, 1) := by decide +kernel
theorem dX9_preservedBy_26 : decode cX9_preservedBy 26 = .ok (.getfield 9, 3) := by decide +kernel
theorem dX9_preservedBy_29 : decode cX9_preservedBy 29 = .ok (.iload_n 1, 1) := by decide +kernel
theorem dX9_preservedBy_30 : decode cX9_preservedBy 30 = .ok (.iaload, 1) := by decide +kernel
theorem dX9_preservedBy_31 : decode cX9_preservedBy 31 = .ok (.imul, 1) := by decide +kernel
theorem dX9_preservedBy_32 : decode cX9_preservedBy 32 = .ok (.iload_n 3, 1) := by decide +kernel
theorem dX9_preservedBy_33 : decode cX9_preservedBy 33 = .ok (.iadd, 1) := by decide +kernel
theorem dX9_preservedBy_34 : decode cX9_preservedBy 34 = .ok (.iaload, 1) := by decide +kernel
theorem dX9_preservedBy_35 : decode cX9_preservedBy 35 = .ok (.iload_n 3, 1) := by decide +kernel
theorem dX9_preservedBy_36 : decode cX9_preservedBy 36 = .ok (.if_icmp .ne 9, 3) := by decide +kernel
theorem dX9_preservedBy_39 : decode cX9_preservedBy 39 = .ok (.iconst 1, 1) := by decide +kernel
theorem dX9_preservedBy_40 : decode cX9_preservedBy 40 = .ok (.iload_n 3, 1) := by decide +kernel
theorem dX9_preservedBy_41 : decode cX9_preservedBy 41 = .ok (.ishl, 1) := by decide +kernel
theorem dX9_preservedBy_42 : decode cX9_preservedBy 42 = .ok (.goto 4, 3) := by decide +kernel
theorem dX9_preservedBy_45 : decode cX9_preservedBy 45 = .ok (.iconst 0, 1) := by decide +kernel
theorem dX9_preservedBy_46 : decode cX9_preservedBy 46 = .ok (.ior, 1) := by decide +kernel
theorem dX9_preservedBy_47 : decode cX9_preservedBy 47 = .ok (.istore_n 2, 1) := by decide +kernel
theorem dX9_preservedBy_48 : decode cX9_preservedBy 48 = .ok (.iinc 3 1, 3) := by decide +kernel
theorem dX9_preservedBy_51 : decode cX9_preservedBy 51 = .ok (.goto (-39), 3) := by decide +kernel
theorem dX9_preservedBy_54 : decode cX9_preservedBy 54 = .ok (.iload_n 2, 1) := by decide +kernel
theorem dX9_preservedBy_55 : decode cX9_preservedBy 55 = .ok (.ireturn, 1) := by decide +kernel
theorem dX9_findPreserved_0 : decode cX9_findPreserved 0 = .ok (.iconst 0, 1) := by decide +kernel
theorem dX9_findPreserved_1 : decode cX9_findPreserved 1 = .ok (.istore_n 1, 1) := by decide +kernel
theorem dX9_findPreserved_2 : decode cX9_findPreserved 2 = .ok (.iload_n 1, 1) := by decide +kernel
theorem dX9_findPreserved_3 : decode cX9_findPreserved 3 = .ok (.bipush 8, 2) := by decide +kernel
theorem dX9_findPreserved_5 : decode cX9_findPreserved 5 = .ok (.if_icmp .ge 42, 3) := by decide +kernel
theorem dX9_findPreserved_8 : decode cX9_findPreserved 8 = .ok (.aload_n 0, 1) := by decide +kernel
theorem dX9_findPreserved_9 : decode cX9_findPreserved 9 = .ok (.getfield 36, 3) := by decide +kernel
theorem dX9_findPreserved_12 : decode cX9_findPreserved 12 = .ok (.iload_n 1, 1) := by decide +kernel
theorem dX9_findPreserved_13 : decode cX9_findPreserved 13 = .ok (.aload_n 0, 1) := by decide +kernel
theorem dX9_findPreserved_14 : decode cX9_findPreserved 14 = .ok (.iload_n 1, 1) := by decide +kernel
theorem dX9_findPreserved_15 : decode cX9_findPreserved 15 = .ok (.invokevirtual 171, 3) := by decide +kernel
theorem dX9_findPreserved_18 : decode cX9_findPreserved 18 = .ok (.bastore, 1) := by decide +kernel
theorem dX9_findPreserved_19 : decode cX9_findPreserved 19 = .ok (.aload_n 0, 1) := by decide +kernel
theorem dX9_findPreserved_20 : decode cX9_findPreserved 20 = .ok (.getfield 39, 3) := by decide +kernel
theorem dX9_findPreserved_23 : decode cX9_findPreserved 23 = .ok (.iload_n 1, 1) := by decide +kernel
theorem dX9_findPreserved_24 : decode cX9_findPreserved 24 = .ok (.aload_n 0, 1) := by decide +kernel
theorem dX9_findPreserved_25 : decode cX9_findPreserved 25 = .ok (.getfield 36, 3) := by decide +kernel
theorem dX9_findPreserved_28 : decode cX9_findPreserved 28 = .ok (.iload_n 1, 1) := by decide +kernel
theorem dX9_findPreserved_29 : decode cX9_findPreserved 29 = .ok (.baload, 1) := by decide +kernel
theorem dX9_findPreserved_30 : decode cX9_findPreserved 30 = .ok (.ifCond .eq 9, 3) := by decide +kernel
theorem dX9_findPreserved_33 : decode cX9_findPreserved 33 = .ok (.sipush 255, 3) := by decide +kernel
theorem dX9_findPreserved_36 : decode cX9_findPreserved 36 = .ok (.goto 4, 3) := by decide +kernel
theorem dX9_findPreserved_39 : decode cX9_findPreserved 39 = .ok (.iconst 0, 1) := by decide +kernel
theorem dX9_findPreserved_40 : decode cX9_findPreserved 40 = .ok (.iastore, 1) := by decide +kernel
theorem dX9_findPreserved_41 : decode cX9_findPreserved 41 = .ok (.iinc 1 1, 3) := by decide +kernel
theorem dX9_findPreserved_44 : decode cX9_findPreserved 44 = .ok (.goto (-42), 3) := by decide +kernel
theorem dX9_findPreserved_47 : decode cX9_findPreserved 47 = .ok (.iconst 1, 1) := by decide +kernel
theorem dX9_findPreserved_48 : decode cX9_findPreserved 48 = .ok (.istore_n 1, 1) := by decide +kernel
theorem dX9_findPreserved_49 : decode cX9_findPreserved 49 = .ok (.iload_n 1, 1) := by decide +kernel
theorem dX9_findPreserved_50 : decode cX9_findPreserved 50 = .ok (.ifCond .eq 55, 3) := by decide +kernel
theorem dX9_findPreserved_53 : decode cX9_findPreserved 53 = .ok (.iconst 0, 1) := by decide +kernel
theorem dX9_findPreserved_54 : decode cX9_findPreserved 54 = .ok (.istore_n 1, 1) := by decide +kernel
theorem dX9_findPreserved_55 : decode cX9_findPreserved 55 = .ok (.iconst 0, 1) := by decide +kernel
theorem dX9_findPreserved_56 : decode cX9_findPreserved 56 = .ok (.istore_n 2, 1) := by decide +kernel
theorem dX9_findPreserved_57 : decode cX9_findPreserved 57 = .ok (.iload_n 2, 1) := by decide +kernel
theorem dX9_findPreserved_58 : decode cX9_findPreserved 58 = .ok (.bipush 8, 2) := by decide +kernel
theorem dX9_findPreserved_60 : decode cX9_findPreserved 60 = .ok (.if_icmp .ge 42, 3) := by decide +kernel
theorem dX9_findPreserved_63 : decode cX9_findPreserved 63 = .ok (.aload_n 0, 1) := by decide +kernel
theorem dX9_findPreserved_64 : decode cX9_findPreserved 64 = .ok (.iload_n 2, 1) := by decide +kernel
theorem dX9_findPreserved_65 : decode cX9_findPreserved 65 = .ok (.invokevirtual 174, 3) := by decide +kernel
theorem dX9_findPreserved_68 : decode cX9_findPreserved 68 = .ok (.istore_n 3, 1) := by decide +kernel
theorem dX9_findPreserved_69 : decode cX9_findPreserved 69 = .ok (.iload_n 1, 1) := by decide +kernel
theorem dX9_findPreserved_70 : decode cX9_findPreserved 70 = .ok (.ifCond .ne 13, 3) := by decide +kernel
theorem dX9_findPreserved_73 : decode cX9_findPreserved 73 = .ok (.iload_n 3, 1) := by decide +kernel
theorem dX9_findPreserved_74 : decode cX9_findPreserved 74 = .ok (.aload_n 0, 1) := by decide +kernel
theorem dX9_findPreserved_75 : decode cX9_findPreserved 75 = .ok (.getfield 39, 3) := by decide +kernel
theorem dX9_findPreserved_78 : decode cX9_findPreserved 78 = .ok (.iload_n 2, 1) := by decide +kernel
theorem dX9_findPreserved_79 : decode cX9_findPreserved 79 = .ok (.iaload, 1) := by decide +kernel
theorem dX9_findPreserved_80 : decode cX9_findPreserved 80 = .ok (.if_icmp .eq 7, 3) := by decide +kernel
theorem dX9_findPreserved_83 : decode cX9_findPreserved 83 = .ok (.iconst 1, 1) := by decide +kernel
theorem dX9_findPreserved_84 : decode cX9_findPreserved 84 = .ok (.goto 4, 3) := by decide +kernel
theorem dX9_findPreserved_87 : decode cX9_findPreserved 87 = .ok (.iconst 0, 1) := by decide +kernel
theorem dX9_findPreserved_88 : decode cX9_findPreserved 88 = .ok (.istore_n 1, 1) := by decide +kernel
theorem dX9_findPreserved_89 : decode cX9_findPreserved 89 = .ok (.aload_n 0, 1) := by decide +kernel
theorem dX9_findPreserved_90 : decode cX9_findPreserved 90 = .ok (.getfield 39, 3) := by decide +kernel
theorem dX9_findPreserved_93 : decode cX9_findPreserved 93 = .ok (.iload_n 2, 1) := by decide +kernel
theorem dX9_findPreserved_94 : decode cX9_findPreserved 94 = .ok (.iload_n 3, 1) := by decide +kernel
theorem dX9_findPreserved_95 : decode cX9_findPreserved 95 = .ok (.iastore, 1) := by decide +kernel
theorem dX9_findPreserved_96 : decode cX9_findPreserved 96 = .ok (.iinc 2 1, 3) := by decide +kernel
theorem dX9_findPreserved_99 : decode cX9_findPreserved 99 = .ok (.goto (-42), 3) := by decide +kernel
theorem dX9_findPreserved_102 : decode cX9_findPreserved 102 = .ok (.goto (-53), 3) := by decide +kernel
theorem dX9_findPreserved_105 : decode cX9_findPreserved 105 = .ok (.return_, 1) := by decide +kernel
theorem dX9_clobbered_0 : decode cX9_clobbered 0 = .ok (.sipush 255, 3) := by decide +kernel
theorem dX9_clobbered_3 : decode cX9_clobbered 3 = .ok (.aload_n 0, 1) := by decide +kernel
theorem dX9_clobbered_4 : decode cX9_clobbered 4 = .ok (.getfield 39, 3) := by decide +kernel
theorem dX9_clobbered_7 : decode cX9_clobbered 7 = .ok (.iload_n 1, 1) := by decide +kernel
theorem dX9_clobbered_8 : decode cX9_clobbered 8 = .ok (.iaload, 1) := by decide +kernel
theorem dX9_clobbered_9 : decode cX9_clobbered 9 = .ok (.iconst (-1), 1) := by decide +kernel
theorem dX9_clobbered_10 : decode cX9_clobbered 10 = .ok (.ixor, 1) := by decide +kernel
theorem dX9_clobbered_11 : decode cX9_clobbered 11 = .ok (.iand, 1) := by decide +kernel
theorem dX9_clobbered_12 : decode cX9_clobbered 12 = .ok (.ireturn, 1) := by decide +kernel
theorem dX9_beginSets_0 : decode cX9_beginSets 0 = .ok (.iconst 0, 1) := by decide +kernel
theorem dX9_beginSets_1 : decode cX9_beginSets 1 = .ok (.istore_n 2, 1) := by decide +kernel
theorem dX9_beginSets_2 : decode cX9_beginSets 2 = .ok (.iload_n 2, 1) := by decide +kernel
theorem dX9_beginSets_3 : decode cX9_beginSets 3 = .ok (.bipush 15, 2) := by decide +kernel
theorem dX9_beginSets_5 : decode cX9_beginSets 5 = .ok (.if_icmp .ge 24, 3) := by decide +kernel
theorem dX9_beginSets_8 : decode cX9_beginSets 8 = .ok (.aload_n 0, 1) := by decide +kernel
theorem dX9_beginSets_9 : decode cX9_beginSets 9 = .ok (.getfield 54, 3) := by decide +kernel
theorem dX9_beginSets_12 : decode cX9_beginSets 12 = .ok (.iload_n 2, 1) := by decide +kernel
theorem dX9_beginSets_13 : decode cX9_beginSets 13 = .ok (.iload_n 2, 1) := by decide +kernel
theorem dX9_beginSets_14 : decode cX9_beginSets 14 = .ok (.ifCond .ne 7, 3) := by decide +kernel
theorem dX9_beginSets_17 : decode cX9_beginSets 17 = .ok (.iconst 0, 1) := by decide +kernel
theorem dX9_beginSets_18 : decode cX9_beginSets 18 = .ok (.goto 4, 3) := by decide +kernel
theorem dX9_beginSets_21 : decode cX9_beginSets 21 = .ok (.iconst (-1), 1) := by decide +kernel
theorem dX9_beginSets_22 : decode cX9_beginSets 22 = .ok (.iastore, 1) := by decide +kernel
theorem dX9_beginSets_23 : decode cX9_beginSets 23 = .ok (.iinc 2 1, 3) := by decide +kernel
theorem dX9_beginSets_26 : decode cX9_beginSets 26 = .ok (.goto (-24), 3) := by decide +kernel
theorem dX9_beginSets_29 : decode cX9_beginSets 29 = .ok (.return_, 1) := by decide +kernel
theorem dX9_bringSet_0 : decode cX9_bringSet 0 = .ok (.iconst 0, 1) := by decide +kernel
theorem dX9_bringSet_1 : decode cX9_bringSet 1 = .ok (.istore 4, 2) := by decide +kernel
theorem dX9_bringSet_3 : decode cX9_bringSet 3 = .ok (.iload 4, 2) := by decide +kernel
theorem dX9_bringSet_5 : decode cX9_bringSet 5 = .ok (.iconst 2, 1) := by decide +kernel
theorem dX9_bringSet_6 : decode cX9_bringSet 6 = .ok (.if_icmp .ge 26, 3) := by decide +kernel
theorem dX9_bringSet_9 : decode cX9_bringSet 9 = .ok (.aload_n 0, 1) := by decide +kernel
theorem dX9_bringSet_10 : decode cX9_bringSet 10 = .ok (.getfield 54, 3) := by decide +kernel
theorem dX9_bringSet_13 : decode cX9_bringSet 13 = .ok (.aload_n 0, 1) := by decide +kernel
theorem dX9_bringSet_14 : decode cX9_bringSet 14 = .ok (.iload_n 1, 1) := by decide +kernel
theorem dX9_bringSet_15 : decode cX9_bringSet 15 = .ok (.iload_n 2, 1) := by decide +kernel
theorem dX9_bringSet_16 : decode cX9_bringSet 16 = .ok (.iload 4, 2) := by decide +kernel
theorem dX9_bringSet_18 : decode cX9_bringSet 18 = .ok (.invokevirtual 155, 3) := by decide +kernel
theorem dX9_bringSet_21 : decode cX9_bringSet 21 = .ok (.dup2, 1) := by decide +kernel
theorem dX9_bringSet_22 : decode cX9_bringSet 22 = .ok (.iaload, 1) := by decide +kernel
theorem dX9_bringSet_23 : decode cX9_bringSet 23 = .ok (.iload_n 3, 1) := by decide +kernel
theorem dX9_bringSet_24 : decode cX9_bringSet 24 = .ok (.iand, 1) := by decide +kernel
theorem dX9_bringSet_25 : decode cX9_bringSet 25 = .ok (.iastore, 1) := by decide +kernel
theorem dX9_bringSet_26 : decode cX9_bringSet 26 = .ok (.iinc 4 1, 3) := by decide +kernel
theorem dX9_bringSet_29 : decode cX9_bringSet 29 = .ok (.goto (-26), 3) := by decide +kernel
theorem dX9_bringSet_32 : decode cX9_bringSet 32 = .ok (.return_, 1) := by decide +kernel
theorem dX9_definedBy_0 : decode cX9_definedBy 0 = .ok (.aload_n 0, 1) := by decide +kernel
theorem dX9_definedBy_1 : decode cX9_definedBy 1 = .ok (.iload_n 1, 1) := by decide +kernel
theorem dX9_definedBy_2 : decode cX9_definedBy 2 = .ok (.invokevirtual 178, 3) := by decide +kernel
theorem dX9_definedBy_5 : decode cX9_definedBy 5 = .ok (.iconst 0, 1) := by decide +kernel
theorem dX9_definedBy_6 : decode cX9_definedBy 6 = .ok (.istore_n 2, 1) := by decide +kernel
theorem dX9_definedBy_7 : decode cX9_definedBy 7 = .ok (.iload_n 2, 1) := by decide +kernel
theorem dX9_definedBy_8 : decode cX9_definedBy 8 = .ok (.aload_n 0, 1) := by decide +kernel
theorem dX9_definedBy_9 : decode cX9_definedBy 9 = .ok (.getfield 9, 3) := by decide +kernel
theorem dX9_definedBy_12 : decode cX9_definedBy 12 = .ok (.iload_n 1, 1) := by decide +kernel
theorem dX9_definedBy_13 : decode cX9_definedBy 13 = .ok (.iaload, 1) := by decide +kernel
theorem dX9_definedBy_14 : decode cX9_definedBy 14 = .ok (.if_icmp .ge 92, 3) := by decide +kernel
theorem dX9_definedBy_17 : decode cX9_definedBy 17 = .ok (.aload_n 0, 1) := by decide +kernel
theorem dX9_definedBy_18 : decode cX9_definedBy 18 = .ok (.iload_n 1, 1) := by decide +kernel
theorem dX9_definedBy_19 : decode cX9_definedBy 19 = .ok (.iload_n 2, 1) := by decide +kernel
theorem dX9_definedBy_20 : decode cX9_definedBy 20 = .ok (.invokevirtual 152, 3) := by decide +kernel
theorem dX9_definedBy_23 : decode cX9_definedBy 23 = .ok (.ifCond .eq 77, 3) := by decide +kernel
theorem dX9_definedBy_26 : decode cX9_definedBy 26 = .ok (.aload_n 0, 1) := by decide +kernel
theorem dX9_definedBy_27 : decode cX9_definedBy 27 = .ok (.iload_n 1, 1) := by decide +kernel
theorem dX9_definedBy_28 : decode cX9_definedBy 28 = .ok (.iload_n 2, 1) := by decide +kernel
theorem dX9_definedBy_29 : decode cX9_definedBy 29 = .ok (.invokevirtual 138, 3) := by decide +kernel
theorem dX9_definedBy_32 : decode cX9_definedBy 32 = .ok (.istore_n 3, 1) := by decide +kernel
theorem dX9_definedBy_33 : decode cX9_definedBy 33 = .ok (.iload_n 3, 1) := by decide +kernel
theorem dX9_definedBy_34 : decode cX9_definedBy 34 = .ok (.bipush 100, 2) := by decide +kernel
theorem dX9_definedBy_36 : decode cX9_definedBy 36 = .ok (.if_icmp .eq 15, 3) := by decide +kernel
theorem dX9_definedBy_39 : decode cX9_definedBy 39 = .ok (.iload_n 3, 1) := by decide +kernel
theorem dX9_definedBy_40 : decode cX9_definedBy 40 = .ok (.bipush 109, 2) := by decide +kernel
theorem dX9_definedBy_42 : decode cX9_definedBy 42 = .ok (.if_icmp .eq 9, 3) := by decide +kernel
theorem dX9_definedBy_45 : decode cX9_definedBy 45 = .ok (.iload_n 3, 1) := by decide +kernel
theorem dX9_definedBy_46 : decode cX9_definedBy 46 = .ok (.bipush 45, 2) := by decide +kernel
theorem dX9_definedBy_48 : decode cX9_definedBy 48 = .ok (.if_icmp .ne 14, 3) := by decide +kernel
theorem dX9_definedBy_51 : decode cX9_definedBy 51 = .ok (.iconst 1, 1) := by decide +kernel
theorem dX9_definedBy_52 : decode cX9_definedBy 52 = .ok (.aload_n 0, 1) := by decide +kernel
theorem dX9_definedBy_53 : decode cX9_definedBy 53 = .ok (.iload_n 1, 1) := by decide +kernel
theorem dX9_definedBy_54 : decode cX9_definedBy 54 = .ok (.iload_n 2, 1) := by decide +kernel
theorem dX9_definedBy_55 : decode cX9_definedBy 55 = .ok (.invokevirtual 141, 3) := by decide +kernel
theorem dX9_definedBy_58 : decode cX9_definedBy 58 = .ok (.ishl, 1) := by decide +kernel
theorem dX9_definedBy_59 : decode cX9_definedBy 59 = .ok (.goto 24, 3) := by decide +kernel
theorem dX9_definedBy_62 : decode cX9_definedBy 62 = .ok (.iload_n 3, 1) := by decide +kernel
theorem dX9_definedBy_63 : decode cX9_definedBy 63 = .ok (.bipush 99, 2) := by decide +kernel
theorem dX9_definedBy_65 : decode cX9_definedBy 65 = .ok (.if_icmp .ne 17, 3) := by decide +kernel
theorem dX9_definedBy_68 : decode cX9_definedBy 68 = .ok (.aload_n 0, 1) := by decide +kernel
theorem dX9_definedBy_69 : decode cX9_definedBy 69 = .ok (.getfield 51, 3) := by decide +kernel
theorem dX9_definedBy_72 : decode cX9_definedBy 72 = .ok (.aload_n 0, 1) := by decide +kernel
theorem dX9_definedBy_73 : decode cX9_definedBy 73 = .ok (.iload_n 1, 1) := by decide +kernel
theorem dX9_definedBy_74 : decode cX9_definedBy 74 = .ok (.iload_n 2, 1) := by decide +kernel
theorem dX9_definedBy_75 : decode cX9_definedBy 75 = .ok (.invokevirtual 141, 3) := by decide +kernel
theorem dX9_definedBy_78 : decode cX9_definedBy 78 = .ok (.iaload, 1) := by decide +kernel
theorem dX9_definedBy_79 : decode cX9_definedBy 79 = .ok (.goto 4, 3) := by decide +kernel
theorem dX9_definedBy_82 : decode cX9_definedBy 82 = .ok (.iconst 0, 1) := by decide +kernel
theorem dX9_definedBy_83 : decode cX9_definedBy 83 = .ok (.istore 4, 2) := by decide +kernel
theorem dX9_definedBy_85 : decode cX9_definedBy 85 = .ok (.aload_n 0, 1) := by decide +kernel
theorem dX9_definedBy_86 : decode cX9_definedBy 86 = .ok (.iload_n 1, 1) := by decide +kernel
theorem dX9_definedBy_87 : decode cX9_definedBy 87 = .ok (.iload_n 2, 1) := by decide +kernel
theorem dX9_definedBy_88 : decode cX9_definedBy 88 = .ok (.aload_n 0, 1) := by decide +kernel
theorem dX9_definedBy_89 : decode cX9_definedBy 89 = .ok (.getfield 54, 3) := by decide +kernel
theorem dX9_definedBy_92 : decode cX9_definedBy 92 = .ok (.iload_n 2, 1) := by decide +kernel
theorem dX9_definedBy_93 : decode cX9_definedBy 93 = .ok (.iaload, 1) := by decide +kernel
theorem dX9_definedBy_94 : decode cX9_definedBy 94 = .ok (.iload 4, 2) := by decide +kernel
theorem dX9_definedBy_96 : decode cX9_definedBy 96 = .ok (.ior, 1) := by decide +kernel
theorem dX9_definedBy_97 : decode cX9_definedBy 97 = .ok (.invokevirtual 182, 3) := by decide +kernel
theorem dX9_definedBy_100 : decode cX9_definedBy 100 = .ok (.iinc 2 1, 3) := by decide +kernel
theorem dX9_definedBy_103 : decode cX9_definedBy 103 = .ok (.goto (-96), 3) := by decide +kernel
theorem dX9_definedBy_106 : decode cX9_definedBy 106 = .ok (.aload_n 0, 1) := by decide +kernel
theorem dX9_definedBy_107 : decode cX9_definedBy 107 = .ok (.getfield 54, 3) := by decide +kernel
theorem dX9_definedBy_110 : decode cX9_definedBy 110 = .ok (.aload_n 0, 1) := by decide +kernel
theorem dX9_definedBy_111 : decode cX9_definedBy 111 = .ok (.getfield 9, 3) := by decide +kernel
theorem dX9_definedBy_114 : decode cX9_definedBy 114 = .ok (.iload_n 1, 1) := by decide +kernel
theorem dX9_definedBy_115 : decode cX9_definedBy 115 = .ok (.iaload, 1) := by decide +kernel
theorem dX9_definedBy_116 : decode cX9_definedBy 116 = .ok (.iaload, 1) := by decide +kernel
theorem dX9_definedBy_117 : decode cX9_definedBy 117 = .ok (.ireturn, 1) := by decide +kernel
theorem dX9_findDefined_0 : decode cX9_findDefined 0 = .ok (.iconst 0, 1) := by decide +kernel
theorem dX9_findDefined_1 : decode cX9_findDefined 1 = .ok (.istore_n 1, 1) := by decide +kernel
theorem dX9_findDefined_2 : decode cX9_findDefined 2 = .ok (.iload_n 1, 1) := by decide +kernel
theorem dX9_findDefined_3 : decode cX9_findDefined 3 = .ok (.bipush 8, 2) := by decide +kernel
theorem dX9_findDefined_5 : decode cX9_findDefined 5 = .ok (.if_icmp .ge 16, 3) := by decide +kernel
theorem dX9_findDefined_8 : decode cX9_findDefined 8 = .ok (.aload_n 0, 1) := by decide +kernel
theorem dX9_findDefined_9 : decode cX9_findDefined 9 = .ok (.getfield 51, 3) := by decide +kernel
theorem dX9_findDefined_12 : decode cX9_findDefined 12 = .ok (.iload_n 1, 1) := by decide +kernel
theorem dX9_findDefined_13 : decode cX9_findDefined 13 = .ok (.iconst 0, 1) := by decide +kernel
theorem dX9_findDefined_14 : decode cX9_findDefined 14 = .ok (.iastore, 1) := by decide +kernel
theorem dX9_findDefined_15 : decode cX9_findDefined 15 = .ok (.iinc 1 1, 3) := by decide +kernel
theorem dX9_findDefined_18 : decode cX9_findDefined 18 = .ok (.goto (-16), 3) := by decide +kernel
theorem dX9_findDefined_21 : decode cX9_findDefined 21 = .ok (.iconst 1, 1) := by decide +kernel
theorem dX9_findDefined_22 : decode cX9_findDefined 22 = .ok (.istore_n 1, 1) := by decide +kernel
theorem dX9_findDefined_23 : decode cX9_findDefined 23 = .ok (.iload_n 1, 1) := by decide +kernel
theorem dX9_findDefined_24 : decode cX9_findDefined 24 = .ok (.ifCond .eq 55, 3) := by decide +kernel
theorem dX9_findDefined_27 : decode cX9_findDefined 27 = .ok (.iconst 0, 1) := by decide +kernel
theorem dX9_findDefined_28 : decode cX9_findDefined 28 = .ok (.istore_n 1, 1) := by decide +kernel
theorem dX9_findDefined_29 : decode cX9_findDefined 29 = .ok (.iconst 0, 1) := by decide +kernel
theorem dX9_findDefined_30 : decode cX9_findDefined 30 = .ok (.istore_n 2, 1) := by decide +kernel
theorem dX9_findDefined_31 : decode cX9_findDefined 31 = .ok (.iload_n 2, 1) := by decide +kernel
theorem dX9_findDefined_32 : decode cX9_findDefined 32 = .ok (.bipush 8, 2) := by decide +kernel
theorem dX9_findDefined_34 : decode cX9_findDefined 34 = .ok (.if_icmp .ge 42, 3) := by decide +kernel
theorem dX9_findDefined_37 : decode cX9_findDefined 37 = .ok (.aload_n 0, 1) := by decide +kernel
theorem dX9_findDefined_38 : decode cX9_findDefined 38 = .ok (.iload_n 2, 1) := by decide +kernel
theorem dX9_findDefined_39 : decode cX9_findDefined 39 = .ok (.invokevirtual 186, 3) := by decide +kernel
theorem dX9_findDefined_42 : decode cX9_findDefined 42 = .ok (.istore_n 3, 1) := by decide +kernel
theorem dX9_findDefined_43 : decode cX9_findDefined 43 = .ok (.iload_n 1, 1) := by decide +kernel
theorem dX9_findDefined_44 : decode cX9_findDefined 44 = .ok (.ifCond .ne 13, 3) := by decide +kernel
theorem dX9_findDefined_47 : decode cX9_findDefined 47 = .ok (.iload_n 3, 1) := by decide +kernel
theorem dX9_findDefined_48 : decode cX9_findDefined 48 = .ok (.aload_n 0, 1) := by decide +kernel
theorem dX9_findDefined_49 : decode cX9_findDefined 49 = .ok (.getfield 51, 3) := by decide +kernel
theorem dX9_findDefined_52 : decode cX9_findDefined 52 = .ok (.iload_n 2, 1) := by decide +kernel
theorem dX9_findDefined_53 : decode cX9_findDefined 53 = .ok (.iaload, 1) := by decide +kernel
theorem dX9_findDefined_54 : decode cX9_findDefined 54 = .ok (.if_icmp .eq 7, 3) := by decide +kernel
theorem dX9_findDefined_57 : decode cX9_findDefined 57 = .ok (.iconst 1, 1) := by decide +kernel
theorem dX9_findDefined_58 : decode cX9_findDefined 58 = .ok (.goto 4, 3) := by decide +kernel
theorem dX9_findDefined_61 : decode cX9_findDefined 61 = .ok (.iconst 0, 1) := by decide +kernel
theorem dX9_findDefined_62 : decode cX9_findDefined 62 = .ok (.istore_n 1, 1) := by decide +kernel
theorem dX9_findDefined_63 : decode cX9_findDefined 63 = .ok (.aload_n 0, 1) := by decide +kernel
theorem dX9_findDefined_64 : decode cX9_findDefined 64 = .ok (.getfield 51, 3) := by decide +kernel
theorem dX9_findDefined_67 : decode cX9_findDefined 67 = .ok (.iload_n 2, 1) := by decide +kernel
theorem dX9_findDefined_68 : decode cX9_findDefined 68 = .ok (.iload_n 3, 1) := by decide +kernel
theorem dX9_findDefined_69 : decode cX9_findDefined 69 = .ok (.iastore, 1) := by decide +kernel
theorem dX9_findDefined_70 : decode cX9_findDefined 70 = .ok (.iinc 2 1, 3) := by decide +kernel
theorem dX9_findDefined_73 : decode cX9_findDefined 73 = .ok (.goto (-42), 3) := by decide +kernel
theorem dX9_findDefined_76 : decode cX9_findDefined 76 = .ok (.goto (-53), 3) := by decide +kernel
theorem dX9_findDefined_79 : decode cX9_findDefined 79 = .ok (.return_, 1) := by decide +kernel
theorem dX9_findPassed_0 : decode cX9_findPassed 0 = .ok (.aload_n 0, 1) := by decide +kernel
theorem dX9_findPassed_1 : decode cX9_findPassed 1 = .ok (.iload_n 1, 1) := by decide +kernel
theorem dX9_findPassed_2 : decode cX9_findPassed 2 = .ok (.invokevirtual 178, 3) := by decide +kernel
theorem dX9_findPassed_5 : decode cX9_findPassed 5 = .ok (.iconst 0, 1) := by decide +kernel
theorem dX9_findPassed_6 : decode cX9_findPassed 6 = .ok (.istore_n 2, 1) := by decide +kernel
theorem dX9_findPassed_7 : decode cX9_findPassed 7 = .ok (.iload_n 2, 1) := by decide +kernel
theorem dX9_findPassed_8 : decode cX9_findPassed 8 = .ok (.aload_n 0, 1) := by decide +kernel
theorem dX9_findPassed_9 : decode cX9_findPassed 9 = .ok (.getfield 9, 3) := by decide +kernel
theorem dX9_findPassed_12 : decode cX9_findPassed 12 = .ok (.iload_n 1, 1) := by decide +kernel
theorem dX9_findPassed_13 : decode cX9_findPassed 13 = .ok (.iaload, 1) := by decide +kernel
theorem dX9_findPassed_14 : decode cX9_findPassed 14 = .ok (.if_icmp .ge 88, 3) := by decide +kernel
theorem dX9_findPassed_17 : decode cX9_findPassed 17 = .ok (.aload_n 0, 1) := by decide +kernel
theorem dX9_findPassed_18 : decode cX9_findPassed 18 = .ok (.iload_n 1, 1) := by decide +kernel
theorem dX9_findPassed_19 : decode cX9_findPassed 19 = .ok (.iload_n 2, 1) := by decide +kernel
theorem dX9_findPassed_20 : decode cX9_findPassed 20 = .ok (.invokevirtual 152, 3) := by decide +kernel
theorem dX9_findPassed_23 : decode cX9_findPassed 23 = .ok (.ifCond .eq 73, 3) := by decide +kernel
theorem dX9_findPassed_26 : decode cX9_findPassed 26 = .ok (.aload_n 0, 1) := by decide +kernel
theorem dX9_findPassed_27 : decode cX9_findPassed 27 = .ok (.getfield 57, 3) := by decide +kernel
theorem dX9_findPassed_30 : decode cX9_findPassed 30 = .ok (.bipush 14, 2) := by decide +kernel
theorem dX9_findPassed_32 : decode cX9_findPassed 32 = .ok (.iload_n 1, 1) := by decide +kernel
theorem dX9_findPassed_33 : decode cX9_findPassed 33 = .ok (.imul, 1) := by decide +kernel
theorem dX9_findPassed_34 : decode cX9_findPassed 34 = .ok (.iload_n 2, 1) := by decide +kernel
theorem dX9_findPassed_35 : decode cX9_findPassed 35 = .ok (.iadd, 1) := by decide +kernel
theorem dX9_findPassed_36 : decode cX9_findPassed 36 = .ok (.aload_n 0, 1) := by decide +kernel
theorem dX9_findPassed_37 : decode cX9_findPassed 37 = .ok (.getfield 54, 3) := by decide +kernel
theorem dX9_findPassed_40 : decode cX9_findPassed 40 = .ok (.iload_n 2, 1) := by decide +kernel
theorem dX9_findPassed_41 : decode cX9_findPassed 41 = .ok (.iaload, 1) := by decide +kernel
theorem dX9_findPassed_42 : decode cX9_findPassed 42 = .ok (.iastore, 1) := by decide +kernel
theorem dX9_findPassed_43 : decode cX9_findPassed 43 = .ok (.aload_n 0, 1) := by decide +kernel
theorem dX9_findPassed_44 : decode cX9_findPassed 44 = .ok (.iload_n 1, 1) := by decide +kernel
theorem dX9_findPassed_45 : decode cX9_findPassed 45 = .ok (.iload_n 2, 1) := by decide +kernel
theorem dX9_findPassed_46 : decode cX9_findPassed 46 = .ok (.invokevirtual 138, 3) := by decide +kernel
theorem dX9_findPassed_49 : decode cX9_findPassed 49 = .ok (.istore_n 3, 1) := by decide +kernel
theorem dX9_findPassed_50 : decode cX9_findPassed 50 = .ok (.aload_n 0, 1) := by decide +kernel
theorem dX9_findPassed_51 : decode cX9_findPassed 51 = .ok (.iload_n 1, 1) := by decide +kernel
theorem dX9_findPassed_52 : decode cX9_findPassed 52 = .ok (.iload_n 2, 1) := by decide +kernel
theorem dX9_findPassed_53 : decode cX9_findPassed 53 = .ok (.iload_n 3, 1) := by decide +kernel
theorem dX9_findPassed_54 : decode cX9_findPassed 54 = .ok (.bipush 99, 2) := by decide +kernel
theorem dX9_findPassed_56 : decode cX9_findPassed 56 = .ok (.if_icmp .ne 7, 3) := by decide +kernel
theorem dX9_findPassed_59 : decode cX9_findPassed 59 = .ok (.iconst 0, 1) := by decide +kernel
theorem dX9_findPassed_60 : decode cX9_findPassed 60 = .ok (.goto 33, 3) := by decide +kernel
theorem dX9_findPassed_63 : decode cX9_findPassed 63 = .ok (.iload_n 3, 1) := by decide +kernel
theorem dX9_findPassed_64 : decode cX9_findPassed 64 = .ok (.bipush 115, 2) := by decide +kernel
theorem dX9_findPassed_66 : decode cX9_findPassed 66 = .ok (.if_icmp .ne 21, 3) := by decide +kernel
theorem dX9_findPassed_69 : decode cX9_findPassed 69 = .ok (.aload_n 0, 1) := by decide +kernel
theorem dX9_findPassed_70 : decode cX9_findPassed 70 = .ok (.getfield 54, 3) := by decide +kernel
theorem dX9_findPassed_73 : decode cX9_findPassed 73 = .ok (.iload_n 2, 1) := by decide +kernel
theorem dX9_findPassed_74 : decode cX9_findPassed 74 = .ok (.iaload, 1) := by decide +kernel
theorem dX9_findPassed_75 : decode cX9_findPassed 75 = .ok (.iconst 1, 1) := by decide +kernel
theorem dX9_findPassed_76 : decode cX9_findPassed 76 = .ok (.aload_n 0, 1) := by decide +kernel
theorem dX9_findPassed_77 : decode cX9_findPassed 77 = .ok (.iload_n 1, 1) := by decide +kernel
theorem dX9_findPassed_78 : decode cX9_findPassed 78 = .ok (.iload_n 2, 1) := by decide +kernel
theorem dX9_findPassed_79 : decode cX9_findPassed 79 = .ok (.invokevirtual 141, 3) := by decide +kernel
theorem dX9_findPassed_82 : decode cX9_findPassed 82 = .ok (.ishl, 1) := by decide +kernel
theorem dX9_findPassed_83 : decode cX9_findPassed 83 = .ok (.ior, 1) := by decide +kernel
theorem dX9_findPassed_84 : decode cX9_findPassed 84 = .ok (.goto 9, 3) := by decide +kernel
theorem dX9_findPassed_87 : decode cX9_findPassed 87 = .ok (.aload_n 0, 1) := by decide +kernel
theorem dX9_findPassed_88 : decode cX9_findPassed 88 = .ok (.getfield 54, 3) := by decide +kernel
theorem dX9_findPassed_91 : decode cX9_findPassed 91 = .ok (.iload_n 2, 1) := by decide +kernel
theorem dX9_findPassed_92 : decode cX9_findPassed 92 = .ok (.iaload, 1) := by decide +kernel
theorem dX9_findPassed_93 : decode cX9_findPassed 93 = .ok (.invokevirtual 182, 3) := by decide +kernel
theorem dX9_findPassed_96 : decode cX9_findPassed 96 = .ok (.iinc 2 1, 3) := by decide +kernel
theorem dX9_findPassed_99 : decode cX9_findPassed 99 = .ok (.goto (-92), 3) := by decide +kernel
theorem dX9_findPassed_102 : decode cX9_findPassed 102 = .ok (.return_, 1) := by decide +kernel
theorem dX9_liveBehind_0 : decode cX9_liveBehind 0 = .ok (.aload_n 0, 1) := by decide +kernel
theorem dX9_liveBehind_1 : decode cX9_liveBehind 1 = .ok (.getfield 66, 3) := by decide +kernel
theorem dX9_liveBehind_4 : decode cX9_liveBehind 4 = .ok (.bipush 15, 2) := by decide +kernel
theorem dX9_liveBehind_6 : decode cX9_liveBehind 6 = .ok (.iload_n 1, 1) := by decide +kernel
theorem dX9_liveBehind_7 : decode cX9_liveBehind 7 = .ok (.imul, 1) := by decide +kernel
theorem dX9_liveBehind_8 : decode cX9_liveBehind 8 = .ok (.aload_n 0, 1) := by decide +kernel
theorem dX9_liveBehind_9 : decode cX9_liveBehind 9 = .ok (.iload_n 1, 1) := by decide +kernel
theorem dX9_liveBehind_10 : decode cX9_liveBehind 10 = .ok (.iload_n 2, 1) := by decide +kernel
theorem dX9_liveBehind_11 : decode cX9_liveBehind 11 = .ok (.iconst 0, 1) := by decide +kernel
theorem dX9_liveBehind_12 : decode cX9_liveBehind 12 = .ok (.invokevirtual 155, 3) := by decide +kernel
theorem dX9_liveBehind_15 : decode cX9_liveBehind 15 = .ok (.iadd, 1) := by decide +kernel
theorem dX9_liveBehind_16 : decode cX9_liveBehind 16 = .ok (.iaload, 1) := by decide +kernel
theorem dX9_liveBehind_17 : decode cX9_liveBehind 17 = .ok (.aload_n 0, 1) := by decide +kernel
theorem dX9_liveBehind_18 : decode cX9_liveBehind 18 = .ok (.getfield 66, 3) := by decide +kernel
theorem dX9_liveBehind_21 : decode cX9_liveBehind 21 = .ok (.bipush 15, 2) := by decide +kernel
theorem dX9_liveBehind_23 : decode cX9_liveBehind 23 = .ok (.iload_n 1, 1) := by decide +kernel
theorem dX9_liveBehind_24 : decode cX9_liveBehind 24 = .ok (.imul, 1) := by decide +kernel
theorem dX9_liveBehind_25 : decode cX9_liveBehind 25 = .ok (.aload_n 0, 1) := by decide +kernel
theorem dX9_liveBehind_26 : decode cX9_liveBehind 26 = .ok (.iload_n 1, 1) := by decide +kernel
theorem dX9_liveBehind_27 : decode cX9_liveBehind 27 = .ok (.iload_n 2, 1) := by decide +kernel
theorem dX9_liveBehind_28 : decode cX9_liveBehind 28 = .ok (.iconst 1, 1) := by decide +kernel
theorem dX9_liveBehind_29 : decode cX9_liveBehind 29 = .ok (.invokevirtual 155, 3) := by decide +kernel
theorem dX9_liveBehind_32 : decode cX9_liveBehind 32 = .ok (.iadd, 1) := by decide +kernel
theorem dX9_liveBehind_33 : decode cX9_liveBehind 33 = .ok (.iaload, 1) := by decide +kernel
theorem dX9_liveBehind_34 : decode cX9_liveBehind 34 = .ok (.ior, 1) := by decide +kernel
theorem dX9_liveBehind_35 : decode cX9_liveBehind 35 = .ok (.ireturn, 1) := by decide +kernel
theorem dX9_reads_0 : decode cX9_reads 0 = .ok (.aload_n 0, 1) := by decide +kernel
theorem dX9_reads_1 : decode cX9_reads 1 = .ok (.iload_n 1, 1) := by decide +kernel
theorem dX9_reads_2 : decode cX9_reads 2 = .ok (.iload_n 2, 1) := by decide +kernel
theorem dX9_reads_3 : decode cX9_reads 3 = .ok (.invokevirtual 138, 3) := by decide +kernel
theorem dX9_reads_6 : decode cX9_reads 6 = .ok (.istore_n 3, 1) := by decide +kernel
theorem dX9_reads_7 : decode cX9_reads 7 = .ok (.iload_n 3, 1) := by decide +kernel
theorem dX9_reads_8 : decode cX9_reads 8 = .ok (.bipush 117, 2) := by decide +kernel
theorem dX9_reads_10 : decode cX9_reads 10 = .ok (.if_icmp .ne 14, 3) := by decide +kernel
theorem dX9_reads_13 : decode cX9_reads 13 = .ok (.iconst 1, 1) := by decide +kernel
theorem dX9_reads_14 : decode cX9_reads 14 = .ok (.aload_n 0, 1) := by decide +kernel
theorem dX9_reads_15 : decode cX9_reads 15 = .ok (.iload_n 1, 1) := by decide +kernel
theorem dX9_reads_16 : decode cX9_reads 16 = .ok (.iload_n 2, 1) := by decide +kernel
theorem dX9_reads_17 : decode cX9_reads 17 = .ok (.invokevirtual 141, 3) := by decide +kernel
theorem dX9_reads_20 : decode cX9_reads 20 = .ok (.ishl, 1) := by decide +kernel
theorem dX9_reads_21 : decode cX9_reads 21 = .ok (.goto 41, 3) := by decide +kernel
theorem dX9_reads_24 : decode cX9_reads 24 = .ok (.iload_n 3, 1) := by decide +kernel
theorem dX9_reads_25 : decode cX9_reads 25 = .ok (.bipush 109, 2) := by decide +kernel
theorem dX9_reads_27 : decode cX9_reads 27 = .ok (.if_icmp .ne 14, 3) := by decide +kernel
theorem dX9_reads_30 : decode cX9_reads 30 = .ok (.iconst 1, 1) := by decide +kernel
theorem dX9_reads_31 : decode cX9_reads 31 = .ok (.aload_n 0, 1) := by decide +kernel
theorem dX9_reads_32 : decode cX9_reads 32 = .ok (.iload_n 1, 1) := by decide +kernel
theorem dX9_reads_33 : decode cX9_reads 33 = .ok (.iload_n 2, 1) := by decide +kernel
theorem dX9_reads_34 : decode cX9_reads 34 = .ok (.invokevirtual 144, 3) := by decide +kernel
theorem dX9_reads_37 : decode cX9_reads 37 = .ok (.ishl, 1) := by decide +kernel
theorem dX9_reads_38 : decode cX9_reads 38 = .ok (.goto 24, 3) := by decide +kernel
theorem dX9_reads_41 : decode cX9_reads 41 = .ok (.iload_n 3, 1) := by decide +kernel
theorem dX9_reads_42 : decode cX9_reads 42 = .ok (.bipush 99, 2) := by decide +kernel
theorem dX9_reads_44 : decode cX9_reads 44 = .ok (.if_icmp .ne 17, 3) := by decide +kernel
theorem dX9_reads_47 : decode cX9_reads 47 = .ok (.aload_n 0, 1) := by decide +kernel
theorem dX9_reads_48 : decode cX9_reads 48 = .ok (.getfield 60, 3) := by decide +kernel
theorem dX9_reads_51 : decode cX9_reads 51 = .ok (.aload_n 0, 1) := by decide +kernel
theorem dX9_reads_52 : decode cX9_reads 52 = .ok (.iload_n 1, 1) := by decide +kernel
theorem dX9_reads_53 : decode cX9_reads 53 = .ok (.iload_n 2, 1) := by decide +kernel
theorem dX9_reads_54 : decode cX9_reads 54 = .ok (.invokevirtual 141, 3) := by decide +kernel
theorem dX9_reads_57 : decode cX9_reads 57 = .ok (.iaload, 1) := by decide +kernel
theorem dX9_reads_58 : decode cX9_reads 58 = .ok (.goto 4, 3) := by decide +kernel
theorem dX9_reads_61 : decode cX9_reads 61 = .ok (.iconst 0, 1) := by decide +kernel
theorem dX9_reads_62 : decode cX9_reads 62 = .ok (.ireturn, 1) := by decide +kernel
theorem dX9_writes_0 : decode cX9_writes 0 = .ok (.aload_n 0, 1) := by decide +kernel
theorem dX9_writes_1 : decode cX9_writes 1 = .ok (.iload_n 1, 1) := by decide +kernel
theorem dX9_writes_2 : decode cX9_writes 2 = .ok (.iload_n 2, 1) := by decide +kernel
theorem dX9_writes_3 : decode cX9_writes 3 = .ok (.invokevirtual 138, 3) := by decide +kernel
theorem dX9_writes_6 : decode cX9_writes 6 = .ok (.istore_n 3, 1) := by decide +kernel
theorem dX9_writes_7 : decode cX9_writes 7 = .ok (.iload_n 3, 1) := by decide +kernel
theorem dX9_writes_8 : decode cX9_writes 8 = .ok (.bipush 100, 2) := by decide +kernel
theorem dX9_writes_10 : decode cX9_writes 10 = .ok (.if_icmp .eq 15, 3) := by decide +kernel
theorem dX9_writes_13 : decode cX9_writes 13 = .ok (.iload_n 3, 1) := by decide +kernel
theorem dX9_writes_14 : decode cX9_writes 14 = .ok (.bipush 109, 2) := by decide +kernel
theorem dX9_writes_16 : decode cX9_writes 16 = .ok (.if_icmp .eq 9, 3) := by decide +kernel
theorem dX9_writes_19 : decode cX9_writes 19 = .ok (.iload_n 3, 1) := by decide +kernel
theorem dX9_writes_20 : decode cX9_writes 20 = .ok (.bipush 45, 2) := by decide +kernel
theorem dX9_writes_22 : decode cX9_writes 22 = .ok (.if_icmp .ne 14, 3) := by decide +kernel
theorem dX9_writes_25 : decode cX9_writes 25 = .ok (.iconst 1, 1) := by decide +kernel
theorem dX9_writes_26 : decode cX9_writes 26 = .ok (.aload_n 0, 1) := by decide +kernel
theorem dX9_writes_27 : decode cX9_writes 27 = .ok (.iload_n 1, 1) := by decide +kernel
theorem dX9_writes_28 : decode cX9_writes 28 = .ok (.iload_n 2, 1) := by decide +kernel
theorem dX9_writes_29 : decode cX9_writes 29 = .ok (.invokevirtual 141, 3) := by decide +kernel
theorem dX9_writes_32 : decode cX9_writes 32 = .ok (.ishl, 1) := by decide +kernel
theorem dX9_writes_33 : decode cX9_writes 33 = .ok (.goto 23, 3) := by decide +kernel
theorem dX9_writes_36 : decode cX9_writes 36 = .ok (.iload_n 3, 1) := by decide +kernel
theorem dX9_writes_37 : decode cX9_writes 37 = .ok (.bipush 99, 2) := by decide +kernel
theorem dX9_writes_39 : decode cX9_writes 39 = .ok (.if_icmp .ne 16, 3) := by decide +kernel
theorem dX9_writes_42 : decode cX9_writes 42 = .ok (.aload_n 0, 1) := by decide +kernel
theorem dX9_writes_43 : decode cX9_writes 43 = .ok (.aload_n 0, 1) := by decide +kernel
theorem dX9_writes_44 : decode cX9_writes 44 = .ok (.iload_n 1, 1) := by decide +kernel
theorem dX9_writes_45 : decode cX9_writes 45 = .ok (.iload_n 2, 1) := by decide +kernel
theorem dX9_writes_46 : decode cX9_writes 46 = .ok (.invokevirtual 141, 3) := by decide +kernel
theorem dX9_writes_49 : decode cX9_writes 49 = .ok (.invokevirtual 189, 3) := by decide +kernel
theorem dX9_writes_52 : decode cX9_writes 52 = .ok (.goto 4, 3) := by decide +kernel
theorem dX9_writes_55 : decode cX9_writes 55 = .ok (.iconst 0, 1) := by decide +kernel
theorem dX9_writes_56 : decode cX9_writes 56 = .ok (.ireturn, 1) := by decide +kernel
theorem dX9_findLive_0 : decode cX9_findLive 0 = .ok (.aload_n 0, 1) := by decide +kernel
theorem dX9_findLive_1 : decode cX9_findLive 1 = .ok (.getfield 66, 3) := by decide +kernel
theorem dX9_findLive_4 : decode cX9_findLive 4 = .ok (.bipush 15, 2) := by decide +kernel
theorem dX9_findLive_6 : decode cX9_findLive 6 = .ok (.iload_n 1, 1) := by decide +kernel
theorem dX9_findLive_7 : decode cX9_findLive 7 = .ok (.imul, 1) := by decide +kernel
theorem dX9_findLive_8 : decode cX9_findLive 8 = .ok (.aload_n 0, 1) := by decide +kernel
theorem dX9_findLive_9 : decode cX9_findLive 9 = .ok (.getfield 9, 3) := by decide +kernel
theorem dX9_findLive_12 : decode cX9_findLive 12 = .ok (.iload_n 1, 1) := by decide +kernel
theorem dX9_findLive_13 : decode cX9_findLive 13 = .ok (.iaload, 1) := by decide +kernel
theorem dX9_findLive_14 : decode cX9_findLive 14 = .ok (.iadd, 1) := by decide +kernel
theorem dX9_findLive_15 : decode cX9_findLive 15 = .ok (.aload_n 0, 1) := by decide +kernel
theorem dX9_findLive_16 : decode cX9_findLive 16 = .ok (.getfield 63, 3) := by decide +kernel
theorem dX9_findLive_19 : decode cX9_findLive 19 = .ok (.iload_n 1, 1) := by decide +kernel
theorem dX9_findLive_20 : decode cX9_findLive 20 = .ok (.iaload, 1) := by decide +kernel
theorem dX9_findLive_21 : decode cX9_findLive 21 = .ok (.iastore, 1) := by decide +kernel
theorem dX9_findLive_22 : decode cX9_findLive 22 = .ok (.aload_n 0, 1) := by decide +kernel
theorem dX9_findLive_23 : decode cX9_findLive 23 = .ok (.getfield 9, 3) := by decide +kernel
theorem dX9_findLive_26 : decode cX9_findLive 26 = .ok (.iload_n 1, 1) := by decide +kernel
theorem dX9_findLive_27 : decode cX9_findLive 27 = .ok (.iaload, 1) := by decide +kernel
theorem dX9_findLive_28 : decode cX9_findLive 28 = .ok (.iconst 1, 1) := by decide +kernel
theorem dX9_findLive_29 : decode cX9_findLive 29 = .ok (.isub, 1) := by decide +kernel
theorem dX9_findLive_30 : decode cX9_findLive 30 = .ok (.istore_n 2, 1) := by decide +kernel
theorem dX9_findLive_31 : decode cX9_findLive 31 = .ok (.iload_n 2, 1) := by decide +kernel
theorem dX9_findLive_32 : decode cX9_findLive 32 = .ok (.ifCond .lt 42, 3) := by decide +kernel
theorem dX9_findLive_35 : decode cX9_findLive 35 = .ok (.aload_n 0, 1) := by decide +kernel
theorem dX9_findLive_36 : decode cX9_findLive 36 = .ok (.getfield 66, 3) := by decide +kernel
theorem dX9_findLive_39 : decode cX9_findLive 39 = .ok (.bipush 15, 2) := by decide +kernel
theorem dX9_findLive_41 : decode cX9_findLive 41 = .ok (.iload_n 1, 1) := by decide +kernel
theorem dX9_findLive_42 : decode cX9_findLive 42 = .ok (.imul, 1) := by decide +kernel
theorem dX9_findLive_43 : decode cX9_findLive 43 = .ok (.iload_n 2, 1) := by decide +kernel
theorem dX9_findLive_44 : decode cX9_findLive 44 = .ok (.iadd, 1) := by decide +kernel
theorem dX9_findLive_45 : decode cX9_findLive 45 = .ok (.aload_n 0, 1) := by decide +kernel
theorem dX9_findLive_46 : decode cX9_findLive 46 = .ok (.iload_n 1, 1) := by decide +kernel
theorem dX9_findLive_47 : decode cX9_findLive 47 = .ok (.iload_n 2, 1) := by decide +kernel
theorem dX9_findLive_48 : decode cX9_findLive 48 = .ok (.invokevirtual 192, 3) := by decide +kernel
theorem dX9_findLive_51 : decode cX9_findLive 51 = .ok (.aload_n 0, 1) := by decide +kernel
theorem dX9_findLive_52 : decode cX9_findLive 52 = .ok (.iload_n 1, 1) := by decide +kernel
theorem dX9_findLive_53 : decode cX9_findLive 53 = .ok (.iload_n 2, 1) := by decide +kernel
theorem dX9_findLive_54 : decode cX9_findLive 54 = .ok (.invokevirtual 195, 3) := by decide +kernel
theorem dX9_findLive_57 : decode cX9_findLive 57 = .ok (.aload_n 0, 1) := by decide +kernel
theorem dX9_findLive_58 : decode cX9_findLive 58 = .ok (.iload_n 1, 1) := by decide +kernel
theorem dX9_findLive_59 : decode cX9_findLive 59 = .ok (.iload_n 2, 1) := by decide +kernel
theorem dX9_findLive_60 : decode cX9_findLive 60 = .ok (.invokevirtual 198, 3) := by decide +kernel
theorem dX9_findLive_63 : decode cX9_findLive 63 = .ok (.iconst (-1), 1) := by decide +kernel
theorem dX9_findLive_64 : decode cX9_findLive 64 = .ok (.ixor, 1) := by decide +kernel
theorem dX9_findLive_65 : decode cX9_findLive 65 = .ok (.iand, 1) := by decide +kernel
theorem dX9_findLive_66 : decode cX9_findLive 66 = .ok (.ior, 1) := by decide +kernel
theorem dX9_findLive_67 : decode cX9_findLive 67 = .ok (.iastore, 1) := by decide +kernel
theorem dX9_findLive_68 : decode cX9_findLive 68 = .ok (.iinc 2 (-1), 3) := by decide +kernel
theorem dX9_findLive_71 : decode cX9_findLive 71 = .ok (.goto (-40), 3) := by decide +kernel
theorem dX9_findLive_74 : decode cX9_findLive 74 = .ok (.return_, 1) := by decide +kernel
theorem dX9_liveBehindCalls_0 : decode cX9_liveBehindCalls 0 = .ok (.iconst 0, 1) := by decide +kernel
theorem dX9_liveBehindCalls_1 : decode cX9_liveBehindCalls 1 = .ok (.istore_n 2, 1) := by decide +kernel
theorem dX9_liveBehindCalls_2 : decode cX9_liveBehindCalls 2 = .ok (.iconst 0, 1) := by decide +kernel
theorem dX9_liveBehindCalls_3 : decode cX9_liveBehindCalls 3 = .ok (.istore_n 3, 1) := by decide +kernel
theorem dX9_liveBehindCalls_4 : decode cX9_liveBehindCalls 4 = .ok (.iload_n 3, 1) := by decide +kernel
theorem dX9_liveBehindCalls_5 : decode cX9_liveBehindCalls 5 = .ok (.aload_n 0, 1) := by decide +kernel
theorem dX9_liveBehindCalls_6 : decode cX9_liveBehindCalls 6 = .ok (.getfield 201, 3) := by decide +kernel
theorem dX9_liveBehindCalls_9 : decode cX9_liveBehindCalls 9 = .ok (.if_icmp .ge 41, 3) := by decide +kernel
theorem dX9_liveBehindCalls_12 : decode cX9_liveBehindCalls 12 = .ok (.iload_n 2, 1) := by decide +kernel
theorem dX9_liveBehindCalls_13 : decode cX9_liveBehindCalls 13 = .ok (.aload_n 0, 1) := by decide +kernel
theorem dX9_liveBehindCalls_14 : decode cX9_liveBehindCalls 14 = .ok (.iload_n 3, 1) := by decide +kernel
theorem dX9_liveBehindCalls_15 : decode cX9_liveBehindCalls 15 = .ok (.invokevirtual 204, 3) := by decide +kernel
theorem dX9_liveBehindCalls_18 : decode cX9_liveBehindCalls 18 = .ok (.iload_n 1, 1) := by decide +kernel
theorem dX9_liveBehindCalls_19 : decode cX9_liveBehindCalls 19 = .ok (.if_icmp .ne 22, 3) := by decide +kernel
theorem dX9_liveBehindCalls_22 : decode cX9_liveBehindCalls 22 = .ok (.aload_n 0, 1) := by decide +kernel
theorem dX9_liveBehindCalls_23 : decode cX9_liveBehindCalls 23 = .ok (.aload_n 0, 1) := by decide +kernel
theorem dX9_liveBehindCalls_24 : decode cX9_liveBehindCalls 24 = .ok (.getfield 69, 3) := by decide +kernel
theorem dX9_liveBehindCalls_27 : decode cX9_liveBehindCalls 27 = .ok (.iload_n 3, 1) := by decide +kernel
theorem dX9_liveBehindCalls_28 : decode cX9_liveBehindCalls 28 = .ok (.iaload, 1) := by decide +kernel
theorem dX9_liveBehindCalls_29 : decode cX9_liveBehindCalls 29 = .ok (.aload_n 0, 1) := by decide +kernel
theorem dX9_liveBehindCalls_30 : decode cX9_liveBehindCalls 30 = .ok (.getfield 72, 3) := by decide +kernel
theorem dX9_liveBehindCalls_33 : decode cX9_liveBehindCalls 33 = .ok (.iload_n 3, 1) := by decide +kernel
theorem dX9_liveBehindCalls_34 : decode cX9_liveBehindCalls 34 = .ok (.iaload, 1) := by decide +kernel
theorem dX9_liveBehindCalls_35 : decode cX9_liveBehindCalls 35 = .ok (.invokevirtual 195, 3) := by decide +kernel
theorem dX9_liveBehindCalls_38 : decode cX9_liveBehindCalls 38 = .ok (.goto 4, 3) := by decide +kernel
theorem dX9_liveBehindCalls_41 : decode cX9_liveBehindCalls 41 = .ok (.iconst 0, 1) := by decide +kernel
theorem dX9_liveBehindCalls_42 : decode cX9_liveBehindCalls 42 = .ok (.ior, 1) := by decide +kernel
theorem dX9_liveBehindCalls_43 : decode cX9_liveBehindCalls 43 = .ok (.istore_n 2, 1) := by decide +kernel
theorem dX9_liveBehindCalls_44 : decode cX9_liveBehindCalls 44 = .ok (.iinc 3 1, 3) := by decide +kernel
theorem dX9_liveBehindCalls_47 : decode cX9_liveBehindCalls 47 = .ok (.goto (-43), 3) := by decide +kernel
theorem dX9_liveBehindCalls_50 : decode cX9_liveBehindCalls 50 = .ok (.iload_n 2, 1) := by decide +kernel
theorem dX9_liveBehindCalls_51 : decode cX9_liveBehindCalls 51 = .ok (.ireturn, 1) := by decide +kernel
theorem dX9_findArguments_0 : decode cX9_findArguments 0 = .ok (.iconst 0, 1) := by decide +kernel
theorem dX9_findArguments_1 : decode cX9_findArguments 1 = .ok (.istore_n 1, 1) := by decide +kernel
theorem dX9_findArguments_2 : decode cX9_findArguments 2 = .ok (.iload_n 1, 1) := by decide +kernel
theorem dX9_findArguments_3 : decode cX9_findArguments 3 = .ok (.bipush 8, 2) := by decide +kernel
theorem dX9_findArguments_5 : decode cX9_findArguments 5 = .ok (.if_icmp .ge 23, 3) := by decide +kernel
theorem dX9_findArguments_8 : decode cX9_findArguments 8 = .ok (.aload_n 0, 1) := by decide +kernel
theorem dX9_findArguments_9 : decode cX9_findArguments 9 = .ok (.getfield 60, 3) := by decide +kernel
theorem dX9_findArguments_12 : decode cX9_findArguments 12 = .ok (.iload_n 1, 1) := by decide +kernel
theorem dX9_findArguments_13 : decode cX9_findArguments 13 = .ok (.iconst 0, 1) := by decide +kernel
theorem dX9_findArguments_14 : decode cX9_findArguments 14 = .ok (.iastore, 1) := by decide +kernel
theorem dX9_findArguments_15 : decode cX9_findArguments 15 = .ok (.aload_n 0, 1) := by decide +kernel
theorem dX9_findArguments_16 : decode cX9_findArguments 16 = .ok (.getfield 63, 3) := by decide +kernel
theorem dX9_findArguments_19 : decode cX9_findArguments 19 = .ok (.iload_n 1, 1) := by decide +kernel
theorem dX9_findArguments_20 : decode cX9_findArguments 20 = .ok (.iconst 0, 1) := by decide +kernel
theorem dX9_findArguments_21 : decode cX9_findArguments 21 = .ok (.iastore, 1) := by decide +kernel
theorem dX9_findArguments_22 : decode cX9_findArguments 22 = .ok (.iinc 1 1, 3) := by decide +kernel
theorem dX9_findArguments_25 : decode cX9_findArguments 25 = .ok (.goto (-23), 3) := by decide +kernel
theorem dX9_findArguments_28 : decode cX9_findArguments 28 = .ok (.iconst 1, 1) := by decide +kernel
theorem dX9_findArguments_29 : decode cX9_findArguments 29 = .ok (.istore_n 1, 1) := by decide +kernel
theorem dX9_findArguments_30 : decode cX9_findArguments 30 = .ok (.iload_n 1, 1) := by decide +kernel
theorem dX9_findArguments_31 : decode cX9_findArguments 31 = .ok (.ifCond .eq 130, 3) := by decide +kernel
theorem dX9_findArguments_34 : decode cX9_findArguments 34 = .ok (.iconst 0, 1) := by decide +kernel
theorem dX9_findArguments_35 : decode cX9_findArguments 35 = .ok (.istore_n 1, 1) := by decide +kernel
theorem dX9_findArguments_36 : decode cX9_findArguments 36 = .ok (.iconst 0, 1) := by decide +kernel
theorem dX9_findArguments_37 : decode cX9_findArguments 37 = .ok (.istore_n 2, 1) := by decide +kernel
theorem dX9_findArguments_38 : decode cX9_findArguments 38 = .ok (.iload_n 2, 1) := by decide +kernel
theorem dX9_findArguments_39 : decode cX9_findArguments 39 = .ok (.bipush 8, 2) := by decide +kernel
theorem dX9_findArguments_41 : decode cX9_findArguments 41 = .ok (.if_icmp .ge 57, 3) := by decide +kernel
theorem dX9_findArguments_44 : decode cX9_findArguments 44 = .ok (.aload_n 0, 1) := by decide +kernel
theorem dX9_findArguments_45 : decode cX9_findArguments 45 = .ok (.iload_n 2, 1) := by decide +kernel
theorem dX9_findArguments_46 : decode cX9_findArguments 46 = .ok (.invokevirtual 207, 3) := by decide +kernel
theorem dX9_findArguments_49 : decode cX9_findArguments 49 = .ok (.iload_n 1, 1) := by decide +kernel
theorem dX9_findArguments_50 : decode cX9_findArguments 50 = .ok (.ifCond .ne 21, 3) := by decide +kernel
theorem dX9_findArguments_53 : decode cX9_findArguments 53 = .ok (.aload_n 0, 1) := by decide +kernel
theorem dX9_findArguments_54 : decode cX9_findArguments 54 = .ok (.getfield 60, 3) := by decide +kernel
theorem dX9_findArguments_57 : decode cX9_findArguments 57 = .ok (.iload_n 2, 1) := by decide +kernel
theorem dX9_findArguments_58 : decode cX9_findArguments 58 = .ok (.iaload, 1) := by decide +kernel
theorem dX9_findArguments_59 : decode cX9_findArguments 59 = .ok (.aload_n 0, 1) := by decide +kernel
theorem dX9_findArguments_60 : decode cX9_findArguments 60 = .ok (.getfield 66, 3) := by decide +kernel
theorem dX9_findArguments_63 : decode cX9_findArguments 63 = .ok (.bipush 15, 2) := by decide +kernel
theorem dX9_findArguments_65 : decode cX9_findArguments 65 = .ok (.iload_n 2, 1) := by decide +kernel
theorem dX9_findArguments_66 : decode cX9_findArguments 66 = .ok (.imul, 1) := by decide +kernel
theorem dX9_findArguments_67 : decode cX9_findArguments 67 = .ok (.iaload, 1) := by decide +kernel
theorem dX9_findArguments_68 : decode cX9_findArguments 68 = .ok (.if_icmp .eq 7, 3) := by decide +kernel
theorem dX9_findArguments_71 : decode cX9_findArguments 71 = .ok (.iconst 1, 1) := by decide +kernel
theorem dX9_findArguments_72 : decode cX9_findArguments 72 = .ok (.goto 4, 3) := by decide +kernel
theorem dX9_findArguments_75 : decode cX9_findArguments 75 = .ok (.iconst 0, 1) := by decide +kernel
theorem dX9_findArguments_76 : decode cX9_findArguments 76 = .ok (.istore_n 1, 1) := by decide +kernel
theorem dX9_findArguments_77 : decode cX9_findArguments 77 = .ok (.aload_n 0, 1) := by decide +kernel
theorem dX9_findArguments_78 : decode cX9_findArguments 78 = .ok (.getfield 60, 3) := by decide +kernel
theorem dX9_findArguments_81 : decode cX9_findArguments 81 = .ok (.iload_n 2, 1) := by decide +kernel
theorem dX9_findArguments_82 : decode cX9_findArguments 82 = .ok (.aload_n 0, 1) := by decide +kernel
theorem dX9_findArguments_83 : decode cX9_findArguments 83 = .ok (.getfield 66, 3) := by decide +kernel
theorem dX9_findArguments_86 : decode cX9_findArguments 86 = .ok (.bipush 15, 2) := by decide +kernel
theorem dX9_findArguments_88 : decode cX9_findArguments 88 = .ok (.iload_n 2, 1) := by decide +kernel
theorem dX9_findArguments_89 : decode cX9_findArguments 89 = .ok (.imul, 1) := by decide +kernel
theorem dX9_findArguments_90 : decode cX9_findArguments 90 = .ok (.iaload, 1) := by decide +kernel
theorem dX9_findArguments_91 : decode cX9_findArguments 91 = .ok (.iastore, 1) := by decide +kernel
theorem dX9_findArguments_92 : decode cX9_findArguments 92 = .ok (.iinc 2 1, 3) := by decide +kernel
theorem dX9_findArguments_95 : decode cX9_findArguments 95 = .ok (.goto (-57), 3) := by decide +kernel
theorem dX9_findArguments_98 : decode cX9_findArguments 98 = .ok (.iconst 0, 1) := by decide +kernel
theorem dX9_findArguments_99 : decode cX9_findArguments 99 = .ok (.istore_n 2, 1) := by decide +kernel
theorem dX9_findArguments_100 : decode cX9_findArguments 100 = .ok (.iload_n 2, 1) := by decide +kernel
theorem dX9_findArguments_101 : decode cX9_findArguments 101 = .ok (.bipush 8, 2) := by decide +kernel
theorem dX9_findArguments_103 : decode cX9_findArguments 103 = .ok (.if_icmp .ge 55, 3) := by decide +kernel
theorem dX9_findArguments_106 : decode cX9_findArguments 106 = .ok (.aload_n 0, 1) := by decide +kernel
theorem dX9_findArguments_107 : decode cX9_findArguments 107 = .ok (.iload_n 2, 1) := by decide +kernel
theorem dX9_findArguments_108 : decode cX9_findArguments 108 = .ok (.invokevirtual 189, 3) := by decide +kernel
theorem dX9_findArguments_111 : decode cX9_findArguments 111 = .ok (.aload_n 0, 1) := by decide +kernel
theorem dX9_findArguments_112 : decode cX9_findArguments 112 = .ok (.getfield 51, 3) := by decide +kernel
theorem dX9_findArguments_115 : decode cX9_findArguments 115 = .ok (.iload_n 2, 1) := by decide +kernel
theorem dX9_findArguments_116 : decode cX9_findArguments 116 = .ok (.iaload, 1) := by decide +kernel
theorem dX9_findArguments_117 : decode cX9_findArguments 117 = .ok (.iand, 1) := by decide +kernel
theorem dX9_findArguments_118 : decode cX9_findArguments 118 = .ok (.aload_n 0, 1) := by decide +kernel
theorem dX9_findArguments_119 : decode cX9_findArguments 119 = .ok (.iload_n 2, 1) := by decide +kernel
theorem dX9_findArguments_120 : decode cX9_findArguments 120 = .ok (.invokevirtual 210, 3) := by decide +kernel
theorem dX9_findArguments_123 : decode cX9_findArguments 123 = .ok (.iand, 1) := by decide +kernel
theorem dX9_findArguments_124 : decode cX9_findArguments 124 = .ok (.istore_n 3, 1) := by decide +kernel
theorem dX9_findArguments_125 : decode cX9_findArguments 125 = .ok (.iload_n 1, 1) := by decide +kernel
theorem dX9_findArguments_126 : decode cX9_findArguments 126 = .ok (.ifCond .ne 13, 3) := by decide +kernel
theorem dX9_findArguments_129 : decode cX9_findArguments 129 = .ok (.aload_n 0, 1) := by decide +kernel
theorem dX9_findArguments_130 : decode cX9_findArguments 130 = .ok (.getfield 63, 3) := by decide +kernel
theorem dX9_findArguments_133 : decode cX9_findArguments 133 = .ok (.iload_n 2, 1) := by decide +kernel
theorem dX9_findArguments_134 : decode cX9_findArguments 134 = .ok (.iaload, 1) := by decide +kernel
theorem dX9_findArguments_135 : decode cX9_findArguments 135 = .ok (.iload_n 3, 1) := by decide +kernel
theorem dX9_findArguments_136 : decode cX9_findArguments 136 = .ok (.if_icmp .eq 7, 3) := by decide +kernel
theorem dX9_findArguments_139 : decode cX9_findArguments 139 = .ok (.iconst 1, 1) := by decide +kernel
theorem dX9_findArguments_140 : decode cX9_findArguments 140 = .ok (.goto 4, 3) := by decide +kernel
theorem dX9_findArguments_143 : decode cX9_findArguments 143 = .ok (.iconst 0, 1) := by decide +kernel
theorem dX9_findArguments_144 : decode cX9_findArguments 144 = .ok (.istore_n 1, 1) := by decide +kernel
theorem dX9_findArguments_145 : decode cX9_findArguments 145 = .ok (.aload_n 0, 1) := by decide +kernel
theorem dX9_findArguments_146 : decode cX9_findArguments 146 = .ok (.getfield 63, 3) := by decide +kernel
theorem dX9_findArguments_149 : decode cX9_findArguments 149 = .ok (.iload_n 2, 1) := by decide +kernel
theorem dX9_findArguments_150 : decode cX9_findArguments 150 = .ok (.iload_n 3, 1) := by decide +kernel
theorem dX9_findArguments_151 : decode cX9_findArguments 151 = .ok (.iastore, 1) := by decide +kernel
theorem dX9_findArguments_152 : decode cX9_findArguments 152 = .ok (.iinc 2 1, 3) := by decide +kernel
theorem dX9_findArguments_155 : decode cX9_findArguments 155 = .ok (.goto (-55), 3) := by decide +kernel
theorem dX9_findArguments_158 : decode cX9_findArguments 158 = .ok (.goto (-128), 3) := by decide +kernel
theorem dX9_findArguments_161 : decode cX9_findArguments 161 = .ok (.return_, 1) := by decide +kernel
theorem dX9_findSites_0 : decode cX9_findSites 0 = .ok (.aload_n 0, 1) := by decide +kernel
theorem dX9_findSites_1 : decode cX9_findSites 1 = .ok (.iconst 0, 1) := by decide +kernel
theorem dX9_findSites_2 : decode cX9_findSites 2 = .ok (.putfield 201, 3) := by decide +kernel
theorem dX9_findSites_5 : decode cX9_findSites 5 = .ok (.iconst 0, 1) := by decide +kernel
theorem dX9_findSites_6 : decode cX9_findSites 6 = .ok (.istore_n 1, 1) := by decide +kernel
theorem dX9_findSites_7 : decode cX9_findSites 7 = .ok (.iload_n 1, 1) := by decide +kernel
theorem dX9_findSites_8 : decode cX9_findSites 8 = .ok (.bipush 8, 2) := by decide +kernel
theorem dX9_findSites_10 : decode cX9_findSites 10 = .ok (.if_icmp .ge 77, 3) := by decide +kernel
theorem dX9_findSites_13 : decode cX9_findSites 13 = .ok (.iconst 0, 1) := by decide +kernel
theorem dX9_findSites_14 : decode cX9_findSites 14 = .ok (.istore_n 2, 1) := by decide +kernel
theorem dX9_findSites_15 : decode cX9_findSites 15 = .ok (.iload_n 2, 1) := by decide +kernel
theorem dX9_findSites_16 : decode cX9_findSites 16 = .ok (.aload_n 0, 1) := by decide +kernel
theorem dX9_findSites_17 : decode cX9_findSites 17 = .ok (.getfield 9, 3) := by decide +kernel
theorem dX9_findSites_20 : decode cX9_findSites 20 = .ok (.iload_n 1, 1) := by decide +kernel
theorem dX9_findSites_21 : decode cX9_findSites 21 = .ok (.iaload, 1) := by decide +kernel
theorem dX9_findSites_22 : decode cX9_findSites 22 = .ok (.if_icmp .ge 59, 3) := by decide +kernel
theorem dX9_findSites_25 : decode cX9_findSites 25 = .ok (.aload_n 0, 1) := by decide +kernel
theorem dX9_findSites_26 : decode cX9_findSites 26 = .ok (.iload_n 1, 1) := by decide +kernel
theorem dX9_findSites_27 : decode cX9_findSites 27 = .ok (.iload_n 2, 1) := by decide +kernel
theorem dX9_findSites_28 : decode cX9_findSites 28 = .ok (.invokevirtual 152, 3) := by decide +kernel
theorem dX9_findSites_31 : decode cX9_findSites 31 = .ok (.ifCond .eq 44, 3) := by decide +kernel
theorem dX9_findSites_34 : decode cX9_findSites 34 = .ok (.aload_n 0, 1) := by decide +kernel
theorem dX9_findSites_35 : decode cX9_findSites 35 = .ok (.iload_n 1, 1) := by decide +kernel
theorem dX9_findSites_36 : decode cX9_findSites 36 = .ok (.iload_n 2, 1) := by decide +kernel
theorem dX9_findSites_37 : decode cX9_findSites 37 = .ok (.invokevirtual 138, 3) := by decide +kernel
theorem dX9_findSites_40 : decode cX9_findSites 40 = .ok (.bipush 99, 2) := by decide +kernel
theorem dX9_findSites_42 : decode cX9_findSites 42 = .ok (.if_icmp .ne 33, 3) := by decide +kernel
theorem dX9_findSites_45 : decode cX9_findSites 45 = .ok (.aload_n 0, 1) := by decide +kernel
theorem dX9_findSites_46 : decode cX9_findSites 46 = .ok (.getfield 69, 3) := by decide +kernel
theorem dX9_findSites_49 : decode cX9_findSites 49 = .ok (.aload_n 0, 1) := by decide +kernel
theorem dX9_findSites_50 : decode cX9_findSites 50 = .ok (.getfield 201, 3) := by decide +kernel
theorem dX9_findSites_53 : decode cX9_findSites 53 = .ok (.iload_n 1, 1) := by decide +kernel
theorem dX9_findSites_54 : decode cX9_findSites 54 = .ok (.iastore, 1) := by decide +kernel
theorem dX9_findSites_55 : decode cX9_findSites 55 = .ok (.aload_n 0, 1) := by decide +kernel
theorem dX9_findSites_56 : decode cX9_findSites 56 = .ok (.getfield 72, 3) := by decide +kernel
theorem dX9_findSites_59 : decode cX9_findSites 59 = .ok (.aload_n 0, 1) := by decide +kernel
theorem dX9_findSites_60 : decode cX9_findSites 60 = .ok (.getfield 201, 3) := by decide +kernel
theorem dX9_findSites_63 : decode cX9_findSites 63 = .ok (.iload_n 2, 1) := by decide +kernel
theorem dX9_findSites_64 : decode cX9_findSites 64 = .ok (.iastore, 1) := by decide +kernel
theorem dX9_findSites_65 : decode cX9_findSites 65 = .ok (.aload_n 0, 1) := by decide +kernel
theorem dX9_findSites_66 : decode cX9_findSites 66 = .ok (.dup, 1) := by decide +kernel
theorem dX9_findSites_67 : decode cX9_findSites 67 = .ok (.getfield 201, 3) := by decide +kernel
theorem dX9_findSites_70 : decode cX9_findSites 70 = .ok (.iconst 1, 1) := by decide +kernel
theorem dX9_findSites_71 : decode cX9_findSites 71 = .ok (.iadd, 1) := by decide +kernel
theorem dX9_findSites_72 : decode cX9_findSites 72 = .ok (.putfield 201, 3) := by decide +kernel
theorem dX9_findSites_75 : decode cX9_findSites 75 = .ok (.iinc 2 1, 3) := by decide +kernel
theorem dX9_findSites_78 : decode cX9_findSites 78 = .ok (.goto (-63), 3) := by decide +kernel
theorem dX9_findSites_81 : decode cX9_findSites 81 = .ok (.iinc 1 1, 3) := by decide +kernel
theorem dX9_findSites_84 : decode cX9_findSites 84 = .ok (.goto (-77), 3) := by decide +kernel
theorem dX9_findSites_87 : decode cX9_findSites 87 = .ok (.return_, 1) := by decide +kernel
theorem dX9_calleeOf_0 : decode cX9_calleeOf 0 = .ok (.aload_n 0, 1) := by decide +kernel
theorem dX9_calleeOf_1 : decode cX9_calleeOf 1 = .ok (.aload_n 0, 1) := by decide +kernel
theorem dX9_calleeOf_2 : decode cX9_calleeOf 2 = .ok (.getfield 69, 3) := by decide +kernel
theorem dX9_calleeOf_5 : decode cX9_calleeOf 5 = .ok (.iload_n 1, 1) := by decide +kernel
theorem dX9_calleeOf_6 : decode cX9_calleeOf 6 = .ok (.iaload, 1) := by decide +kernel
theorem dX9_calleeOf_7 : decode cX9_calleeOf 7 = .ok (.aload_n 0, 1) := by decide +kernel
theorem dX9_calleeOf_8 : decode cX9_calleeOf 8 = .ok (.getfield 72, 3) := by decide +kernel
theorem dX9_calleeOf_11 : decode cX9_calleeOf 11 = .ok (.iload_n 1, 1) := by decide +kernel
theorem dX9_calleeOf_12 : decode cX9_calleeOf 12 = .ok (.iaload, 1) := by decide +kernel
theorem dX9_calleeOf_13 : decode cX9_calleeOf 13 = .ok (.invokevirtual 141, 3) := by decide +kernel
theorem dX9_calleeOf_16 : decode cX9_calleeOf 16 = .ok (.ireturn, 1) := by decide +kernel
theorem dX9_passedAt_0 : decode cX9_passedAt 0 = .ok (.aload_n 0, 1) := by decide +kernel
theorem dX9_passedAt_1 : decode cX9_passedAt 1 = .ok (.getfield 57, 3) := by decide +kernel
theorem dX9_passedAt_4 : decode cX9_passedAt 4 = .ok (.bipush 14, 2) := by decide +kernel
theorem dX9_passedAt_6 : decode cX9_passedAt 6 = .ok (.aload_n 0, 1) := by decide +kernel
theorem dX9_passedAt_7 : decode cX9_passedAt 7 = .ok (.getfield 69, 3) := by decide +kernel
theorem dX9_passedAt_10 : decode cX9_passedAt 10 = .ok (.iload_n 1, 1) := by decide +kernel
theorem dX9_passedAt_11 : decode cX9_passedAt 11 = .ok (.iaload, 1) := by decide +kernel
theorem dX9_passedAt_12 : decode cX9_passedAt 12 = .ok (.imul, 1) := by decide +kernel
theorem dX9_passedAt_13 : decode cX9_passedAt 13 = .ok (.aload_n 0, 1) := by decide +kernel
theorem dX9_passedAt_14 : decode cX9_passedAt 14 = .ok (.getfield 72, 3) := by decide +kernel
theorem dX9_passedAt_17 : decode cX9_passedAt 17 = .ok (.iload_n 1, 1) := by decide +kernel
theorem dX9_passedAt_18 : decode cX9_passedAt 18 = .ok (.iaload, 1) := by decide +kernel
theorem dX9_passedAt_19 : decode cX9_passedAt 19 = .ok (.iadd, 1) := by decide +kernel
theorem dX9_passedAt_20 : decode cX9_passedAt 20 = .ok (.iaload, 1) := by decide +kernel
theorem dX9_passedAt_21 : decode cX9_passedAt 21 = .ok (.ireturn, 1) := by decide +kernel
theorem dX9_infer_0 : decode cX9_infer 0 = .ok (.aload_n 0, 1) := by decide +kernel
theorem dX9_infer_1 : decode cX9_infer 1 = .ok (.getfield 97, 3) := by decide +kernel
theorem dX9_infer_4 : decode cX9_infer 4 = .ok (.ifCond .eq 4, 3) := by decide +kernel
theorem dX9_infer_7 : decode cX9_infer 7 = .ok (.return_, 1) := by decide +kernel
theorem dX9_infer_8 : decode cX9_infer 8 = .ok (.iconst 0, 1) := by decide +kernel
theorem dX9_infer_9 : decode cX9_infer 9 = .ok (.istore_n 1, 1) := by decide +kernel
theorem dX9_infer_10 : decode cX9_infer 10 = .ok (.iload_n 1, 1) := by decide +kernel
theorem dX9_infer_11 : decode cX9_infer 11 = .ok (.bipush 8, 2) := by decide +kernel
theorem dX9_infer_13 : decode cX9_infer 13 = .ok (.if_icmp .ge 19, 3) := by decide +kernel
theorem dX9_infer_16 : decode cX9_infer 16 = .ok (.aload_n 0, 1) := by decide +kernel
theorem dX9_infer_17 : decode cX9_infer 17 = .ok (.iload_n 1, 1) := by decide +kernel
theorem dX9_infer_18 : decode cX9_infer 18 = .ok (.invokevirtual 213, 3) := by decide +kernel
theorem dX9_infer_21 : decode cX9_infer 21 = .ok (.aload_n 0, 1) := by decide +kernel
theorem dX9_infer_22 : decode cX9_infer 22 = .ok (.iload_n 1, 1) := by decide +kernel
theorem dX9_infer_23 : decode cX9_infer 23 = .ok (.invokevirtual 216, 3) := by decide +kernel
theorem dX9_infer_26 : decode cX9_infer 26 = .ok (.iinc 1 1, 3) := by decide +kernel
theorem dX9_infer_29 : decode cX9_infer 29 = .ok (.goto (-19), 3) := by decide +kernel
theorem dX9_infer_32 : decode cX9_infer 32 = .ok (.aload_n 0, 1) := by decide +kernel
theorem dX9_infer_33 : decode cX9_infer 33 = .ok (.invokevirtual 219, 3) := by decide +kernel
theorem dX9_infer_36 : decode cX9_infer 36 = .ok (.aload_n 0, 1) := by decide +kernel
theorem dX9_infer_37 : decode cX9_infer 37 = .ok (.invokevirtual 222, 3) := by decide +kernel
theorem dX9_infer_40 : decode cX9_infer 40 = .ok (.aload_n 0, 1) := by decide +kernel
theorem dX9_infer_41 : decode cX9_infer 41 = .ok (.invokevirtual 225, 3) := by decide +kernel
theorem dX9_infer_44 : decode cX9_infer 44 = .ok (.aload_n 0, 1) := by decide +kernel
theorem dX9_infer_45 : decode cX9_infer 45 = .ok (.invokevirtual 228, 3) := by decide +kernel
theorem dX9_infer_48 : decode cX9_infer 48 = .ok (.aload_n 0, 1) := by decide +kernel
theorem dX9_infer_49 : decode cX9_infer 49 = .ok (.iconst 1, 1) := by decide +kernel
theorem dX9_infer_50 : decode cX9_infer 50 = .ok (.putfield 97, 3) := by decide +kernel
theorem dX9_infer_53 : decode cX9_infer 53 = .ok (.return_, 1) := by decide +kernel
theorem dX9_ofFunction_0 : decode cX9_ofFunction 0 = .ok (.aload_n 0, 1) := by decide +kernel
theorem dX9_ofFunction_1 : decode cX9_ofFunction 1 = .ok (.iload_n 1, 1) := by decide +kernel
theorem dX9_ofFunction_2 : decode cX9_ofFunction 2 = .ok (.invokestatic 93, 3) := by decide +kernel
theorem dX9_ofFunction_5 : decode cX9_ofFunction 5 = .ok (.ifCond .eq 7, 3) := by decide +kernel
theorem dX9_ofFunction_8 : decode cX9_ofFunction 8 = .ok (.iconst 0, 1) := by decide +kernel
theorem dX9_ofFunction_9 : decode cX9_ofFunction 9 = .ok (.goto 4, 3) := by decide +kernel
theorem dX9_ofFunction_12 : decode cX9_ofFunction 12 = .ok (.iconst 1, 1) := by decide +kernel
theorem dX9_ofFunction_13 : decode cX9_ofFunction 13 = .ok (.putfield 84, 3) := by decide +kernel
theorem dX9_ofFunction_16 : decode cX9_ofFunction 16 = .ok (.aload_n 0, 1) := by decide +kernel
theorem dX9_ofFunction_17 : decode cX9_ofFunction 17 = .ok (.getfield 84, 3) := by decide +kernel
theorem dX9_ofFunction_20 : decode cX9_ofFunction 20 = .ok (.ifCond .le 5, 3) := by decide +kernel
theorem dX9_ofFunction_23 : decode cX9_ofFunction 23 = .ok (.iconst 0, 1) := by decide +kernel
theorem dX9_ofFunction_24 : decode cX9_ofFunction 24 = .ok (.ireturn, 1) := by decide +kernel
theorem dX9_ofFunction_25 : decode cX9_ofFunction 25 = .ok (.aload_n 0, 1) := by decide +kernel
theorem dX9_ofFunction_26 : decode cX9_ofFunction 26 = .ok (.invokevirtual 231, 3) := by decide +kernel
theorem dX9_ofFunction_29 : decode cX9_ofFunction 29 = .ok (.aload_n 2, 1) := by decide +kernel
theorem dX9_ofFunction_30 : decode cX9_ofFunction 30 = .ok (.iload_n 1, 1) := by decide +kernel
theorem dX9_ofFunction_31 : decode cX9_ofFunction 31 = .ok (.iaload, 1) := by decide +kernel
theorem dX9_ofFunction_32 : decode cX9_ofFunction 32 = .ok (.ireturn, 1) := by decide +kernel
theorem dX9_isReachable_0 : decode cX9_isReachable 0 = .ok (.aload_n 0, 1) := by decide +kernel
theorem dX9_isReachable_1 : decode cX9_isReachable 1 = .ok (.aload_n 0, 1) := by decide +kernel
theorem dX9_isReachable_2 : decode cX9_isReachable 2 = .ok (.iload_n 1, 1) := by decide +kernel
theorem dX9_isReachable_3 : decode cX9_isReachable 3 = .ok (.iload_n 2, 1) := by decide +kernel
theorem dX9_isReachable_4 : decode cX9_isReachable 4 = .ok (.invokevirtual 134, 3) := by decide +kernel
theorem dX9_isReachable_7 : decode cX9_isReachable 7 = .ok (.ifCond .eq 7, 3) := by decide +kernel
theorem dX9_isReachable_10 : decode cX9_isReachable 10 = .ok (.iconst 0, 1) := by decide +kernel
theorem dX9_isReachable_11 : decode cX9_isReachable 11 = .ok (.goto 4, 3) := by decide +kernel
theorem dX9_isReachable_14 : decode cX9_isReachable 14 = .ok (.iconst 1, 1) := by decide +kernel
theorem dX9_isReachable_15 : decode cX9_isReachable 15 = .ok (.putfield 84, 3) := by decide +kernel
theorem dX9_isReachable_18 : decode cX9_isReachable 18 = .ok (.aload_n 0, 1) := by decide +kernel
theorem dX9_isReachable_19 : decode cX9_isReachable 19 = .ok (.getfield 84, 3) := by decide +kernel
theorem dX9_isReachable_22 : decode cX9_isReachable 22 = .ok (.ifCond .le 5, 3) := by decide +kernel
theorem dX9_isReachable_25 : decode cX9_isReachable 25 = .ok (.iconst 0, 1) := by decide +kernel
theorem dX9_isReachable_26 : decode cX9_isReachable 26 = .ok (.ireturn, 1) := by decide +kernel
theorem dX9_isReachable_27 : decode cX9_isReachable 27 = .ok (.aload_n 0, 1) := by decide +kernel
theorem dX9_isReachable_28 : decode cX9_isReachable 28 = .ok (.invokevirtual 231, 3) := by decide +kernel
theorem dX9_isReachable_31 : decode cX9_isReachable 31 = .ok (.aload_n 0, 1) := by decide +kernel
theorem dX9_isReachable_32 : decode cX9_isReachable 32 = .ok (.iload_n 1, 1) := by decide +kernel
theorem dX9_isReachable_33 : decode cX9_isReachable 33 = .ok (.iload_n 2, 1) := by decide +kernel
theorem dX9_isReachable_34 : decode cX9_isReachable 34 = .ok (.invokevirtual 152, 3) := by decide +kernel
theorem dX9_isReachable_37 : decode cX9_isReachable 37 = .ok (.ireturn, 1) := by decide +kernel
theorem dX9_isBalanced_0 : decode cX9_isBalanced 0 = .ok (.aload_n 0, 1) := by decide +kernel
theorem dX9_isBalanced_1 : decode cX9_isBalanced 1 = .ok (.iload_n 1, 1) := by decide +kernel
theorem dX9_isBalanced_2 : decode cX9_isBalanced 2 = .ok (.invokestatic 93, 3) := by decide +kernel
theorem dX9_isBalanced_5 : decode cX9_isBalanced 5 = .ok (.ifCond .eq 7, 3) := by decide +kernel
theorem dX9_isBalanced_8 : decode cX9_isBalanced 8 = .ok (.iconst 0, 1) := by decide +kernel
theorem dX9_isBalanced_9 : decode cX9_isBalanced 9 = .ok (.goto 4, 3) := by decide +kernel
theorem dX9_isBalanced_12 : decode cX9_isBalanced 12 = .ok (.iconst 1, 1) := by decide +kernel
theorem dX9_isBalanced_13 : decode cX9_isBalanced 13 = .ok (.putfield 84, 3) := by decide +kernel
theorem dX9_isBalanced_16 : decode cX9_isBalanced 16 = .ok (.aload_n 0, 1) := by decide +kernel
theorem dX9_isBalanced_17 : decode cX9_isBalanced 17 = .ok (.getfield 84, 3) := by decide +kernel
theorem dX9_isBalanced_20 : decode cX9_isBalanced 20 = .ok (.ifCond .le 5, 3) := by decide +kernel
theorem dX9_isBalanced_23 : decode cX9_isBalanced 23 = .ok (.iconst 0, 1) := by decide +kernel
theorem dX9_isBalanced_24 : decode cX9_isBalanced 24 = .ok (.ireturn, 1) := by decide +kernel
theorem dX9_isBalanced_25 : decode cX9_isBalanced 25 = .ok (.aload_n 0, 1) := by decide +kernel
theorem dX9_isBalanced_26 : decode cX9_isBalanced 26 = .ok (.invokevirtual 231, 3) := by decide +kernel
theorem dX9_isBalanced_29 : decode cX9_isBalanced 29 = .ok (.aload_n 0, 1) := by decide +kernel
theorem dX9_isBalanced_30 : decode cX9_isBalanced 30 = .ok (.getfield 36, 3) := by decide +kernel
theorem dX9_isBalanced_33 : decode cX9_isBalanced 33 = .ok (.iload_n 1, 1) := by decide +kernel
theorem dX9_isBalanced_34 : decode cX9_isBalanced 34 = .ok (.baload, 1) := by decide +kernel
theorem dX9_isBalanced_35 : decode cX9_isBalanced 35 = .ok (.ireturn, 1) := by decide +kernel
theorem dX9_preserved_0 : decode cX9_preserved 0 = .ok (.aload_n 0, 1) := by decide +kernel
theorem dX9_preserved_1 : decode cX9_preserved 1 = .ok (.iload_n 1, 1) := by decide +kernel
theorem dX9_preserved_2 : decode cX9_preserved 2 = .ok (.aload_n 0, 1) := by decide +kernel
theorem dX9_preserved_3 : decode cX9_preserved 3 = .ok (.getfield 39, 3) := by decide +kernel
theorem dX9_preserved_6 : decode cX9_preserved 6 = .ok (.invokevirtual 234, 3) := by decide +kernel
theorem dX9_preserved_9 : decode cX9_preserved 9 = .ok (.ireturn, 1) := by decide +kernel
theorem dX9_surelyDefined_0 : decode cX9_surelyDefined 0 = .ok (.aload_n 0, 1) := by decide +kernel
theorem dX9_surelyDefined_1 : decode cX9_surelyDefined 1 = .ok (.iload_n 1, 1) := by decide +kernel
theorem dX9_surelyDefined_2 : decode cX9_surelyDefined 2 = .ok (.aload_n 0, 1) := by decide +kernel
theorem dX9_surelyDefined_3 : decode cX9_surelyDefined 3 = .ok (.getfield 51, 3) := by decide +kernel
theorem dX9_surelyDefined_6 : decode cX9_surelyDefined 6 = .ok (.invokevirtual 234, 3) := by decide +kernel
theorem dX9_surelyDefined_9 : decode cX9_surelyDefined 9 = .ok (.ireturn, 1) := by decide +kernel
theorem dX9_arguments_0 : decode cX9_arguments 0 = .ok (.aload_n 0, 1) := by decide +kernel
theorem dX9_arguments_1 : decode cX9_arguments 1 = .ok (.iload_n 1, 1) := by decide +kernel
theorem dX9_arguments_2 : decode cX9_arguments 2 = .ok (.aload_n 0, 1) := by decide +kernel
theorem dX9_arguments_3 : decode cX9_arguments 3 = .ok (.getfield 60, 3) := by decide +kernel
theorem dX9_arguments_6 : decode cX9_arguments 6 = .ok (.invokevirtual 234, 3) := by decide +kernel
theorem dX9_arguments_9 : decode cX9_arguments 9 = .ok (.ireturn, 1) := by decide +kernel
theorem dX9_results_0 : decode cX9_results 0 = .ok (.aload_n 0, 1) := by decide +kernel
theorem dX9_results_1 : decode cX9_results 1 = .ok (.iload_n 1, 1) := by decide +kernel
theorem dX9_results_2 : decode cX9_results 2 = .ok (.aload_n 0, 1) := by decide +kernel
theorem dX9_results_3 : decode cX9_results 3 = .ok (.getfield 63, 3) := by decide +kernel
theorem dX9_results_6 : decode cX9_results 6 = .ok (.invokevirtual 234, 3) := by decide +kernel
theorem dX9_results_9 : decode cX9_results 9 = .ok (.ireturn, 1) := by decide +kernel
theorem dX9_liveBefore_0 : decode cX9_liveBefore 0 = .ok (.aload_n 0, 1) := by decide +kernel
theorem dX9_liveBefore_1 : decode cX9_liveBefore 1 = .ok (.aload_n 0, 1) := by decide +kernel
theorem dX9_liveBefore_2 : decode cX9_liveBefore 2 = .ok (.iload_n 1, 1) := by decide +kernel
theorem dX9_liveBefore_3 : decode cX9_liveBefore 3 = .ok (.iload_n 2, 1) := by decide +kernel
theorem dX9_liveBefore_4 : decode cX9_liveBefore 4 = .ok (.invokevirtual 134, 3) := by decide +kernel
theorem dX9_liveBefore_7 : decode cX9_liveBefore 7 = .ok (.ifCond .eq 7, 3) := by decide +kernel
theorem dX9_liveBefore_10 : decode cX9_liveBefore 10 = .ok (.iconst 0, 1) := by decide +kernel
theorem dX9_liveBefore_11 : decode cX9_liveBefore 11 = .ok (.goto 4, 3) := by decide +kernel
theorem dX9_liveBefore_14 : decode cX9_liveBefore 14 = .ok (.iconst 1, 1) := by decide +kernel
theorem dX9_liveBefore_15 : decode cX9_liveBefore 15 = .ok (.putfield 84, 3) := by decide +kernel
theorem dX9_liveBefore_18 : decode cX9_liveBefore 18 = .ok (.aload_n 0, 1) := by decide +kernel
theorem dX9_liveBefore_19 : decode cX9_liveBefore 19 = .ok (.getfield 84, 3) := by decide +kernel
theorem dX9_liveBefore_22 : decode cX9_liveBefore 22 = .ok (.ifCond .le 5, 3) := by decide +kernel
theorem dX9_liveBefore_25 : decode cX9_liveBefore 25 = .ok (.iconst 0, 1) := by decide +kernel
theorem dX9_liveBefore_26 : decode cX9_liveBefore 26 = .ok (.ireturn, 1) := by decide +kernel
theorem dX9_liveBefore_27 : decode cX9_liveBefore 27 = .ok (.aload_n 0, 1) := by decide +kernel
theorem dX9_liveBefore_28 : decode cX9_liveBefore 28 = .ok (.invokevirtual 231, 3) := by decide +kernel
theorem dX9_liveBefore_31 : decode cX9_liveBefore 31 = .ok (.aload_n 0, 1) := by decide +kernel
theorem dX9_liveBefore_32 : decode cX9_liveBefore 32 = .ok (.aload_n 0, 1) := by decide +kernel
theorem dX9_liveBefore_33 : decode cX9_liveBefore 33 = .ok (.iload_n 1, 1) := by decide +kernel
theorem dX9_liveBefore_34 : decode cX9_liveBefore 34 = .ok (.iload_n 2, 1) := by decide +kernel
theorem dX9_liveBefore_35 : decode cX9_liveBefore 35 = .ok (.invokevirtual 152, 3) := by decide +kernel
theorem dX9_liveBefore_38 : decode cX9_liveBefore 38 = .ok (.ifCond .eq 7, 3) := by decide +kernel
theorem dX9_liveBefore_41 : decode cX9_liveBefore 41 = .ok (.iconst 0, 1) := by decide +kernel
theorem dX9_liveBefore_42 : decode cX9_liveBefore 42 = .ok (.goto 4, 3) := by decide +kernel
theorem dX9_liveBefore_45 : decode cX9_liveBefore 45 = .ok (.iconst 2, 1) := by decide +kernel
theorem dX9_liveBefore_46 : decode cX9_liveBefore 46 = .ok (.putfield 84, 3) := by decide +kernel
theorem dX9_liveBefore_49 : decode cX9_liveBefore 49 = .ok (.aload_n 0, 1) := by decide +kernel
theorem dX9_liveBefore_50 : decode cX9_liveBefore 50 = .ok (.getfield 84, 3) := by decide +kernel
theorem dX9_liveBefore_53 : decode cX9_liveBefore 53 = .ok (.ifCond .le 7, 3) := by decide +kernel
theorem dX9_liveBefore_56 : decode cX9_liveBefore 56 = .ok (.iconst 0, 1) := by decide +kernel
theorem dX9_liveBefore_57 : decode cX9_liveBefore 57 = .ok (.goto 14, 3) := by decide +kernel
theorem dX9_liveBefore_60 : decode cX9_liveBefore 60 = .ok (.aload_n 0, 1) := by decide +kernel
theorem dX9_liveBefore_61 : decode cX9_liveBefore 61 = .ok (.getfield 66, 3) := by decide +kernel
theorem dX9_liveBefore_64 : decode cX9_liveBefore 64 = .ok (.bipush 15, 2) := by decide +kernel
theorem dX9_liveBefore_66 : decode cX9_liveBefore 66 = .ok (.iload_n 1, 1) := by decide +kernel
theorem dX9_liveBefore_67 : decode cX9_liveBefore 67 = .ok (.imul, 1) := by decide +kernel
theorem dX9_liveBefore_68 : decode cX9_liveBefore 68 = .ok (.iload_n 2, 1) := by decide +kernel
theorem dX9_liveBefore_69 : decode cX9_liveBefore 69 = .ok (.iadd, 1) := by decide +kernel
theorem dX9_liveBefore_70 : decode cX9_liveBefore 70 = .ok (.iaload, 1) := by decide +kernel
theorem dX9_liveBefore_71 : decode cX9_liveBefore 71 = .ok (.ireturn, 1) := by decide +kernel
theorem dX9_neededBy_0 : decode cX9_neededBy 0 = .ok (.iconst 0, 1) := by decide +kernel
theorem dX9_neededBy_1 : decode cX9_neededBy 1 = .ok (.istore_n 2, 1) := by decide +kernel
theorem dX9_neededBy_2 : decode cX9_neededBy 2 = .ok (.iconst 0, 1) := by decide +kernel
theorem dX9_neededBy_3 : decode cX9_neededBy 3 = .ok (.istore_n 3, 1) := by decide +kernel
theorem dX9_neededBy_4 : decode cX9_neededBy 4 = .ok (.iload_n 3, 1) := by decide +kernel
theorem dX9_neededBy_5 : decode cX9_neededBy 5 = .ok (.aload_n 0, 1) := by decide +kernel
theorem dX9_neededBy_6 : decode cX9_neededBy 6 = .ok (.getfield 9, 3) := by decide +kernel
theorem dX9_neededBy_9 : decode cX9_neededBy 9 = .ok (.iload_n 1, 1) := by decide +kernel
theorem dX9_neededBy_10 : decode cX9_neededBy 10 = .ok (.iaload, 1) := by decide +kernel
theorem dX9_neededBy_11 : decode cX9_neededBy 11 = .ok (.if_icmp .ge 46, 3) := by decide +kernel
theorem dX9_neededBy_14 : decode cX9_neededBy 14 = .ok (.aload_n 0, 1) := by decide +kernel
theorem dX9_neededBy_15 : decode cX9_neededBy 15 = .ok (.iload_n 1, 1) := by decide +kernel
theorem dX9_neededBy_16 : decode cX9_neededBy 16 = .ok (.iload_n 3, 1) := by decide +kernel
theorem dX9_neededBy_17 : decode cX9_neededBy 17 = .ok (.invokevirtual 152, 3) := by decide +kernel
theorem dX9_neededBy_20 : decode cX9_neededBy 20 = .ok (.ifCond .eq 29, 3) := by decide +kernel
theorem dX9_neededBy_23 : decode cX9_neededBy 23 = .ok (.aload_n 0, 1) := by decide +kernel
theorem dX9_neededBy_24 : decode cX9_neededBy 24 = .ok (.iload_n 1, 1) := by decide +kernel
theorem dX9_neededBy_25 : decode cX9_neededBy 25 = .ok (.iload_n 3, 1) := by decide +kernel
theorem dX9_neededBy_26 : decode cX9_neededBy 26 = .ok (.invokevirtual 138, 3) := by decide +kernel
theorem dX9_neededBy_29 : decode cX9_neededBy 29 = .ok (.bipush 108, 2) := by decide +kernel
theorem dX9_neededBy_31 : decode cX9_neededBy 31 = .ok (.if_icmp .ne 18, 3) := by decide +kernel
theorem dX9_neededBy_34 : decode cX9_neededBy 34 = .ok (.iload_n 2, 1) := by decide +kernel
theorem dX9_neededBy_35 : decode cX9_neededBy 35 = .ok (.aload_n 0, 1) := by decide +kernel
theorem dX9_neededBy_36 : decode cX9_neededBy 36 = .ok (.iload_n 1, 1) := by decide +kernel
theorem dX9_neededBy_37 : decode cX9_neededBy 37 = .ok (.iload_n 3, 1) := by decide +kernel
theorem dX9_neededBy_38 : decode cX9_neededBy 38 = .ok (.invokevirtual 141, 3) := by decide +kernel
theorem dX9_neededBy_41 : decode cX9_neededBy 41 = .ok (.iconst 1, 1) := by decide +kernel
theorem dX9_neededBy_42 : decode cX9_neededBy 42 = .ok (.iadd, 1) := by decide +kernel
theorem dX9_neededBy_43 : decode cX9_neededBy 43 = .ok (.invokestatic 238, 3) := by decide +kernel
theorem dX9_neededBy_46 : decode cX9_neededBy 46 = .ok (.goto 4, 3) := by decide +kernel
theorem dX9_neededBy_49 : decode cX9_neededBy 49 = .ok (.iload_n 2, 1) := by decide +kernel
theorem dX9_neededBy_50 : decode cX9_neededBy 50 = .ok (.istore_n 2, 1) := by decide +kernel
theorem dX9_neededBy_51 : decode cX9_neededBy 51 = .ok (.iinc 3 1, 3) := by decide +kernel
theorem dX9_neededBy_54 : decode cX9_neededBy 54 = .ok (.goto (-50), 3) := by decide +kernel
theorem dX9_neededBy_57 : decode cX9_neededBy 57 = .ok (.iload_n 2, 1) := by decide +kernel
theorem dX9_neededBy_58 : decode cX9_neededBy 58 = .ok (.ireturn, 1) := by decide +kernel
theorem dX9_neededSlots_0 : decode cX9_neededSlots 0 = .ok (.aload_n 0, 1) := by decide +kernel
theorem dX9_neededSlots_1 : decode cX9_neededSlots 1 = .ok (.iload_n 1, 1) := by decide +kernel
theorem dX9_neededSlots_2 : decode cX9_neededSlots 2 = .ok (.invokestatic 93, 3) := by decide +kernel
theorem dX9_neededSlots_5 : decode cX9_neededSlots 5 = .ok (.ifCond .eq 7, 3) := by decide +kernel
theorem dX9_neededSlots_8 : decode cX9_neededSlots 8 = .ok (.iconst 0, 1) := by decide +kernel
theorem dX9_neededSlots_9 : decode cX9_neededSlots 9 = .ok (.goto 4, 3) := by decide +kernel
theorem dX9_neededSlots_12 : decode cX9_neededSlots 12 = .ok (.iconst 1, 1) := by decide +kernel
theorem dX9_neededSlots_13 : decode cX9_neededSlots 13 = .ok (.putfield 84, 3) := by decide +kernel
theorem dX9_neededSlots_16 : decode cX9_neededSlots 16 = .ok (.aload_n 0, 1) := by decide +kernel
theorem dX9_neededSlots_17 : decode cX9_neededSlots 17 = .ok (.getfield 84, 3) := by decide +kernel
theorem dX9_neededSlots_20 : decode cX9_neededSlots 20 = .ok (.ifCond .le 5, 3) := by decide +kernel
theorem dX9_neededSlots_23 : decode cX9_neededSlots 23 = .ok (.iconst 0, 1) := by decide +kernel
theorem dX9_neededSlots_24 : decode cX9_neededSlots 24 = .ok (.ireturn, 1) := by decide +kernel
theorem dX9_neededSlots_25 : decode cX9_neededSlots 25 = .ok (.aload_n 0, 1) := by decide +kernel
theorem dX9_neededSlots_26 : decode cX9_neededSlots 26 = .ok (.invokevirtual 231, 3) := by decide +kernel
theorem dX9_neededSlots_29 : decode cX9_neededSlots 29 = .ok (.aload_n 0, 1) := by decide +kernel
theorem dX9_neededSlots_30 : decode cX9_neededSlots 30 = .ok (.iload_n 1, 1) := by decide +kernel
theorem dX9_neededSlots_31 : decode cX9_neededSlots 31 = .ok (.invokevirtual 241, 3) := by decide +kernel
theorem dX9_neededSlots_34 : decode cX9_neededSlots 34 = .ok (.ireturn, 1) := by decide +kernel
theorem dX9_isVariadic_0 : decode cX9_isVariadic 0 = .ok (.aload_n 0, 1) := by decide +kernel
theorem dX9_isVariadic_1 : decode cX9_isVariadic 1 = .ok (.iload_n 1, 1) := by decide +kernel
theorem dX9_isVariadic_2 : decode cX9_isVariadic 2 = .ok (.invokestatic 93, 3) := by decide +kernel
theorem dX9_isVariadic_5 : decode cX9_isVariadic 5 = .ok (.ifCond .eq 7, 3) := by decide +kernel
theorem dX9_isVariadic_8 : decode cX9_isVariadic 8 = .ok (.iconst 0, 1) := by decide +kernel
theorem dX9_isVariadic_9 : decode cX9_isVariadic 9 = .ok (.goto 4, 3) := by decide +kernel
theorem dX9_isVariadic_12 : decode cX9_isVariadic 12 = .ok (.iconst 1, 1) := by decide +kernel
theorem dX9_isVariadic_13 : decode cX9_isVariadic 13 = .ok (.putfield 84, 3) := by decide +kernel
theorem dX9_isVariadic_16 : decode cX9_isVariadic 16 = .ok (.aload_n 0, 1) := by decide +kernel
theorem dX9_isVariadic_17 : decode cX9_isVariadic 17 = .ok (.getfield 84, 3) := by decide +kernel
theorem dX9_isVariadic_20 : decode cX9_isVariadic 20 = .ok (.ifCond .le 5, 3) := by decide +kernel
theorem dX9_isVariadic_23 : decode cX9_isVariadic 23 = .ok (.iconst 0, 1) := by decide +kernel
theorem dX9_isVariadic_24 : decode cX9_isVariadic 24 = .ok (.ireturn, 1) := by decide +kernel
theorem dX9_isVariadic_25 : decode cX9_isVariadic 25 = .ok (.aload_n 0, 1) := by decide +kernel
theorem dX9_isVariadic_26 : decode cX9_isVariadic 26 = .ok (.invokevirtual 231, 3) := by decide +kernel
theorem dX9_isVariadic_29 : decode cX9_isVariadic 29 = .ok (.iconst 0, 1) := by decide +kernel
theorem dX9_isVariadic_30 : decode cX9_isVariadic 30 = .ok (.istore_n 2, 1) := by decide +kernel
theorem dX9_isVariadic_31 : decode cX9_isVariadic 31 = .ok (.iconst 0, 1) := by decide +kernel
theorem dX9_isVariadic_32 : decode cX9_isVariadic 32 = .ok (.istore_n 3, 1) := by decide +kernel
theorem dX9_isVariadic_33 : decode cX9_isVariadic 33 = .ok (.iload_n 3, 1) := by decide +kernel
theorem dX9_isVariadic_34 : decode cX9_isVariadic 34 = .ok (.aload_n 0, 1) := by decide +kernel
theorem dX9_isVariadic_35 : decode cX9_isVariadic 35 = .ok (.getfield 201, 3) := by decide +kernel
theorem dX9_isVariadic_38 : decode cX9_isVariadic 38 = .ok (.if_icmp .ge 67, 3) := by decide +kernel
theorem dX9_isVariadic_41 : decode cX9_isVariadic 41 = .ok (.iconst 0, 1) := by decide +kernel
theorem dX9_isVariadic_42 : decode cX9_isVariadic 42 = .ok (.istore 4, 2) := by decide +kernel
theorem dX9_isVariadic_44 : decode cX9_isVariadic 44 = .ok (.iload 4, 2) := by decide +kernel
theorem dX9_isVariadic_46 : decode cX9_isVariadic 46 = .ok (.iload_n 3, 1) := by decide +kernel
theorem dX9_isVariadic_47 : decode cX9_isVariadic 47 = .ok (.if_icmp .ge 52, 3) := by decide +kernel
theorem dX9_isVariadic_50 : decode cX9_isVariadic 50 = .ok (.iload_n 2, 1) := by decide +kernel
theorem dX9_isVariadic_51 : decode cX9_isVariadic 51 = .ok (.ifCond .ne 36, 3) := by decide +kernel
theorem dX9_isVariadic_54 : decode cX9_isVariadic 54 = .ok (.aload_n 0, 1) := by decide +kernel
theorem dX9_isVariadic_55 : decode cX9_isVariadic 55 = .ok (.iload_n 3, 1) := by decide +kernel
theorem dX9_isVariadic_56 : decode cX9_isVariadic 56 = .ok (.invokevirtual 204, 3) := by decide +kernel
theorem dX9_isVariadic_59 : decode cX9_isVariadic 59 = .ok (.iload_n 1, 1) := by decide +kernel
theorem dX9_isVariadic_60 : decode cX9_isVariadic 60 = .ok (.if_icmp .ne 31, 3) := by decide +kernel
theorem dX9_isVariadic_63 : decode cX9_isVariadic 63 = .ok (.aload_n 0, 1) := by decide +kernel
theorem dX9_isVariadic_64 : decode cX9_isVariadic 64 = .ok (.iload 4, 2) := by decide +kernel
theorem dX9_isVariadic_66 : decode cX9_isVariadic 66 = .ok (.invokevirtual 204, 3) := by decide +kernel
theorem dX9_isVariadic_69 : decode cX9_isVariadic 69 = .ok (.iload_n 1, 1) := by decide +kernel
theorem dX9_isVariadic_70 : decode cX9_isVariadic 70 = .ok (.if_icmp .ne 21, 3) := by decide +kernel
theorem dX9_isVariadic_73 : decode cX9_isVariadic 73 = .ok (.aload_n 0, 1) := by decide +kernel
theorem dX9_isVariadic_74 : decode cX9_isVariadic 74 = .ok (.iload_n 3, 1) := by decide +kernel
theorem dX9_isVariadic_75 : decode cX9_isVariadic 75 = .ok (.invokevirtual 244, 3) := by decide +kernel
theorem dX9_isVariadic_78 : decode cX9_isVariadic 78 = .ok (.aload_n 0, 1) := by decide +kernel
theorem dX9_isVariadic_79 : decode cX9_isVariadic 79 = .ok (.iload 4, 2) := by decide +kernel
theorem dX9_isVariadic_81 : decode cX9_isVariadic 81 = .ok (.invokevirtual 244, 3) := by decide +kernel
theorem dX9_isVariadic_84 : decode cX9_isVariadic 84 = .ok (.if_icmp .eq 7, 3) := by decide +kernel
theorem dX9_isVariadic_87 : decode cX9_isVariadic 87 = .ok (.iconst 1, 1) := by decide +kernel
theorem dX9_isVariadic_88 : decode cX9_isVariadic 88 = .ok (.goto 4, 3) := by decide +kernel
theorem dX9_isVariadic_91 : decode cX9_isVariadic 91 = .ok (.iconst 0, 1) := by decide +kernel
theorem dX9_isVariadic_92 : decode cX9_isVariadic 92 = .ok (.istore_n 2, 1) := by decide +kernel
theorem dX9_isVariadic_93 : decode cX9_isVariadic 93 = .ok (.iinc 4 1, 3) := by decide +kernel
theorem dX9_isVariadic_96 : decode cX9_isVariadic 96 = .ok (.goto (-52), 3) := by decide +kernel
theorem dX9_isVariadic_99 : decode cX9_isVariadic 99 = .ok (.iinc 3 1, 3) := by decide +kernel
theorem dX9_isVariadic_102 : decode cX9_isVariadic 102 = .ok (.goto (-69), 3) := by decide +kernel
theorem dX9_isVariadic_105 : decode cX9_isVariadic 105 = .ok (.iload_n 2, 1) := by decide +kernel
theorem dX9_isVariadic_106 : decode cX9_isVariadic 106 = .ok (.ireturn, 1) := by decide +kernel
theorem dX9_calleesOf_0 : decode cX9_calleesOf 0 = .ok (.iconst 0, 1) := by decide +kernel
theorem dX9_calleesOf_1 : decode cX9_calleesOf 1 = .ok (.istore_n 2, 1) := by decide +kernel
theorem dX9_calleesOf_2 : decode cX9_calleesOf 2 = .ok (.iconst 0, 1) := by decide +kernel
theorem dX9_calleesOf_3 : decode cX9_calleesOf 3 = .ok (.istore_n 3, 1) := by decide +kernel
theorem dX9_calleesOf_4 : decode cX9_calleesOf 4 = .ok (.iload_n 3, 1) := by decide +kernel
theorem dX9_calleesOf_5 : decode cX9_calleesOf 5 = .ok (.aload_n 0, 1) := by decide +kernel
theorem dX9_calleesOf_6 : decode cX9_calleesOf 6 = .ok (.getfield 201, 3) := by decide +kernel
theorem dX9_calleesOf_9 : decode cX9_calleesOf 9 = .ok (.if_icmp .ge 33, 3) := by decide +kernel
theorem dX9_calleesOf_12 : decode cX9_calleesOf 12 = .ok (.iload_n 2, 1) := by decide +kernel
theorem dX9_calleesOf_13 : decode cX9_calleesOf 13 = .ok (.aload_n 0, 1) := by decide +kernel
theorem dX9_calleesOf_14 : decode cX9_calleesOf 14 = .ok (.getfield 69, 3) := by decide +kernel
theorem dX9_calleesOf_17 : decode cX9_calleesOf 17 = .ok (.iload_n 3, 1) := by decide +kernel
theorem dX9_calleesOf_18 : decode cX9_calleesOf 18 = .ok (.iaload, 1) := by decide +kernel
theorem dX9_calleesOf_19 : decode cX9_calleesOf 19 = .ok (.iload_n 1, 1) := by decide +kernel
theorem dX9_calleesOf_20 : decode cX9_calleesOf 20 = .ok (.if_icmp .ne 13, 3) := by decide +kernel
theorem dX9_calleesOf_23 : decode cX9_calleesOf 23 = .ok (.iconst 1, 1) := by decide +kernel
theorem dX9_calleesOf_24 : decode cX9_calleesOf 24 = .ok (.aload_n 0, 1) := by decide +kernel
theorem dX9_calleesOf_25 : decode cX9_calleesOf 25 = .ok (.iload_n 3, 1) := by decide +kernel
theorem dX9_calleesOf_26 : decode cX9_calleesOf 26 = .ok (.invokevirtual 204, 3) := by decide +kernel
theorem dX9_calleesOf_29 : decode cX9_calleesOf 29 = .ok (.ishl, 1) := by decide +kernel
theorem dX9_calleesOf_30 : decode cX9_calleesOf 30 = .ok (.goto 4, 3) := by decide +kernel
theorem dX9_calleesOf_33 : decode cX9_calleesOf 33 = .ok (.iconst 0, 1) := by decide +kernel
theorem dX9_calleesOf_34 : decode cX9_calleesOf 34 = .ok (.ior, 1) := by decide +kernel
theorem dX9_calleesOf_35 : decode cX9_calleesOf 35 = .ok (.istore_n 2, 1) := by decide +kernel
theorem dX9_calleesOf_36 : decode cX9_calleesOf 36 = .ok (.iinc 3 1, 3) := by decide +kernel
theorem dX9_calleesOf_39 : decode cX9_calleesOf 39 = .ok (.goto (-35), 3) := by decide +kernel
theorem dX9_calleesOf_42 : decode cX9_calleesOf 42 = .ok (.iload_n 2, 1) := by decide +kernel
theorem dX9_calleesOf_43 : decode cX9_calleesOf 43 = .ok (.ireturn, 1) := by decide +kernel
theorem dX9_callees_0 : decode cX9_callees 0 = .ok (.aload_n 0, 1) := by decide +kernel
theorem dX9_callees_1 : decode cX9_callees 1 = .ok (.iload_n 1, 1) := by decide +kernel
theorem dX9_callees_2 : decode cX9_callees 2 = .ok (.invokestatic 93, 3) := by decide +kernel
theorem dX9_callees_5 : decode cX9_callees 5 = .ok (.ifCond .eq 7, 3) := by decide +kernel
theorem dX9_callees_8 : decode cX9_callees 8 = .ok (.iconst 0, 1) := by decide +kernel
theorem dX9_callees_9 : decode cX9_callees 9 = .ok (.goto 4, 3) := by decide +kernel
theorem dX9_callees_12 : decode cX9_callees 12 = .ok (.iconst 1, 1) := by decide +kernel
theorem dX9_callees_13 : decode cX9_callees 13 = .ok (.putfield 84, 3) := by decide +kernel
theorem dX9_callees_16 : decode cX9_callees 16 = .ok (.aload_n 0, 1) := by decide +kernel
theorem dX9_callees_17 : decode cX9_callees 17 = .ok (.getfield 84, 3) := by decide +kernel
theorem dX9_callees_20 : decode cX9_callees 20 = .ok (.ifCond .le 5, 3) := by decide +kernel
theorem dX9_callees_23 : decode cX9_callees 23 = .ok (.iconst 0, 1) := by decide +kernel
theorem dX9_callees_24 : decode cX9_callees 24 = .ok (.ireturn, 1) := by decide +kernel
theorem dX9_callees_25 : decode cX9_callees 25 = .ok (.aload_n 0, 1) := by decide +kernel
theorem dX9_callees_26 : decode cX9_callees 26 = .ok (.invokevirtual 231, 3) := by decide +kernel
theorem dX9_callees_29 : decode cX9_callees 29 = .ok (.aload_n 0, 1) := by decide +kernel
theorem dX9_callees_30 : decode cX9_callees 30 = .ok (.iload_n 1, 1) := by decide +kernel
theorem dX9_callees_31 : decode cX9_callees 31 = .ok (.invokevirtual 247, 3) := by decide +kernel
theorem dX9_callees_34 : decode cX9_callees 34 = .ok (.ireturn, 1) := by decide +kernel
theorem dX9_callersOf_0 : decode cX9_callersOf 0 = .ok (.aload_n 0, 1) := by decide +kernel
theorem dX9_callersOf_1 : decode cX9_callersOf 1 = .ok (.iload_n 1, 1) := by decide +kernel
theorem dX9_callersOf_2 : decode cX9_callersOf 2 = .ok (.invokestatic 93, 3) := by decide +kernel
theorem dX9_callersOf_5 : decode cX9_callersOf 5 = .ok (.ifCond .eq 7, 3) := by decide +kernel
theorem dX9_callersOf_8 : decode cX9_callersOf 8 = .ok (.iconst 0, 1) := by decide +kernel
theorem dX9_callersOf_9 : decode cX9_callersOf 9 = .ok (.goto 4, 3) := by decide +kernel
theorem dX9_callersOf_12 : decode cX9_callersOf 12 = .ok (.iconst 1, 1) := by decide +kernel
theorem dX9_callersOf_13 : decode cX9_callersOf 13 = .ok (.putfield 84, 3) := by decide +kernel
theorem dX9_callersOf_16 : decode cX9_callersOf 16 = .ok (.aload_n 0, 1) := by decide +kernel
theorem dX9_callersOf_17 : decode cX9_callersOf 17 = .ok (.getfield 84, 3) := by decide +kernel
theorem dX9_callersOf_20 : decode cX9_callersOf 20 = .ok (.ifCond .le 5, 3) := by decide +kernel
theorem dX9_callersOf_23 : decode cX9_callersOf 23 = .ok (.iconst 0, 1) := by decide +kernel
theorem dX9_callersOf_24 : decode cX9_callersOf 24 = .ok (.ireturn, 1) := by decide +kernel
theorem dX9_callersOf_25 : decode cX9_callersOf 25 = .ok (.aload_n 0, 1) := by decide +kernel
theorem dX9_callersOf_26 : decode cX9_callersOf 26 = .ok (.invokevirtual 231, 3) := by decide +kernel
theorem dX9_callersOf_29 : decode cX9_callersOf 29 = .ok (.iconst 0, 1) := by decide +kernel
theorem dX9_callersOf_30 : decode cX9_callersOf 30 = .ok (.istore_n 2, 1) := by decide +kernel
theorem dX9_callersOf_31 : decode cX9_callersOf 31 = .ok (.iconst 0, 1) := by decide +kernel
theorem dX9_callersOf_32 : decode cX9_callersOf 32 = .ok (.istore_n 3, 1) := by decide +kernel
theorem dX9_callersOf_33 : decode cX9_callersOf 33 = .ok (.iload_n 3, 1) := by decide +kernel
theorem dX9_callersOf_34 : decode cX9_callersOf 34 = .ok (.aload_n 0, 1) := by decide +kernel
theorem dX9_callersOf_35 : decode cX9_callersOf 35 = .ok (.getfield 201, 3) := by decide +kernel
theorem dX9_callersOf_38 : decode cX9_callersOf 38 = .ok (.if_icmp .ge 33, 3) := by decide +kernel
theorem dX9_callersOf_41 : decode cX9_callersOf 41 = .ok (.iload_n 2, 1) := by decide +kernel
theorem dX9_callersOf_42 : decode cX9_callersOf 42 = .ok (.aload_n 0, 1) := by decide +kernel
theorem dX9_callersOf_43 : decode cX9_callersOf 43 = .ok (.iload_n 3, 1) := by decide +kernel
theorem dX9_callersOf_44 : decode cX9_callersOf 44 = .ok (.invokevirtual 204, 3) := by decide +kernel
theorem dX9_callersOf_47 : decode cX9_callersOf 47 = .ok (.iload_n 1, 1) := by decide +kernel
theorem dX9_callersOf_48 : decode cX9_callersOf 48 = .ok (.if_icmp .ne 14, 3) := by decide +kernel
theorem dX9_callersOf_51 : decode cX9_callersOf 51 = .ok (.iconst 1, 1) := by decide +kernel
theorem dX9_callersOf_52 : decode cX9_callersOf 52 = .ok (.aload_n 0, 1) := by decide +kernel
theorem dX9_callersOf_53 : decode cX9_callersOf 53 = .ok (.getfield 69, 3) := by decide +kernel
theorem dX9_callersOf_56 : decode cX9_callersOf 56 = .ok (.iload_n 3, 1) := by decide +kernel
theorem dX9_callersOf_57 : decode cX9_callersOf 57 = .ok (.iaload, 1) := by decide +kernel
theorem dX9_callersOf_58 : decode cX9_callersOf 58 = .ok (.ishl, 1) := by decide +kernel
theorem dX9_callersOf_59 : decode cX9_callersOf 59 = .ok (.goto 4, 3) := by decide +kernel
theorem dX9_callersOf_62 : decode cX9_callersOf 62 = .ok (.iconst 0, 1) := by decide +kernel
theorem dX9_callersOf_63 : decode cX9_callersOf 63 = .ok (.ior, 1) := by decide +kernel
theorem dX9_callersOf_64 : decode cX9_callersOf 64 = .ok (.istore_n 2, 1) := by decide +kernel
theorem dX9_callersOf_65 : decode cX9_callersOf 65 = .ok (.iinc 3 1, 3) := by decide +kernel
theorem dX9_callersOf_68 : decode cX9_callersOf 68 = .ok (.goto (-35), 3) := by decide +kernel
theorem dX9_callersOf_71 : decode cX9_callersOf 71 = .ok (.iload_n 2, 1) := by decide +kernel
theorem dX9_callersOf_72 : decode cX9_callersOf 72 = .ok (.ireturn, 1) := by decide +kernel
theorem dX9_isRecursive_0 : decode cX9_isRecursive 0 = .ok (.aload_n 0, 1) := by decide +kernel
theorem dX9_isRecursive_1 : decode cX9_isRecursive 1 = .ok (.iload_n 1, 1) := by decide +kernel
theorem dX9_isRecursive_2 : decode cX9_isRecursive 2 = .ok (.invokestatic 93, 3) := by decide +kernel
theorem dX9_isRecursive_5 : decode cX9_isRecursive 5 = .ok (.ifCond .eq 7, 3) := by decide +kernel
theorem dX9_isRecursive_8 : decode cX9_isRecursive 8 = .ok (.iconst 0, 1) := by decide +kernel
theorem dX9_isRecursive_9 : decode cX9_isRecursive 9 = .ok (.goto 4, 3) := by decide +kernel
theorem dX9_isRecursive_12 : decode cX9_isRecursive 12 = .ok (.iconst 1, 1) := by decide +kernel
theorem dX9_isRecursive_13 : decode cX9_isRecursive 13 = .ok (.putfield 84, 3) := by decide +kernel
theorem dX9_isRecursive_16 : decode cX9_isRecursive 16 = .ok (.aload_n 0, 1) := by decide +kernel
theorem dX9_isRecursive_17 : decode cX9_isRecursive 17 = .ok (.getfield 84, 3) := by decide +kernel
theorem dX9_isRecursive_20 : decode cX9_isRecursive 20 = .ok (.ifCond .le 5, 3) := by decide +kernel
theorem dX9_isRecursive_23 : decode cX9_isRecursive 23 = .ok (.iconst 0, 1) := by decide +kernel
theorem dX9_isRecursive_24 : decode cX9_isRecursive 24 = .ok (.ireturn, 1) := by decide +kernel
theorem dX9_isRecursive_25 : decode cX9_isRecursive 25 = .ok (.aload_n 0, 1) := by decide +kernel
theorem dX9_isRecursive_26 : decode cX9_isRecursive 26 = .ok (.invokevirtual 231, 3) := by decide +kernel
theorem dX9_isRecursive_29 : decode cX9_isRecursive 29 = .ok (.aload_n 0, 1) := by decide +kernel
theorem dX9_isRecursive_30 : decode cX9_isRecursive 30 = .ok (.iload_n 1, 1) := by decide +kernel
theorem dX9_isRecursive_31 : decode cX9_isRecursive 31 = .ok (.invokevirtual 247, 3) := by decide +kernel
theorem dX9_isRecursive_34 : decode cX9_isRecursive 34 = .ok (.istore_n 2, 1) := by decide +kernel
theorem dX9_isRecursive_35 : decode cX9_isRecursive 35 = .ok (.iconst 0, 1) := by decide +kernel
theorem dX9_isRecursive_36 : decode cX9_isRecursive 36 = .ok (.istore_n 3, 1) := by decide +kernel
theorem dX9_isRecursive_37 : decode cX9_isRecursive 37 = .ok (.iload_n 3, 1) := by decide +kernel
theorem dX9_isRecursive_38 : decode cX9_isRecursive 38 = .ok (.bipush 8, 2) := by decide +kernel
theorem dX9_isRecursive_40 : decode cX9_isRecursive 40 = .ok (.if_icmp .ge 48, 3) := by decide +kernel
theorem dX9_isRecursive_43 : decode cX9_isRecursive 43 = .ok (.iconst 0, 1) := by decide +kernel
theorem dX9_isRecursive_44 : decode cX9_isRecursive 44 = .ok (.istore 4, 2) := by decide +kernel
theorem dX9_isRecursive_46 : decode cX9_isRecursive 46 = .ok (.iload 4, 2) := by decide +kernel
theorem dX9_isRecursive_48 : decode cX9_isRecursive 48 = .ok (.bipush 8, 2) := by decide +kernel
theorem dX9_isRecursive_50 : decode cX9_isRecursive 50 = .ok (.if_icmp .ge 32, 3) := by decide +kernel
theorem dX9_isRecursive_53 : decode cX9_isRecursive 53 = .ok (.iload_n 2, 1) := by decide +kernel
theorem dX9_isRecursive_54 : decode cX9_isRecursive 54 = .ok (.iload_n 2, 1) := by decide +kernel
theorem dX9_isRecursive_55 : decode cX9_isRecursive 55 = .ok (.iload 4, 2) := by decide +kernel
theorem dX9_isRecursive_57 : decode cX9_isRecursive 57 = .ok (.ishr, 1) := by decide +kernel
theorem dX9_isRecursive_58 : decode cX9_isRecursive 58 = .ok (.iconst 1, 1) := by decide +kernel
theorem dX9_isRecursive_59 : decode cX9_isRecursive 59 = .ok (.iand, 1) := by decide +kernel
theorem dX9_isRecursive_60 : decode cX9_isRecursive 60 = .ok (.iconst 1, 1) := by decide +kernel
theorem dX9_isRecursive_61 : decode cX9_isRecursive 61 = .ok (.if_icmp .ne 12, 3) := by decide +kernel
theorem dX9_isRecursive_64 : decode cX9_isRecursive 64 = .ok (.aload_n 0, 1) := by decide +kernel
theorem dX9_isRecursive_65 : decode cX9_isRecursive 65 = .ok (.iload 4, 2) := by decide +kernel
theorem dX9_isRecursive_67 : decode cX9_isRecursive 67 = .ok (.invokevirtual 247, 3) := by decide +kernel
theorem dX9_isRecursive_70 : decode cX9_isRecursive 70 = .ok (.goto 4, 3) := by decide +kernel
theorem dX9_isRecursive_73 : decode cX9_isRecursive 73 = .ok (.iconst 0, 1) := by decide +kernel
theorem dX9_isRecursive_74 : decode cX9_isRecursive 74 = .ok (.ior, 1) := by decide +kernel
theorem dX9_isRecursive_75 : decode cX9_isRecursive 75 = .ok (.istore_n 2, 1) := by decide +kernel
theorem dX9_isRecursive_76 : decode cX9_isRecursive 76 = .ok (.iinc 4 1, 3) := by decide +kernel
theorem dX9_isRecursive_79 : decode cX9_isRecursive 79 = .ok (.goto (-33), 3) := by decide +kernel
theorem dX9_isRecursive_82 : decode cX9_isRecursive 82 = .ok (.iinc 3 1, 3) := by decide +kernel
theorem dX9_isRecursive_85 : decode cX9_isRecursive 85 = .ok (.goto (-48), 3) := by decide +kernel
theorem dX9_isRecursive_88 : decode cX9_isRecursive 88 = .ok (.iload_n 2, 1) := by decide +kernel
theorem dX9_isRecursive_89 : decode cX9_isRecursive 89 = .ok (.iload_n 1, 1) := by decide +kernel
theorem dX9_isRecursive_90 : decode cX9_isRecursive 90 = .ok (.ishr, 1) := by decide +kernel
theorem dX9_isRecursive_91 : decode cX9_isRecursive 91 = .ok (.iconst 1, 1) := by decide +kernel
theorem dX9_isRecursive_92 : decode cX9_isRecursive 92 = .ok (.iand, 1) := by decide +kernel
theorem dX9_isRecursive_93 : decode cX9_isRecursive 93 = .ok (.iconst 1, 1) := by decide +kernel
theorem dX9_isRecursive_94 : decode cX9_isRecursive 94 = .ok (.if_icmp .ne 7, 3) := by decide +kernel
theorem dX9_isRecursive_97 : decode cX9_isRecursive 97 = .ok (.iconst 1, 1) := by decide +kernel
theorem dX9_isRecursive_98 : decode cX9_isRecursive 98 = .ok (.goto 4, 3) := by decide +kernel
theorem dX9_isRecursive_101 : decode cX9_isRecursive 101 = .ok (.iconst 0, 1) := by decide +kernel
theorem dX9_isRecursive_102 : decode cX9_isRecursive 102 = .ok (.ireturn, 1) := by decide +kernel
theorem dX9_siteCount_0 : decode cX9_siteCount 0 = .ok (.aload_n 0, 1) := by decide +kernel
theorem dX9_siteCount_1 : decode cX9_siteCount 1 = .ok (.iconst 0, 1) := by decide +kernel
theorem dX9_siteCount_2 : decode cX9_siteCount 2 = .ok (.putfield 84, 3) := by decide +kernel
theorem dX9_siteCount_5 : decode cX9_siteCount 5 = .ok (.aload_n 0, 1) := by decide +kernel
theorem dX9_siteCount_6 : decode cX9_siteCount 6 = .ok (.invokevirtual 231, 3) := by decide +kernel
theorem dX9_siteCount_9 : decode cX9_siteCount 9 = .ok (.aload_n 0, 1) := by decide +kernel
theorem dX9_siteCount_10 : decode cX9_siteCount 10 = .ok (.getfield 201, 3) := by decide +kernel
theorem dX9_siteCount_13 : decode cX9_siteCount 13 = .ok (.ireturn, 1) := by decide +kernel
theorem dX9_isSite_0 : decode cX9_isSite 0 = .ok (.aload_n 0, 1) := by decide +kernel
theorem dX9_isSite_1 : decode cX9_isSite 1 = .ok (.invokevirtual 231, 3) := by decide +kernel
theorem dX9_isSite_4 : decode cX9_isSite 4 = .ok (.iload_n 1, 1) := by decide +kernel
theorem dX9_isSite_5 : decode cX9_isSite 5 = .ok (.i2l, 1) := by decide +kernel
theorem dX9_isSite_6 : decode cX9_isSite 6 = .ok (.lconst 0, 1) := by decide +kernel
theorem dX9_isSite_7 : decode cX9_isSite 7 = .ok (.aload_n 0, 1) := by decide +kernel
theorem dX9_isSite_8 : decode cX9_isSite 8 = .ok (.getfield 201, 3) := by decide +kernel
theorem dX9_isSite_11 : decode cX9_isSite 11 = .ok (.iconst 1, 1) := by decide +kernel
theorem dX9_isSite_12 : decode cX9_isSite 12 = .ok (.isub, 1) := by decide +kernel
theorem dX9_isSite_13 : decode cX9_isSite 13 = .ok (.i2l, 1) := by decide +kernel
theorem dX9_isSite_14 : decode cX9_isSite 14 = .ok (.invokestatic 89, 3) := by decide +kernel
theorem dX9_isSite_17 : decode cX9_isSite 17 = .ok (.ireturn, 1) := by decide +kernel
theorem dX9_site_0 : decode cX9_site 0 = .ok (.aload_n 0, 1) := by decide +kernel
theorem dX9_site_1 : decode cX9_site 1 = .ok (.aload_n 0, 1) := by decide +kernel
theorem dX9_site_2 : decode cX9_site 2 = .ok (.iload_n 1, 1) := by decide +kernel
theorem dX9_site_3 : decode cX9_site 3 = .ok (.invokevirtual 250, 3) := by decide +kernel
theorem dX9_site_6 : decode cX9_site 6 = .ok (.ifCond .ne 7, 3) := by decide +kernel
theorem dX9_site_9 : decode cX9_site 9 = .ok (.iconst 1, 1) := by decide +kernel
theorem dX9_site_10 : decode cX9_site 10 = .ok (.goto 20, 3) := by decide +kernel
theorem dX9_site_13 : decode cX9_site 13 = .ok (.iload_n 2, 1) := by decide +kernel
theorem dX9_site_14 : decode cX9_site 14 = .ok (.i2l, 1) := by decide +kernel
theorem dX9_site_15 : decode cX9_site 15 = .ok (.lconst 0, 1) := by decide +kernel
theorem dX9_site_16 : decode cX9_site 16 = .ok (.ldc2_w 253, 3) := by decide +kernel
theorem dX9_site_19 : decode cX9_site 19 = .ok (.invokestatic 89, 3) := by decide +kernel
theorem dX9_site_22 : decode cX9_site 22 = .ok (.ifCond .ne 7, 3) := by decide +kernel
theorem dX9_site_25 : decode cX9_site 25 = .ok (.iconst 2, 1) := by decide +kernel
theorem dX9_site_26 : decode cX9_site 26 = .ok (.goto 4, 3) := by decide +kernel
theorem dX9_site_29 : decode cX9_site 29 = .ok (.iconst 0, 1) := by decide +kernel
theorem dX9_site_30 : decode cX9_site 30 = .ok (.putfield 84, 3) := by decide +kernel
theorem dX9_site_33 : decode cX9_site 33 = .ok (.aload_n 0, 1) := by decide +kernel
theorem dX9_site_34 : decode cX9_site 34 = .ok (.getfield 84, 3) := by decide +kernel
theorem dX9_site_37 : decode cX9_site 37 = .ok (.ifCond .le 5, 3) := by decide +kernel
theorem dX9_site_40 : decode cX9_site 40 = .ok (.iconst 0, 1) := by decide +kernel
theorem dX9_site_41 : decode cX9_site 41 = .ok (.ireturn, 1) := by decide +kernel
theorem dX9_site_42 : decode cX9_site 42 = .ok (.iload_n 2, 1) := by decide +kernel
theorem dX9_site_43 : decode cX9_site 43 = .ok (.ifCond .ne 12, 3) := by decide +kernel
theorem dX9_site_46 : decode cX9_site 46 = .ok (.aload_n 0, 1) := by decide +kernel
theorem dX9_site_47 : decode cX9_site 47 = .ok (.getfield 69, 3) := by decide +kernel
theorem dX9_site_50 : decode cX9_site 50 = .ok (.iload_n 1, 1) := by decide +kernel
theorem dX9_site_51 : decode cX9_site 51 = .ok (.iaload, 1) := by decide +kernel
theorem dX9_site_52 : decode cX9_site 52 = .ok (.goto 22, 3) := by decide +kernel
theorem dX9_site_55 : decode cX9_site 55 = .ok (.iload_n 2, 1) := by decide +kernel
theorem dX9_site_56 : decode cX9_site 56 = .ok (.iconst 1, 1) := by decide +kernel
theorem dX9_site_57 : decode cX9_site 57 = .ok (.if_icmp .ne 12, 3) := by decide +kernel
theorem dX9_site_60 : decode cX9_site 60 = .ok (.aload_n 0, 1) := by decide +kernel
theorem dX9_site_61 : decode cX9_site 61 = .ok (.getfield 72, 3) := by decide +kernel
theorem dX9_site_64 : decode cX9_site 64 = .ok (.iload_n 1, 1) := by decide +kernel
theorem dX9_site_65 : decode cX9_site 65 = .ok (.iaload, 1) := by decide +kernel
theorem dX9_site_66 : decode cX9_site 66 = .ok (.goto 8, 3) := by decide +kernel
theorem dX9_site_69 : decode cX9_site 69 = .ok (.aload_n 0, 1) := by decide +kernel
theorem dX9_site_70 : decode cX9_site 70 = .ok (.iload_n 1, 1) := by decide +kernel
theorem dX9_site_71 : decode cX9_site 71 = .ok (.invokevirtual 204, 3) := by decide +kernel
theorem dX9_site_74 : decode cX9_site 74 = .ok (.ireturn, 1) := by decide +kernel
theorem dX9_passedSlots_0 : decode cX9_passedSlots 0 = .ok (.aload_n 0, 1) := by decide +kernel
theorem dX9_passedSlots_1 : decode cX9_passedSlots 1 = .ok (.aload_n 0, 1) := by decide +kernel
theorem dX9_passedSlots_2 : decode cX9_passedSlots 2 = .ok (.iload_n 1, 1) := by decide +kernel
theorem dX9_passedSlots_3 : decode cX9_passedSlots 3 = .ok (.invokevirtual 250, 3) := by decide +kernel
theorem dX9_passedSlots_6 : decode cX9_passedSlots 6 = .ok (.ifCond .eq 7, 3) := by decide +kernel
theorem dX9_passedSlots_9 : decode cX9_passedSlots 9 = .ok (.iconst 0, 1) := by decide +kernel
theorem dX9_passedSlots_10 : decode cX9_passedSlots 10 = .ok (.goto 4, 3) := by decide +kernel
theorem dX9_passedSlots_13 : decode cX9_passedSlots 13 = .ok (.iconst 1, 1) := by decide +kernel
theorem dX9_passedSlots_14 : decode cX9_passedSlots 14 = .ok (.putfield 84, 3) := by decide +kernel
theorem dX9_passedSlots_17 : decode cX9_passedSlots 17 = .ok (.aload_n 0, 1) := by decide +kernel
theorem dX9_passedSlots_18 : decode cX9_passedSlots 18 = .ok (.getfield 84, 3) := by decide +kernel
theorem dX9_passedSlots_21 : decode cX9_passedSlots 21 = .ok (.ifCond .le 7, 3) := by decide +kernel
theorem dX9_passedSlots_24 : decode cX9_passedSlots 24 = .ok (.iconst 0, 1) := by decide +kernel
theorem dX9_passedSlots_25 : decode cX9_passedSlots 25 = .ok (.goto 8, 3) := by decide +kernel
theorem dX9_passedSlots_28 : decode cX9_passedSlots 28 = .ok (.aload_n 0, 1) := by decide +kernel
theorem dX9_passedSlots_29 : decode cX9_passedSlots 29 = .ok (.iload_n 1, 1) := by decide +kernel
theorem dX9_passedSlots_30 : decode cX9_passedSlots 30 = .ok (.invokevirtual 244, 3) := by decide +kernel
theorem dX9_passedSlots_33 : decode cX9_passedSlots 33 = .ok (.ireturn, 1) := by decide +kernel
theorem dX9_missingAt_0 : decode cX9_missingAt 0 = .ok (.iconst 1, 1) := by decide +kernel
theorem dX9_missingAt_1 : decode cX9_missingAt 1 = .ok (.aload_n 0, 1) := by decide +kernel
theorem dX9_missingAt_2 : decode cX9_missingAt 2 = .ok (.aload_n 0, 1) := by decide +kernel
theorem dX9_missingAt_3 : decode cX9_missingAt 3 = .ok (.iload_n 1, 1) := by decide +kernel
theorem dX9_missingAt_4 : decode cX9_missingAt 4 = .ok (.invokevirtual 204, 3) := by decide +kernel
theorem dX9_missingAt_7 : decode cX9_missingAt 7 = .ok (.invokevirtual 241, 3) := by decide +kernel
theorem dX9_missingAt_10 : decode cX9_missingAt 10 = .ok (.ishl, 1) := by decide +kernel
theorem dX9_missingAt_11 : decode cX9_missingAt 11 = .ok (.iconst 1, 1) := by decide +kernel
theorem dX9_missingAt_12 : decode cX9_missingAt 12 = .ok (.isub, 1) := by decide +kernel
theorem dX9_missingAt_13 : decode cX9_missingAt 13 = .ok (.aload_n 0, 1) := by decide +kernel
theorem dX9_missingAt_14 : decode cX9_missingAt 14 = .ok (.iload_n 1, 1) := by decide +kernel
theorem dX9_missingAt_15 : decode cX9_missingAt 15 = .ok (.invokevirtual 244, 3) := by decide +kernel
theorem dX9_missingAt_18 : decode cX9_missingAt 18 = .ok (.iconst (-1), 1) := by decide +kernel
theorem dX9_missingAt_19 : decode cX9_missingAt 19 = .ok (.ixor, 1) := by decide +kernel
theorem dX9_missingAt_20 : decode cX9_missingAt 20 = .ok (.iand, 1) := by decide +kernel
theorem dX9_missingAt_21 : decode cX9_missingAt 21 = .ok (.ireturn, 1) := by decide +kernel
theorem dX9_missingSlots_0 : decode cX9_missingSlots 0 = .ok (.aload_n 0, 1) := by decide +kernel
theorem dX9_missingSlots_1 : decode cX9_missingSlots 1 = .ok (.aload_n 0, 1) := by decide +kernel
theorem dX9_missingSlots_2 : decode cX9_missingSlots 2 = .ok (.iload_n 1, 1) := by decide +kernel
theorem dX9_missingSlots_3 : decode cX9_missingSlots 3 = .ok (.invokevirtual 250, 3) := by decide +kernel
theorem dX9_missingSlots_6 : decode cX9_missingSlots 6 = .ok (.ifCond .eq 7, 3) := by decide +kernel
theorem dX9_missingSlots_9 : decode cX9_missingSlots 9 = .ok (.iconst 0, 1) := by decide +kernel
theorem dX9_missingSlots_10 : decode cX9_missingSlots 10 = .ok (.goto 4, 3) := by decide +kernel
theorem dX9_missingSlots_13 : decode cX9_missingSlots 13 = .ok (.iconst 1, 1) := by decide +kernel
theorem dX9_missingSlots_14 : decode cX9_missingSlots 14 = .ok (.putfield 84, 3) := by decide +kernel
theorem dX9_missingSlots_17 : decode cX9_missingSlots 17 = .ok (.aload_n 0, 1) := by decide +kernel
theorem dX9_missingSlots_18 : decode cX9_missingSlots 18 = .ok (.getfield 84, 3) := by decide +kernel
theorem dX9_missingSlots_21 : decode cX9_missingSlots 21 = .ok (.ifCond .le 7, 3) := by decide +kernel
theorem dX9_missingSlots_24 : decode cX9_missingSlots 24 = .ok (.iconst 0, 1) := by decide +kernel
theorem dX9_missingSlots_25 : decode cX9_missingSlots 25 = .ok (.goto 8, 3) := by decide +kernel
theorem dX9_missingSlots_28 : decode cX9_missingSlots 28 = .ok (.aload_n 0, 1) := by decide +kernel
theorem dX9_missingSlots_29 : decode cX9_missingSlots 29 = .ok (.iload_n 1, 1) := by decide +kernel
theorem dX9_missingSlots_30 : decode cX9_missingSlots 30 = .ok (.invokevirtual 255, 3) := by decide +kernel
theorem dX9_missingSlots_33 : decode cX9_missingSlots 33 = .ok (.ireturn, 1) := by decide +kernel
theorem dX9_lostAt_0 : decode cX9_lostAt 0 = .ok (.aload_n 0, 1) := by decide +kernel
theorem dX9_lostAt_1 : decode cX9_lostAt 1 = .ok (.iload_n 1, 1) := by decide +kernel
theorem dX9_lostAt_2 : decode cX9_lostAt 2 = .ok (.invokevirtual 204, 3) := by decide +kernel
theorem dX9_lostAt_5 : decode cX9_lostAt 5 = .ok (.istore_n 2, 1) := by decide +kernel
theorem dX9_lostAt_6 : decode cX9_lostAt 6 = .ok (.aload_n 0, 1) := by decide +kernel
theorem dX9_lostAt_7 : decode cX9_lostAt 7 = .ok (.aload_n 0, 1) := by decide +kernel
theorem dX9_lostAt_8 : decode cX9_lostAt 8 = .ok (.getfield 69, 3) := by decide +kernel
theorem dX9_lostAt_11 : decode cX9_lostAt 11 = .ok (.iload_n 1, 1) := by decide +kernel
theorem dX9_lostAt_12 : decode cX9_lostAt 12 = .ok (.iaload, 1) := by decide +kernel
theorem dX9_lostAt_13 : decode cX9_lostAt 13 = .ok (.aload_n 0, 1) := by decide +kernel
theorem dX9_lostAt_14 : decode cX9_lostAt 14 = .ok (.getfield 72, 3) := by decide +kernel
theorem dX9_lostAt_17 : decode cX9_lostAt 17 = .ok (.iload_n 1, 1) := by decide +kernel
theorem dX9_lostAt_18 : decode cX9_lostAt 18 = .ok (.iaload, 1) := by decide +kernel
theorem dX9_lostAt_19 : decode cX9_lostAt 19 = .ok (.invokevirtual 195, 3) := by decide +kernel
theorem dX9_lostAt_22 : decode cX9_lostAt 22 = .ok (.aload_n 0, 1) := by decide +kernel
theorem dX9_lostAt_23 : decode cX9_lostAt 23 = .ok (.iload_n 2, 1) := by decide +kernel
theorem dX9_lostAt_24 : decode cX9_lostAt 24 = .ok (.invokevirtual 189, 3) := by decide +kernel
theorem dX9_lostAt_27 : decode cX9_lostAt 27 = .ok (.iand, 1) := by decide +kernel
theorem dX9_lostAt_28 : decode cX9_lostAt 28 = .ok (.aload_n 0, 1) := by decide +kernel
theorem dX9_lostAt_29 : decode cX9_lostAt 29 = .ok (.getfield 51, 3) := by decide +kernel
theorem dX9_lostAt_32 : decode cX9_lostAt 32 = .ok (.iload_n 2, 1) := by decide +kernel
theorem dX9_lostAt_33 : decode cX9_lostAt 33 = .ok (.iaload, 1) := by decide +kernel
theorem dX9_lostAt_34 : decode cX9_lostAt 34 = .ok (.iconst (-1), 1) := by decide +kernel
theorem dX9_lostAt_35 : decode cX9_lostAt 35 = .ok (.ixor, 1) := by decide +kernel
theorem dX9_lostAt_36 : decode cX9_lostAt 36 = .ok (.iand, 1) := by decide +kernel
theorem dX9_lostAt_37 : decode cX9_lostAt 37 = .ok (.ireturn, 1) := by decide +kernel
theorem dX9_lostRegisters_0 : decode cX9_lostRegisters 0 = .ok (.aload_n 0, 1) := by decide +kernel
theorem dX9_lostRegisters_1 : decode cX9_lostRegisters 1 = .ok (.aload_n 0, 1) := by decide +kernel
theorem dX9_lostRegisters_2 : decode cX9_lostRegisters 2 = .ok (.iload_n 1, 1) := by decide +kernel
theorem dX9_lostRegisters_3 : decode cX9_lostRegisters 3 = .ok (.invokevirtual 250, 3) := by decide +kernel
theorem dX9_lostRegisters_6 : decode cX9_lostRegisters 6 = .ok (.ifCond .eq 7, 3) := by decide +kernel
theorem dX9_lostRegisters_9 : decode cX9_lostRegisters 9 = .ok (.iconst 0, 1) := by decide +kernel
theorem dX9_lostRegisters_10 : decode cX9_lostRegisters 10 = .ok (.goto 4, 3) := by decide +kernel
theorem dX9_lostRegisters_13 : decode cX9_lostRegisters 13 = .ok (.iconst 1, 1) := by decide +kernel
theorem dX9_lostRegisters_14 : decode cX9_lostRegisters 14 = .ok (.putfield 84, 3) := by decide +kernel
theorem dX9_lostRegisters_17 : decode cX9_lostRegisters 17 = .ok (.aload_n 0, 1) := by decide +kernel
theorem dX9_lostRegisters_18 : decode cX9_lostRegisters 18 = .ok (.getfield 84, 3) := by decide +kernel
theorem dX9_lostRegisters_21 : decode cX9_lostRegisters 21 = .ok (.ifCond .le 7, 3) := by decide +kernel
theorem dX9_lostRegisters_24 : decode cX9_lostRegisters 24 = .ok (.iconst 0, 1) := by decide +kernel
theorem dX9_lostRegisters_25 : decode cX9_lostRegisters 25 = .ok (.goto 8, 3) := by decide +kernel
theorem dX9_lostRegisters_28 : decode cX9_lostRegisters 28 = .ok (.aload_n 0, 1) := by decide +kernel
theorem dX9_lostRegisters_29 : decode cX9_lostRegisters 29 = .ok (.iload_n 1, 1) := by decide +kernel
theorem dX9_lostRegisters_30 : decode cX9_lostRegisters 30 = .ok (.invokevirtual 258, 3) := by decide +kernel
theorem dX9_lostRegisters_33 : decode cX9_lostRegisters 33 = .ok (.ireturn, 1) := by decide +kernel
theorem dX9_liveBehind__0 : decode cX9_liveBehind_ 0 = .ok (.aload_n 0, 1) := by decide +kernel
theorem dX9_liveBehind__1 : decode cX9_liveBehind_ 1 = .ok (.aload_n 0, 1) := by decide +kernel
theorem dX9_liveBehind__2 : decode cX9_liveBehind_ 2 = .ok (.iload_n 1, 1) := by decide +kernel
theorem dX9_liveBehind__3 : decode cX9_liveBehind_ 3 = .ok (.invokevirtual 250, 3) := by decide +kernel
theorem dX9_liveBehind__6 : decode cX9_liveBehind_ 6 = .ok (.ifCond .eq 7, 3) := by decide +kernel
theorem dX9_liveBehind__9 : decode cX9_liveBehind_ 9 = .ok (.iconst 0, 1) := by decide +kernel
theorem dX9_liveBehind__10 : decode cX9_liveBehind_ 10 = .ok (.goto 4, 3) := by decide +kernel
theorem dX9_liveBehind__13 : decode cX9_liveBehind_ 13 = .ok (.iconst 1, 1) := by decide +kernel
theorem dX9_liveBehind__14 : decode cX9_liveBehind_ 14 = .ok (.putfield 84, 3) := by decide +kernel
theorem dX9_liveBehind__17 : decode cX9_liveBehind_ 17 = .ok (.aload_n 0, 1) := by decide +kernel
theorem dX9_liveBehind__18 : decode cX9_liveBehind_ 18 = .ok (.getfield 84, 3) := by decide +kernel
theorem dX9_liveBehind__21 : decode cX9_liveBehind_ 21 = .ok (.ifCond .le 7, 3) := by decide +kernel
theorem dX9_liveBehind__24 : decode cX9_liveBehind_ 24 = .ok (.iconst 0, 1) := by decide +kernel
theorem dX9_liveBehind__25 : decode cX9_liveBehind_ 25 = .ok (.goto 19, 3) := by decide +kernel
theorem dX9_liveBehind__28 : decode cX9_liveBehind_ 28 = .ok (.aload_n 0, 1) := by decide +kernel
theorem dX9_liveBehind__29 : decode cX9_liveBehind_ 29 = .ok (.aload_n 0, 1) := by decide +kernel
theorem dX9_liveBehind__30 : decode cX9_liveBehind_ 30 = .ok (.getfield 69, 3) := by decide +kernel
theorem dX9_liveBehind__33 : decode cX9_liveBehind_ 33 = .ok (.iload_n 1, 1) := by decide +kernel
theorem dX9_liveBehind__34 : decode cX9_liveBehind_ 34 = .ok (.iaload, 1) := by decide +kernel
theorem dX9_liveBehind__35 : decode cX9_liveBehind_ 35 = .ok (.aload_n 0, 1) := by decide +kernel
theorem dX9_liveBehind__36 : decode cX9_liveBehind_ 36 = .ok (.getfield 72, 3) := by decide +kernel
theorem dX9_liveBehind__39 : decode cX9_liveBehind_ 39 = .ok (.iload_n 1, 1) := by decide +kernel
theorem dX9_liveBehind__40 : decode cX9_liveBehind_ 40 = .ok (.iaload, 1) := by decide +kernel
theorem dX9_liveBehind__41 : decode cX9_liveBehind_ 41 = .ok (.invokevirtual 195, 3) := by decide +kernel
theorem dX9_liveBehind__44 : decode cX9_liveBehind_ 44 = .ok (.ireturn, 1) := by decide +kernel
theorem dX9_isProblem_0 : decode cX9_isProblem 0 = .ok (.aload_n 0, 1) := by decide +kernel
theorem dX9_isProblem_1 : decode cX9_isProblem 1 = .ok (.iload_n 1, 1) := by decide +kernel
theorem dX9_isProblem_2 : decode cX9_isProblem 2 = .ok (.invokevirtual 255, 3) := by decide +kernel
theorem dX9_isProblem_5 : decode cX9_isProblem 5 = .ok (.ifCond .ne 11, 3) := by decide +kernel
theorem dX9_isProblem_8 : decode cX9_isProblem 8 = .ok (.aload_n 0, 1) := by decide +kernel
theorem dX9_isProblem_9 : decode cX9_isProblem 9 = .ok (.iload_n 1, 1) := by decide +kernel
theorem dX9_isProblem_10 : decode cX9_isProblem 10 = .ok (.invokevirtual 258, 3) := by decide +kernel
theorem dX9_isProblem_13 : decode cX9_isProblem 13 = .ok (.ifCond .eq 7, 3) := by decide +kernel
theorem dX9_isProblem_16 : decode cX9_isProblem 16 = .ok (.iconst 1, 1) := by decide +kernel
theorem dX9_isProblem_17 : decode cX9_isProblem 17 = .ok (.goto 4, 3) := by decide +kernel
theorem dX9_isProblem_20 : decode cX9_isProblem 20 = .ok (.iconst 0, 1) := by decide +kernel
theorem dX9_isProblem_21 : decode cX9_isProblem 21 = .ok (.ireturn, 1) := by decide +kernel
theorem dX9_problemMany_0 : decode cX9_problemMany 0 = .ok (.iconst 0, 1) := by decide +kernel
theorem dX9_problemMany_1 : decode cX9_problemMany 1 = .ok (.istore_n 1, 1) := by decide +kernel
theorem dX9_problemMany_2 : decode cX9_problemMany 2 = .ok (.iconst 0, 1) := by decide +kernel
theorem dX9_problemMany_3 : decode cX9_problemMany 3 = .ok (.istore_n 2, 1) := by decide +kernel
theorem dX9_problemMany_4 : decode cX9_problemMany 4 = .ok (.iload_n 2, 1) := by decide +kernel
theorem dX9_problemMany_5 : decode cX9_problemMany 5 = .ok (.aload_n 0, 1) := by decide +kernel
theorem dX9_problemMany_6 : decode cX9_problemMany 6 = .ok (.getfield 201, 3) := by decide +kernel
theorem dX9_problemMany_9 : decode cX9_problemMany 9 = .ok (.if_icmp .ge 25, 3) := by decide +kernel
theorem dX9_problemMany_12 : decode cX9_problemMany 12 = .ok (.iload_n 1, 1) := by decide +kernel
theorem dX9_problemMany_13 : decode cX9_problemMany 13 = .ok (.aload_n 0, 1) := by decide +kernel
theorem dX9_problemMany_14 : decode cX9_problemMany 14 = .ok (.iload_n 2, 1) := by decide +kernel
theorem dX9_problemMany_15 : decode cX9_problemMany 15 = .ok (.invokevirtual 261, 3) := by decide +kernel
theorem dX9_problemMany_18 : decode cX9_problemMany 18 = .ok (.ifCond .eq 7, 3) := by decide +kernel
theorem dX9_problemMany_21 : decode cX9_problemMany 21 = .ok (.iconst 1, 1) := by decide +kernel
theorem dX9_problemMany_22 : decode cX9_problemMany 22 = .ok (.goto 4, 3) := by decide +kernel
theorem dX9_problemMany_25 : decode cX9_problemMany 25 = .ok (.iconst 0, 1) := by decide +kernel
theorem dX9_problemMany_26 : decode cX9_problemMany 26 = .ok (.iadd, 1) := by decide +kernel
theorem dX9_problemMany_27 : decode cX9_problemMany 27 = .ok (.istore_n 1, 1) := by decide +kernel
theorem dX9_problemMany_28 : decode cX9_problemMany 28 = .ok (.iinc 2 1, 3) := by decide +kernel
theorem dX9_problemMany_31 : decode cX9_problemMany 31 = .ok (.goto (-27), 3) := by decide +kernel
theorem dX9_problemMany_34 : decode cX9_problemMany 34 = .ok (.iload_n 1, 1) := by decide +kernel
theorem dX9_problemMany_35 : decode cX9_problemMany 35 = .ok (.ireturn, 1) := by decide +kernel
theorem dX9_problems_0 : decode cX9_problems 0 = .ok (.aload_n 0, 1) := by decide +kernel
theorem dX9_problems_1 : decode cX9_problems 1 = .ok (.iconst 0, 1) := by decide +kernel
theorem dX9_problems_2 : decode cX9_problems 2 = .ok (.putfield 84, 3) := by decide +kernel
theorem dX9_problems_5 : decode cX9_problems 5 = .ok (.aload_n 0, 1) := by decide +kernel
theorem dX9_problems_6 : decode cX9_problems 6 = .ok (.invokevirtual 231, 3) := by decide +kernel
theorem dX9_problems_9 : decode cX9_problems 9 = .ok (.aload_n 0, 1) := by decide +kernel
theorem dX9_problems_10 : decode cX9_problems 10 = .ok (.invokevirtual 264, 3) := by decide +kernel
theorem dX9_problems_13 : decode cX9_problems 13 = .ok (.ireturn, 1) := by decide +kernel
theorem dX9_firstProblem_0 : decode cX9_firstProblem 0 = .ok (.aload_n 0, 1) := by decide +kernel
theorem dX9_firstProblem_1 : decode cX9_firstProblem 1 = .ok (.invokevirtual 231, 3) := by decide +kernel
theorem dX9_firstProblem_4 : decode cX9_firstProblem 4 = .ok (.iconst 0, 1) := by decide +kernel
theorem dX9_firstProblem_5 : decode cX9_firstProblem 5 = .ok (.istore_n 1, 1) := by decide +kernel
theorem dX9_firstProblem_6 : decode cX9_firstProblem 6 = .ok (.iload_n 1, 1) := by decide +kernel
theorem dX9_firstProblem_7 : decode cX9_firstProblem 7 = .ok (.aload_n 0, 1) := by decide +kernel
theorem dX9_firstProblem_8 : decode cX9_firstProblem 8 = .ok (.getfield 201, 3) := by decide +kernel
theorem dX9_firstProblem_11 : decode cX9_firstProblem 11 = .ok (.if_icmp .ge 17, 3) := by decide +kernel
theorem dX9_firstProblem_14 : decode cX9_firstProblem 14 = .ok (.aload_n 0, 1) := by decide +kernel
theorem dX9_firstProblem_15 : decode cX9_firstProblem 15 = .ok (.iload_n 1, 1) := by decide +kernel
theorem dX9_firstProblem_16 : decode cX9_firstProblem 16 = .ok (.invokevirtual 261, 3) := by decide +kernel
theorem dX9_firstProblem_19 : decode cX9_firstProblem 19 = .ok (.ifCond .ne 9, 3) := by decide +kernel
theorem dX9_firstProblem_22 : decode cX9_firstProblem 22 = .ok (.iinc 1 1, 3) := by decide +kernel
theorem dX9_firstProblem_25 : decode cX9_firstProblem 25 = .ok (.goto (-19), 3) := by decide +kernel
theorem dX9_firstProblem_28 : decode cX9_firstProblem 28 = .ok (.aload_n 0, 1) := by decide +kernel
theorem dX9_firstProblem_29 : decode cX9_firstProblem 29 = .ok (.iload_n 1, 1) := by decide +kernel
theorem dX9_firstProblem_30 : decode cX9_firstProblem 30 = .ok (.aload_n 0, 1) := by decide +kernel
theorem dX9_firstProblem_31 : decode cX9_firstProblem 31 = .ok (.getfield 201, 3) := by decide +kernel
theorem dX9_firstProblem_34 : decode cX9_firstProblem 34 = .ok (.if_icmp .ne 7, 3) := by decide +kernel
theorem dX9_firstProblem_37 : decode cX9_firstProblem 37 = .ok (.iconst 1, 1) := by decide +kernel
theorem dX9_firstProblem_38 : decode cX9_firstProblem 38 = .ok (.goto 4, 3) := by decide +kernel
theorem dX9_firstProblem_41 : decode cX9_firstProblem 41 = .ok (.iconst 0, 1) := by decide +kernel
theorem dX9_firstProblem_42 : decode cX9_firstProblem 42 = .ok (.putfield 84, 3) := by decide +kernel
theorem dX9_firstProblem_45 : decode cX9_firstProblem 45 = .ok (.aload_n 0, 1) := by decide +kernel
theorem dX9_firstProblem_46 : decode cX9_firstProblem 46 = .ok (.getfield 84, 3) := by decide +kernel
theorem dX9_firstProblem_49 : decode cX9_firstProblem 49 = .ok (.ifCond .le 7, 3) := by decide +kernel
theorem dX9_firstProblem_52 : decode cX9_firstProblem 52 = .ok (.iconst 0, 1) := by decide +kernel
theorem dX9_firstProblem_53 : decode cX9_firstProblem 53 = .ok (.goto 4, 3) := by decide +kernel
theorem dX9_firstProblem_56 : decode cX9_firstProblem 56 = .ok (.iload_n 1, 1) := by decide +kernel
theorem dX9_firstProblem_57 : decode cX9_firstProblem 57 = .ok (.ireturn, 1) := by decide +kernel
theorem dX9_bodyMany_0 : decode cX9_bodyMany 0 = .ok (.iconst 0, 1) := by decide +kernel
theorem dX9_bodyMany_1 : decode cX9_bodyMany 1 = .ok (.istore_n 1, 1) := by decide +kernel
theorem dX9_bodyMany_2 : decode cX9_bodyMany 2 = .ok (.iconst 0, 1) := by decide +kernel
theorem dX9_bodyMany_3 : decode cX9_bodyMany 3 = .ok (.istore_n 2, 1) := by decide +kernel
theorem dX9_bodyMany_4 : decode cX9_bodyMany 4 = .ok (.iload_n 2, 1) := by decide +kernel
theorem dX9_bodyMany_5 : decode cX9_bodyMany 5 = .ok (.bipush 8, 2) := by decide +kernel
theorem dX9_bodyMany_7 : decode cX9_bodyMany 7 = .ok (.if_icmp .ge 26, 3) := by decide +kernel
theorem dX9_bodyMany_10 : decode cX9_bodyMany 10 = .ok (.iload_n 1, 1) := by decide +kernel
theorem dX9_bodyMany_11 : decode cX9_bodyMany 11 = .ok (.aload_n 0, 1) := by decide +kernel
theorem dX9_bodyMany_12 : decode cX9_bodyMany 12 = .ok (.getfield 9, 3) := by decide +kernel
theorem dX9_bodyMany_15 : decode cX9_bodyMany 15 = .ok (.iload_n 2, 1) := by decide +kernel
theorem dX9_bodyMany_16 : decode cX9_bodyMany 16 = .ok (.iaload, 1) := by decide +kernel
theorem dX9_bodyMany_17 : decode cX9_bodyMany 17 = .ok (.ifCond .le 7, 3) := by decide +kernel
theorem dX9_bodyMany_20 : decode cX9_bodyMany 20 = .ok (.iconst 1, 1) := by decide +kernel
theorem dX9_bodyMany_21 : decode cX9_bodyMany 21 = .ok (.goto 4, 3) := by decide +kernel
theorem dX9_bodyMany_24 : decode cX9_bodyMany 24 = .ok (.iconst 0, 1) := by decide +kernel
theorem dX9_bodyMany_25 : decode cX9_bodyMany 25 = .ok (.iadd, 1) := by decide +kernel
theorem dX9_bodyMany_26 : decode cX9_bodyMany 26 = .ok (.istore_n 1, 1) := by decide +kernel
theorem dX9_bodyMany_27 : decode cX9_bodyMany 27 = .ok (.iinc 2 1, 3) := by decide +kernel
theorem dX9_bodyMany_30 : decode cX9_bodyMany 30 = .ok (.goto (-26), 3) := by decide +kernel
theorem dX9_bodyMany_33 : decode cX9_bodyMany 33 = .ok (.iload_n 1, 1) := by decide +kernel
theorem dX9_bodyMany_34 : decode cX9_bodyMany 34 = .ok (.ireturn, 1) := by decide +kernel
theorem dX9_countVotes_0 : decode cX9_countVotes 0 = .ok (.iconst 0, 1) := by decide +kernel
theorem dX9_countVotes_1 : decode cX9_countVotes 1 = .ok (.istore_n 3, 1) := by decide +kernel
theorem dX9_countVotes_2 : decode cX9_countVotes 2 = .ok (.iconst 0, 1) := by decide +kernel
theorem dX9_countVotes_3 : decode cX9_countVotes 3 = .ok (.istore 4, 2) := by decide +kernel
theorem dX9_countVotes_5 : decode cX9_countVotes 5 = .ok (.iload 4, 2) := by decide +kernel
theorem dX9_countVotes_7 : decode cX9_countVotes 7 = .ok (.bipush 8, 2) := by decide +kernel
theorem dX9_countVotes_9 : decode cX9_countVotes 9 = .ok (.if_icmp .ge 84, 3) := by decide +kernel
theorem dX9_countVotes_12 : decode cX9_countVotes 12 = .ok (.iload_n 2, 1) := by decide +kernel
theorem dX9_countVotes_13 : decode cX9_countVotes 13 = .ok (.ifCond .ne 13, 3) := by decide +kernel
theorem dX9_countVotes_16 : decode cX9_countVotes 16 = .ok (.aload_n 0, 1) := by decide +kernel
theorem dX9_countVotes_17 : decode cX9_countVotes 17 = .ok (.getfield 60, 3) := by decide +kernel
theorem dX9_countVotes_20 : decode cX9_countVotes 20 = .ok (.iload 4, 2) := by decide +kernel
theorem dX9_countVotes_22 : decode cX9_countVotes 22 = .ok (.iaload, 1) := by decide +kernel
theorem dX9_countVotes_23 : decode cX9_countVotes 23 = .ok (.goto 39, 3) := by decide +kernel
theorem dX9_countVotes_26 : decode cX9_countVotes 26 = .ok (.iload_n 2, 1) := by decide +kernel
theorem dX9_countVotes_27 : decode cX9_countVotes 27 = .ok (.iconst 1, 1) := by decide +kernel
theorem dX9_countVotes_28 : decode cX9_countVotes 28 = .ok (.if_icmp .ne 13, 3) := by decide +kernel
theorem dX9_countVotes_31 : decode cX9_countVotes 31 = .ok (.aload_n 0, 1) := by decide +kernel
theorem dX9_countVotes_32 : decode cX9_countVotes 32 = .ok (.getfield 63, 3) := by decide +kernel
theorem dX9_countVotes_35 : decode cX9_countVotes 35 = .ok (.iload 4, 2) := by decide +kernel
theorem dX9_countVotes_37 : decode cX9_countVotes 37 = .ok (.iaload, 1) := by decide +kernel
theorem dX9_countVotes_38 : decode cX9_countVotes 38 = .ok (.goto 24, 3) := by decide +kernel
theorem dX9_countVotes_41 : decode cX9_countVotes 41 = .ok (.iload_n 2, 1) := by decide +kernel
theorem dX9_countVotes_42 : decode cX9_countVotes 42 = .ok (.iconst 2, 1) := by decide +kernel
theorem dX9_countVotes_43 : decode cX9_countVotes 43 = .ok (.if_icmp .ne 12, 3) := by decide +kernel
theorem dX9_countVotes_46 : decode cX9_countVotes 46 = .ok (.aload_n 0, 1) := by decide +kernel
theorem dX9_countVotes_47 : decode cX9_countVotes 47 = .ok (.iload 4, 2) := by decide +kernel
theorem dX9_countVotes_49 : decode cX9_countVotes 49 = .ok (.invokevirtual 189, 3) := by decide +kernel
theorem dX9_countVotes_52 : decode cX9_countVotes 52 = .ok (.goto 10, 3) := by decide +kernel
theorem dX9_countVotes_55 : decode cX9_countVotes 55 = .ok (.aload_n 0, 1) := by decide +kernel
theorem dX9_countVotes_56 : decode cX9_countVotes 56 = .ok (.getfield 39, 3) := by decide +kernel
theorem dX9_countVotes_59 : decode cX9_countVotes 59 = .ok (.iload 4, 2) := by decide +kernel
theorem dX9_countVotes_61 : decode cX9_countVotes 61 = .ok (.iaload, 1) := by decide +kernel
theorem dX9_countVotes_62 : decode cX9_countVotes 62 = .ok (.istore 5, 2) := by decide +kernel
theorem dX9_countVotes_64 : decode cX9_countVotes 64 = .ok (.iload_n 3, 1) := by decide +kernel
theorem dX9_countVotes_65 : decode cX9_countVotes 65 = .ok (.aload_n 0, 1) := by decide +kernel
theorem dX9_countVotes_66 : decode cX9_countVotes 66 = .ok (.getfield 9, 3) := by decide +kernel
theorem dX9_countVotes_69 : decode cX9_countVotes 69 = .ok (.iload 4, 2) := by decide +kernel
theorem dX9_countVotes_71 : decode cX9_countVotes 71 = .ok (.iaload, 1) := by decide +kernel
theorem dX9_countVotes_72 : decode cX9_countVotes 72 = .ok (.ifCond .le 12, 3) := by decide +kernel
theorem dX9_countVotes_75 : decode cX9_countVotes 75 = .ok (.iload 5, 2) := by decide +kernel
theorem dX9_countVotes_77 : decode cX9_countVotes 77 = .ok (.iload_n 1, 1) := by decide +kernel
theorem dX9_countVotes_78 : decode cX9_countVotes 78 = .ok (.ishr, 1) := by decide +kernel
theorem dX9_countVotes_79 : decode cX9_countVotes 79 = .ok (.iconst 1, 1) := by decide +kernel
theorem dX9_countVotes_80 : decode cX9_countVotes 80 = .ok (.iand, 1) := by decide +kernel
theorem dX9_countVotes_81 : decode cX9_countVotes 81 = .ok (.goto 4, 3) := by decide +kernel
theorem dX9_countVotes_84 : decode cX9_countVotes 84 = .ok (.iconst 0, 1) := by decide +kernel
theorem dX9_countVotes_85 : decode cX9_countVotes 85 = .ok (.iadd, 1) := by decide +kernel
theorem dX9_countVotes_86 : decode cX9_countVotes 86 = .ok (.istore_n 3, 1) := by decide +kernel
theorem dX9_countVotes_87 : decode cX9_countVotes 87 = .ok (.iinc 4 1, 3) := by decide +kernel
theorem dX9_countVotes_90 : decode cX9_countVotes 90 = .ok (.goto (-85), 3) := by decide +kernel
theorem dX9_countVotes_93 : decode cX9_countVotes 93 = .ok (.iload_n 3, 1) := by decide +kernel
theorem dX9_countVotes_94 : decode cX9_countVotes 94 = .ok (.ireturn, 1) := by decide +kernel
theorem dX9_votes_0 : decode cX9_votes 0 = .ok (.aload_n 0, 1) := by decide +kernel
theorem dX9_votes_1 : decode cX9_votes 1 = .ok (.iload_n 1, 1) := by decide +kernel
theorem dX9_votes_2 : decode cX9_votes 2 = .ok (.invokestatic 267, 3) := by decide +kernel
theorem dX9_votes_5 : decode cX9_votes 5 = .ok (.ifCond .ne 7, 3) := by decide +kernel
theorem dX9_votes_8 : decode cX9_votes 8 = .ok (.iconst 1, 1) := by decide +kernel
theorem dX9_votes_9 : decode cX9_votes 9 = .ok (.goto 20, 3) := by decide +kernel
theorem dX9_votes_12 : decode cX9_votes 12 = .ok (.iload_n 2, 1) := by decide +kernel
theorem dX9_votes_13 : decode cX9_votes 13 = .ok (.i2l, 1) := by decide +kernel
theorem dX9_votes_14 : decode cX9_votes 14 = .ok (.lconst 0, 1) := by decide +kernel
theorem dX9_votes_15 : decode cX9_votes 15 = .ok (.ldc2_w 270, 3) := by decide +kernel
theorem dX9_votes_18 : decode cX9_votes 18 = .ok (.invokestatic 89, 3) := by decide +kernel
theorem dX9_votes_21 : decode cX9_votes 21 = .ok (.ifCond .ne 7, 3) := by decide +kernel
theorem dX9_votes_24 : decode cX9_votes 24 = .ok (.iconst 2, 1) := by decide +kernel
theorem dX9_votes_25 : decode cX9_votes 25 = .ok (.goto 4, 3) := by decide +kernel
theorem dX9_votes_28 : decode cX9_votes 28 = .ok (.iconst 0, 1) := by decide +kernel
theorem dX9_votes_29 : decode cX9_votes 29 = .ok (.putfield 84, 3) := by decide +kernel
theorem dX9_votes_32 : decode cX9_votes 32 = .ok (.aload_n 0, 1) := by decide +kernel
theorem dX9_votes_33 : decode cX9_votes 33 = .ok (.getfield 84, 3) := by decide +kernel
theorem dX9_votes_36 : decode cX9_votes 36 = .ok (.ifCond .le 5, 3) := by decide +kernel
theorem dX9_votes_39 : decode cX9_votes 39 = .ok (.iconst 0, 1) := by decide +kernel
theorem dX9_votes_40 : decode cX9_votes 40 = .ok (.ireturn, 1) := by decide +kernel
theorem dX9_votes_41 : decode cX9_votes 41 = .ok (.aload_n 0, 1) := by decide +kernel
theorem dX9_votes_42 : decode cX9_votes 42 = .ok (.invokevirtual 231, 3) := by decide +kernel
theorem dX9_votes_45 : decode cX9_votes 45 = .ok (.aload_n 0, 1) := by decide +kernel
theorem dX9_votes_46 : decode cX9_votes 46 = .ok (.iload_n 1, 1) := by decide +kernel
theorem dX9_votes_47 : decode cX9_votes 47 = .ok (.iload_n 2, 1) := by decide +kernel
theorem dX9_votes_48 : decode cX9_votes 48 = .ok (.invokevirtual 272, 3) := by decide +kernel
theorem dX9_votes_51 : decode cX9_votes 51 = .ok (.ireturn, 1) := by decide +kernel
theorem dX9_role_0 : decode cX9_role 0 = .ok (.aload_n 0, 1) := by decide +kernel
theorem dX9_role_1 : decode cX9_role 1 = .ok (.iload_n 1, 1) := by decide +kernel
theorem dX9_role_2 : decode cX9_role 2 = .ok (.invokestatic 267, 3) := by decide +kernel
theorem dX9_role_5 : decode cX9_role 5 = .ok (.ifCond .ne 7, 3) := by decide +kernel
theorem dX9_role_8 : decode cX9_role 8 = .ok (.iconst 1, 1) := by decide +kernel
theorem dX9_role_9 : decode cX9_role 9 = .ok (.goto 15, 3) := by decide +kernel
theorem dX9_role_12 : decode cX9_role 12 = .ok (.aload_n 0, 1) := by decide +kernel
theorem dX9_role_13 : decode cX9_role 13 = .ok (.invokevirtual 275, 3) := by decide +kernel
theorem dX9_role_16 : decode cX9_role 16 = .ok (.ifCond .ne 7, 3) := by decide +kernel
theorem dX9_role_19 : decode cX9_role 19 = .ok (.iconst 2, 1) := by decide +kernel
theorem dX9_role_20 : decode cX9_role 20 = .ok (.goto 4, 3) := by decide +kernel
theorem dX9_role_23 : decode cX9_role 23 = .ok (.iconst 0, 1) := by decide +kernel
theorem dX9_role_24 : decode cX9_role 24 = .ok (.putfield 84, 3) := by decide +kernel
theorem dX9_role_27 : decode cX9_role 27 = .ok (.aload_n 0, 1) := by decide +kernel
theorem dX9_role_28 : decode cX9_role 28 = .ok (.getfield 84, 3) := by decide +kernel
theorem dX9_role_31 : decode cX9_role 31 = .ok (.ifCond .le 5, 3) := by decide +kernel
theorem dX9_role_34 : decode cX9_role 34 = .ok (.iconst 0, 1) := by decide +kernel
theorem dX9_role_35 : decode cX9_role 35 = .ok (.ireturn, 1) := by decide +kernel
theorem dX9_role_36 : decode cX9_role 36 = .ok (.aload_n 0, 1) := by decide +kernel
theorem dX9_role_37 : decode cX9_role 37 = .ok (.invokevirtual 231, 3) := by decide +kernel
theorem dX9_role_40 : decode cX9_role 40 = .ok (.aload_n 0, 1) := by decide +kernel
theorem dX9_role_41 : decode cX9_role 41 = .ok (.invokevirtual 275, 3) := by decide +kernel
theorem dX9_role_44 : decode cX9_role 44 = .ok (.istore_n 2, 1) := by decide +kernel
theorem dX9_role_45 : decode cX9_role 45 = .ok (.iconst 2, 1) := by decide +kernel
theorem dX9_role_46 : decode cX9_role 46 = .ok (.aload_n 0, 1) := by decide +kernel
theorem dX9_role_47 : decode cX9_role 47 = .ok (.iload_n 1, 1) := by decide +kernel
theorem dX9_role_48 : decode cX9_role 48 = .ok (.iconst 0, 1) := by decide +kernel
theorem dX9_role_49 : decode cX9_role 49 = .ok (.invokevirtual 272, 3) := by decide +kernel
theorem dX9_role_52 : decode cX9_role 52 = .ok (.imul, 1) := by decide +kernel
theorem dX9_role_53 : decode cX9_role 53 = .ok (.iload_n 2, 1) := by decide +kernel
theorem dX9_role_54 : decode cX9_role 54 = .ok (.if_icmp .lt 5, 3) := by decide +kernel
theorem dX9_role_57 : decode cX9_role 57 = .ok (.iconst 1, 1) := by decide +kernel
theorem dX9_role_58 : decode cX9_role 58 = .ok (.ireturn, 1) := by decide +kernel
theorem dX9_role_59 : decode cX9_role 59 = .ok (.aload_n 0, 1) := by decide +kernel
theorem dX9_role_60 : decode cX9_role 60 = .ok (.iload_n 1, 1) := by decide +kernel
theorem dX9_role_61 : decode cX9_role 61 = .ok (.iconst 1, 1) := by decide +kernel
theorem dX9_role_62 : decode cX9_role 62 = .ok (.invokevirtual 272, 3) := by decide +kernel
theorem dX9_role_65 : decode cX9_role 65 = .ok (.ifCond .le 7, 3) := by decide +kernel
theorem dX9_role_68 : decode cX9_role 68 = .ok (.iconst 2, 1) := by decide +kernel
theorem dX9_role_69 : decode cX9_role 69 = .ok (.goto 20, 3) := by decide +kernel
theorem dX9_role_72 : decode cX9_role 72 = .ok (.iconst 2, 1) := by decide +kernel
theorem dX9_role_73 : decode cX9_role 73 = .ok (.aload_n 0, 1) := by decide +kernel
theorem dX9_role_74 : decode cX9_role 74 = .ok (.iload_n 1, 1) := by decide +kernel
theorem dX9_role_75 : decode cX9_role 75 = .ok (.iconst 2, 1) := by decide +kernel
theorem dX9_role_76 : decode cX9_role 76 = .ok (.invokevirtual 272, 3) := by decide +kernel
theorem dX9_role_79 : decode cX9_role 79 = .ok (.imul, 1) := by decide +kernel
theorem dX9_role_80 : decode cX9_role 80 = .ok (.iload_n 2, 1) := by decide +kernel
theorem dX9_role_81 : decode cX9_role 81 = .ok (.if_icmp .lt 7, 3) := by decide +kernel
theorem dX9_role_84 : decode cX9_role 84 = .ok (.iconst 3, 1) := by decide +kernel
theorem dX9_role_85 : decode cX9_role 85 = .ok (.goto 4, 3) := by decide +kernel
theorem dX9_role_88 : decode cX9_role 88 = .ok (.iconst 4, 1) := by decide +kernel
theorem dX9_role_89 : decode cX9_role 89 = .ok (.ireturn, 1) := by decide +kernel
theorem dX9_cuts_0 : decode cX9_cuts 0 = .ok (.aload_n 0, 1) := by decide +kernel
theorem dX9_cuts_1 : decode cX9_cuts 1 = .ok (.iload_n 1, 1) := by decide +kernel
theorem dX9_cuts_2 : decode cX9_cuts 2 = .ok (.iload_n 2, 1) := by decide +kernel
theorem dX9_cuts_3 : decode cX9_cuts 3 = .ok (.invokevirtual 138, 3) := by decide +kernel
theorem dX9_cuts_6 : decode cX9_cuts 6 = .ok (.istore 4, 2) := by decide +kernel
theorem dX9_cuts_8 : decode cX9_cuts 8 = .ok (.aload_n 0, 1) := by decide +kernel
theorem dX9_cuts_9 : decode cX9_cuts 9 = .ok (.getfield 278, 3) := by decide +kernel
theorem dX9_cuts_12 : decode cX9_cuts 12 = .ok (.sipush 300, 3) := by decide +kernel
theorem dX9_cuts_15 : decode cX9_cuts 15 = .ok (.if_icmp .eq 52, 3) := by decide +kernel
theorem dX9_cuts_18 : decode cX9_cuts 18 = .ok (.iload 4, 2) := by decide +kernel
theorem dX9_cuts_20 : decode cX9_cuts 20 = .ok (.bipush 45, 2) := by decide +kernel
theorem dX9_cuts_22 : decode cX9_cuts 22 = .ok (.if_icmp .ne 12, 3) := by decide +kernel
theorem dX9_cuts_25 : decode cX9_cuts 25 = .ok (.aload_n 0, 1) := by decide +kernel
theorem dX9_cuts_26 : decode cX9_cuts 26 = .ok (.getfield 81, 3) := by decide +kernel
theorem dX9_cuts_29 : decode cX9_cuts 29 = .ok (.iload_n 3, 1) := by decide +kernel
theorem dX9_cuts_30 : decode cX9_cuts 30 = .ok (.iaload, 1) := by decide +kernel
theorem dX9_cuts_31 : decode cX9_cuts 31 = .ok (.ifCond .eq 36, 3) := by decide +kernel
theorem dX9_cuts_34 : decode cX9_cuts 34 = .ok (.iload 4, 2) := by decide +kernel
theorem dX9_cuts_36 : decode cX9_cuts 36 = .ok (.bipush 43, 2) := by decide +kernel
theorem dX9_cuts_38 : decode cX9_cuts 38 = .ok (.if_icmp .ne 14, 3) := by decide +kernel
theorem dX9_cuts_41 : decode cX9_cuts 41 = .ok (.aload_n 0, 1) := by decide +kernel
theorem dX9_cuts_42 : decode cX9_cuts 42 = .ok (.getfield 81, 3) := by decide +kernel
theorem dX9_cuts_45 : decode cX9_cuts 45 = .ok (.iload_n 3, 1) := by decide +kernel
theorem dX9_cuts_46 : decode cX9_cuts 46 = .ok (.iaload, 1) := by decide +kernel
theorem dX9_cuts_47 : decode cX9_cuts 47 = .ok (.bipush 6, 2) := by decide +kernel
theorem dX9_cuts_49 : decode cX9_cuts 49 = .ok (.if_icmp .eq 18, 3) := by decide +kernel
theorem dX9_cuts_52 : decode cX9_cuts 52 = .ok (.iload 4, 2) := by decide +kernel
theorem dX9_cuts_54 : decode cX9_cuts 54 = .ok (.bipush 99, 2) := by decide +kernel
theorem dX9_cuts_56 : decode cX9_cuts 56 = .ok (.if_icmp .ne 15, 3) := by decide +kernel
theorem dX9_cuts_59 : decode cX9_cuts 59 = .ok (.iload_n 3, 1) := by decide +kernel
theorem dX9_cuts_60 : decode cX9_cuts 60 = .ok (.iconst 1, 1) := by decide +kernel
theorem dX9_cuts_61 : decode cX9_cuts 61 = .ok (.iadd, 1) := by decide +kernel
theorem dX9_cuts_62 : decode cX9_cuts 62 = .ok (.bipush 8, 2) := by decide +kernel
theorem dX9_cuts_64 : decode cX9_cuts 64 = .ok (.if_icmp .ne 7, 3) := by decide +kernel
theorem dX9_cuts_67 : decode cX9_cuts 67 = .ok (.iconst 1, 1) := by decide +kernel
theorem dX9_cuts_68 : decode cX9_cuts 68 = .ok (.goto 4, 3) := by decide +kernel
theorem dX9_cuts_71 : decode cX9_cuts 71 = .ok (.iconst 0, 1) := by decide +kernel
theorem dX9_cuts_72 : decode cX9_cuts 72 = .ok (.ireturn, 1) := by decide +kernel
theorem dX9_execute_0 : decode cX9_execute 0 = .ok (.aload_n 0, 1) := by decide +kernel
theorem dX9_execute_1 : decode cX9_execute 1 = .ok (.getfield 81, 3) := by decide +kernel
theorem dX9_execute_4 : decode cX9_execute 4 = .ok (.iload_n 2, 1) := by decide +kernel
theorem dX9_execute_5 : decode cX9_execute 5 = .ok (.iconst 0, 1) := by decide +kernel
theorem dX9_execute_6 : decode cX9_execute 6 = .ok (.iastore, 1) := by decide +kernel
theorem dX9_execute_7 : decode cX9_execute 7 = .ok (.iconst 0, 1) := by decide +kernel
theorem dX9_execute_8 : decode cX9_execute 8 = .ok (.istore_n 3, 1) := by decide +kernel
theorem dX9_execute_9 : decode cX9_execute 9 = .ok (.iload_n 3, 1) := by decide +kernel
theorem dX9_execute_10 : decode cX9_execute 10 = .ok (.aload_n 0, 1) := by decide +kernel
theorem dX9_execute_11 : decode cX9_execute 11 = .ok (.getfield 9, 3) := by decide +kernel
theorem dX9_execute_14 : decode cX9_execute 14 = .ok (.iload_n 1, 1) := by decide +kernel
theorem dX9_execute_15 : decode cX9_execute 15 = .ok (.iaload, 1) := by decide +kernel
theorem dX9_execute_16 : decode cX9_execute 16 = .ok (.if_icmp .ge 97, 3) := by decide +kernel
theorem dX9_execute_19 : decode cX9_execute 19 = .ok (.aload_n 0, 1) := by decide +kernel
theorem dX9_execute_20 : decode cX9_execute 20 = .ok (.getfield 281, 3) := by decide +kernel
theorem dX9_execute_23 : decode cX9_execute 23 = .ok (.ifCond .ne 90, 3) := by decide +kernel
theorem dX9_execute_26 : decode cX9_execute 26 = .ok (.aload_n 0, 1) := by decide +kernel
theorem dX9_execute_27 : decode cX9_execute 27 = .ok (.aload_n 0, 1) := by decide +kernel
theorem dX9_execute_28 : decode cX9_execute 28 = .ok (.iload_n 1, 1) := by decide +kernel
theorem dX9_execute_29 : decode cX9_execute 29 = .ok (.iload_n 3, 1) := by decide +kernel
theorem dX9_execute_30 : decode cX9_execute 30 = .ok (.iload_n 2, 1) := by decide +kernel
theorem dX9_execute_31 : decode cX9_execute 31 = .ok (.invokevirtual 284, 3) := by decide +kernel
theorem dX9_execute_34 : decode cX9_execute 34 = .ok (.putfield 281, 3) := by decide +kernel
theorem dX9_execute_37 : decode cX9_execute 37 = .ok (.aload_n 0, 1) := by decide +kernel
theorem dX9_execute_38 : decode cX9_execute 38 = .ok (.getfield 281, 3) := by decide +kernel
theorem dX9_execute_41 : decode cX9_execute 41 = .ok (.ifCond .ne (-32), 3) := by decide +kernel
theorem dX9_execute_44 : decode cX9_execute 44 = .ok (.aload_n 0, 1) := by decide +kernel
theorem dX9_execute_45 : decode cX9_execute 45 = .ok (.dup, 1) := by decide +kernel
theorem dX9_execute_46 : decode cX9_execute 46 = .ok (.getfield 278, 3) := by decide +kernel
theorem dX9_execute_49 : decode cX9_execute 49 = .ok (.iconst 1, 1) := by decide +kernel
theorem dX9_execute_50 : decode cX9_execute 50 = .ok (.iadd, 1) := by decide +kernel
theorem dX9_execute_51 : decode cX9_execute 51 = .ok (.putfield 278, 3) := by decide +kernel
theorem dX9_execute_54 : decode cX9_execute 54 = .ok (.iconst 0, 1) := by decide +kernel
theorem dX9_execute_55 : decode cX9_execute 55 = .ok (.istore 4, 2) := by decide +kernel
theorem dX9_execute_57 : decode cX9_execute 57 = .ok (.aload_n 0, 1) := by decide +kernel
theorem dX9_execute_58 : decode cX9_execute 58 = .ok (.iload_n 1, 1) := by decide +kernel
theorem dX9_execute_59 : decode cX9_execute 59 = .ok (.iload_n 3, 1) := by decide +kernel
theorem dX9_execute_60 : decode cX9_execute 60 = .ok (.invokevirtual 138, 3) := by decide +kernel
theorem dX9_execute_63 : decode cX9_execute 63 = .ok (.bipush 98, 2) := by decide +kernel
theorem dX9_execute_65 : decode cX9_execute 65 = .ok (.if_icmp .ne 29, 3) := by decide +kernel
theorem dX9_execute_68 : decode cX9_execute 68 = .ok (.aload_n 0, 1) := by decide +kernel
theorem dX9_execute_69 : decode cX9_execute 69 = .ok (.getfield 288, 3) := by decide +kernel
theorem dX9_execute_72 : decode cX9_execute 72 = .ok (.aload_n 0, 1) := by decide +kernel
theorem dX9_execute_73 : decode cX9_execute 73 = .ok (.getfield 291, 3) := by decide +kernel
theorem dX9_execute_76 : decode cX9_execute 76 = .ok (.bipush 32, 2) := by decide +kernel
theorem dX9_execute_78 : decode cX9_execute 78 = .ok (.irem, 1) := by decide +kernel
theorem dX9_execute_79 : decode cX9_execute 79 = .ok (.ishr, 1) := by decide +kernel
theorem dX9_execute_80 : decode cX9_execute 80 = .ok (.iconst 1, 1) := by decide +kernel
theorem dX9_execute_81 : decode cX9_execute 81 = .ok (.iand, 1) := by decide +kernel
theorem dX9_execute_82 : decode cX9_execute 82 = .ok (.istore 4, 2) := by decide +kernel
theorem dX9_execute_84 : decode cX9_execute 84 = .ok (.aload_n 0, 1) := by decide +kernel
theorem dX9_execute_85 : decode cX9_execute 85 = .ok (.dup, 1) := by decide +kernel
theorem dX9_execute_86 : decode cX9_execute 86 = .ok (.getfield 291, 3) := by decide +kernel
theorem dX9_execute_89 : decode cX9_execute 89 = .ok (.iconst 1, 1) := by decide +kernel
theorem dX9_execute_90 : decode cX9_execute 90 = .ok (.iadd, 1) := by decide +kernel
theorem dX9_execute_91 : decode cX9_execute 91 = .ok (.putfield 291, 3) := by decide +kernel
theorem dX9_execute_94 : decode cX9_execute 94 = .ok (.aload_n 0, 1) := by decide +kernel
theorem dX9_execute_95 : decode cX9_execute 95 = .ok (.iload_n 1, 1) := by decide +kernel
theorem dX9_execute_96 : decode cX9_execute 96 = .ok (.iload_n 3, 1) := by decide +kernel
theorem dX9_execute_97 : decode cX9_execute 97 = .ok (.iload_n 2, 1) := by decide +kernel
theorem dX9_execute_98 : decode cX9_execute 98 = .ok (.invokevirtual 294, 3) := by decide +kernel
theorem dX9_execute_101 : decode cX9_execute 101 = .ok (.aload_n 0, 1) := by decide +kernel
theorem dX9_execute_102 : decode cX9_execute 102 = .ok (.iload_n 1, 1) := by decide +kernel
theorem dX9_execute_103 : decode cX9_execute 103 = .ok (.iload_n 3, 1) := by decide +kernel
theorem dX9_execute_104 : decode cX9_execute 104 = .ok (.iload 4, 2) := by decide +kernel
theorem dX9_execute_106 : decode cX9_execute 106 = .ok (.invokevirtual 155, 3) := by decide +kernel
theorem dX9_execute_109 : decode cX9_execute 109 = .ok (.istore_n 3, 1) := by decide +kernel
theorem dX9_execute_110 : decode cX9_execute 110 = .ok (.goto (-101), 3) := by decide +kernel
theorem dX9_execute_113 : decode cX9_execute 113 = .ok (.return_, 1) := by decide +kernel
theorem dX9_step_0 : decode cX9_step 0 = .ok (.aload_n 0, 1) := by decide +kernel
theorem dX9_step_1 : decode cX9_step 1 = .ok (.iload_n 1, 1) := by decide +kernel
theorem dX9_step_2 : decode cX9_step 2 = .ok (.iload_n 2, 1) := by decide +kernel
theorem dX9_step_3 : decode cX9_step 3 = .ok (.invokevirtual 141, 3) := by decide +kernel
theorem dX9_step_6 : decode cX9_step 6 = .ok (.istore 4, 2) := by decide +kernel
theorem dX9_step_8 : decode cX9_step 8 = .ok (.bipush 6, 2) := by decide +kernel
theorem dX9_step_10 : decode cX9_step 10 = .ok (.iload_n 3, 1) := by decide +kernel
theorem dX9_step_11 : decode cX9_step 11 = .ok (.imul, 1) := by decide +kernel
theorem dX9_step_12 : decode cX9_step 12 = .ok (.aload_n 0, 1) := by decide +kernel
theorem dX9_step_13 : decode cX9_step 13 = .ok (.getfield 81, 3) := by decide +kernel
theorem dX9_step_16 : decode cX9_step 16 = .ok (.iload_n 3, 1) := by decide +kernel
theorem dX9_step_17 : decode cX9_step 17 = .ok (.iaload, 1) := by decide +kernel
theorem dX9_step_18 : decode cX9_step 18 = .ok (.iadd, 1) := by decide +kernel
theorem dX9_step_19 : decode cX9_step 19 = .ok (.istore 5, 2) := by decide +kernel
theorem dX9_step_21 : decode cX9_step 21 = .ok (.aload_n 0, 1) := by decide +kernel
theorem dX9_step_22 : decode cX9_step 22 = .ok (.iload_n 1, 1) := by decide +kernel
theorem dX9_step_23 : decode cX9_step 23 = .ok (.iload_n 2, 1) := by decide +kernel
theorem dX9_step_24 : decode cX9_step 24 = .ok (.invokevirtual 138, 3) := by decide +kernel
theorem dX9_step_27 : decode cX9_step 27 = .ok (.lookupswitch 162 #[(43, 94), (45, 121), (99, 150), (100, 49), (109, 73)], 49) := by decide +kernel
theorem dX9_step_76 : decode cX9_step 76 = .ok (.aload_n 0, 1) := by decide +kernel
theorem dX9_step_77 : decode cX9_step 77 = .ok (.getfield 75, 3) := by decide +kernel
theorem dX9_step_80 : decode cX9_step 80 = .ok (.iload 4, 2) := by decide +kernel
theorem dX9_step_82 : decode cX9_step 82 = .ok (.aload_n 0, 1) := by decide +kernel
theorem dX9_step_83 : decode cX9_step 83 = .ok (.getfield 297, 3) := by decide +kernel
theorem dX9_step_86 : decode cX9_step 86 = .ok (.iastore, 1) := by decide +kernel
theorem dX9_step_87 : decode cX9_step 87 = .ok (.aload_n 0, 1) := by decide +kernel
theorem dX9_step_88 : decode cX9_step 88 = .ok (.dup, 1) := by decide +kernel
theorem dX9_step_89 : decode cX9_step 89 = .ok (.getfield 297, 3) := by decide +kernel
theorem dX9_step_92 : decode cX9_step 92 = .ok (.iconst 1, 1) := by decide +kernel
theorem dX9_step_93 : decode cX9_step 93 = .ok (.iadd, 1) := by decide +kernel
theorem dX9_step_94 : decode cX9_step 94 = .ok (.putfield 297, 3) := by decide +kernel
theorem dX9_step_97 : decode cX9_step 97 = .ok (.goto 92, 3) := by decide +kernel
theorem dX9_step_100 : decode cX9_step 100 = .ok (.aload_n 0, 1) := by decide +kernel
theorem dX9_step_101 : decode cX9_step 101 = .ok (.getfield 75, 3) := by decide +kernel
theorem dX9_step_104 : decode cX9_step 104 = .ok (.iload 4, 2) := by decide +kernel
theorem dX9_step_106 : decode cX9_step 106 = .ok (.aload_n 0, 1) := by decide +kernel
theorem dX9_step_107 : decode cX9_step 107 = .ok (.getfield 75, 3) := by decide +kernel
theorem dX9_step_110 : decode cX9_step 110 = .ok (.aload_n 0, 1) := by decide +kernel
theorem dX9_step_111 : decode cX9_step 111 = .ok (.iload_n 1, 1) := by decide +kernel
theorem dX9_step_112 : decode cX9_step 112 = .ok (.iload_n 2, 1) := by decide +kernel
theorem dX9_step_113 : decode cX9_step 113 = .ok (.invokevirtual 144, 3) := by decide +kernel
theorem dX9_step_116 : decode cX9_step 116 = .ok (.iaload, 1) := by decide +kernel
theorem dX9_step_117 : decode cX9_step 117 = .ok (.iastore, 1) := by decide +kernel
theorem dX9_step_118 : decode cX9_step 118 = .ok (.goto 71, 3) := by decide +kernel
theorem dX9_step_121 : decode cX9_step 121 = .ok (.aload_n 0, 1) := by decide +kernel
theorem dX9_step_122 : decode cX9_step 122 = .ok (.getfield 78, 3) := by decide +kernel
theorem dX9_step_125 : decode cX9_step 125 = .ok (.iload 5, 2) := by decide +kernel
theorem dX9_step_127 : decode cX9_step 127 = .ok (.aload_n 0, 1) := by decide +kernel
theorem dX9_step_128 : decode cX9_step 128 = .ok (.getfield 75, 3) := by decide +kernel
theorem dX9_step_131 : decode cX9_step 131 = .ok (.iload 4, 2) := by decide +kernel
theorem dX9_step_133 : decode cX9_step 133 = .ok (.iaload, 1) := by decide +kernel
theorem dX9_step_134 : decode cX9_step 134 = .ok (.iastore, 1) := by decide +kernel
theorem dX9_step_135 : decode cX9_step 135 = .ok (.aload_n 0, 1) := by decide +kernel
theorem dX9_step_136 : decode cX9_step 136 = .ok (.getfield 81, 3) := by decide +kernel
theorem dX9_step_139 : decode cX9_step 139 = .ok (.iload_n 3, 1) := by decide +kernel
theorem dX9_step_140 : decode cX9_step 140 = .ok (.dup2, 1) := by decide +kernel
theorem dX9_step_141 : decode cX9_step 141 = .ok (.iaload, 1) := by decide +kernel
theorem dX9_step_142 : decode cX9_step 142 = .ok (.iconst 1, 1) := by decide +kernel
theorem dX9_step_143 : decode cX9_step 143 = .ok (.iadd, 1) := by decide +kernel
theorem dX9_step_144 : decode cX9_step 144 = .ok (.iastore, 1) := by decide +kernel
theorem dX9_step_145 : decode cX9_step 145 = .ok (.goto 44, 3) := by decide +kernel
theorem dX9_step_148 : decode cX9_step 148 = .ok (.aload_n 0, 1) := by decide +kernel
theorem dX9_step_149 : decode cX9_step 149 = .ok (.getfield 75, 3) := by decide +kernel
theorem dX9_step_152 : decode cX9_step 152 = .ok (.iload 4, 2) := by decide +kernel
theorem dX9_step_154 : decode cX9_step 154 = .ok (.aload_n 0, 1) := by decide +kernel
theorem dX9_step_155 : decode cX9_step 155 = .ok (.getfield 78, 3) := by decide +kernel
theorem dX9_step_158 : decode cX9_step 158 = .ok (.iload 5, 2) := by decide +kernel
theorem dX9_step_160 : decode cX9_step 160 = .ok (.iconst 1, 1) := by decide +kernel
theorem dX9_step_161 : decode cX9_step 161 = .ok (.isub, 1) := by decide +kernel
theorem dX9_step_162 : decode cX9_step 162 = .ok (.iaload, 1) := by decide +kernel
theorem dX9_step_163 : decode cX9_step 163 = .ok (.iastore, 1) := by decide +kernel
theorem dX9_step_164 : decode cX9_step 164 = .ok (.aload_n 0, 1) := by decide +kernel
theorem dX9_step_165 : decode cX9_step 165 = .ok (.getfield 81, 3) := by decide +kernel
theorem dX9_step_168 : decode cX9_step 168 = .ok (.iload_n 3, 1) := by decide +kernel
theorem dX9_step_169 : decode cX9_step 169 = .ok (.dup2, 1) := by decide +kernel
theorem dX9_step_170 : decode cX9_step 170 = .ok (.iaload, 1) := by decide +kernel
theorem dX9_step_171 : decode cX9_step 171 = .ok (.iconst 1, 1) := by decide +kernel
theorem dX9_step_172 : decode cX9_step 172 = .ok (.isub, 1) := by decide +kernel
theorem dX9_step_173 : decode cX9_step 173 = .ok (.iastore, 1) := by decide +kernel
theorem dX9_step_174 : decode cX9_step 174 = .ok (.goto 15, 3) := by decide +kernel
theorem dX9_step_177 : decode cX9_step 177 = .ok (.aload_n 0, 1) := by decide +kernel
theorem dX9_step_178 : decode cX9_step 178 = .ok (.iload 4, 2) := by decide +kernel
theorem dX9_step_180 : decode cX9_step 180 = .ok (.iload_n 3, 1) := by decide +kernel
theorem dX9_step_181 : decode cX9_step 181 = .ok (.iconst 1, 1) := by decide +kernel
theorem dX9_step_182 : decode cX9_step 182 = .ok (.iadd, 1) := by decide +kernel
theorem dX9_step_183 : decode cX9_step 183 = .ok (.invokevirtual 300, 3) := by decide +kernel
theorem dX9_step_186 : decode cX9_step 186 = .ok (.goto 3, 3) := by decide +kernel
theorem dX9_step_189 : decode cX9_step 189 = .ok (.return_, 1) := by decide +kernel
theorem dX9_run_0 : decode cX9_run 0 = .ok (.aload_n 0, 1) := by decide +kernel
theorem dX9_run_1 : decode cX9_run 1 = .ok (.iload_n 1, 1) := by decide +kernel
theorem dX9_run_2 : decode cX9_run 2 = .ok (.invokestatic 93, 3) := by decide +kernel
theorem dX9_run_5 : decode cX9_run 5 = .ok (.ifCond .eq 7, 3) := by decide +kernel
theorem dX9_run_8 : decode cX9_run 8 = .ok (.iconst 0, 1) := by decide +kernel
theorem dX9_run_9 : decode cX9_run 9 = .ok (.goto 4, 3) := by decide +kernel
theorem dX9_run_12 : decode cX9_run 12 = .ok (.iconst 1, 1) := by decide +kernel
theorem dX9_run_13 : decode cX9_run 13 = .ok (.putfield 84, 3) := by decide +kernel
theorem dX9_run_16 : decode cX9_run 16 = .ok (.aload_n 0, 1) := by decide +kernel
theorem dX9_run_17 : decode cX9_run 17 = .ok (.getfield 84, 3) := by decide +kernel
theorem dX9_run_20 : decode cX9_run 20 = .ok (.ifCond .le 5, 3) := by decide +kernel
theorem dX9_run_23 : decode cX9_run 23 = .ok (.iconst 0, 1) := by decide +kernel
theorem dX9_run_24 : decode cX9_run 24 = .ok (.ireturn, 1) := by decide +kernel
theorem dX9_run_25 : decode cX9_run 25 = .ok (.iconst 0, 1) := by decide +kernel
theorem dX9_run_26 : decode cX9_run 26 = .ok (.istore_n 3, 1) := by decide +kernel
theorem dX9_run_27 : decode cX9_run 27 = .ok (.iload_n 3, 1) := by decide +kernel
theorem dX9_run_28 : decode cX9_run 28 = .ok (.bipush 8, 2) := by decide +kernel
theorem dX9_run_30 : decode cX9_run 30 = .ok (.if_icmp .ge 16, 3) := by decide +kernel
theorem dX9_run_33 : decode cX9_run 33 = .ok (.aload_n 0, 1) := by decide +kernel
theorem dX9_run_34 : decode cX9_run 34 = .ok (.getfield 75, 3) := by decide +kernel
theorem dX9_run_37 : decode cX9_run 37 = .ok (.iload_n 3, 1) := by decide +kernel
theorem dX9_run_38 : decode cX9_run 38 = .ok (.iload_n 3, 1) := by decide +kernel
theorem dX9_run_39 : decode cX9_run 39 = .ok (.iastore, 1) := by decide +kernel
theorem dX9_run_40 : decode cX9_run 40 = .ok (.iinc 3 1, 3) := by decide +kernel
theorem dX9_run_43 : decode cX9_run 43 = .ok (.goto (-16), 3) := by decide +kernel
theorem dX9_run_46 : decode cX9_run 46 = .ok (.aload_n 0, 1) := by decide +kernel
theorem dX9_run_47 : decode cX9_run 47 = .ok (.bipush 8, 2) := by decide +kernel
theorem dX9_run_49 : decode cX9_run 49 = .ok (.putfield 297, 3) := by decide +kernel
theorem dX9_run_52 : decode cX9_run 52 = .ok (.aload_n 0, 1) := by decide +kernel
theorem dX9_run_53 : decode cX9_run 53 = .ok (.iconst 0, 1) := by decide +kernel
theorem dX9_run_54 : decode cX9_run 54 = .ok (.putfield 278, 3) := by decide +kernel
theorem dX9_run_57 : decode cX9_run 57 = .ok (.aload_n 0, 1) := by decide +kernel
theorem dX9_run_58 : decode cX9_run 58 = .ok (.iconst 0, 1) := by decide +kernel
theorem dX9_run_59 : decode cX9_run 59 = .ok (.putfield 291, 3) := by decide +kernel
theorem dX9_run_62 : decode cX9_run 62 = .ok (.aload_n 0, 1) := by decide +kernel
theorem dX9_run_63 : decode cX9_run 63 = .ok (.iload_n 2, 1) := by decide +kernel
theorem dX9_run_64 : decode cX9_run 64 = .ok (.putfield 288, 3) := by decide +kernel
theorem dX9_run_67 : decode cX9_run 67 = .ok (.aload_n 0, 1) := by decide +kernel
theorem dX9_run_68 : decode cX9_run 68 = .ok (.iconst 0, 1) := by decide +kernel
theorem dX9_run_69 : decode cX9_run 69 = .ok (.putfield 281, 3) := by decide +kernel
theorem dX9_run_72 : decode cX9_run 72 = .ok (.aload_n 0, 1) := by decide +kernel
theorem dX9_run_73 : decode cX9_run 73 = .ok (.iload_n 1, 1) := by decide +kernel
theorem dX9_run_74 : decode cX9_run 74 = .ok (.iconst 0, 1) := by decide +kernel
theorem dX9_run_75 : decode cX9_run 75 = .ok (.invokevirtual 300, 3) := by decide +kernel
theorem dX9_run_78 : decode cX9_run 78 = .ok (.aload_n 0, 1) := by decide +kernel
theorem dX9_run_79 : decode cX9_run 79 = .ok (.iconst 1, 1) := by decide +kernel
theorem dX9_run_80 : decode cX9_run 80 = .ok (.putfield 101, 3) := by decide +kernel
theorem dX9_run_83 : decode cX9_run 83 = .ok (.aload_n 0, 1) := by decide +kernel
theorem dX9_run_84 : decode cX9_run 84 = .ok (.getfield 278, 3) := by decide +kernel
theorem dX9_run_87 : decode cX9_run 87 = .ok (.ireturn, 1) := by decide +kernel
theorem dX9_isCut_0 : decode cX9_isCut 0 = .ok (.aload_n 0, 1) := by decide +kernel
theorem dX9_isCut_1 : decode cX9_isCut 1 = .ok (.aload_n 0, 1) := by decide +kernel
theorem dX9_isCut_2 : decode cX9_isCut 2 = .ok (.getfield 101, 3) := by decide +kernel
theorem dX9_isCut_5 : decode cX9_isCut 5 = .ok (.ifCond .eq 7, 3) := by decide +kernel
theorem dX9_isCut_8 : decode cX9_isCut 8 = .ok (.iconst 0, 1) := by decide +kernel
theorem dX9_isCut_9 : decode cX9_isCut 9 = .ok (.goto 4, 3) := by decide +kernel
theorem dX9_isCut_12 : decode cX9_isCut 12 = .ok (.iconst 1, 1) := by decide +kernel
theorem dX9_isCut_13 : decode cX9_isCut 13 = .ok (.putfield 84, 3) := by decide +kernel
theorem dX9_isCut_16 : decode cX9_isCut 16 = .ok (.aload_n 0, 1) := by decide +kernel
theorem dX9_isCut_17 : decode cX9_isCut 17 = .ok (.getfield 84, 3) := by decide +kernel
theorem dX9_isCut_20 : decode cX9_isCut 20 = .ok (.ifCond .ne 14, 3) := by decide +kernel
theorem dX9_isCut_23 : decode cX9_isCut 23 = .ok (.aload_n 0, 1) := by decide +kernel
theorem dX9_isCut_24 : decode cX9_isCut 24 = .ok (.getfield 281, 3) := by decide +kernel
theorem dX9_isCut_27 : decode cX9_isCut 27 = .ok (.ifCond .eq 7, 3) := by decide +kernel
theorem dX9_isCut_30 : decode cX9_isCut 30 = .ok (.iconst 1, 1) := by decide +kernel
theorem dX9_isCut_31 : decode cX9_isCut 31 = .ok (.goto 4, 3) := by decide +kernel
theorem dX9_isCut_34 : decode cX9_isCut 34 = .ok (.iconst 0, 1) := by decide +kernel
theorem dX9_isCut_35 : decode cX9_isCut 35 = .ok (.ireturn, 1) := by decide +kernel
theorem dX9_observed_0 : decode cX9_observed 0 = .ok (.aload_n 0, 1) := by decide +kernel
theorem dX9_observed_1 : decode cX9_observed 1 = .ok (.aload_n 0, 1) := by decide +kernel
theorem dX9_observed_2 : decode cX9_observed 2 = .ok (.getfield 101, 3) := by decide +kernel
theorem dX9_observed_5 : decode cX9_observed 5 = .ok (.ifCond .ne 7, 3) := by decide +kernel
theorem dX9_observed_8 : decode cX9_observed 8 = .ok (.iconst 1, 1) := by decide +kernel
theorem dX9_observed_9 : decode cX9_observed 9 = .ok (.goto 15, 3) := by decide +kernel
theorem dX9_observed_12 : decode cX9_observed 12 = .ok (.aload_n 0, 1) := by decide +kernel
theorem dX9_observed_13 : decode cX9_observed 13 = .ok (.getfield 281, 3) := by decide +kernel
theorem dX9_observed_16 : decode cX9_observed 16 = .ok (.ifCond .eq 7, 3) := by decide +kernel
theorem dX9_observed_19 : decode cX9_observed 19 = .ok (.iconst 2, 1) := by decide +kernel
theorem dX9_observed_20 : decode cX9_observed 20 = .ok (.goto 4, 3) := by decide +kernel
theorem dX9_observed_23 : decode cX9_observed 23 = .ok (.iconst 0, 1) := by decide +kernel
theorem dX9_observed_24 : decode cX9_observed 24 = .ok (.putfield 84, 3) := by decide +kernel
theorem dX9_observed_27 : decode cX9_observed 27 = .ok (.iconst 0, 1) := by decide +kernel
theorem dX9_observed_28 : decode cX9_observed 28 = .ok (.istore_n 1, 1) := by decide +kernel
theorem dX9_observed_29 : decode cX9_observed 29 = .ok (.iconst 0, 1) := by decide +kernel
theorem dX9_observed_30 : decode cX9_observed 30 = .ok (.istore_n 2, 1) := by decide +kernel
theorem dX9_observed_31 : decode cX9_observed 31 = .ok (.iload_n 2, 1) := by decide +kernel
theorem dX9_observed_32 : decode cX9_observed 32 = .ok (.bipush 8, 2) := by decide +kernel
theorem dX9_observed_34 : decode cX9_observed 34 = .ok (.if_icmp .ge 36, 3) := by decide +kernel
theorem dX9_observed_37 : decode cX9_observed 37 = .ok (.aload_n 0, 1) := by decide +kernel
theorem dX9_observed_38 : decode cX9_observed 38 = .ok (.getfield 84, 3) := by decide +kernel
theorem dX9_observed_41 : decode cX9_observed 41 = .ok (.ifCond .ne 29, 3) := by decide +kernel
theorem dX9_observed_44 : decode cX9_observed 44 = .ok (.iload_n 1, 1) := by decide +kernel
theorem dX9_observed_45 : decode cX9_observed 45 = .ok (.aload_n 0, 1) := by decide +kernel
theorem dX9_observed_46 : decode cX9_observed 46 = .ok (.getfield 75, 3) := by decide +kernel
theorem dX9_observed_49 : decode cX9_observed 49 = .ok (.iload_n 2, 1) := by decide +kernel
theorem dX9_observed_50 : decode cX9_observed 50 = .ok (.iaload, 1) := by decide +kernel
theorem dX9_observed_51 : decode cX9_observed 51 = .ok (.iload_n 2, 1) := by decide +kernel
theorem dX9_observed_52 : decode cX9_observed 52 = .ok (.if_icmp .ne 9, 3) := by decide +kernel
theorem dX9_observed_55 : decode cX9_observed 55 = .ok (.iconst 1, 1) := by decide +kernel
theorem dX9_observed_56 : decode cX9_observed 56 = .ok (.iload_n 2, 1) := by decide +kernel
theorem dX9_observed_57 : decode cX9_observed 57 = .ok (.ishl, 1) := by decide +kernel
theorem dX9_observed_58 : decode cX9_observed 58 = .ok (.goto 4, 3) := by decide +kernel
theorem dX9_observed_61 : decode cX9_observed 61 = .ok (.iconst 0, 1) := by decide +kernel
theorem dX9_observed_62 : decode cX9_observed 62 = .ok (.ior, 1) := by decide +kernel
theorem dX9_observed_63 : decode cX9_observed 63 = .ok (.istore_n 1, 1) := by decide +kernel
theorem dX9_observed_64 : decode cX9_observed 64 = .ok (.iinc 2 1, 3) := by decide +kernel
theorem dX9_observed_67 : decode cX9_observed 67 = .ok (.goto (-36), 3) := by decide +kernel
theorem dX9_observed_70 : decode cX9_observed 70 = .ok (.iload_n 1, 1) := by decide +kernel
theorem dX9_observed_71 : decode cX9_observed 71 = .ok (.ireturn, 1) := by decide +kernel
theorem dX9_origin_0 : decode cX9_origin 0 = .ok (.aload_n 0, 1) := by decide +kernel
theorem dX9_origin_1 : decode cX9_origin 1 = .ok (.iload_n 1, 1) := by decide +kernel
theorem dX9_origin_2 : decode cX9_origin 2 = .ok (.invokestatic 267, 3) := by decide +kernel
theorem dX9_origin_5 : decode cX9_origin 5 = .ok (.ifCond .ne 7, 3) := by decide +kernel
theorem dX9_origin_8 : decode cX9_origin 8 = .ok (.iconst 1, 1) := by decide +kernel
theorem dX9_origin_9 : decode cX9_origin 9 = .ok (.goto 37, 3) := by decide +kernel
theorem dX9_origin_12 : decode cX9_origin 12 = .ok (.aload_n 0, 1) := by decide +kernel
theorem dX9_origin_13 : decode cX9_origin 13 = .ok (.getfield 101, 3) := by decide +kernel
theorem dX9_origin_16 : decode cX9_origin 16 = .ok (.ifCond .ne 7, 3) := by decide +kernel
theorem dX9_origin_19 : decode cX9_origin 19 = .ok (.iconst 2, 1) := by decide +kernel
theorem dX9_origin_20 : decode cX9_origin 20 = .ok (.goto 26, 3) := by decide +kernel
theorem dX9_origin_23 : decode cX9_origin 23 = .ok (.aload_n 0, 1) := by decide +kernel
theorem dX9_origin_24 : decode cX9_origin 24 = .ok (.getfield 281, 3) := by decide +kernel
theorem dX9_origin_27 : decode cX9_origin 27 = .ok (.ifCond .ne 14, 3) := by decide +kernel
theorem dX9_origin_30 : decode cX9_origin 30 = .ok (.aload_n 0, 1) := by decide +kernel
theorem dX9_origin_31 : decode cX9_origin 31 = .ok (.getfield 75, 3) := by decide +kernel
theorem dX9_origin_34 : decode cX9_origin 34 = .ok (.iload_n 1, 1) := by decide +kernel
theorem dX9_origin_35 : decode cX9_origin 35 = .ok (.iaload, 1) := by decide +kernel
theorem dX9_origin_36 : decode cX9_origin 36 = .ok (.bipush 8, 2) := by decide +kernel
theorem dX9_origin_38 : decode cX9_origin 38 = .ok (.if_icmp .lt 7, 3) := by decide +kernel
theorem dX9_origin_41 : decode cX9_origin 41 = .ok (.iconst 3, 1) := by decide +kernel
theorem dX9_origin_42 : decode cX9_origin 42 = .ok (.goto 4, 3) := by decide +kernel
theorem dX9_origin_45 : decode cX9_origin 45 = .ok (.iconst 0, 1) := by decide +kernel
theorem dX9_origin_46 : decode cX9_origin 46 = .ok (.putfield 84, 3) := by decide +kernel
theorem dX9_origin_49 : decode cX9_origin 49 = .ok (.aload_n 0, 1) := by decide +kernel
theorem dX9_origin_50 : decode cX9_origin 50 = .ok (.getfield 84, 3) := by decide +kernel
theorem dX9_origin_53 : decode cX9_origin 53 = .ok (.ifCond .le 7, 3) := by decide +kernel
theorem dX9_origin_56 : decode cX9_origin 56 = .ok (.iconst 0, 1) := by decide +kernel
theorem dX9_origin_57 : decode cX9_origin 57 = .ok (.goto 9, 3) := by decide +kernel
theorem dX9_origin_60 : decode cX9_origin 60 = .ok (.aload_n 0, 1) := by decide +kernel
theorem dX9_origin_61 : decode cX9_origin 61 = .ok (.getfield 75, 3) := by decide +kernel
theorem dX9_origin_64 : decode cX9_origin 64 = .ok (.iload_n 1, 1) := by decide +kernel
theorem dX9_origin_65 : decode cX9_origin 65 = .ok (.iaload, 1) := by decide +kernel
theorem dX9_origin_66 : decode cX9_origin 66 = .ok (.ireturn, 1) := by decide +kernel
theorem dX9_preservedShare_0 : decode cX9_preservedShare 0 = .ok (.aload_n 0, 1) := by decide +kernel
theorem dX9_preservedShare_1 : decode cX9_preservedShare 1 = .ok (.invokevirtual 275, 3) := by decide +kernel
theorem dX9_preservedShare_4 : decode cX9_preservedShare 4 = .ok (.istore_n 1, 1) := by decide +kernel
theorem dX9_preservedShare_5 : decode cX9_preservedShare 5 = .ok (.aload_n 0, 1) := by decide +kernel
theorem dX9_preservedShare_6 : decode cX9_preservedShare 6 = .ok (.iload_n 1, 1) := by decide +kernel
theorem dX9_preservedShare_7 : decode cX9_preservedShare 7 = .ok (.ifCond .ne 7, 3) := by decide +kernel
theorem dX9_preservedShare_10 : decode cX9_preservedShare 10 = .ok (.iconst 1, 1) := by decide +kernel
theorem dX9_preservedShare_11 : decode cX9_preservedShare 11 = .ok (.goto 4, 3) := by decide +kernel
theorem dX9_preservedShare_14 : decode cX9_preservedShare 14 = .ok (.iconst 0, 1) := by decide +kernel
theorem dX9_preservedShare_15 : decode cX9_preservedShare 15 = .ok (.putfield 84, 3) := by decide +kernel
theorem dX9_preservedShare_18 : decode cX9_preservedShare 18 = .ok (.aload_n 0, 1) := by decide +kernel
theorem dX9_preservedShare_19 : decode cX9_preservedShare 19 = .ok (.getfield 84, 3) := by decide +kernel
theorem dX9_preservedShare_22 : decode cX9_preservedShare 22 = .ok (.ifCond .le 5, 3) := by decide +kernel
theorem dX9_preservedShare_25 : decode cX9_preservedShare 25 = .ok (.dconst 0, 1) := by decide +kernel
theorem dX9_preservedShare_26 : decode cX9_preservedShare 26 = .ok (.dreturn, 1) := by decide +kernel
theorem dX9_preservedShare_27 : decode cX9_preservedShare 27 = .ok (.aload_n 0, 1) := by decide +kernel
theorem dX9_preservedShare_28 : decode cX9_preservedShare 28 = .ok (.invokevirtual 231, 3) := by decide +kernel
theorem dX9_preservedShare_31 : decode cX9_preservedShare 31 = .ok (.iconst 0, 1) := by decide +kernel
theorem dX9_preservedShare_32 : decode cX9_preservedShare 32 = .ok (.istore_n 2, 1) := by decide +kernel
theorem dX9_preservedShare_33 : decode cX9_preservedShare 33 = .ok (.iconst 0, 1) := by decide +kernel
theorem dX9_preservedShare_34 : decode cX9_preservedShare 34 = .ok (.istore_n 3, 1) := by decide +kernel
theorem dX9_preservedShare_35 : decode cX9_preservedShare 35 = .ok (.iload_n 3, 1) := by decide +kernel
theorem dX9_preservedShare_36 : decode cX9_preservedShare 36 = .ok (.bipush 8, 2) := by decide +kernel
theorem dX9_preservedShare_38 : decode cX9_preservedShare 38 = .ok (.if_icmp .ge 18, 3) := by decide +kernel
theorem dX9_preservedShare_41 : decode cX9_preservedShare 41 = .ok (.iload_n 2, 1) := by decide +kernel
theorem dX9_preservedShare_42 : decode cX9_preservedShare 42 = .ok (.aload_n 0, 1) := by decide +kernel
theorem dX9_preservedShare_43 : decode cX9_preservedShare 43 = .ok (.iload_n 3, 1) := by decide +kernel
theorem dX9_preservedShare_44 : decode cX9_preservedShare 44 = .ok (.iconst 3, 1) := by decide +kernel
theorem dX9_preservedShare_45 : decode cX9_preservedShare 45 = .ok (.invokevirtual 272, 3) := by decide +kernel
theorem dX9_preservedShare_48 : decode cX9_preservedShare 48 = .ok (.iadd, 1) := by decide +kernel
theorem dX9_preservedShare_49 : decode cX9_preservedShare 49 = .ok (.istore_n 2, 1) := by decide +kernel
theorem dX9_preservedShare_50 : decode cX9_preservedShare 50 = .ok (.iinc 3 1, 3) := by decide +kernel
theorem dX9_preservedShare_53 : decode cX9_preservedShare 53 = .ok (.goto (-18), 3) := by decide +kernel
theorem dX9_preservedShare_56 : decode cX9_preservedShare 56 = .ok (.iload_n 2, 1) := by decide +kernel
theorem dX9_preservedShare_57 : decode cX9_preservedShare 57 = .ok (.i2d, 1) := by decide +kernel
theorem dX9_preservedShare_58 : decode cX9_preservedShare 58 = .ok (.iload_n 1, 1) := by decide +kernel
theorem dX9_preservedShare_59 : decode cX9_preservedShare 59 = .ok (.i2d, 1) := by decide +kernel
theorem dX9_preservedShare_60 : decode cX9_preservedShare 60 = .ok (.ddiv, 1) := by decide +kernel
theorem dX9_preservedShare_61 : decode cX9_preservedShare 61 = .ok (.dreturn, 1) := by decide +kernel
theorem dX9_problemShare_0 : decode cX9_problemShare 0 = .ok (.aload_n 0, 1) := by decide +kernel
theorem dX9_problemShare_1 : decode cX9_problemShare 1 = .ok (.invokevirtual 231, 3) := by decide +kernel
theorem dX9_problemShare_4 : decode cX9_problemShare 4 = .ok (.aload_n 0, 1) := by decide +kernel
theorem dX9_problemShare_5 : decode cX9_problemShare 5 = .ok (.aload_n 0, 1) := by decide +kernel
theorem dX9_problemShare_6 : decode cX9_problemShare 6 = .ok (.getfield 201, 3) := by decide +kernel
theorem dX9_problemShare_9 : decode cX9_problemShare 9 = .ok (.ifCond .ne 7, 3) := by decide +kernel
theorem dX9_problemShare_12 : decode cX9_problemShare 12 = .ok (.iconst 1, 1) := by decide +kernel
theorem dX9_problemShare_13 : decode cX9_problemShare 13 = .ok (.goto 4, 3) := by decide +kernel
theorem dX9_problemShare_16 : decode cX9_problemShare 16 = .ok (.iconst 0, 1) := by decide +kernel
theorem dX9_problemShare_17 : decode cX9_problemShare 17 = .ok (.putfield 84, 3) := by decide +kernel
theorem dX9_problemShare_20 : decode cX9_problemShare 20 = .ok (.aload_n 0, 1) := by decide +kernel
theorem dX9_problemShare_21 : decode cX9_problemShare 21 = .ok (.getfield 84, 3) := by decide +kernel
theorem dX9_problemShare_24 : decode cX9_problemShare 24 = .ok (.ifCond .le 7, 3) := by decide +kernel
theorem dX9_problemShare_27 : decode cX9_problemShare 27 = .ok (.fconst 0, 1) := by decide +kernel
theorem dX9_problemShare_28 : decode cX9_problemShare 28 = .ok (.goto 14, 3) := by decide +kernel
theorem dX9_problemShare_31 : decode cX9_problemShare 31 = .ok (.aload_n 0, 1) := by decide +kernel
theorem dX9_problemShare_32 : decode cX9_problemShare 32 = .ok (.invokevirtual 264, 3) := by decide +kernel
theorem dX9_problemShare_35 : decode cX9_problemShare 35 = .ok (.i2f, 1) := by decide +kernel
theorem dX9_problemShare_36 : decode cX9_problemShare 36 = .ok (.aload_n 0, 1) := by decide +kernel
theorem dX9_problemShare_37 : decode cX9_problemShare 37 = .ok (.getfield 201, 3) := by decide +kernel
theorem dX9_problemShare_40 : decode cX9_problemShare 40 = .ok (.i2f, 1) := by decide +kernel
theorem dX9_problemShare_41 : decode cX9_problemShare 41 = .ok (.fdiv, 1) := by decide +kernel
theorem dX9_problemShare_42 : decode cX9_problemShare 42 = .ok (.freturn, 1) := by decide +kernel
theorem dX9_save_0 : decode cX9_save 0 = .ok (.aload_n 0, 1) := by decide +kernel
theorem dX9_save_1 : decode cX9_save 1 = .ok (.iconst 0, 1) := by decide +kernel
theorem dX9_save_2 : decode cX9_save 2 = .ok (.putfield 84, 3) := by decide +kernel
theorem dX9_save_5 : decode cX9_save 5 = .ok (.aload_n 0, 1) := by decide +kernel
theorem dX9_save_6 : decode cX9_save 6 = .ok (.getfield 9, 3) := by decide +kernel
theorem dX9_save_9 : decode cX9_save 9 = .ok (.iconst 0, 1) := by decide +kernel
theorem dX9_save_10 : decode cX9_save 10 = .ok (.aload_n 0, 1) := by decide +kernel
theorem dX9_save_11 : decode cX9_save 11 = .ok (.getfield 13, 3) := by decide +kernel
theorem dX9_save_14 : decode cX9_save 14 = .ok (.iconst 0, 1) := by decide +kernel
theorem dX9_save_15 : decode cX9_save 15 = .ok (.sipush 344, 3) := by decide +kernel
theorem dX9_save_18 : decode cX9_save 18 = .ok (.invokestatic 162, 3) := by decide +kernel
theorem dX9_save_21 : decode cX9_save 21 = .ok (.aload_n 0, 1) := by decide +kernel
theorem dX9_save_22 : decode cX9_save 22 = .ok (.iconst 1, 1) := by decide +kernel
theorem dX9_save_23 : decode cX9_save 23 = .ok (.putfield 304, 3) := by decide +kernel
theorem dX9_save_26 : decode cX9_save 26 = .ok (.return_, 1) := by decide +kernel
theorem dX9_restore_0 : decode cX9_restore 0 = .ok (.aload_n 0, 1) := by decide +kernel
theorem dX9_restore_1 : decode cX9_restore 1 = .ok (.aload_n 0, 1) := by decide +kernel
theorem dX9_restore_2 : decode cX9_restore 2 = .ok (.getfield 304, 3) := by decide +kernel
theorem dX9_restore_5 : decode cX9_restore 5 = .ok (.ifCond .eq 7, 3) := by decide +kernel
theorem dX9_restore_8 : decode cX9_restore 8 = .ok (.iconst 0, 1) := by decide +kernel
theorem dX9_restore_9 : decode cX9_restore 9 = .ok (.goto 4, 3) := by decide +kernel
theorem dX9_restore_12 : decode cX9_restore 12 = .ok (.iconst 1, 1) := by decide +kernel
theorem dX9_restore_13 : decode cX9_restore 13 = .ok (.putfield 84, 3) := by decide +kernel
theorem dX9_restore_16 : decode cX9_restore 16 = .ok (.aload_n 0, 1) := by decide +kernel
theorem dX9_restore_17 : decode cX9_restore 17 = .ok (.getfield 84, 3) := by decide +kernel
theorem dX9_restore_20 : decode cX9_restore 20 = .ok (.ifCond .ne 23, 3) := by decide +kernel
theorem dX9_restore_23 : decode cX9_restore 23 = .ok (.aload_n 0, 1) := by decide +kernel
theorem dX9_restore_24 : decode cX9_restore 24 = .ok (.getfield 13, 3) := by decide +kernel
theorem dX9_restore_27 : decode cX9_restore 27 = .ok (.iconst 0, 1) := by decide +kernel
theorem dX9_restore_28 : decode cX9_restore 28 = .ok (.aload_n 0, 1) := by decide +kernel
theorem dX9_restore_29 : decode cX9_restore 29 = .ok (.getfield 9, 3) := by decide +kernel
theorem dX9_restore_32 : decode cX9_restore 32 = .ok (.iconst 0, 1) := by decide +kernel
theorem dX9_restore_33 : decode cX9_restore 33 = .ok (.sipush 344, 3) := by decide +kernel
theorem dX9_restore_36 : decode cX9_restore 36 = .ok (.invokestatic 162, 3) := by decide +kernel
theorem dX9_restore_39 : decode cX9_restore 39 = .ok (.aload_n 0, 1) := by decide +kernel
theorem dX9_restore_40 : decode cX9_restore 40 = .ok (.invokevirtual 131, 3) := by decide +kernel
theorem dX9_restore_43 : decode cX9_restore 43 = .ok (.return_, 1) := by decide +kernel
theorem dJx00060_init_a7421_0 : decode cJx00060_init_a7421 0 = .ok (.aload_n 0, 1) := by decide +kernel
theorem dJx00060_init_a7421_1 : decode cJx00060_init_a7421 1 = .ok (.aload_n 1, 1) := by decide +kernel
theorem dJx00060_init_a7421_2 : decode cJx00060_init_a7421 2 = .ok (.invokespecial 7, 3) := by decide +kernel
theorem dJx00060_init_a7421_5 : decode cJx00060_init_a7421 5 = .ok (.return_, 1) := by decide +kernel
theorem dJ9_max_7cf53_0 : decode cJ9_max_7cf53 0 = .ok (.iload_n 0, 1) := by decide +kernel
theorem dJ9_max_7cf53_1 : decode cJ9_max_7cf53 1 = .ok (.iload_n 1, 1) := by decide +kernel
theorem dJ9_max_7cf53_2 : decode cJ9_max_7cf53 2 = .ok (.if_icmp .lt 7, 3) := by decide +kernel
theorem dJ9_max_7cf53_5 : decode cJ9_max_7cf53 5 = .ok (.iload_n 0, 1) := by decide +kernel
theorem dJ9_max_7cf53_6 : decode cJ9_max_7cf53 6 = .ok (.goto 4, 3) := by decide +kernel
theorem dJ9_max_7cf53_9 : decode cJ9_max_7cf53 9 = .ok (.iload_n 1, 1) := by decide +kernel
theorem dJ9_max_7cf53_10 : decode cJ9_max_7cf53 10 = .ok (.ireturn, 1) := by decide +kernel
theorem dJ9_min_7cf53_0 : decode cJ9_min_7cf53 0 = .ok (.iload_n 0, 1) := by decide +kernel
theorem dJ9_min_7cf53_1 : decode cJ9_min_7cf53 1 = .ok (.iload_n 1, 1) := by decide +kernel
theorem dJ9_min_7cf53_2 : decode cJ9_min_7cf53 2 = .ok (.if_icmp .gt 7, 3) := by decide +kernel
theorem dJ9_min_7cf53_5 : decode cJ9_min_7cf53 5 = .ok (.iload_n 0, 1) := by decide +kernel
theorem dJ9_min_7cf53_6 : decode cJ9_min_7cf53 6 = .ok (.goto 4, 3) := by decide +kernel
theorem dJ9_min_7cf53_9 : decode cJ9_min_7cf53 9 = .ok (.iload_n 1, 1) := by decide +kernel
theorem dJ9_min_7cf53_10 : decode cJ9_min_7cf53 10 = .ok (.ireturn, 1) := by decide +kernel
theorem dJ7_fill_53178_0 : decode cJ7_fill_53178 0 = .ok (.iconst 0, 1) := by decide +kernel
theorem dJ7_fill_53178_1 : decode cJ7_fill_53178 1 = .ok (.istore_n 2, 1) := by decide +kernel
theorem dJ7_fill_53178_2 : decode cJ7_fill_53178 2 = .ok (.aload_n 0, 1) := by decide +kernel
theorem dJ7_fill_53178_3 : decode cJ7_fill_53178 3 = .ok (.arraylength, 1) := by decide +kernel
theorem dJ7_fill_53178_4 : decode cJ7_fill_53178 4 = .ok (.istore_n 3, 1) := by decide +kernel
theorem dJ7_fill_53178_5 : decode cJ7_fill_53178 5 = .ok (.iload_n 2, 1) := by decide +kernel
theorem dJ7_fill_53178_6 : decode cJ7_fill_53178 6 = .ok (.iload_n 3, 1) := by decide +kernel
theorem dJ7_fill_53178_7 : decode cJ7_fill_53178 7 = .ok (.if_icmp .ge 13, 3) := by decide +kernel
theorem dJ7_fill_53178_10 : decode cJ7_fill_53178 10 = .ok (.aload_n 0, 1) := by decide +kernel
theorem dJ7_fill_53178_11 : decode cJ7_fill_53178 11 = .ok (.iload_n 2, 1) := by decide +kernel
theorem dJ7_fill_53178_12 : decode cJ7_fill_53178 12 = .ok (.iload_n 1, 1) := by decide +kernel
theorem dJ7_fill_53178_13 : decode cJ7_fill_53178 13 = .ok (.iastore, 1) := by decide +kernel
theorem dJ7_fill_53178_14 : decode cJ7_fill_53178 14 = .ok (.iinc 2 1, 3) := by decide +kernel
theorem dJ7_fill_53178_17 : decode cJ7_fill_53178 17 = .ok (.goto (-12), 3) := by decide +kernel
theorem dJ7_fill_53178_20 : decode cJ7_fill_53178 20 = .ok (.return_, 1) := by decide +kernel
theorem dL_appendCharacter_0 : decode cL_appendCharacter 0 = .ok (.aload_n 2, 1) := by decide +kernel
theorem dL_appendCharacter_1 : decode cL_appendCharacter 1 = .ok (.iconst 0, 1) := by decide +kernel
theorem dL_appendCharacter_2 : decode cL_appendCharacter 2 = .ok (.aload_n 0, 1) := by decide +kernel
theorem dL_appendCharacter_3 : decode cL_appendCharacter 3 = .ok (.iload_n 1, 1) := by decide +kernel
theorem dL_appendCharacter_4 : decode cL_appendCharacter 4 = .ok (.invokevirtual 7, 3) := by decide +kernel
theorem dL_appendCharacter_7 : decode cL_appendCharacter 7 = .ok (.i2l, 1) := by decide +kernel
theorem dL_appendCharacter_8 : decode cL_appendCharacter 8 = .ok (.lastore, 1) := by decide +kernel
theorem dL_appendCharacter_9 : decode cL_appendCharacter 9 = .ok (.goto 9, 3) := by decide +kernel
theorem dL_appendCharacter_12 : decode cL_appendCharacter 12 = .ok (.astore_n 3, 1) := by decide +kernel
theorem dL_appendCharacter_13 : decode cL_appendCharacter 13 = .ok (.iconst 1, 1) := by decide +kernel
theorem dL_appendCharacter_14 : decode cL_appendCharacter 14 = .ok (.ireturn, 1) := by decide +kernel
theorem dL_appendCharacter_15 : decode cL_appendCharacter 15 = .ok (.astore_n 3, 1) := by decide +kernel
theorem dL_appendCharacter_16 : decode cL_appendCharacter 16 = .ok (.iconst 2, 1) := by decide +kernel
theorem dL_appendCharacter_17 : decode cL_appendCharacter 17 = .ok (.ireturn, 1) := by decide +kernel
theorem dL_appendCharacter_18 : decode cL_appendCharacter 18 = .ok (.iconst 0, 1) := by decide +kernel
theorem dL_appendCharacter_19 : decode cL_appendCharacter 19 = .ok (.ireturn, 1) := by decide +kernel
theorem dL_setBody_0 : decode cL_setBody 0 = .ok (.aload_n 2, 1) := by decide +kernel
theorem dL_setBody_1 : decode cL_setBody 1 = .ok (.iconst 0, 1) := by decide +kernel
theorem dL_setBody_2 : decode cL_setBody 2 = .ok (.aload_n 0, 1) := by decide +kernel
theorem dL_setBody_3 : decode cL_setBody 3 = .ok (.iload_n 1, 1) := by decide +kernel
theorem dL_setBody_4 : decode cL_setBody 4 = .ok (.invokevirtual 17, 3) := by decide +kernel
theorem dL_setBody_7 : decode cL_setBody 7 = .ok (.i2l, 1) := by decide +kernel
theorem dL_setBody_8 : decode cL_setBody 8 = .ok (.lastore, 1) := by decide +kernel
theorem dL_setBody_9 : decode cL_setBody 9 = .ok (.goto 12, 3) := by decide +kernel
theorem dL_setBody_12 : decode cL_setBody 12 = .ok (.astore_n 3, 1) := by decide +kernel
theorem dL_setBody_13 : decode cL_setBody 13 = .ok (.iconst 1, 1) := by decide +kernel
theorem dL_setBody_14 : decode cL_setBody 14 = .ok (.ireturn, 1) := by decide +kernel
theorem dL_setBody_15 : decode cL_setBody 15 = .ok (.astore_n 3, 1) := by decide +kernel
theorem dL_setBody_16 : decode cL_setBody 16 = .ok (.iconst 2, 1) := by decide +kernel
theorem dL_setBody_17 : decode cL_setBody 17 = .ok (.ireturn, 1) := by decide +kernel
theorem dL_setBody_18 : decode cL_setBody 18 = .ok (.astore_n 3, 1) := by decide +kernel
theorem dL_setBody_19 : decode cL_setBody 19 = .ok (.iconst 3, 1) := by decide +kernel
theorem dL_setBody_20 : decode cL_setBody 20 = .ok (.ireturn, 1) := by decide +kernel
theorem dL_setBody_21 : decode cL_setBody 21 = .ok (.iconst 0, 1) := by decide +kernel
theorem dL_setBody_22 : decode cL_setBody 22 = .ok (.ireturn, 1) := by decide +kernel
theorem dL_length_0 : decode cL_length 0 = .ok (.aload_n 2, 1) := by decide +kernel
theorem dL_length_1 : decode cL_length 1 = .ok (.iconst 0, 1) := by decide +kernel
theorem dL_length_2 : decode cL_length 2 = .ok (.aload_n 0, 1) := by decide +kernel
theorem dL_length_3 : decode cL_length 3 = .ok (.iload_n 1, 1) := by decide +kernel
theorem dL_length_4 : decode cL_length 4 = .ok (.invokevirtual 22, 3) := by decide +kernel
theorem dL_length_7 : decode cL_length 7 = .ok (.i2l, 1) := by decide +kernel
theorem dL_length_8 : decode cL_length 8 = .ok (.lastore, 1) := by decide +kernel
theorem dL_length_9 : decode cL_length 9 = .ok (.goto 6, 3) := by decide +kernel
theorem dL_length_12 : decode cL_length 12 = .ok (.astore_n 3, 1) := by decide +kernel
theorem dL_length_13 : decode cL_length 13 = .ok (.iconst 1, 1) := by decide +kernel
theorem dL_length_14 : decode cL_length 14 = .ok (.ireturn, 1) := by decide +kernel
theorem dL_length_15 : decode cL_length 15 = .ok (.iconst 0, 1) := by decide +kernel
theorem dL_length_16 : decode cL_length 16 = .ok (.ireturn, 1) := by decide +kernel
theorem dL_instruction_0 : decode cL_instruction 0 = .ok (.aload_n 3, 1) := by decide +kernel
theorem dL_instruction_1 : decode cL_instruction 1 = .ok (.iconst 0, 1) := by decide +kernel
theorem dL_instruction_2 : decode cL_instruction 2 = .ok (.aload_n 0, 1) := by decide +kernel
theorem dL_instruction_3 : decode cL_instruction 3 = .ok (.iload_n 1, 1) := by decide +kernel
theorem dL_instruction_4 : decode cL_instruction 4 = .ok (.iload_n 2, 1) := by decide +kernel
theorem dL_instruction_5 : decode cL_instruction 5 = .ok (.invokevirtual 25, 3) := by decide +kernel
theorem dL_instruction_8 : decode cL_instruction 8 = .ok (.i2l, 1) := by decide +kernel
theorem dL_instruction_9 : decode cL_instruction 9 = .ok (.lastore, 1) := by decide +kernel
theorem dL_instruction_10 : decode cL_instruction 10 = .ok (.goto 7, 3) := by decide +kernel
theorem dL_instruction_13 : decode cL_instruction 13 = .ok (.astore 4, 2) := by decide +kernel
theorem dL_instruction_15 : decode cL_instruction 15 = .ok (.iconst 1, 1) := by decide +kernel
theorem dL_instruction_16 : decode cL_instruction 16 = .ok (.ireturn, 1) := by decide +kernel
theorem dL_instruction_17 : decode cL_instruction 17 = .ok (.iconst 0, 1) := by decide +kernel
theorem dL_instruction_18 : decode cL_instruction 18 = .ok (.ireturn, 1) := by decide +kernel
theorem dL_operand_0 : decode cL_operand 0 = .ok (.aload_n 3, 1) := by decide +kernel
theorem dL_operand_1 : decode cL_operand 1 = .ok (.iconst 0, 1) := by decide +kernel
theorem dL_operand_2 : decode cL_operand 2 = .ok (.aload_n 0, 1) := by decide +kernel
theorem dL_operand_3 : decode cL_operand 3 = .ok (.iload_n 1, 1) := by decide +kernel
theorem dL_operand_4 : decode cL_operand 4 = .ok (.iload_n 2, 1) := by decide +kernel
theorem dL_operand_5 : decode cL_operand 5 = .ok (.invokevirtual 29, 3) := by decide +kernel
theorem dL_operand_8 : decode cL_operand 8 = .ok (.i2l, 1) := by decide +kernel
theorem dL_operand_9 : decode cL_operand 9 = .ok (.lastore, 1) := by decide +kernel
theorem dL_operand_10 : decode cL_operand 10 = .ok (.goto 11, 3) := by decide +kernel
theorem dL_operand_13 : decode cL_operand 13 = .ok (.astore 4, 2) := by decide +kernel
theorem dL_operand_15 : decode cL_operand 15 = .ok (.iconst 1, 1) := by decide +kernel
theorem dL_operand_16 : decode cL_operand 16 = .ok (.ireturn, 1) := by decide +kernel
theorem dL_operand_17 : decode cL_operand 17 = .ok (.astore 4, 2) := by decide +kernel
theorem dL_operand_19 : decode cL_operand 19 = .ok (.iconst 2, 1) := by decide +kernel
theorem dL_operand_20 : decode cL_operand 20 = .ok (.ireturn, 1) := by decide +kernel
theorem dL_operand_21 : decode cL_operand 21 = .ok (.iconst 0, 1) := by decide +kernel
theorem dL_operand_22 : decode cL_operand 22 = .ok (.ireturn, 1) := by decide +kernel
theorem dL_removeInstruction_0 : decode cL_removeInstruction 0 = .ok (.aload_n 3, 1) := by decide +kernel
theorem dL_removeInstruction_1 : decode cL_removeInstruction 1 = .ok (.iconst 0, 1) := by decide +kernel
theorem dL_removeInstruction_2 : decode cL_removeInstruction 2 = .ok (.aload_n 0, 1) := by decide +kernel
theorem dL_removeInstruction_3 : decode cL_removeInstruction 3 = .ok (.iload_n 1, 1) := by decide +kernel
theorem dL_removeInstruction_4 : decode cL_removeInstruction 4 = .ok (.iload_n 2, 1) := by decide +kernel
theorem dL_removeInstruction_5 : decode cL_removeInstruction 5 = .ok (.invokevirtual 35, 3) := by decide +kernel
theorem dL_removeInstruction_8 : decode cL_removeInstruction 8 = .ok (.i2l, 1) := by decide +kernel
theorem dL_removeInstruction_9 : decode cL_removeInstruction 9 = .ok (.lastore, 1) := by decide +kernel
theorem dL_removeInstruction_10 : decode cL_removeInstruction 10 = .ok (.goto 7, 3) := by decide +kernel
theorem dL_removeInstruction_13 : decode cL_removeInstruction 13 = .ok (.astore 4, 2) := by decide +kernel
theorem dL_removeInstruction_15 : decode cL_removeInstruction 15 = .ok (.iconst 1, 1) := by decide +kernel
theorem dL_removeInstruction_16 : decode cL_removeInstruction 16 = .ok (.ireturn, 1) := by decide +kernel
theorem dL_removeInstruction_17 : decode cL_removeInstruction 17 = .ok (.iconst 0, 1) := by decide +kernel
theorem dL_removeInstruction_18 : decode cL_removeInstruction 18 = .ok (.ireturn, 1) := by decide +kernel
theorem dL_isReachable_0 : decode cL_isReachable 0 = .ok (.aload_n 3, 1) := by decide +kernel
theorem dL_isReachable_1 : decode cL_isReachable 1 = .ok (.iconst 0, 1) := by decide +kernel
theorem dL_isReachable_2 : decode cL_isReachable 2 = .ok (.aload_n 0, 1) := by decide +kernel
theorem dL_isReachable_3 : decode cL_isReachable 3 = .ok (.iload_n 1, 1) := by decide +kernel
theorem dL_isReachable_4 : decode cL_isReachable 4 = .ok (.iload_n 2, 1) := by decide +kernel
theorem dL_isReachable_5 : decode cL_isReachable 5 = .ok (.invokevirtual 38, 3) := by decide +kernel
theorem dL_isReachable_8 : decode cL_isReachable 8 = .ok (.ifCond .eq 7, 3) := by decide +kernel
theorem dL_isReachable_11 : decode cL_isReachable 11 = .ok (.lconst 1, 1) := by decide +kernel
theorem dL_isReachable_12 : decode cL_isReachable 12 = .ok (.goto 4, 3) := by decide +kernel
theorem dL_isReachable_15 : decode cL_isReachable 15 = .ok (.lconst 0, 1) := by decide +kernel
theorem dL_isReachable_16 : decode cL_isReachable 16 = .ok (.lastore, 1) := by decide +kernel
theorem dL_isReachable_17 : decode cL_isReachable 17 = .ok (.goto 7, 3) := by decide +kernel
theorem dL_isReachable_20 : decode cL_isReachable 20 = .ok (.astore 4, 2) := by decide +kernel
theorem dL_isReachable_22 : decode cL_isReachable 22 = .ok (.iconst 1, 1) := by decide +kernel
theorem dL_isReachable_23 : decode cL_isReachable 23 = .ok (.ireturn, 1) := by decide +kernel
theorem dL_isReachable_24 : decode cL_isReachable 24 = .ok (.iconst 0, 1) := by decide +kernel
theorem dL_isReachable_25 : decode cL_isReachable 25 = .ok (.ireturn, 1) := by decide +kernel
theorem dL_isBalanced_0 : decode cL_isBalanced 0 = .ok (.aload_n 2, 1) := by decide +kernel
theorem dL_isBalanced_1 : decode cL_isBalanced 1 = .ok (.iconst 0, 1) := by decide +kernel
theorem dL_isBalanced_2 : decode cL_isBalanced 2 = .ok (.aload_n 0, 1) := by decide +kernel
theorem dL_isBalanced_3 : decode cL_isBalanced 3 = .ok (.iload_n 1, 1) := by decide +kernel
theorem dL_isBalanced_4 : decode cL_isBalanced 4 = .ok (.invokevirtual 42, 3) := by decide +kernel
theorem dL_isBalanced_7 : decode cL_isBalanced 7 = .ok (.ifCond .eq 7, 3) := by decide +kernel
theorem dL_isBalanced_10 : decode cL_isBalanced 10 = .ok (.lconst 1, 1) := by decide +kernel
theorem dL_isBalanced_11 : decode cL_isBalanced 11 = .ok (.goto 4, 3) := by decide +kernel
theorem dL_isBalanced_14 : decode cL_isBalanced 14 = .ok (.lconst 0, 1) := by decide +kernel
theorem dL_isBalanced_15 : decode cL_isBalanced 15 = .ok (.lastore, 1) := by decide +kernel
theorem dL_isBalanced_16 : decode cL_isBalanced 16 = .ok (.goto 6, 3) := by decide +kernel
theorem dL_isBalanced_19 : decode cL_isBalanced 19 = .ok (.astore_n 3, 1) := by decide +kernel
theorem dL_isBalanced_20 : decode cL_isBalanced 20 = .ok (.iconst 1, 1) := by decide +kernel
theorem dL_isBalanced_21 : decode cL_isBalanced 21 = .ok (.ireturn, 1) := by decide +kernel
theorem dL_isBalanced_22 : decode cL_isBalanced 22 = .ok (.iconst 0, 1) := by decide +kernel
theorem dL_isBalanced_23 : decode cL_isBalanced 23 = .ok (.ireturn, 1) := by decide +kernel
theorem dL_preserved_0 : decode cL_preserved 0 = .ok (.aload_n 2, 1) := by decide +kernel
theorem dL_preserved_1 : decode cL_preserved 1 = .ok (.iconst 0, 1) := by decide +kernel
theorem dL_preserved_2 : decode cL_preserved 2 = .ok (.aload_n 0, 1) := by decide +kernel
theorem dL_preserved_3 : decode cL_preserved 3 = .ok (.iload_n 1, 1) := by decide +kernel
theorem dL_preserved_4 : decode cL_preserved 4 = .ok (.invokevirtual 46, 3) := by decide +kernel
theorem dL_preserved_7 : decode cL_preserved 7 = .ok (.i2l, 1) := by decide +kernel
theorem dL_preserved_8 : decode cL_preserved 8 = .ok (.lastore, 1) := by decide +kernel
theorem dL_preserved_9 : decode cL_preserved 9 = .ok (.goto 6, 3) := by decide +kernel
theorem dL_preserved_12 : decode cL_preserved 12 = .ok (.astore_n 3, 1) := by decide +kernel
theorem dL_preserved_13 : decode cL_preserved 13 = .ok (.iconst 1, 1) := by decide +kernel
theorem dL_preserved_14 : decode cL_preserved 14 = .ok (.ireturn, 1) := by decide +kernel
theorem dL_preserved_15 : decode cL_preserved 15 = .ok (.iconst 0, 1) := by decide +kernel
theorem dL_preserved_16 : decode cL_preserved 16 = .ok (.ireturn, 1) := by decide +kernel
theorem dL_surelyDefined_0 : decode cL_surelyDefined 0 = .ok (.aload_n 2, 1) := by decide +kernel
theorem dL_surelyDefined_1 : decode cL_surelyDefined 1 = .ok (.iconst 0, 1) := by decide +kernel
theorem dL_surelyDefined_2 : decode cL_surelyDefined 2 = .ok (.aload_n 0, 1) := by decide +kernel
theorem dL_surelyDefined_3 : decode cL_surelyDefined 3 = .ok (.iload_n 1, 1) := by decide +kernel
theorem dL_surelyDefined_4 : decode cL_surelyDefined 4 = .ok (.invokevirtual 49, 3) := by decide +kernel
theorem dL_surelyDefined_7 : decode cL_surelyDefined 7 = .ok (.i2l, 1) := by decide +kernel
theorem dL_surelyDefined_8 : decode cL_surelyDefined 8 = .ok (.lastore, 1) := by decide +kernel
theorem dL_surelyDefined_9 : decode cL_surelyDefined 9 = .ok (.goto 6, 3) := by decide +kernel
theorem dL_surelyDefined_12 : decode cL_surelyDefined 12 = .ok (.astore_n 3, 1) := by decide +kernel
theorem dL_surelyDefined_13 : decode cL_surelyDefined 13 = .ok (.iconst 1, 1) := by decide +kernel
theorem dL_surelyDefined_14 : decode cL_surelyDefined 14 = .ok (.ireturn, 1) := by decide +kernel
theorem dL_surelyDefined_15 : decode cL_surelyDefined 15 = .ok (.iconst 0, 1) := by decide +kernel
theorem dL_surelyDefined_16 : decode cL_surelyDefined 16 = .ok (.ireturn, 1) := by decide +kernel
theorem dL_arguments_0 : decode cL_arguments 0 = .ok (.aload_n 2, 1) := by decide +kernel
theorem dL_arguments_1 : decode cL_arguments 1 = .ok (.iconst 0, 1) := by decide +kernel
theorem dL_arguments_2 : decode cL_arguments 2 = .ok (.aload_n 0, 1) := by decide +kernel
theorem dL_arguments_3 : decode cL_arguments 3 = .ok (.iload_n 1, 1) := by decide +kernel
theorem dL_arguments_4 : decode cL_arguments 4 = .ok (.invokevirtual 52, 3) := by decide +kernel
theorem dL_arguments_7 : decode cL_arguments 7 = .ok (.i2l, 1) := by decide +kernel
theorem dL_arguments_8 : decode cL_arguments 8 = .ok (.lastore, 1) := by decide +kernel
theorem dL_arguments_9 : decode cL_arguments 9 = .ok (.goto 6, 3) := by decide +kernel
theorem dL_arguments_12 : decode cL_arguments 12 = .ok (.astore_n 3, 1) := by decide +kernel
theorem dL_arguments_13 : decode cL_arguments 13 = .ok (.iconst 1, 1) := by decide +kernel
theorem dL_arguments_14 : decode cL_arguments 14 = .ok (.ireturn, 1) := by decide +kernel
theorem dL_arguments_15 : decode cL_arguments 15 = .ok (.iconst 0, 1) := by decide +kernel
theorem dL_arguments_16 : decode cL_arguments 16 = .ok (.ireturn, 1) := by decide +kernel
theorem dL_results_0 : decode cL_results 0 = .ok (.aload_n 2, 1) := by decide +kernel
theorem dL_results_1 : decode cL_results 1 = .ok (.iconst 0, 1) := by decide +kernel
theorem dL_results_2 : decode cL_results 2 = .ok (.aload_n 0, 1) := by decide +kernel
theorem dL_results_3 : decode cL_results 3 = .ok (.iload_n 1, 1) := by decide +kernel
theorem dL_results_4 : decode cL_results 4 = .ok (.invokevirtual 55, 3) := by decide +kernel
theorem dL_results_7 : decode cL_results 7 = .ok (.i2l, 1) := by decide +kernel
theorem dL_results_8 : decode cL_results 8 = .ok (.lastore, 1) := by decide +kernel
theorem dL_results_9 : decode cL_results 9 = .ok (.goto 6, 3) := by decide +kernel
theorem dL_results_12 : decode cL_results 12 = .ok (.astore_n 3, 1) := by decide +kernel
theorem dL_results_13 : decode cL_results 13 = .ok (.iconst 1, 1) := by decide +kernel
theorem dL_results_14 : decode cL_results 14 = .ok (.ireturn, 1) := by decide +kernel
theorem dL_results_15 : decode cL_results 15 = .ok (.iconst 0, 1) := by decide +kernel
theorem dL_results_16 : decode cL_results 16 = .ok (.ireturn, 1) := by decide +kernel
theorem dL_liveBefore_0 : decode cL_liveBefore 0 = .ok (.aload_n 3, 1) := by decide +kernel
theorem dL_liveBefore_1 : decode cL_liveBefore 1 = .ok (.iconst 0, 1) := by decide +kernel
theorem dL_liveBefore_2 : decode cL_liveBefore 2 = .ok (.aload_n 0, 1) := by decide +kernel
theorem dL_liveBefore_3 : decode cL_liveBefore 3 = .ok (.iload_n 1, 1) := by decide +kernel
theorem dL_liveBefore_4 : decode cL_liveBefore 4 = .ok (.iload_n 2, 1) := by decide +kernel
theorem dL_liveBefore_5 : decode cL_liveBefore 5 = .ok (.invokevirtual 58, 3) := by decide +kernel
theorem dL_liveBefore_8 : decode cL_liveBefore 8 = .ok (.i2l, 1) := by decide +kernel
theorem dL_liveBefore_9 : decode cL_liveBefore 9 = .ok (.lastore, 1) := by decide +kernel
theorem dL_liveBefore_10 : decode cL_liveBefore 10 = .ok (.goto 11, 3) := by decide +kernel
theorem dL_liveBefore_13 : decode cL_liveBefore 13 = .ok (.astore 4, 2) := by decide +kernel
theorem dL_liveBefore_15 : decode cL_liveBefore 15 = .ok (.iconst 1, 1) := by decide +kernel
theorem dL_liveBefore_16 : decode cL_liveBefore 16 = .ok (.ireturn, 1) := by decide +kernel
theorem dL_liveBefore_17 : decode cL_liveBefore 17 = .ok (.astore 4, 2) := by decide +kernel
theorem dL_liveBefore_19 : decode cL_liveBefore 19 = .ok (.iconst 2, 1) := by decide +kernel
theorem dL_liveBefore_20 : decode cL_liveBefore 20 = .ok (.ireturn, 1) := by decide +kernel
theorem dL_liveBefore_21 : decode cL_liveBefore 21 = .ok (.iconst 0, 1) := by decide +kernel
theorem dL_liveBefore_22 : decode cL_liveBefore 22 = .ok (.ireturn, 1) := by decide +kernel
theorem dL_neededSlots_0 : decode cL_neededSlots 0 = .ok (.aload_n 2, 1) := by decide +kernel
theorem dL_neededSlots_1 : decode cL_neededSlots 1 = .ok (.iconst 0, 1) := by decide +kernel
theorem dL_neededSlots_2 : decode cL_neededSlots 2 = .ok (.aload_n 0, 1) := by decide +kernel
theorem dL_neededSlots_3 : decode cL_neededSlots 3 = .ok (.iload_n 1, 1) := by decide +kernel
theorem dL_neededSlots_4 : decode cL_neededSlots 4 = .ok (.invokevirtual 61, 3) := by decide +kernel
theorem dL_neededSlots_7 : decode cL_neededSlots 7 = .ok (.i2l, 1) := by decide +kernel
theorem dL_neededSlots_8 : decode cL_neededSlots 8 = .ok (.lastore, 1) := by decide +kernel
theorem dL_neededSlots_9 : decode cL_neededSlots 9 = .ok (.goto 6, 3) := by decide +kernel
theorem dL_neededSlots_12 : decode cL_neededSlots 12 = .ok (.astore_n 3, 1) := by decide +kernel
theorem dL_neededSlots_13 : decode cL_neededSlots 13 = .ok (.iconst 1, 1) := by decide +kernel
theorem dL_neededSlots_14 : decode cL_neededSlots 14 = .ok (.ireturn, 1) := by decide +kernel
theorem dL_neededSlots_15 : decode cL_neededSlots 15 = .ok (.iconst 0, 1) := by decide +kernel
theorem dL_neededSlots_16 : decode cL_neededSlots 16 = .ok (.ireturn, 1) := by decide +kernel
theorem dL_isVariadic_0 : decode cL_isVariadic 0 = .ok (.aload_n 2, 1) := by decide +kernel
theorem dL_isVariadic_1 : decode cL_isVariadic 1 = .ok (.iconst 0, 1) := by decide +kernel
theorem dL_isVariadic_2 : decode cL_isVariadic 2 = .ok (.aload_n 0, 1) := by decide +kernel
theorem dL_isVariadic_3 : decode cL_isVariadic 3 = .ok (.iload_n 1, 1) := by decide +kernel
theorem dL_isVariadic_4 : decode cL_isVariadic 4 = .ok (.invokevirtual 64, 3) := by decide +kernel
theorem dL_isVariadic_7 : decode cL_isVariadic 7 = .ok (.ifCond .eq 7, 3) := by decide +kernel
theorem dL_isVariadic_10 : decode cL_isVariadic 10 = .ok (.lconst 1, 1) := by decide +kernel
theorem dL_isVariadic_11 : decode cL_isVariadic 11 = .ok (.goto 4, 3) := by decide +kernel
theorem dL_isVariadic_14 : decode cL_isVariadic 14 = .ok (.lconst 0, 1) := by decide +kernel
theorem dL_isVariadic_15 : decode cL_isVariadic 15 = .ok (.lastore, 1) := by decide +kernel
theorem dL_isVariadic_16 : decode cL_isVariadic 16 = .ok (.goto 6, 3) := by decide +kernel
theorem dL_isVariadic_19 : decode cL_isVariadic 19 = .ok (.astore_n 3, 1) := by decide +kernel
theorem dL_isVariadic_20 : decode cL_isVariadic 20 = .ok (.iconst 1, 1) := by decide +kernel
theorem dL_isVariadic_21 : decode cL_isVariadic 21 = .ok (.ireturn, 1) := by decide +kernel
theorem dL_isVariadic_22 : decode cL_isVariadic 22 = .ok (.iconst 0, 1) := by decide +kernel
theorem dL_isVariadic_23 : decode cL_isVariadic 23 = .ok (.ireturn, 1) := by decide +kernel
theorem dL_callees_0 : decode cL_callees 0 = .ok (.aload_n 2, 1) := by decide +kernel
theorem dL_callees_1 : decode cL_callees 1 = .ok (.iconst 0, 1) := by decide +kernel
theorem dL_callees_2 : decode cL_callees 2 = .ok (.aload_n 0, 1) := by decide +kernel
theorem dL_callees_3 : decode cL_callees 3 = .ok (.iload_n 1, 1) := by decide +kernel
theorem dL_callees_4 : decode cL_callees 4 = .ok (.invokevirtual 67, 3) := by decide +kernel
theorem dL_callees_7 : decode cL_callees 7 = .ok (.i2l, 1) := by decide +kernel
theorem dL_callees_8 : decode cL_callees 8 = .ok (.lastore, 1) := by decide +kernel
theorem dL_callees_9 : decode cL_callees 9 = .ok (.goto 6, 3) := by decide +kernel
theorem dL_callees_12 : decode cL_callees 12 = .ok (.astore_n 3, 1) := by decide +kernel
theorem dL_callees_13 : decode cL_callees 13 = .ok (.iconst 1, 1) := by decide +kernel
theorem dL_callees_14 : decode cL_callees 14 = .ok (.ireturn, 1) := by decide +kernel
theorem dL_callees_15 : decode cL_callees 15 = .ok (.iconst 0, 1) := by decide +kernel
theorem dL_callees_16 : decode cL_callees 16 = .ok (.ireturn, 1) := by decide +kernel
theorem dL_callersOf_0 : decode cL_callersOf 0 = .ok (.aload_n 2, 1) := by decide +kernel
theorem dL_callersOf_1 : decode cL_callersOf 1 = .ok (.iconst 0, 1) := by decide +kernel
theorem dL_callersOf_2 : decode cL_callersOf 2 = .ok (.aload_n 0, 1) := by decide +kernel
theorem dL_callersOf_3 : decode cL_callersOf 3 = .ok (.iload_n 1, 1) := by decide +kernel
theorem dL_callersOf_4 : decode cL_callersOf 4 = .ok (.invokevirtual 70, 3) := by decide +kernel
theorem dL_callersOf_7 : decode cL_callersOf 7 = .ok (.i2l, 1) := by decide +kernel
theorem dL_callersOf_8 : decode cL_callersOf 8 = .ok (.lastore, 1) := by decide +kernel
theorem dL_callersOf_9 : decode cL_callersOf 9 = .ok (.goto 6, 3) := by decide +kernel
theorem dL_callersOf_12 : decode cL_callersOf 12 = .ok (.astore_n 3, 1) := by decide +kernel
theorem dL_callersOf_13 : decode cL_callersOf 13 = .ok (.iconst 1, 1) := by decide +kernel
theorem dL_callersOf_14 : decode cL_callersOf 14 = .ok (.ireturn, 1) := by decide +kernel
theorem dL_callersOf_15 : decode cL_callersOf 15 = .ok (.iconst 0, 1) := by decide +kernel
theorem dL_callersOf_16 : decode cL_callersOf 16 = .ok (.ireturn, 1) := by decide +kernel
theorem dL_isRecursive_0 : decode cL_isRecursive 0 = .ok (.aload_n 2, 1) := by decide +kernel
theorem dL_isRecursive_1 : decode cL_isRecursive 1 = .ok (.iconst 0, 1) := by decide +kernel
theorem dL_isRecursive_2 : decode cL_isRecursive 2 = .ok (.aload_n 0, 1) := by decide +kernel
theorem dL_isRecursive_3 : decode cL_isRecursive 3 = .ok (.iload_n 1, 1) := by decide +kernel
theorem dL_isRecursive_4 : decode cL_isRecursive 4 = .ok (.invokevirtual 73, 3) := by decide +kernel
theorem dL_isRecursive_7 : decode cL_isRecursive 7 = .ok (.ifCond .eq 7, 3) := by decide +kernel
theorem dL_isRecursive_10 : decode cL_isRecursive 10 = .ok (.lconst 1, 1) := by decide +kernel
theorem dL_isRecursive_11 : decode cL_isRecursive 11 = .ok (.goto 4, 3) := by decide +kernel
theorem dL_isRecursive_14 : decode cL_isRecursive 14 = .ok (.lconst 0, 1) := by decide +kernel
theorem dL_isRecursive_15 : decode cL_isRecursive 15 = .ok (.lastore, 1) := by decide +kernel
theorem dL_isRecursive_16 : decode cL_isRecursive 16 = .ok (.goto 6, 3) := by decide +kernel
theorem dL_isRecursive_19 : decode cL_isRecursive 19 = .ok (.astore_n 3, 1) := by decide +kernel
theorem dL_isRecursive_20 : decode cL_isRecursive 20 = .ok (.iconst 1, 1) := by decide +kernel
theorem dL_isRecursive_21 : decode cL_isRecursive 21 = .ok (.ireturn, 1) := by decide +kernel
theorem dL_isRecursive_22 : decode cL_isRecursive 22 = .ok (.iconst 0, 1) := by decide +kernel
theorem dL_isRecursive_23 : decode cL_isRecursive 23 = .ok (.ireturn, 1) := by decide +kernel
theorem dL_site_0 : decode cL_site 0 = .ok (.aload_n 3, 1) := by decide +kernel
theorem dL_site_1 : decode cL_site 1 = .ok (.iconst 0, 1) := by decide +kernel
theorem dL_site_2 : decode cL_site 2 = .ok (.aload_n 0, 1) := by decide +kernel
theorem dL_site_3 : decode cL_site 3 = .ok (.iload_n 1, 1) := by decide +kernel
theorem dL_site_4 : decode cL_site 4 = .ok (.iload_n 2, 1) := by decide +kernel
theorem dL_site_5 : decode cL_site 5 = .ok (.invokevirtual 76, 3) := by decide +kernel
theorem dL_site_8 : decode cL_site 8 = .ok (.i2l, 1) := by decide +kernel
theorem dL_site_9 : decode cL_site 9 = .ok (.lastore, 1) := by decide +kernel
theorem dL_site_10 : decode cL_site 10 = .ok (.goto 11, 3) := by decide +kernel
theorem dL_site_13 : decode cL_site 13 = .ok (.astore 4, 2) := by decide +kernel
theorem dL_site_15 : decode cL_site 15 = .ok (.iconst 1, 1) := by decide +kernel
theorem dL_site_16 : decode cL_site 16 = .ok (.ireturn, 1) := by decide +kernel
theorem dL_site_17 : decode cL_site 17 = .ok (.astore 4, 2) := by decide +kernel
theorem dL_site_19 : decode cL_site 19 = .ok (.iconst 2, 1) := by decide +kernel
theorem dL_site_20 : decode cL_site 20 = .ok (.ireturn, 1) := by decide +kernel
theorem dL_site_21 : decode cL_site 21 = .ok (.iconst 0, 1) := by decide +kernel
theorem dL_site_22 : decode cL_site 22 = .ok (.ireturn, 1) := by decide +kernel
theorem dL_passedSlots_0 : decode cL_passedSlots 0 = .ok (.aload_n 2, 1) := by decide +kernel
theorem dL_passedSlots_1 : decode cL_passedSlots 1 = .ok (.iconst 0, 1) := by decide +kernel
theorem dL_passedSlots_2 : decode cL_passedSlots 2 = .ok (.aload_n 0, 1) := by decide +kernel
theorem dL_passedSlots_3 : decode cL_passedSlots 3 = .ok (.iload_n 1, 1) := by decide +kernel
theorem dL_passedSlots_4 : decode cL_passedSlots 4 = .ok (.invokevirtual 79, 3) := by decide +kernel
theorem dL_passedSlots_7 : decode cL_passedSlots 7 = .ok (.i2l, 1) := by decide +kernel
theorem dL_passedSlots_8 : decode cL_passedSlots 8 = .ok (.lastore, 1) := by decide +kernel
theorem dL_passedSlots_9 : decode cL_passedSlots 9 = .ok (.goto 6, 3) := by decide +kernel
theorem dL_passedSlots_12 : decode cL_passedSlots 12 = .ok (.astore_n 3, 1) := by decide +kernel
theorem dL_passedSlots_13 : decode cL_passedSlots 13 = .ok (.iconst 1, 1) := by decide +kernel
theorem dL_passedSlots_14 : decode cL_passedSlots 14 = .ok (.ireturn, 1) := by decide +kernel
theorem dL_passedSlots_15 : decode cL_passedSlots 15 = .ok (.iconst 0, 1) := by decide +kernel
theorem dL_passedSlots_16 : decode cL_passedSlots 16 = .ok (.ireturn, 1) := by decide +kernel
theorem dL_missingSlots_0 : decode cL_missingSlots 0 = .ok (.aload_n 2, 1) := by decide +kernel
theorem dL_missingSlots_1 : decode cL_missingSlots 1 = .ok (.iconst 0, 1) := by decide +kernel
theorem dL_missingSlots_2 : decode cL_missingSlots 2 = .ok (.aload_n 0, 1) := by decide +kernel
theorem dL_missingSlots_3 : decode cL_missingSlots 3 = .ok (.iload_n 1, 1) := by decide +kernel
theorem dL_missingSlots_4 : decode cL_missingSlots 4 = .ok (.invokevirtual 82, 3) := by decide +kernel
theorem dL_missingSlots_7 : decode cL_missingSlots 7 = .ok (.i2l, 1) := by decide +kernel
theorem dL_missingSlots_8 : decode cL_missingSlots 8 = .ok (.lastore, 1) := by decide +kernel
theorem dL_missingSlots_9 : decode cL_missingSlots 9 = .ok (.goto 6, 3) := by decide +kernel
theorem dL_missingSlots_12 : decode cL_missingSlots 12 = .ok (.astore_n 3, 1) := by decide +kernel
theorem dL_missingSlots_13 : decode cL_missingSlots 13 = .ok (.iconst 1, 1) := by decide +kernel
theorem dL_missingSlots_14 : decode cL_missingSlots 14 = .ok (.ireturn, 1) := by decide +kernel
theorem dL_missingSlots_15 : decode cL_missingSlots 15 = .ok (.iconst 0, 1) := by decide +kernel
theorem dL_missingSlots_16 : decode cL_missingSlots 16 = .ok (.ireturn, 1) := by decide +kernel
theorem dL_lostRegisters_0 : decode cL_lostRegisters 0 = .ok (.aload_n 2, 1) := by decide +kernel
theorem dL_lostRegisters_1 : decode cL_lostRegisters 1 = .ok (.iconst 0, 1) := by decide +kernel
theorem dL_lostRegisters_2 : decode cL_lostRegisters 2 = .ok (.aload_n 0, 1) := by decide +kernel
theorem dL_lostRegisters_3 : decode cL_lostRegisters 3 = .ok (.iload_n 1, 1) := by decide +kernel
theorem dL_lostRegisters_4 : decode cL_lostRegisters 4 = .ok (.invokevirtual 85, 3) := by decide +kernel
theorem dL_lostRegisters_7 : decode cL_lostRegisters 7 = .ok (.i2l, 1) := by decide +kernel
theorem dL_lostRegisters_8 : decode cL_lostRegisters 8 = .ok (.lastore, 1) := by decide +kernel
theorem dL_lostRegisters_9 : decode cL_lostRegisters 9 = .ok (.goto 6, 3) := by decide +kernel
theorem dL_lostRegisters_12 : decode cL_lostRegisters 12 = .ok (.astore_n 3, 1) := by decide +kernel
theorem dL_lostRegisters_13 : decode cL_lostRegisters 13 = .ok (.iconst 1, 1) := by decide +kernel
theorem dL_lostRegisters_14 : decode cL_lostRegisters 14 = .ok (.ireturn, 1) := by decide +kernel
theorem dL_lostRegisters_15 : decode cL_lostRegisters 15 = .ok (.iconst 0, 1) := by decide +kernel
theorem dL_lostRegisters_16 : decode cL_lostRegisters 16 = .ok (.ireturn, 1) := by decide +kernel
theorem dL_liveBehind_0 : decode cL_liveBehind 0 = .ok (.aload_n 2, 1) := by decide +kernel
theorem dL_liveBehind_1 : decode cL_liveBehind 1 = .ok (.iconst 0, 1) := by decide +kernel
theorem dL_liveBehind_2 : decode cL_liveBehind 2 = .ok (.aload_n 0, 1) := by decide +kernel
theorem dL_liveBehind_3 : decode cL_liveBehind 3 = .ok (.iload_n 1, 1) := by decide +kernel
theorem dL_liveBehind_4 : decode cL_liveBehind 4 = .ok (.invokevirtual 88, 3) := by decide +kernel
theorem dL_liveBehind_7 : decode cL_liveBehind 7 = .ok (.i2l, 1) := by decide +kernel
theorem dL_liveBehind_8 : decode cL_liveBehind 8 = .ok (.lastore, 1) := by decide +kernel
theorem dL_liveBehind_9 : decode cL_liveBehind 9 = .ok (.goto 6, 3) := by decide +kernel
theorem dL_liveBehind_12 : decode cL_liveBehind 12 = .ok (.astore_n 3, 1) := by decide +kernel
theorem dL_liveBehind_13 : decode cL_liveBehind 13 = .ok (.iconst 1, 1) := by decide +kernel
theorem dL_liveBehind_14 : decode cL_liveBehind 14 = .ok (.ireturn, 1) := by decide +kernel
theorem dL_liveBehind_15 : decode cL_liveBehind 15 = .ok (.iconst 0, 1) := by decide +kernel
theorem dL_liveBehind_16 : decode cL_liveBehind 16 = .ok (.ireturn, 1) := by decide +kernel
theorem dL_firstProblem_0 : decode cL_firstProblem 0 = .ok (.aload_n 1, 1) := by decide +kernel
theorem dL_firstProblem_1 : decode cL_firstProblem 1 = .ok (.iconst 0, 1) := by decide +kernel
theorem dL_firstProblem_2 : decode cL_firstProblem 2 = .ok (.aload_n 0, 1) := by decide +kernel
theorem dL_firstProblem_3 : decode cL_firstProblem 3 = .ok (.invokevirtual 91, 3) := by decide +kernel
theorem dL_firstProblem_6 : decode cL_firstProblem 6 = .ok (.i2l, 1) := by decide +kernel
theorem dL_firstProblem_7 : decode cL_firstProblem 7 = .ok (.lastore, 1) := by decide +kernel
theorem dL_firstProblem_8 : decode cL_firstProblem 8 = .ok (.goto 6, 3) := by decide +kernel
theorem dL_firstProblem_11 : decode cL_firstProblem 11 = .ok (.astore_n 2, 1) := by decide +kernel
theorem dL_firstProblem_12 : decode cL_firstProblem 12 = .ok (.iconst 1, 1) := by decide +kernel
theorem dL_firstProblem_13 : decode cL_firstProblem 13 = .ok (.ireturn, 1) := by decide +kernel
theorem dL_firstProblem_14 : decode cL_firstProblem 14 = .ok (.iconst 0, 1) := by decide +kernel
theorem dL_firstProblem_15 : decode cL_firstProblem 15 = .ok (.ireturn, 1) := by decide +kernel
theorem dL_votes_0 : decode cL_votes 0 = .ok (.aload_n 3, 1) := by decide +kernel
theorem dL_votes_1 : decode cL_votes 1 = .ok (.iconst 0, 1) := by decide +kernel
theorem dL_votes_2 : decode cL_votes 2 = .ok (.aload_n 0, 1) := by decide +kernel
theorem dL_votes_3 : decode cL_votes 3 = .ok (.iload_n 1, 1) := by decide +kernel
theorem dL_votes_4 : decode cL_votes 4 = .ok (.iload_n 2, 1) := by decide +kernel
theorem dL_votes_5 : decode cL_votes 5 = .ok (.invokevirtual 97, 3) := by decide +kernel
theorem dL_votes_8 : decode cL_votes 8 = .ok (.i2l, 1) := by decide +kernel
theorem dL_votes_9 : decode cL_votes 9 = .ok (.lastore, 1) := by decide +kernel
theorem dL_votes_10 : decode cL_votes 10 = .ok (.goto 11, 3) := by decide +kernel
theorem dL_votes_13 : decode cL_votes 13 = .ok (.astore 4, 2) := by decide +kernel
theorem dL_votes_15 : decode cL_votes 15 = .ok (.iconst 1, 1) := by decide +kernel
theorem dL_votes_16 : decode cL_votes 16 = .ok (.ireturn, 1) := by decide +kernel
theorem dL_votes_17 : decode cL_votes 17 = .ok (.astore 4, 2) := by decide +kernel
theorem dL_votes_19 : decode cL_votes 19 = .ok (.iconst 2, 1) := by decide +kernel
theorem dL_votes_20 : decode cL_votes 20 = .ok (.ireturn, 1) := by decide +kernel
theorem dL_votes_21 : decode cL_votes 21 = .ok (.iconst 0, 1) := by decide +kernel
theorem dL_votes_22 : decode cL_votes 22 = .ok (.ireturn, 1) := by decide +kernel
theorem dL_role_0 : decode cL_role 0 = .ok (.aload_n 2, 1) := by decide +kernel
theorem dL_role_1 : decode cL_role 1 = .ok (.iconst 0, 1) := by decide +kernel
theorem dL_role_2 : decode cL_role 2 = .ok (.aload_n 0, 1) := by decide +kernel
theorem dL_role_3 : decode cL_role 3 = .ok (.iload_n 1, 1) := by decide +kernel
theorem dL_role_4 : decode cL_role 4 = .ok (.invokevirtual 100, 3) := by decide +kernel
theorem dL_role_7 : decode cL_role 7 = .ok (.i2l, 1) := by decide +kernel
theorem dL_role_8 : decode cL_role 8 = .ok (.lastore, 1) := by decide +kernel
theorem dL_role_9 : decode cL_role 9 = .ok (.goto 9, 3) := by decide +kernel
theorem dL_role_12 : decode cL_role 12 = .ok (.astore_n 3, 1) := by decide +kernel
theorem dL_role_13 : decode cL_role 13 = .ok (.iconst 1, 1) := by decide +kernel
theorem dL_role_14 : decode cL_role 14 = .ok (.ireturn, 1) := by decide +kernel
theorem dL_role_15 : decode cL_role 15 = .ok (.astore_n 3, 1) := by decide +kernel
theorem dL_role_16 : decode cL_role 16 = .ok (.iconst 2, 1) := by decide +kernel
theorem dL_role_17 : decode cL_role 17 = .ok (.ireturn, 1) := by decide +kernel
theorem dL_role_18 : decode cL_role 18 = .ok (.iconst 0, 1) := by decide +kernel
theorem dL_role_19 : decode cL_role 19 = .ok (.ireturn, 1) := by decide +kernel
theorem dL_run_0 : decode cL_run 0 = .ok (.aload_n 3, 1) := by decide +kernel
theorem dL_run_1 : decode cL_run 1 = .ok (.iconst 0, 1) := by decide +kernel
theorem dL_run_2 : decode cL_run 2 = .ok (.aload_n 0, 1) := by decide +kernel
theorem dL_run_3 : decode cL_run 3 = .ok (.iload_n 1, 1) := by decide +kernel
theorem dL_run_4 : decode cL_run 4 = .ok (.iload_n 2, 1) := by decide +kernel
theorem dL_run_5 : decode cL_run 5 = .ok (.invokevirtual 103, 3) := by decide +kernel
theorem dL_run_8 : decode cL_run 8 = .ok (.i2l, 1) := by decide +kernel
theorem dL_run_9 : decode cL_run 9 = .ok (.lastore, 1) := by decide +kernel
theorem dL_run_10 : decode cL_run 10 = .ok (.goto 7, 3) := by decide +kernel
theorem dL_run_13 : decode cL_run 13 = .ok (.astore 4, 2) := by decide +kernel
theorem dL_run_15 : decode cL_run 15 = .ok (.iconst 1, 1) := by decide +kernel
theorem dL_run_16 : decode cL_run 16 = .ok (.ireturn, 1) := by decide +kernel
theorem dL_run_17 : decode cL_run 17 = .ok (.iconst 0, 1) := by decide +kernel
theorem dL_run_18 : decode cL_run 18 = .ok (.ireturn, 1) := by decide +kernel
theorem dL_isCut_0 : decode cL_isCut 0 = .ok (.aload_n 1, 1) := by decide +kernel
theorem dL_isCut_1 : decode cL_isCut 1 = .ok (.iconst 0, 1) := by decide +kernel
theorem dL_isCut_2 : decode cL_isCut 2 = .ok (.aload_n 0, 1) := by decide +kernel
theorem dL_isCut_3 : decode cL_isCut 3 = .ok (.invokevirtual 106, 3) := by decide +kernel
theorem dL_isCut_6 : decode cL_isCut 6 = .ok (.ifCond .eq 7, 3) := by decide +kernel
theorem dL_isCut_9 : decode cL_isCut 9 = .ok (.lconst 1, 1) := by decide +kernel
theorem dL_isCut_10 : decode cL_isCut 10 = .ok (.goto 4, 3) := by decide +kernel
theorem dL_isCut_13 : decode cL_isCut 13 = .ok (.lconst 0, 1) := by decide +kernel
theorem dL_isCut_14 : decode cL_isCut 14 = .ok (.lastore, 1) := by decide +kernel
theorem dL_isCut_15 : decode cL_isCut 15 = .ok (.goto 6, 3) := by decide +kernel
theorem dL_isCut_18 : decode cL_isCut 18 = .ok (.astore_n 2, 1) := by decide +kernel
theorem dL_isCut_19 : decode cL_isCut 19 = .ok (.iconst 1, 1) := by decide +kernel
theorem dL_isCut_20 : decode cL_isCut 20 = .ok (.ireturn, 1) := by decide +kernel
theorem dL_isCut_21 : decode cL_isCut 21 = .ok (.iconst 0, 1) := by decide +kernel
theorem dL_isCut_22 : decode cL_isCut 22 = .ok (.ireturn, 1) := by decide +kernel
theorem dL_observed_0 : decode cL_observed 0 = .ok (.aload_n 1, 1) := by decide +kernel
theorem dL_observed_1 : decode cL_observed 1 = .ok (.iconst 0, 1) := by decide +kernel
theorem dL_observed_2 : decode cL_observed 2 = .ok (.aload_n 0, 1) := by decide +kernel
theorem dL_observed_3 : decode cL_observed 3 = .ok (.invokevirtual 110, 3) := by decide +kernel
theorem dL_observed_6 : decode cL_observed 6 = .ok (.i2l, 1) := by decide +kernel
theorem dL_observed_7 : decode cL_observed 7 = .ok (.lastore, 1) := by decide +kernel
theorem dL_observed_8 : decode cL_observed 8 = .ok (.goto 9, 3) := by decide +kernel
theorem dL_observed_11 : decode cL_observed 11 = .ok (.astore_n 2, 1) := by decide +kernel
theorem dL_observed_12 : decode cL_observed 12 = .ok (.iconst 1, 1) := by decide +kernel
theorem dL_observed_13 : decode cL_observed 13 = .ok (.ireturn, 1) := by decide +kernel
theorem dL_observed_14 : decode cL_observed 14 = .ok (.astore_n 2, 1) := by decide +kernel
theorem dL_observed_15 : decode cL_observed 15 = .ok (.iconst 2, 1) := by decide +kernel
theorem dL_observed_16 : decode cL_observed 16 = .ok (.ireturn, 1) := by decide +kernel
theorem dL_observed_17 : decode cL_observed 17 = .ok (.iconst 0, 1) := by decide +kernel
theorem dL_observed_18 : decode cL_observed 18 = .ok (.ireturn, 1) := by decide +kernel
theorem dL_origin_0 : decode cL_origin 0 = .ok (.aload_n 2, 1) := by decide +kernel
theorem dL_origin_1 : decode cL_origin 1 = .ok (.iconst 0, 1) := by decide +kernel
theorem dL_origin_2 : decode cL_origin 2 = .ok (.aload_n 0, 1) := by decide +kernel
theorem dL_origin_3 : decode cL_origin 3 = .ok (.iload_n 1, 1) := by decide +kernel
theorem dL_origin_4 : decode cL_origin 4 = .ok (.invokevirtual 113, 3) := by decide +kernel
theorem dL_origin_7 : decode cL_origin 7 = .ok (.i2l, 1) := by decide +kernel
theorem dL_origin_8 : decode cL_origin 8 = .ok (.lastore, 1) := by decide +kernel
theorem dL_origin_9 : decode cL_origin 9 = .ok (.goto 12, 3) := by decide +kernel
theorem dL_origin_12 : decode cL_origin 12 = .ok (.astore_n 3, 1) := by decide +kernel
theorem dL_origin_13 : decode cL_origin 13 = .ok (.iconst 1, 1) := by decide +kernel
theorem dL_origin_14 : decode cL_origin 14 = .ok (.ireturn, 1) := by decide +kernel
theorem dL_origin_15 : decode cL_origin 15 = .ok (.astore_n 3, 1) := by decide +kernel
theorem dL_origin_16 : decode cL_origin 16 = .ok (.iconst 2, 1) := by decide +kernel
theorem dL_origin_17 : decode cL_origin 17 = .ok (.ireturn, 1) := by decide +kernel
theorem dL_origin_18 : decode cL_origin 18 = .ok (.astore_n 3, 1) := by decide +kernel
theorem dL_origin_19 : decode cL_origin 19 = .ok (.iconst 3, 1) := by decide +kernel
theorem dL_origin_20 : decode cL_origin 20 = .ok (.ireturn, 1) := by decide +kernel
theorem dL_origin_21 : decode cL_origin 21 = .ok (.iconst 0, 1) := by decide +kernel
theorem dL_origin_22 : decode cL_origin 22 = .ok (.ireturn, 1) := by decide +kernel
theorem dL_preservedShare_0 : decode cL_preservedShare 0 = .ok (.aload_n 1, 1) := by decide +kernel
theorem dL_preservedShare_1 : decode cL_preservedShare 1 = .ok (.iconst 0, 1) := by decide +kernel
theorem dL_preservedShare_2 : decode cL_preservedShare 2 = .ok (.aload_n 0, 1) := by decide +kernel
theorem dL_preservedShare_3 : decode cL_preservedShare 3 = .ok (.invokevirtual 116, 3) := by decide +kernel
theorem dL_preservedShare_6 : decode cL_preservedShare 6 = .ok (.dastore, 1) := by decide +kernel
theorem dL_preservedShare_7 : decode cL_preservedShare 7 = .ok (.goto 6, 3) := by decide +kernel
theorem dL_preservedShare_10 : decode cL_preservedShare 10 = .ok (.astore_n 2, 1) := by decide +kernel
theorem dL_preservedShare_11 : decode cL_preservedShare 11 = .ok (.iconst 1, 1) := by decide +kernel
theorem dL_preservedShare_12 : decode cL_preservedShare 12 = .ok (.ireturn, 1) := by decide +kernel
theorem dL_preservedShare_13 : decode cL_preservedShare 13 = .ok (.iconst 0, 1) := by decide +kernel
theorem dL_preservedShare_14 : decode cL_preservedShare 14 = .ok (.ireturn, 1) := by decide +kernel
theorem dL_problemShare_0 : decode cL_problemShare 0 = .ok (.aload_n 1, 1) := by decide +kernel
theorem dL_problemShare_1 : decode cL_problemShare 1 = .ok (.iconst 0, 1) := by decide +kernel
theorem dL_problemShare_2 : decode cL_problemShare 2 = .ok (.aload_n 0, 1) := by decide +kernel
theorem dL_problemShare_3 : decode cL_problemShare 3 = .ok (.invokevirtual 122, 3) := by decide +kernel
theorem dL_problemShare_6 : decode cL_problemShare 6 = .ok (.f2d, 1) := by decide +kernel
theorem dL_problemShare_7 : decode cL_problemShare 7 = .ok (.dastore, 1) := by decide +kernel
theorem dL_problemShare_8 : decode cL_problemShare 8 = .ok (.goto 6, 3) := by decide +kernel
theorem dL_problemShare_11 : decode cL_problemShare 11 = .ok (.astore_n 2, 1) := by decide +kernel
theorem dL_problemShare_12 : decode cL_problemShare 12 = .ok (.iconst 1, 1) := by decide +kernel
theorem dL_problemShare_13 : decode cL_problemShare 13 = .ok (.ireturn, 1) := by decide +kernel
theorem dL_problemShare_14 : decode cL_problemShare 14 = .ok (.iconst 0, 1) := by decide +kernel
theorem dL_problemShare_15 : decode cL_problemShare 15 = .ok (.ireturn, 1) := by decide +kernel
theorem dL_restore_0 : decode cL_restore 0 = .ok (.aload_n 0, 1) := by decide +kernel
theorem dL_restore_1 : decode cL_restore 1 = .ok (.invokevirtual 126, 3) := by decide +kernel
theorem dL_restore_4 : decode cL_restore 4 = .ok (.goto 6, 3) := by decide +kernel
theorem dL_restore_7 : decode cL_restore 7 = .ok (.astore_n 1, 1) := by decide +kernel
theorem dL_restore_8 : decode cL_restore 8 = .ok (.iconst 1, 1) := by decide +kernel
theorem dL_restore_9 : decode cL_restore 9 = .ok (.ireturn, 1) := by decide +kernel
theorem dL_restore_10 : decode cL_restore 10 = .ok (.iconst 0, 1) := by decide +kernel
theorem dL_restore_11 : decode cL_restore 11 = .ok (.ireturn, 1) := by decide +kernel
