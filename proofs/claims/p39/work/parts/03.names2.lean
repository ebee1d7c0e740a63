theorem dX8_insert_72 : decode cX8_insert 72 = .ok (.getfield 10, 3) := by decide +kernel
theorem dX8_insert_75 : decode cX8_insert 75 = .ok (.invokevirtual 87, 3) := by decide +kernel
theorem dX8_insert_78 : decode cX8_insert 78 = .ok (.ireturn, 1) := by decide +kernel
theorem dX8_take_0 : decode cX8_take 0 = .ok (.aload_n 0, 1) := by decide +kernel
theorem dX8_take_1 : decode cX8_take 1 = .ok (.getfield 10, 3) := by decide +kernel
theorem dX8_take_4 : decode cX8_take 4 = .ok (.iload_n 1, 1) := by decide +kernel
theorem dX8_take_5 : decode cX8_take 5 = .ok (.invokevirtual 98, 3) := by decide +kernel
theorem dX8_take_8 : decode cX8_take 8 = .ok (.ifCond .ne 6, 3) := by decide +kernel
theorem dX8_take_11 : decode cX8_take 11 = .ok (.bipush (-11), 2) := by decide +kernel
theorem dX8_take_13 : decode cX8_take 13 = .ok (.ireturn, 1) := by decide +kernel
theorem dX8_take_14 : decode cX8_take 14 = .ok (.aload_n 0, 1) := by decide +kernel
theorem dX8_take_15 : decode cX8_take 15 = .ok (.getfield 10, 3) := by decide +kernel
theorem dX8_take_18 : decode cX8_take 18 = .ok (.iload_n 1, 1) := by decide +kernel
theorem dX8_take_19 : decode cX8_take 19 = .ok (.invokevirtual 101, 3) := by decide +kernel
theorem dX8_take_22 : decode cX8_take 22 = .ok (.istore_n 2, 1) := by decide +kernel
theorem dX8_take_23 : decode cX8_take 23 = .ok (.aload_n 0, 1) := by decide +kernel
theorem dX8_take_24 : decode cX8_take 24 = .ok (.getfield 25, 3) := by decide +kernel
theorem dX8_take_27 : decode cX8_take 27 = .ok (.aload_n 0, 1) := by decide +kernel
theorem dX8_take_28 : decode cX8_take 28 = .ok (.getfield 10, 3) := by decide +kernel
theorem dX8_take_31 : decode cX8_take 31 = .ok (.invokevirtual 83, 3) := by decide +kernel
theorem dX8_take_34 : decode cX8_take 34 = .ok (.aload_n 0, 1) := by decide +kernel
theorem dX8_take_35 : decode cX8_take 35 = .ok (.getfield 10, 3) := by decide +kernel
theorem dX8_take_38 : decode cX8_take 38 = .ok (.iload_n 1, 1) := by decide +kernel
theorem dX8_take_39 : decode cX8_take 39 = .ok (.invokevirtual 105, 3) := by decide +kernel
theorem dX8_take_42 : decode cX8_take 42 = .ok (.pop, 1) := by decide +kernel
theorem dX8_take_43 : decode cX8_take 43 = .ok (.aload_n 0, 1) := by decide +kernel
theorem dX8_take_44 : decode cX8_take 44 = .ok (.invokevirtual 95, 3) := by decide +kernel
theorem dX8_take_47 : decode cX8_take 47 = .ok (.iload_n 2, 1) := by decide +kernel
theorem dX8_take_48 : decode cX8_take 48 = .ok (.ireturn, 1) := by decide +kernel
theorem dX8_swap_0 : decode cX8_swap 0 = .ok (.aload_n 0, 1) := by decide +kernel
theorem dX8_swap_1 : decode cX8_swap 1 = .ok (.getfield 10, 3) := by decide +kernel
theorem dX8_swap_4 : decode cX8_swap 4 = .ok (.iload_n 1, 1) := by decide +kernel
theorem dX8_swap_5 : decode cX8_swap 5 = .ok (.invokevirtual 108, 3) := by decide +kernel
theorem dX8_swap_8 : decode cX8_swap 8 = .ok (.ifCond .ne 6, 3) := by decide +kernel
theorem dX8_swap_11 : decode cX8_swap 11 = .ok (.bipush (-11), 2) := by decide +kernel
theorem dX8_swap_13 : decode cX8_swap 13 = .ok (.ireturn, 1) := by decide +kernel
theorem dX8_swap_14 : decode cX8_swap 14 = .ok (.aload_n 0, 1) := by decide +kernel
theorem dX8_swap_15 : decode cX8_swap 15 = .ok (.getfield 10, 3) := by decide +kernel
theorem dX8_swap_18 : decode cX8_swap 18 = .ok (.iload_n 1, 1) := by decide +kernel
theorem dX8_swap_19 : decode cX8_swap 19 = .ok (.invokevirtual 101, 3) := by decide +kernel
theorem dX8_swap_22 : decode cX8_swap 22 = .ok (.aload_n 0, 1) := by decide +kernel
theorem dX8_swap_23 : decode cX8_swap 23 = .ok (.getfield 10, 3) := by decide +kernel
theorem dX8_swap_26 : decode cX8_swap 26 = .ok (.iload_n 1, 1) := by decide +kernel
theorem dX8_swap_27 : decode cX8_swap 27 = .ok (.iconst 1, 1) := by decide +kernel
theorem dX8_swap_28 : decode cX8_swap 28 = .ok (.iadd, 1) := by decide +kernel
theorem dX8_swap_29 : decode cX8_swap 29 = .ok (.invokevirtual 101, 3) := by decide +kernel
theorem dX8_swap_32 : decode cX8_swap 32 = .ok (.if_icmp .ne 17, 3) := by decide +kernel
theorem dX8_swap_35 : decode cX8_swap 35 = .ok (.aload_n 0, 1) := by decide +kernel
theorem dX8_swap_36 : decode cX8_swap 36 = .ok (.iconst 2, 1) := by decide +kernel
theorem dX8_swap_37 : decode cX8_swap 37 = .ok (.aload_n 0, 1) := by decide +kernel
theorem dX8_swap_38 : decode cX8_swap 38 = .ok (.getfield 10, 3) := by decide +kernel
theorem dX8_swap_41 : decode cX8_swap 41 = .ok (.iload_n 1, 1) := by decide +kernel
theorem dX8_swap_42 : decode cX8_swap 42 = .ok (.invokevirtual 101, 3) := by decide +kernel
theorem dX8_swap_45 : decode cX8_swap 45 = .ok (.invokevirtual 79, 3) := by decide +kernel
theorem dX8_swap_48 : decode cX8_swap 48 = .ok (.ireturn, 1) := by decide +kernel
theorem dX8_swap_49 : decode cX8_swap 49 = .ok (.aload_n 0, 1) := by decide +kernel
theorem dX8_swap_50 : decode cX8_swap 50 = .ok (.getfield 25, 3) := by decide +kernel
theorem dX8_swap_53 : decode cX8_swap 53 = .ok (.aload_n 0, 1) := by decide +kernel
theorem dX8_swap_54 : decode cX8_swap 54 = .ok (.getfield 10, 3) := by decide +kernel
theorem dX8_swap_57 : decode cX8_swap 57 = .ok (.invokevirtual 83, 3) := by decide +kernel
theorem dX8_swap_60 : decode cX8_swap 60 = .ok (.aload_n 0, 1) := by decide +kernel
theorem dX8_swap_61 : decode cX8_swap 61 = .ok (.getfield 10, 3) := by decide +kernel
theorem dX8_swap_64 : decode cX8_swap 64 = .ok (.iload_n 1, 1) := by decide +kernel
theorem dX8_swap_65 : decode cX8_swap 65 = .ok (.invokevirtual 111, 3) := by decide +kernel
theorem dX8_swap_68 : decode cX8_swap 68 = .ok (.pop, 1) := by decide +kernel
theorem dX8_swap_69 : decode cX8_swap 69 = .ok (.aload_n 0, 1) := by decide +kernel
theorem dX8_swap_70 : decode cX8_swap 70 = .ok (.invokevirtual 95, 3) := by decide +kernel
theorem dX8_swap_73 : decode cX8_swap 73 = .ok (.aload_n 0, 1) := by decide +kernel
theorem dX8_swap_74 : decode cX8_swap 74 = .ok (.getfield 10, 3) := by decide +kernel
theorem dX8_swap_77 : decode cX8_swap 77 = .ok (.iload_n 1, 1) := by decide +kernel
theorem dX8_swap_78 : decode cX8_swap 78 = .ok (.invokevirtual 101, 3) := by decide +kernel
theorem dX8_swap_81 : decode cX8_swap 81 = .ok (.ireturn, 1) := by decide +kernel
theorem dX8_mark_0 : decode cX8_mark 0 = .ok (.iload_n 1, 1) := by decide +kernel
theorem dX8_mark_1 : decode cX8_mark 1 = .ok (.invokestatic 114, 3) := by decide +kernel
theorem dX8_mark_4 : decode cX8_mark 4 = .ok (.ifCond .ne 6, 3) := by decide +kernel
theorem dX8_mark_7 : decode cX8_mark 7 = .ok (.bipush (-11), 2) := by decide +kernel
theorem dX8_mark_9 : decode cX8_mark 9 = .ok (.ireturn, 1) := by decide +kernel
theorem dX8_mark_10 : decode cX8_mark 10 = .ok (.aload_n 0, 1) := by decide +kernel
theorem dX8_mark_11 : decode cX8_mark 11 = .ok (.getfield 10, 3) := by decide +kernel
theorem dX8_mark_14 : decode cX8_mark 14 = .ok (.iload_n 1, 1) := by decide +kernel
theorem dX8_mark_15 : decode cX8_mark 15 = .ok (.invokevirtual 117, 3) := by decide +kernel
theorem dX8_mark_18 : decode cX8_mark 18 = .ok (.iload_n 2, 1) := by decide +kernel
theorem dX8_mark_19 : decode cX8_mark 19 = .ok (.if_icmp .ne 10, 3) := by decide +kernel
theorem dX8_mark_22 : decode cX8_mark 22 = .ok (.aload_n 0, 1) := by decide +kernel
theorem dX8_mark_23 : decode cX8_mark 23 = .ok (.iconst 3, 1) := by decide +kernel
theorem dX8_mark_24 : decode cX8_mark 24 = .ok (.iload_n 1, 1) := by decide +kernel
theorem dX8_mark_25 : decode cX8_mark 25 = .ok (.invokevirtual 79, 3) := by decide +kernel
theorem dX8_mark_28 : decode cX8_mark 28 = .ok (.ireturn, 1) := by decide +kernel
theorem dX8_mark_29 : decode cX8_mark 29 = .ok (.aload_n 0, 1) := by decide +kernel
theorem dX8_mark_30 : decode cX8_mark 30 = .ok (.getfield 25, 3) := by decide +kernel
theorem dX8_mark_33 : decode cX8_mark 33 = .ok (.aload_n 0, 1) := by decide +kernel
theorem dX8_mark_34 : decode cX8_mark 34 = .ok (.getfield 10, 3) := by decide +kernel
theorem dX8_mark_37 : decode cX8_mark 37 = .ok (.invokevirtual 83, 3) := by decide +kernel
theorem dX8_mark_40 : decode cX8_mark 40 = .ok (.aload_n 0, 1) := by decide +kernel
theorem dX8_mark_41 : decode cX8_mark 41 = .ok (.getfield 10, 3) := by decide +kernel
theorem dX8_mark_44 : decode cX8_mark 44 = .ok (.iload_n 1, 1) := by decide +kernel
theorem dX8_mark_45 : decode cX8_mark 45 = .ok (.iload_n 2, 1) := by decide +kernel
theorem dX8_mark_46 : decode cX8_mark 46 = .ok (.invokevirtual 120, 3) := by decide +kernel
theorem dX8_mark_49 : decode cX8_mark 49 = .ok (.pop, 1) := by decide +kernel
theorem dX8_mark_50 : decode cX8_mark 50 = .ok (.aload_n 0, 1) := by decide +kernel
theorem dX8_mark_51 : decode cX8_mark 51 = .ok (.invokevirtual 95, 3) := by decide +kernel
theorem dX8_mark_54 : decode cX8_mark 54 = .ok (.aload_n 0, 1) := by decide +kernel
theorem dX8_mark_55 : decode cX8_mark 55 = .ok (.getfield 10, 3) := by decide +kernel
theorem dX8_mark_58 : decode cX8_mark 58 = .ok (.invokevirtual 124, 3) := by decide +kernel
theorem dX8_mark_61 : decode cX8_mark 61 = .ok (.ireturn, 1) := by decide +kernel
theorem dX8_weight_0 : decode cX8_weight 0 = .ok (.aload_n 0, 1) := by decide +kernel
theorem dX8_weight_1 : decode cX8_weight 1 = .ok (.getfield 10, 3) := by decide +kernel
theorem dX8_weight_4 : decode cX8_weight 4 = .ok (.iload_n 1, 1) := by decide +kernel
theorem dX8_weight_5 : decode cX8_weight 5 = .ok (.invokevirtual 98, 3) := by decide +kernel
theorem dX8_weight_8 : decode cX8_weight 8 = .ok (.ifCond .eq 14, 3) := by decide +kernel
theorem dX8_weight_11 : decode cX8_weight 11 = .ok (.aload_n 0, 1) := by decide +kernel
theorem dX8_weight_12 : decode cX8_weight 12 = .ok (.getfield 10, 3) := by decide +kernel
theorem dX8_weight_15 : decode cX8_weight 15 = .ok (.iload_n 1, 1) := by decide +kernel
theorem dX8_weight_16 : decode cX8_weight 16 = .ok (.invokevirtual 101, 3) := by decide +kernel
theorem dX8_weight_19 : decode cX8_weight 19 = .ok (.goto 5, 3) := by decide +kernel
theorem dX8_weight_22 : decode cX8_weight 22 = .ok (.bipush (-11), 2) := by decide +kernel
theorem dX8_weight_24 : decode cX8_weight 24 = .ok (.ireturn, 1) := by decide +kernel
theorem dX8_weightAgain_0 : decode cX8_weightAgain 0 = .ok (.aload_n 0, 1) := by decide +kernel
theorem dX8_weightAgain_1 : decode cX8_weightAgain 1 = .ok (.getfield 10, 3) := by decide +kernel
theorem dX8_weightAgain_4 : decode cX8_weightAgain 4 = .ok (.iload_n 1, 1) := by decide +kernel
theorem dX8_weightAgain_5 : decode cX8_weightAgain 5 = .ok (.invokevirtual 98, 3) := by decide +kernel
theorem dX8_weightAgain_8 : decode cX8_weightAgain 8 = .ok (.ifCond .eq 14, 3) := by decide +kernel
theorem dX8_weightAgain_11 : decode cX8_weightAgain 11 = .ok (.aload_n 0, 1) := by decide +kernel
theorem dX8_weightAgain_12 : decode cX8_weightAgain 12 = .ok (.getfield 32, 3) := by decide +kernel
theorem dX8_weightAgain_15 : decode cX8_weightAgain 15 = .ok (.iload_n 1, 1) := by decide +kernel
theorem dX8_weightAgain_16 : decode cX8_weightAgain 16 = .ok (.invokevirtual 127, 3) := by decide +kernel
theorem dX8_weightAgain_19 : decode cX8_weightAgain 19 = .ok (.goto 5, 3) := by decide +kernel
theorem dX8_weightAgain_22 : decode cX8_weightAgain 22 = .ok (.bipush (-11), 2) := by decide +kernel
theorem dX8_weightAgain_24 : decode cX8_weightAgain 24 = .ok (.ireturn, 1) := by decide +kernel
theorem dX8_bit_0 : decode cX8_bit 0 = .ok (.iload_n 1, 1) := by decide +kernel
theorem dX8_bit_1 : decode cX8_bit 1 = .ok (.invokestatic 130, 3) := by decide +kernel
theorem dX8_bit_4 : decode cX8_bit 4 = .ok (.ifCond .eq 26, 3) := by decide +kernel
theorem dX8_bit_7 : decode cX8_bit 7 = .ok (.aload_n 0, 1) := by decide +kernel
theorem dX8_bit_8 : decode cX8_bit 8 = .ok (.getfield 10, 3) := by decide +kernel
theorem dX8_bit_11 : decode cX8_bit 11 = .ok (.iload_n 2, 1) := by decide +kernel
theorem dX8_bit_12 : decode cX8_bit 12 = .ok (.invokevirtual 98, 3) := by decide +kernel
theorem dX8_bit_15 : decode cX8_bit 15 = .ok (.ifCond .eq 15, 3) := by decide +kernel
theorem dX8_bit_18 : decode cX8_bit 18 = .ok (.aload_n 0, 1) := by decide +kernel
theorem dX8_bit_19 : decode cX8_bit 19 = .ok (.getfield 32, 3) := by decide +kernel
theorem dX8_bit_22 : decode cX8_bit 22 = .ok (.iload_n 1, 1) := by decide +kernel
theorem dX8_bit_23 : decode cX8_bit 23 = .ok (.iload_n 2, 1) := by decide +kernel
theorem dX8_bit_24 : decode cX8_bit 24 = .ok (.invokevirtual 133, 3) := by decide +kernel
theorem dX8_bit_27 : decode cX8_bit 27 = .ok (.goto 5, 3) := by decide +kernel
theorem dX8_bit_30 : decode cX8_bit 30 = .ok (.bipush (-11), 2) := by decide +kernel
theorem dX8_bit_32 : decode cX8_bit 32 = .ok (.ireturn, 1) := by decide +kernel
theorem dX8_bits_0 : decode cX8_bits 0 = .ok (.aload_n 0, 1) := by decide +kernel
theorem dX8_bits_1 : decode cX8_bits 1 = .ok (.getfield 32, 3) := by decide +kernel
theorem dX8_bits_4 : decode cX8_bits 4 = .ok (.iload_n 1, 1) := by decide +kernel
theorem dX8_bits_5 : decode cX8_bits 5 = .ok (.invokevirtual 136, 3) := by decide +kernel
theorem dX8_bits_8 : decode cX8_bits 8 = .ok (.lreturn, 1) := by decide +kernel
theorem dX8_rank_0 : decode cX8_rank 0 = .ok (.iload_n 1, 1) := by decide +kernel
theorem dX8_rank_1 : decode cX8_rank 1 = .ok (.invokestatic 130, 3) := by decide +kernel
theorem dX8_rank_4 : decode cX8_rank 4 = .ok (.ifCond .eq 24, 3) := by decide +kernel
theorem dX8_rank_7 : decode cX8_rank 7 = .ok (.aload_n 0, 1) := by decide +kernel
theorem dX8_rank_8 : decode cX8_rank 8 = .ok (.iload_n 3, 1) := by decide +kernel
theorem dX8_rank_9 : decode cX8_rank 9 = .ok (.invokevirtual 140, 3) := by decide +kernel
theorem dX8_rank_12 : decode cX8_rank 12 = .ok (.ifCond .eq 16, 3) := by decide +kernel
theorem dX8_rank_15 : decode cX8_rank 15 = .ok (.aload_n 0, 1) := by decide +kernel
theorem dX8_rank_16 : decode cX8_rank 16 = .ok (.getfield 32, 3) := by decide +kernel
theorem dX8_rank_19 : decode cX8_rank 19 = .ok (.iload_n 1, 1) := by decide +kernel
theorem dX8_rank_20 : decode cX8_rank 20 = .ok (.iload_n 2, 1) := by decide +kernel
theorem dX8_rank_21 : decode cX8_rank 21 = .ok (.iload_n 3, 1) := by decide +kernel
theorem dX8_rank_22 : decode cX8_rank 22 = .ok (.invokevirtual 143, 3) := by decide +kernel
theorem dX8_rank_25 : decode cX8_rank 25 = .ok (.goto 5, 3) := by decide +kernel
theorem dX8_rank_28 : decode cX8_rank 28 = .ok (.bipush (-11), 2) := by decide +kernel
theorem dX8_rank_30 : decode cX8_rank 30 = .ok (.ireturn, 1) := by decide +kernel
theorem dX8_rankAgain_0 : decode cX8_rankAgain 0 = .ok (.iload_n 1, 1) := by decide +kernel
theorem dX8_rankAgain_1 : decode cX8_rankAgain 1 = .ok (.invokestatic 130, 3) := by decide +kernel
theorem dX8_rankAgain_4 : decode cX8_rankAgain 4 = .ok (.ifCond .eq 24, 3) := by decide +kernel
theorem dX8_rankAgain_7 : decode cX8_rankAgain 7 = .ok (.aload_n 0, 1) := by decide +kernel
theorem dX8_rankAgain_8 : decode cX8_rankAgain 8 = .ok (.iload_n 3, 1) := by decide +kernel
theorem dX8_rankAgain_9 : decode cX8_rankAgain 9 = .ok (.invokevirtual 140, 3) := by decide +kernel
theorem dX8_rankAgain_12 : decode cX8_rankAgain 12 = .ok (.ifCond .eq 16, 3) := by decide +kernel
theorem dX8_rankAgain_15 : decode cX8_rankAgain 15 = .ok (.aload_n 0, 1) := by decide +kernel
theorem dX8_rankAgain_16 : decode cX8_rankAgain 16 = .ok (.getfield 32, 3) := by decide +kernel
theorem dX8_rankAgain_19 : decode cX8_rankAgain 19 = .ok (.iload_n 1, 1) := by decide +kernel
theorem dX8_rankAgain_20 : decode cX8_rankAgain 20 = .ok (.iload_n 2, 1) := by decide +kernel
theorem dX8_rankAgain_21 : decode cX8_rankAgain 21 = .ok (.iload_n 3, 1) := by decide +kernel
theorem dX8_rankAgain_22 : decode cX8_rankAgain 22 = .ok (.invokevirtual 147, 3) := by decide +kernel
theorem dX8_rankAgain_25 : decode cX8_rankAgain 25 = .ok (.goto 5, 3) := by decide +kernel
theorem dX8_rankAgain_28 : decode cX8_rankAgain 28 = .ok (.bipush (-11), 2) := by decide +kernel
theorem dX8_rankAgain_30 : decode cX8_rankAgain 30 = .ok (.ireturn, 1) := by decide +kernel
theorem dX8_select_0 : decode cX8_select 0 = .ok (.iload_n 1, 1) := by decide +kernel
theorem dX8_select_1 : decode cX8_select 1 = .ok (.invokestatic 130, 3) := by decide +kernel
theorem dX8_select_4 : decode cX8_select 4 = .ok (.ifCond .ne 6, 3) := by decide +kernel
theorem dX8_select_7 : decode cX8_select 7 = .ok (.bipush (-11), 2) := by decide +kernel
theorem dX8_select_9 : decode cX8_select 9 = .ok (.ireturn, 1) := by decide +kernel
theorem dX8_select_10 : decode cX8_select 10 = .ok (.aload_n 0, 1) := by decide +kernel
theorem dX8_select_11 : decode cX8_select 11 = .ok (.getfield 32, 3) := by decide +kernel
theorem dX8_select_14 : decode cX8_select 14 = .ok (.iload_n 1, 1) := by decide +kernel
theorem dX8_select_15 : decode cX8_select 15 = .ok (.iload_n 2, 1) := by decide +kernel
theorem dX8_select_16 : decode cX8_select 16 = .ok (.iload_n 3, 1) := by decide +kernel
theorem dX8_select_17 : decode cX8_select 17 = .ok (.invokevirtual 150, 3) := by decide +kernel
theorem dX8_select_20 : decode cX8_select 20 = .ok (.istore 4, 2) := by decide +kernel
theorem dX8_select_22 : decode cX8_select 22 = .ok (.iload 4, 2) := by decide +kernel
theorem dX8_select_24 : decode cX8_select 24 = .ok (.ifCond .ge 8, 3) := by decide +kernel
theorem dX8_select_27 : decode cX8_select 27 = .ok (.bipush (-15), 2) := by decide +kernel
theorem dX8_select_29 : decode cX8_select 29 = .ok (.goto 5, 3) := by decide +kernel
theorem dX8_select_32 : decode cX8_select 32 = .ok (.iload 4, 2) := by decide +kernel
theorem dX8_select_34 : decode cX8_select 34 = .ok (.ireturn, 1) := by decide +kernel
theorem dX8_placeIn_0 : decode cX8_placeIn 0 = .ok (.iload_n 1, 1) := by decide +kernel
theorem dX8_placeIn_1 : decode cX8_placeIn 1 = .ok (.invokestatic 130, 3) := by decide +kernel
theorem dX8_placeIn_4 : decode cX8_placeIn 4 = .ok (.ifCond .eq 26, 3) := by decide +kernel
theorem dX8_placeIn_7 : decode cX8_placeIn 7 = .ok (.aload_n 0, 1) := by decide +kernel
theorem dX8_placeIn_8 : decode cX8_placeIn 8 = .ok (.getfield 10, 3) := by decide +kernel
theorem dX8_placeIn_11 : decode cX8_placeIn 11 = .ok (.iload_n 2, 1) := by decide +kernel
theorem dX8_placeIn_12 : decode cX8_placeIn 12 = .ok (.invokevirtual 98, 3) := by decide +kernel
theorem dX8_placeIn_15 : decode cX8_placeIn 15 = .ok (.ifCond .eq 15, 3) := by decide +kernel
theorem dX8_placeIn_18 : decode cX8_placeIn 18 = .ok (.aload_n 0, 1) := by decide +kernel
theorem dX8_placeIn_19 : decode cX8_placeIn 19 = .ok (.getfield 32, 3) := by decide +kernel
theorem dX8_placeIn_22 : decode cX8_placeIn 22 = .ok (.iload_n 1, 1) := by decide +kernel
theorem dX8_placeIn_23 : decode cX8_placeIn 23 = .ok (.iload_n 2, 1) := by decide +kernel
theorem dX8_placeIn_24 : decode cX8_placeIn 24 = .ok (.invokevirtual 153, 3) := by decide +kernel
theorem dX8_placeIn_27 : decode cX8_placeIn 27 = .ok (.goto 5, 3) := by decide +kernel
theorem dX8_placeIn_30 : decode cX8_placeIn 30 = .ok (.bipush (-11), 2) := by decide +kernel
theorem dX8_placeIn_32 : decode cX8_placeIn 32 = .ok (.ireturn, 1) := by decide +kernel
theorem dX8_quantile_0 : decode cX8_quantile 0 = .ok (.aload_n 0, 1) := by decide +kernel
theorem dX8_quantile_1 : decode cX8_quantile 1 = .ok (.iload_n 1, 1) := by decide +kernel
theorem dX8_quantile_2 : decode cX8_quantile 2 = .ok (.iload_n 2, 1) := by decide +kernel
theorem dX8_quantile_3 : decode cX8_quantile 3 = .ok (.iload_n 3, 1) := by decide +kernel
theorem dX8_quantile_4 : decode cX8_quantile 4 = .ok (.invokevirtual 156, 3) := by decide +kernel
theorem dX8_quantile_7 : decode cX8_quantile 7 = .ok (.ifCond .eq 16, 3) := by decide +kernel
theorem dX8_quantile_10 : decode cX8_quantile 10 = .ok (.aload_n 0, 1) := by decide +kernel
theorem dX8_quantile_11 : decode cX8_quantile 11 = .ok (.getfield 32, 3) := by decide +kernel
theorem dX8_quantile_14 : decode cX8_quantile 14 = .ok (.iload_n 1, 1) := by decide +kernel
theorem dX8_quantile_15 : decode cX8_quantile 15 = .ok (.iload_n 2, 1) := by decide +kernel
theorem dX8_quantile_16 : decode cX8_quantile 16 = .ok (.iload_n 3, 1) := by decide +kernel
theorem dX8_quantile_17 : decode cX8_quantile 17 = .ok (.invokevirtual 160, 3) := by decide +kernel
theorem dX8_quantile_20 : decode cX8_quantile 20 = .ok (.goto 5, 3) := by decide +kernel
theorem dX8_quantile_23 : decode cX8_quantile 23 = .ok (.bipush (-11), 2) := by decide +kernel
theorem dX8_quantile_25 : decode cX8_quantile 25 = .ok (.ireturn, 1) := by decide +kernel
theorem dX8_quantileAgain_0 : decode cX8_quantileAgain 0 = .ok (.aload_n 0, 1) := by decide +kernel
theorem dX8_quantileAgain_1 : decode cX8_quantileAgain 1 = .ok (.iload_n 1, 1) := by decide +kernel
theorem dX8_quantileAgain_2 : decode cX8_quantileAgain 2 = .ok (.iload_n 2, 1) := by decide +kernel
theorem dX8_quantileAgain_3 : decode cX8_quantileAgain 3 = .ok (.iload_n 3, 1) := by decide +kernel
theorem dX8_quantileAgain_4 : decode cX8_quantileAgain 4 = .ok (.invokevirtual 156, 3) := by decide +kernel
theorem dX8_quantileAgain_7 : decode cX8_quantileAgain 7 = .ok (.ifCond .ne 6, 3) := by decide +kernel
theorem dX8_quantileAgain_10 : decode cX8_quantileAgain 10 = .ok (.bipush (-11), 2) := by decide +kernel
theorem dX8_quantileAgain_12 : decode cX8_quantileAgain 12 = .ok (.ireturn, 1) := by decide +kernel
theorem dX8_quantileAgain_13 : decode cX8_quantileAgain 13 = .ok (.aload_n 0, 1) := by decide +kernel
theorem dX8_quantileAgain_14 : decode cX8_quantileAgain 14 = .ok (.getfield 53, 3) := by decide +kernel
theorem dX8_quantileAgain_17 : decode cX8_quantileAgain 17 = .ok (.aload_n 0, 1) := by decide +kernel
theorem dX8_quantileAgain_18 : decode cX8_quantileAgain 18 = .ok (.getfield 10, 3) := by decide +kernel
theorem dX8_quantileAgain_21 : decode cX8_quantileAgain 21 = .ok (.iload_n 1, 1) := by decide +kernel
theorem dX8_quantileAgain_22 : decode cX8_quantileAgain 22 = .ok (.iload_n 2, 1) := by decide +kernel
theorem dX8_quantileAgain_23 : decode cX8_quantileAgain 23 = .ok (.invokevirtual 164, 3) := by decide +kernel
theorem dX8_quantileAgain_26 : decode cX8_quantileAgain 26 = .ok (.aload_n 0, 1) := by decide +kernel
theorem dX8_quantileAgain_27 : decode cX8_quantileAgain 27 = .ok (.getfield 53, 3) := by decide +kernel
theorem dX8_quantileAgain_30 : decode cX8_quantileAgain 30 = .ok (.iload_n 3, 1) := by decide +kernel
theorem dX8_quantileAgain_31 : decode cX8_quantileAgain 31 = .ok (.invokevirtual 168, 3) := by decide +kernel
theorem dX8_quantileAgain_34 : decode cX8_quantileAgain 34 = .ok (.ireturn, 1) := by decide +kernel
theorem dX8_count_0 : decode cX8_count 0 = .ok (.aload_n 0, 1) := by decide +kernel
theorem dX8_count_1 : decode cX8_count 1 = .ok (.iload_n 1, 1) := by decide +kernel
theorem dX8_count_2 : decode cX8_count 2 = .ok (.iload_n 2, 1) := by decide +kernel
theorem dX8_count_3 : decode cX8_count 3 = .ok (.invokevirtual 169, 3) := by decide +kernel
theorem dX8_count_6 : decode cX8_count 6 = .ok (.ifCond .ne 6, 3) := by decide +kernel
theorem dX8_count_9 : decode cX8_count 9 = .ok (.bipush (-11), 2) := by decide +kernel
theorem dX8_count_11 : decode cX8_count 11 = .ok (.ireturn, 1) := by decide +kernel
theorem dX8_count_12 : decode cX8_count 12 = .ok (.iload_n 3, 1) := by decide +kernel
theorem dX8_count_13 : decode cX8_count 13 = .ok (.invokestatic 71, 3) := by decide +kernel
theorem dX8_count_16 : decode cX8_count 16 = .ok (.ifCond .eq 16, 3) := by decide +kernel
theorem dX8_count_19 : decode cX8_count 19 = .ok (.aload_n 0, 1) := by decide +kernel
theorem dX8_count_20 : decode cX8_count 20 = .ok (.getfield 32, 3) := by decide +kernel
theorem dX8_count_23 : decode cX8_count 23 = .ok (.iload_n 1, 1) := by decide +kernel
theorem dX8_count_24 : decode cX8_count 24 = .ok (.iload_n 2, 1) := by decide +kernel
theorem dX8_count_25 : decode cX8_count 25 = .ok (.iload_n 3, 1) := by decide +kernel
theorem dX8_count_26 : decode cX8_count 26 = .ok (.invokevirtual 172, 3) := by decide +kernel
theorem dX8_count_29 : decode cX8_count 29 = .ok (.goto 5, 3) := by decide +kernel
theorem dX8_count_32 : decode cX8_count 32 = .ok (.bipush (-12), 2) := by decide +kernel
theorem dX8_count_34 : decode cX8_count 34 = .ok (.ireturn, 1) := by decide +kernel
theorem dX8_lighter_0 : decode cX8_lighter 0 = .ok (.aload_n 0, 1) := by decide +kernel
theorem dX8_lighter_1 : decode cX8_lighter 1 = .ok (.iload_n 1, 1) := by decide +kernel
theorem dX8_lighter_2 : decode cX8_lighter 2 = .ok (.iload_n 2, 1) := by decide +kernel
theorem dX8_lighter_3 : decode cX8_lighter 3 = .ok (.invokevirtual 169, 3) := by decide +kernel
theorem dX8_lighter_6 : decode cX8_lighter 6 = .ok (.ifCond .ne 6, 3) := by decide +kernel
theorem dX8_lighter_9 : decode cX8_lighter 9 = .ok (.bipush (-11), 2) := by decide +kernel
theorem dX8_lighter_11 : decode cX8_lighter 11 = .ok (.ireturn, 1) := by decide +kernel
theorem dX8_lighter_12 : decode cX8_lighter 12 = .ok (.iload_n 3, 1) := by decide +kernel
theorem dX8_lighter_13 : decode cX8_lighter 13 = .ok (.invokestatic 71, 3) := by decide +kernel
theorem dX8_lighter_16 : decode cX8_lighter 16 = .ok (.ifCond .eq 16, 3) := by decide +kernel
theorem dX8_lighter_19 : decode cX8_lighter 19 = .ok (.aload_n 0, 1) := by decide +kernel
theorem dX8_lighter_20 : decode cX8_lighter 20 = .ok (.getfield 32, 3) := by decide +kernel
theorem dX8_lighter_23 : decode cX8_lighter 23 = .ok (.iload_n 1, 1) := by decide +kernel
theorem dX8_lighter_24 : decode cX8_lighter 24 = .ok (.iload_n 2, 1) := by decide +kernel
theorem dX8_lighter_25 : decode cX8_lighter 25 = .ok (.iload_n 3, 1) := by decide +kernel
theorem dX8_lighter_26 : decode cX8_lighter 26 = .ok (.invokevirtual 175, 3) := by decide +kernel
theorem dX8_lighter_29 : decode cX8_lighter 29 = .ok (.goto 5, 3) := by decide +kernel
theorem dX8_lighter_32 : decode cX8_lighter 32 = .ok (.bipush (-12), 2) := by decide +kernel
theorem dX8_lighter_34 : decode cX8_lighter 34 = .ok (.ireturn, 1) := by decide +kernel
theorem dX8_atLeast_0 : decode cX8_atLeast 0 = .ok (.aload_n 0, 1) := by decide +kernel
theorem dX8_atLeast_1 : decode cX8_atLeast 1 = .ok (.iload_n 1, 1) := by decide +kernel
theorem dX8_atLeast_2 : decode cX8_atLeast 2 = .ok (.iload_n 2, 1) := by decide +kernel
theorem dX8_atLeast_3 : decode cX8_atLeast 3 = .ok (.invokevirtual 169, 3) := by decide +kernel
theorem dX8_atLeast_6 : decode cX8_atLeast 6 = .ok (.ifCond .ne 6, 3) := by decide +kernel
theorem dX8_atLeast_9 : decode cX8_atLeast 9 = .ok (.bipush (-11), 2) := by decide +kernel
theorem dX8_atLeast_11 : decode cX8_atLeast 11 = .ok (.ireturn, 1) := by decide +kernel
theorem dX8_atLeast_12 : decode cX8_atLeast 12 = .ok (.iload_n 3, 1) := by decide +kernel
theorem dX8_atLeast_13 : decode cX8_atLeast 13 = .ok (.invokestatic 71, 3) := by decide +kernel
theorem dX8_atLeast_16 : decode cX8_atLeast 16 = .ok (.ifCond .ne 6, 3) := by decide +kernel
theorem dX8_atLeast_19 : decode cX8_atLeast 19 = .ok (.bipush (-12), 2) := by decide +kernel
theorem dX8_atLeast_21 : decode cX8_atLeast 21 = .ok (.ireturn, 1) := by decide +kernel
theorem dX8_atLeast_22 : decode cX8_atLeast 22 = .ok (.aload_n 0, 1) := by decide +kernel
theorem dX8_atLeast_23 : decode cX8_atLeast 23 = .ok (.getfield 32, 3) := by decide +kernel
theorem dX8_atLeast_26 : decode cX8_atLeast 26 = .ok (.iload_n 1, 1) := by decide +kernel
theorem dX8_atLeast_27 : decode cX8_atLeast 27 = .ok (.iload_n 2, 1) := by decide +kernel
theorem dX8_atLeast_28 : decode cX8_atLeast 28 = .ok (.iload_n 3, 1) := by decide +kernel
theorem dX8_atLeast_29 : decode cX8_atLeast 29 = .ok (.invokevirtual 175, 3) := by decide +kernel
theorem dX8_atLeast_32 : decode cX8_atLeast 32 = .ok (.istore 4, 2) := by decide +kernel
theorem dX8_atLeast_34 : decode cX8_atLeast 34 = .ok (.iload 4, 2) := by decide +kernel
theorem dX8_atLeast_36 : decode cX8_atLeast 36 = .ok (.iload_n 2, 1) := by decide +kernel
theorem dX8_atLeast_37 : decode cX8_atLeast 37 = .ok (.iload_n 1, 1) := by decide +kernel
theorem dX8_atLeast_38 : decode cX8_atLeast 38 = .ok (.isub, 1) := by decide +kernel
theorem dX8_atLeast_39 : decode cX8_atLeast 39 = .ok (.if_icmp .ge 17, 3) := by decide +kernel
theorem dX8_atLeast_42 : decode cX8_atLeast 42 = .ok (.aload_n 0, 1) := by decide +kernel
theorem dX8_atLeast_43 : decode cX8_atLeast 43 = .ok (.getfield 32, 3) := by decide +kernel
theorem dX8_atLeast_46 : decode cX8_atLeast 46 = .ok (.iload_n 1, 1) := by decide +kernel
theorem dX8_atLeast_47 : decode cX8_atLeast 47 = .ok (.iload_n 2, 1) := by decide +kernel
theorem dX8_atLeast_48 : decode cX8_atLeast 48 = .ok (.iload 4, 2) := by decide +kernel
theorem dX8_atLeast_50 : decode cX8_atLeast 50 = .ok (.invokevirtual 160, 3) := by decide +kernel
theorem dX8_atLeast_53 : decode cX8_atLeast 53 = .ok (.goto 5, 3) := by decide +kernel
theorem dX8_atLeast_56 : decode cX8_atLeast 56 = .ok (.bipush (-15), 2) := by decide +kernel
theorem dX8_atLeast_58 : decode cX8_atLeast 58 = .ok (.ireturn, 1) := by decide +kernel
theorem dX8_find_0 : decode cX8_find 0 = .ok (.iload_n 1, 1) := by decide +kernel
theorem dX8_find_1 : decode cX8_find 1 = .ok (.invokestatic 71, 3) := by decide +kernel
theorem dX8_find_4 : decode cX8_find 4 = .ok (.ifCond .ne 6, 3) := by decide +kernel
theorem dX8_find_7 : decode cX8_find 7 = .ok (.bipush (-12), 2) := by decide +kernel
theorem dX8_find_9 : decode cX8_find 9 = .ok (.ireturn, 1) := by decide +kernel
theorem dX8_find_10 : decode cX8_find 10 = .ok (.aload_n 0, 1) := by decide +kernel
theorem dX8_find_11 : decode cX8_find 11 = .ok (.getfield 32, 3) := by decide +kernel
theorem dX8_find_14 : decode cX8_find 14 = .ok (.iload_n 1, 1) := by decide +kernel
theorem dX8_find_15 : decode cX8_find 15 = .ok (.iload_n 2, 1) := by decide +kernel
theorem dX8_find_16 : decode cX8_find 16 = .ok (.invokevirtual 178, 3) := by decide +kernel
theorem dX8_find_19 : decode cX8_find 19 = .ok (.istore_n 3, 1) := by decide +kernel
theorem dX8_find_20 : decode cX8_find 20 = .ok (.iload_n 3, 1) := by decide +kernel
theorem dX8_find_21 : decode cX8_find 21 = .ok (.ifCond .ge 8, 3) := by decide +kernel
theorem dX8_find_24 : decode cX8_find 24 = .ok (.bipush (-15), 2) := by decide +kernel
theorem dX8_find_26 : decode cX8_find 26 = .ok (.goto 4, 3) := by decide +kernel
theorem dX8_find_29 : decode cX8_find 29 = .ok (.iload_n 3, 1) := by decide +kernel
theorem dX8_find_30 : decode cX8_find 30 = .ok (.ireturn, 1) := by decide +kernel
theorem dX8_common_0 : decode cX8_common 0 = .ok (.aload_n 0, 1) := by decide +kernel
theorem dX8_common_1 : decode cX8_common 1 = .ok (.iload_n 1, 1) := by decide +kernel
theorem dX8_common_2 : decode cX8_common 2 = .ok (.iload_n 2, 1) := by decide +kernel
theorem dX8_common_3 : decode cX8_common 3 = .ok (.invokevirtual 169, 3) := by decide +kernel
theorem dX8_common_6 : decode cX8_common 6 = .ok (.ifCond .ne 6, 3) := by decide +kernel
theorem dX8_common_9 : decode cX8_common 9 = .ok (.bipush (-11), 2) := by decide +kernel
theorem dX8_common_11 : decode cX8_common 11 = .ok (.ireturn, 1) := by decide +kernel
theorem dX8_common_12 : decode cX8_common 12 = .ok (.aload_n 0, 1) := by decide +kernel
theorem dX8_common_13 : decode cX8_common 13 = .ok (.getfield 46, 3) := by decide +kernel
theorem dX8_common_16 : decode cX8_common 16 = .ok (.aload_n 0, 1) := by decide +kernel
theorem dX8_common_17 : decode cX8_common 17 = .ok (.getfield 10, 3) := by decide +kernel
theorem dX8_common_20 : decode cX8_common 20 = .ok (.iload_n 1, 1) := by decide +kernel
theorem dX8_common_21 : decode cX8_common 21 = .ok (.iload_n 2, 1) := by decide +kernel
theorem dX8_common_22 : decode cX8_common 22 = .ok (.invokevirtual 181, 3) := by decide +kernel
theorem dX8_common_25 : decode cX8_common 25 = .ok (.aload_n 0, 1) := by decide +kernel
theorem dX8_common_26 : decode cX8_common 26 = .ok (.getfield 46, 3) := by decide +kernel
theorem dX8_common_29 : decode cX8_common 29 = .ok (.iload_n 3, 1) := by decide +kernel
theorem dX8_common_30 : decode cX8_common 30 = .ok (.invokevirtual 182, 3) := by decide +kernel
theorem dX8_common_33 : decode cX8_common 33 = .ok (.istore 4, 2) := by decide +kernel
theorem dX8_common_35 : decode cX8_common 35 = .ok (.iload 4, 2) := by decide +kernel
theorem dX8_common_37 : decode cX8_common 37 = .ok (.ifCond .ge 8, 3) := by decide +kernel
theorem dX8_common_40 : decode cX8_common 40 = .ok (.bipush (-11), 2) := by decide +kernel
theorem dX8_common_42 : decode cX8_common 42 = .ok (.goto 5, 3) := by decide +kernel
theorem dX8_common_45 : decode cX8_common 45 = .ok (.iload 4, 2) := by decide +kernel
theorem dX8_common_47 : decode cX8_common 47 = .ok (.ireturn, 1) := by decide +kernel
theorem dX8_bagOf_0 : decode cX8_bagOf 0 = .ok (.iload_n 1, 1) := by decide +kernel
theorem dX8_bagOf_1 : decode cX8_bagOf 1 = .ok (.ifCond .lt 14, 3) := by decide +kernel
theorem dX8_bagOf_4 : decode cX8_bagOf 4 = .ok (.iload_n 1, 1) := by decide +kernel
theorem dX8_bagOf_5 : decode cX8_bagOf 5 = .ok (.aload_n 0, 1) := by decide +kernel
theorem dX8_bagOf_6 : decode cX8_bagOf 6 = .ok (.getfield 39, 3) := by decide +kernel
theorem dX8_bagOf_9 : decode cX8_bagOf 9 = .ok (.invokevirtual 185, 3) := by decide +kernel
theorem dX8_bagOf_12 : decode cX8_bagOf 12 = .ok (.if_icmp .lt 6, 3) := by decide +kernel
theorem dX8_bagOf_15 : decode cX8_bagOf 15 = .ok (.bipush (-11), 2) := by decide +kernel
theorem dX8_bagOf_17 : decode cX8_bagOf 17 = .ok (.ireturn, 1) := by decide +kernel
theorem dX8_bagOf_18 : decode cX8_bagOf 18 = .ok (.aload_n 0, 1) := by decide +kernel
theorem dX8_bagOf_19 : decode cX8_bagOf 19 = .ok (.getfield 39, 3) := by decide +kernel
theorem dX8_bagOf_22 : decode cX8_bagOf 22 = .ok (.iload_n 1, 1) := by decide +kernel
theorem dX8_bagOf_23 : decode cX8_bagOf 23 = .ok (.invokevirtual 188, 3) := by decide +kernel
theorem dX8_bagOf_26 : decode cX8_bagOf 26 = .ok (.istore_n 3, 1) := by decide +kernel
theorem dX8_bagOf_27 : decode cX8_bagOf 27 = .ok (.aload_n 0, 1) := by decide +kernel
theorem dX8_bagOf_28 : decode cX8_bagOf 28 = .ok (.getfield 39, 3) := by decide +kernel
theorem dX8_bagOf_31 : decode cX8_bagOf 31 = .ok (.iload_n 1, 1) := by decide +kernel
theorem dX8_bagOf_32 : decode cX8_bagOf 32 = .ok (.invokevirtual 191, 3) := by decide +kernel
theorem dX8_bagOf_35 : decode cX8_bagOf 35 = .ok (.istore 4, 2) := by decide +kernel
theorem dX8_bagOf_37 : decode cX8_bagOf 37 = .ok (.iload_n 2, 1) := by decide +kernel
theorem dX8_bagOf_38 : decode cX8_bagOf 38 = .ok (.tableswitch 112 0 5 #[38, 40, 45, 54, 73, 90], 38) := by decide +kernel
theorem dX8_bagOf_76 : decode cX8_bagOf 76 = .ok (.iload_n 3, 1) := by decide +kernel
theorem dX8_bagOf_77 : decode cX8_bagOf 77 = .ok (.ireturn, 1) := by decide +kernel
theorem dX8_bagOf_78 : decode cX8_bagOf 78 = .ok (.iload 4, 2) := by decide +kernel
theorem dX8_bagOf_80 : decode cX8_bagOf 80 = .ok (.iload_n 3, 1) := by decide +kernel
theorem dX8_bagOf_81 : decode cX8_bagOf 81 = .ok (.isub, 1) := by decide +kernel
theorem dX8_bagOf_82 : decode cX8_bagOf 82 = .ok (.ireturn, 1) := by decide +kernel
theorem dX8_bagOf_83 : decode cX8_bagOf 83 = .ok (.aload_n 0, 1) := by decide +kernel
theorem dX8_bagOf_84 : decode cX8_bagOf 84 = .ok (.getfield 39, 3) := by decide +kernel
theorem dX8_bagOf_87 : decode cX8_bagOf 87 = .ok (.iload_n 1, 1) := by decide +kernel
theorem dX8_bagOf_88 : decode cX8_bagOf 88 = .ok (.invokevirtual 194, 3) := by decide +kernel
theorem dX8_bagOf_91 : decode cX8_bagOf 91 = .ok (.ireturn, 1) := by decide +kernel
theorem dX8_bagOf_92 : decode cX8_bagOf 92 = .ok (.aload_n 0, 1) := by decide +kernel
theorem dX8_bagOf_93 : decode cX8_bagOf 93 = .ok (.getfield 32, 3) := by decide +kernel
theorem dX8_bagOf_96 : decode cX8_bagOf 96 = .ok (.iload_n 3, 1) := by decide +kernel
theorem dX8_bagOf_97 : decode cX8_bagOf 97 = .ok (.iload 4, 2) := by decide +kernel
theorem dX8_bagOf_99 : decode cX8_bagOf 99 = .ok (.iload 4, 2) := by decide +kernel
theorem dX8_bagOf_101 : decode cX8_bagOf 101 = .ok (.iload_n 3, 1) := by decide +kernel
theorem dX8_bagOf_102 : decode cX8_bagOf 102 = .ok (.isub, 1) := by decide +kernel
theorem dX8_bagOf_103 : decode cX8_bagOf 103 = .ok (.iconst 1, 1) := by decide +kernel
theorem dX8_bagOf_104 : decode cX8_bagOf 104 = .ok (.isub, 1) := by decide +kernel
theorem dX8_bagOf_105 : decode cX8_bagOf 105 = .ok (.iconst 2, 1) := by decide +kernel
theorem dX8_bagOf_106 : decode cX8_bagOf 106 = .ok (.idiv, 1) := by decide +kernel
theorem dX8_bagOf_107 : decode cX8_bagOf 107 = .ok (.invokevirtual 160, 3) := by decide +kernel
theorem dX8_bagOf_110 : decode cX8_bagOf 110 = .ok (.ireturn, 1) := by decide +kernel
theorem dX8_bagOf_111 : decode cX8_bagOf 111 = .ok (.aload_n 0, 1) := by decide +kernel
theorem dX8_bagOf_112 : decode cX8_bagOf 112 = .ok (.getfield 32, 3) := by decide +kernel
theorem dX8_bagOf_115 : decode cX8_bagOf 115 = .ok (.iload_n 3, 1) := by decide +kernel
theorem dX8_bagOf_116 : decode cX8_bagOf 116 = .ok (.iload 4, 2) := by decide +kernel
theorem dX8_bagOf_118 : decode cX8_bagOf 118 = .ok (.iload 4, 2) := by decide +kernel
theorem dX8_bagOf_120 : decode cX8_bagOf 120 = .ok (.iload_n 3, 1) := by decide +kernel
theorem dX8_bagOf_121 : decode cX8_bagOf 121 = .ok (.isub, 1) := by decide +kernel
theorem dX8_bagOf_122 : decode cX8_bagOf 122 = .ok (.iconst 1, 1) := by decide +kernel
theorem dX8_bagOf_123 : decode cX8_bagOf 123 = .ok (.isub, 1) := by decide +kernel
theorem dX8_bagOf_124 : decode cX8_bagOf 124 = .ok (.invokevirtual 160, 3) := by decide +kernel
theorem dX8_bagOf_127 : decode cX8_bagOf 127 = .ok (.ireturn, 1) := by decide +kernel
theorem dX8_bagOf_128 : decode cX8_bagOf 128 = .ok (.aload_n 0, 1) := by decide +kernel
theorem dX8_bagOf_129 : decode cX8_bagOf 129 = .ok (.getfield 46, 3) := by decide +kernel
theorem dX8_bagOf_132 : decode cX8_bagOf 132 = .ok (.aload_n 0, 1) := by decide +kernel
theorem dX8_bagOf_133 : decode cX8_bagOf 133 = .ok (.getfield 10, 3) := by decide +kernel
theorem dX8_bagOf_136 : decode cX8_bagOf 136 = .ok (.iload_n 3, 1) := by decide +kernel
theorem dX8_bagOf_137 : decode cX8_bagOf 137 = .ok (.iload 4, 2) := by decide +kernel
theorem dX8_bagOf_139 : decode cX8_bagOf 139 = .ok (.invokevirtual 181, 3) := by decide +kernel
theorem dX8_bagOf_142 : decode cX8_bagOf 142 = .ok (.aload_n 0, 1) := by decide +kernel
theorem dX8_bagOf_143 : decode cX8_bagOf 143 = .ok (.getfield 46, 3) := by decide +kernel
theorem dX8_bagOf_146 : decode cX8_bagOf 146 = .ok (.invokevirtual 197, 3) := by decide +kernel
theorem dX8_bagOf_149 : decode cX8_bagOf 149 = .ok (.ireturn, 1) := by decide +kernel
theorem dX8_bagOf_150 : decode cX8_bagOf 150 = .ok (.bipush (-12), 2) := by decide +kernel
theorem dX8_bagOf_152 : decode cX8_bagOf 152 = .ok (.ireturn, 1) := by decide +kernel
theorem dX8_bagAt_0 : decode cX8_bagAt 0 = .ok (.aload_n 0, 1) := by decide +kernel
theorem dX8_bagAt_1 : decode cX8_bagAt 1 = .ok (.getfield 10, 3) := by decide +kernel
theorem dX8_bagAt_4 : decode cX8_bagAt 4 = .ok (.iload_n 1, 1) := by decide +kernel
theorem dX8_bagAt_5 : decode cX8_bagAt 5 = .ok (.invokevirtual 98, 3) := by decide +kernel
theorem dX8_bagAt_8 : decode cX8_bagAt 8 = .ok (.ifCond .eq 14, 3) := by decide +kernel
theorem dX8_bagAt_11 : decode cX8_bagAt 11 = .ok (.aload_n 0, 1) := by decide +kernel
theorem dX8_bagAt_12 : decode cX8_bagAt 12 = .ok (.getfield 39, 3) := by decide +kernel
theorem dX8_bagAt_15 : decode cX8_bagAt 15 = .ok (.iload_n 1, 1) := by decide +kernel
theorem dX8_bagAt_16 : decode cX8_bagAt 16 = .ok (.invokevirtual 200, 3) := by decide +kernel
theorem dX8_bagAt_19 : decode cX8_bagAt 19 = .ok (.goto 5, 3) := by decide +kernel
theorem dX8_bagAt_22 : decode cX8_bagAt 22 = .ok (.bipush (-11), 2) := by decide +kernel
theorem dX8_bagAt_24 : decode cX8_bagAt 24 = .ok (.ireturn, 1) := by decide +kernel
theorem dX8_ranked_0 : decode cX8_ranked 0 = .ok (.aload_n 0, 1) := by decide +kernel
theorem dX8_ranked_1 : decode cX8_ranked 1 = .ok (.getfield 39, 3) := by decide +kernel
theorem dX8_ranked_4 : decode cX8_ranked 4 = .ok (.iload_n 1, 1) := by decide +kernel
theorem dX8_ranked_5 : decode cX8_ranked 5 = .ok (.invokevirtual 203, 3) := by decide +kernel
theorem dX8_ranked_8 : decode cX8_ranked 8 = .ok (.istore_n 2, 1) := by decide +kernel
theorem dX8_ranked_9 : decode cX8_ranked 9 = .ok (.iload_n 2, 1) := by decide +kernel
theorem dX8_ranked_10 : decode cX8_ranked 10 = .ok (.ifCond .ge 8, 3) := by decide +kernel
theorem dX8_ranked_13 : decode cX8_ranked 13 = .ok (.bipush (-11), 2) := by decide +kernel
theorem dX8_ranked_15 : decode cX8_ranked 15 = .ok (.goto 4, 3) := by decide +kernel
theorem dX8_ranked_18 : decode cX8_ranked 18 = .ok (.iload_n 2, 1) := by decide +kernel
theorem dX8_ranked_19 : decode cX8_ranked 19 = .ok (.ireturn, 1) := by decide +kernel
theorem dX8_append_0 : decode cX8_append 0 = .ok (.iload_n 1, 1) := by decide +kernel
theorem dX8_append_1 : decode cX8_append 1 = .ok (.bipush 32, 2) := by decide +kernel
theorem dX8_append_3 : decode cX8_append 3 = .ok (.if_icmp .lt 9, 3) := by decide +kernel
theorem dX8_append_6 : decode cX8_append 6 = .ok (.iload_n 1, 1) := by decide +kernel
theorem dX8_append_7 : decode cX8_append 7 = .ok (.bipush 126, 2) := by decide +kernel
theorem dX8_append_9 : decode cX8_append 9 = .ok (.if_icmp .le 6, 3) := by decide +kernel
theorem dX8_append_12 : decode cX8_append 12 = .ok (.bipush (-12), 2) := by decide +kernel
theorem dX8_append_14 : decode cX8_append 14 = .ok (.ireturn, 1) := by decide +kernel
theorem dX8_append_15 : decode cX8_append 15 = .ok (.aload_n 0, 1) := by decide +kernel
theorem dX8_append_16 : decode cX8_append 16 = .ok (.getfield 60, 3) := by decide +kernel
theorem dX8_append_19 : decode cX8_append 19 = .ok (.invokevirtual 206, 3) := by decide +kernel
theorem dX8_append_22 : decode cX8_append 22 = .ok (.ifCond .eq 6, 3) := by decide +kernel
theorem dX8_append_25 : decode cX8_append 25 = .ok (.bipush (-13), 2) := by decide +kernel
theorem dX8_append_27 : decode cX8_append 27 = .ok (.ireturn, 1) := by decide +kernel
theorem dX8_append_28 : decode cX8_append 28 = .ok (.aload_n 0, 1) := by decide +kernel
theorem dX8_append_29 : decode cX8_append 29 = .ok (.getfield 60, 3) := by decide +kernel
theorem dX8_append_32 : decode cX8_append 32 = .ok (.iload_n 1, 1) := by decide +kernel
theorem dX8_append_33 : decode cX8_append 33 = .ok (.invokevirtual 207, 3) := by decide +kernel
theorem dX8_append_36 : decode cX8_append 36 = .ok (.aload_n 0, 1) := by decide +kernel
theorem dX8_append_37 : decode cX8_append 37 = .ok (.getfield 60, 3) := by decide +kernel
theorem dX8_append_40 : decode cX8_append 40 = .ok (.invokevirtual 211, 3) := by decide +kernel
theorem dX8_append_43 : decode cX8_append 43 = .ok (.ireturn, 1) := by decide +kernel
theorem dX8_run_0 : decode cX8_run 0 = .ok (.aload_n 0, 1) := by decide +kernel
theorem dX8_run_1 : decode cX8_run 1 = .ok (.getfield 60, 3) := by decide +kernel
theorem dX8_run_4 : decode cX8_run 4 = .ok (.invokevirtual 212, 3) := by decide +kernel
theorem dX8_run_7 : decode cX8_run 7 = .ok (.istore_n 1, 1) := by decide +kernel
theorem dX8_run_8 : decode cX8_run 8 = .ok (.aload_n 0, 1) := by decide +kernel
theorem dX8_run_9 : decode cX8_run 9 = .ok (.getfield 60, 3) := by decide +kernel
theorem dX8_run_12 : decode cX8_run 12 = .ok (.invokevirtual 215, 3) := by decide +kernel
theorem dX8_run_15 : decode cX8_run 15 = .ok (.iload_n 1, 1) := by decide +kernel
theorem dX8_run_16 : decode cX8_run 16 = .ok (.ifCond .lt 9, 3) := by decide +kernel
theorem dX8_run_19 : decode cX8_run 19 = .ok (.sipush (-1000), 3) := by decide +kernel
theorem dX8_run_22 : decode cX8_run 22 = .ok (.iload_n 1, 1) := by decide +kernel
theorem dX8_run_23 : decode cX8_run 23 = .ok (.isub, 1) := by decide +kernel
theorem dX8_run_24 : decode cX8_run 24 = .ok (.ireturn, 1) := by decide +kernel
theorem dX8_run_25 : decode cX8_run 25 = .ok (.aload_n 0, 1) := by decide +kernel
theorem dX8_run_26 : decode cX8_run 26 = .ok (.invokevirtual 218, 3) := by decide +kernel
theorem dX8_run_29 : decode cX8_run 29 = .ok (.istore_n 2, 1) := by decide +kernel
theorem dX8_run_30 : decode cX8_run 30 = .ok (.iload_n 2, 1) := by decide +kernel
theorem dX8_run_31 : decode cX8_run 31 = .ok (.ifCond .lt 10, 3) := by decide +kernel
theorem dX8_run_34 : decode cX8_run 34 = .ok (.aload_n 0, 1) := by decide +kernel
theorem dX8_run_35 : decode cX8_run 35 = .ok (.iconst 4, 1) := by decide +kernel
theorem dX8_run_36 : decode cX8_run 36 = .ok (.iload_n 2, 1) := by decide +kernel
theorem dX8_run_37 : decode cX8_run 37 = .ok (.invokevirtual 79, 3) := by decide +kernel
theorem dX8_run_40 : decode cX8_run 40 = .ok (.ireturn, 1) := by decide +kernel
theorem dX8_run_41 : decode cX8_run 41 = .ok (.aload_n 0, 1) := by decide +kernel
theorem dX8_run_42 : decode cX8_run 42 = .ok (.getfield 25, 3) := by decide +kernel
theorem dX8_run_45 : decode cX8_run 45 = .ok (.aload_n 0, 1) := by decide +kernel
theorem dX8_run_46 : decode cX8_run 46 = .ok (.getfield 10, 3) := by decide +kernel
theorem dX8_run_49 : decode cX8_run 49 = .ok (.invokevirtual 83, 3) := by decide +kernel
theorem dX8_run_52 : decode cX8_run 52 = .ok (.aload_n 0, 1) := by decide +kernel
theorem dX8_run_53 : decode cX8_run 53 = .ok (.getfield 10, 3) := by decide +kernel
theorem dX8_run_56 : decode cX8_run 56 = .ok (.aload_n 0, 1) := by decide +kernel
theorem dX8_run_57 : decode cX8_run 57 = .ok (.getfield 16, 3) := by decide +kernel
theorem dX8_run_60 : decode cX8_run 60 = .ok (.invokevirtual 221, 3) := by decide +kernel
theorem dX8_run_63 : decode cX8_run 63 = .ok (.aload_n 0, 1) := by decide +kernel
theorem dX8_run_64 : decode cX8_run 64 = .ok (.invokevirtual 95, 3) := by decide +kernel
theorem dX8_run_67 : decode cX8_run 67 = .ok (.aload_n 0, 1) := by decide +kernel
theorem dX8_run_68 : decode cX8_run 68 = .ok (.getfield 60, 3) := by decide +kernel
theorem dX8_run_71 : decode cX8_run 71 = .ok (.invokevirtual 224, 3) := by decide +kernel
theorem dX8_run_74 : decode cX8_run 74 = .ok (.ireturn, 1) := by decide +kernel
theorem dX8_account_0 : decode cX8_account 0 = .ok (.iload_n 1, 1) := by decide +kernel
theorem dX8_account_1 : decode cX8_account 1 = .ok (.tableswitch 166 0 10 #[59, 67, 75, 83, 91, 99, 107, 134, 142, 150, 158], 59) := by decide +kernel
theorem dX8_account_60 : decode cX8_account 60 = .ok (.aload_n 0, 1) := by decide +kernel
theorem dX8_account_61 : decode cX8_account 61 = .ok (.getfield 10, 3) := by decide +kernel
theorem dX8_account_64 : decode cX8_account 64 = .ok (.invokevirtual 87, 3) := by decide +kernel
theorem dX8_account_67 : decode cX8_account 67 = .ok (.ireturn, 1) := by decide +kernel
theorem dX8_account_68 : decode cX8_account 68 = .ok (.aload_n 0, 1) := by decide +kernel
theorem dX8_account_69 : decode cX8_account 69 = .ok (.getfield 10, 3) := by decide +kernel
theorem dX8_account_72 : decode cX8_account 72 = .ok (.invokevirtual 245, 3) := by decide +kernel
theorem dX8_account_75 : decode cX8_account 75 = .ok (.ireturn, 1) := by decide +kernel
theorem dX8_account_76 : decode cX8_account 76 = .ok (.aload_n 0, 1) := by decide +kernel
theorem dX8_account_77 : decode cX8_account 77 = .ok (.getfield 10, 3) := by decide +kernel
theorem dX8_account_80 : decode cX8_account 80 = .ok (.invokevirtual 248, 3) := by decide +kernel
theorem dX8_account_83 : decode cX8_account 83 = .ok (.ireturn, 1) := by decide +kernel
theorem dX8_account_84 : decode cX8_account 84 = .ok (.aload_n 0, 1) := by decide +kernel
theorem dX8_account_85 : decode cX8_account 85 = .ok (.getfield 10, 3) := by decide +kernel
theorem dX8_account_88 : decode cX8_account 88 = .ok (.invokevirtual 251, 3) := by decide +kernel
theorem dX8_account_91 : decode cX8_account 91 = .ok (.ireturn, 1) := by decide +kernel
theorem dX8_account_92 : decode cX8_account 92 = .ok (.aload_n 0, 1) := by decide +kernel
theorem dX8_account_93 : decode cX8_account 93 = .ok (.getfield 39, 3) := by decide +kernel
theorem dX8_account_96 : decode cX8_account 96 = .ok (.invokevirtual 185, 3) := by decide +kernel
theorem dX8_account_99 : decode cX8_account 99 = .ok (.ireturn, 1) := by decide +kernel
theorem dX8_account_100 : decode cX8_account 100 = .ok (.aload_n 0, 1) := by decide +kernel
theorem dX8_account_101 : decode cX8_account 101 = .ok (.getfield 10, 3) := by decide +kernel
theorem dX8_account_104 : decode cX8_account 104 = .ok (.invokevirtual 124, 3) := by decide +kernel
theorem dX8_account_107 : decode cX8_account 107 = .ok (.ireturn, 1) := by decide +kernel
theorem dX8_account_108 : decode cX8_account 108 = .ok (.aload_n 0, 1) := by decide +kernel
theorem dX8_account_109 : decode cX8_account 109 = .ok (.getfield 46, 3) := by decide +kernel
theorem dX8_account_112 : decode cX8_account 112 = .ok (.aload_n 0, 1) := by decide +kernel
theorem dX8_account_113 : decode cX8_account 113 = .ok (.getfield 10, 3) := by decide +kernel
theorem dX8_account_116 : decode cX8_account 116 = .ok (.iconst 0, 1) := by decide +kernel
theorem dX8_account_117 : decode cX8_account 117 = .ok (.aload_n 0, 1) := by decide +kernel
theorem dX8_account_118 : decode cX8_account 118 = .ok (.getfield 10, 3) := by decide +kernel
theorem dX8_account_121 : decode cX8_account 121 = .ok (.invokevirtual 87, 3) := by decide +kernel
theorem dX8_account_124 : decode cX8_account 124 = .ok (.invokevirtual 181, 3) := by decide +kernel
theorem dX8_account_127 : decode cX8_account 127 = .ok (.aload_n 0, 1) := by decide +kernel
theorem dX8_account_128 : decode cX8_account 128 = .ok (.getfield 46, 3) := by decide +kernel
theorem dX8_account_131 : decode cX8_account 131 = .ok (.invokevirtual 197, 3) := by decide +kernel
theorem dX8_account_134 : decode cX8_account 134 = .ok (.ireturn, 1) := by decide +kernel
theorem dX8_account_135 : decode cX8_account 135 = .ok (.aload_n 0, 1) := by decide +kernel
theorem dX8_account_136 : decode cX8_account 136 = .ok (.getfield 10, 3) := by decide +kernel
theorem dX8_account_139 : decode cX8_account 139 = .ok (.invokevirtual 254, 3) := by decide +kernel
theorem dX8_account_142 : decode cX8_account 142 = .ok (.ireturn, 1) := by decide +kernel
theorem dX8_account_143 : decode cX8_account 143 = .ok (.aload_n 0, 1) := by decide +kernel
theorem dX8_account_144 : decode cX8_account 144 = .ok (.getfield 32, 3) := by decide +kernel
theorem dX8_account_147 : decode cX8_account 147 = .ok (.invokevirtual 257, 3) := by decide +kernel
theorem dX8_account_150 : decode cX8_account 150 = .ok (.ireturn, 1) := by decide +kernel
theorem dX8_account_151 : decode cX8_account 151 = .ok (.aload_n 0, 1) := by decide +kernel
theorem dX8_account_152 : decode cX8_account 152 = .ok (.getfield 60, 3) := by decide +kernel
theorem dX8_account_155 : decode cX8_account 155 = .ok (.invokevirtual 211, 3) := by decide +kernel
theorem dX8_account_158 : decode cX8_account 158 = .ok (.ireturn, 1) := by decide +kernel
theorem dX8_account_159 : decode cX8_account 159 = .ok (.aload_n 0, 1) := by decide +kernel
theorem dX8_account_160 : decode cX8_account 160 = .ok (.getfield 25, 3) := by decide +kernel
theorem dX8_account_163 : decode cX8_account 163 = .ok (.invokevirtual 260, 3) := by decide +kernel
theorem dX8_account_166 : decode cX8_account 166 = .ok (.ireturn, 1) := by decide +kernel
theorem dX8_account_167 : decode cX8_account 167 = .ok (.bipush (-12), 2) := by decide +kernel
theorem dX8_account_169 : decode cX8_account 169 = .ok (.ireturn, 1) := by decide +kernel
theorem dX8_isBalanced_0 : decode cX8_isBalanced 0 = .ok (.aload_n 0, 1) := by decide +kernel
theorem dX8_isBalanced_1 : decode cX8_isBalanced 1 = .ok (.getfield 10, 3) := by decide +kernel
theorem dX8_isBalanced_4 : decode cX8_isBalanced 4 = .ok (.invokevirtual 87, 3) := by decide +kernel
theorem dX8_isBalanced_7 : decode cX8_isBalanced 7 = .ok (.aload_n 0, 1) := by decide +kernel
theorem dX8_isBalanced_8 : decode cX8_isBalanced 8 = .ok (.getfield 10, 3) := by decide +kernel
theorem dX8_isBalanced_11 : decode cX8_isBalanced 11 = .ok (.invokevirtual 248, 3) := by decide +kernel
theorem dX8_isBalanced_14 : decode cX8_isBalanced 14 = .ok (.aload_n 0, 1) := by decide +kernel
theorem dX8_isBalanced_15 : decode cX8_isBalanced 15 = .ok (.getfield 10, 3) := by decide +kernel
theorem dX8_isBalanced_18 : decode cX8_isBalanced 18 = .ok (.invokevirtual 251, 3) := by decide +kernel
theorem dX8_isBalanced_21 : decode cX8_isBalanced 21 = .ok (.isub, 1) := by decide +kernel
theorem dX8_isBalanced_22 : decode cX8_isBalanced 22 = .ok (.if_icmp .ne 42, 3) := by decide +kernel
theorem dX8_isBalanced_25 : decode cX8_isBalanced 25 = .ok (.aload_n 0, 1) := by decide +kernel
theorem dX8_isBalanced_26 : decode cX8_isBalanced 26 = .ok (.invokevirtual 261, 3) := by decide +kernel
theorem dX8_isBalanced_29 : decode cX8_isBalanced 29 = .ok (.ifCond .eq 35, 3) := by decide +kernel
theorem dX8_isBalanced_32 : decode cX8_isBalanced 32 = .ok (.aload_n 0, 1) := by decide +kernel
theorem dX8_isBalanced_33 : decode cX8_isBalanced 33 = .ok (.invokevirtual 264, 3) := by decide +kernel
theorem dX8_isBalanced_36 : decode cX8_isBalanced 36 = .ok (.ifCond .eq 28, 3) := by decide +kernel
theorem dX8_isBalanced_39 : decode cX8_isBalanced 39 = .ok (.aload_n 0, 1) := by decide +kernel
theorem dX8_isBalanced_40 : decode cX8_isBalanced 40 = .ok (.invokevirtual 267, 3) := by decide +kernel
theorem dX8_isBalanced_43 : decode cX8_isBalanced 43 = .ok (.ifCond .eq 21, 3) := by decide +kernel
theorem dX8_isBalanced_46 : decode cX8_isBalanced 46 = .ok (.aload_n 0, 1) := by decide +kernel
theorem dX8_isBalanced_47 : decode cX8_isBalanced 47 = .ok (.invokevirtual 270, 3) := by decide +kernel
theorem dX8_isBalanced_50 : decode cX8_isBalanced 50 = .ok (.aload_n 0, 1) := by decide +kernel
theorem dX8_isBalanced_51 : decode cX8_isBalanced 51 = .ok (.getfield 10, 3) := by decide +kernel
theorem dX8_isBalanced_54 : decode cX8_isBalanced 54 = .ok (.invokevirtual 87, 3) := by decide +kernel
theorem dX8_isBalanced_57 : decode cX8_isBalanced 57 = .ok (.if_icmp .ne 7, 3) := by decide +kernel
theorem dX8_isBalanced_60 : decode cX8_isBalanced 60 = .ok (.iconst 1, 1) := by decide +kernel
theorem dX8_isBalanced_61 : decode cX8_isBalanced 61 = .ok (.goto 4, 3) := by decide +kernel
theorem dX8_isBalanced_64 : decode cX8_isBalanced 64 = .ok (.iconst 0, 1) := by decide +kernel
theorem dX8_isBalanced_65 : decode cX8_isBalanced 65 = .ok (.istore_n 1, 1) := by decide +kernel
theorem dX8_isBalanced_66 : decode cX8_isBalanced 66 = .ok (.iload_n 1, 1) := by decide +kernel
theorem dX8_isBalanced_67 : decode cX8_isBalanced 67 = .ok (.ifCond .eq 7, 3) := by decide +kernel
theorem dX8_isBalanced_70 : decode cX8_isBalanced 70 = .ok (.iconst 1, 1) := by decide +kernel
theorem dX8_isBalanced_71 : decode cX8_isBalanced 71 = .ok (.goto 4, 3) := by decide +kernel
theorem dX8_isBalanced_74 : decode cX8_isBalanced 74 = .ok (.iconst 0, 1) := by decide +kernel
theorem dX8_isBalanced_75 : decode cX8_isBalanced 75 = .ok (.ireturn, 1) := by decide +kernel
theorem dX8_undo_0 : decode cX8_undo 0 = .ok (.aload_n 0, 1) := by decide +kernel
theorem dX8_undo_1 : decode cX8_undo 1 = .ok (.getfield 25, 3) := by decide +kernel
theorem dX8_undo_4 : decode cX8_undo 4 = .ok (.aload_n 0, 1) := by decide +kernel
theorem dX8_undo_5 : decode cX8_undo 5 = .ok (.getfield 10, 3) := by decide +kernel
theorem dX8_undo_8 : decode cX8_undo 8 = .ok (.invokevirtual 276, 3) := by decide +kernel
theorem dX8_undo_11 : decode cX8_undo 11 = .ok (.ifCond .ne 6, 3) := by decide +kernel
theorem dX8_undo_14 : decode cX8_undo 14 = .ok (.bipush (-15), 2) := by decide +kernel
theorem dX8_undo_16 : decode cX8_undo 16 = .ok (.ireturn, 1) := by decide +kernel
theorem dX8_undo_17 : decode cX8_undo 17 = .ok (.aload_n 0, 1) := by decide +kernel
theorem dX8_undo_18 : decode cX8_undo 18 = .ok (.invokevirtual 95, 3) := by decide +kernel
theorem dX8_undo_21 : decode cX8_undo 21 = .ok (.aload_n 0, 1) := by decide +kernel
theorem dX8_undo_22 : decode cX8_undo 22 = .ok (.getfield 25, 3) := by decide +kernel
theorem dX8_undo_25 : decode cX8_undo 25 = .ok (.invokevirtual 260, 3) := by decide +kernel
theorem dX8_undo_28 : decode cX8_undo 28 = .ok (.ireturn, 1) := by decide +kernel
theorem dX8_save_0 : decode cX8_save 0 = .ok (.aload_n 0, 1) := by decide +kernel
theorem dX8_save_1 : decode cX8_save 1 = .ok (.getfield 19, 3) := by decide +kernel
theorem dX8_save_4 : decode cX8_save 4 = .ok (.aload_n 0, 1) := by decide +kernel
theorem dX8_save_5 : decode cX8_save 5 = .ok (.getfield 10, 3) := by decide +kernel
theorem dX8_save_8 : decode cX8_save 8 = .ok (.invokevirtual 221, 3) := by decide +kernel
theorem dX8_save_11 : decode cX8_save 11 = .ok (.aload_n 0, 1) := by decide +kernel
theorem dX8_save_12 : decode cX8_save 12 = .ok (.iconst 1, 1) := by decide +kernel
theorem dX8_save_13 : decode cX8_save 13 = .ok (.putfield 280, 3) := by decide +kernel
theorem dX8_save_16 : decode cX8_save 16 = .ok (.aload_n 0, 1) := by decide +kernel
theorem dX8_save_17 : decode cX8_save 17 = .ok (.getfield 10, 3) := by decide +kernel
theorem dX8_save_20 : decode cX8_save 20 = .ok (.invokevirtual 87, 3) := by decide +kernel
theorem dX8_save_23 : decode cX8_save 23 = .ok (.ireturn, 1) := by decide +kernel
theorem dX8_restore_0 : decode cX8_restore 0 = .ok (.aload_n 0, 1) := by decide +kernel
theorem dX8_restore_1 : decode cX8_restore 1 = .ok (.getfield 280, 3) := by decide +kernel
theorem dX8_restore_4 : decode cX8_restore 4 = .ok (.ifCond .ne 6, 3) := by decide +kernel
theorem dX8_restore_7 : decode cX8_restore 7 = .ok (.bipush (-15), 2) := by decide +kernel
theorem dX8_restore_9 : decode cX8_restore 9 = .ok (.ireturn, 1) := by decide +kernel
theorem dX8_restore_10 : decode cX8_restore 10 = .ok (.aload_n 0, 1) := by decide +kernel
theorem dX8_restore_11 : decode cX8_restore 11 = .ok (.getfield 10, 3) := by decide +kernel
theorem dX8_restore_14 : decode cX8_restore 14 = .ok (.aload_n 0, 1) := by decide +kernel
theorem dX8_restore_15 : decode cX8_restore 15 = .ok (.getfield 19, 3) := by decide +kernel
theorem dX8_restore_18 : decode cX8_restore 18 = .ok (.invokevirtual 221, 3) := by decide +kernel
theorem dX8_restore_21 : decode cX8_restore 21 = .ok (.aload_n 0, 1) := by decide +kernel
theorem dX8_restore_22 : decode cX8_restore 22 = .ok (.getfield 25, 3) := by decide +kernel
theorem dX8_restore_25 : decode cX8_restore 25 = .ok (.invokevirtual 284, 3) := by decide +kernel
theorem dX8_restore_28 : decode cX8_restore 28 = .ok (.aload_n 0, 1) := by decide +kernel
theorem dX8_restore_29 : decode cX8_restore 29 = .ok (.invokevirtual 95, 3) := by decide +kernel
theorem dX8_restore_32 : decode cX8_restore 32 = .ok (.aload_n 0, 1) := by decide +kernel
theorem dX8_restore_33 : decode cX8_restore 33 = .ok (.getfield 10, 3) := by decide +kernel
theorem dX8_restore_36 : decode cX8_restore 36 = .ok (.invokevirtual 87, 3) := by decide +kernel
theorem dX8_restore_39 : decode cX8_restore 39 = .ok (.ireturn, 1) := by decide +kernel
theorem dX8_isWeight_0 : decode cX8_isWeight 0 = .ok (.iload_n 0, 1) := by decide +kernel
theorem dX8_isWeight_1 : decode cX8_isWeight 1 = .ok (.ifCond .lt 13, 3) := by decide +kernel
theorem dX8_isWeight_4 : decode cX8_isWeight 4 = .ok (.iload_n 0, 1) := by decide +kernel
theorem dX8_isWeight_5 : decode cX8_isWeight 5 = .ok (.bipush 32, 2) := by decide +kernel
theorem dX8_isWeight_7 : decode cX8_isWeight 7 = .ok (.if_icmp .ge 7, 3) := by decide +kernel
theorem dX8_isWeight_10 : decode cX8_isWeight 10 = .ok (.iconst 1, 1) := by decide +kernel
theorem dX8_isWeight_11 : decode cX8_isWeight 11 = .ok (.goto 4, 3) := by decide +kernel
theorem dX8_isWeight_14 : decode cX8_isWeight 14 = .ok (.iconst 0, 1) := by decide +kernel
theorem dX8_isWeight_15 : decode cX8_isWeight 15 = .ok (.ireturn, 1) := by decide +kernel
theorem dX8_isRow_0 : decode cX8_isRow 0 = .ok (.iload_n 0, 1) := by decide +kernel
theorem dX8_isRow_1 : decode cX8_isRow 1 = .ok (.ifCond .lt 12, 3) := by decide +kernel
theorem dX8_isRow_4 : decode cX8_isRow 4 = .ok (.iload_n 0, 1) := by decide +kernel
theorem dX8_isRow_5 : decode cX8_isRow 5 = .ok (.iconst 5, 1) := by decide +kernel
theorem dX8_isRow_6 : decode cX8_isRow 6 = .ok (.if_icmp .ge 7, 3) := by decide +kernel
theorem dX8_isRow_9 : decode cX8_isRow 9 = .ok (.iconst 1, 1) := by decide +kernel
theorem dX8_isRow_10 : decode cX8_isRow 10 = .ok (.goto 4, 3) := by decide +kernel
theorem dX8_isRow_13 : decode cX8_isRow 13 = .ok (.iconst 0, 1) := by decide +kernel
theorem dX8_isRow_14 : decode cX8_isRow 14 = .ok (.ireturn, 1) := by decide +kernel
theorem dX8_isMarkPlace_0 : decode cX8_isMarkPlace 0 = .ok (.iload_n 0, 1) := by decide +kernel
theorem dX8_isMarkPlace_1 : decode cX8_isMarkPlace 1 = .ok (.iconst 1, 1) := by decide +kernel
theorem dX8_isMarkPlace_2 : decode cX8_isMarkPlace 2 = .ok (.if_icmp .lt 13, 3) := by decide +kernel
theorem dX8_isMarkPlace_5 : decode cX8_isMarkPlace 5 = .ok (.iload_n 0, 1) := by decide +kernel
theorem dX8_isMarkPlace_6 : decode cX8_isMarkPlace 6 = .ok (.bipush 64, 2) := by decide +kernel
theorem dX8_isMarkPlace_8 : decode cX8_isMarkPlace 8 = .ok (.if_icmp .ge 7, 3) := by decide +kernel
theorem dX8_isMarkPlace_11 : decode cX8_isMarkPlace 11 = .ok (.iconst 1, 1) := by decide +kernel
theorem dX8_isMarkPlace_12 : decode cX8_isMarkPlace 12 = .ok (.goto 4, 3) := by decide +kernel
theorem dX8_isMarkPlace_15 : decode cX8_isMarkPlace 15 = .ok (.iconst 0, 1) := by decide +kernel
theorem dX8_isMarkPlace_16 : decode cX8_isMarkPlace 16 = .ok (.ireturn, 1) := by decide +kernel
theorem dX8_hasBit_0 : decode cX8_hasBit 0 = .ok (.iload_n 0, 1) := by decide +kernel
theorem dX8_hasBit_1 : decode cX8_hasBit 1 = .ok (.iconst 4, 1) := by decide +kernel
theorem dX8_hasBit_2 : decode cX8_hasBit 2 = .ok (.iload_n 1, 1) := by decide +kernel
theorem dX8_hasBit_3 : decode cX8_hasBit 3 = .ok (.isub, 1) := by decide +kernel
theorem dX8_hasBit_4 : decode cX8_hasBit 4 = .ok (.ishr, 1) := by decide +kernel
theorem dX8_hasBit_5 : decode cX8_hasBit 5 = .ok (.iconst 1, 1) := by decide +kernel
theorem dX8_hasBit_6 : decode cX8_hasBit 6 = .ok (.iand, 1) := by decide +kernel
theorem dX8_hasBit_7 : decode cX8_hasBit 7 = .ok (.iconst 1, 1) := by decide +kernel
theorem dX8_hasBit_8 : decode cX8_hasBit 8 = .ok (.if_icmp .ne 7, 3) := by decide +kernel
theorem dX8_hasBit_11 : decode cX8_hasBit 11 = .ok (.iconst 1, 1) := by decide +kernel
theorem dX8_hasBit_12 : decode cX8_hasBit 12 = .ok (.goto 4, 3) := by decide +kernel
theorem dX8_hasBit_15 : decode cX8_hasBit 15 = .ok (.iconst 0, 1) := by decide +kernel
theorem dX8_hasBit_16 : decode cX8_hasBit 16 = .ok (.ireturn, 1) := by decide +kernel
theorem dX8_isEdge_0 : decode cX8_isEdge 0 = .ok (.iload_n 1, 1) := by decide +kernel
theorem dX8_isEdge_1 : decode cX8_isEdge 1 = .ok (.ifCond .lt 18, 3) := by decide +kernel
theorem dX8_isEdge_4 : decode cX8_isEdge 4 = .ok (.iload_n 1, 1) := by decide +kernel
theorem dX8_isEdge_5 : decode cX8_isEdge 5 = .ok (.aload_n 0, 1) := by decide +kernel
theorem dX8_isEdge_6 : decode cX8_isEdge 6 = .ok (.getfield 10, 3) := by decide +kernel
theorem dX8_isEdge_9 : decode cX8_isEdge 9 = .ok (.invokevirtual 87, 3) := by decide +kernel
theorem dX8_isEdge_12 : decode cX8_isEdge 12 = .ok (.if_icmp .gt 7, 3) := by decide +kernel
theorem dX8_isEdge_15 : decode cX8_isEdge 15 = .ok (.iconst 1, 1) := by decide +kernel
theorem dX8_isEdge_16 : decode cX8_isEdge 16 = .ok (.goto 4, 3) := by decide +kernel
theorem dX8_isEdge_19 : decode cX8_isEdge 19 = .ok (.iconst 0, 1) := by decide +kernel
theorem dX8_isEdge_20 : decode cX8_isEdge 20 = .ok (.ireturn, 1) := by decide +kernel
theorem dX8_isPart_0 : decode cX8_isPart 0 = .ok (.iload_n 1, 1) := by decide +kernel
theorem dX8_isPart_1 : decode cX8_isPart 1 = .ok (.ifCond .lt 23, 3) := by decide +kernel
theorem dX8_isPart_4 : decode cX8_isPart 4 = .ok (.iload_n 1, 1) := by decide +kernel
theorem dX8_isPart_5 : decode cX8_isPart 5 = .ok (.iload_n 2, 1) := by decide +kernel
theorem dX8_isPart_6 : decode cX8_isPart 6 = .ok (.if_icmp .gt 18, 3) := by decide +kernel
theorem dX8_isPart_9 : decode cX8_isPart 9 = .ok (.iload_n 2, 1) := by decide +kernel
theorem dX8_isPart_10 : decode cX8_isPart 10 = .ok (.aload_n 0, 1) := by decide +kernel
theorem dX8_isPart_11 : decode cX8_isPart 11 = .ok (.getfield 10, 3) := by decide +kernel
theorem dX8_isPart_14 : decode cX8_isPart 14 = .ok (.invokevirtual 87, 3) := by decide +kernel
theorem dX8_isPart_17 : decode cX8_isPart 17 = .ok (.if_icmp .gt 7, 3) := by decide +kernel
theorem dX8_isPart_20 : decode cX8_isPart 20 = .ok (.iconst 1, 1) := by decide +kernel
theorem dX8_isPart_21 : decode cX8_isPart 21 = .ok (.goto 4, 3) := by decide +kernel
theorem dX8_isPart_24 : decode cX8_isPart 24 = .ok (.iconst 0, 1) := by decide +kernel
theorem dX8_isPart_25 : decode cX8_isPart 25 = .ok (.ireturn, 1) := by decide +kernel
theorem dX8_isPlaceOfPart_0 : decode cX8_isPlaceOfPart 0 = .ok (.aload_n 0, 1) := by decide +kernel
theorem dX8_isPlaceOfPart_1 : decode cX8_isPlaceOfPart 1 = .ok (.iload_n 1, 1) := by decide +kernel
theorem dX8_isPlaceOfPart_2 : decode cX8_isPlaceOfPart 2 = .ok (.iload_n 2, 1) := by decide +kernel
theorem dX8_isPlaceOfPart_3 : decode cX8_isPlaceOfPart 3 = .ok (.invokevirtual 169, 3) := by decide +kernel
theorem dX8_isPlaceOfPart_6 : decode cX8_isPlaceOfPart 6 = .ok (.ifCond .eq 18, 3) := by decide +kernel
theorem dX8_isPlaceOfPart_9 : decode cX8_isPlaceOfPart 9 = .ok (.iload_n 3, 1) := by decide +kernel
theorem dX8_isPlaceOfPart_10 : decode cX8_isPlaceOfPart 10 = .ok (.ifCond .lt 14, 3) := by decide +kernel
theorem dX8_isPlaceOfPart_13 : decode cX8_isPlaceOfPart 13 = .ok (.iload_n 3, 1) := by decide +kernel
theorem dX8_isPlaceOfPart_14 : decode cX8_isPlaceOfPart 14 = .ok (.iload_n 2, 1) := by decide +kernel
theorem dX8_isPlaceOfPart_15 : decode cX8_isPlaceOfPart 15 = .ok (.iload_n 1, 1) := by decide +kernel
theorem dX8_isPlaceOfPart_16 : decode cX8_isPlaceOfPart 16 = .ok (.isub, 1) := by decide +kernel
theorem dX8_isPlaceOfPart_17 : decode cX8_isPlaceOfPart 17 = .ok (.if_icmp .ge 7, 3) := by decide +kernel
theorem dX8_isPlaceOfPart_20 : decode cX8_isPlaceOfPart 20 = .ok (.iconst 1, 1) := by decide +kernel
theorem dX8_isPlaceOfPart_21 : decode cX8_isPlaceOfPart 21 = .ok (.goto 4, 3) := by decide +kernel
theorem dX8_isPlaceOfPart_24 : decode cX8_isPlaceOfPart 24 = .ok (.iconst 0, 1) := by decide +kernel
theorem dX8_isPlaceOfPart_25 : decode cX8_isPlaceOfPart 25 = .ok (.ireturn, 1) := by decide +kernel
theorem dX8_refuse_0 : decode cX8_refuse 0 = .ok (.aload_n 0, 1) := by decide +kernel
theorem dX8_refuse_1 : decode cX8_refuse 1 = .ok (.iload_n 1, 1) := by decide +kernel
theorem dX8_refuse_2 : decode cX8_refuse 2 = .ok (.putfield 238, 3) := by decide +kernel
theorem dX8_refuse_5 : decode cX8_refuse 5 = .ok (.aload_n 0, 1) := by decide +kernel
theorem dX8_refuse_6 : decode cX8_refuse 6 = .ok (.iload_n 2, 1) := by decide +kernel
theorem dX8_refuse_7 : decode cX8_refuse 7 = .ok (.putfield 242, 3) := by decide +kernel
theorem dX8_refuse_10 : decode cX8_refuse 10 = .ok (.bipush (-14), 2) := by decide +kernel
theorem dX8_refuse_12 : decode cX8_refuse 12 = .ok (.ireturn, 1) := by decide +kernel
theorem dX8_follow_0 : decode cX8_follow 0 = .ok (.aload_n 0, 1) := by decide +kernel
theorem dX8_follow_1 : decode cX8_follow 1 = .ok (.getfield 32, 3) := by decide +kernel
theorem dX8_follow_4 : decode cX8_follow 4 = .ok (.aload_n 0, 1) := by decide +kernel
theorem dX8_follow_5 : decode cX8_follow 5 = .ok (.getfield 10, 3) := by decide +kernel
theorem dX8_follow_8 : decode cX8_follow 8 = .ok (.invokevirtual 287, 3) := by decide +kernel
theorem dX8_follow_11 : decode cX8_follow 11 = .ok (.aload_n 0, 1) := by decide +kernel
theorem dX8_follow_12 : decode cX8_follow 12 = .ok (.getfield 39, 3) := by decide +kernel
theorem dX8_follow_15 : decode cX8_follow 15 = .ok (.aload_n 0, 1) := by decide +kernel
theorem dX8_follow_16 : decode cX8_follow 16 = .ok (.getfield 10, 3) := by decide +kernel
theorem dX8_follow_19 : decode cX8_follow 19 = .ok (.invokevirtual 289, 3) := by decide +kernel
theorem dX8_follow_22 : decode cX8_follow 22 = .ok (.return_, 1) := by decide +kernel
theorem dX8_tryOrders_0 : decode cX8_tryOrders 0 = .ok (.aload_n 0, 1) := by decide +kernel
theorem dX8_tryOrders_1 : decode cX8_tryOrders 1 = .ok (.getfield 16, 3) := by decide +kernel
theorem dX8_tryOrders_4 : decode cX8_tryOrders 4 = .ok (.aload_n 0, 1) := by decide +kernel
theorem dX8_tryOrders_5 : decode cX8_tryOrders 5 = .ok (.getfield 10, 3) := by decide +kernel
theorem dX8_tryOrders_8 : decode cX8_tryOrders 8 = .ok (.invokevirtual 221, 3) := by decide +kernel
theorem dX8_tryOrders_11 : decode cX8_tryOrders 11 = .ok (.iconst 0, 1) := by decide +kernel
theorem dX8_tryOrders_12 : decode cX8_tryOrders 12 = .ok (.istore_n 1, 1) := by decide +kernel
theorem dX8_tryOrders_13 : decode cX8_tryOrders 13 = .ok (.iload_n 1, 1) := by decide +kernel
theorem dX8_tryOrders_14 : decode cX8_tryOrders 14 = .ok (.aload_n 0, 1) := by decide +kernel
theorem dX8_tryOrders_15 : decode cX8_tryOrders 15 = .ok (.getfield 60, 3) := by decide +kernel
theorem dX8_tryOrders_18 : decode cX8_tryOrders 18 = .ok (.invokevirtual 224, 3) := by decide +kernel
theorem dX8_tryOrders_21 : decode cX8_tryOrders 21 = .ok (.if_icmp .ge 45, 3) := by decide +kernel
theorem dX8_tryOrders_24 : decode cX8_tryOrders 24 = .ok (.aload_n 0, 1) := by decide +kernel
theorem dX8_tryOrders_25 : decode cX8_tryOrders 25 = .ok (.getfield 16, 3) := by decide +kernel
theorem dX8_tryOrders_28 : decode cX8_tryOrders 28 = .ok (.aload_n 0, 1) := by decide +kernel
theorem dX8_tryOrders_29 : decode cX8_tryOrders 29 = .ok (.getfield 60, 3) := by decide +kernel
theorem dX8_tryOrders_32 : decode cX8_tryOrders 32 = .ok (.iload_n 1, 1) := by decide +kernel
theorem dX8_tryOrders_33 : decode cX8_tryOrders 33 = .ok (.invokevirtual 290, 3) := by decide +kernel
theorem dX8_tryOrders_36 : decode cX8_tryOrders 36 = .ok (.aload_n 0, 1) := by decide +kernel
theorem dX8_tryOrders_37 : decode cX8_tryOrders 37 = .ok (.getfield 60, 3) := by decide +kernel
theorem dX8_tryOrders_40 : decode cX8_tryOrders 40 = .ok (.iload_n 1, 1) := by decide +kernel
theorem dX8_tryOrders_41 : decode cX8_tryOrders 41 = .ok (.invokevirtual 293, 3) := by decide +kernel
theorem dX8_tryOrders_44 : decode cX8_tryOrders 44 = .ok (.aload_n 0, 1) := by decide +kernel
theorem dX8_tryOrders_45 : decode cX8_tryOrders 45 = .ok (.getfield 60, 3) := by decide +kernel
theorem dX8_tryOrders_48 : decode cX8_tryOrders 48 = .ok (.iload_n 1, 1) := by decide +kernel
theorem dX8_tryOrders_49 : decode cX8_tryOrders 49 = .ok (.invokevirtual 296, 3) := by decide +kernel
theorem dX8_tryOrders_52 : decode cX8_tryOrders 52 = .ok (.invokevirtual 299, 3) := by decide +kernel
theorem dX8_tryOrders_55 : decode cX8_tryOrders 55 = .ok (.ifCond .ne 5, 3) := by decide +kernel
theorem dX8_tryOrders_58 : decode cX8_tryOrders 58 = .ok (.iload_n 1, 1) := by decide +kernel
theorem dX8_tryOrders_59 : decode cX8_tryOrders 59 = .ok (.ireturn, 1) := by decide +kernel
theorem dX8_tryOrders_60 : decode cX8_tryOrders 60 = .ok (.iinc 1 1, 3) := by decide +kernel
theorem dX8_tryOrders_63 : decode cX8_tryOrders 63 = .ok (.goto (-50), 3) := by decide +kernel
theorem dX8_tryOrders_66 : decode cX8_tryOrders 66 = .ok (.iconst (-1), 1) := by decide +kernel
theorem dX8_tryOrders_67 : decode cX8_tryOrders 67 = .ok (.ireturn, 1) := by decide +kernel
theorem dX8_areWeightsAlike_0 : decode cX8_areWeightsAlike 0 = .ok (.iconst 0, 1) := by decide +kernel
theorem dX8_areWeightsAlike_1 : decode cX8_areWeightsAlike 1 = .ok (.istore_n 1, 1) := by decide +kernel
theorem dX8_areWeightsAlike_2 : decode cX8_areWeightsAlike 2 = .ok (.iload_n 1, 1) := by decide +kernel
theorem dX8_areWeightsAlike_3 : decode cX8_areWeightsAlike 3 = .ok (.aload_n 0, 1) := by decide +kernel
theorem dX8_areWeightsAlike_4 : decode cX8_areWeightsAlike 4 = .ok (.getfield 10, 3) := by decide +kernel
theorem dX8_areWeightsAlike_7 : decode cX8_areWeightsAlike 7 = .ok (.invokevirtual 87, 3) := by decide +kernel
theorem dX8_areWeightsAlike_10 : decode cX8_areWeightsAlike 10 = .ok (.if_icmp .ge 30, 3) := by decide +kernel
theorem dX8_areWeightsAlike_13 : decode cX8_areWeightsAlike 13 = .ok (.aload_n 0, 1) := by decide +kernel
theorem dX8_areWeightsAlike_14 : decode cX8_areWeightsAlike 14 = .ok (.getfield 10, 3) := by decide +kernel
theorem dX8_areWeightsAlike_17 : decode cX8_areWeightsAlike 17 = .ok (.iload_n 1, 1) := by decide +kernel
theorem dX8_areWeightsAlike_18 : decode cX8_areWeightsAlike 18 = .ok (.invokevirtual 101, 3) := by decide +kernel
theorem dX8_areWeightsAlike_21 : decode cX8_areWeightsAlike 21 = .ok (.aload_n 0, 1) := by decide +kernel
theorem dX8_areWeightsAlike_22 : decode cX8_areWeightsAlike 22 = .ok (.getfield 32, 3) := by decide +kernel
theorem dX8_areWeightsAlike_25 : decode cX8_areWeightsAlike 25 = .ok (.iload_n 1, 1) := by decide +kernel
theorem dX8_areWeightsAlike_26 : decode cX8_areWeightsAlike 26 = .ok (.invokevirtual 127, 3) := by decide +kernel
theorem dX8_areWeightsAlike_29 : decode cX8_areWeightsAlike 29 = .ok (.if_icmp .eq 5, 3) := by decide +kernel
theorem dX8_areWeightsAlike_32 : decode cX8_areWeightsAlike 32 = .ok (.iconst 0, 1) := by decide +kernel
theorem dX8_areWeightsAlike_33 : decode cX8_areWeightsAlike 33 = .ok (.ireturn, 1) := by decide +kernel
theorem dX8_areWeightsAlike_34 : decode cX8_areWeightsAlike 34 = .ok (.iinc 1 1, 3) := by decide +kernel
theorem dX8_areWeightsAlike_37 : decode cX8_areWeightsAlike 37 = .ok (.goto (-35), 3) := by decide +kernel
theorem dX8_areWeightsAlike_40 : decode cX8_areWeightsAlike 40 = .ok (.iconst 1, 1) := by decide +kernel
theorem dX8_areWeightsAlike_41 : decode cX8_areWeightsAlike 41 = .ok (.ireturn, 1) := by decide +kernel
theorem dX8_areCountsAlike_0 : decode cX8_areCountsAlike 0 = .ok (.iconst 0, 1) := by decide +kernel
theorem dX8_areCountsAlike_1 : decode cX8_areCountsAlike 1 = .ok (.istore_n 1, 1) := by decide +kernel
theorem dX8_areCountsAlike_2 : decode cX8_areCountsAlike 2 = .ok (.iload_n 1, 1) := by decide +kernel
theorem dX8_areCountsAlike_3 : decode cX8_areCountsAlike 3 = .ok (.iconst 5, 1) := by decide +kernel
theorem dX8_areCountsAlike_4 : decode cX8_areCountsAlike 4 = .ok (.if_icmp .ge 76, 3) := by decide +kernel
theorem dX8_areCountsAlike_7 : decode cX8_areCountsAlike 7 = .ok (.iconst 0, 1) := by decide +kernel
theorem dX8_areCountsAlike_8 : decode cX8_areCountsAlike 8 = .ok (.istore_n 2, 1) := by decide +kernel
theorem dX8_areCountsAlike_9 : decode cX8_areCountsAlike 9 = .ok (.iload_n 2, 1) := by decide +kernel
theorem dX8_areCountsAlike_10 : decode cX8_areCountsAlike 10 = .ok (.aload_n 0, 1) := by decide +kernel
theorem dX8_areCountsAlike_11 : decode cX8_areCountsAlike 11 = .ok (.getfield 10, 3) := by decide +kernel
theorem dX8_areCountsAlike_14 : decode cX8_areCountsAlike 14 = .ok (.invokevirtual 87, 3) := by decide +kernel
theorem dX8_areCountsAlike_17 : decode cX8_areCountsAlike 17 = .ok (.if_icmp .gt 57, 3) := by decide +kernel
theorem dX8_areCountsAlike_20 : decode cX8_areCountsAlike 20 = .ok (.aload_n 0, 1) := by decide +kernel
theorem dX8_areCountsAlike_21 : decode cX8_areCountsAlike 21 = .ok (.getfield 32, 3) := by decide +kernel
theorem dX8_areCountsAlike_24 : decode cX8_areCountsAlike 24 = .ok (.iload_n 1, 1) := by decide +kernel
theorem dX8_areCountsAlike_25 : decode cX8_areCountsAlike 25 = .ok (.iconst 1, 1) := by decide +kernel
theorem dX8_areCountsAlike_26 : decode cX8_areCountsAlike 26 = .ok (.iload_n 2, 1) := by decide +kernel
theorem dX8_areCountsAlike_27 : decode cX8_areCountsAlike 27 = .ok (.invokevirtual 143, 3) := by decide +kernel
theorem dX8_areCountsAlike_30 : decode cX8_areCountsAlike 30 = .ok (.aload_n 0, 1) := by decide +kernel
theorem dX8_areCountsAlike_31 : decode cX8_areCountsAlike 31 = .ok (.getfield 32, 3) := by decide +kernel
theorem dX8_areCountsAlike_34 : decode cX8_areCountsAlike 34 = .ok (.iload_n 1, 1) := by decide +kernel
theorem dX8_areCountsAlike_35 : decode cX8_areCountsAlike 35 = .ok (.iconst 1, 1) := by decide +kernel
theorem dX8_areCountsAlike_36 : decode cX8_areCountsAlike 36 = .ok (.iload_n 2, 1) := by decide +kernel
theorem dX8_areCountsAlike_37 : decode cX8_areCountsAlike 37 = .ok (.invokevirtual 147, 3) := by decide +kernel
theorem dX8_areCountsAlike_40 : decode cX8_areCountsAlike 40 = .ok (.if_icmp .ne 26, 3) := by decide +kernel
theorem dX8_areCountsAlike_43 : decode cX8_areCountsAlike 43 = .ok (.aload_n 0, 1) := by decide +kernel
theorem dX8_areCountsAlike_44 : decode cX8_areCountsAlike 44 = .ok (.getfield 32, 3) := by decide +kernel
theorem dX8_areCountsAlike_47 : decode cX8_areCountsAlike 47 = .ok (.iload_n 1, 1) := by decide +kernel
theorem dX8_areCountsAlike_48 : decode cX8_areCountsAlike 48 = .ok (.iconst 0, 1) := by decide +kernel
theorem dX8_areCountsAlike_49 : decode cX8_areCountsAlike 49 = .ok (.iload_n 2, 1) := by decide +kernel
theorem dX8_areCountsAlike_50 : decode cX8_areCountsAlike 50 = .ok (.invokevirtual 143, 3) := by decide +kernel
theorem dX8_areCountsAlike_53 : decode cX8_areCountsAlike 53 = .ok (.aload_n 0, 1) := by decide +kernel
theorem dX8_areCountsAlike_54 : decode cX8_areCountsAlike 54 = .ok (.getfield 32, 3) := by decide +kernel
theorem dX8_areCountsAlike_57 : decode cX8_areCountsAlike 57 = .ok (.iload_n 1, 1) := by decide +kernel
theorem dX8_areCountsAlike_58 : decode cX8_areCountsAlike 58 = .ok (.iconst 0, 1) := by decide +kernel
theorem dX8_areCountsAlike_59 : decode cX8_areCountsAlike 59 = .ok (.iload_n 2, 1) := by decide +kernel
theorem dX8_areCountsAlike_60 : decode cX8_areCountsAlike 60 = .ok (.invokevirtual 147, 3) := by decide +kernel
theorem dX8_areCountsAlike_63 : decode cX8_areCountsAlike 63 = .ok (.if_icmp .eq 5, 3) := by decide +kernel
theorem dX8_areCountsAlike_66 : decode cX8_areCountsAlike 66 = .ok (.iconst 0, 1) := by decide +kernel
theorem dX8_areCountsAlike_67 : decode cX8_areCountsAlike 67 = .ok (.ireturn, 1) := by decide +kernel
theorem dX8_areCountsAlike_68 : decode cX8_areCountsAlike 68 = .ok (.iinc 2 8, 3) := by decide +kernel
theorem dX8_areCountsAlike_71 : decode cX8_areCountsAlike 71 = .ok (.goto (-62), 3) := by decide +kernel
theorem dX8_areCountsAlike_74 : decode cX8_areCountsAlike 74 = .ok (.iinc 1 1, 3) := by decide +kernel
theorem dX8_areCountsAlike_77 : decode cX8_areCountsAlike 77 = .ok (.goto (-75), 3) := by decide +kernel
theorem dX8_areCountsAlike_80 : decode cX8_areCountsAlike 80 = .ok (.iconst 1, 1) := by decide +kernel
theorem dX8_areCountsAlike_81 : decode cX8_areCountsAlike 81 = .ok (.ireturn, 1) := by decide +kernel
theorem dX8_areSizesAlike_0 : decode cX8_areSizesAlike 0 = .ok (.aload_n 0, 1) := by decide +kernel
theorem dX8_areSizesAlike_1 : decode cX8_areSizesAlike 1 = .ok (.getfield 10, 3) := by decide +kernel
theorem dX8_areSizesAlike_4 : decode cX8_areSizesAlike 4 = .ok (.invokevirtual 87, 3) := by decide +kernel
theorem dX8_areSizesAlike_7 : decode cX8_areSizesAlike 7 = .ok (.istore_n 1, 1) := by decide +kernel
theorem dX8_areSizesAlike_8 : decode cX8_areSizesAlike 8 = .ok (.aload_n 0, 1) := by decide +kernel
theorem dX8_areSizesAlike_9 : decode cX8_areSizesAlike 9 = .ok (.getfield 53, 3) := by decide +kernel
theorem dX8_areSizesAlike_12 : decode cX8_areSizesAlike 12 = .ok (.aload_n 0, 1) := by decide +kernel
theorem dX8_areSizesAlike_13 : decode cX8_areSizesAlike 13 = .ok (.getfield 10, 3) := by decide +kernel
theorem dX8_areSizesAlike_16 : decode cX8_areSizesAlike 16 = .ok (.iconst 0, 1) := by decide +kernel
theorem dX8_areSizesAlike_17 : decode cX8_areSizesAlike 17 = .ok (.iload_n 1, 1) := by decide +kernel
theorem dX8_areSizesAlike_18 : decode cX8_areSizesAlike 18 = .ok (.invokevirtual 164, 3) := by decide +kernel
theorem dX8_areSizesAlike_21 : decode cX8_areSizesAlike 21 = .ok (.iconst 0, 1) := by decide +kernel
theorem dX8_areSizesAlike_22 : decode cX8_areSizesAlike 22 = .ok (.istore_n 2, 1) := by decide +kernel
theorem dX8_areSizesAlike_23 : decode cX8_areSizesAlike 23 = .ok (.iload_n 2, 1) := by decide +kernel
theorem dX8_areSizesAlike_24 : decode cX8_areSizesAlike 24 = .ok (.iload_n 1, 1) := by decide +kernel
theorem dX8_areSizesAlike_25 : decode cX8_areSizesAlike 25 = .ok (.if_icmp .ge 32, 3) := by decide +kernel
theorem dX8_areSizesAlike_28 : decode cX8_areSizesAlike 28 = .ok (.aload_n 0, 1) := by decide +kernel
theorem dX8_areSizesAlike_29 : decode cX8_areSizesAlike 29 = .ok (.getfield 53, 3) := by decide +kernel
theorem dX8_areSizesAlike_32 : decode cX8_areSizesAlike 32 = .ok (.iload_n 2, 1) := by decide +kernel
theorem dX8_areSizesAlike_33 : decode cX8_areSizesAlike 33 = .ok (.invokevirtual 168, 3) := by decide +kernel
theorem dX8_areSizesAlike_36 : decode cX8_areSizesAlike 36 = .ok (.aload_n 0, 1) := by decide +kernel
theorem dX8_areSizesAlike_37 : decode cX8_areSizesAlike 37 = .ok (.getfield 32, 3) := by decide +kernel
theorem dX8_areSizesAlike_40 : decode cX8_areSizesAlike 40 = .ok (.iconst 0, 1) := by decide +kernel
theorem dX8_areSizesAlike_41 : decode cX8_areSizesAlike 41 = .ok (.iload_n 1, 1) := by decide +kernel
theorem dX8_areSizesAlike_42 : decode cX8_areSizesAlike 42 = .ok (.iload_n 2, 1) := by decide +kernel
theorem dX8_areSizesAlike_43 : decode cX8_areSizesAlike 43 = .ok (.invokevirtual 160, 3) := by decide +kernel
theorem dX8_areSizesAlike_46 : decode cX8_areSizesAlike 46 = .ok (.if_icmp .eq 5, 3) := by decide +kernel
theorem dX8_areSizesAlike_49 : decode cX8_areSizesAlike 49 = .ok (.iconst 0, 1) := by decide +kernel
theorem dX8_areSizesAlike_50 : decode cX8_areSizesAlike 50 = .ok (.ireturn, 1) := by decide +kernel
theorem dX8_areSizesAlike_51 : decode cX8_areSizesAlike 51 = .ok (.iinc 2 1, 3) := by decide +kernel
theorem dX8_areSizesAlike_54 : decode cX8_areSizesAlike 54 = .ok (.goto (-31), 3) := by decide +kernel
theorem dX8_areSizesAlike_57 : decode cX8_areSizesAlike 57 = .ok (.iconst 1, 1) := by decide +kernel
theorem dX8_areSizesAlike_58 : decode cX8_areSizesAlike 58 = .ok (.ireturn, 1) := by decide +kernel
theorem dX8_lettersOfBags_0 : decode cX8_lettersOfBags 0 = .ok (.iconst 0, 1) := by decide +kernel
theorem dX8_lettersOfBags_1 : decode cX8_lettersOfBags 1 = .ok (.istore_n 1, 1) := by decide +kernel
theorem dX8_lettersOfBags_2 : decode cX8_lettersOfBags 2 = .ok (.iconst 0, 1) := by decide +kernel
theorem dX8_lettersOfBags_3 : decode cX8_lettersOfBags 3 = .ok (.istore_n 2, 1) := by decide +kernel
theorem dX8_lettersOfBags_4 : decode cX8_lettersOfBags 4 = .ok (.iload_n 2, 1) := by decide +kernel
theorem dX8_lettersOfBags_5 : decode cX8_lettersOfBags 5 = .ok (.aload_n 0, 1) := by decide +kernel
theorem dX8_lettersOfBags_6 : decode cX8_lettersOfBags 6 = .ok (.getfield 39, 3) := by decide +kernel
theorem dX8_lettersOfBags_9 : decode cX8_lettersOfBags 9 = .ok (.invokevirtual 185, 3) := by decide +kernel
theorem dX8_lettersOfBags_12 : decode cX8_lettersOfBags 12 = .ok (.if_icmp .ge 29, 3) := by decide +kernel
theorem dX8_lettersOfBags_15 : decode cX8_lettersOfBags 15 = .ok (.iload_n 1, 1) := by decide +kernel
theorem dX8_lettersOfBags_16 : decode cX8_lettersOfBags 16 = .ok (.aload_n 0, 1) := by decide +kernel
theorem dX8_lettersOfBags_17 : decode cX8_lettersOfBags 17 = .ok (.getfield 39, 3) := by decide +kernel
theorem dX8_lettersOfBags_20 : decode cX8_lettersOfBags 20 = .ok (.iload_n 2, 1) := by decide +kernel
theorem dX8_lettersOfBags_21 : decode cX8_lettersOfBags 21 = .ok (.invokevirtual 191, 3) := by decide +kernel
theorem dX8_lettersOfBags_24 : decode cX8_lettersOfBags 24 = .ok (.aload_n 0, 1) := by decide +kernel
theorem dX8_lettersOfBags_25 : decode cX8_lettersOfBags 25 = .ok (.getfield 39, 3) := by decide +kernel
theorem dX8_lettersOfBags_28 : decode cX8_lettersOfBags 28 = .ok (.iload_n 2, 1) := by decide +kernel
theorem dX8_lettersOfBags_29 : decode cX8_lettersOfBags 29 = .ok (.invokevirtual 188, 3) := by decide +kernel
theorem dX8_lettersOfBags_32 : decode cX8_lettersOfBags 32 = .ok (.isub, 1) := by decide +kernel
theorem dX8_lettersOfBags_33 : decode cX8_lettersOfBags 33 = .ok (.iadd, 1) := by decide +kernel
theorem dX8_lettersOfBags_34 : decode cX8_lettersOfBags 34 = .ok (.istore_n 1, 1) := by decide +kernel
theorem dX8_lettersOfBags_35 : decode cX8_lettersOfBags 35 = .ok (.iinc 2 1, 3) := by decide +kernel
theorem dX8_lettersOfBags_38 : decode cX8_lettersOfBags 38 = .ok (.goto (-34), 3) := by decide +kernel
theorem dX8_lettersOfBags_41 : decode cX8_lettersOfBags 41 = .ok (.iload_n 1, 1) := by decide +kernel
theorem dX8_lettersOfBags_42 : decode cX8_lettersOfBags 42 = .ok (.ireturn, 1) := by decide +kernel
theorem dJ13_bitCount_95d88_0 : decode cJ13_bitCount_95d88 0 = .ok (.lload_n 0, 1) := by decide +kernel
theorem dJ13_bitCount_95d88_1 : decode cJ13_bitCount_95d88 1 = .ok (.lload_n 0, 1) := by decide +kernel
theorem dJ13_bitCount_95d88_2 : decode cJ13_bitCount_95d88 2 = .ok (.iconst 1, 1) := by decide +kernel
theorem dJ13_bitCount_95d88_3 : decode cJ13_bitCount_95d88 3 = .ok (.lushr, 1) := by decide +kernel
theorem dJ13_bitCount_95d88_4 : decode cJ13_bitCount_95d88 4 = .ok (.ldc2_w 314, 3) := by decide +kernel
theorem dJ13_bitCount_95d88_7 : decode cJ13_bitCount_95d88 7 = .ok (.land, 1) := by decide +kernel
theorem dJ13_bitCount_95d88_8 : decode cJ13_bitCount_95d88 8 = .ok (.lsub, 1) := by decide +kernel
theorem dJ13_bitCount_95d88_9 : decode cJ13_bitCount_95d88 9 = .ok (.lstore_n 0, 1) := by decide +kernel
theorem dJ13_bitCount_95d88_10 : decode cJ13_bitCount_95d88 10 = .ok (.lload_n 0, 1) := by decide +kernel
theorem dJ13_bitCount_95d88_11 : decode cJ13_bitCount_95d88 11 = .ok (.ldc2_w 316, 3) := by decide +kernel
theorem dJ13_bitCount_95d88_14 : decode cJ13_bitCount_95d88 14 = .ok (.land, 1) := by decide +kernel
theorem dJ13_bitCount_95d88_15 : decode cJ13_bitCount_95d88 15 = .ok (.lload_n 0, 1) := by decide +kernel
theorem dJ13_bitCount_95d88_16 : decode cJ13_bitCount_95d88 16 = .ok (.iconst 2, 1) := by decide +kernel
theorem dJ13_bitCount_95d88_17 : decode cJ13_bitCount_95d88 17 = .ok (.lushr, 1) := by decide +kernel
theorem dJ13_bitCount_95d88_18 : decode cJ13_bitCount_95d88 18 = .ok (.ldc2_w 316, 3) := by decide +kernel
theorem dJ13_bitCount_95d88_21 : decode cJ13_bitCount_95d88 21 = .ok (.land, 1) := by decide +kernel
theorem dJ13_bitCount_95d88_22 : decode cJ13_bitCount_95d88 22 = .ok (.ladd, 1) := by decide +kernel
theorem dJ13_bitCount_95d88_23 : decode cJ13_bitCount_95d88 23 = .ok (.lstore_n 0, 1) := by decide +kernel
theorem dJ13_bitCount_95d88_24 : decode cJ13_bitCount_95d88 24 = .ok (.lload_n 0, 1) := by decide +kernel
theorem dJ13_bitCount_95d88_25 : decode cJ13_bitCount_95d88 25 = .ok (.lload_n 0, 1) := by decide +kernel
theorem dJ13_bitCount_95d88_26 : decode cJ13_bitCount_95d88 26 = .ok (.iconst 4, 1) := by decide +kernel
theorem dJ13_bitCount_95d88_27 : decode cJ13_bitCount_95d88 27 = .ok (.lushr, 1) := by decide +kernel
theorem dJ13_bitCount_95d88_28 : decode cJ13_bitCount_95d88 28 = .ok (.ladd, 1) := by decide +kernel
theorem dJ13_bitCount_95d88_29 : decode cJ13_bitCount_95d88 29 = .ok (.ldc2_w 318, 3) := by decide +kernel
theorem dJ13_bitCount_95d88_32 : decode cJ13_bitCount_95d88 32 = .ok (.land, 1) := by decide +kernel
theorem dJ13_bitCount_95d88_33 : decode cJ13_bitCount_95d88 33 = .ok (.lstore_n 0, 1) := by decide +kernel
theorem dJ13_bitCount_95d88_34 : decode cJ13_bitCount_95d88 34 = .ok (.lload_n 0, 1) := by decide +kernel
theorem dJ13_bitCount_95d88_35 : decode cJ13_bitCount_95d88 35 = .ok (.lload_n 0, 1) := by decide +kernel
theorem dJ13_bitCount_95d88_36 : decode cJ13_bitCount_95d88 36 = .ok (.bipush 8, 2) := by decide +kernel
theorem dJ13_bitCount_95d88_38 : decode cJ13_bitCount_95d88 38 = .ok (.lushr, 1) := by decide +kernel
theorem dJ13_bitCount_95d88_39 : decode cJ13_bitCount_95d88 39 = .ok (.ladd, 1) := by decide +kernel
theorem dJ13_bitCount_95d88_40 : decode cJ13_bitCount_95d88 40 = .ok (.lstore_n 0, 1) := by decide +kernel
theorem dJ13_bitCount_95d88_41 : decode cJ13_bitCount_95d88 41 = .ok (.lload_n 0, 1) := by decide +kernel
theorem dJ13_bitCount_95d88_42 : decode cJ13_bitCount_95d88 42 = .ok (.lload_n 0, 1) := by decide +kernel
theorem dJ13_bitCount_95d88_43 : decode cJ13_bitCount_95d88 43 = .ok (.bipush 16, 2) := by decide +kernel
theorem dJ13_bitCount_95d88_45 : decode cJ13_bitCount_95d88 45 = .ok (.lushr, 1) := by decide +kernel
theorem dJ13_bitCount_95d88_46 : decode cJ13_bitCount_95d88 46 = .ok (.ladd, 1) := by decide +kernel
theorem dJ13_bitCount_95d88_47 : decode cJ13_bitCount_95d88 47 = .ok (.lstore_n 0, 1) := by decide +kernel
theorem dJ13_bitCount_95d88_48 : decode cJ13_bitCount_95d88 48 = .ok (.lload_n 0, 1) := by decide +kernel
theorem dJ13_bitCount_95d88_49 : decode cJ13_bitCount_95d88 49 = .ok (.lload_n 0, 1) := by decide +kernel
theorem dJ13_bitCount_95d88_50 : decode cJ13_bitCount_95d88 50 = .ok (.bipush 32, 2) := by decide +kernel
theorem dJ13_bitCount_95d88_52 : decode cJ13_bitCount_95d88 52 = .ok (.lushr, 1) := by decide +kernel
theorem dJ13_bitCount_95d88_53 : decode cJ13_bitCount_95d88 53 = .ok (.ladd, 1) := by decide +kernel
theorem dJ13_bitCount_95d88_54 : decode cJ13_bitCount_95d88 54 = .ok (.lstore_n 0, 1) := by decide +kernel
theorem dJ13_bitCount_95d88_55 : decode cJ13_bitCount_95d88 55 = .ok (.lload_n 0, 1) := by decide +kernel
theorem dJ13_bitCount_95d88_56 : decode cJ13_bitCount_95d88 56 = .ok (.l2i, 1) := by decide +kernel
theorem dJ13_bitCount_95d88_57 : decode cJ13_bitCount_95d88 57 = .ok (.bipush 127, 2) := by decide +kernel
theorem dJ13_bitCount_95d88_59 : decode cJ13_bitCount_95d88 59 = .ok (.iand, 1) := by decide +kernel
theorem dJ13_bitCount_95d88_60 : decode cJ13_bitCount_95d88 60 = .ok (.ireturn, 1) := by decide +kernel
theorem dJ9_max_7cf53_0 : decode cJ9_max_7cf53 0 = .ok (.iload_n 0, 1) := by decide +kernel
theorem dJ9_max_7cf53_1 : decode cJ9_max_7cf53 1 = .ok (.iload_n 1, 1) := by decide +kernel
theorem dJ9_max_7cf53_2 : decode cJ9_max_7cf53 2 = .ok (.if_icmp .lt 7, 3) := by decide +kernel
theorem dJ9_max_7cf53_5 : decode cJ9_max_7cf53 5 = .ok (.iload_n 0, 1) := by decide +kernel
theorem dJ9_max_7cf53_6 : decode cJ9_max_7cf53 6 = .ok (.goto 4, 3) := by decide +kernel
theorem dJ9_max_7cf53_9 : decode cJ9_max_7cf53 9 = .ok (.iload_n 1, 1) := by decide +kernel
theorem dJ9_max_7cf53_10 : decode cJ9_max_7cf53 10 = .ok (.ireturn, 1) := by decide +kernel
theorem dJ9_min_f86c9_0 : decode cJ9_min_f86c9 0 = .ok (.lload_n 0, 1) := by decide +kernel
theorem dJ9_min_f86c9_1 : decode cJ9_min_f86c9 1 = .ok (.lload_n 2, 1) := by decide +kernel
theorem dJ9_min_f86c9_2 : decode cJ9_min_f86c9 2 = .ok (.lcmp, 1) := by decide +kernel
theorem dJ9_min_f86c9_3 : decode cJ9_min_f86c9 3 = .ok (.ifCond .gt 7, 3) := by decide +kernel
theorem dJ9_min_f86c9_6 : decode cJ9_min_f86c9 6 = .ok (.lload_n 0, 1) := by decide +kernel
theorem dJ9_min_f86c9_7 : decode cJ9_min_f86c9 7 = .ok (.goto 4, 3) := by decide +kernel
theorem dJ9_min_f86c9_10 : decode cJ9_min_f86c9 10 = .ok (.lload_n 2, 1) := by decide +kernel
theorem dJ9_min_f86c9_11 : decode cJ9_min_f86c9 11 = .ok (.lreturn, 1) := by decide +kernel
theorem dJ0_length_8abf5_0 : decode cJ0_length_8abf5 0 = .ok (.aload_n 0, 1) := by decide +kernel
theorem dJ0_length_8abf5_1 : decode cJ0_length_8abf5 1 = .ok (.getfield 9, 3) := by decide +kernel
theorem dJ0_length_8abf5_4 : decode cJ0_length_8abf5 4 = .ok (.arraylength, 1) := by decide +kernel
theorem dJ0_length_8abf5_5 : decode cJ0_length_8abf5 5 = .ok (.aload_n 0, 1) := by decide +kernel
theorem dJ0_length_8abf5_6 : decode cJ0_length_8abf5 6 = .ok (.invokevirtual 335, 3) := by decide +kernel
theorem dJ0_length_8abf5_9 : decode cJ0_length_8abf5 9 = .ok (.ishr, 1) := by decide +kernel
theorem dJ0_length_8abf5_10 : decode cJ0_length_8abf5 10 = .ok (.ireturn, 1) := by decide +kernel
theorem dJ0_isEmpty_aae02_0 : decode cJ0_isEmpty_aae02 0 = .ok (.aload_n 0, 1) := by decide +kernel
theorem dJ0_isEmpty_aae02_1 : decode cJ0_isEmpty_aae02 1 = .ok (.getfield 9, 3) := by decide +kernel
theorem dJ0_isEmpty_aae02_4 : decode cJ0_isEmpty_aae02 4 = .ok (.arraylength, 1) := by decide +kernel
theorem dJ0_isEmpty_aae02_5 : decode cJ0_isEmpty_aae02 5 = .ok (.ifCond .ne 7, 3) := by decide +kernel
theorem dJ0_isEmpty_aae02_8 : decode cJ0_isEmpty_aae02 8 = .ok (.iconst 1, 1) := by decide +kernel
theorem dJ0_isEmpty_aae02_9 : decode cJ0_isEmpty_aae02 9 = .ok (.goto 4, 3) := by decide +kernel
theorem dJ0_isEmpty_aae02_12 : decode cJ0_isEmpty_aae02 12 = .ok (.iconst 0, 1) := by decide +kernel
theorem dJ0_isEmpty_aae02_13 : decode cJ0_isEmpty_aae02 13 = .ok (.ireturn, 1) := by decide +kernel
theorem dJ0_charAt_5068e_0 : decode cJ0_charAt_5068e 0 = .ok (.aload_n 0, 1) := by decide +kernel
theorem dJ0_charAt_5068e_1 : decode cJ0_charAt_5068e 1 = .ok (.invokevirtual 492, 3) := by decide +kernel
theorem dJ0_charAt_5068e_4 : decode cJ0_charAt_5068e 4 = .ok (.ifCond .eq 12, 3) := by decide +kernel
theorem dJ0_charAt_5068e_7 : decode cJ0_charAt_5068e 7 = .ok (.aload_n 0, 1) := by decide +kernel
theorem dJ0_charAt_5068e_8 : decode cJ0_charAt_5068e 8 = .ok (.getfield 9, 3) := by decide +kernel
theorem dJ0_charAt_5068e_11 : decode cJ0_charAt_5068e 11 = .ok (.iload_n 1, 1) := by decide +kernel
theorem dJ0_charAt_5068e_12 : decode cJ0_charAt_5068e 12 = .ok (.invokestatic 495, 3) := by decide +kernel
theorem dJ0_charAt_5068e_15 : decode cJ0_charAt_5068e 15 = .ok (.ireturn, 1) := by decide +kernel
theorem dJ0_charAt_5068e_16 : decode cJ0_charAt_5068e 16 = .ok (.aload_n 0, 1) := by decide +kernel
theorem dJ0_charAt_5068e_17 : decode cJ0_charAt_5068e 17 = .ok (.getfield 9, 3) := by decide +kernel
theorem dJ0_charAt_5068e_20 : decode cJ0_charAt_5068e 20 = .ok (.iload_n 1, 1) := by decide +kernel
theorem dJ0_charAt_5068e_21 : decode cJ0_charAt_5068e 21 = .ok (.invokestatic 498, 3) := by decide +kernel
theorem dJ0_charAt_5068e_24 : decode cJ0_charAt_5068e 24 = .ok (.ireturn, 1) := by decide +kernel
theorem dJ0_coder_7d493_0 : decode cJ0_coder_7d493 0 = .ok (.getstatic 38, 3) := by decide +kernel
theorem dJ0_coder_7d493_3 : decode cJ0_coder_7d493 3 = .ok (.ifCond .eq 10, 3) := by decide +kernel
theorem dJ0_coder_7d493_6 : decode cJ0_coder_7d493 6 = .ok (.aload_n 0, 1) := by decide +kernel
theorem dJ0_coder_7d493_7 : decode cJ0_coder_7d493 7 = .ok (.getfield 15, 3) := by decide +kernel
theorem dJ0_coder_7d493_10 : decode cJ0_coder_7d493 10 = .ok (.goto 4, 3) := by decide +kernel
theorem dJ0_coder_7d493_13 : decode cJ0_coder_7d493 13 = .ok (.iconst 1, 1) := by decide +kernel
theorem dJ0_coder_7d493_14 : decode cJ0_coder_7d493 14 = .ok (.ireturn, 1) := by decide +kernel
theorem dJ0_isLatin1_aae02_0 : decode cJ0_isLatin1_aae02 0 = .ok (.getstatic 38, 3) := by decide +kernel
theorem dJ0_isLatin1_aae02_3 : decode cJ0_isLatin1_aae02 3 = .ok (.ifCond .eq 14, 3) := by decide +kernel
theorem dJ0_isLatin1_aae02_6 : decode cJ0_isLatin1_aae02 6 = .ok (.aload_n 0, 1) := by decide +kernel
theorem dJ0_isLatin1_aae02_7 : decode cJ0_isLatin1_aae02 7 = .ok (.getfield 15, 3) := by decide +kernel
theorem dJ0_isLatin1_aae02_10 : decode cJ0_isLatin1_aae02 10 = .ok (.ifCond .ne 7, 3) := by decide +kernel
theorem dJ0_isLatin1_aae02_13 : decode cJ0_isLatin1_aae02 13 = .ok (.iconst 1, 1) := by decide +kernel
theorem dJ0_isLatin1_aae02_14 : decode cJ0_isLatin1_aae02 14 = .ok (.goto 4, 3) := by decide +kernel
theorem dJ0_isLatin1_aae02_17 : decode cJ0_isLatin1_aae02 17 = .ok (.iconst 0, 1) := by decide +kernel
theorem dJ0_isLatin1_aae02_18 : decode cJ0_isLatin1_aae02 18 = .ok (.ireturn, 1) := by decide +kernel
theorem dJ0_checkIndex_df160_0 : decode cJ0_checkIndex_df160 0 = .ok (.iload_n 0, 1) := by decide +kernel
theorem dJ0_checkIndex_df160_1 : decode cJ0_checkIndex_df160 1 = .ok (.iload_n 1, 1) := by decide +kernel
theorem dJ0_checkIndex_df160_2 : decode cJ0_checkIndex_df160 2 = .ok (.getstatic 1053, 3) := by decide +kernel
theorem dJ0_checkIndex_df160_5 : decode cJ0_checkIndex_df160 5 = .ok (.invokestatic 1059, 3) := by decide +kernel
theorem dJ0_checkIndex_df160_8 : decode cJ0_checkIndex_df160 8 = .ok (.pop, 1) := by decide +kernel
theorem dJ0_checkIndex_df160_9 : decode cJ0_checkIndex_df160 9 = .ok (.return_, 1) := by decide +kernel
theorem dJ1_charAt_3b067_0 : decode cJ1_charAt_3b067 0 = .ok (.iload_n 1, 1) := by decide +kernel
theorem dJ1_charAt_3b067_1 : decode cJ1_charAt_3b067 1 = .ok (.aload_n 0, 1) := by decide +kernel
theorem dJ1_charAt_3b067_2 : decode cJ1_charAt_3b067 2 = .ok (.arraylength, 1) := by decide +kernel
theorem dJ1_charAt_3b067_3 : decode cJ1_charAt_3b067 3 = .ok (.invokestatic 9, 3) := by decide +kernel
theorem dJ1_charAt_3b067_6 : decode cJ1_charAt_3b067 6 = .ok (.aload_n 0, 1) := by decide +kernel
theorem dJ1_charAt_3b067_7 : decode cJ1_charAt_3b067 7 = .ok (.iload_n 1, 1) := by decide +kernel
theorem dJ1_charAt_3b067_8 : decode cJ1_charAt_3b067 8 = .ok (.baload, 1) := by decide +kernel
theorem dJ1_charAt_3b067_9 : decode cJ1_charAt_3b067 9 = .ok (.sipush 255, 3) := by decide +kernel
theorem dJ1_charAt_3b067_12 : decode cJ1_charAt_3b067 12 = .ok (.iand, 1) := by decide +kernel
theorem dJ1_charAt_3b067_13 : decode cJ1_charAt_3b067 13 = .ok (.i2c, 1) := by decide +kernel
theorem dJ1_charAt_3b067_14 : decode cJ1_charAt_3b067 14 = .ok (.ireturn, 1) := by decide +kernel
theorem dJ2_getChar_3b067_0 : decode cJ2_getChar_3b067 0 = .ok (.getstatic 44, 3) := by decide +kernel
theorem dJ2_getChar_3b067_3 : decode cJ2_getChar_3b067 3 = .ok (.ifCond .ne 25, 3) := by decide +kernel
theorem dJ2_getChar_3b067_6 : decode cJ2_getChar_3b067 6 = .ok (.iload_n 1, 1) := by decide +kernel
theorem dJ2_getChar_3b067_7 : decode cJ2_getChar_3b067 7 = .ok (.ifCond .lt 11, 3) := by decide +kernel
theorem dJ2_getChar_3b067_10 : decode cJ2_getChar_3b067 10 = .ok (.iload_n 1, 1) := by decide +kernel
theorem dJ2_getChar_3b067_11 : decode cJ2_getChar_3b067 11 = .ok (.aload_n 0, 1) := by decide +kernel
theorem dJ2_getChar_3b067_12 : decode cJ2_getChar_3b067 12 = .ok (.invokestatic 48, 3) := by decide +kernel
theorem dJ2_getChar_3b067_15 : decode cJ2_getChar_3b067 15 = .ok (.if_icmp .lt 13, 3) := by decide +kernel
theorem dJ2_getChar_3b067_18 : decode cJ2_getChar_3b067 18 = .ok (.new 52, 3) := by decide +kernel
theorem dJ2_getChar_3b067_21 : decode cJ2_getChar_3b067 21 = .ok (.dup, 1) := by decide +kernel
theorem dJ2_getChar_3b067_22 : decode cJ2_getChar_3b067 22 = .ok (.ldc 54, 2) := by decide +kernel
theorem dJ2_getChar_3b067_24 : decode cJ2_getChar_3b067 24 = .ok (.invokespecial 56, 3) := by decide +kernel
theorem dJ2_getChar_3b067_27 : decode cJ2_getChar_3b067 27 = .ok (.athrow, 1) := by decide +kernel
theorem dJ2_getChar_3b067_28 : decode cJ2_getChar_3b067 28 = .ok (.iload_n 1, 1) := by decide +kernel
theorem dJ2_getChar_3b067_29 : decode cJ2_getChar_3b067 29 = .ok (.iconst 1, 1) := by decide +kernel
theorem dJ2_getChar_3b067_30 : decode cJ2_getChar_3b067 30 = .ok (.ishl, 1) := by decide +kernel
theorem dJ2_getChar_3b067_31 : decode cJ2_getChar_3b067 31 = .ok (.istore_n 1, 1) := by decide +kernel
theorem dJ2_getChar_3b067_32 : decode cJ2_getChar_3b067 32 = .ok (.aload_n 0, 1) := by decide +kernel
theorem dJ2_getChar_3b067_33 : decode cJ2_getChar_3b067 33 = .ok (.iload_n 1, 1) := by decide +kernel
theorem dJ2_getChar_3b067_34 : decode cJ2_getChar_3b067 34 = .ok (.iinc 1 1, 3) := by decide +kernel
theorem dJ2_getChar_3b067_37 : decode cJ2_getChar_3b067 37 = .ok (.baload, 1) := by decide +kernel
theorem dJ2_getChar_3b067_38 : decode cJ2_getChar_3b067 38 = .ok (.sipush 255, 3) := by decide +kernel
theorem dJ2_getChar_3b067_41 : decode cJ2_getChar_3b067 41 = .ok (.iand, 1) := by decide +kernel
theorem dJ2_getChar_3b067_42 : decode cJ2_getChar_3b067 42 = .ok (.getstatic 59, 3) := by decide +kernel
theorem dJ2_getChar_3b067_45 : decode cJ2_getChar_3b067 45 = .ok (.ishl, 1) := by decide +kernel
theorem dJ2_getChar_3b067_46 : decode cJ2_getChar_3b067 46 = .ok (.aload_n 0, 1) := by decide +kernel
theorem dJ2_getChar_3b067_47 : decode cJ2_getChar_3b067 47 = .ok (.iload_n 1, 1) := by decide +kernel
theorem dJ2_getChar_3b067_48 : decode cJ2_getChar_3b067 48 = .ok (.baload, 1) := by decide +kernel
theorem dJ2_getChar_3b067_49 : decode cJ2_getChar_3b067 49 = .ok (.sipush 255, 3) := by decide +kernel
theorem dJ2_getChar_3b067_52 : decode cJ2_getChar_3b067 52 = .ok (.iand, 1) := by decide +kernel
theorem dJ2_getChar_3b067_53 : decode cJ2_getChar_3b067 53 = .ok (.getstatic 63, 3) := by decide +kernel
theorem dJ2_getChar_3b067_56 : decode cJ2_getChar_3b067 56 = .ok (.ishl, 1) := by decide +kernel
theorem dJ2_getChar_3b067_57 : decode cJ2_getChar_3b067 57 = .ok (.ior, 1) := by decide +kernel
theorem dJ2_getChar_3b067_58 : decode cJ2_getChar_3b067 58 = .ok (.i2c, 1) := by decide +kernel
theorem dJ2_getChar_3b067_59 : decode cJ2_getChar_3b067 59 = .ok (.ireturn, 1) := by decide +kernel
theorem dJ2_length_9d52b_0 : decode cJ2_length_9d52b 0 = .ok (.aload_n 0, 1) := by decide +kernel
theorem dJ2_length_9d52b_1 : decode cJ2_length_9d52b 1 = .ok (.arraylength, 1) := by decide +kernel
theorem dJ2_length_9d52b_2 : decode cJ2_length_9d52b 2 = .ok (.iconst 1, 1) := by decide +kernel
theorem dJ2_length_9d52b_3 : decode cJ2_length_9d52b 3 = .ok (.ishr, 1) := by decide +kernel
theorem dJ2_length_9d52b_4 : decode cJ2_length_9d52b 4 = .ok (.ireturn, 1) := by decide +kernel
theorem dJ2_charAt_3b067_0 : decode cJ2_charAt_3b067 0 = .ok (.iload_n 1, 1) := by decide +kernel
theorem dJ2_charAt_3b067_1 : decode cJ2_charAt_3b067 1 = .ok (.aload_n 0, 1) := by decide +kernel
theorem dJ2_charAt_3b067_2 : decode cJ2_charAt_3b067 2 = .ok (.invokestatic 67, 3) := by decide +kernel
theorem dJ2_charAt_3b067_5 : decode cJ2_charAt_3b067 5 = .ok (.aload_n 0, 1) := by decide +kernel
theorem dJ2_charAt_3b067_6 : decode cJ2_charAt_3b067 6 = .ok (.iload_n 1, 1) := by decide +kernel
theorem dJ2_charAt_3b067_7 : decode cJ2_charAt_3b067 7 = .ok (.invokestatic 71, 3) := by decide +kernel
theorem dJ2_charAt_3b067_10 : decode cJ2_charAt_3b067 10 = .ok (.ireturn, 1) := by decide +kernel
theorem dJ2_checkIndex_2214a_0 : decode cJ2_checkIndex_2214a 0 = .ok (.iload_n 0, 1) := by decide +kernel
theorem dJ2_checkIndex_2214a_1 : decode cJ2_checkIndex_2214a 1 = .ok (.aload_n 1, 1) := by decide +kernel
theorem dJ2_checkIndex_2214a_2 : decode cJ2_checkIndex_2214a 2 = .ok (.invokestatic 48, 3) := by decide +kernel
theorem dJ2_checkIndex_2214a_5 : decode cJ2_checkIndex_2214a 5 = .ok (.invokestatic 414, 3) := by decide +kernel
theorem dJ2_checkIndex_2214a_8 : decode cJ2_checkIndex_2214a 8 = .ok (.return_, 1) := by decide +kernel
theorem dJ3_checkIndex_8e157_0 : decode cJ3_checkIndex_8e157 0 = .ok (.iload_n 0, 1) := by decide +kernel
theorem dJ3_checkIndex_8e157_1 : decode cJ3_checkIndex_8e157 1 = .ok (.ifCond .lt 8, 3) := by decide +kernel
theorem dJ3_checkIndex_8e157_4 : decode cJ3_checkIndex_8e157 4 = .ok (.iload_n 0, 1) := by decide +kernel
theorem dJ3_checkIndex_8e157_5 : decode cJ3_checkIndex_8e157 5 = .ok (.iload_n 1, 1) := by decide +kernel
theorem dJ3_checkIndex_8e157_6 : decode cJ3_checkIndex_8e157 6 = .ok (.if_icmp .lt 10, 3) := by decide +kernel
theorem dJ3_checkIndex_8e157_9 : decode cJ3_checkIndex_8e157 9 = .ok (.aload_n 2, 1) := by decide +kernel
theorem dJ3_checkIndex_8e157_10 : decode cJ3_checkIndex_8e157 10 = .ok (.iload_n 0, 1) := by decide +kernel
theorem dJ3_checkIndex_8e157_11 : decode cJ3_checkIndex_8e157 11 = .ok (.iload_n 1, 1) := by decide +kernel
theorem dJ3_checkIndex_8e157_12 : decode cJ3_checkIndex_8e157 12 = .ok (.invokestatic 95, 3) := by decide +kernel
theorem dJ3_checkIndex_8e157_15 : decode cJ3_checkIndex_8e157 15 = .ok (.athrow, 1) := by decide +kernel
theorem dJ3_checkIndex_8e157_16 : decode cJ3_checkIndex_8e157 16 = .ok (.iload_n 0, 1) := by decide +kernel
theorem dJ3_checkIndex_8e157_17 : decode cJ3_checkIndex_8e157 17 = .ok (.ireturn, 1) := by decide +kernel
theorem dL_put_0 : decode cL_put 0 = .ok (.aload_n 0, 1) := by decide +kernel
theorem dL_put_1 : decode cL_put 1 = .ok (.iload_n 1, 1) := by decide +kernel
theorem dL_put_2 : decode cL_put 2 = .ok (.invokevirtual 7, 3) := by decide +kernel
theorem dL_put_5 : decode cL_put 5 = .ok (.i2l, 1) := by decide +kernel
theorem dL_put_6 : decode cL_put 6 = .ok (.lreturn, 1) := by decide +kernel
theorem dL_insert_0 : decode cL_insert 0 = .ok (.aload_n 0, 1) := by decide +kernel
theorem dL_insert_1 : decode cL_insert 1 = .ok (.iload_n 1, 1) := by decide +kernel
theorem dL_insert_2 : decode cL_insert 2 = .ok (.iload_n 2, 1) := by decide +kernel
theorem dL_insert_3 : decode cL_insert 3 = .ok (.invokevirtual 13, 3) := by decide +kernel
theorem dL_insert_6 : decode cL_insert 6 = .ok (.i2l, 1) := by decide +kernel
theorem dL_insert_7 : decode cL_insert 7 = .ok (.lreturn, 1) := by decide +kernel
theorem dL_take_0 : decode cL_take 0 = .ok (.aload_n 0, 1) := by decide +kernel
theorem dL_take_1 : decode cL_take 1 = .ok (.iload_n 1, 1) := by decide +kernel
theorem dL_take_2 : decode cL_take 2 = .ok (.invokevirtual 17, 3) := by decide +kernel
theorem dL_take_5 : decode cL_take 5 = .ok (.i2l, 1) := by decide +kernel
theorem dL_take_6 : decode cL_take 6 = .ok (.lreturn, 1) := by decide +kernel
theorem dL_swap_0 : decode cL_swap 0 = .ok (.aload_n 0, 1) := by decide +kernel
theorem dL_swap_1 : decode cL_swap 1 = .ok (.iload_n 1, 1) := by decide +kernel
theorem dL_swap_2 : decode cL_swap 2 = .ok (.invokevirtual 20, 3) := by decide +kernel
theorem dL_swap_5 : decode cL_swap 5 = .ok (.i2l, 1) := by decide +kernel
theorem dL_swap_6 : decode cL_swap 6 = .ok (.lreturn, 1) := by decide +kernel
theorem dL_mark_0 : decode cL_mark 0 = .ok (.aload_n 0, 1) := by decide +kernel
theorem dL_mark_1 : decode cL_mark 1 = .ok (.iload_n 1, 1) := by decide +kernel
theorem dL_mark_2 : decode cL_mark 2 = .ok (.iload_n 2, 1) := by decide +kernel
theorem dL_mark_3 : decode cL_mark 3 = .ok (.invokevirtual 23, 3) := by decide +kernel
theorem dL_mark_6 : decode cL_mark 6 = .ok (.i2l, 1) := by decide +kernel
theorem dL_mark_7 : decode cL_mark 7 = .ok (.lreturn, 1) := by decide +kernel
theorem dL_weight_0 : decode cL_weight 0 = .ok (.aload_n 0, 1) := by decide +kernel
theorem dL_weight_1 : decode cL_weight 1 = .ok (.iload_n 1, 1) := by decide +kernel
theorem dL_weight_2 : decode cL_weight 2 = .ok (.invokevirtual 27, 3) := by decide +kernel
theorem dL_weight_5 : decode cL_weight 5 = .ok (.i2l, 1) := by decide +kernel
theorem dL_weight_6 : decode cL_weight 6 = .ok (.lreturn, 1) := by decide +kernel
theorem dL_weightAgain_0 : decode cL_weightAgain 0 = .ok (.aload_n 0, 1) := by decide +kernel
theorem dL_weightAgain_1 : decode cL_weightAgain 1 = .ok (.iload_n 1, 1) := by decide +kernel
theorem dL_weightAgain_2 : decode cL_weightAgain 2 = .ok (.invokevirtual 30, 3) := by decide +kernel
theorem dL_weightAgain_5 : decode cL_weightAgain 5 = .ok (.i2l, 1) := by decide +kernel
theorem dL_weightAgain_6 : decode cL_weightAgain 6 = .ok (.lreturn, 1) := by decide +kernel
theorem dL_bit_0 : decode cL_bit 0 = .ok (.aload_n 0, 1) := by decide +kernel
theorem dL_bit_1 : decode cL_bit 1 = .ok (.iload_n 1, 1) := by decide +kernel
theorem dL_bit_2 : decode cL_bit 2 = .ok (.iload_n 2, 1) := by decide +kernel
theorem dL_bit_3 : decode cL_bit 3 = .ok (.invokevirtual 33, 3) := by decide +kernel
theorem dL_bit_6 : decode cL_bit 6 = .ok (.i2l, 1) := by decide +kernel
theorem dL_bit_7 : decode cL_bit 7 = .ok (.lreturn, 1) := by decide +kernel
theorem dL_bits_0 : decode cL_bits 0 = .ok (.aload_n 0, 1) := by decide +kernel
theorem dL_bits_1 : decode cL_bits 1 = .ok (.iload_n 1, 1) := by decide +kernel
theorem dL_bits_2 : decode cL_bits 2 = .ok (.invokevirtual 36, 3) := by decide +kernel
theorem dL_bits_5 : decode cL_bits 5 = .ok (.lreturn, 1) := by decide +kernel
theorem dL_rank_0 : decode cL_rank 0 = .ok (.aload_n 0, 1) := by decide +kernel
theorem dL_rank_1 : decode cL_rank 1 = .ok (.iload_n 1, 1) := by decide +kernel
theorem dL_rank_2 : decode cL_rank 2 = .ok (.iload_n 2, 1) := by decide +kernel
theorem dL_rank_3 : decode cL_rank 3 = .ok (.iload_n 3, 1) := by decide +kernel
theorem dL_rank_4 : decode cL_rank 4 = .ok (.invokevirtual 40, 3) := by decide +kernel
theorem dL_rank_7 : decode cL_rank 7 = .ok (.i2l, 1) := by decide +kernel
theorem dL_rank_8 : decode cL_rank 8 = .ok (.lreturn, 1) := by decide +kernel
theorem dL_rankAgain_0 : decode cL_rankAgain 0 = .ok (.aload_n 0, 1) := by decide +kernel
theorem dL_rankAgain_1 : decode cL_rankAgain 1 = .ok (.iload_n 1, 1) := by decide +kernel
theorem dL_rankAgain_2 : decode cL_rankAgain 2 = .ok (.iload_n 2, 1) := by decide +kernel
theorem dL_rankAgain_3 : decode cL_rankAgain 3 = .ok (.iload_n 3, 1) := by decide +kernel
theorem dL_rankAgain_4 : decode cL_rankAgain 4 = .ok (.invokevirtual 44, 3) := by decide +kernel
theorem dL_rankAgain_7 : decode cL_rankAgain 7 = .ok (.i2l, 1) := by decide +kernel
theorem dL_rankAgain_8 : decode cL_rankAgain 8 = .ok (.lreturn, 1) := by decide +kernel
theorem dL_select_0 : decode cL_select 0 = .ok (.aload_n 0, 1) := by decide +kernel
theorem dL_select_1 : decode cL_select 1 = .ok (.iload_n 1, 1) := by decide +kernel
theorem dL_select_2 : decode cL_select 2 = .ok (.iload_n 2, 1) := by decide +kernel
theorem dL_select_3 : decode cL_select 3 = .ok (.iload_n 3, 1) := by decide +kernel
theorem dL_select_4 : decode cL_select 4 = .ok (.invokevirtual 47, 3) := by decide +kernel
theorem dL_select_7 : decode cL_select 7 = .ok (.i2l, 1) := by decide +kernel
theorem dL_select_8 : decode cL_select 8 = .ok (.lreturn, 1) := by decide +kernel
theorem dL_placeIn_0 : decode cL_placeIn 0 = .ok (.aload_n 0, 1) := by decide +kernel
theorem dL_placeIn_1 : decode cL_placeIn 1 = .ok (.iload_n 1, 1) := by decide +kernel
theorem dL_placeIn_2 : decode cL_placeIn 2 = .ok (.iload_n 2, 1) := by decide +kernel
theorem dL_placeIn_3 : decode cL_placeIn 3 = .ok (.invokevirtual 50, 3) := by decide +kernel
theorem dL_placeIn_6 : decode cL_placeIn 6 = .ok (.i2l, 1) := by decide +kernel
theorem dL_placeIn_7 : decode cL_placeIn 7 = .ok (.lreturn, 1) := by decide +kernel
theorem dL_quantile_0 : decode cL_quantile 0 = .ok (.aload_n 0, 1) := by decide +kernel
theorem dL_quantile_1 : decode cL_quantile 1 = .ok (.iload_n 1, 1) := by decide +kernel
theorem dL_quantile_2 : decode cL_quantile 2 = .ok (.iload_n 2, 1) := by decide +kernel
theorem dL_quantile_3 : decode cL_quantile 3 = .ok (.iload_n 3, 1) := by decide +kernel
theorem dL_quantile_4 : decode cL_quantile 4 = .ok (.invokevirtual 53, 3) := by decide +kernel
theorem dL_quantile_7 : decode cL_quantile 7 = .ok (.i2l, 1) := by decide +kernel
theorem dL_quantile_8 : decode cL_quantile 8 = .ok (.lreturn, 1) := by decide +kernel
theorem dL_quantileAgain_0 : decode cL_quantileAgain 0 = .ok (.aload_n 0, 1) := by decide +kernel
theorem dL_quantileAgain_1 : decode cL_quantileAgain 1 = .ok (.iload_n 1, 1) := by decide +kernel
theorem dL_quantileAgain_2 : decode cL_quantileAgain 2 = .ok (.iload_n 2, 1) := by decide +kernel
theorem dL_quantileAgain_3 : decode cL_quantileAgain 3 = .ok (.iload_n 3, 1) := by decide +kernel
theorem dL_quantileAgain_4 : decode cL_quantileAgain 4 = .ok (.invokevirtual 57, 3) := by decide +kernel
theorem dL_quantileAgain_7 : decode cL_quantileAgain 7 = .ok (.i2l, 1) := by decide +kernel
theorem dL_quantileAgain_8 : decode cL_quantileAgain 8 = .ok (.lreturn, 1) := by decide +kernel
theorem dL_count_0 : decode cL_count 0 = .ok (.aload_n 0, 1) := by decide +kernel
theorem dL_count_1 : decode cL_count 1 = .ok (.iload_n 1, 1) := by decide +kernel
theorem dL_count_2 : decode cL_count 2 = .ok (.iload_n 2, 1) := by decide +kernel
theorem dL_count_3 : decode cL_count 3 = .ok (.iload_n 3, 1) := by decide +kernel
theorem dL_count_4 : decode cL_count 4 = .ok (.invokevirtual 60, 3) := by decide +kernel
theorem dL_count_7 : decode cL_count 7 = .ok (.i2l, 1) := by decide +kernel
theorem dL_count_8 : decode cL_count 8 = .ok (.lreturn, 1) := by decide +kernel
theorem dL_lighter_0 : decode cL_lighter 0 = .ok (.aload_n 0, 1) := by decide +kernel
theorem dL_lighter_1 : decode cL_lighter 1 = .ok (.iload_n 1, 1) := by decide +kernel
theorem dL_lighter_2 : decode cL_lighter 2 = .ok (.iload_n 2, 1) := by decide +kernel
theorem dL_lighter_3 : decode cL_lighter 3 = .ok (.iload_n 3, 1) := by decide +kernel
theorem dL_lighter_4 : decode cL_lighter 4 = .ok (.invokevirtual 63, 3) := by decide +kernel
theorem dL_lighter_7 : decode cL_lighter 7 = .ok (.i2l, 1) := by decide +kernel
theorem dL_lighter_8 : decode cL_lighter 8 = .ok (.lreturn, 1) := by decide +kernel
theorem dL_atLeast_0 : decode cL_atLeast 0 = .ok (.aload_n 0, 1) := by decide +kernel
theorem dL_atLeast_1 : decode cL_atLeast 1 = .ok (.iload_n 1, 1) := by decide +kernel
theorem dL_atLeast_2 : decode cL_atLeast 2 = .ok (.iload_n 2, 1) := by decide +kernel
theorem dL_atLeast_3 : decode cL_atLeast 3 = .ok (.iload_n 3, 1) := by decide +kernel
theorem dL_atLeast_4 : decode cL_atLeast 4 = .ok (.invokevirtual 66, 3) := by decide +kernel
theorem dL_atLeast_7 : decode cL_atLeast 7 = .ok (.i2l, 1) := by decide +kernel
theorem dL_atLeast_8 : decode cL_atLeast 8 = .ok (.lreturn, 1) := by decide +kernel
theorem dL_find_0 : decode cL_find 0 = .ok (.aload_n 0, 1) := by decide +kernel
theorem dL_find_1 : decode cL_find 1 = .ok (.iload_n 1, 1) := by decide +kernel
theorem dL_find_2 : decode cL_find 2 = .ok (.iload_n 2, 1) := by decide +kernel
theorem dL_find_3 : decode cL_find 3 = .ok (.invokevirtual 69, 3) := by decide +kernel
theorem dL_find_6 : decode cL_find 6 = .ok (.i2l, 1) := by decide +kernel
theorem dL_find_7 : decode cL_find 7 = .ok (.lreturn, 1) := by decide +kernel
theorem dL_mostCommon_0 : decode cL_mostCommon 0 = .ok (.aload_n 0, 1) := by decide +kernel
theorem dL_mostCommon_1 : decode cL_mostCommon 1 = .ok (.iload_n 1, 1) := by decide +kernel
theorem dL_mostCommon_2 : decode cL_mostCommon 2 = .ok (.iload_n 2, 1) := by decide +kernel
theorem dL_mostCommon_3 : decode cL_mostCommon 3 = .ok (.iload_n 3, 1) := by decide +kernel
theorem dL_mostCommon_4 : decode cL_mostCommon 4 = .ok (.invokevirtual 72, 3) := by decide +kernel
theorem dL_mostCommon_7 : decode cL_mostCommon 7 = .ok (.i2l, 1) := by decide +kernel
theorem dL_mostCommon_8 : decode cL_mostCommon 8 = .ok (.lreturn, 1) := by decide +kernel
theorem dL_bagOf_0 : decode cL_bagOf 0 = .ok (.aload_n 0, 1) := by decide +kernel
theorem dL_bagOf_1 : decode cL_bagOf 1 = .ok (.iload_n 1, 1) := by decide +kernel
theorem dL_bagOf_2 : decode cL_bagOf 2 = .ok (.iload_n 2, 1) := by decide +kernel
theorem dL_bagOf_3 : decode cL_bagOf 3 = .ok (.invokevirtual 75, 3) := by decide +kernel
theorem dL_bagOf_6 : decode cL_bagOf 6 = .ok (.i2l, 1) := by decide +kernel
theorem dL_bagOf_7 : decode cL_bagOf 7 = .ok (.lreturn, 1) := by decide +kernel
theorem dL_bagAt_0 : decode cL_bagAt 0 = .ok (.aload_n 0, 1) := by decide +kernel
theorem dL_bagAt_1 : decode cL_bagAt 1 = .ok (.iload_n 1, 1) := by decide +kernel
theorem dL_bagAt_2 : decode cL_bagAt 2 = .ok (.invokevirtual 78, 3) := by decide +kernel
theorem dL_bagAt_5 : decode cL_bagAt 5 = .ok (.i2l, 1) := by decide +kernel
theorem dL_bagAt_6 : decode cL_bagAt 6 = .ok (.lreturn, 1) := by decide +kernel
theorem dL_ranked_0 : decode cL_ranked 0 = .ok (.aload_n 0, 1) := by decide +kernel
theorem dL_ranked_1 : decode cL_ranked 1 = .ok (.iload_n 1, 1) := by decide +kernel
theorem dL_ranked_2 : decode cL_ranked 2 = .ok (.invokevirtual 81, 3) := by decide +kernel
theorem dL_ranked_5 : decode cL_ranked 5 = .ok (.i2l, 1) := by decide +kernel
theorem dL_ranked_6 : decode cL_ranked 6 = .ok (.lreturn, 1) := by decide +kernel
theorem dL_run_0 : decode cL_run 0 = .ok (.aload_n 0, 1) := by decide +kernel
theorem dL_run_1 : decode cL_run 1 = .ok (.invokevirtual 87, 3) := by decide +kernel
theorem dL_run_4 : decode cL_run 4 = .ok (.i2l, 1) := by decide +kernel
theorem dL_run_5 : decode cL_run 5 = .ok (.lreturn, 1) := by decide +kernel
theorem dL_account_0 : decode cL_account 0 = .ok (.aload_n 0, 1) := by decide +kernel
theorem dL_account_1 : decode cL_account 1 = .ok (.iload_n 1, 1) := by decide +kernel
theorem dL_account_2 : decode cL_account 2 = .ok (.invokevirtual 104, 3) := by decide +kernel
theorem dL_account_5 : decode cL_account 5 = .ok (.i2l, 1) := by decide +kernel
theorem dL_account_6 : decode cL_account 6 = .ok (.lreturn, 1) := by decide +kernel
theorem dL_isBalanced_0 : decode cL_isBalanced 0 = .ok (.aload_n 0, 1) := by decide +kernel
theorem dL_isBalanced_1 : decode cL_isBalanced 1 = .ok (.invokevirtual 107, 3) := by decide +kernel
theorem dL_isBalanced_4 : decode cL_isBalanced 4 = .ok (.i2l, 1) := by decide +kernel
theorem dL_isBalanced_5 : decode cL_isBalanced 5 = .ok (.lreturn, 1) := by decide +kernel
theorem dL_undo_0 : decode cL_undo 0 = .ok (.aload_n 0, 1) := by decide +kernel
theorem dL_undo_1 : decode cL_undo 1 = .ok (.invokevirtual 130, 3) := by decide +kernel
theorem dL_undo_4 : decode cL_undo 4 = .ok (.i2l, 1) := by decide +kernel
theorem dL_undo_5 : decode cL_undo 5 = .ok (.lreturn, 1) := by decide +kernel
theorem dL_save_0 : decode cL_save 0 = .ok (.aload_n 0, 1) := by decide +kernel
theorem dL_save_1 : decode cL_save 1 = .ok (.invokevirtual 133, 3) := by decide +kernel
theorem dL_save_4 : decode cL_save 4 = .ok (.i2l, 1) := by decide +kernel
theorem dL_save_5 : decode cL_save 5 = .ok (.lreturn, 1) := by decide +kernel
theorem dL_restore_0 : decode cL_restore 0 = .ok (.aload_n 0, 1) := by decide +kernel
theorem dL_restore_1 : decode cL_restore 1 = .ok (.invokevirtual 136, 3) := by decide +kernel
theorem dL_restore_4 : decode cL_restore 4 = .ok (.i2l, 1) := by decide +kernel
theorem dL_restore_5 : decode cL_restore 5 = .ok (.lreturn, 1) := by decide +kernel
theorem dL_cell_0 : decode cL_cell 0 = .ok (.iload_n 1, 1) := by decide +kernel
theorem dL_cell_1 : decode cL_cell 1 = .ok (.aload_n 0, 1) := by decide +kernel
theorem dL_cell_2 : decode cL_cell 2 = .ok (.arraylength, 1) := by decide +kernel
theorem dL_cell_3 : decode cL_cell 3 = .ok (.if_icmp .ge 9, 3) := by decide +kernel
theorem dL_cell_6 : decode cL_cell 6 = .ok (.aload_n 0, 1) := by decide +kernel
theorem dL_cell_7 : decode cL_cell 7 = .ok (.iload_n 1, 1) := by decide +kernel
theorem dL_cell_8 : decode cL_cell 8 = .ok (.iaload, 1) := by decide +kernel
theorem dL_cell_9 : decode cL_cell 9 = .ok (.goto 11, 3) := by decide +kernel
theorem dL_cell_12 : decode cL_cell 12 = .ok (.sipush 7919, 3) := by decide +kernel
theorem dL_cell_15 : decode cL_cell 15 = .ok (.iload_n 1, 1) := by decide +kernel
theorem dL_cell_16 : decode cL_cell 16 = .ok (.imul, 1) := by decide +kernel
theorem dL_cell_17 : decode cL_cell 17 = .ok (.bipush 12, 2) := by decide +kernel
theorem dL_cell_19 : decode cL_cell 19 = .ok (.iadd, 1) := by decide +kernel
theorem dL_cell_20 : decode cL_cell 20 = .ok (.ireturn, 1) := by decide +kernel
theorem dL_chosen_0 : decode cL_chosen 0 = .ok (.iload_n 0, 1) := by decide +kernel
theorem dL_chosen_1 : decode cL_chosen 1 = .ok (.ldc 139, 2) := by decide +kernel
theorem dL_chosen_3 : decode cL_chosen 3 = .ok (.iand, 1) := by decide +kernel
theorem dL_chosen_4 : decode cL_chosen 4 = .ok (.iload_n 1, 1) := by decide +kernel
theorem dL_chosen_5 : decode cL_chosen 5 = .ok (.irem, 1) := by decide +kernel
theorem dL_chosen_6 : decode cL_chosen 6 = .ok (.ireturn, 1) := by decide +kernel
theorem dL_done_0 : decode cL_done 0 = .ok (.iconst 0, 1) := by decide +kernel
theorem dL_done_1 : decode cL_done 1 = .ok (.istore_n 2, 1) := by decide +kernel
theorem dL_done_2 : decode cL_done 2 = .ok (.iload_n 2, 1) := by decide +kernel
theorem dL_done_3 : decode cL_done 3 = .ok (.aload_n 1, 1) := by decide +kernel
theorem dL_done_4 : decode cL_done 4 = .ok (.invokevirtual 140, 3) := by decide +kernel
theorem dL_done_7 : decode cL_done 7 = .ok (.if_icmp .ge 19, 3) := by decide +kernel
theorem dL_done_10 : decode cL_done 10 = .ok (.aload_n 0, 1) := by decide +kernel
theorem dL_done_11 : decode cL_done 11 = .ok (.aload_n 1, 1) := by decide +kernel
theorem dL_done_12 : decode cL_done 12 = .ok (.iload_n 2, 1) := by decide +kernel
theorem dL_done_13 : decode cL_done 13 = .ok (.invokevirtual 145, 3) := by decide +kernel
theorem dL_done_16 : decode cL_done 16 = .ok (.invokevirtual 84, 3) := by decide +kernel
theorem dL_done_19 : decode cL_done 19 = .ok (.pop, 1) := by decide +kernel
theorem dL_done_20 : decode cL_done 20 = .ok (.iinc 2 1, 3) := by decide +kernel
theorem dL_done_23 : decode cL_done 23 = .ok (.goto (-21), 3) := by decide +kernel
theorem dL_done_26 : decode cL_done 26 = .ok (.aload_n 0, 1) := by decide +kernel
theorem dL_done_27 : decode cL_done 27 = .ok (.invokestatic 149, 3) := by decide +kernel
theorem dL_done_30 : decode cL_done 30 = .ok (.lreturn, 1) := by decide +kernel
theorem dL_state_0 : decode cL_state 0 = .ok (.ldc2_w 154, 3) := by decide +kernel
theorem dL_state_3 : decode cL_state 3 = .ok (.lstore_n 1, 1) := by decide +kernel
theorem dL_state_4 : decode cL_state 4 = .ok (.iconst 0, 1) := by decide +kernel
theorem dL_state_5 : decode cL_state 5 = .ok (.istore_n 3, 1) := by decide +kernel
theorem dL_state_6 : decode cL_state 6 = .ok (.iload_n 3, 1) := by decide +kernel
theorem dL_state_7 : decode cL_state 7 = .ok (.bipush 9, 2) := by decide +kernel
theorem dL_state_9 : decode cL_state 9 = .ok (.if_icmp .ge 21, 3) := by decide +kernel
theorem dL_state_12 : decode cL_state 12 = .ok (.ldc2_w 156, 3) := by decide +kernel
theorem dL_state_15 : decode cL_state 15 = .ok (.lload_n 1, 1) := by decide +kernel
theorem dL_state_16 : decode cL_state 16 = .ok (.lmul, 1) := by decide +kernel
theorem dL_state_17 : decode cL_state 17 = .ok (.aload_n 0, 1) := by decide +kernel
theorem dL_state_18 : decode cL_state 18 = .ok (.iload_n 3, 1) := by decide +kernel
theorem dL_state_19 : decode cL_state 19 = .ok (.invokestatic 158, 3) := by decide +kernel
theorem dL_state_22 : decode cL_state 22 = .ok (.ladd, 1) := by decide +kernel
theorem dL_state_23 : decode cL_state 23 = .ok (.lstore_n 1, 1) := by decide +kernel
theorem dL_state_24 : decode cL_state 24 = .ok (.iinc 3 1, 3) := by decide +kernel
theorem dL_state_27 : decode cL_state 27 = .ok (.goto (-21), 3) := by decide +kernel
theorem dL_state_30 : decode cL_state 30 = .ok (.iconst 0, 1) := by decide +kernel
theorem dL_state_31 : decode cL_state 31 = .ok (.istore_n 3, 1) := by decide +kernel
theorem dL_state_32 : decode cL_state 32 = .ok (.iload_n 3, 1) := by decide +kernel
theorem dL_state_33 : decode cL_state 33 = .ok (.i2l, 1) := by decide +kernel
theorem dL_state_34 : decode cL_state 34 = .ok (.aload_n 0, 1) := by decide +kernel
theorem dL_state_35 : decode cL_state 35 = .ok (.iconst 0, 1) := by decide +kernel
theorem dL_state_36 : decode cL_state 36 = .ok (.invokestatic 158, 3) := by decide +kernel
theorem dL_state_39 : decode cL_state 39 = .ok (.lcmp, 1) := by decide +kernel
theorem dL_state_40 : decode cL_state 40 = .ok (.ifCond .ge 21, 3) := by decide +kernel
theorem dL_state_43 : decode cL_state 43 = .ok (.ldc2_w 156, 3) := by decide +kernel
theorem dL_state_46 : decode cL_state 46 = .ok (.lload_n 1, 1) := by decide +kernel
theorem dL_state_47 : decode cL_state 47 = .ok (.lmul, 1) := by decide +kernel
theorem dL_state_48 : decode cL_state 48 = .ok (.aload_n 0, 1) := by decide +kernel
theorem dL_state_49 : decode cL_state 49 = .ok (.iload_n 3, 1) := by decide +kernel
theorem dL_state_50 : decode cL_state 50 = .ok (.invokestatic 161, 3) := by decide +kernel
theorem dL_state_53 : decode cL_state 53 = .ok (.ladd, 1) := by decide +kernel
theorem dL_state_54 : decode cL_state 54 = .ok (.lstore_n 1, 1) := by decide +kernel
theorem dL_state_55 : decode cL_state 55 = .ok (.iinc 3 1, 3) := by decide +kernel
theorem dL_state_58 : decode cL_state 58 = .ok (.goto (-26), 3) := by decide +kernel
theorem dL_state_61 : decode cL_state 61 = .ok (.iconst 0, 1) := by decide +kernel
theorem dL_state_62 : decode cL_state 62 = .ok (.istore_n 3, 1) := by decide +kernel
theorem dL_state_63 : decode cL_state 63 = .ok (.iload_n 3, 1) := by decide +kernel
theorem dL_state_64 : decode cL_state 64 = .ok (.i2l, 1) := by decide +kernel
theorem dL_state_65 : decode cL_state 65 = .ok (.aload_n 0, 1) := by decide +kernel
theorem dL_state_66 : decode cL_state 66 = .ok (.iconst 4, 1) := by decide +kernel
theorem dL_state_67 : decode cL_state 67 = .ok (.invokestatic 158, 3) := by decide +kernel
theorem dL_state_70 : decode cL_state 70 = .ok (.lcmp, 1) := by decide +kernel
theorem dL_state_71 : decode cL_state 71 = .ok (.ifCond .ge 22, 3) := by decide +kernel
theorem dL_state_74 : decode cL_state 74 = .ok (.ldc2_w 156, 3) := by decide +kernel
theorem dL_state_77 : decode cL_state 77 = .ok (.lload_n 1, 1) := by decide +kernel
theorem dL_state_78 : decode cL_state 78 = .ok (.lmul, 1) := by decide +kernel
theorem dL_state_79 : decode cL_state 79 = .ok (.aload_n 0, 1) := by decide +kernel
theorem dL_state_80 : decode cL_state 80 = .ok (.iload_n 3, 1) := by decide +kernel
theorem dL_state_81 : decode cL_state 81 = .ok (.iconst 0, 1) := by decide +kernel
theorem dL_state_82 : decode cL_state 82 = .ok (.invokestatic 163, 3) := by decide +kernel
theorem dL_state_85 : decode cL_state 85 = .ok (.ladd, 1) := by decide +kernel
theorem dL_state_86 : decode cL_state 86 = .ok (.lstore_n 1, 1) := by decide +kernel
theorem dL_state_87 : decode cL_state 87 = .ok (.iinc 3 1, 3) := by decide +kernel
theorem dL_state_90 : decode cL_state 90 = .ok (.goto (-27), 3) := by decide +kernel
theorem dL_state_93 : decode cL_state 93 = .ok (.lload_n 1, 1) := by decide +kernel
theorem dL_state_94 : decode cL_state 94 = .ok (.lreturn, 1) := by decide +kernel
theorem dL_acts_0 : decode cL_acts 0 = .ok (.iload_n 1, 1) := by decide +kernel
theorem dL_acts_1 : decode cL_acts 1 = .ok (.bipush 8, 2) := by decide +kernel
theorem dL_acts_3 : decode cL_acts 3 = .ok (.ishr, 1) := by decide +kernel
theorem dL_acts_4 : decode cL_acts 4 = .ok (.ldc 166, 2) := by decide +kernel
theorem dL_acts_6 : decode cL_acts 6 = .ok (.invokestatic 167, 3) := by decide +kernel
theorem dL_acts_9 : decode cL_acts 9 = .ok (.istore_n 2, 1) := by decide +kernel
theorem dL_acts_10 : decode cL_acts 10 = .ok (.iconst 1, 1) := by decide +kernel
theorem dL_acts_11 : decode cL_acts 11 = .ok (.aload_n 0, 1) := by decide +kernel
theorem dL_acts_12 : decode cL_acts 12 = .ok (.iconst 0, 1) := by decide +kernel
theorem dL_acts_13 : decode cL_acts 13 = .ok (.invokestatic 158, 3) := by decide +kernel
theorem dL_acts_16 : decode cL_acts 16 = .ok (.l2i, 1) := by decide +kernel
theorem dL_acts_17 : decode cL_acts 17 = .ok (.invokestatic 170, 3) := by decide +kernel
theorem dL_acts_20 : decode cL_acts 20 = .ok (.istore_n 3, 1) := by decide +kernel
theorem dL_acts_21 : decode cL_acts 21 = .ok (.iload_n 1, 1) := by decide +kernel
theorem dL_acts_22 : decode cL_acts 22 = .ok (.bipush 16, 2) := by decide +kernel
theorem dL_acts_24 : decode cL_acts 24 = .ok (.invokestatic 167, 3) := by decide +kernel
theorem dL_acts_27 : decode cL_acts 27 = .ok (.tableswitch 126 0 11 #[61, 61, 61, 61, 70, 70, 70, 85, 85, 93, 93, 101], 61) := by decide +kernel
theorem dL_acts_88 : decode cL_acts 88 = .ok (.aload_n 0, 1) := by decide +kernel
theorem dL_acts_89 : decode cL_acts 89 = .ok (.iload_n 2, 1) := by decide +kernel
theorem dL_acts_90 : decode cL_acts 90 = .ok (.bipush 32, 2) := by decide +kernel
theorem dL_acts_92 : decode cL_acts 92 = .ok (.irem, 1) := by decide +kernel
theorem dL_acts_93 : decode cL_acts 93 = .ok (.invokestatic 175, 3) := by decide +kernel
theorem dL_acts_96 : decode cL_acts 96 = .ok (.lreturn, 1) := by decide +kernel
theorem dL_acts_97 : decode cL_acts 97 = .ok (.aload_n 0, 1) := by decide +kernel
theorem dL_acts_98 : decode cL_acts 98 = .ok (.iload_n 2, 1) := by decide +kernel
theorem dL_acts_99 : decode cL_acts 99 = .ok (.bipush 32, 2) := by decide +kernel
theorem dL_acts_101 : decode cL_acts 101 = .ok (.idiv, 1) := by decide +kernel
theorem dL_acts_102 : decode cL_acts 102 = .ok (.iload_n 3, 1) := by decide +kernel
theorem dL_acts_103 : decode cL_acts 103 = .ok (.irem, 1) := by decide +kernel
theorem dL_acts_104 : decode cL_acts 104 = .ok (.iload_n 2, 1) := by decide +kernel
theorem dL_acts_105 : decode cL_acts 105 = .ok (.bipush 32, 2) := by decide +kernel
theorem dL_acts_107 : decode cL_acts 107 = .ok (.irem, 1) := by decide +kernel
theorem dL_acts_108 : decode cL_acts 108 = .ok (.invokestatic 177, 3) := by decide +kernel
theorem dL_acts_111 : decode cL_acts 111 = .ok (.lreturn, 1) := by decide +kernel
theorem dL_acts_112 : decode cL_acts 112 = .ok (.aload_n 0, 1) := by decide +kernel
theorem dL_acts_113 : decode cL_acts 113 = .ok (.iload_n 2, 1) := by decide +kernel
theorem dL_acts_114 : decode cL_acts 114 = .ok (.iload_n 3, 1) := by decide +kernel
theorem dL_acts_115 : decode cL_acts 115 = .ok (.irem, 1) := by decide +kernel
theorem dL_acts_116 : decode cL_acts 116 = .ok (.invokestatic 179, 3) := by decide +kernel
theorem dL_acts_119 : decode cL_acts 119 = .ok (.lreturn, 1) := by decide +kernel
theorem dL_acts_120 : decode cL_acts 120 = .ok (.aload_n 0, 1) := by decide +kernel
theorem dL_acts_121 : decode cL_acts 121 = .ok (.iload_n 2, 1) := by decide +kernel
theorem dL_acts_122 : decode cL_acts 122 = .ok (.iload_n 3, 1) := by decide +kernel
theorem dL_acts_123 : decode cL_acts 123 = .ok (.irem, 1) := by decide +kernel
theorem dL_acts_124 : decode cL_acts 124 = .ok (.invokestatic 181, 3) := by decide +kernel
theorem dL_acts_127 : decode cL_acts 127 = .ok (.lreturn, 1) := by decide +kernel
theorem dL_acts_128 : decode cL_acts 128 = .ok (.aload_n 0, 1) := by decide +kernel
theorem dL_acts_129 : decode cL_acts 129 = .ok (.iconst 1, 1) := by decide +kernel
theorem dL_acts_130 : decode cL_acts 130 = .ok (.iload_n 2, 1) := by decide +kernel
theorem dL_acts_131 : decode cL_acts 131 = .ok (.bipush 20, 2) := by decide +kernel
theorem dL_acts_133 : decode cL_acts 133 = .ok (.irem, 1) := by decide +kernel
theorem dL_acts_134 : decode cL_acts 134 = .ok (.iadd, 1) := by decide +kernel
theorem dL_acts_135 : decode cL_acts 135 = .ok (.iload_n 2, 1) := by decide +kernel
theorem dL_acts_136 : decode cL_acts 136 = .ok (.bipush 20, 2) := by decide +kernel
theorem dL_acts_138 : decode cL_acts 138 = .ok (.idiv, 1) := by decide +kernel
theorem dL_acts_139 : decode cL_acts 139 = .ok (.iconst 3, 1) := by decide +kernel
theorem dL_acts_140 : decode cL_acts 140 = .ok (.irem, 1) := by decide +kernel
theorem dL_acts_141 : decode cL_acts 141 = .ok (.ifCond .le 7, 3) := by decide +kernel
theorem dL_acts_144 : decode cL_acts 144 = .ok (.iconst 1, 1) := by decide +kernel
theorem dL_acts_145 : decode cL_acts 145 = .ok (.goto 4, 3) := by decide +kernel
theorem dL_acts_148 : decode cL_acts 148 = .ok (.iconst 0, 1) := by decide +kernel
theorem dL_acts_149 : decode cL_acts 149 = .ok (.invokestatic 183, 3) := by decide +kernel
theorem dL_acts_152 : decode cL_acts 152 = .ok (.lreturn, 1) := by decide +kernel
theorem dL_acts_153 : decode cL_acts 153 = .ok (.aload_n 0, 1) := by decide +kernel
theorem dL_acts_154 : decode cL_acts 154 = .ok (.getstatic 186, 3) := by decide +kernel
theorem dL_acts_157 : decode cL_acts 157 = .ok (.iload_n 2, 1) := by decide +kernel
theorem dL_acts_158 : decode cL_acts 158 = .ok (.bipush 8, 2) := by decide +kernel
theorem dL_acts_160 : decode cL_acts 160 = .ok (.irem, 1) := by decide +kernel
theorem dL_acts_161 : decode cL_acts 161 = .ok (.aaload, 1) := by decide +kernel
theorem dL_acts_162 : decode cL_acts 162 = .ok (.invokestatic 190, 3) := by decide +kernel
theorem dL_acts_165 : decode cL_acts 165 = .ok (.lreturn, 1) := by decide +kernel
theorem dL_rows_0 : decode cL_rows 0 = .ok (.aload_n 0, 1) := by decide +kernel
theorem dL_rows_1 : decode cL_rows 1 = .ok (.iconst 0, 1) := by decide +kernel
theorem dL_rows_2 : decode cL_rows 2 = .ok (.invokestatic 158, 3) := by decide +kernel
theorem dL_rows_5 : decode cL_rows 5 = .ok (.l2i, 1) := by decide +kernel
theorem dL_rows_6 : decode cL_rows 6 = .ok (.istore_n 1, 1) := by decide +kernel
theorem dL_rows_7 : decode cL_rows 7 = .ok (.iconst 0, 1) := by decide +kernel
theorem dL_rows_8 : decode cL_rows 8 = .ok (.istore_n 2, 1) := by decide +kernel
theorem dL_rows_9 : decode cL_rows 9 = .ok (.iload_n 2, 1) := by decide +kernel
theorem dL_rows_10 : decode cL_rows 10 = .ok (.iconst 5, 1) := by decide +kernel
theorem dL_rows_11 : decode cL_rows 11 = .ok (.if_icmp .ge 204, 3) := by decide +kernel
theorem dL_rows_14 : decode cL_rows 14 = .ok (.lconst 0, 1) := by decide +kernel
theorem dL_rows_15 : decode cL_rows 15 = .ok (.lstore_n 3, 1) := by decide +kernel
theorem dL_rows_16 : decode cL_rows 16 = .ok (.iconst 0, 1) := by decide +kernel
theorem dL_rows_17 : decode cL_rows 17 = .ok (.istore 5, 2) := by decide +kernel
theorem dL_rows_19 : decode cL_rows 19 = .ok (.iload 5, 2) := by decide +kernel
theorem dL_rows_21 : decode cL_rows 21 = .ok (.iload_n 1, 1) := by decide +kernel
theorem dL_rows_22 : decode cL_rows 22 = .ok (.if_icmp .ge 127, 3) := by decide +kernel
theorem dL_rows_25 : decode cL_rows 25 = .ok (.aload_n 0, 1) := by decide +kernel
theorem dL_rows_26 : decode cL_rows 26 = .ok (.iload_n 2, 1) := by decide +kernel
theorem dL_rows_27 : decode cL_rows 27 = .ok (.iconst 1, 1) := by decide +kernel
theorem dL_rows_28 : decode cL_rows 28 = .ok (.iload 5, 2) := by decide +kernel
theorem dL_rows_30 : decode cL_rows 30 = .ok (.invokestatic 194, 3) := by decide +kernel
theorem dL_rows_33 : decode cL_rows 33 = .ok (.lload_n 3, 1) := by decide +kernel
theorem dL_rows_34 : decode cL_rows 34 = .ok (.lcmp, 1) := by decide +kernel
theorem dL_rows_35 : decode cL_rows 35 = .ok (.ifCond .ne 33, 3) := by decide +kernel
theorem dL_rows_38 : decode cL_rows 38 = .ok (.aload_n 0, 1) := by decide +kernel
theorem dL_rows_39 : decode cL_rows 39 = .ok (.iload_n 2, 1) := by decide +kernel
theorem dL_rows_40 : decode cL_rows 40 = .ok (.iconst 0, 1) := by decide +kernel
theorem dL_rows_41 : decode cL_rows 41 = .ok (.iload 5, 2) := by decide +kernel
theorem dL_rows_43 : decode cL_rows 43 = .ok (.invokestatic 194, 3) := by decide +kernel
theorem dL_rows_46 : decode cL_rows 46 = .ok (.iload 5, 2) := by decide +kernel
theorem dL_rows_48 : decode cL_rows 48 = .ok (.i2l, 1) := by decide +kernel
theorem dL_rows_49 : decode cL_rows 49 = .ok (.lload_n 3, 1) := by decide +kernel
theorem dL_rows_50 : decode cL_rows 50 = .ok (.lsub, 1) := by decide +kernel
theorem dL_rows_51 : decode cL_rows 51 = .ok (.lcmp, 1) := by decide +kernel
theorem dL_rows_52 : decode cL_rows 52 = .ok (.ifCond .ne 16, 3) := by decide +kernel
theorem dL_rows_55 : decode cL_rows 55 = .ok (.aload_n 0, 1) := by decide +kernel
theorem dL_rows_56 : decode cL_rows 56 = .ok (.iload_n 2, 1) := by decide +kernel
theorem dL_rows_57 : decode cL_rows 57 = .ok (.iconst 1, 1) := by decide +kernel
theorem dL_rows_58 : decode cL_rows 58 = .ok (.iload 5, 2) := by decide +kernel
theorem dL_rows_60 : decode cL_rows 60 = .ok (.invokestatic 197, 3) := by decide +kernel
theorem dL_rows_63 : decode cL_rows 63 = .ok (.lload_n 3, 1) := by decide +kernel
theorem dL_rows_64 : decode cL_rows 64 = .ok (.lcmp, 1) := by decide +kernel
theorem dL_rows_65 : decode cL_rows 65 = .ok (.ifCond .eq 5, 3) := by decide +kernel
theorem dL_rows_68 : decode cL_rows 68 = .ok (.iconst 0, 1) := by decide +kernel
theorem dL_rows_69 : decode cL_rows 69 = .ok (.ireturn, 1) := by decide +kernel
theorem dL_rows_70 : decode cL_rows 70 = .ok (.aload_n 0, 1) := by decide +kernel
theorem dL_rows_71 : decode cL_rows 71 = .ok (.iload_n 2, 1) := by decide +kernel
theorem dL_rows_72 : decode cL_rows 72 = .ok (.iload 5, 2) := by decide +kernel
theorem dL_rows_74 : decode cL_rows 74 = .ok (.invokestatic 199, 3) := by decide +kernel
theorem dL_rows_77 : decode cL_rows 77 = .ok (.lstore 6, 2) := by decide +kernel
theorem dL_rows_79 : decode cL_rows 79 = .ok (.aload_n 0, 1) := by decide +kernel
theorem dL_rows_80 : decode cL_rows 80 = .ok (.iload_n 2, 1) := by decide +kernel
theorem dL_rows_81 : decode cL_rows 81 = .ok (.invokestatic 201, 3) := by decide +kernel
theorem dL_rows_84 : decode cL_rows 84 = .ok (.iload 5, 2) := by decide +kernel
theorem dL_rows_86 : decode cL_rows 86 = .ok (.lshr, 1) := by decide +kernel
theorem dL_rows_87 : decode cL_rows 87 = .ok (.lconst 1, 1) := by decide +kernel
theorem dL_rows_88 : decode cL_rows 88 = .ok (.land, 1) := by decide +kernel
theorem dL_rows_89 : decode cL_rows 89 = .ok (.lload 6, 2) := by decide +kernel
theorem dL_rows_91 : decode cL_rows 91 = .ok (.lcmp, 1) := by decide +kernel
theorem dL_rows_92 : decode cL_rows 92 = .ok (.ifCond .ne 44, 3) := by decide +kernel
theorem dL_rows_95 : decode cL_rows 95 = .ok (.aload_n 0, 1) := by decide +kernel
theorem dL_rows_96 : decode cL_rows 96 = .ok (.iload_n 2, 1) := by decide +kernel
theorem dL_rows_97 : decode cL_rows 97 = .ok (.lload 6, 2) := by decide +kernel
theorem dL_rows_99 : decode cL_rows 99 = .ok (.lconst 1, 1) := by decide +kernel
theorem dL_rows_100 : decode cL_rows 100 = .ok (.lcmp, 1) := by decide +kernel
theorem dL_rows_101 : decode cL_rows 101 = .ok (.ifCond .ne 7, 3) := by decide +kernel
theorem dL_rows_104 : decode cL_rows 104 = .ok (.iconst 1, 1) := by decide +kernel
theorem dL_rows_105 : decode cL_rows 105 = .ok (.goto 4, 3) := by decide +kernel
theorem dL_rows_108 : decode cL_rows 108 = .ok (.iconst 0, 1) := by decide +kernel
theorem dL_rows_109 : decode cL_rows 109 = .ok (.lload 6, 2) := by decide +kernel
theorem dL_rows_111 : decode cL_rows 111 = .ok (.lconst 1, 1) := by decide +kernel
theorem dL_rows_112 : decode cL_rows 112 = .ok (.lcmp, 1) := by decide +kernel
theorem dL_rows_113 : decode cL_rows 113 = .ok (.ifCond .ne 7, 3) := by decide +kernel
theorem dL_rows_116 : decode cL_rows 116 = .ok (.lload_n 3, 1) := by decide +kernel
theorem dL_rows_117 : decode cL_rows 117 = .ok (.goto 8, 3) := by decide +kernel
theorem dL_rows_120 : decode cL_rows 120 = .ok (.iload 5, 2) := by decide +kernel
theorem dL_rows_122 : decode cL_rows 122 = .ok (.i2l, 1) := by decide +kernel
theorem dL_rows_123 : decode cL_rows 123 = .ok (.lload_n 3, 1) := by decide +kernel
theorem dL_rows_124 : decode cL_rows 124 = .ok (.lsub, 1) := by decide +kernel
theorem dL_rows_125 : decode cL_rows 125 = .ok (.l2i, 1) := by decide +kernel
theorem dL_rows_126 : decode cL_rows 126 = .ok (.invokestatic 203, 3) := by decide +kernel
theorem dL_rows_129 : decode cL_rows 129 = .ok (.iload 5, 2) := by decide +kernel
theorem dL_rows_131 : decode cL_rows 131 = .ok (.i2l, 1) := by decide +kernel
theorem dL_rows_132 : decode cL_rows 132 = .ok (.lcmp, 1) := by decide +kernel
theorem dL_rows_133 : decode cL_rows 133 = .ok (.ifCond .eq 5, 3) := by decide +kernel
theorem dL_rows_136 : decode cL_rows 136 = .ok (.iconst 0, 1) := by decide +kernel
theorem dL_rows_137 : decode cL_rows 137 = .ok (.ireturn, 1) := by decide +kernel
theorem dL_rows_138 : decode cL_rows 138 = .ok (.lload_n 3, 1) := by decide +kernel
theorem dL_rows_139 : decode cL_rows 139 = .ok (.lload 6, 2) := by decide +kernel
theorem dL_rows_141 : decode cL_rows 141 = .ok (.ladd, 1) := by decide +kernel
theorem dL_rows_142 : decode cL_rows 142 = .ok (.lstore_n 3, 1) := by decide +kernel
theorem dL_rows_143 : decode cL_rows 143 = .ok (.iinc 5 1, 3) := by decide +kernel
theorem dL_rows_146 : decode cL_rows 146 = .ok (.goto (-127), 3) := by decide +kernel
theorem dL_rows_149 : decode cL_rows 149 = .ok (.aload_n 0, 1) := by decide +kernel
theorem dL_rows_150 : decode cL_rows 150 = .ok (.iload_n 2, 1) := by decide +kernel
theorem dL_rows_151 : decode cL_rows 151 = .ok (.iconst 1, 1) := by decide +kernel
theorem dL_rows_152 : decode cL_rows 152 = .ok (.iload_n 1, 1) := by decide +kernel
theorem dL_rows_153 : decode cL_rows 153 = .ok (.invokestatic 194, 3) := by decide +kernel
theorem dL_rows_156 : decode cL_rows 156 = .ok (.lload_n 3, 1) := by decide +kernel
theorem dL_rows_157 : decode cL_rows 157 = .ok (.lcmp, 1) := by decide +kernel
theorem dL_rows_158 : decode cL_rows 158 = .ok (.ifCond .eq 5, 3) := by decide +kernel
theorem dL_rows_161 : decode cL_rows 161 = .ok (.iconst 0, 1) := by decide +kernel
theorem dL_rows_162 : decode cL_rows 162 = .ok (.ireturn, 1) := by decide +kernel
theorem dL_rows_163 : decode cL_rows 163 = .ok (.iconst 0, 1) := by decide +kernel
theorem dL_rows_164 : decode cL_rows 164 = .ok (.istore 5, 2) := by decide +kernel
theorem dL_rows_166 : decode cL_rows 166 = .ok (.iload 5, 2) := by decide +kernel
theorem dL_rows_168 : decode cL_rows 168 = .ok (.iload_n 1, 1) := by decide +kernel
theorem dL_rows_169 : decode cL_rows 169 = .ok (.if_icmp .ge 40, 3) := by decide +kernel
theorem dL_rows_172 : decode cL_rows 172 = .ok (.aload_n 0, 1) := by decide +kernel
theorem dL_rows_173 : decode cL_rows 173 = .ok (.iload_n 2, 1) := by decide +kernel
theorem dL_rows_174 : decode cL_rows 174 = .ok (.aload_n 0, 1) := by decide +kernel
theorem dL_rows_175 : decode cL_rows 175 = .ok (.iload_n 2, 1) := by decide +kernel
theorem dL_rows_176 : decode cL_rows 176 = .ok (.iload 5, 2) := by decide +kernel
theorem dL_rows_178 : decode cL_rows 178 = .ok (.invokestatic 205, 3) := by decide +kernel
theorem dL_rows_181 : decode cL_rows 181 = .ok (.l2i, 1) := by decide +kernel
theorem dL_rows_182 : decode cL_rows 182 = .ok (.invokestatic 199, 3) := by decide +kernel
theorem dL_rows_185 : decode cL_rows 185 = .ok (.aload_n 0, 1) := by decide +kernel
theorem dL_rows_186 : decode cL_rows 186 = .ok (.iload 5, 2) := by decide +kernel
theorem dL_rows_188 : decode cL_rows 188 = .ok (.invokestatic 161, 3) := by decide +kernel
theorem dL_rows_191 : decode cL_rows 191 = .ok (.iconst 4, 1) := by decide +kernel
theorem dL_rows_192 : decode cL_rows 192 = .ok (.iload_n 2, 1) := by decide +kernel
theorem dL_rows_193 : decode cL_rows 193 = .ok (.isub, 1) := by decide +kernel
theorem dL_rows_194 : decode cL_rows 194 = .ok (.lshr, 1) := by decide +kernel
theorem dL_rows_195 : decode cL_rows 195 = .ok (.lconst 1, 1) := by decide +kernel
theorem dL_rows_196 : decode cL_rows 196 = .ok (.land, 1) := by decide +kernel
theorem dL_rows_197 : decode cL_rows 197 = .ok (.lcmp, 1) := by decide +kernel
theorem dL_rows_198 : decode cL_rows 198 = .ok (.ifCond .eq 5, 3) := by decide +kernel
theorem dL_rows_201 : decode cL_rows 201 = .ok (.iconst 0, 1) := by decide +kernel
theorem dL_rows_202 : decode cL_rows 202 = .ok (.ireturn, 1) := by decide +kernel
theorem dL_rows_203 : decode cL_rows 203 = .ok (.iinc 5 1, 3) := by decide +kernel
theorem dL_rows_206 : decode cL_rows 206 = .ok (.goto (-40), 3) := by decide +kernel
theorem dL_rows_209 : decode cL_rows 209 = .ok (.iinc 2 1, 3) := by decide +kernel
theorem dL_rows_212 : decode cL_rows 212 = .ok (.goto (-203), 3) := by decide +kernel
theorem dL_rows_215 : decode cL_rows 215 = .ok (.iconst 1, 1) := by decide +kernel
theorem dL_rows_216 : decode cL_rows 216 = .ok (.ireturn, 1) := by decide +kernel
theorem dL_part_0 : decode cL_part 0 = .ok (.ldc2_w 207, 3) := by decide +kernel
theorem dL_part_3 : decode cL_part 3 = .ok (.lstore 4, 2) := by decide +kernel
theorem dL_part_5 : decode cL_part 5 = .ok (.iconst 0, 1) := by decide +kernel
theorem dL_part_6 : decode cL_part 6 = .ok (.istore 6, 2) := by decide +kernel
theorem dL_part_8 : decode cL_part 8 = .ok (.iload 6, 2) := by decide +kernel
theorem dL_part_10 : decode cL_part 10 = .ok (.iload_n 2, 1) := by decide +kernel
theorem dL_part_11 : decode cL_part 11 = .ok (.iload_n 1, 1) := by decide +kernel
theorem dL_part_12 : decode cL_part 12 = .ok (.isub, 1) := by decide +kernel
theorem dL_part_13 : decode cL_part 13 = .ok (.if_icmp .ge 89, 3) := by decide +kernel
theorem dL_part_16 : decode cL_part 16 = .ok (.aload_n 0, 1) := by decide +kernel
theorem dL_part_17 : decode cL_part 17 = .ok (.iload_n 1, 1) := by decide +kernel
theorem dL_part_18 : decode cL_part 18 = .ok (.iload_n 2, 1) := by decide +kernel
theorem dL_part_19 : decode cL_part 19 = .ok (.iload 6, 2) := by decide +kernel
theorem dL_part_21 : decode cL_part 21 = .ok (.invokestatic 209, 3) := by decide +kernel
theorem dL_part_24 : decode cL_part 24 = .ok (.lstore 7, 2) := by decide +kernel
theorem dL_part_26 : decode cL_part 26 = .ok (.lload 7, 2) := by decide +kernel
theorem dL_part_28 : decode cL_part 28 = .ok (.aload_n 0, 1) := by decide +kernel
theorem dL_part_29 : decode cL_part 29 = .ok (.iload_n 1, 1) := by decide +kernel
theorem dL_part_30 : decode cL_part 30 = .ok (.iload_n 2, 1) := by decide +kernel
theorem dL_part_31 : decode cL_part 31 = .ok (.iload 6, 2) := by decide +kernel
theorem dL_part_33 : decode cL_part 33 = .ok (.invokestatic 212, 3) := by decide +kernel
theorem dL_part_36 : decode cL_part 36 = .ok (.lcmp, 1) := by decide +kernel
theorem dL_part_37 : decode cL_part 37 = .ok (.ifCond .ne 53, 3) := by decide +kernel
theorem dL_part_40 : decode cL_part 40 = .ok (.lload 7, 2) := by decide +kernel
theorem dL_part_42 : decode cL_part 42 = .ok (.lload 4, 2) := by decide +kernel
theorem dL_part_44 : decode cL_part 44 = .ok (.lcmp, 1) := by decide +kernel
theorem dL_part_45 : decode cL_part 45 = .ok (.ifCond .lt 45, 3) := by decide +kernel
theorem dL_part_48 : decode cL_part 48 = .ok (.aload_n 0, 1) := by decide +kernel
theorem dL_part_49 : decode cL_part 49 = .ok (.iload_n 1, 1) := by decide +kernel
theorem dL_part_50 : decode cL_part 50 = .ok (.iload_n 2, 1) := by decide +kernel
theorem dL_part_51 : decode cL_part 51 = .ok (.lload 7, 2) := by decide +kernel
theorem dL_part_53 : decode cL_part 53 = .ok (.l2i, 1) := by decide +kernel
theorem dL_part_54 : decode cL_part 54 = .ok (.invokestatic 214, 3) := by decide +kernel
theorem dL_part_57 : decode cL_part 57 = .ok (.iload 6, 2) := by decide +kernel
theorem dL_part_59 : decode cL_part 59 = .ok (.i2l, 1) := by decide +kernel
theorem dL_part_60 : decode cL_part 60 = .ok (.lcmp, 1) := by decide +kernel
theorem dL_part_61 : decode cL_part 61 = .ok (.ifCond .gt 29, 3) := by decide +kernel
theorem dL_part_64 : decode cL_part 64 = .ok (.aload_n 0, 1) := by decide +kernel
theorem dL_part_65 : decode cL_part 65 = .ok (.iload_n 1, 1) := by decide +kernel
theorem dL_part_66 : decode cL_part 66 = .ok (.iload_n 2, 1) := by decide +kernel
theorem dL_part_67 : decode cL_part 67 = .ok (.lload 7, 2) := by decide +kernel
theorem dL_part_69 : decode cL_part 69 = .ok (.l2i, 1) := by decide +kernel
theorem dL_part_70 : decode cL_part 70 = .ok (.invokestatic 214, 3) := by decide +kernel
theorem dL_part_73 : decode cL_part 73 = .ok (.aload_n 0, 1) := by decide +kernel
theorem dL_part_74 : decode cL_part 74 = .ok (.iload_n 1, 1) := by decide +kernel
theorem dL_part_75 : decode cL_part 75 = .ok (.iload_n 2, 1) := by decide +kernel
theorem dL_part_76 : decode cL_part 76 = .ok (.lload 7, 2) := by decide +kernel
theorem dL_part_78 : decode cL_part 78 = .ok (.l2i, 1) := by decide +kernel
theorem dL_part_79 : decode cL_part 79 = .ok (.invokestatic 216, 3) := by decide +kernel
theorem dL_part_82 : decode cL_part 82 = .ok (.ladd, 1) := by decide +kernel
theorem dL_part_83 : decode cL_part 83 = .ok (.iload 6, 2) := by decide +kernel
theorem dL_part_85 : decode cL_part 85 = .ok (.i2l, 1) := by decide +kernel
theorem dL_part_86 : decode cL_part 86 = .ok (.lcmp, 1) := by decide +kernel
theorem dL_part_87 : decode cL_part 87 = .ok (.ifCond .gt 5, 3) := by decide +kernel
theorem dL_part_90 : decode cL_part 90 = .ok (.iconst 0, 1) := by decide +kernel
theorem dL_part_91 : decode cL_part 91 = .ok (.ireturn, 1) := by decide +kernel
theorem dL_part_92 : decode cL_part 92 = .ok (.lload 7, 2) := by decide +kernel
theorem dL_part_94 : decode cL_part 94 = .ok (.lstore 4, 2) := by decide +kernel
theorem dL_part_96 : decode cL_part 96 = .ok (.iinc 6 1, 3) := by decide +kernel
theorem dL_part_99 : decode cL_part 99 = .ok (.goto (-91), 3) := by decide +kernel
theorem dL_part_102 : decode cL_part 102 = .ok (.aload_n 0, 1) := by decide +kernel
theorem dL_part_103 : decode cL_part 103 = .ok (.iload_n 1, 1) := by decide +kernel
theorem dL_part_104 : decode cL_part 104 = .ok (.iload_n 2, 1) := by decide +kernel
theorem dL_part_105 : decode cL_part 105 = .ok (.iload_n 3, 1) := by decide +kernel
theorem dL_part_106 : decode cL_part 106 = .ok (.invokestatic 218, 3) := by decide +kernel
theorem dL_part_109 : decode cL_part 109 = .ok (.lstore 6, 2) := by decide +kernel
theorem dL_part_111 : decode cL_part 111 = .ok (.aload_n 0, 1) := by decide +kernel
theorem dL_part_112 : decode cL_part 112 = .ok (.iload_n 1, 1) := by decide +kernel
theorem dL_part_113 : decode cL_part 113 = .ok (.iload_n 2, 1) := by decide +kernel
theorem dL_part_114 : decode cL_part 114 = .ok (.iload_n 3, 1) := by decide +kernel
theorem dL_part_115 : decode cL_part 115 = .ok (.invokestatic 214, 3) := by decide +kernel
theorem dL_part_118 : decode cL_part 118 = .ok (.lstore 8, 2) := by decide +kernel
theorem dL_part_120 : decode cL_part 120 = .ok (.lload 6, 2) := by decide +kernel
theorem dL_part_122 : decode cL_part 122 = .ok (.lconst 0, 1) := by decide +kernel
theorem dL_part_123 : decode cL_part 123 = .ok (.lcmp, 1) := by decide +kernel
theorem dL_part_124 : decode cL_part 124 = .ok (.ifCond .lt 21, 3) := by decide +kernel
theorem dL_part_127 : decode cL_part 127 = .ok (.aload_n 0, 1) := by decide +kernel
theorem dL_part_128 : decode cL_part 128 = .ok (.iload_n 1, 1) := by decide +kernel
theorem dL_part_129 : decode cL_part 129 = .ok (.iload_n 2, 1) := by decide +kernel
theorem dL_part_130 : decode cL_part 130 = .ok (.lload 8, 2) := by decide +kernel
theorem dL_part_132 : decode cL_part 132 = .ok (.l2i, 1) := by decide +kernel
theorem dL_part_133 : decode cL_part 133 = .ok (.invokestatic 209, 3) := by decide +kernel
theorem dL_part_136 : decode cL_part 136 = .ok (.lload 6, 2) := by decide +kernel
theorem dL_part_138 : decode cL_part 138 = .ok (.lcmp, 1) := by decide +kernel
theorem dL_part_139 : decode cL_part 139 = .ok (.ifCond .eq 18, 3) := by decide +kernel
theorem dL_part_142 : decode cL_part 142 = .ok (.goto 13, 3) := by decide +kernel
theorem dL_part_145 : decode cL_part 145 = .ok (.lload 8, 2) := by decide +kernel
theorem dL_part_147 : decode cL_part 147 = .ok (.iload_n 2, 1) := by decide +kernel
theorem dL_part_148 : decode cL_part 148 = .ok (.iload_n 1, 1) := by decide +kernel
theorem dL_part_149 : decode cL_part 149 = .ok (.isub, 1) := by decide +kernel
theorem dL_part_150 : decode cL_part 150 = .ok (.i2l, 1) := by decide +kernel
theorem dL_part_151 : decode cL_part 151 = .ok (.lcmp, 1) := by decide +kernel
theorem dL_part_152 : decode cL_part 152 = .ok (.ifCond .eq 5, 3) := by decide +kernel
theorem dL_part_155 : decode cL_part 155 = .ok (.iconst 0, 1) := by decide +kernel
theorem dL_part_156 : decode cL_part 156 = .ok (.ireturn, 1) := by decide +kernel
theorem dL_part_157 : decode cL_part 157 = .ok (.lconst 0, 1) := by decide +kernel
theorem dL_part_158 : decode cL_part 158 = .ok (.lstore 10, 2) := by decide +kernel
theorem dL_part_160 : decode cL_part 160 = .ok (.iconst 0, 1) := by decide +kernel
theorem dL_part_161 : decode cL_part 161 = .ok (.istore 12, 2) := by decide +kernel
theorem dL_part_163 : decode cL_part 163 = .ok (.aload_n 0, 1) := by decide +kernel
theorem dL_part_164 : decode cL_part 164 = .ok (.iload_n 1, 1) := by decide +kernel
theorem dL_part_165 : decode cL_part 165 = .ok (.iload_n 2, 1) := by decide +kernel
theorem dL_part_166 : decode cL_part 166 = .ok (.iload 12, 2) := by decide +kernel
theorem dL_part_168 : decode cL_part 168 = .ok (.invokestatic 220, 3) := by decide +kernel
theorem dL_part_171 : decode cL_part 171 = .ok (.lconst 0, 1) := by decide +kernel
theorem dL_part_172 : decode cL_part 172 = .ok (.lcmp, 1) := by decide +kernel
theorem dL_part_173 : decode cL_part 173 = .ok (.ifCond .lt 73, 3) := by decide +kernel
theorem dL_part_176 : decode cL_part 176 = .ok (.aload_n 0, 1) := by decide +kernel
theorem dL_part_177 : decode cL_part 177 = .ok (.iload_n 1, 1) := by decide +kernel
theorem dL_part_178 : decode cL_part 178 = .ok (.iload_n 2, 1) := by decide +kernel
theorem dL_part_179 : decode cL_part 179 = .ok (.aload_n 0, 1) := by decide +kernel
theorem dL_part_180 : decode cL_part 180 = .ok (.iload_n 1, 1) := by decide +kernel
theorem dL_part_181 : decode cL_part 181 = .ok (.iload_n 2, 1) := by decide +kernel
theorem dL_part_182 : decode cL_part 182 = .ok (.iload 12, 2) := by decide +kernel
theorem dL_part_184 : decode cL_part 184 = .ok (.invokestatic 220, 3) := by decide +kernel
theorem dL_part_187 : decode cL_part 187 = .ok (.l2i, 1) := by decide +kernel
theorem dL_part_188 : decode cL_part 188 = .ok (.invokestatic 216, 3) := by decide +kernel
theorem dL_part_191 : decode cL_part 191 = .ok (.lstore 13, 2) := by decide +kernel
theorem dL_part_193 : decode cL_part 193 = .ok (.lload 10, 2) := by decide +kernel
theorem dL_part_195 : decode cL_part 195 = .ok (.lload 13, 2) := by decide +kernel
theorem dL_part_197 : decode cL_part 197 = .ok (.ladd, 1) := by decide +kernel
theorem dL_part_198 : decode cL_part 198 = .ok (.lstore 10, 2) := by decide +kernel
theorem dL_part_200 : decode cL_part 200 = .ok (.aload_n 0, 1) := by decide +kernel
theorem dL_part_201 : decode cL_part 201 = .ok (.iload_n 1, 1) := by decide +kernel
theorem dL_part_202 : decode cL_part 202 = .ok (.iload_n 2, 1) := by decide +kernel
theorem dL_part_203 : decode cL_part 203 = .ok (.iload 12, 2) := by decide +kernel
theorem dL_part_205 : decode cL_part 205 = .ok (.iconst 1, 1) := by decide +kernel
theorem dL_part_206 : decode cL_part 206 = .ok (.iadd, 1) := by decide +kernel
theorem dL_part_207 : decode cL_part 207 = .ok (.invokestatic 220, 3) := by decide +kernel
theorem dL_part_210 : decode cL_part 210 = .ok (.lconst 0, 1) := by decide +kernel
theorem dL_part_211 : decode cL_part 211 = .ok (.lcmp, 1) := by decide +kernel
theorem dL_part_212 : decode cL_part 212 = .ok (.ifCond .lt 28, 3) := by decide +kernel
theorem dL_part_215 : decode cL_part 215 = .ok (.aload_n 0, 1) := by decide +kernel
theorem dL_part_216 : decode cL_part 216 = .ok (.iload_n 1, 1) := by decide +kernel
theorem dL_part_217 : decode cL_part 217 = .ok (.iload_n 2, 1) := by decide +kernel
theorem dL_part_218 : decode cL_part 218 = .ok (.aload_n 0, 1) := by decide +kernel
theorem dL_part_219 : decode cL_part 219 = .ok (.iload_n 1, 1) := by decide +kernel
theorem dL_part_220 : decode cL_part 220 = .ok (.iload_n 2, 1) := by decide +kernel
theorem dL_part_221 : decode cL_part 221 = .ok (.iload 12, 2) := by decide +kernel
theorem dL_part_223 : decode cL_part 223 = .ok (.iconst 1, 1) := by decide +kernel
theorem dL_part_224 : decode cL_part 224 = .ok (.iadd, 1) := by decide +kernel
theorem dL_part_225 : decode cL_part 225 = .ok (.invokestatic 220, 3) := by decide +kernel
theorem dL_part_228 : decode cL_part 228 = .ok (.l2i, 1) := by decide +kernel
theorem dL_part_229 : decode cL_part 229 = .ok (.invokestatic 216, 3) := by decide +kernel
theorem dL_part_232 : decode cL_part 232 = .ok (.lload 13, 2) := by decide +kernel
theorem dL_part_234 : decode cL_part 234 = .ok (.lcmp, 1) := by decide +kernel
theorem dL_part_235 : decode cL_part 235 = .ok (.ifCond .le 5, 3) := by decide +kernel
theorem dL_part_238 : decode cL_part 238 = .ok (.iconst 0, 1) := by decide +kernel
theorem dL_part_239 : decode cL_part 239 = .ok (.ireturn, 1) := by decide +kernel
theorem dL_part_240 : decode cL_part 240 = .ok (.iinc 12 1, 3) := by decide +kernel
theorem dL_part_243 : decode cL_part 243 = .ok (.goto (-80), 3) := by decide +kernel
theorem dL_part_246 : decode cL_part 246 = .ok (.lload 10, 2) := by decide +kernel
theorem dL_part_248 : decode cL_part 248 = .ok (.iload_n 2, 1) := by decide +kernel
theorem dL_part_249 : decode cL_part 249 = .ok (.iload_n 1, 1) := by decide +kernel
theorem dL_part_250 : decode cL_part 250 = .ok (.isub, 1) := by decide +kernel
theorem dL_part_251 : decode cL_part 251 = .ok (.i2l, 1) := by decide +kernel
theorem dL_part_252 : decode cL_part 252 = .ok (.lcmp, 1) := by decide +kernel
theorem dL_part_253 : decode cL_part 253 = .ok (.ifCond .ne 7, 3) := by decide +kernel
theorem dL_part_256 : decode cL_part 256 = .ok (.iconst 1, 1) := by decide +kernel
theorem dL_part_257 : decode cL_part 257 = .ok (.goto 4, 3) := by decide +kernel
theorem dL_part_260 : decode cL_part 260 = .ok (.iconst 0, 1) := by decide +kernel
theorem dL_part_261 : decode cL_part 261 = .ok (.ireturn, 1) := by decide +kernel
theorem dL_fits_0 : decode cL_fits 0 = .ok (.aload_n 0, 1) := by decide +kernel
theorem dL_fits_1 : decode cL_fits 1 = .ok (.iconst 0, 1) := by decide +kernel
theorem dL_fits_2 : decode cL_fits 2 = .ok (.invokestatic 158, 3) := by decide +kernel
theorem dL_fits_5 : decode cL_fits 5 = .ok (.l2i, 1) := by decide +kernel
theorem dL_fits_6 : decode cL_fits 6 = .ok (.istore_n 2, 1) := by decide +kernel
theorem dL_fits_7 : decode cL_fits 7 = .ok (.aload_n 0, 1) := by decide +kernel
theorem dL_fits_8 : decode cL_fits 8 = .ok (.invokestatic 223, 3) := by decide +kernel
theorem dL_fits_11 : decode cL_fits 11 = .ok (.lconst 1, 1) := by decide +kernel
theorem dL_fits_12 : decode cL_fits 12 = .ok (.lcmp, 1) := by decide +kernel
theorem dL_fits_13 : decode cL_fits 13 = .ok (.ifCond .ne 10, 3) := by decide +kernel
theorem dL_fits_16 : decode cL_fits 16 = .ok (.aload_n 0, 1) := by decide +kernel
theorem dL_fits_17 : decode cL_fits 17 = .ok (.invokestatic 225, 3) := by decide +kernel
theorem dL_fits_20 : decode cL_fits 20 = .ok (.ifCond .ne 5, 3) := by decide +kernel
theorem dL_fits_23 : decode cL_fits 23 = .ok (.iconst 0, 1) := by decide +kernel
theorem dL_fits_24 : decode cL_fits 24 = .ok (.ireturn, 1) := by decide +kernel
theorem dL_fits_25 : decode cL_fits 25 = .ok (.iload_n 1, 1) := by decide +kernel
theorem dL_fits_26 : decode cL_fits 26 = .ok (.iload_n 2, 1) := by decide +kernel
theorem dL_fits_27 : decode cL_fits 27 = .ok (.iconst 1, 1) := by decide +kernel
theorem dL_fits_28 : decode cL_fits 28 = .ok (.iadd, 1) := by decide +kernel
theorem dL_fits_29 : decode cL_fits 29 = .ok (.invokestatic 167, 3) := by decide +kernel
theorem dL_fits_32 : decode cL_fits 32 = .ok (.istore_n 3, 1) := by decide +kernel
theorem dL_fits_33 : decode cL_fits 33 = .ok (.iload_n 3, 1) := by decide +kernel
theorem dL_fits_34 : decode cL_fits 34 = .ok (.iload_n 1, 1) := by decide +kernel
theorem dL_fits_35 : decode cL_fits 35 = .ok (.bipush 7, 2) := by decide +kernel
theorem dL_fits_37 : decode cL_fits 37 = .ok (.ishr, 1) := by decide +kernel
theorem dL_fits_38 : decode cL_fits 38 = .ok (.iload_n 2, 1) := by decide +kernel
theorem dL_fits_39 : decode cL_fits 39 = .ok (.iload_n 3, 1) := by decide +kernel
theorem dL_fits_40 : decode cL_fits 40 = .ok (.isub, 1) := by decide +kernel
theorem dL_fits_41 : decode cL_fits 41 = .ok (.iconst 1, 1) := by decide +kernel
theorem dL_fits_42 : decode cL_fits 42 = .ok (.iadd, 1) := by decide +kernel
theorem dL_fits_43 : decode cL_fits 43 = .ok (.invokestatic 167, 3) := by decide +kernel
theorem dL_fits_46 : decode cL_fits 46 = .ok (.iadd, 1) := by decide +kernel
theorem dL_fits_47 : decode cL_fits 47 = .ok (.istore 4, 2) := by decide +kernel
theorem dL_fits_49 : decode cL_fits 49 = .ok (.aload_n 0, 1) := by decide +kernel
theorem dL_fits_50 : decode cL_fits 50 = .ok (.iload_n 3, 1) := by decide +kernel
theorem dL_fits_51 : decode cL_fits 51 = .ok (.iload 4, 2) := by decide +kernel
theorem dL_fits_53 : decode cL_fits 53 = .ok (.iload_n 1, 1) := by decide +kernel
theorem dL_fits_54 : decode cL_fits 54 = .ok (.iconst 3, 1) := by decide +kernel
theorem dL_fits_55 : decode cL_fits 55 = .ok (.ishr, 1) := by decide +kernel
theorem dL_fits_56 : decode cL_fits 56 = .ok (.bipush 32, 2) := by decide +kernel
theorem dL_fits_58 : decode cL_fits 58 = .ok (.invokestatic 167, 3) := by decide +kernel
theorem dL_fits_61 : decode cL_fits 61 = .ok (.invokestatic 229, 3) := by decide +kernel
theorem dL_fits_64 : decode cL_fits 64 = .ok (.ifCond .eq 20, 3) := by decide +kernel
theorem dL_fits_67 : decode cL_fits 67 = .ok (.aload_n 0, 1) := by decide +kernel
theorem dL_fits_68 : decode cL_fits 68 = .ok (.iconst 0, 1) := by decide +kernel
theorem dL_fits_69 : decode cL_fits 69 = .ok (.iload_n 2, 1) := by decide +kernel
theorem dL_fits_70 : decode cL_fits 70 = .ok (.iload_n 1, 1) := by decide +kernel
theorem dL_fits_71 : decode cL_fits 71 = .ok (.iconst 5, 1) := by decide +kernel
theorem dL_fits_72 : decode cL_fits 72 = .ok (.ishr, 1) := by decide +kernel
theorem dL_fits_73 : decode cL_fits 73 = .ok (.bipush 32, 2) := by decide +kernel
theorem dL_fits_75 : decode cL_fits 75 = .ok (.invokestatic 167, 3) := by decide +kernel
theorem dL_fits_78 : decode cL_fits 78 = .ok (.invokestatic 229, 3) := by decide +kernel
theorem dL_fits_81 : decode cL_fits 81 = .ok (.ifCond .ne 5, 3) := by decide +kernel
theorem dL_fits_84 : decode cL_fits 84 = .ok (.iconst 0, 1) := by decide +kernel
theorem dL_fits_85 : decode cL_fits 85 = .ok (.ireturn, 1) := by decide +kernel
theorem dL_fits_86 : decode cL_fits 86 = .ok (.iconst 0, 1) := by decide +kernel
theorem dL_fits_87 : decode cL_fits 87 = .ok (.istore 5, 2) := by decide +kernel
theorem dL_fits_89 : decode cL_fits 89 = .ok (.iload 5, 2) := by decide +kernel
theorem dL_fits_91 : decode cL_fits 91 = .ok (.iload_n 2, 1) := by decide +kernel
theorem dL_fits_92 : decode cL_fits 92 = .ok (.if_icmp .ge 107, 3) := by decide +kernel
theorem dL_fits_95 : decode cL_fits 95 = .ok (.aload_n 0, 1) := by decide +kernel
theorem dL_fits_96 : decode cL_fits 96 = .ok (.iload 5, 2) := by decide +kernel
theorem dL_fits_98 : decode cL_fits 98 = .ok (.invokestatic 161, 3) := by decide +kernel
theorem dL_fits_101 : decode cL_fits 101 = .ok (.aload_n 0, 1) := by decide +kernel
theorem dL_fits_102 : decode cL_fits 102 = .ok (.iload 5, 2) := by decide +kernel
theorem dL_fits_104 : decode cL_fits 104 = .ok (.invokestatic 233, 3) := by decide +kernel
theorem dL_fits_107 : decode cL_fits 107 = .ok (.lcmp, 1) := by decide +kernel
theorem dL_fits_108 : decode cL_fits 108 = .ok (.ifCond .ne 36, 3) := by decide +kernel
theorem dL_fits_111 : decode cL_fits 111 = .ok (.aload_n 0, 1) := by decide +kernel
theorem dL_fits_112 : decode cL_fits 112 = .ok (.aload_n 0, 1) := by decide +kernel
theorem dL_fits_113 : decode cL_fits 113 = .ok (.iload 5, 2) := by decide +kernel
theorem dL_fits_115 : decode cL_fits 115 = .ok (.invokestatic 161, 3) := by decide +kernel
theorem dL_fits_118 : decode cL_fits 118 = .ok (.l2i, 1) := by decide +kernel
theorem dL_fits_119 : decode cL_fits 119 = .ok (.aload_n 0, 1) := by decide +kernel
theorem dL_fits_120 : decode cL_fits 120 = .ok (.iconst 0, 1) := by decide +kernel
theorem dL_fits_121 : decode cL_fits 121 = .ok (.iload 5, 2) := by decide +kernel
theorem dL_fits_123 : decode cL_fits 123 = .ok (.aload_n 0, 1) := by decide +kernel
theorem dL_fits_124 : decode cL_fits 124 = .ok (.iload 5, 2) := by decide +kernel
theorem dL_fits_126 : decode cL_fits 126 = .ok (.invokestatic 161, 3) := by decide +kernel
theorem dL_fits_129 : decode cL_fits 129 = .ok (.l2i, 1) := by decide +kernel
theorem dL_fits_130 : decode cL_fits 130 = .ok (.invokestatic 216, 3) := by decide +kernel
theorem dL_fits_133 : decode cL_fits 133 = .ok (.l2i, 1) := by decide +kernel
theorem dL_fits_134 : decode cL_fits 134 = .ok (.invokestatic 235, 3) := by decide +kernel
theorem dL_fits_137 : decode cL_fits 137 = .ok (.iload 5, 2) := by decide +kernel
theorem dL_fits_139 : decode cL_fits 139 = .ok (.i2l, 1) := by decide +kernel
theorem dL_fits_140 : decode cL_fits 140 = .ok (.lcmp, 1) := by decide +kernel
theorem dL_fits_141 : decode cL_fits 141 = .ok (.ifCond .eq 5, 3) := by decide +kernel
theorem dL_fits_144 : decode cL_fits 144 = .ok (.iconst 0, 1) := by decide +kernel
theorem dL_fits_145 : decode cL_fits 145 = .ok (.ireturn, 1) := by decide +kernel
theorem dL_fits_146 : decode cL_fits 146 = .ok (.aload_n 0, 1) := by decide +kernel
theorem dL_fits_147 : decode cL_fits 147 = .ok (.iload 5, 2) := by decide +kernel
theorem dL_fits_149 : decode cL_fits 149 = .ok (.invokestatic 237, 3) := by decide +kernel
theorem dL_fits_152 : decode cL_fits 152 = .ok (.l2i, 1) := by decide +kernel
theorem dL_fits_153 : decode cL_fits 153 = .ok (.istore 6, 2) := by decide +kernel
theorem dL_fits_155 : decode cL_fits 155 = .ok (.aload_n 0, 1) := by decide +kernel
theorem dL_fits_156 : decode cL_fits 156 = .ok (.iload 6, 2) := by decide +kernel
theorem dL_fits_158 : decode cL_fits 158 = .ok (.iconst 0, 1) := by decide +kernel
theorem dL_fits_159 : decode cL_fits 159 = .ok (.invokestatic 163, 3) := by decide +kernel
theorem dL_fits_162 : decode cL_fits 162 = .ok (.iload 5, 2) := by decide +kernel
theorem dL_fits_164 : decode cL_fits 164 = .ok (.i2l, 1) := by decide +kernel
theorem dL_fits_165 : decode cL_fits 165 = .ok (.lcmp, 1) := by decide +kernel
theorem dL_fits_166 : decode cL_fits 166 = .ok (.ifCond .gt 25, 3) := by decide +kernel
theorem dL_fits_169 : decode cL_fits 169 = .ok (.aload_n 0, 1) := by decide +kernel
theorem dL_fits_170 : decode cL_fits 170 = .ok (.iload 6, 2) := by decide +kernel
theorem dL_fits_172 : decode cL_fits 172 = .ok (.iconst 0, 1) := by decide +kernel
theorem dL_fits_173 : decode cL_fits 173 = .ok (.invokestatic 163, 3) := by decide +kernel
theorem dL_fits_176 : decode cL_fits 176 = .ok (.aload_n 0, 1) := by decide +kernel
theorem dL_fits_177 : decode cL_fits 177 = .ok (.iload 6, 2) := by decide +kernel
theorem dL_fits_179 : decode cL_fits 179 = .ok (.iconst 1, 1) := by decide +kernel
theorem dL_fits_180 : decode cL_fits 180 = .ok (.invokestatic 163, 3) := by decide +kernel
theorem dL_fits_183 : decode cL_fits 183 = .ok (.ladd, 1) := by decide +kernel
theorem dL_fits_184 : decode cL_fits 184 = .ok (.iload 5, 2) := by decide +kernel
theorem dL_fits_186 : decode cL_fits 186 = .ok (.i2l, 1) := by decide +kernel
theorem dL_fits_187 : decode cL_fits 187 = .ok (.lcmp, 1) := by decide +kernel
theorem dL_fits_188 : decode cL_fits 188 = .ok (.ifCond .gt 5, 3) := by decide +kernel
theorem dL_fits_191 : decode cL_fits 191 = .ok (.iconst 0, 1) := by decide +kernel
theorem dL_fits_192 : decode cL_fits 192 = .ok (.ireturn, 1) := by decide +kernel
theorem dL_fits_193 : decode cL_fits 193 = .ok (.iinc 5 1, 3) := by decide +kernel
theorem dL_fits_196 : decode cL_fits 196 = .ok (.goto (-107), 3) := by decide +kernel
theorem dL_fits_199 : decode cL_fits 199 = .ok (.lconst 0, 1) := by decide +kernel
theorem dL_fits_200 : decode cL_fits 200 = .ok (.lstore 5, 2) := by decide +kernel
theorem dL_fits_202 : decode cL_fits 202 = .ok (.iconst 0, 1) := by decide +kernel
theorem dL_fits_203 : decode cL_fits 203 = .ok (.istore 7, 2) := by decide +kernel
theorem dL_fits_205 : decode cL_fits 205 = .ok (.iload 7, 2) := by decide +kernel
theorem dL_fits_207 : decode cL_fits 207 = .ok (.i2l, 1) := by decide +kernel
theorem dL_fits_208 : decode cL_fits 208 = .ok (.aload_n 0, 1) := by decide +kernel
theorem dL_fits_209 : decode cL_fits 209 = .ok (.iconst 4, 1) := by decide +kernel
theorem dL_fits_210 : decode cL_fits 210 = .ok (.invokestatic 158, 3) := by decide +kernel
theorem dL_fits_213 : decode cL_fits 213 = .ok (.lcmp, 1) := by decide +kernel
theorem dL_fits_214 : decode cL_fits 214 = .ok (.ifCond .ge 97, 3) := by decide +kernel
theorem dL_fits_217 : decode cL_fits 217 = .ok (.aload_n 0, 1) := by decide +kernel
theorem dL_fits_218 : decode cL_fits 218 = .ok (.iload 7, 2) := by decide +kernel
theorem dL_fits_220 : decode cL_fits 220 = .ok (.iconst 0, 1) := by decide +kernel
theorem dL_fits_221 : decode cL_fits 221 = .ok (.invokestatic 163, 3) := by decide +kernel
theorem dL_fits_224 : decode cL_fits 224 = .ok (.l2i, 1) := by decide +kernel
theorem dL_fits_225 : decode cL_fits 225 = .ok (.istore 8, 2) := by decide +kernel
theorem dL_fits_227 : decode cL_fits 227 = .ok (.aload_n 0, 1) := by decide +kernel
theorem dL_fits_228 : decode cL_fits 228 = .ok (.iload 7, 2) := by decide +kernel
theorem dL_fits_230 : decode cL_fits 230 = .ok (.iconst 1, 1) := by decide +kernel
theorem dL_fits_231 : decode cL_fits 231 = .ok (.invokestatic 163, 3) := by decide +kernel
theorem dL_fits_234 : decode cL_fits 234 = .ok (.l2i, 1) := by decide +kernel
theorem dL_fits_235 : decode cL_fits 235 = .ok (.istore 9, 2) := by decide +kernel
theorem dL_fits_237 : decode cL_fits 237 = .ok (.lload 5, 2) := by decide +kernel
theorem dL_fits_239 : decode cL_fits 239 = .ok (.aload_n 0, 1) := by decide +kernel
theorem dL_fits_240 : decode cL_fits 240 = .ok (.iload 7, 2) := by decide +kernel
theorem dL_fits_242 : decode cL_fits 242 = .ok (.iconst 2, 1) := by decide +kernel
theorem dL_fits_243 : decode cL_fits 243 = .ok (.invokestatic 163, 3) := by decide +kernel
theorem dL_fits_246 : decode cL_fits 246 = .ok (.ladd, 1) := by decide +kernel
theorem dL_fits_247 : decode cL_fits 247 = .ok (.lstore 5, 2) := by decide +kernel
theorem dL_fits_249 : decode cL_fits 249 = .ok (.aload_n 0, 1) := by decide +kernel
theorem dL_fits_250 : decode cL_fits 250 = .ok (.iload 7, 2) := by decide +kernel
theorem dL_fits_252 : decode cL_fits 252 = .ok (.iconst 3, 1) := by decide +kernel
theorem dL_fits_253 : decode cL_fits 253 = .ok (.invokestatic 163, 3) := by decide +kernel
theorem dL_fits_256 : decode cL_fits 256 = .ok (.aload_n 0, 1) := by decide +kernel
theorem dL_fits_257 : decode cL_fits 257 = .ok (.iload 8, 2) := by decide +kernel
theorem dL_fits_259 : decode cL_fits 259 = .ok (.iload 8, 2) := by decide +kernel
theorem dL_fits_261 : decode cL_fits 261 = .ok (.iload 9, 2) := by decide +kernel
theorem dL_fits_263 : decode cL_fits 263 = .ok (.iadd, 1) := by decide +kernel
theorem dL_fits_264 : decode cL_fits 264 = .ok (.iload 9, 2) := by decide +kernel
theorem dL_fits_266 : decode cL_fits 266 = .ok (.iconst 1, 1) := by decide +kernel
theorem dL_fits_267 : decode cL_fits 267 = .ok (.isub, 1) := by decide +kernel
theorem dL_fits_268 : decode cL_fits 268 = .ok (.iconst 2, 1) := by decide +kernel
theorem dL_fits_269 : decode cL_fits 269 = .ok (.idiv, 1) := by decide +kernel
theorem dL_fits_270 : decode cL_fits 270 = .ok (.invokestatic 209, 3) := by decide +kernel
theorem dL_fits_273 : decode cL_fits 273 = .ok (.lcmp, 1) := by decide +kernel
theorem dL_fits_274 : decode cL_fits 274 = .ok (.ifCond .ne 29, 3) := by decide +kernel
theorem dL_fits_277 : decode cL_fits 277 = .ok (.aload_n 0, 1) := by decide +kernel
theorem dL_fits_278 : decode cL_fits 278 = .ok (.iload 7, 2) := by decide +kernel
theorem dL_fits_280 : decode cL_fits 280 = .ok (.iconst 4, 1) := by decide +kernel
theorem dL_fits_281 : decode cL_fits 281 = .ok (.invokestatic 163, 3) := by decide +kernel
theorem dL_fits_284 : decode cL_fits 284 = .ok (.aload_n 0, 1) := by decide +kernel
theorem dL_fits_285 : decode cL_fits 285 = .ok (.iload 8, 2) := by decide +kernel
theorem dL_fits_287 : decode cL_fits 287 = .ok (.iload 8, 2) := by decide +kernel
theorem dL_fits_289 : decode cL_fits 289 = .ok (.iload 9, 2) := by decide +kernel
theorem dL_fits_291 : decode cL_fits 291 = .ok (.iadd, 1) := by decide +kernel
theorem dL_fits_292 : decode cL_fits 292 = .ok (.iload 9, 2) := by decide +kernel
theorem dL_fits_294 : decode cL_fits 294 = .ok (.iconst 1, 1) := by decide +kernel
theorem dL_fits_295 : decode cL_fits 295 = .ok (.isub, 1) := by decide +kernel
theorem dL_fits_296 : decode cL_fits 296 = .ok (.invokestatic 209, 3) := by decide +kernel
theorem dL_fits_299 : decode cL_fits 299 = .ok (.lcmp, 1) := by decide +kernel
theorem dL_fits_300 : decode cL_fits 300 = .ok (.ifCond .eq 5, 3) := by decide +kernel
theorem dL_fits_303 : decode cL_fits 303 = .ok (.iconst 0, 1) := by decide +kernel
theorem dL_fits_304 : decode cL_fits 304 = .ok (.ireturn, 1) := by decide +kernel
theorem dL_fits_305 : decode cL_fits 305 = .ok (.iinc 7 1, 3) := by decide +kernel
theorem dL_fits_308 : decode cL_fits 308 = .ok (.goto (-103), 3) := by decide +kernel
theorem dL_fits_311 : decode cL_fits 311 = .ok (.iconst 0, 1) := by decide +kernel
theorem dL_fits_312 : decode cL_fits 312 = .ok (.istore 7, 2) := by decide +kernel
theorem dL_fits_314 : decode cL_fits 314 = .ok (.aload_n 0, 1) := by decide +kernel
theorem dL_fits_315 : decode cL_fits 315 = .ok (.iload 7, 2) := by decide +kernel
theorem dL_fits_317 : decode cL_fits 317 = .ok (.iconst 1, 1) := by decide +kernel
theorem dL_fits_318 : decode cL_fits 318 = .ok (.iadd, 1) := by decide +kernel
theorem dL_fits_319 : decode cL_fits 319 = .ok (.invokestatic 239, 3) := by decide +kernel
theorem dL_fits_322 : decode cL_fits 322 = .ok (.lconst 0, 1) := by decide +kernel
theorem dL_fits_323 : decode cL_fits 323 = .ok (.lcmp, 1) := by decide +kernel
theorem dL_fits_324 : decode cL_fits 324 = .ok (.ifCond .lt 41, 3) := by decide +kernel
theorem dL_fits_327 : decode cL_fits 327 = .ok (.aload_n 0, 1) := by decide +kernel
theorem dL_fits_328 : decode cL_fits 328 = .ok (.aload_n 0, 1) := by decide +kernel
theorem dL_fits_329 : decode cL_fits 329 = .ok (.iload 7, 2) := by decide +kernel
theorem dL_fits_331 : decode cL_fits 331 = .ok (.invokestatic 239, 3) := by decide +kernel
theorem dL_fits_334 : decode cL_fits 334 = .ok (.l2i, 1) := by decide +kernel
theorem dL_fits_335 : decode cL_fits 335 = .ok (.iconst 2, 1) := by decide +kernel
theorem dL_fits_336 : decode cL_fits 336 = .ok (.invokestatic 163, 3) := by decide +kernel
theorem dL_fits_339 : decode cL_fits 339 = .ok (.aload_n 0, 1) := by decide +kernel
theorem dL_fits_340 : decode cL_fits 340 = .ok (.aload_n 0, 1) := by decide +kernel
theorem dL_fits_341 : decode cL_fits 341 = .ok (.iload 7, 2) := by decide +kernel
theorem dL_fits_343 : decode cL_fits 343 = .ok (.iconst 1, 1) := by decide +kernel
theorem dL_fits_344 : decode cL_fits 344 = .ok (.iadd, 1) := by decide +kernel
theorem dL_fits_345 : decode cL_fits 345 = .ok (.invokestatic 239, 3) := by decide +kernel
theorem dL_fits_348 : decode cL_fits 348 = .ok (.l2i, 1) := by decide +kernel
theorem dL_fits_349 : decode cL_fits 349 = .ok (.iconst 2, 1) := by decide +kernel
theorem dL_fits_350 : decode cL_fits 350 = .ok (.invokestatic 163, 3) := by decide +kernel
theorem dL_fits_353 : decode cL_fits 353 = .ok (.lcmp, 1) := by decide +kernel
theorem dL_fits_354 : decode cL_fits 354 = .ok (.ifCond .ge 5, 3) := by decide +kernel
theorem dL_fits_357 : decode cL_fits 357 = .ok (.iconst 0, 1) := by decide +kernel
theorem dL_fits_358 : decode cL_fits 358 = .ok (.ireturn, 1) := by decide +kernel
theorem dL_fits_359 : decode cL_fits 359 = .ok (.iinc 7 1, 3) := by decide +kernel
theorem dL_fits_362 : decode cL_fits 362 = .ok (.goto (-48), 3) := by decide +kernel
theorem dL_fits_365 : decode cL_fits 365 = .ok (.lload 5, 2) := by decide +kernel
theorem dL_fits_367 : decode cL_fits 367 = .ok (.aload_n 0, 1) := by decide +kernel
theorem dL_fits_368 : decode cL_fits 368 = .ok (.iconst 1, 1) := by decide +kernel
theorem dL_fits_369 : decode cL_fits 369 = .ok (.invokestatic 158, 3) := by decide +kernel
theorem dL_fits_372 : decode cL_fits 372 = .ok (.lcmp, 1) := by decide +kernel
theorem dL_fits_373 : decode cL_fits 373 = .ok (.ifCond .ne 7, 3) := by decide +kernel
theorem dL_fits_376 : decode cL_fits 376 = .ok (.iconst 1, 1) := by decide +kernel
theorem dL_fits_377 : decode cL_fits 377 = .ok (.goto 4, 3) := by decide +kernel
theorem dL_fits_380 : decode cL_fits 380 = .ok (.iconst 0, 1) := by decide +kernel
theorem dL_fits_381 : decode cL_fits 381 = .ok (.ireturn, 1) := by decide +kernel
theorem dL_law_0 : decode cL_law 0 = .ok (.new 8, 3) := by decide +kernel
theorem dL_law_3 : decode cL_law 3 = .ok (.dup, 1) := by decide +kernel
theorem dL_law_4 : decode cL_law 4 = .ok (.invokespecial 241, 3) := by decide +kernel
theorem dL_law_7 : decode cL_law 7 = .ok (.astore_n 1, 1) := by decide +kernel
theorem dL_law_8 : decode cL_law 8 = .ok (.iconst 0, 1) := by decide +kernel
theorem dL_law_9 : decode cL_law 9 = .ok (.istore_n 2, 1) := by decide +kernel
theorem dL_law_10 : decode cL_law 10 = .ok (.iload_n 2, 1) := by decide +kernel
theorem dL_law_11 : decode cL_law 11 = .ok (.iconst 4, 1) := by decide +kernel
theorem dL_law_12 : decode cL_law 12 = .ok (.if_icmp .ge 28, 3) := by decide +kernel
theorem dL_law_15 : decode cL_law 15 = .ok (.aload_n 1, 1) := by decide +kernel
theorem dL_law_16 : decode cL_law 16 = .ok (.aload_n 0, 1) := by decide +kernel
theorem dL_law_17 : decode cL_law 17 = .ok (.iconst 0, 1) := by decide +kernel
theorem dL_law_18 : decode cL_law 18 = .ok (.invokestatic 242, 3) := by decide +kernel
theorem dL_law_21 : decode cL_law 21 = .ok (.iconst 5, 1) := by decide +kernel
theorem dL_law_22 : decode cL_law 22 = .ok (.iload_n 2, 1) := by decide +kernel
theorem dL_law_23 : decode cL_law 23 = .ok (.imul, 1) := by decide +kernel
theorem dL_law_24 : decode cL_law 24 = .ok (.ishr, 1) := by decide +kernel
theorem dL_law_25 : decode cL_law 25 = .ok (.bipush 32, 2) := by decide +kernel
theorem dL_law_27 : decode cL_law 27 = .ok (.invokestatic 167, 3) := by decide +kernel
theorem dL_law_30 : decode cL_law 30 = .ok (.invokestatic 175, 3) := by decide +kernel
theorem dL_law_33 : decode cL_law 33 = .ok (.pop2, 1) := by decide +kernel
theorem dL_law_34 : decode cL_law 34 = .ok (.iinc 2 1, 3) := by decide +kernel
theorem dL_law_37 : decode cL_law 37 = .ok (.goto (-27), 3) := by decide +kernel
theorem dL_law_40 : decode cL_law 40 = .ok (.iconst 1, 1) := by decide +kernel
theorem dL_law_41 : decode cL_law 41 = .ok (.istore_n 2, 1) := by decide +kernel
theorem dL_law_42 : decode cL_law 42 = .ok (.iload_n 2, 1) := by decide +kernel
theorem dL_law_43 : decode cL_law 43 = .ok (.bipush 24, 2) := by decide +kernel
theorem dL_law_45 : decode cL_law 45 = .ok (.if_icmp .ge 196, 3) := by decide +kernel
theorem dL_law_48 : decode cL_law 48 = .ok (.aload_n 0, 1) := by decide +kernel
theorem dL_law_49 : decode cL_law 49 = .ok (.iload_n 2, 1) := by decide +kernel
theorem dL_law_50 : decode cL_law 50 = .ok (.invokestatic 242, 3) := by decide +kernel
theorem dL_law_53 : decode cL_law 53 = .ok (.istore_n 3, 1) := by decide +kernel
theorem dL_law_54 : decode cL_law 54 = .ok (.aload_n 1, 1) := by decide +kernel
theorem dL_law_55 : decode cL_law 55 = .ok (.invokestatic 246, 3) := by decide +kernel
theorem dL_law_58 : decode cL_law 58 = .ok (.lstore 4, 2) := by decide +kernel
theorem dL_law_60 : decode cL_law 60 = .ok (.aload_n 1, 1) := by decide +kernel
theorem dL_law_61 : decode cL_law 61 = .ok (.bipush 10, 2) := by decide +kernel
theorem dL_law_63 : decode cL_law 63 = .ok (.invokestatic 158, 3) := by decide +kernel
theorem dL_law_66 : decode cL_law 66 = .ok (.lstore 6, 2) := by decide +kernel
theorem dL_law_68 : decode cL_law 68 = .ok (.aload_n 1, 1) := by decide +kernel
theorem dL_law_69 : decode cL_law 69 = .ok (.iload_n 3, 1) := by decide +kernel
theorem dL_law_70 : decode cL_law 70 = .ok (.invokestatic 249, 3) := by decide +kernel
theorem dL_law_73 : decode cL_law 73 = .ok (.lstore 8, 2) := by decide +kernel
theorem dL_law_75 : decode cL_law 75 = .ok (.lload 8, 2) := by decide +kernel
theorem dL_law_77 : decode cL_law 77 = .ok (.lconst 0, 1) := by decide +kernel
theorem dL_law_78 : decode cL_law 78 = .ok (.lcmp, 1) := by decide +kernel
theorem dL_law_79 : decode cL_law 79 = .ok (.ifCond .ge 13, 3) := by decide +kernel
theorem dL_law_82 : decode cL_law 82 = .ok (.aload_n 1, 1) := by decide +kernel
theorem dL_law_83 : decode cL_law 83 = .ok (.invokestatic 246, 3) := by decide +kernel
theorem dL_law_86 : decode cL_law 86 = .ok (.lload 4, 2) := by decide +kernel
theorem dL_law_88 : decode cL_law 88 = .ok (.lcmp, 1) := by decide +kernel
theorem dL_law_89 : decode cL_law 89 = .ok (.ifCond .ne 14, 3) := by decide +kernel
theorem dL_law_92 : decode cL_law 92 = .ok (.aload_n 1, 1) := by decide +kernel
theorem dL_law_93 : decode cL_law 93 = .ok (.bipush 9, 2) := by decide +kernel
theorem dL_law_95 : decode cL_law 95 = .ok (.invokestatic 158, 3) := by decide +kernel
theorem dL_law_98 : decode cL_law 98 = .ok (.lconst 0, 1) := by decide +kernel
theorem dL_law_99 : decode cL_law 99 = .ok (.lcmp, 1) := by decide +kernel
theorem dL_law_100 : decode cL_law 100 = .ok (.ifCond .eq 5, 3) := by decide +kernel
theorem dL_law_103 : decode cL_law 103 = .ok (.iconst 0, 1) := by decide +kernel
theorem dL_law_104 : decode cL_law 104 = .ok (.ireturn, 1) := by decide +kernel
theorem dL_law_105 : decode cL_law 105 = .ok (.lload 8, 2) := by decide +kernel
theorem dL_law_107 : decode cL_law 107 = .ok (.lconst 0, 1) := by decide +kernel
theorem dL_law_108 : decode cL_law 108 = .ok (.lcmp, 1) := by decide +kernel
theorem dL_law_109 : decode cL_law 109 = .ok (.ifCond .lt 43, 3) := by decide +kernel
theorem dL_law_112 : decode cL_law 112 = .ok (.iload_n 2, 1) := by decide +kernel
theorem dL_law_113 : decode cL_law 113 = .ok (.iconst 3, 1) := by decide +kernel
theorem dL_law_114 : decode cL_law 114 = .ok (.irem, 1) := by decide +kernel
theorem dL_law_115 : decode cL_law 115 = .ok (.ifCond .ne 37, 3) := by decide +kernel
theorem dL_law_118 : decode cL_law 118 = .ok (.aload_n 1, 1) := by decide +kernel
theorem dL_law_119 : decode cL_law 119 = .ok (.invokestatic 252, 3) := by decide +kernel
theorem dL_law_122 : decode cL_law 122 = .ok (.lload 6, 2) := by decide +kernel
theorem dL_law_124 : decode cL_law 124 = .ok (.ldc2_w 254, 3) := by decide +kernel
theorem dL_law_127 : decode cL_law 127 = .ok (.invokestatic 256, 3) := by decide +kernel
theorem dL_law_130 : decode cL_law 130 = .ok (.lcmp, 1) := by decide +kernel
theorem dL_law_131 : decode cL_law 131 = .ok (.ifCond .ne 13, 3) := by decide +kernel
theorem dL_law_134 : decode cL_law 134 = .ok (.aload_n 1, 1) := by decide +kernel
theorem dL_law_135 : decode cL_law 135 = .ok (.invokestatic 246, 3) := by decide +kernel
theorem dL_law_138 : decode cL_law 138 = .ok (.lload 4, 2) := by decide +kernel
theorem dL_law_140 : decode cL_law 140 = .ok (.lcmp, 1) := by decide +kernel
theorem dL_law_141 : decode cL_law 141 = .ok (.ifCond .eq 5, 3) := by decide +kernel
theorem dL_law_144 : decode cL_law 144 = .ok (.iconst 0, 1) := by decide +kernel
theorem dL_law_145 : decode cL_law 145 = .ok (.ireturn, 1) := by decide +kernel
theorem dL_law_146 : decode cL_law 146 = .ok (.aload_n 1, 1) := by decide +kernel
theorem dL_law_147 : decode cL_law 147 = .ok (.iload_n 3, 1) := by decide +kernel
theorem dL_law_148 : decode cL_law 148 = .ok (.invokestatic 249, 3) := by decide +kernel
theorem dL_law_151 : decode cL_law 151 = .ok (.pop2, 1) := by decide +kernel
theorem dL_law_152 : decode cL_law 152 = .ok (.iload_n 2, 1) := by decide +kernel
theorem dL_law_153 : decode cL_law 153 = .ok (.iconst 5, 1) := by decide +kernel
theorem dL_law_154 : decode cL_law 154 = .ok (.irem, 1) := by decide +kernel
theorem dL_law_155 : decode cL_law 155 = .ok (.ifCond .ne 68, 3) := by decide +kernel
theorem dL_law_158 : decode cL_law 158 = .ok (.aload_n 1, 1) := by decide +kernel
theorem dL_law_159 : decode cL_law 159 = .ok (.invokestatic 246, 3) := by decide +kernel
theorem dL_law_162 : decode cL_law 162 = .ok (.lstore 10, 2) := by decide +kernel
theorem dL_law_164 : decode cL_law 164 = .ok (.aload_n 1, 1) := by decide +kernel
theorem dL_law_165 : decode cL_law 165 = .ok (.invokestatic 260, 3) := by decide +kernel
theorem dL_law_168 : decode cL_law 168 = .ok (.aload_n 1, 1) := by decide +kernel
theorem dL_law_169 : decode cL_law 169 = .ok (.iconst 0, 1) := by decide +kernel
theorem dL_law_170 : decode cL_law 170 = .ok (.invokestatic 158, 3) := by decide +kernel
theorem dL_law_173 : decode cL_law 173 = .ok (.lcmp, 1) := by decide +kernel
theorem dL_law_174 : decode cL_law 174 = .ok (.ifCond .eq 5, 3) := by decide +kernel
theorem dL_law_177 : decode cL_law 177 = .ok (.iconst 0, 1) := by decide +kernel
theorem dL_law_178 : decode cL_law 178 = .ok (.ireturn, 1) := by decide +kernel
theorem dL_law_179 : decode cL_law 179 = .ok (.aload_n 1, 1) := by decide +kernel
theorem dL_law_180 : decode cL_law 180 = .ok (.iload_n 3, 1) := by decide +kernel
theorem dL_law_181 : decode cL_law 181 = .ok (.iconst 1, 1) := by decide +kernel
theorem dL_law_182 : decode cL_law 182 = .ok (.iadd, 1) := by decide +kernel
theorem dL_law_183 : decode cL_law 183 = .ok (.invokestatic 249, 3) := by decide +kernel
theorem dL_law_186 : decode cL_law 186 = .ok (.pop2, 1) := by decide +kernel
theorem dL_law_187 : decode cL_law 187 = .ok (.aload_n 1, 1) := by decide +kernel
theorem dL_law_188 : decode cL_law 188 = .ok (.invokestatic 262, 3) := by decide +kernel
theorem dL_law_191 : decode cL_law 191 = .ok (.aload_n 1, 1) := by decide +kernel
theorem dL_law_192 : decode cL_law 192 = .ok (.iconst 0, 1) := by decide +kernel
theorem dL_law_193 : decode cL_law 193 = .ok (.invokestatic 158, 3) := by decide +kernel
theorem dL_law_196 : decode cL_law 196 = .ok (.lcmp, 1) := by decide +kernel
theorem dL_law_197 : decode cL_law 197 = .ok (.ifCond .ne 24, 3) := by decide +kernel
theorem dL_law_200 : decode cL_law 200 = .ok (.aload_n 1, 1) := by decide +kernel
theorem dL_law_201 : decode cL_law 201 = .ok (.invokestatic 246, 3) := by decide +kernel
theorem dL_law_204 : decode cL_law 204 = .ok (.lload 10, 2) := by decide +kernel
theorem dL_law_206 : decode cL_law 206 = .ok (.lcmp, 1) := by decide +kernel
theorem dL_law_207 : decode cL_law 207 = .ok (.ifCond .ne 14, 3) := by decide +kernel
theorem dL_law_210 : decode cL_law 210 = .ok (.aload_n 1, 1) := by decide +kernel
theorem dL_law_211 : decode cL_law 211 = .ok (.invokestatic 252, 3) := by decide +kernel
theorem dL_law_214 : decode cL_law 214 = .ok (.ldc2_w 264, 3) := by decide +kernel
theorem dL_law_217 : decode cL_law 217 = .ok (.lcmp, 1) := by decide +kernel
theorem dL_law_218 : decode cL_law 218 = .ok (.ifCond .eq 5, 3) := by decide +kernel
theorem dL_law_221 : decode cL_law 221 = .ok (.iconst 0, 1) := by decide +kernel
theorem dL_law_222 : decode cL_law 222 = .ok (.ireturn, 1) := by decide +kernel
theorem dL_law_223 : decode cL_law 223 = .ok (.aload_n 1, 1) := by decide +kernel
theorem dL_law_224 : decode cL_law 224 = .ok (.iload_n 3, 1) := by decide +kernel
theorem dL_law_225 : decode cL_law 225 = .ok (.iconst 3, 1) := by decide +kernel
theorem dL_law_226 : decode cL_law 226 = .ok (.ishr, 1) := by decide +kernel
theorem dL_law_227 : decode cL_law 227 = .ok (.invokestatic 266, 3) := by decide +kernel
theorem dL_law_230 : decode cL_law 230 = .ok (.ifCond .ne 5, 3) := by decide +kernel
theorem dL_law_233 : decode cL_law 233 = .ok (.iconst 0, 1) := by decide +kernel
theorem dL_law_234 : decode cL_law 234 = .ok (.ireturn, 1) := by decide +kernel
theorem dL_law_235 : decode cL_law 235 = .ok (.iinc 2 1, 3) := by decide +kernel
theorem dL_law_238 : decode cL_law 238 = .ok (.goto (-196), 3) := by decide +kernel
theorem dL_law_241 : decode cL_law 241 = .ok (.iconst 1, 1) := by decide +kernel
theorem dL_law_242 : decode cL_law 242 = .ok (.ireturn, 1) := by decide +kernel
