theorem dX0_deedsOf_16 : decode cX0_deedsOf 16 = .ok (.iload_n 3, 1) := by decide +kernel
theorem dX0_deedsOf_17 : decode cX0_deedsOf 17 = .ok (.iaload, 1) := by decide +kernel
theorem dX0_deedsOf_18 : decode cX0_deedsOf 18 = .ok (.iload_n 1, 1) := by decide +kernel
theorem dX0_deedsOf_19 : decode cX0_deedsOf 19 = .ok (.if_icmp .ne 9, 3) := by decide +kernel
theorem dX0_deedsOf_22 : decode cX0_deedsOf 22 = .ok (.iload_n 2, 1) := by decide +kernel
theorem dX0_deedsOf_23 : decode cX0_deedsOf 23 = .ok (.iconst 1, 1) := by decide +kernel
theorem dX0_deedsOf_24 : decode cX0_deedsOf 24 = .ok (.iload_n 3, 1) := by decide +kernel
theorem dX0_deedsOf_25 : decode cX0_deedsOf 25 = .ok (.ishl, 1) := by decide +kernel
theorem dX0_deedsOf_26 : decode cX0_deedsOf 26 = .ok (.ior, 1) := by decide +kernel
theorem dX0_deedsOf_27 : decode cX0_deedsOf 27 = .ok (.istore_n 2, 1) := by decide +kernel
theorem dX0_deedsOf_28 : decode cX0_deedsOf 28 = .ok (.iinc 3 1, 3) := by decide +kernel
theorem dX0_deedsOf_31 : decode cX0_deedsOf 31 = .ok (.goto (-27), 3) := by decide +kernel
theorem dX0_deedsOf_34 : decode cX0_deedsOf 34 = .ok (.iload_n 2, 1) := by decide +kernel
theorem dX0_deedsOf_35 : decode cX0_deedsOf 35 = .ok (.ireturn, 1) := by decide +kernel
theorem dX0_weightOf_0 : decode cX0_weightOf 0 = .ok (.iconst 0, 1) := by decide +kernel
theorem dX0_weightOf_1 : decode cX0_weightOf 1 = .ok (.istore_n 2, 1) := by decide +kernel
theorem dX0_weightOf_2 : decode cX0_weightOf 2 = .ok (.iconst 0, 1) := by decide +kernel
theorem dX0_weightOf_3 : decode cX0_weightOf 3 = .ok (.istore_n 3, 1) := by decide +kernel
theorem dX0_weightOf_4 : decode cX0_weightOf 4 = .ok (.iload_n 3, 1) := by decide +kernel
theorem dX0_weightOf_5 : decode cX0_weightOf 5 = .ok (.aload_n 0, 1) := by decide +kernel
theorem dX0_weightOf_6 : decode cX0_weightOf 6 = .ok (.getfield 37, 3) := by decide +kernel
theorem dX0_weightOf_9 : decode cX0_weightOf 9 = .ok (.if_icmp .ge 27, 3) := by decide +kernel
theorem dX0_weightOf_12 : decode cX0_weightOf 12 = .ok (.iload_n 1, 1) := by decide +kernel
theorem dX0_weightOf_13 : decode cX0_weightOf 13 = .ok (.iload_n 3, 1) := by decide +kernel
theorem dX0_weightOf_14 : decode cX0_weightOf 14 = .ok (.ishr, 1) := by decide +kernel
theorem dX0_weightOf_15 : decode cX0_weightOf 15 = .ok (.iconst 1, 1) := by decide +kernel
theorem dX0_weightOf_16 : decode cX0_weightOf 16 = .ok (.iand, 1) := by decide +kernel
theorem dX0_weightOf_17 : decode cX0_weightOf 17 = .ok (.iconst 1, 1) := by decide +kernel
theorem dX0_weightOf_18 : decode cX0_weightOf 18 = .ok (.if_icmp .ne 12, 3) := by decide +kernel
theorem dX0_weightOf_21 : decode cX0_weightOf 21 = .ok (.iload_n 2, 1) := by decide +kernel
theorem dX0_weightOf_22 : decode cX0_weightOf 22 = .ok (.aload_n 0, 1) := by decide +kernel
theorem dX0_weightOf_23 : decode cX0_weightOf 23 = .ok (.getfield 27, 3) := by decide +kernel
theorem dX0_weightOf_26 : decode cX0_weightOf 26 = .ok (.iload_n 3, 1) := by decide +kernel
theorem dX0_weightOf_27 : decode cX0_weightOf 27 = .ok (.iaload, 1) := by decide +kernel
theorem dX0_weightOf_28 : decode cX0_weightOf 28 = .ok (.iadd, 1) := by decide +kernel
theorem dX0_weightOf_29 : decode cX0_weightOf 29 = .ok (.istore_n 2, 1) := by decide +kernel
theorem dX0_weightOf_30 : decode cX0_weightOf 30 = .ok (.iinc 3 1, 3) := by decide +kernel
theorem dX0_weightOf_33 : decode cX0_weightOf 33 = .ok (.goto (-29), 3) := by decide +kernel
theorem dX0_weightOf_36 : decode cX0_weightOf 36 = .ok (.iload_n 2, 1) := by decide +kernel
theorem dX0_weightOf_37 : decode cX0_weightOf 37 = .ok (.ireturn, 1) := by decide +kernel
theorem dX0_priceOf_0 : decode cX0_priceOf 0 = .ok (.iconst 0, 1) := by decide +kernel
theorem dX0_priceOf_1 : decode cX0_priceOf 1 = .ok (.istore_n 2, 1) := by decide +kernel
theorem dX0_priceOf_2 : decode cX0_priceOf 2 = .ok (.iconst 0, 1) := by decide +kernel
theorem dX0_priceOf_3 : decode cX0_priceOf 3 = .ok (.istore_n 3, 1) := by decide +kernel
theorem dX0_priceOf_4 : decode cX0_priceOf 4 = .ok (.iload_n 3, 1) := by decide +kernel
theorem dX0_priceOf_5 : decode cX0_priceOf 5 = .ok (.aload_n 0, 1) := by decide +kernel
theorem dX0_priceOf_6 : decode cX0_priceOf 6 = .ok (.getfield 33, 3) := by decide +kernel
theorem dX0_priceOf_9 : decode cX0_priceOf 9 = .ok (.if_icmp .ge 27, 3) := by decide +kernel
theorem dX0_priceOf_12 : decode cX0_priceOf 12 = .ok (.iload_n 1, 1) := by decide +kernel
theorem dX0_priceOf_13 : decode cX0_priceOf 13 = .ok (.iload_n 3, 1) := by decide +kernel
theorem dX0_priceOf_14 : decode cX0_priceOf 14 = .ok (.ishr, 1) := by decide +kernel
theorem dX0_priceOf_15 : decode cX0_priceOf 15 = .ok (.iconst 1, 1) := by decide +kernel
theorem dX0_priceOf_16 : decode cX0_priceOf 16 = .ok (.iand, 1) := by decide +kernel
theorem dX0_priceOf_17 : decode cX0_priceOf 17 = .ok (.iconst 1, 1) := by decide +kernel
theorem dX0_priceOf_18 : decode cX0_priceOf 18 = .ok (.if_icmp .ne 12, 3) := by decide +kernel
theorem dX0_priceOf_21 : decode cX0_priceOf 21 = .ok (.iload_n 2, 1) := by decide +kernel
theorem dX0_priceOf_22 : decode cX0_priceOf 22 = .ok (.aload_n 0, 1) := by decide +kernel
theorem dX0_priceOf_23 : decode cX0_priceOf 23 = .ok (.getfield 15, 3) := by decide +kernel
theorem dX0_priceOf_26 : decode cX0_priceOf 26 = .ok (.iload_n 3, 1) := by decide +kernel
theorem dX0_priceOf_27 : decode cX0_priceOf 27 = .ok (.iaload, 1) := by decide +kernel
theorem dX0_priceOf_28 : decode cX0_priceOf 28 = .ok (.iadd, 1) := by decide +kernel
theorem dX0_priceOf_29 : decode cX0_priceOf 29 = .ok (.istore_n 2, 1) := by decide +kernel
theorem dX0_priceOf_30 : decode cX0_priceOf 30 = .ok (.iinc 3 1, 3) := by decide +kernel
theorem dX0_priceOf_33 : decode cX0_priceOf 33 = .ok (.goto (-29), 3) := by decide +kernel
theorem dX0_priceOf_36 : decode cX0_priceOf 36 = .ok (.iload_n 2, 1) := by decide +kernel
theorem dX0_priceOf_37 : decode cX0_priceOf 37 = .ok (.ireturn, 1) := by decide +kernel
theorem dX1_init_0 : decode cX1_init 0 = .ok (.aload_n 0, 1) := by decide +kernel
theorem dX1_init_1 : decode cX1_init 1 = .ok (.invokespecial 3, 3) := by decide +kernel
theorem dX1_init_4 : decode cX1_init 4 = .ok (.aload_n 0, 1) := by decide +kernel
theorem dX1_init_5 : decode cX1_init 5 = .ok (.sipush 200, 3) := by decide +kernel
theorem dX1_init_8 : decode cX1_init 8 = .ok (.newarray .char, 2) := by decide +kernel
theorem dX1_init_10 : decode cX1_init 10 = .ok (.putfield 9, 3) := by decide +kernel
theorem dX1_init_13 : decode cX1_init 13 = .ok (.return_, 1) := by decide +kernel
theorem dX1_add_0 : decode cX1_add 0 = .ok (.aload_n 0, 1) := by decide +kernel
theorem dX1_add_1 : decode cX1_add 1 = .ok (.getfield 15, 3) := by decide +kernel
theorem dX1_add_4 : decode cX1_add 4 = .ok (.aload_n 0, 1) := by decide +kernel
theorem dX1_add_5 : decode cX1_add 5 = .ok (.getfield 9, 3) := by decide +kernel
theorem dX1_add_8 : decode cX1_add 8 = .ok (.arraylength, 1) := by decide +kernel
theorem dX1_add_9 : decode cX1_add 9 = .ok (.if_icmp .lt 5, 3) := by decide +kernel
theorem dX1_add_12 : decode cX1_add 12 = .ok (.iconst 0, 1) := by decide +kernel
theorem dX1_add_13 : decode cX1_add 13 = .ok (.ireturn, 1) := by decide +kernel
theorem dX1_add_14 : decode cX1_add 14 = .ok (.aload_n 0, 1) := by decide +kernel
theorem dX1_add_15 : decode cX1_add 15 = .ok (.getfield 9, 3) := by decide +kernel
theorem dX1_add_18 : decode cX1_add 18 = .ok (.aload_n 0, 1) := by decide +kernel
theorem dX1_add_19 : decode cX1_add 19 = .ok (.getfield 15, 3) := by decide +kernel
theorem dX1_add_22 : decode cX1_add 22 = .ok (.iload_n 1, 1) := by decide +kernel
theorem dX1_add_23 : decode cX1_add 23 = .ok (.castore, 1) := by decide +kernel
theorem dX1_add_24 : decode cX1_add 24 = .ok (.aload_n 0, 1) := by decide +kernel
theorem dX1_add_25 : decode cX1_add 25 = .ok (.dup, 1) := by decide +kernel
theorem dX1_add_26 : decode cX1_add 26 = .ok (.getfield 15, 3) := by decide +kernel
theorem dX1_add_29 : decode cX1_add 29 = .ok (.iconst 1, 1) := by decide +kernel
theorem dX1_add_30 : decode cX1_add 30 = .ok (.iadd, 1) := by decide +kernel
theorem dX1_add_31 : decode cX1_add 31 = .ok (.putfield 15, 3) := by decide +kernel
theorem dX1_add_34 : decode cX1_add 34 = .ok (.iconst 1, 1) := by decide +kernel
theorem dX1_add_35 : decode cX1_add 35 = .ok (.ireturn, 1) := by decide +kernel
theorem dX1_clear_0 : decode cX1_clear 0 = .ok (.aload_n 0, 1) := by decide +kernel
theorem dX1_clear_1 : decode cX1_clear 1 = .ok (.iconst 0, 1) := by decide +kernel
theorem dX1_clear_2 : decode cX1_clear 2 = .ok (.putfield 15, 3) := by decide +kernel
theorem dX1_clear_5 : decode cX1_clear 5 = .ok (.return_, 1) := by decide +kernel
theorem dX1_letterAt_0 : decode cX1_letterAt 0 = .ok (.iload_n 1, 1) := by decide +kernel
theorem dX1_letterAt_1 : decode cX1_letterAt 1 = .ok (.ifCond .lt 20, 3) := by decide +kernel
theorem dX1_letterAt_4 : decode cX1_letterAt 4 = .ok (.iload_n 1, 1) := by decide +kernel
theorem dX1_letterAt_5 : decode cX1_letterAt 5 = .ok (.aload_n 0, 1) := by decide +kernel
theorem dX1_letterAt_6 : decode cX1_letterAt 6 = .ok (.getfield 15, 3) := by decide +kernel
theorem dX1_letterAt_9 : decode cX1_letterAt 9 = .ok (.if_icmp .ge 12, 3) := by decide +kernel
theorem dX1_letterAt_12 : decode cX1_letterAt 12 = .ok (.aload_n 0, 1) := by decide +kernel
theorem dX1_letterAt_13 : decode cX1_letterAt 13 = .ok (.getfield 9, 3) := by decide +kernel
theorem dX1_letterAt_16 : decode cX1_letterAt 16 = .ok (.iload_n 1, 1) := by decide +kernel
theorem dX1_letterAt_17 : decode cX1_letterAt 17 = .ok (.caload, 1) := by decide +kernel
theorem dX1_letterAt_18 : decode cX1_letterAt 18 = .ok (.goto 4, 3) := by decide +kernel
theorem dX1_letterAt_21 : decode cX1_letterAt 21 = .ok (.iconst 0, 1) := by decide +kernel
theorem dX1_letterAt_22 : decode cX1_letterAt 22 = .ok (.ireturn, 1) := by decide +kernel
theorem dX2_init_0 : decode cX2_init 0 = .ok (.aload_n 0, 1) := by decide +kernel
theorem dX2_init_1 : decode cX2_init 1 = .ok (.invokespecial 3, 3) := by decide +kernel
theorem dX2_init_4 : decode cX2_init 4 = .ok (.aload_n 0, 1) := by decide +kernel
theorem dX2_init_5 : decode cX2_init 5 = .ok (.bipush 8, 2) := by decide +kernel
theorem dX2_init_7 : decode cX2_init 7 = .ok (.newarray .long, 2) := by decide +kernel
theorem dX2_init_9 : decode cX2_init 9 = .ok (.putfield 9, 3) := by decide +kernel
theorem dX2_init_12 : decode cX2_init 12 = .ok (.return_, 1) := by decide +kernel
theorem dX2_push_0 : decode cX2_push 0 = .ok (.aload_n 0, 1) := by decide +kernel
theorem dX2_push_1 : decode cX2_push 1 = .ok (.getfield 9, 3) := by decide +kernel
theorem dX2_push_4 : decode cX2_push 4 = .ok (.aload_n 0, 1) := by decide +kernel
theorem dX2_push_5 : decode cX2_push 5 = .ok (.getfield 15, 3) := by decide +kernel
theorem dX2_push_8 : decode cX2_push 8 = .ok (.lload_n 1, 1) := by decide +kernel
theorem dX2_push_9 : decode cX2_push 9 = .ok (.lastore, 1) := by decide +kernel
theorem dX2_push_10 : decode cX2_push 10 = .ok (.aload_n 0, 1) := by decide +kernel
theorem dX2_push_11 : decode cX2_push 11 = .ok (.aload_n 0, 1) := by decide +kernel
theorem dX2_push_12 : decode cX2_push 12 = .ok (.getfield 15, 3) := by decide +kernel
theorem dX2_push_15 : decode cX2_push 15 = .ok (.iconst 1, 1) := by decide +kernel
theorem dX2_push_16 : decode cX2_push 16 = .ok (.iadd, 1) := by decide +kernel
theorem dX2_push_17 : decode cX2_push 17 = .ok (.bipush 8, 2) := by decide +kernel
theorem dX2_push_19 : decode cX2_push 19 = .ok (.if_icmp .ge 12, 3) := by decide +kernel
theorem dX2_push_22 : decode cX2_push 22 = .ok (.aload_n 0, 1) := by decide +kernel
theorem dX2_push_23 : decode cX2_push 23 = .ok (.getfield 15, 3) := by decide +kernel
theorem dX2_push_26 : decode cX2_push 26 = .ok (.iconst 1, 1) := by decide +kernel
theorem dX2_push_27 : decode cX2_push 27 = .ok (.iadd, 1) := by decide +kernel
theorem dX2_push_28 : decode cX2_push 28 = .ok (.goto 4, 3) := by decide +kernel
theorem dX2_push_31 : decode cX2_push 31 = .ok (.iconst 0, 1) := by decide +kernel
theorem dX2_push_32 : decode cX2_push 32 = .ok (.putfield 15, 3) := by decide +kernel
theorem dX2_push_35 : decode cX2_push 35 = .ok (.aload_n 0, 1) := by decide +kernel
theorem dX2_push_36 : decode cX2_push 36 = .ok (.aload_n 0, 1) := by decide +kernel
theorem dX2_push_37 : decode cX2_push 37 = .ok (.getfield 19, 3) := by decide +kernel
theorem dX2_push_40 : decode cX2_push 40 = .ok (.iconst 1, 1) := by decide +kernel
theorem dX2_push_41 : decode cX2_push 41 = .ok (.iadd, 1) := by decide +kernel
theorem dX2_push_42 : decode cX2_push 42 = .ok (.bipush 8, 2) := by decide +kernel
theorem dX2_push_44 : decode cX2_push 44 = .ok (.invokestatic 22, 3) := by decide +kernel
theorem dX2_push_47 : decode cX2_push 47 = .ok (.putfield 19, 3) := by decide +kernel
theorem dX2_push_50 : decode cX2_push 50 = .ok (.return_, 1) := by decide +kernel
theorem dX2_pop_0 : decode cX2_pop 0 = .ok (.aload_n 0, 1) := by decide +kernel
theorem dX2_pop_1 : decode cX2_pop 1 = .ok (.aload_n 0, 1) := by decide +kernel
theorem dX2_pop_2 : decode cX2_pop 2 = .ok (.getfield 15, 3) := by decide +kernel
theorem dX2_pop_5 : decode cX2_pop 5 = .ok (.ifCond .le 12, 3) := by decide +kernel
theorem dX2_pop_8 : decode cX2_pop 8 = .ok (.aload_n 0, 1) := by decide +kernel
theorem dX2_pop_9 : decode cX2_pop 9 = .ok (.getfield 15, 3) := by decide +kernel
theorem dX2_pop_12 : decode cX2_pop 12 = .ok (.iconst 1, 1) := by decide +kernel
theorem dX2_pop_13 : decode cX2_pop 13 = .ok (.isub, 1) := by decide +kernel
theorem dX2_pop_14 : decode cX2_pop 14 = .ok (.goto 5, 3) := by decide +kernel
theorem dX2_pop_17 : decode cX2_pop 17 = .ok (.bipush 7, 2) := by decide +kernel
theorem dX2_pop_19 : decode cX2_pop 19 = .ok (.putfield 15, 3) := by decide +kernel
theorem dX2_pop_22 : decode cX2_pop 22 = .ok (.aload_n 0, 1) := by decide +kernel
theorem dX2_pop_23 : decode cX2_pop 23 = .ok (.aload_n 0, 1) := by decide +kernel
theorem dX2_pop_24 : decode cX2_pop 24 = .ok (.getfield 19, 3) := by decide +kernel
theorem dX2_pop_27 : decode cX2_pop 27 = .ok (.iconst 1, 1) := by decide +kernel
theorem dX2_pop_28 : decode cX2_pop 28 = .ok (.isub, 1) := by decide +kernel
theorem dX2_pop_29 : decode cX2_pop 29 = .ok (.iconst 0, 1) := by decide +kernel
theorem dX2_pop_30 : decode cX2_pop 30 = .ok (.invokestatic 28, 3) := by decide +kernel
theorem dX2_pop_33 : decode cX2_pop 33 = .ok (.putfield 19, 3) := by decide +kernel
theorem dX2_pop_36 : decode cX2_pop 36 = .ok (.aload_n 0, 1) := by decide +kernel
theorem dX2_pop_37 : decode cX2_pop 37 = .ok (.getfield 9, 3) := by decide +kernel
theorem dX2_pop_40 : decode cX2_pop 40 = .ok (.aload_n 0, 1) := by decide +kernel
theorem dX2_pop_41 : decode cX2_pop 41 = .ok (.getfield 15, 3) := by decide +kernel
theorem dX2_pop_44 : decode cX2_pop 44 = .ok (.laload, 1) := by decide +kernel
theorem dX2_pop_45 : decode cX2_pop 45 = .ok (.lreturn, 1) := by decide +kernel
theorem dX2_clear_0 : decode cX2_clear 0 = .ok (.aload_n 0, 1) := by decide +kernel
theorem dX2_clear_1 : decode cX2_clear 1 = .ok (.iconst 0, 1) := by decide +kernel
theorem dX2_clear_2 : decode cX2_clear 2 = .ok (.putfield 19, 3) := by decide +kernel
theorem dX2_clear_5 : decode cX2_clear 5 = .ok (.return_, 1) := by decide +kernel
theorem dX3_init_0 : decode cX3_init 0 = .ok (.aload_n 0, 1) := by decide +kernel
theorem dX3_init_1 : decode cX3_init 1 = .ok (.invokespecial 3, 3) := by decide +kernel
theorem dX3_init_4 : decode cX3_init 4 = .ok (.aload_n 0, 1) := by decide +kernel
theorem dX3_init_5 : decode cX3_init 5 = .ok (.bipush 6, 2) := by decide +kernel
theorem dX3_init_7 : decode cX3_init 7 = .ok (.newarray .int, 2) := by decide +kernel
theorem dX3_init_9 : decode cX3_init 9 = .ok (.putfield 9, 3) := by decide +kernel
theorem dX3_init_12 : decode cX3_init 12 = .ok (.aload_n 0, 1) := by decide +kernel
theorem dX3_init_13 : decode cX3_init 13 = .ok (.bipush 6, 2) := by decide +kernel
theorem dX3_init_15 : decode cX3_init 15 = .ok (.newarray .int, 2) := by decide +kernel
theorem dX3_init_17 : decode cX3_init 17 = .ok (.putfield 15, 3) := by decide +kernel
theorem dX3_init_20 : decode cX3_init 20 = .ok (.aload_n 0, 1) := by decide +kernel
theorem dX3_init_21 : decode cX3_init 21 = .ok (.bipush 6, 2) := by decide +kernel
theorem dX3_init_23 : decode cX3_init 23 = .ok (.newarray .boolean, 2) := by decide +kernel
theorem dX3_init_25 : decode cX3_init 25 = .ok (.putfield 18, 3) := by decide +kernel
theorem dX3_init_28 : decode cX3_init 28 = .ok (.return_, 1) := by decide +kernel
theorem dX3_add_0 : decode cX3_add 0 = .ok (.aload_n 0, 1) := by decide +kernel
theorem dX3_add_1 : decode cX3_add 1 = .ok (.getfield 22, 3) := by decide +kernel
theorem dX3_add_4 : decode cX3_add 4 = .ok (.bipush 6, 2) := by decide +kernel
theorem dX3_add_6 : decode cX3_add 6 = .ok (.if_icmp .lt 5, 3) := by decide +kernel
theorem dX3_add_9 : decode cX3_add 9 = .ok (.iconst 0, 1) := by decide +kernel
theorem dX3_add_10 : decode cX3_add 10 = .ok (.ireturn, 1) := by decide +kernel
theorem dX3_add_11 : decode cX3_add 11 = .ok (.aload_n 0, 1) := by decide +kernel
theorem dX3_add_12 : decode cX3_add 12 = .ok (.getfield 9, 3) := by decide +kernel
theorem dX3_add_15 : decode cX3_add 15 = .ok (.aload_n 0, 1) := by decide +kernel
theorem dX3_add_16 : decode cX3_add 16 = .ok (.getfield 22, 3) := by decide +kernel
theorem dX3_add_19 : decode cX3_add 19 = .ok (.iload_n 1, 1) := by decide +kernel
theorem dX3_add_20 : decode cX3_add 20 = .ok (.iastore, 1) := by decide +kernel
theorem dX3_add_21 : decode cX3_add 21 = .ok (.aload_n 0, 1) := by decide +kernel
theorem dX3_add_22 : decode cX3_add 22 = .ok (.getfield 15, 3) := by decide +kernel
theorem dX3_add_25 : decode cX3_add 25 = .ok (.aload_n 0, 1) := by decide +kernel
theorem dX3_add_26 : decode cX3_add 26 = .ok (.getfield 22, 3) := by decide +kernel
theorem dX3_add_29 : decode cX3_add 29 = .ok (.iload_n 2, 1) := by decide +kernel
theorem dX3_add_30 : decode cX3_add 30 = .ok (.iastore, 1) := by decide +kernel
theorem dX3_add_31 : decode cX3_add 31 = .ok (.aload_n 0, 1) := by decide +kernel
theorem dX3_add_32 : decode cX3_add 32 = .ok (.getfield 18, 3) := by decide +kernel
theorem dX3_add_35 : decode cX3_add 35 = .ok (.aload_n 0, 1) := by decide +kernel
theorem dX3_add_36 : decode cX3_add 36 = .ok (.getfield 22, 3) := by decide +kernel
theorem dX3_add_39 : decode cX3_add 39 = .ok (.iload_n 3, 1) := by decide +kernel
theorem dX3_add_40 : decode cX3_add 40 = .ok (.bastore, 1) := by decide +kernel
theorem dX3_add_41 : decode cX3_add 41 = .ok (.aload_n 0, 1) := by decide +kernel
theorem dX3_add_42 : decode cX3_add 42 = .ok (.dup, 1) := by decide +kernel
theorem dX3_add_43 : decode cX3_add 43 = .ok (.getfield 22, 3) := by decide +kernel
theorem dX3_add_46 : decode cX3_add 46 = .ok (.iconst 1, 1) := by decide +kernel
theorem dX3_add_47 : decode cX3_add 47 = .ok (.iadd, 1) := by decide +kernel
theorem dX3_add_48 : decode cX3_add 48 = .ok (.putfield 22, 3) := by decide +kernel
theorem dX3_add_51 : decode cX3_add 51 = .ok (.iconst 1, 1) := by decide +kernel
theorem dX3_add_52 : decode cX3_add 52 = .ok (.ireturn, 1) := by decide +kernel
theorem dX3_clear_0 : decode cX3_clear 0 = .ok (.aload_n 0, 1) := by decide +kernel
theorem dX3_clear_1 : decode cX3_clear 1 = .ok (.iconst 0, 1) := by decide +kernel
theorem dX3_clear_2 : decode cX3_clear 2 = .ok (.putfield 22, 3) := by decide +kernel
theorem dX3_clear_5 : decode cX3_clear 5 = .ok (.return_, 1) := by decide +kernel
theorem dX4_init_0 : decode cX4_init 0 = .ok (.aload_n 0, 1) := by decide +kernel
theorem dX4_init_1 : decode cX4_init 1 = .ok (.invokespecial 3, 3) := by decide +kernel
theorem dX4_init_4 : decode cX4_init 4 = .ok (.return_, 1) := by decide +kernel
theorem dX4_begin_0 : decode cX4_begin 0 = .ok (.aload_n 0, 1) := by decide +kernel
theorem dX4_begin_1 : decode cX4_begin 1 = .ok (.iload_n 1, 1) := by decide +kernel
theorem dX4_begin_2 : decode cX4_begin 2 = .ok (.putfield 9, 3) := by decide +kernel
theorem dX4_begin_5 : decode cX4_begin 5 = .ok (.aload_n 0, 1) := by decide +kernel
theorem dX4_begin_6 : decode cX4_begin 6 = .ok (.iconst 0, 1) := by decide +kernel
theorem dX4_begin_7 : decode cX4_begin 7 = .ok (.putfield 15, 3) := by decide +kernel
theorem dX4_begin_10 : decode cX4_begin 10 = .ok (.aload_n 0, 1) := by decide +kernel
theorem dX4_begin_11 : decode cX4_begin 11 = .ok (.iconst 0, 1) := by decide +kernel
theorem dX4_begin_12 : decode cX4_begin 12 = .ok (.putfield 18, 3) := by decide +kernel
theorem dX4_begin_15 : decode cX4_begin 15 = .ok (.aload_n 0, 1) := by decide +kernel
theorem dX4_begin_16 : decode cX4_begin 16 = .ok (.iconst 0, 1) := by decide +kernel
theorem dX4_begin_17 : decode cX4_begin 17 = .ok (.putfield 21, 3) := by decide +kernel
theorem dX4_begin_20 : decode cX4_begin 20 = .ok (.aload_n 0, 1) := by decide +kernel
theorem dX4_begin_21 : decode cX4_begin 21 = .ok (.iload_n 2, 1) := by decide +kernel
theorem dX4_begin_22 : decode cX4_begin 22 = .ok (.putfield 24, 3) := by decide +kernel
theorem dX4_begin_25 : decode cX4_begin 25 = .ok (.return_, 1) := by decide +kernel
theorem dX4_packed_0 : decode cX4_packed 0 = .ok (.aload_n 0, 1) := by decide +kernel
theorem dX4_packed_1 : decode cX4_packed 1 = .ok (.getfield 24, 3) := by decide +kernel
theorem dX4_packed_4 : decode cX4_packed 4 = .ok (.i2l, 1) := by decide +kernel
theorem dX4_packed_5 : decode cX4_packed 5 = .ok (.bipush 48, 2) := by decide +kernel
theorem dX4_packed_7 : decode cX4_packed 7 = .ok (.lshl, 1) := by decide +kernel
theorem dX4_packed_8 : decode cX4_packed 8 = .ok (.aload_n 0, 1) := by decide +kernel
theorem dX4_packed_9 : decode cX4_packed 9 = .ok (.getfield 21, 3) := by decide +kernel
theorem dX4_packed_12 : decode cX4_packed 12 = .ok (.i2l, 1) := by decide +kernel
theorem dX4_packed_13 : decode cX4_packed 13 = .ok (.bipush 32, 2) := by decide +kernel
theorem dX4_packed_15 : decode cX4_packed 15 = .ok (.lshl, 1) := by decide +kernel
theorem dX4_packed_16 : decode cX4_packed 16 = .ok (.lor, 1) := by decide +kernel
theorem dX4_packed_17 : decode cX4_packed 17 = .ok (.aload_n 0, 1) := by decide +kernel
theorem dX4_packed_18 : decode cX4_packed 18 = .ok (.getfield 18, 3) := by decide +kernel
theorem dX4_packed_21 : decode cX4_packed 21 = .ok (.i2l, 1) := by decide +kernel
theorem dX4_packed_22 : decode cX4_packed 22 = .ok (.bipush 24, 2) := by decide +kernel
theorem dX4_packed_24 : decode cX4_packed 24 = .ok (.lshl, 1) := by decide +kernel
theorem dX4_packed_25 : decode cX4_packed 25 = .ok (.lor, 1) := by decide +kernel
theorem dX4_packed_26 : decode cX4_packed 26 = .ok (.aload_n 0, 1) := by decide +kernel
theorem dX4_packed_27 : decode cX4_packed 27 = .ok (.getfield 15, 3) := by decide +kernel
theorem dX4_packed_30 : decode cX4_packed 30 = .ok (.i2l, 1) := by decide +kernel
theorem dX4_packed_31 : decode cX4_packed 31 = .ok (.bipush 16, 2) := by decide +kernel
theorem dX4_packed_33 : decode cX4_packed 33 = .ok (.lshl, 1) := by decide +kernel
theorem dX4_packed_34 : decode cX4_packed 34 = .ok (.lor, 1) := by decide +kernel
theorem dX4_packed_35 : decode cX4_packed 35 = .ok (.aload_n 0, 1) := by decide +kernel
theorem dX4_packed_36 : decode cX4_packed 36 = .ok (.getfield 9, 3) := by decide +kernel
theorem dX4_packed_39 : decode cX4_packed 39 = .ok (.i2l, 1) := by decide +kernel
theorem dX4_packed_40 : decode cX4_packed 40 = .ok (.lor, 1) := by decide +kernel
theorem dX4_packed_41 : decode cX4_packed 41 = .ok (.lreturn, 1) := by decide +kernel
theorem dX4_unpack_0 : decode cX4_unpack 0 = .ok (.aload_n 0, 1) := by decide +kernel
theorem dX4_unpack_1 : decode cX4_unpack 1 = .ok (.lload_n 1, 1) := by decide +kernel
theorem dX4_unpack_2 : decode cX4_unpack 2 = .ok (.ldc2_w 27, 3) := by decide +kernel
theorem dX4_unpack_5 : decode cX4_unpack 5 = .ok (.land, 1) := by decide +kernel
theorem dX4_unpack_6 : decode cX4_unpack 6 = .ok (.l2i, 1) := by decide +kernel
theorem dX4_unpack_7 : decode cX4_unpack 7 = .ok (.putfield 9, 3) := by decide +kernel
theorem dX4_unpack_10 : decode cX4_unpack 10 = .ok (.aload_n 0, 1) := by decide +kernel
theorem dX4_unpack_11 : decode cX4_unpack 11 = .ok (.lload_n 1, 1) := by decide +kernel
theorem dX4_unpack_12 : decode cX4_unpack 12 = .ok (.bipush 16, 2) := by decide +kernel
theorem dX4_unpack_14 : decode cX4_unpack 14 = .ok (.lshr, 1) := by decide +kernel
theorem dX4_unpack_15 : decode cX4_unpack 15 = .ok (.ldc2_w 29, 3) := by decide +kernel
theorem dX4_unpack_18 : decode cX4_unpack 18 = .ok (.land, 1) := by decide +kernel
theorem dX4_unpack_19 : decode cX4_unpack 19 = .ok (.l2i, 1) := by decide +kernel
theorem dX4_unpack_20 : decode cX4_unpack 20 = .ok (.putfield 15, 3) := by decide +kernel
theorem dX4_unpack_23 : decode cX4_unpack 23 = .ok (.aload_n 0, 1) := by decide +kernel
theorem dX4_unpack_24 : decode cX4_unpack 24 = .ok (.lload_n 1, 1) := by decide +kernel
theorem dX4_unpack_25 : decode cX4_unpack 25 = .ok (.bipush 24, 2) := by decide +kernel
theorem dX4_unpack_27 : decode cX4_unpack 27 = .ok (.lshr, 1) := by decide +kernel
theorem dX4_unpack_28 : decode cX4_unpack 28 = .ok (.ldc2_w 29, 3) := by decide +kernel
theorem dX4_unpack_31 : decode cX4_unpack 31 = .ok (.land, 1) := by decide +kernel
theorem dX4_unpack_32 : decode cX4_unpack 32 = .ok (.l2i, 1) := by decide +kernel
theorem dX4_unpack_33 : decode cX4_unpack 33 = .ok (.putfield 18, 3) := by decide +kernel
theorem dX4_unpack_36 : decode cX4_unpack 36 = .ok (.aload_n 0, 1) := by decide +kernel
theorem dX4_unpack_37 : decode cX4_unpack 37 = .ok (.lload_n 1, 1) := by decide +kernel
theorem dX4_unpack_38 : decode cX4_unpack 38 = .ok (.bipush 32, 2) := by decide +kernel
theorem dX4_unpack_40 : decode cX4_unpack 40 = .ok (.lshr, 1) := by decide +kernel
theorem dX4_unpack_41 : decode cX4_unpack 41 = .ok (.ldc2_w 27, 3) := by decide +kernel
theorem dX4_unpack_44 : decode cX4_unpack 44 = .ok (.land, 1) := by decide +kernel
theorem dX4_unpack_45 : decode cX4_unpack 45 = .ok (.l2i, 1) := by decide +kernel
theorem dX4_unpack_46 : decode cX4_unpack 46 = .ok (.putfield 21, 3) := by decide +kernel
theorem dX4_unpack_49 : decode cX4_unpack 49 = .ok (.aload_n 0, 1) := by decide +kernel
theorem dX4_unpack_50 : decode cX4_unpack 50 = .ok (.lload_n 1, 1) := by decide +kernel
theorem dX4_unpack_51 : decode cX4_unpack 51 = .ok (.bipush 48, 2) := by decide +kernel
theorem dX4_unpack_53 : decode cX4_unpack 53 = .ok (.lshr, 1) := by decide +kernel
theorem dX4_unpack_54 : decode cX4_unpack 54 = .ok (.l2i, 1) := by decide +kernel
theorem dX4_unpack_55 : decode cX4_unpack 55 = .ok (.putfield 24, 3) := by decide +kernel
theorem dX4_unpack_58 : decode cX4_unpack 58 = .ok (.return_, 1) := by decide +kernel
theorem dX4_roomOf_0 : decode cX4_roomOf 0 = .ok (.aload_n 0, 1) := by decide +kernel
theorem dX4_roomOf_1 : decode cX4_roomOf 1 = .ok (.getfield 9, 3) := by decide +kernel
theorem dX4_roomOf_4 : decode cX4_roomOf 4 = .ok (.iconst 2, 1) := by decide +kernel
theorem dX4_roomOf_5 : decode cX4_roomOf 5 = .ok (.iload_n 1, 1) := by decide +kernel
theorem dX4_roomOf_6 : decode cX4_roomOf 6 = .ok (.imul, 1) := by decide +kernel
theorem dX4_roomOf_7 : decode cX4_roomOf 7 = .ok (.ishr, 1) := by decide +kernel
theorem dX4_roomOf_8 : decode cX4_roomOf 8 = .ok (.iconst 3, 1) := by decide +kernel
theorem dX4_roomOf_9 : decode cX4_roomOf 9 = .ok (.iand, 1) := by decide +kernel
theorem dX4_roomOf_10 : decode cX4_roomOf 10 = .ok (.ireturn, 1) := by decide +kernel
theorem dX4_howIs_0 : decode cX4_howIs 0 = .ok (.aload_n 0, 1) := by decide +kernel
theorem dX4_howIs_1 : decode cX4_howIs 1 = .ok (.getfield 18, 3) := by decide +kernel
theorem dX4_howIs_4 : decode cX4_howIs 4 = .ok (.iload_n 1, 1) := by decide +kernel
theorem dX4_howIs_5 : decode cX4_howIs 5 = .ok (.ishr, 1) := by decide +kernel
theorem dX4_howIs_6 : decode cX4_howIs 6 = .ok (.iconst 1, 1) := by decide +kernel
theorem dX4_howIs_7 : decode cX4_howIs 7 = .ok (.iand, 1) := by decide +kernel
theorem dX4_howIs_8 : decode cX4_howIs 8 = .ok (.iconst 1, 1) := by decide +kernel
theorem dX4_howIs_9 : decode cX4_howIs 9 = .ok (.if_icmp .ne 5, 3) := by decide +kernel
theorem dX4_howIs_12 : decode cX4_howIs 12 = .ok (.iconst 2, 1) := by decide +kernel
theorem dX4_howIs_13 : decode cX4_howIs 13 = .ok (.ireturn, 1) := by decide +kernel
theorem dX4_howIs_14 : decode cX4_howIs 14 = .ok (.aload_n 0, 1) := by decide +kernel
theorem dX4_howIs_15 : decode cX4_howIs 15 = .ok (.getfield 15, 3) := by decide +kernel
theorem dX4_howIs_18 : decode cX4_howIs 18 = .ok (.iload_n 1, 1) := by decide +kernel
theorem dX4_howIs_19 : decode cX4_howIs 19 = .ok (.ishr, 1) := by decide +kernel
theorem dX4_howIs_20 : decode cX4_howIs 20 = .ok (.iconst 1, 1) := by decide +kernel
theorem dX4_howIs_21 : decode cX4_howIs 21 = .ok (.iand, 1) := by decide +kernel
theorem dX4_howIs_22 : decode cX4_howIs 22 = .ok (.iconst 1, 1) := by decide +kernel
theorem dX4_howIs_23 : decode cX4_howIs 23 = .ok (.if_icmp .ne 7, 3) := by decide +kernel
theorem dX4_howIs_26 : decode cX4_howIs 26 = .ok (.iconst 1, 1) := by decide +kernel
theorem dX4_howIs_27 : decode cX4_howIs 27 = .ok (.goto 4, 3) := by decide +kernel
theorem dX4_howIs_30 : decode cX4_howIs 30 = .ok (.iconst 0, 1) := by decide +kernel
theorem dX4_howIs_31 : decode cX4_howIs 31 = .ok (.ireturn, 1) := by decide +kernel
set_option maxRecDepth 20000 in
theorem ggX4_letSpeak_J6_bitCount_0f7a4 : GoodIn wsX4_letSpeak wsJ6_bitCount_0f7a4 := goodIn_r _ [6, 7, 8, 9] (by decide +kernel) (by decide +kernel)
set_option maxRecDepth 20000 in
theorem gX4_letSpeak_J6_bitCount_0f7a4 : GoodIn wsX4_letSpeak (va_wsS RX4 31 yJ6_bitCount_0f7a4 wsJ6_bitCount_0f7a4) := goodIn_app (goodIn_of _ (by decide +kernel)) ggX4_letSpeak_J6_bitCount_0f7a4
theorem dX4_letSpeak_0 : decode cX4_letSpeak 0 = .ok (.iload_n 2, 1) := by decide +kernel
theorem dX4_letSpeak_1 : decode cX4_letSpeak 1 = .ok (.aload_n 0, 1) := by decide +kernel
theorem dX4_letSpeak_2 : decode cX4_letSpeak 2 = .ok (.getfield 21, 3) := by decide +kernel
theorem dX4_letSpeak_5 : decode cX4_letSpeak 5 = .ok (.iconst (-1), 1) := by decide +kernel
theorem dX4_letSpeak_6 : decode cX4_letSpeak 6 = .ok (.ixor, 1) := by decide +kernel
theorem dX4_letSpeak_7 : decode cX4_letSpeak 7 = .ok (.iand, 1) := by decide +kernel
theorem dX4_letSpeak_8 : decode cX4_letSpeak 8 = .ok (.istore_n 3, 1) := by decide +kernel
theorem dX4_letSpeak_9 : decode cX4_letSpeak 9 = .ok (.aload_n 0, 1) := by decide +kernel
theorem dX4_letSpeak_10 : decode cX4_letSpeak 10 = .ok (.dup, 1) := by decide +kernel
theorem dX4_letSpeak_11 : decode cX4_letSpeak 11 = .ok (.getfield 21, 3) := by decide +kernel
theorem dX4_letSpeak_14 : decode cX4_letSpeak 14 = .ok (.iload_n 2, 1) := by decide +kernel
theorem dX4_letSpeak_15 : decode cX4_letSpeak 15 = .ok (.ior, 1) := by decide +kernel
theorem dX4_letSpeak_16 : decode cX4_letSpeak 16 = .ok (.putfield 21, 3) := by decide +kernel
theorem dX4_letSpeak_19 : decode cX4_letSpeak 19 = .ok (.aload_n 0, 1) := by decide +kernel
theorem dX4_letSpeak_20 : decode cX4_letSpeak 20 = .ok (.dup, 1) := by decide +kernel
theorem dX4_letSpeak_21 : decode cX4_letSpeak 21 = .ok (.getfield 18, 3) := by decide +kernel
theorem dX4_letSpeak_24 : decode cX4_letSpeak 24 = .ok (.iconst 1, 1) := by decide +kernel
theorem dX4_letSpeak_25 : decode cX4_letSpeak 25 = .ok (.iload_n 1, 1) := by decide +kernel
theorem dX4_letSpeak_26 : decode cX4_letSpeak 26 = .ok (.ishl, 1) := by decide +kernel
theorem dX4_letSpeak_27 : decode cX4_letSpeak 27 = .ok (.ior, 1) := by decide +kernel
theorem dX4_letSpeak_28 : decode cX4_letSpeak 28 = .ok (.putfield 18, 3) := by decide +kernel
theorem dX4_letSpeak_31 : decode cX4_letSpeak 31 = .ok (.iload_n 3, 1) := by decide +kernel
theorem dX4_letSpeak_32 : decode cX4_letSpeak 32 = .ok (.invokestatic 31, 3) := by decide +kernel
theorem dX4_letSpeak_35 : decode cX4_letSpeak 35 = .ok (.ireturn, 1) := by decide +kernel
theorem dX4_sell_0 : decode cX4_sell 0 = .ok (.aload_n 0, 1) := by decide +kernel
theorem dX4_sell_1 : decode cX4_sell 1 = .ok (.dup, 1) := by decide +kernel
theorem dX4_sell_2 : decode cX4_sell 2 = .ok (.getfield 15, 3) := by decide +kernel
theorem dX4_sell_5 : decode cX4_sell 5 = .ok (.iconst 1, 1) := by decide +kernel
theorem dX4_sell_6 : decode cX4_sell 6 = .ok (.iload_n 1, 1) := by decide +kernel
theorem dX4_sell_7 : decode cX4_sell 7 = .ok (.ishl, 1) := by decide +kernel
theorem dX4_sell_8 : decode cX4_sell 8 = .ok (.ior, 1) := by decide +kernel
theorem dX4_sell_9 : decode cX4_sell 9 = .ok (.putfield 15, 3) := by decide +kernel
theorem dX4_sell_12 : decode cX4_sell 12 = .ok (.aload_n 0, 1) := by decide +kernel
theorem dX4_sell_13 : decode cX4_sell 13 = .ok (.dup, 1) := by decide +kernel
theorem dX4_sell_14 : decode cX4_sell 14 = .ok (.getfield 24, 3) := by decide +kernel
theorem dX4_sell_17 : decode cX4_sell 17 = .ok (.iload_n 2, 1) := by decide +kernel
theorem dX4_sell_18 : decode cX4_sell 18 = .ok (.isub, 1) := by decide +kernel
theorem dX4_sell_19 : decode cX4_sell 19 = .ok (.putfield 24, 3) := by decide +kernel
theorem dX4_sell_22 : decode cX4_sell 22 = .ok (.return_, 1) := by decide +kernel
theorem dX4_move_0 : decode cX4_move 0 = .ok (.aload_n 0, 1) := by decide +kernel
theorem dX4_move_1 : decode cX4_move 1 = .ok (.aload_n 0, 1) := by decide +kernel
theorem dX4_move_2 : decode cX4_move 2 = .ok (.getfield 9, 3) := by decide +kernel
theorem dX4_move_5 : decode cX4_move 5 = .ok (.iconst 3, 1) := by decide +kernel
theorem dX4_move_6 : decode cX4_move 6 = .ok (.iconst 2, 1) := by decide +kernel
theorem dX4_move_7 : decode cX4_move 7 = .ok (.iload_n 1, 1) := by decide +kernel
theorem dX4_move_8 : decode cX4_move 8 = .ok (.imul, 1) := by decide +kernel
theorem dX4_move_9 : decode cX4_move 9 = .ok (.ishl, 1) := by decide +kernel
theorem dX4_move_10 : decode cX4_move 10 = .ok (.iconst (-1), 1) := by decide +kernel
theorem dX4_move_11 : decode cX4_move 11 = .ok (.ixor, 1) := by decide +kernel
theorem dX4_move_12 : decode cX4_move 12 = .ok (.iand, 1) := by decide +kernel
theorem dX4_move_13 : decode cX4_move 13 = .ok (.iload_n 2, 1) := by decide +kernel
theorem dX4_move_14 : decode cX4_move 14 = .ok (.iconst 2, 1) := by decide +kernel
theorem dX4_move_15 : decode cX4_move 15 = .ok (.iload_n 1, 1) := by decide +kernel
theorem dX4_move_16 : decode cX4_move 16 = .ok (.imul, 1) := by decide +kernel
theorem dX4_move_17 : decode cX4_move 17 = .ok (.ishl, 1) := by decide +kernel
theorem dX4_move_18 : decode cX4_move 18 = .ok (.ior, 1) := by decide +kernel
theorem dX4_move_19 : decode cX4_move 19 = .ok (.putfield 9, 3) := by decide +kernel
theorem dX4_move_22 : decode cX4_move 22 = .ok (.return_, 1) := by decide +kernel
set_option maxRecDepth 20000 in
theorem ggX5_init_X1_init : GoodIn wsX5_init wsX1_init := goodIn_r _ [31, 32, 2, 3, 33, 34, 195, 196] (by decide +kernel) (by decide +kernel)
set_option maxRecDepth 20000 in
theorem gX5_init_X1_init_n9 : GoodIn wsX5_init (wsX1_init) := ggX5_init_X1_init
set_option maxRecDepth 20000 in
theorem ggX5_init_X0_init : GoodIn wsX5_init wsX0_init := goodIn_r _ [36, 37, 2, 3, 28, 38, 39, 40, 41, 42, 43, 44, 207, 208, 209, 210, 211, 212, 213, 214, 215, 216, 217, 218] (by decide +kernel) (by decide +kernel)
set_option maxRecDepth 20000 in
theorem gX5_init_X0_init_n18 : GoodIn wsX5_init (wsX0_init) := ggX5_init_X0_init
set_option maxRecDepth 20000 in
theorem ggX5_init_X4_init : GoodIn wsX5_init wsX4_init := goodIn_r _ [46, 47, 2, 3] (by decide +kernel) (by decide +kernel)
set_option maxRecDepth 20000 in
theorem gX5_init_X4_init_n28 : GoodIn wsX5_init (wsX4_init) := ggX5_init_X4_init
set_option maxRecDepth 20000 in
theorem ggX5_init_X2_init : GoodIn wsX5_init wsX2_init := goodIn_r _ [49, 50, 2, 3, 26, 51, 224, 225, 226] (by decide +kernel) (by decide +kernel)
set_option maxRecDepth 20000 in
theorem gX5_init_X2_init_n38 : GoodIn wsX5_init (wsX2_init) := ggX5_init_X2_init
set_option maxRecDepth 20000 in
theorem ggX5_init_X3_init : GoodIn wsX5_init wsX3_init := goodIn_r _ [53, 54, 2, 3, 28, 55, 56, 57, 58, 227, 228, 229, 230] (by decide +kernel) (by decide +kernel)
set_option maxRecDepth 20000 in
theorem gX5_init_X3_init_n45 : GoodIn wsX5_init (wsX3_init) := ggX5_init_X3_init
set_option maxRecDepth 20000 in
theorem ggX5_init_J0_length_8abf5 : GoodIn wsX5_init wsJ0_length_8abf5 := goodIn_r _ [63, 64, 65, 66, 67, 62, 68, 69, 70] (by decide +kernel) (by decide +kernel)
set_option maxRecDepth 20000 in
theorem gX5_init_J0_length_8abf5 : GoodIn wsX5_init (wsV RX5 60 RJ0 yJ0_length_8abf5 wsJ0_length_8abf5) := goodIn_app (goodIn_of _ (by decide +kernel)) ggX5_init_J0_length_8abf5
set_option maxRecDepth 20000 in
theorem ggX5_init_J0_charAt_5068e : GoodIn wsX5_init wsJ0_charAt_5068e := goodIn_r _ [74, 64, 75, 76, 77, 62, 78, 69, 70, 79, 80, 81, 82, 83, 84, 85, 86, 87, 88, 89, 90, 91, 92, 93, 94, 95, 96, 97, 98, 99, 100, 101, 102, 103, 104, 105, 106, 107] (by decide +kernel) (by decide +kernel)
set_option maxRecDepth 20000 in
theorem gX5_init_J0_charAt_5068e : GoodIn wsX5_init (wsV RX5 66 RJ0 yJ0_charAt_5068e wsJ0_charAt_5068e) := goodIn_app (goodIn_of _ (by decide +kernel)) ggX5_init_J0_charAt_5068e
set_option maxRecDepth 20000 in
theorem ggX5_init_X1_add : GoodIn wsX5_init wsX1_add := goodIn_r _ [111, 112, 34, 195, 196] (by decide +kernel) (by decide +kernel)
set_option maxRecDepth 20000 in
theorem gX5_init_X1_add : GoodIn wsX5_init (wsV RX5 70 RX1 yX1_add wsX1_add) := goodIn_app (goodIn_of _ (by decide +kernel)) ggX5_init_X1_add
set_option maxRecDepth 20000 in
theorem ggX5_init_X5_lay : GoodIn wsX5_init wsX5_lay := goodIn_r _ [117, 12, 7, 118, 11, 16, 119, 120, 21, 25, 121, 122, 123, 124, 10, 125, 126, 127, 128, 129, 130, 131, 132, 133, 134, 135, 44, 136, 137, 138, 6, 139, 112, 34, 140, 141, 142, 143, 144, 145, 146, 147, 148, 149, 150, 151, 152, 153, 154, 155, 156, 157, 158, 159, 38, 39, 160, 161, 162, 163, 40, 41, 42, 43, 164, 165, 166, 167, 168, 169, 170, 171, 172, 173, 174, 15, 175, 176, 177, 178, 179, 180, 181, 182, 183, 20, 184, 185, 186, 187, 188, 24, 189, 190, 197, 198, 199, 200, 201, 202, 203, 204, 205, 206, 207, 208, 209, 210, 211, 212, 213, 214, 215, 216, 217, 218, 195, 196, 219, 220, 221, 222, 223, 224, 225, 226, 227, 228, 229, 230] (by decide +kernel) (by decide +kernel)
set_option maxRecDepth 20000 in
theorem gX5_init_X5_lay : GoodIn wsX5_init (wsV RX5 74 RX5 yX5_lay wsX5_lay) := goodIn_app (goodIn_of _ (by decide +kernel)) ggX5_init_X5_lay
set_option maxRecDepth 20000 in
theorem ggX5_init_X1_clear : GoodIn wsX5_init wsX1_clear := goodIn_r _ [194, 112, 195, 196] (by decide +kernel) (by decide +kernel)
set_option maxRecDepth 20000 in
theorem gX5_init_X1_clear : GoodIn wsX5_init (wsV RX5 77 RX1 yX1_clear wsX1_clear) := goodIn_app (goodIn_of _ (by decide +kernel)) ggX5_init_X1_clear
theorem dX5_init_0 : decode cX5_init 0 = .ok (.aload_n 0, 1) := by decide +kernel
theorem dX5_init_1 : decode cX5_init 1 = .ok (.invokespecial 1, 3) := by decide +kernel
theorem dX5_init_4 : decode cX5_init 4 = .ok (.aload_n 0, 1) := by decide +kernel
theorem dX5_init_5 : decode cX5_init 5 = .ok (.new 7, 3) := by decide +kernel
theorem dX5_init_8 : decode cX5_init 8 = .ok (.dup, 1) := by decide +kernel
theorem dX5_init_9 : decode cX5_init 9 = .ok (.invokespecial 9, 3) := by decide +kernel
theorem dX5_init_12 : decode cX5_init 12 = .ok (.putfield 10, 3) := by decide +kernel
theorem dX5_init_15 : decode cX5_init 15 = .ok (.aload_n 0, 1) := by decide +kernel
theorem dX5_init_16 : decode cX5_init 16 = .ok (.new 16, 3) := by decide +kernel
theorem dX5_init_19 : decode cX5_init 19 = .ok (.dup, 1) := by decide +kernel
theorem dX5_init_20 : decode cX5_init 20 = .ok (.invokespecial 18, 3) := by decide +kernel
theorem dX5_init_23 : decode cX5_init 23 = .ok (.putfield 19, 3) := by decide +kernel
theorem dX5_init_26 : decode cX5_init 26 = .ok (.aload_n 0, 1) := by decide +kernel
theorem dX5_init_27 : decode cX5_init 27 = .ok (.new 16, 3) := by decide +kernel
theorem dX5_init_30 : decode cX5_init 30 = .ok (.dup, 1) := by decide +kernel
theorem dX5_init_31 : decode cX5_init 31 = .ok (.invokespecial 18, 3) := by decide +kernel
theorem dX5_init_34 : decode cX5_init 34 = .ok (.putfield 23, 3) := by decide +kernel
theorem dX5_init_37 : decode cX5_init 37 = .ok (.aload_n 0, 1) := by decide +kernel
theorem dX5_init_38 : decode cX5_init 38 = .ok (.new 26, 3) := by decide +kernel
theorem dX5_init_41 : decode cX5_init 41 = .ok (.dup, 1) := by decide +kernel
theorem dX5_init_42 : decode cX5_init 42 = .ok (.invokespecial 28, 3) := by decide +kernel
theorem dX5_init_45 : decode cX5_init 45 = .ok (.putfield 29, 3) := by decide +kernel
theorem dX5_init_48 : decode cX5_init 48 = .ok (.aload_n 0, 1) := by decide +kernel
theorem dX5_init_49 : decode cX5_init 49 = .ok (.new 26, 3) := by decide +kernel
theorem dX5_init_52 : decode cX5_init 52 = .ok (.dup, 1) := by decide +kernel
theorem dX5_init_53 : decode cX5_init 53 = .ok (.invokespecial 28, 3) := by decide +kernel
theorem dX5_init_56 : decode cX5_init 56 = .ok (.putfield 33, 3) := by decide +kernel
theorem dX5_init_59 : decode cX5_init 59 = .ok (.aload_n 0, 1) := by decide +kernel
theorem dX5_init_60 : decode cX5_init 60 = .ok (.new 36, 3) := by decide +kernel
theorem dX5_init_63 : decode cX5_init 63 = .ok (.dup, 1) := by decide +kernel
theorem dX5_init_64 : decode cX5_init 64 = .ok (.invokespecial 38, 3) := by decide +kernel
theorem dX5_init_67 : decode cX5_init 67 = .ok (.putfield 39, 3) := by decide +kernel
theorem dX5_init_70 : decode cX5_init 70 = .ok (.aload_n 0, 1) := by decide +kernel
theorem dX5_init_71 : decode cX5_init 71 = .ok (.new 43, 3) := by decide +kernel
theorem dX5_init_74 : decode cX5_init 74 = .ok (.dup, 1) := by decide +kernel
theorem dX5_init_75 : decode cX5_init 75 = .ok (.invokespecial 45, 3) := by decide +kernel
theorem dX5_init_78 : decode cX5_init 78 = .ok (.putfield 46, 3) := by decide +kernel
theorem dX5_init_81 : decode cX5_init 81 = .ok (.aload_n 0, 1) := by decide +kernel
theorem dX5_init_82 : decode cX5_init 82 = .ok (.iconst 2, 1) := by decide +kernel
theorem dX5_init_83 : decode cX5_init 83 = .ok (.newarray .long, 2) := by decide +kernel
theorem dX5_init_85 : decode cX5_init 85 = .ok (.putfield 50, 3) := by decide +kernel
theorem dX5_init_88 : decode cX5_init 88 = .ok (.aload_n 0, 1) := by decide +kernel
theorem dX5_init_89 : decode cX5_init 89 = .ok (.bipush 8, 2) := by decide +kernel
theorem dX5_init_91 : decode cX5_init 91 = .ok (.newarray .int, 2) := by decide +kernel
theorem dX5_init_93 : decode cX5_init 93 = .ok (.putfield 54, 3) := by decide +kernel
theorem dX5_init_96 : decode cX5_init 96 = .ok (.iconst 0, 1) := by decide +kernel
theorem dX5_init_97 : decode cX5_init 97 = .ok (.istore_n 1, 1) := by decide +kernel
theorem dX5_init_98 : decode cX5_init 98 = .ok (.iload_n 1, 1) := by decide +kernel
theorem dX5_init_99 : decode cX5_init 99 = .ok (.ldc 58, 2) := by decide +kernel
theorem dX5_init_101 : decode cX5_init 101 = .ok (.invokevirtual 60, 3) := by decide +kernel
theorem dX5_init_104 : decode cX5_init 104 = .ok (.if_icmp .ge 23, 3) := by decide +kernel
theorem dX5_init_107 : decode cX5_init 107 = .ok (.aload_n 0, 1) := by decide +kernel
theorem dX5_init_108 : decode cX5_init 108 = .ok (.getfield 10, 3) := by decide +kernel
theorem dX5_init_111 : decode cX5_init 111 = .ok (.ldc 58, 2) := by decide +kernel
theorem dX5_init_113 : decode cX5_init 113 = .ok (.iload_n 1, 1) := by decide +kernel
theorem dX5_init_114 : decode cX5_init 114 = .ok (.invokevirtual 66, 3) := by decide +kernel
theorem dX5_init_117 : decode cX5_init 117 = .ok (.invokevirtual 70, 3) := by decide +kernel
theorem dX5_init_120 : decode cX5_init 120 = .ok (.pop, 1) := by decide +kernel
theorem dX5_init_121 : decode cX5_init 121 = .ok (.iinc 1 1, 3) := by decide +kernel
theorem dX5_init_124 : decode cX5_init 124 = .ok (.goto (-26), 3) := by decide +kernel
theorem dX5_init_127 : decode cX5_init 127 = .ok (.aload_n 0, 1) := by decide +kernel
theorem dX5_init_128 : decode cX5_init 128 = .ok (.invokevirtual 74, 3) := by decide +kernel
theorem dX5_init_131 : decode cX5_init 131 = .ok (.pop, 1) := by decide +kernel
theorem dX5_init_132 : decode cX5_init 132 = .ok (.aload_n 0, 1) := by decide +kernel
theorem dX5_init_133 : decode cX5_init 133 = .ok (.getfield 10, 3) := by decide +kernel
theorem dX5_init_136 : decode cX5_init 136 = .ok (.invokevirtual 77, 3) := by decide +kernel
theorem dX5_init_139 : decode cX5_init 139 = .ok (.return_, 1) := by decide +kernel
set_option maxRecDepth 20000 in
theorem ggX5_write_X5_isWithin : GoodIn wsX5_write wsX5_isWithin := goodIn_r _ [6] (by decide +kernel) (by decide +kernel)
set_option maxRecDepth 20000 in
theorem gX5_write_X5_isWithin : GoodIn wsX5_write (va_wsS RX5 80 yX5_isWithin wsX5_isWithin) := goodIn_app (goodIn_of _ (by decide +kernel)) ggX5_write_X5_isWithin
set_option maxRecDepth 20000 in
theorem ggX5_write_X1_add : GoodIn wsX5_write wsX1_add := goodIn_r _ [11, 12, 13, 24, 25] (by decide +kernel) (by decide +kernel)
set_option maxRecDepth 20000 in
theorem gX5_write_X1_add : GoodIn wsX5_write (wsV RX5 70 RX1 yX1_add wsX1_add) := goodIn_app (goodIn_of _ (by decide +kernel)) ggX5_write_X1_add
theorem dX5_write_0 : decode cX5_write 0 = .ok (.iload_n 1, 1) := by decide +kernel
theorem dX5_write_1 : decode cX5_write 1 = .ok (.bipush 32, 2) := by decide +kernel
theorem dX5_write_3 : decode cX5_write 3 = .ok (.bipush 126, 2) := by decide +kernel
theorem dX5_write_5 : decode cX5_write 5 = .ok (.invokestatic 80, 3) := by decide +kernel
theorem dX5_write_8 : decode cX5_write 8 = .ok (.ifCond .ne 5, 3) := by decide +kernel
theorem dX5_write_11 : decode cX5_write 11 = .ok (.iconst (-1), 1) := by decide +kernel
theorem dX5_write_12 : decode cX5_write 12 = .ok (.ireturn, 1) := by decide +kernel
theorem dX5_write_13 : decode cX5_write 13 = .ok (.aload_n 0, 1) := by decide +kernel
theorem dX5_write_14 : decode cX5_write 14 = .ok (.getfield 10, 3) := by decide +kernel
theorem dX5_write_17 : decode cX5_write 17 = .ok (.iload_n 1, 1) := by decide +kernel
theorem dX5_write_18 : decode cX5_write 18 = .ok (.i2c, 1) := by decide +kernel
theorem dX5_write_19 : decode cX5_write 19 = .ok (.invokevirtual 70, 3) := by decide +kernel
theorem dX5_write_22 : decode cX5_write 22 = .ok (.ifCond .eq 13, 3) := by decide +kernel
theorem dX5_write_25 : decode cX5_write 25 = .ok (.aload_n 0, 1) := by decide +kernel
theorem dX5_write_26 : decode cX5_write 26 = .ok (.getfield 10, 3) := by decide +kernel
theorem dX5_write_29 : decode cX5_write 29 = .ok (.getfield 84, 3) := by decide +kernel
theorem dX5_write_32 : decode cX5_write 32 = .ok (.goto 5, 3) := by decide +kernel
theorem dX5_write_35 : decode cX5_write 35 = .ok (.bipush (-3), 2) := by decide +kernel
theorem dX5_write_37 : decode cX5_write 37 = .ok (.ireturn, 1) := by decide +kernel
set_option maxRecDepth 20000 in
theorem ggX5_wipe_X1_clear : GoodIn wsX5_wipe wsX1_clear := goodIn_r _ [7, 8, 19, 20] (by decide +kernel) (by decide +kernel)
set_option maxRecDepth 20000 in
theorem gX5_wipe_X1_clear : GoodIn wsX5_wipe (wsV RX5 77 RX1 yX1_clear wsX1_clear) := goodIn_app (goodIn_of _ (by decide +kernel)) ggX5_wipe_X1_clear
theorem dX5_wipe_0 : decode cX5_wipe 0 = .ok (.aload_n 0, 1) := by decide +kernel
theorem dX5_wipe_1 : decode cX5_wipe 1 = .ok (.getfield 10, 3) := by decide +kernel
theorem dX5_wipe_4 : decode cX5_wipe 4 = .ok (.getfield 84, 3) := by decide +kernel
theorem dX5_wipe_7 : decode cX5_wipe 7 = .ok (.istore_n 1, 1) := by decide +kernel
theorem dX5_wipe_8 : decode cX5_wipe 8 = .ok (.aload_n 0, 1) := by decide +kernel
theorem dX5_wipe_9 : decode cX5_wipe 9 = .ok (.getfield 10, 3) := by decide +kernel
theorem dX5_wipe_12 : decode cX5_wipe 12 = .ok (.invokevirtual 77, 3) := by decide +kernel
theorem dX5_wipe_15 : decode cX5_wipe 15 = .ok (.iload_n 1, 1) := by decide +kernel
theorem dX5_wipe_16 : decode cX5_wipe 16 = .ok (.ireturn, 1) := by decide +kernel
set_option maxRecDepth 20000 in
theorem ggX5_fault_X0_readFrom : GoodIn wsX5_fault wsX0_readFrom := goodIn_r _ [7, 8, 9, 10, 11, 12, 13, 14, 15, 16, 6, 17, 18, 19, 20, 21, 22, 23, 24, 25, 26, 27, 28, 29, 30, 31, 32, 33, 34, 35, 36, 37, 38, 39, 40, 41, 42, 43, 44, 45, 46, 47, 48, 49, 50, 51, 52, 53, 54, 55, 56, 57, 58, 59, 60, 61, 62, 63, 74, 75, 76, 77, 78, 79, 80, 81, 82, 83, 84, 85, 86, 87] (by decide +kernel) (by decide +kernel)
set_option maxRecDepth 20000 in
theorem gX5_fault_X0_readFrom : GoodIn wsX5_fault (wsV RX5 87 RX0 yX0_readFrom wsX0_readFrom) := goodIn_app (goodIn_of _ (by decide +kernel)) ggX5_fault_X0_readFrom
theorem dX5_fault_0 : decode cX5_fault 0 = .ok (.aload_n 0, 1) := by decide +kernel
theorem dX5_fault_1 : decode cX5_fault 1 = .ok (.getfield 23, 3) := by decide +kernel
theorem dX5_fault_4 : decode cX5_fault 4 = .ok (.aload_n 0, 1) := by decide +kernel
theorem dX5_fault_5 : decode cX5_fault 5 = .ok (.getfield 10, 3) := by decide +kernel
theorem dX5_fault_8 : decode cX5_fault 8 = .ok (.invokevirtual 87, 3) := by decide +kernel
theorem dX5_fault_11 : decode cX5_fault 11 = .ok (.ireturn, 1) := by decide +kernel
set_option maxRecDepth 20000 in
theorem ggX5_lay_X0_readFrom : GoodIn wsX5_lay wsX0_readFrom := goodIn_r _ [15, 16, 17, 18, 19, 20, 21, 22, 23, 24, 14, 25, 26, 27, 28, 29, 30, 31, 32, 33, 34, 35, 36, 37, 38, 39, 40, 41, 42, 43, 44, 45, 46, 47, 48, 49, 50, 51, 52, 53, 54, 55, 56, 57, 58, 59, 60, 61, 62, 63, 64, 65, 66, 67, 68, 69, 70, 71, 104, 105, 106, 107, 108, 109, 110, 111, 112, 113, 114, 115, 116, 117] (by decide +kernel) (by decide +kernel)
set_option maxRecDepth 20000 in
theorem gX5_lay_X0_readFrom : GoodIn wsX5_lay (wsV RX5 87 RX0 yX0_readFrom wsX0_readFrom) := goodIn_app (goodIn_of _ (by decide +kernel)) ggX5_lay_X0_readFrom
set_option maxRecDepth 20000 in
theorem ggX5_lay_X4_begin : GoodIn wsX5_lay wsX4_begin := goodIn_r _ [76, 77, 78, 79, 80, 81, 118, 119, 120, 121, 122] (by decide +kernel) (by decide +kernel)
set_option maxRecDepth 20000 in
theorem gX5_lay_X4_begin : GoodIn wsX5_lay (wsV RX5 100 RX4 yX4_begin wsX4_begin) := goodIn_app (goodIn_of _ (by decide +kernel)) ggX5_lay_X4_begin
set_option maxRecDepth 20000 in
theorem ggX5_lay_X2_clear : GoodIn wsX5_lay wsX2_clear := goodIn_r _ [86, 87, 123, 124, 125] (by decide +kernel) (by decide +kernel)
set_option maxRecDepth 20000 in
theorem gX5_lay_X2_clear : GoodIn wsX5_lay (wsV RX5 104 RX2 yX2_clear wsX2_clear) := goodIn_app (goodIn_of _ (by decide +kernel)) ggX5_lay_X2_clear
set_option maxRecDepth 20000 in
theorem ggX5_lay_X3_clear : GoodIn wsX5_lay wsX3_clear := goodIn_r _ [92, 93, 126, 127, 128, 129] (by decide +kernel) (by decide +kernel)
set_option maxRecDepth 20000 in
theorem gX5_lay_X3_clear : GoodIn wsX5_lay (wsV RX5 105 RX3 yX3_clear wsX3_clear) := goodIn_app (goodIn_of _ (by decide +kernel)) ggX5_lay_X3_clear
theorem dX5_lay_0 : decode cX5_lay 0 = .ok (.aload_n 0, 1) := by decide +kernel
theorem dX5_lay_1 : decode cX5_lay 1 = .ok (.getfield 23, 3) := by decide +kernel
theorem dX5_lay_4 : decode cX5_lay 4 = .ok (.aload_n 0, 1) := by decide +kernel
theorem dX5_lay_5 : decode cX5_lay 5 = .ok (.getfield 10, 3) := by decide +kernel
theorem dX5_lay_8 : decode cX5_lay 8 = .ok (.invokevirtual 87, 3) := by decide +kernel
theorem dX5_lay_11 : decode cX5_lay 11 = .ok (.bipush (-4), 2) := by decide +kernel
theorem dX5_lay_13 : decode cX5_lay 13 = .ok (.if_icmp .ne 13, 3) := by decide +kernel
theorem dX5_lay_16 : decode cX5_lay 16 = .ok (.aload_n 0, 1) := by decide +kernel
theorem dX5_lay_17 : decode cX5_lay 17 = .ok (.getfield 23, 3) := by decide +kernel
theorem dX5_lay_20 : decode cX5_lay 20 = .ok (.getfield 91, 3) := by decide +kernel
theorem dX5_lay_23 : decode cX5_lay 23 = .ok (.ifCond .ne 6, 3) := by decide +kernel
theorem dX5_lay_26 : decode cX5_lay 26 = .ok (.bipush (-2), 2) := by decide +kernel
theorem dX5_lay_28 : decode cX5_lay 28 = .ok (.ireturn, 1) := by decide +kernel
theorem dX5_lay_29 : decode cX5_lay 29 = .ok (.aload_n 0, 1) := by decide +kernel
theorem dX5_lay_30 : decode cX5_lay 30 = .ok (.getfield 19, 3) := by decide +kernel
theorem dX5_lay_33 : decode cX5_lay 33 = .ok (.astore_n 1, 1) := by decide +kernel
theorem dX5_lay_34 : decode cX5_lay 34 = .ok (.aload_n 0, 1) := by decide +kernel
theorem dX5_lay_35 : decode cX5_lay 35 = .ok (.aload_n 0, 1) := by decide +kernel
theorem dX5_lay_36 : decode cX5_lay 36 = .ok (.getfield 23, 3) := by decide +kernel
theorem dX5_lay_39 : decode cX5_lay 39 = .ok (.putfield 19, 3) := by decide +kernel
theorem dX5_lay_42 : decode cX5_lay 42 = .ok (.aload_n 0, 1) := by decide +kernel
theorem dX5_lay_43 : decode cX5_lay 43 = .ok (.aload_n 1, 1) := by decide +kernel
theorem dX5_lay_44 : decode cX5_lay 44 = .ok (.putfield 23, 3) := by decide +kernel
theorem dX5_lay_47 : decode cX5_lay 47 = .ok (.aload_n 0, 1) := by decide +kernel
theorem dX5_lay_48 : decode cX5_lay 48 = .ok (.getfield 29, 3) := by decide +kernel
theorem dX5_lay_51 : decode cX5_lay 51 = .ok (.aload_n 0, 1) := by decide +kernel
theorem dX5_lay_52 : decode cX5_lay 52 = .ok (.getfield 19, 3) := by decide +kernel
theorem dX5_lay_55 : decode cX5_lay 55 = .ok (.getfield 94, 3) := by decide +kernel
theorem dX5_lay_58 : decode cX5_lay 58 = .ok (.aload_n 0, 1) := by decide +kernel
theorem dX5_lay_59 : decode cX5_lay 59 = .ok (.getfield 19, 3) := by decide +kernel
theorem dX5_lay_62 : decode cX5_lay 62 = .ok (.getfield 97, 3) := by decide +kernel
theorem dX5_lay_65 : decode cX5_lay 65 = .ok (.invokevirtual 100, 3) := by decide +kernel
theorem dX5_lay_68 : decode cX5_lay 68 = .ok (.aload_n 0, 1) := by decide +kernel
theorem dX5_lay_69 : decode cX5_lay 69 = .ok (.getfield 39, 3) := by decide +kernel
