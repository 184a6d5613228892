theorem dX5_isLoose_9 : decode cX5_isLoose 9 = .ok (.getfield 19, 3) := by decide +kernel
theorem dX5_isLoose_12 : decode cX5_isLoose 12 = .ok (.aload_n 0, 1) := by decide +kernel
theorem dX5_isLoose_13 : decode cX5_isLoose 13 = .ok (.getfield 19, 3) := by decide +kernel
theorem dX5_isLoose_16 : decode cX5_isLoose 16 = .ok (.getfield 113, 3) := by decide +kernel
theorem dX5_isLoose_19 : decode cX5_isLoose 19 = .ok (.iload_n 2, 1) := by decide +kernel
theorem dX5_isLoose_20 : decode cX5_isLoose 20 = .ok (.iaload, 1) := by decide +kernel
theorem dX5_isLoose_21 : decode cX5_isLoose 21 = .ok (.invokevirtual 256, 3) := by decide +kernel
theorem dX5_isLoose_24 : decode cX5_isLoose 24 = .ok (.ifCond .ne 7, 3) := by decide +kernel
theorem dX5_isLoose_27 : decode cX5_isLoose 27 = .ok (.iconst 1, 1) := by decide +kernel
theorem dX5_isLoose_28 : decode cX5_isLoose 28 = .ok (.goto 4, 3) := by decide +kernel
theorem dX5_isLoose_31 : decode cX5_isLoose 31 = .ok (.iconst 0, 1) := by decide +kernel
theorem dX5_isLoose_32 : decode cX5_isLoose 32 = .ok (.ireturn, 1) := by decide +kernel
set_option maxRecDepth 20000 in
theorem ggX5_canBeBought_X4_howIs : GoodIn wsX5_canBeBought wsX4_howIs := goodIn_r _ [8, 9, 10, 33, 34, 35, 36, 37] (by decide +kernel) (by decide +kernel)
set_option maxRecDepth 20000 in
theorem gX5_canBeBought_X4_howIs : GoodIn wsX5_canBeBought (wsV RX5 123 RX4 yX4_howIs wsX4_howIs) := goodIn_app (goodIn_of _ (by decide +kernel)) ggX5_canBeBought_X4_howIs
theorem dX5_canBeBought_0 : decode cX5_canBeBought 0 = .ok (.aload_n 1, 1) := by decide +kernel
theorem dX5_canBeBought_1 : decode cX5_canBeBought 1 = .ok (.iload_n 2, 1) := by decide +kernel
theorem dX5_canBeBought_2 : decode cX5_canBeBought 2 = .ok (.invokevirtual 123, 3) := by decide +kernel
theorem dX5_canBeBought_5 : decode cX5_canBeBought 5 = .ok (.ifCond .ne 23, 3) := by decide +kernel
theorem dX5_canBeBought_8 : decode cX5_canBeBought 8 = .ok (.aload_n 0, 1) := by decide +kernel
theorem dX5_canBeBought_9 : decode cX5_canBeBought 9 = .ok (.getfield 19, 3) := by decide +kernel
theorem dX5_canBeBought_12 : decode cX5_canBeBought 12 = .ok (.getfield 120, 3) := by decide +kernel
theorem dX5_canBeBought_15 : decode cX5_canBeBought 15 = .ok (.iload_n 2, 1) := by decide +kernel
theorem dX5_canBeBought_16 : decode cX5_canBeBought 16 = .ok (.iaload, 1) := by decide +kernel
theorem dX5_canBeBought_17 : decode cX5_canBeBought 17 = .ok (.aload_n 1, 1) := by decide +kernel
theorem dX5_canBeBought_18 : decode cX5_canBeBought 18 = .ok (.getfield 172, 3) := by decide +kernel
theorem dX5_canBeBought_21 : decode cX5_canBeBought 21 = .ok (.if_icmp .gt 7, 3) := by decide +kernel
theorem dX5_canBeBought_24 : decode cX5_canBeBought 24 = .ok (.iconst 1, 1) := by decide +kernel
theorem dX5_canBeBought_25 : decode cX5_canBeBought 25 = .ok (.goto 4, 3) := by decide +kernel
theorem dX5_canBeBought_28 : decode cX5_canBeBought 28 = .ok (.iconst 0, 1) := by decide +kernel
theorem dX5_canBeBought_29 : decode cX5_canBeBought 29 = .ok (.ireturn, 1) := by decide +kernel
set_option maxRecDepth 20000 in
theorem ggX5_looseOnes_X5_isLoose : GoodIn wsX5_looseOnes wsX5_isLoose := goodIn_r _ [8, 1, 9, 10, 11, 12, 13, 14, 15, 16, 17, 18, 19, 20, 21, 22, 23, 24, 25, 26, 27, 28, 29, 30, 31, 32, 33, 34, 35, 36, 37, 38, 39, 40, 41, 42, 43, 44, 45, 46, 47, 48, 49] (by decide +kernel) (by decide +kernel)
set_option maxRecDepth 20000 in
theorem gX5_looseOnes_X5_isLoose : GoodIn wsX5_looseOnes (wsV RX5 130 RX5 yX5_isLoose wsX5_isLoose) := goodIn_app (goodIn_of _ (by decide +kernel)) ggX5_looseOnes_X5_isLoose
theorem dX5_looseOnes_0 : decode cX5_looseOnes 0 = .ok (.iconst 0, 1) := by decide +kernel
theorem dX5_looseOnes_1 : decode cX5_looseOnes 1 = .ok (.istore_n 1, 1) := by decide +kernel
theorem dX5_looseOnes_2 : decode cX5_looseOnes 2 = .ok (.iconst 0, 1) := by decide +kernel
theorem dX5_looseOnes_3 : decode cX5_looseOnes 3 = .ok (.istore_n 2, 1) := by decide +kernel
theorem dX5_looseOnes_4 : decode cX5_looseOnes 4 = .ok (.iload_n 2, 1) := by decide +kernel
theorem dX5_looseOnes_5 : decode cX5_looseOnes 5 = .ok (.aload_n 0, 1) := by decide +kernel
theorem dX5_looseOnes_6 : decode cX5_looseOnes 6 = .ok (.getfield 19, 3) := by decide +kernel
theorem dX5_looseOnes_9 : decode cX5_looseOnes 9 = .ok (.getfield 91, 3) := by decide +kernel
theorem dX5_looseOnes_12 : decode cX5_looseOnes 12 = .ok (.if_icmp .ge 27, 3) := by decide +kernel
theorem dX5_looseOnes_15 : decode cX5_looseOnes 15 = .ok (.aload_n 0, 1) := by decide +kernel
theorem dX5_looseOnes_16 : decode cX5_looseOnes 16 = .ok (.aload_n 0, 1) := by decide +kernel
theorem dX5_looseOnes_17 : decode cX5_looseOnes 17 = .ok (.getfield 29, 3) := by decide +kernel
theorem dX5_looseOnes_20 : decode cX5_looseOnes 20 = .ok (.iload_n 2, 1) := by decide +kernel
theorem dX5_looseOnes_21 : decode cX5_looseOnes 21 = .ok (.invokevirtual 130, 3) := by decide +kernel
theorem dX5_looseOnes_24 : decode cX5_looseOnes 24 = .ok (.ifCond .eq 9, 3) := by decide +kernel
theorem dX5_looseOnes_27 : decode cX5_looseOnes 27 = .ok (.iload_n 1, 1) := by decide +kernel
theorem dX5_looseOnes_28 : decode cX5_looseOnes 28 = .ok (.iconst 1, 1) := by decide +kernel
theorem dX5_looseOnes_29 : decode cX5_looseOnes 29 = .ok (.iload_n 2, 1) := by decide +kernel
theorem dX5_looseOnes_30 : decode cX5_looseOnes 30 = .ok (.ishl, 1) := by decide +kernel
theorem dX5_looseOnes_31 : decode cX5_looseOnes 31 = .ok (.ior, 1) := by decide +kernel
theorem dX5_looseOnes_32 : decode cX5_looseOnes 32 = .ok (.istore_n 1, 1) := by decide +kernel
theorem dX5_looseOnes_33 : decode cX5_looseOnes 33 = .ok (.iinc 2 1, 3) := by decide +kernel
theorem dX5_looseOnes_36 : decode cX5_looseOnes 36 = .ok (.goto (-32), 3) := by decide +kernel
theorem dX5_looseOnes_39 : decode cX5_looseOnes 39 = .ok (.iload_n 1, 1) := by decide +kernel
theorem dX5_looseOnes_40 : decode cX5_looseOnes 40 = .ok (.ireturn, 1) := by decide +kernel
set_option maxRecDepth 20000 in
theorem ggX5_looseTellers_X5_isLoose : GoodIn wsX5_looseTellers wsX5_isLoose := goodIn_r _ [8, 1, 9, 10, 11, 12, 13, 14, 15, 16, 17, 18, 19, 20, 21, 22, 45, 46, 47, 48, 49, 50, 51, 52, 53, 54, 55, 56, 57, 58, 59, 60, 61, 62, 63, 64, 65, 66, 67, 68, 69, 70, 71] (by decide +kernel) (by decide +kernel)
set_option maxRecDepth 20000 in
theorem gX5_looseTellers_X5_isLoose : GoodIn wsX5_looseTellers (wsV RX5 130 RX5 yX5_isLoose wsX5_isLoose) := goodIn_app (goodIn_of _ (by decide +kernel)) ggX5_looseTellers_X5_isLoose
set_option maxRecDepth 20000 in
theorem ggX5_looseTellers_X4_roomOf : GoodIn wsX5_looseTellers wsX4_roomOf := goodIn_r _ [26, 27, 67, 68, 69, 70, 71] (by decide +kernel) (by decide +kernel)
set_option maxRecDepth 20000 in
theorem gX5_looseTellers_X4_roomOf : GoodIn wsX5_looseTellers (wsV RX5 116 RX4 yX4_roomOf wsX4_roomOf) := goodIn_app (goodIn_of _ (by decide +kernel)) ggX5_looseTellers_X4_roomOf
set_option maxRecDepth 20000 in
theorem ggX5_looseTellers_X0_toldBy : GoodIn wsX5_looseTellers wsX0_toldBy := goodIn_r _ [31, 32, 33, 34, 35, 36, 37, 38, 39, 20, 40, 41, 42, 43, 44, 55, 56, 57, 58, 59, 60, 61, 62, 63, 64, 65, 66] (by decide +kernel) (by decide +kernel)
set_option maxRecDepth 20000 in
theorem gX5_looseTellers_X0_toldBy : GoodIn wsX5_looseTellers (wsV RX5 126 RX0 yX0_toldBy wsX0_toldBy) := goodIn_app (goodIn_of _ (by decide +kernel)) ggX5_looseTellers_X0_toldBy
theorem dX5_looseTellers_0 : decode cX5_looseTellers 0 = .ok (.iconst 0, 1) := by decide +kernel
theorem dX5_looseTellers_1 : decode cX5_looseTellers 1 = .ok (.istore_n 2, 1) := by decide +kernel
theorem dX5_looseTellers_2 : decode cX5_looseTellers 2 = .ok (.iconst 0, 1) := by decide +kernel
theorem dX5_looseTellers_3 : decode cX5_looseTellers 3 = .ok (.istore_n 3, 1) := by decide +kernel
theorem dX5_looseTellers_4 : decode cX5_looseTellers 4 = .ok (.iload_n 3, 1) := by decide +kernel
theorem dX5_looseTellers_5 : decode cX5_looseTellers 5 = .ok (.aload_n 0, 1) := by decide +kernel
theorem dX5_looseTellers_6 : decode cX5_looseTellers 6 = .ok (.getfield 19, 3) := by decide +kernel
theorem dX5_looseTellers_9 : decode cX5_looseTellers 9 = .ok (.getfield 91, 3) := by decide +kernel
theorem dX5_looseTellers_12 : decode cX5_looseTellers 12 = .ok (.if_icmp .ge 48, 3) := by decide +kernel
theorem dX5_looseTellers_15 : decode cX5_looseTellers 15 = .ok (.aload_n 0, 1) := by decide +kernel
theorem dX5_looseTellers_16 : decode cX5_looseTellers 16 = .ok (.aload_n 0, 1) := by decide +kernel
theorem dX5_looseTellers_17 : decode cX5_looseTellers 17 = .ok (.getfield 29, 3) := by decide +kernel
theorem dX5_looseTellers_20 : decode cX5_looseTellers 20 = .ok (.iload_n 3, 1) := by decide +kernel
theorem dX5_looseTellers_21 : decode cX5_looseTellers 21 = .ok (.invokevirtual 130, 3) := by decide +kernel
theorem dX5_looseTellers_24 : decode cX5_looseTellers 24 = .ok (.ifCond .eq 30, 3) := by decide +kernel
theorem dX5_looseTellers_27 : decode cX5_looseTellers 27 = .ok (.aload_n 0, 1) := by decide +kernel
theorem dX5_looseTellers_28 : decode cX5_looseTellers 28 = .ok (.getfield 19, 3) := by decide +kernel
theorem dX5_looseTellers_31 : decode cX5_looseTellers 31 = .ok (.iload_n 3, 1) := by decide +kernel
theorem dX5_looseTellers_32 : decode cX5_looseTellers 32 = .ok (.aload_n 0, 1) := by decide +kernel
theorem dX5_looseTellers_33 : decode cX5_looseTellers 33 = .ok (.getfield 29, 3) := by decide +kernel
theorem dX5_looseTellers_36 : decode cX5_looseTellers 36 = .ok (.iload_n 3, 1) := by decide +kernel
theorem dX5_looseTellers_37 : decode cX5_looseTellers 37 = .ok (.invokevirtual 116, 3) := by decide +kernel
theorem dX5_looseTellers_40 : decode cX5_looseTellers 40 = .ok (.invokevirtual 126, 3) := by decide +kernel
theorem dX5_looseTellers_43 : decode cX5_looseTellers 43 = .ok (.iload_n 1, 1) := by decide +kernel
theorem dX5_looseTellers_44 : decode cX5_looseTellers 44 = .ok (.iand, 1) := by decide +kernel
theorem dX5_looseTellers_45 : decode cX5_looseTellers 45 = .ok (.ifCond .eq 9, 3) := by decide +kernel
theorem dX5_looseTellers_48 : decode cX5_looseTellers 48 = .ok (.iload_n 2, 1) := by decide +kernel
theorem dX5_looseTellers_49 : decode cX5_looseTellers 49 = .ok (.iconst 1, 1) := by decide +kernel
theorem dX5_looseTellers_50 : decode cX5_looseTellers 50 = .ok (.iload_n 3, 1) := by decide +kernel
theorem dX5_looseTellers_51 : decode cX5_looseTellers 51 = .ok (.ishl, 1) := by decide +kernel
theorem dX5_looseTellers_52 : decode cX5_looseTellers 52 = .ok (.ior, 1) := by decide +kernel
theorem dX5_looseTellers_53 : decode cX5_looseTellers 53 = .ok (.istore_n 2, 1) := by decide +kernel
theorem dX5_looseTellers_54 : decode cX5_looseTellers 54 = .ok (.iinc 3 1, 3) := by decide +kernel
theorem dX5_looseTellers_57 : decode cX5_looseTellers 57 = .ok (.goto (-53), 3) := by decide +kernel
theorem dX5_looseTellers_60 : decode cX5_looseTellers 60 = .ok (.iload_n 2, 1) := by decide +kernel
theorem dX5_looseTellers_61 : decode cX5_looseTellers 61 = .ok (.ireturn, 1) := by decide +kernel
set_option maxRecDepth 20000 in
theorem ggX5_fillTold_X4_roomOf : GoodIn wsX5_fillTold wsX4_roomOf := goodIn_r _ [9, 10, 51, 52, 53, 54, 55] (by decide +kernel) (by decide +kernel)
set_option maxRecDepth 20000 in
theorem gX5_fillTold_X4_roomOf : GoodIn wsX5_fillTold (wsV RX5 116 RX4 yX4_roomOf wsX4_roomOf) := goodIn_app (goodIn_of _ (by decide +kernel)) ggX5_fillTold_X4_roomOf
set_option maxRecDepth 20000 in
theorem ggX5_fillTold_X0_toldBy : GoodIn wsX5_fillTold wsX0_toldBy := goodIn_r _ [15, 16, 17, 18, 19, 20, 21, 22, 23, 14, 24, 25, 26, 27, 28, 39, 40, 41, 42, 43, 44, 45, 46, 47, 48, 49, 50] (by decide +kernel) (by decide +kernel)
set_option maxRecDepth 20000 in
theorem gX5_fillTold_X0_toldBy : GoodIn wsX5_fillTold (wsV RX5 126 RX0 yX0_toldBy wsX0_toldBy) := goodIn_app (goodIn_of _ (by decide +kernel)) ggX5_fillTold_X0_toldBy
theorem dX5_fillTold_0 : decode cX5_fillTold 0 = .ok (.iconst 0, 1) := by decide +kernel
theorem dX5_fillTold_1 : decode cX5_fillTold 1 = .ok (.istore_n 1, 1) := by decide +kernel
theorem dX5_fillTold_2 : decode cX5_fillTold 2 = .ok (.iload_n 1, 1) := by decide +kernel
theorem dX5_fillTold_3 : decode cX5_fillTold 3 = .ok (.aload_n 0, 1) := by decide +kernel
theorem dX5_fillTold_4 : decode cX5_fillTold 4 = .ok (.getfield 19, 3) := by decide +kernel
theorem dX5_fillTold_7 : decode cX5_fillTold 7 = .ok (.getfield 91, 3) := by decide +kernel
theorem dX5_fillTold_10 : decode cX5_fillTold 10 = .ok (.if_icmp .ge 31, 3) := by decide +kernel
theorem dX5_fillTold_13 : decode cX5_fillTold 13 = .ok (.aload_n 0, 1) := by decide +kernel
theorem dX5_fillTold_14 : decode cX5_fillTold 14 = .ok (.getfield 54, 3) := by decide +kernel
theorem dX5_fillTold_17 : decode cX5_fillTold 17 = .ok (.iload_n 1, 1) := by decide +kernel
theorem dX5_fillTold_18 : decode cX5_fillTold 18 = .ok (.aload_n 0, 1) := by decide +kernel
theorem dX5_fillTold_19 : decode cX5_fillTold 19 = .ok (.getfield 19, 3) := by decide +kernel
theorem dX5_fillTold_22 : decode cX5_fillTold 22 = .ok (.iload_n 1, 1) := by decide +kernel
theorem dX5_fillTold_23 : decode cX5_fillTold 23 = .ok (.aload_n 0, 1) := by decide +kernel
theorem dX5_fillTold_24 : decode cX5_fillTold 24 = .ok (.getfield 29, 3) := by decide +kernel
theorem dX5_fillTold_27 : decode cX5_fillTold 27 = .ok (.iload_n 1, 1) := by decide +kernel
theorem dX5_fillTold_28 : decode cX5_fillTold 28 = .ok (.invokevirtual 116, 3) := by decide +kernel
theorem dX5_fillTold_31 : decode cX5_fillTold 31 = .ok (.invokevirtual 126, 3) := by decide +kernel
theorem dX5_fillTold_34 : decode cX5_fillTold 34 = .ok (.iastore, 1) := by decide +kernel
theorem dX5_fillTold_35 : decode cX5_fillTold 35 = .ok (.iinc 1 1, 3) := by decide +kernel
theorem dX5_fillTold_38 : decode cX5_fillTold 38 = .ok (.goto (-36), 3) := by decide +kernel
theorem dX5_fillTold_41 : decode cX5_fillTold 41 = .ok (.return_, 1) := by decide +kernel
theorem dX5_toldBySet_0 : decode cX5_toldBySet 0 = .ok (.iconst 0, 1) := by decide +kernel
theorem dX5_toldBySet_1 : decode cX5_toldBySet 1 = .ok (.istore_n 2, 1) := by decide +kernel
theorem dX5_toldBySet_2 : decode cX5_toldBySet 2 = .ok (.iconst 0, 1) := by decide +kernel
theorem dX5_toldBySet_3 : decode cX5_toldBySet 3 = .ok (.istore_n 3, 1) := by decide +kernel
theorem dX5_toldBySet_4 : decode cX5_toldBySet 4 = .ok (.iload_n 3, 1) := by decide +kernel
theorem dX5_toldBySet_5 : decode cX5_toldBySet 5 = .ok (.aload_n 0, 1) := by decide +kernel
theorem dX5_toldBySet_6 : decode cX5_toldBySet 6 = .ok (.getfield 19, 3) := by decide +kernel
theorem dX5_toldBySet_9 : decode cX5_toldBySet 9 = .ok (.getfield 91, 3) := by decide +kernel
theorem dX5_toldBySet_12 : decode cX5_toldBySet 12 = .ok (.if_icmp .ge 27, 3) := by decide +kernel
theorem dX5_toldBySet_15 : decode cX5_toldBySet 15 = .ok (.iload_n 1, 1) := by decide +kernel
theorem dX5_toldBySet_16 : decode cX5_toldBySet 16 = .ok (.iload_n 3, 1) := by decide +kernel
theorem dX5_toldBySet_17 : decode cX5_toldBySet 17 = .ok (.ishr, 1) := by decide +kernel
theorem dX5_toldBySet_18 : decode cX5_toldBySet 18 = .ok (.iconst 1, 1) := by decide +kernel
theorem dX5_toldBySet_19 : decode cX5_toldBySet 19 = .ok (.iand, 1) := by decide +kernel
theorem dX5_toldBySet_20 : decode cX5_toldBySet 20 = .ok (.iconst 1, 1) := by decide +kernel
theorem dX5_toldBySet_21 : decode cX5_toldBySet 21 = .ok (.if_icmp .ne 12, 3) := by decide +kernel
theorem dX5_toldBySet_24 : decode cX5_toldBySet 24 = .ok (.iload_n 2, 1) := by decide +kernel
theorem dX5_toldBySet_25 : decode cX5_toldBySet 25 = .ok (.aload_n 0, 1) := by decide +kernel
theorem dX5_toldBySet_26 : decode cX5_toldBySet 26 = .ok (.getfield 54, 3) := by decide +kernel
theorem dX5_toldBySet_29 : decode cX5_toldBySet 29 = .ok (.iload_n 3, 1) := by decide +kernel
theorem dX5_toldBySet_30 : decode cX5_toldBySet 30 = .ok (.iaload, 1) := by decide +kernel
theorem dX5_toldBySet_31 : decode cX5_toldBySet 31 = .ok (.ior, 1) := by decide +kernel
theorem dX5_toldBySet_32 : decode cX5_toldBySet 32 = .ok (.istore_n 2, 1) := by decide +kernel
theorem dX5_toldBySet_33 : decode cX5_toldBySet 33 = .ok (.iinc 3 1, 3) := by decide +kernel
theorem dX5_toldBySet_36 : decode cX5_toldBySet 36 = .ok (.goto (-32), 3) := by decide +kernel
theorem dX5_toldBySet_39 : decode cX5_toldBySet 39 = .ok (.iload_n 2, 1) := by decide +kernel
theorem dX5_toldBySet_40 : decode cX5_toldBySet 40 = .ok (.ireturn, 1) := by decide +kernel
set_option maxRecDepth 20000 in
theorem ggX5_weightLeft_X5_toldBySet : GoodIn wsX5_weightLeft wsX5_toldBySet := goodIn_r _ [8, 1, 9, 10, 18, 19, 20, 21, 22, 23, 24, 25, 26, 27, 33, 34, 35, 36, 37, 38, 39, 40, 41, 42, 43, 44] (by decide +kernel) (by decide +kernel)
set_option maxRecDepth 20000 in
theorem gX5_weightLeft_X5_toldBySet : GoodIn wsX5_weightLeft (wsV RX5 212 RX5 yX5_toldBySet wsX5_toldBySet) := goodIn_app (goodIn_of _ (by decide +kernel)) ggX5_weightLeft_X5_toldBySet
set_option maxRecDepth 20000 in
theorem ggX5_weightLeft_X0_weightOf : GoodIn wsX5_weightLeft wsX0_weightOf := goodIn_r _ [15, 16, 17, 33, 34, 35, 36, 37, 38, 39, 40, 41, 42, 43, 44] (by decide +kernel) (by decide +kernel)
set_option maxRecDepth 20000 in
theorem gX5_weightLeft_X0_weightOf : GoodIn wsX5_weightLeft (wsV RX5 230 RX0 yX0_weightOf wsX0_weightOf) := goodIn_app (goodIn_of _ (by decide +kernel)) ggX5_weightLeft_X0_weightOf
theorem dX5_weightLeft_0 : decode cX5_weightLeft 0 = .ok (.aload_n 0, 1) := by decide +kernel
theorem dX5_weightLeft_1 : decode cX5_weightLeft 1 = .ok (.getfield 19, 3) := by decide +kernel
theorem dX5_weightLeft_4 : decode cX5_weightLeft 4 = .ok (.aload_n 0, 1) := by decide +kernel
theorem dX5_weightLeft_5 : decode cX5_weightLeft 5 = .ok (.iload_n 1, 1) := by decide +kernel
theorem dX5_weightLeft_6 : decode cX5_weightLeft 6 = .ok (.invokevirtual 212, 3) := by decide +kernel
theorem dX5_weightLeft_9 : decode cX5_weightLeft 9 = .ok (.aload_n 0, 1) := by decide +kernel
theorem dX5_weightLeft_10 : decode cX5_weightLeft 10 = .ok (.getfield 29, 3) := by decide +kernel
theorem dX5_weightLeft_13 : decode cX5_weightLeft 13 = .ok (.getfield 191, 3) := by decide +kernel
theorem dX5_weightLeft_16 : decode cX5_weightLeft 16 = .ok (.iconst (-1), 1) := by decide +kernel
theorem dX5_weightLeft_17 : decode cX5_weightLeft 17 = .ok (.ixor, 1) := by decide +kernel
theorem dX5_weightLeft_18 : decode cX5_weightLeft 18 = .ok (.iand, 1) := by decide +kernel
theorem dX5_weightLeft_19 : decode cX5_weightLeft 19 = .ok (.invokevirtual 230, 3) := by decide +kernel
theorem dX5_weightLeft_22 : decode cX5_weightLeft 22 = .ok (.ireturn, 1) := by decide +kernel
set_option maxRecDepth 20000 in
theorem ggX5_silence_X5_looseTellers : GoodIn wsX5_silence wsX5_looseTellers := goodIn_r _ [6, 1, 7, 8, 9, 10, 11, 5, 12, 13, 14, 15, 16, 17, 18, 19, 20, 21, 22, 23, 24, 25, 26, 27, 28, 29, 30, 31, 32, 33, 34, 35, 36, 37, 38, 39, 40, 41, 42, 43, 44, 45, 46, 47, 48, 55, 56, 57, 58, 59, 60, 61, 62, 63, 64, 65, 66, 67, 68, 69, 70, 71, 72, 73, 74, 75, 76, 77, 78, 79, 80, 81] (by decide +kernel) (by decide +kernel)
set_option maxRecDepth 20000 in
theorem gX5_silence_X5_looseTellers : GoodIn wsX5_silence (wsV RX5 152 RX5 yX5_looseTellers wsX5_looseTellers) := goodIn_app (goodIn_of _ (by decide +kernel)) ggX5_silence_X5_looseTellers
set_option maxRecDepth 20000 in
theorem ggX5_silence_X0_priceOf : GoodIn wsX5_silence wsX0_priceOf := goodIn_r _ [52, 53, 54, 65, 66, 67, 68, 69, 70, 71, 72, 73, 74, 75, 76] (by decide +kernel) (by decide +kernel)
set_option maxRecDepth 20000 in
theorem gX5_silence_X0_priceOf : GoodIn wsX5_silence (wsV RX5 209 RX0 yX0_priceOf wsX0_priceOf) := goodIn_app (goodIn_of _ (by decide +kernel)) ggX5_silence_X0_priceOf
theorem dX5_silence_0 : decode cX5_silence 0 = .ok (.aload_n 0, 1) := by decide +kernel
theorem dX5_silence_1 : decode cX5_silence 1 = .ok (.iload_n 1, 1) := by decide +kernel
theorem dX5_silence_2 : decode cX5_silence 2 = .ok (.invokevirtual 152, 3) := by decide +kernel
theorem dX5_silence_5 : decode cX5_silence 5 = .ok (.istore_n 3, 1) := by decide +kernel
theorem dX5_silence_6 : decode cX5_silence 6 = .ok (.iload_n 2, 1) := by decide +kernel
theorem dX5_silence_7 : decode cX5_silence 7 = .ok (.ifCond .ne 14, 3) := by decide +kernel
theorem dX5_silence_10 : decode cX5_silence 10 = .ok (.aload_n 0, 1) := by decide +kernel
theorem dX5_silence_11 : decode cX5_silence 11 = .ok (.getfield 19, 3) := by decide +kernel
theorem dX5_silence_14 : decode cX5_silence 14 = .ok (.iload_n 3, 1) := by decide +kernel
theorem dX5_silence_15 : decode cX5_silence 15 = .ok (.invokevirtual 209, 3) := by decide +kernel
theorem dX5_silence_18 : decode cX5_silence 18 = .ok (.goto 4, 3) := by decide +kernel
theorem dX5_silence_21 : decode cX5_silence 21 = .ok (.iload_n 3, 1) := by decide +kernel
theorem dX5_silence_22 : decode cX5_silence 22 = .ok (.ireturn, 1) := by decide +kernel
set_option maxRecDepth 20000 in
theorem ggX5_loudest_X0_weightOf : GoodIn wsX5_loudest wsX0_weightOf := goodIn_r _ [8, 9, 10, 21, 22, 23, 24, 25, 26, 27, 28, 29, 30, 31, 32] (by decide +kernel) (by decide +kernel)
set_option maxRecDepth 20000 in
theorem gX5_loudest_X0_weightOf : GoodIn wsX5_loudest (wsV RX5 230 RX0 yX0_weightOf wsX0_weightOf) := goodIn_app (goodIn_of _ (by decide +kernel)) ggX5_loudest_X0_weightOf
theorem dX5_loudest_0 : decode cX5_loudest 0 = .ok (.iconst (-1), 1) := by decide +kernel
theorem dX5_loudest_1 : decode cX5_loudest 1 = .ok (.istore_n 3, 1) := by decide +kernel
theorem dX5_loudest_2 : decode cX5_loudest 2 = .ok (.iconst 0, 1) := by decide +kernel
theorem dX5_loudest_3 : decode cX5_loudest 3 = .ok (.istore 4, 2) := by decide +kernel
theorem dX5_loudest_5 : decode cX5_loudest 5 = .ok (.iconst 0, 1) := by decide +kernel
theorem dX5_loudest_6 : decode cX5_loudest 6 = .ok (.istore 5, 2) := by decide +kernel
theorem dX5_loudest_8 : decode cX5_loudest 8 = .ok (.iload 5, 2) := by decide +kernel
theorem dX5_loudest_10 : decode cX5_loudest 10 = .ok (.aload_n 0, 1) := by decide +kernel
theorem dX5_loudest_11 : decode cX5_loudest 11 = .ok (.getfield 19, 3) := by decide +kernel
theorem dX5_loudest_14 : decode cX5_loudest 14 = .ok (.getfield 91, 3) := by decide +kernel
theorem dX5_loudest_17 : decode cX5_loudest 17 = .ok (.if_icmp .ge 53, 3) := by decide +kernel
theorem dX5_loudest_20 : decode cX5_loudest 20 = .ok (.aload_n 0, 1) := by decide +kernel
theorem dX5_loudest_21 : decode cX5_loudest 21 = .ok (.getfield 19, 3) := by decide +kernel
theorem dX5_loudest_24 : decode cX5_loudest 24 = .ok (.aload_n 0, 1) := by decide +kernel
theorem dX5_loudest_25 : decode cX5_loudest 25 = .ok (.getfield 54, 3) := by decide +kernel
theorem dX5_loudest_28 : decode cX5_loudest 28 = .ok (.iload 5, 2) := by decide +kernel
theorem dX5_loudest_30 : decode cX5_loudest 30 = .ok (.iaload, 1) := by decide +kernel
theorem dX5_loudest_31 : decode cX5_loudest 31 = .ok (.iload_n 2, 1) := by decide +kernel
theorem dX5_loudest_32 : decode cX5_loudest 32 = .ok (.iconst (-1), 1) := by decide +kernel
theorem dX5_loudest_33 : decode cX5_loudest 33 = .ok (.ixor, 1) := by decide +kernel
theorem dX5_loudest_34 : decode cX5_loudest 34 = .ok (.iand, 1) := by decide +kernel
theorem dX5_loudest_35 : decode cX5_loudest 35 = .ok (.invokevirtual 230, 3) := by decide +kernel
theorem dX5_loudest_38 : decode cX5_loudest 38 = .ok (.istore 6, 2) := by decide +kernel
theorem dX5_loudest_40 : decode cX5_loudest 40 = .ok (.iload_n 1, 1) := by decide +kernel
theorem dX5_loudest_41 : decode cX5_loudest 41 = .ok (.iload 5, 2) := by decide +kernel
theorem dX5_loudest_43 : decode cX5_loudest 43 = .ok (.ishr, 1) := by decide +kernel
theorem dX5_loudest_44 : decode cX5_loudest 44 = .ok (.iconst 1, 1) := by decide +kernel
theorem dX5_loudest_45 : decode cX5_loudest 45 = .ok (.iand, 1) := by decide +kernel
theorem dX5_loudest_46 : decode cX5_loudest 46 = .ok (.iconst 1, 1) := by decide +kernel
theorem dX5_loudest_47 : decode cX5_loudest 47 = .ok (.if_icmp .ne 17, 3) := by decide +kernel
theorem dX5_loudest_50 : decode cX5_loudest 50 = .ok (.iload 6, 2) := by decide +kernel
theorem dX5_loudest_52 : decode cX5_loudest 52 = .ok (.iload 4, 2) := by decide +kernel
theorem dX5_loudest_54 : decode cX5_loudest 54 = .ok (.if_icmp .le 10, 3) := by decide +kernel
theorem dX5_loudest_57 : decode cX5_loudest 57 = .ok (.iload 6, 2) := by decide +kernel
theorem dX5_loudest_59 : decode cX5_loudest 59 = .ok (.istore 4, 2) := by decide +kernel
theorem dX5_loudest_61 : decode cX5_loudest 61 = .ok (.iload 5, 2) := by decide +kernel
theorem dX5_loudest_63 : decode cX5_loudest 63 = .ok (.istore_n 3, 1) := by decide +kernel
theorem dX5_loudest_64 : decode cX5_loudest 64 = .ok (.iinc 5 1, 3) := by decide +kernel
theorem dX5_loudest_67 : decode cX5_loudest 67 = .ok (.goto (-59), 3) := by decide +kernel
theorem dX5_loudest_70 : decode cX5_loudest 70 = .ok (.iload_n 3, 1) := by decide +kernel
theorem dX5_loudest_71 : decode cX5_loudest 71 = .ok (.ireturn, 1) := by decide +kernel
set_option maxRecDepth 20000 in
theorem ggX5_roomsThatMay_X5_agreesWithSeen : GoodIn wsX5_roomsThatMay wsX5_agreesWithSeen := goodIn_r _ [7, 8, 9, 10, 11, 12, 1, 13, 14, 15, 16, 17, 18, 6, 19, 20, 21, 22, 23, 24, 25, 26, 27, 28, 29, 30, 31, 32, 33, 34, 35, 36, 37, 38, 39, 40, 41, 42, 43, 44, 45, 46, 47, 48, 49, 50, 51, 64, 65, 66, 67, 52, 53, 54, 55, 56, 57, 58, 59, 60, 61, 62, 63, 68, 69, 70, 71, 72] (by decide +kernel) (by decide +kernel)
set_option maxRecDepth 20000 in
theorem gX5_roomsThatMay_X5_agreesWithSeen : GoodIn wsX5_roomsThatMay (wsV RX5 259 RX5 yX5_agreesWithSeen wsX5_agreesWithSeen) := goodIn_app (goodIn_of _ (by decide +kernel)) ggX5_roomsThatMay_X5_agreesWithSeen
theorem dX5_roomsThatMay_0 : decode cX5_roomsThatMay 0 = .ok (.iconst 0, 1) := by decide +kernel
theorem dX5_roomsThatMay_1 : decode cX5_roomsThatMay 1 = .ok (.istore_n 2, 1) := by decide +kernel
theorem dX5_roomsThatMay_2 : decode cX5_roomsThatMay 2 = .ok (.iconst 0, 1) := by decide +kernel
theorem dX5_roomsThatMay_3 : decode cX5_roomsThatMay 3 = .ok (.istore_n 3, 1) := by decide +kernel
theorem dX5_roomsThatMay_4 : decode cX5_roomsThatMay 4 = .ok (.iload_n 3, 1) := by decide +kernel
theorem dX5_roomsThatMay_5 : decode cX5_roomsThatMay 5 = .ok (.iconst 4, 1) := by decide +kernel
theorem dX5_roomsThatMay_6 : decode cX5_roomsThatMay 6 = .ok (.if_icmp .ge 33, 3) := by decide +kernel
theorem dX5_roomsThatMay_9 : decode cX5_roomsThatMay 9 = .ok (.aload_n 0, 1) := by decide +kernel
theorem dX5_roomsThatMay_10 : decode cX5_roomsThatMay 10 = .ok (.iload_n 1, 1) := by decide +kernel
theorem dX5_roomsThatMay_11 : decode cX5_roomsThatMay 11 = .ok (.iload_n 3, 1) := by decide +kernel
theorem dX5_roomsThatMay_12 : decode cX5_roomsThatMay 12 = .ok (.aload_n 0, 1) := by decide +kernel
theorem dX5_roomsThatMay_13 : decode cX5_roomsThatMay 13 = .ok (.getfield 19, 3) := by decide +kernel
theorem dX5_roomsThatMay_16 : decode cX5_roomsThatMay 16 = .ok (.getfield 143, 3) := by decide +kernel
theorem dX5_roomsThatMay_19 : decode cX5_roomsThatMay 19 = .ok (.iload_n 1, 1) := by decide +kernel
theorem dX5_roomsThatMay_20 : decode cX5_roomsThatMay 20 = .ok (.iaload, 1) := by decide +kernel
theorem dX5_roomsThatMay_21 : decode cX5_roomsThatMay 21 = .ok (.invokevirtual 259, 3) := by decide +kernel
theorem dX5_roomsThatMay_24 : decode cX5_roomsThatMay 24 = .ok (.ifCond .eq 9, 3) := by decide +kernel
theorem dX5_roomsThatMay_27 : decode cX5_roomsThatMay 27 = .ok (.iload_n 2, 1) := by decide +kernel
theorem dX5_roomsThatMay_28 : decode cX5_roomsThatMay 28 = .ok (.iconst 1, 1) := by decide +kernel
theorem dX5_roomsThatMay_29 : decode cX5_roomsThatMay 29 = .ok (.iload_n 3, 1) := by decide +kernel
theorem dX5_roomsThatMay_30 : decode cX5_roomsThatMay 30 = .ok (.ishl, 1) := by decide +kernel
theorem dX5_roomsThatMay_31 : decode cX5_roomsThatMay 31 = .ok (.ior, 1) := by decide +kernel
theorem dX5_roomsThatMay_32 : decode cX5_roomsThatMay 32 = .ok (.istore_n 2, 1) := by decide +kernel
theorem dX5_roomsThatMay_33 : decode cX5_roomsThatMay 33 = .ok (.iinc 3 1, 3) := by decide +kernel
theorem dX5_roomsThatMay_36 : decode cX5_roomsThatMay 36 = .ok (.goto (-32), 3) := by decide +kernel
theorem dX5_roomsThatMay_39 : decode cX5_roomsThatMay 39 = .ok (.iload_n 2, 1) := by decide +kernel
theorem dX5_roomsThatMay_40 : decode cX5_roomsThatMay 40 = .ok (.ireturn, 1) := by decide +kernel
set_option maxRecDepth 20000 in
theorem ggX5_hoursThatMay_X5_agreesWithSeen : GoodIn wsX5_hoursThatMay wsX5_agreesWithSeen := goodIn_r _ [7, 8, 9, 10, 11, 12, 1, 13, 14, 15, 16, 17, 18, 6, 19, 20, 21, 22, 23, 24, 25, 26, 27, 28, 29, 30, 31, 32, 33, 34, 35, 36, 37, 38, 39, 40, 41, 42, 43, 44, 45, 46, 47, 48, 49, 50, 51, 64, 65, 66, 67, 52, 53, 54, 55, 56, 57, 58, 59, 60, 61, 62, 63, 68, 69, 70, 71, 72] (by decide +kernel) (by decide +kernel)
set_option maxRecDepth 20000 in
theorem gX5_hoursThatMay_X5_agreesWithSeen : GoodIn wsX5_hoursThatMay (wsV RX5 259 RX5 yX5_agreesWithSeen wsX5_agreesWithSeen) := goodIn_app (goodIn_of _ (by decide +kernel)) ggX5_hoursThatMay_X5_agreesWithSeen
theorem dX5_hoursThatMay_0 : decode cX5_hoursThatMay 0 = .ok (.iconst 0, 1) := by decide +kernel
theorem dX5_hoursThatMay_1 : decode cX5_hoursThatMay 1 = .ok (.istore_n 2, 1) := by decide +kernel
theorem dX5_hoursThatMay_2 : decode cX5_hoursThatMay 2 = .ok (.iconst 0, 1) := by decide +kernel
theorem dX5_hoursThatMay_3 : decode cX5_hoursThatMay 3 = .ok (.istore_n 3, 1) := by decide +kernel
theorem dX5_hoursThatMay_4 : decode cX5_hoursThatMay 4 = .ok (.iload_n 3, 1) := by decide +kernel
theorem dX5_hoursThatMay_5 : decode cX5_hoursThatMay 5 = .ok (.bipush 24, 2) := by decide +kernel
theorem dX5_hoursThatMay_7 : decode cX5_hoursThatMay 7 = .ok (.if_icmp .ge 33, 3) := by decide +kernel
theorem dX5_hoursThatMay_10 : decode cX5_hoursThatMay 10 = .ok (.aload_n 0, 1) := by decide +kernel
theorem dX5_hoursThatMay_11 : decode cX5_hoursThatMay 11 = .ok (.iload_n 1, 1) := by decide +kernel
theorem dX5_hoursThatMay_12 : decode cX5_hoursThatMay 12 = .ok (.aload_n 0, 1) := by decide +kernel
theorem dX5_hoursThatMay_13 : decode cX5_hoursThatMay 13 = .ok (.getfield 19, 3) := by decide +kernel
theorem dX5_hoursThatMay_16 : decode cX5_hoursThatMay 16 = .ok (.getfield 140, 3) := by decide +kernel
theorem dX5_hoursThatMay_19 : decode cX5_hoursThatMay 19 = .ok (.iload_n 1, 1) := by decide +kernel
theorem dX5_hoursThatMay_20 : decode cX5_hoursThatMay 20 = .ok (.iaload, 1) := by decide +kernel
theorem dX5_hoursThatMay_21 : decode cX5_hoursThatMay 21 = .ok (.iload_n 3, 1) := by decide +kernel
theorem dX5_hoursThatMay_22 : decode cX5_hoursThatMay 22 = .ok (.invokevirtual 259, 3) := by decide +kernel
theorem dX5_hoursThatMay_25 : decode cX5_hoursThatMay 25 = .ok (.ifCond .eq 9, 3) := by decide +kernel
theorem dX5_hoursThatMay_28 : decode cX5_hoursThatMay 28 = .ok (.iload_n 2, 1) := by decide +kernel
theorem dX5_hoursThatMay_29 : decode cX5_hoursThatMay 29 = .ok (.iconst 1, 1) := by decide +kernel
theorem dX5_hoursThatMay_30 : decode cX5_hoursThatMay 30 = .ok (.iload_n 3, 1) := by decide +kernel
theorem dX5_hoursThatMay_31 : decode cX5_hoursThatMay 31 = .ok (.ishl, 1) := by decide +kernel
theorem dX5_hoursThatMay_32 : decode cX5_hoursThatMay 32 = .ok (.ior, 1) := by decide +kernel
theorem dX5_hoursThatMay_33 : decode cX5_hoursThatMay 33 = .ok (.istore_n 2, 1) := by decide +kernel
theorem dX5_hoursThatMay_34 : decode cX5_hoursThatMay 34 = .ok (.iinc 3 1, 3) := by decide +kernel
theorem dX5_hoursThatMay_37 : decode cX5_hoursThatMay 37 = .ok (.goto (-33), 3) := by decide +kernel
theorem dX5_hoursThatMay_40 : decode cX5_hoursThatMay 40 = .ok (.iload_n 2, 1) := by decide +kernel
theorem dX5_hoursThatMay_41 : decode cX5_hoursThatMay 41 = .ok (.ireturn, 1) := by decide +kernel
set_option maxRecDepth 20000 in
theorem ggX5_agreesWithSeen_X5_isPiece : GoodIn wsX5_agreesWithSeen wsX5_isPiece := goodIn_r _ [14, 6, 15, 16, 17, 13, 18, 37, 38, 39, 40, 41, 42, 43, 44, 45, 46, 51, 52, 53, 54, 55, 56, 57, 58, 59, 60, 61, 62] (by decide +kernel) (by decide +kernel)
set_option maxRecDepth 20000 in
theorem gX5_agreesWithSeen_X5_isPiece : GoodIn wsX5_agreesWithSeen (wsV RX5 109 RX5 yX5_isPiece wsX5_isPiece) := goodIn_app (goodIn_of _ (by decide +kernel)) ggX5_agreesWithSeen_X5_isPiece
set_option maxRecDepth 20000 in
theorem ggX5_agreesWithSeen_X4_roomOf : GoodIn wsX5_agreesWithSeen wsX4_roomOf := goodIn_r _ [23, 24, 63, 64, 65, 66, 67] (by decide +kernel) (by decide +kernel)
set_option maxRecDepth 20000 in
theorem gX5_agreesWithSeen_X4_roomOf : GoodIn wsX5_agreesWithSeen (wsV RX5 116 RX4 yX4_roomOf wsX4_roomOf) := goodIn_app (goodIn_of _ (by decide +kernel)) ggX5_agreesWithSeen_X4_roomOf
set_option maxRecDepth 20000 in
theorem ggX5_agreesWithSeen_X0_wouldTell : GoodIn wsX5_agreesWithSeen wsX0_wouldTell := goodIn_r _ [29, 30, 31, 32, 28, 33, 34, 35, 36, 51, 52, 53, 54, 55, 56, 57, 58, 59, 60, 61, 62] (by decide +kernel) (by decide +kernel)
set_option maxRecDepth 20000 in
theorem gX5_agreesWithSeen_X0_wouldTell : GoodIn wsX5_agreesWithSeen (wsV RX5 223 RX0 yX0_wouldTell wsX0_wouldTell) := goodIn_app (goodIn_of _ (by decide +kernel)) ggX5_agreesWithSeen_X0_wouldTell
theorem dX5_agreesWithSeen_0 : decode cX5_agreesWithSeen 0 = .ok (.iconst 0, 1) := by decide +kernel
theorem dX5_agreesWithSeen_1 : decode cX5_agreesWithSeen 1 = .ok (.istore 4, 2) := by decide +kernel
theorem dX5_agreesWithSeen_3 : decode cX5_agreesWithSeen 3 = .ok (.iload 4, 2) := by decide +kernel
theorem dX5_agreesWithSeen_5 : decode cX5_agreesWithSeen 5 = .ok (.aload_n 0, 1) := by decide +kernel
theorem dX5_agreesWithSeen_6 : decode cX5_agreesWithSeen 6 = .ok (.getfield 46, 3) := by decide +kernel
theorem dX5_agreesWithSeen_9 : decode cX5_agreesWithSeen 9 = .ok (.getfield 236, 3) := by decide +kernel
theorem dX5_agreesWithSeen_12 : decode cX5_agreesWithSeen 12 = .ok (.if_icmp .ge 113, 3) := by decide +kernel
theorem dX5_agreesWithSeen_15 : decode cX5_agreesWithSeen 15 = .ok (.aload_n 0, 1) := by decide +kernel
theorem dX5_agreesWithSeen_16 : decode cX5_agreesWithSeen 16 = .ok (.getfield 46, 3) := by decide +kernel
theorem dX5_agreesWithSeen_19 : decode cX5_agreesWithSeen 19 = .ok (.getfield 262, 3) := by decide +kernel
theorem dX5_agreesWithSeen_22 : decode cX5_agreesWithSeen 22 = .ok (.iload 4, 2) := by decide +kernel
theorem dX5_agreesWithSeen_24 : decode cX5_agreesWithSeen 24 = .ok (.iaload, 1) := by decide +kernel
theorem dX5_agreesWithSeen_25 : decode cX5_agreesWithSeen 25 = .ok (.istore 5, 2) := by decide +kernel
theorem dX5_agreesWithSeen_27 : decode cX5_agreesWithSeen 27 = .ok (.aload_n 0, 1) := by decide +kernel
theorem dX5_agreesWithSeen_28 : decode cX5_agreesWithSeen 28 = .ok (.getfield 46, 3) := by decide +kernel
theorem dX5_agreesWithSeen_31 : decode cX5_agreesWithSeen 31 = .ok (.getfield 264, 3) := by decide +kernel
theorem dX5_agreesWithSeen_34 : decode cX5_agreesWithSeen 34 = .ok (.iload 4, 2) := by decide +kernel
theorem dX5_agreesWithSeen_36 : decode cX5_agreesWithSeen 36 = .ok (.iaload, 1) := by decide +kernel
theorem dX5_agreesWithSeen_37 : decode cX5_agreesWithSeen 37 = .ok (.iload_n 1, 1) := by decide +kernel
theorem dX5_agreesWithSeen_38 : decode cX5_agreesWithSeen 38 = .ok (.if_icmp .ne 81, 3) := by decide +kernel
theorem dX5_agreesWithSeen_41 : decode cX5_agreesWithSeen 41 = .ok (.aload_n 0, 1) := by decide +kernel
theorem dX5_agreesWithSeen_42 : decode cX5_agreesWithSeen 42 = .ok (.iload 5, 2) := by decide +kernel
theorem dX5_agreesWithSeen_44 : decode cX5_agreesWithSeen 44 = .ok (.invokevirtual 109, 3) := by decide +kernel
theorem dX5_agreesWithSeen_47 : decode cX5_agreesWithSeen 47 = .ok (.ifCond .eq 72, 3) := by decide +kernel
theorem dX5_agreesWithSeen_50 : decode cX5_agreesWithSeen 50 = .ok (.aload_n 0, 1) := by decide +kernel
theorem dX5_agreesWithSeen_51 : decode cX5_agreesWithSeen 51 = .ok (.getfield 29, 3) := by decide +kernel
theorem dX5_agreesWithSeen_54 : decode cX5_agreesWithSeen 54 = .ok (.iload 5, 2) := by decide +kernel
theorem dX5_agreesWithSeen_56 : decode cX5_agreesWithSeen 56 = .ok (.invokevirtual 116, 3) := by decide +kernel
theorem dX5_agreesWithSeen_59 : decode cX5_agreesWithSeen 59 = .ok (.iload_n 2, 1) := by decide +kernel
theorem dX5_agreesWithSeen_60 : decode cX5_agreesWithSeen 60 = .ok (.if_icmp .ne 39, 3) := by decide +kernel
theorem dX5_agreesWithSeen_63 : decode cX5_agreesWithSeen 63 = .ok (.aload_n 0, 1) := by decide +kernel
theorem dX5_agreesWithSeen_64 : decode cX5_agreesWithSeen 64 = .ok (.getfield 19, 3) := by decide +kernel
theorem dX5_agreesWithSeen_67 : decode cX5_agreesWithSeen 67 = .ok (.aload_n 0, 1) := by decide +kernel
theorem dX5_agreesWithSeen_68 : decode cX5_agreesWithSeen 68 = .ok (.getfield 19, 3) := by decide +kernel
theorem dX5_agreesWithSeen_71 : decode cX5_agreesWithSeen 71 = .ok (.getfield 113, 3) := by decide +kernel
theorem dX5_agreesWithSeen_74 : decode cX5_agreesWithSeen 74 = .ok (.iload 5, 2) := by decide +kernel
theorem dX5_agreesWithSeen_76 : decode cX5_agreesWithSeen 76 = .ok (.iaload, 1) := by decide +kernel
theorem dX5_agreesWithSeen_77 : decode cX5_agreesWithSeen 77 = .ok (.iload_n 2, 1) := by decide +kernel
theorem dX5_agreesWithSeen_78 : decode cX5_agreesWithSeen 78 = .ok (.iload_n 1, 1) := by decide +kernel
theorem dX5_agreesWithSeen_79 : decode cX5_agreesWithSeen 79 = .ok (.iload_n 3, 1) := by decide +kernel
theorem dX5_agreesWithSeen_80 : decode cX5_agreesWithSeen 80 = .ok (.aload_n 0, 1) := by decide +kernel
theorem dX5_agreesWithSeen_81 : decode cX5_agreesWithSeen 81 = .ok (.getfield 19, 3) := by decide +kernel
theorem dX5_agreesWithSeen_84 : decode cX5_agreesWithSeen 84 = .ok (.getfield 146, 3) := by decide +kernel
theorem dX5_agreesWithSeen_87 : decode cX5_agreesWithSeen 87 = .ok (.iload_n 1, 1) := by decide +kernel
theorem dX5_agreesWithSeen_88 : decode cX5_agreesWithSeen 88 = .ok (.iaload, 1) := by decide +kernel
theorem dX5_agreesWithSeen_89 : decode cX5_agreesWithSeen 89 = .ok (.invokevirtual 223, 3) := by decide +kernel
theorem dX5_agreesWithSeen_92 : decode cX5_agreesWithSeen 92 = .ok (.ifCond .eq 7, 3) := by decide +kernel
theorem dX5_agreesWithSeen_95 : decode cX5_agreesWithSeen 95 = .ok (.iconst 1, 1) := by decide +kernel
theorem dX5_agreesWithSeen_96 : decode cX5_agreesWithSeen 96 = .ok (.goto 4, 3) := by decide +kernel
theorem dX5_agreesWithSeen_99 : decode cX5_agreesWithSeen 99 = .ok (.iconst 0, 1) := by decide +kernel
theorem dX5_agreesWithSeen_100 : decode cX5_agreesWithSeen 100 = .ok (.istore 6, 2) := by decide +kernel
theorem dX5_agreesWithSeen_102 : decode cX5_agreesWithSeen 102 = .ok (.iload 6, 2) := by decide +kernel
theorem dX5_agreesWithSeen_104 : decode cX5_agreesWithSeen 104 = .ok (.aload_n 0, 1) := by decide +kernel
theorem dX5_agreesWithSeen_105 : decode cX5_agreesWithSeen 105 = .ok (.getfield 46, 3) := by decide +kernel
theorem dX5_agreesWithSeen_108 : decode cX5_agreesWithSeen 108 = .ok (.getfield 266, 3) := by decide +kernel
theorem dX5_agreesWithSeen_111 : decode cX5_agreesWithSeen 111 = .ok (.iload 4, 2) := by decide +kernel
theorem dX5_agreesWithSeen_113 : decode cX5_agreesWithSeen 113 = .ok (.baload, 1) := by decide +kernel
theorem dX5_agreesWithSeen_114 : decode cX5_agreesWithSeen 114 = .ok (.if_icmp .eq 5, 3) := by decide +kernel
theorem dX5_agreesWithSeen_117 : decode cX5_agreesWithSeen 117 = .ok (.iconst 0, 1) := by decide +kernel
theorem dX5_agreesWithSeen_118 : decode cX5_agreesWithSeen 118 = .ok (.ireturn, 1) := by decide +kernel
theorem dX5_agreesWithSeen_119 : decode cX5_agreesWithSeen 119 = .ok (.iinc 4 1, 3) := by decide +kernel
theorem dX5_agreesWithSeen_122 : decode cX5_agreesWithSeen 122 = .ok (.goto (-119), 3) := by decide +kernel
theorem dX5_agreesWithSeen_125 : decode cX5_agreesWithSeen 125 = .ok (.iconst 1, 1) := by decide +kernel
theorem dX5_agreesWithSeen_126 : decode cX5_agreesWithSeen 126 = .ok (.ireturn, 1) := by decide +kernel
theorem dX5_drawOf_0 : decode cX5_drawOf 0 = .ok (.ldc2_w 270, 3) := by decide +kernel
theorem dX5_drawOf_3 : decode cX5_drawOf 3 = .ok (.iload_n 0, 1) := by decide +kernel
theorem dX5_drawOf_4 : decode cX5_drawOf 4 = .ok (.i2l, 1) := by decide +kernel
theorem dX5_drawOf_5 : decode cX5_drawOf 5 = .ok (.lmul, 1) := by decide +kernel
theorem dX5_drawOf_6 : decode cX5_drawOf 6 = .ok (.ldc2_w 272, 3) := by decide +kernel
theorem dX5_drawOf_9 : decode cX5_drawOf 9 = .ok (.iload_n 1, 1) := by decide +kernel
theorem dX5_drawOf_10 : decode cX5_drawOf 10 = .ok (.i2l, 1) := by decide +kernel
theorem dX5_drawOf_11 : decode cX5_drawOf 11 = .ok (.lmul, 1) := by decide +kernel
theorem dX5_drawOf_12 : decode cX5_drawOf 12 = .ok (.ladd, 1) := by decide +kernel
theorem dX5_drawOf_13 : decode cX5_drawOf 13 = .ok (.lconst 1, 1) := by decide +kernel
theorem dX5_drawOf_14 : decode cX5_drawOf 14 = .ok (.ladd, 1) := by decide +kernel
theorem dX5_drawOf_15 : decode cX5_drawOf 15 = .ok (.lstore_n 2, 1) := by decide +kernel
theorem dX5_drawOf_16 : decode cX5_drawOf 16 = .ok (.lload_n 2, 1) := by decide +kernel
theorem dX5_drawOf_17 : decode cX5_drawOf 17 = .ok (.lload_n 2, 1) := by decide +kernel
theorem dX5_drawOf_18 : decode cX5_drawOf 18 = .ok (.lmul, 1) := by decide +kernel
theorem dX5_drawOf_19 : decode cX5_drawOf 19 = .ok (.ldc2_w 274, 3) := by decide +kernel
theorem dX5_drawOf_22 : decode cX5_drawOf 22 = .ok (.lrem, 1) := by decide +kernel
theorem dX5_drawOf_23 : decode cX5_drawOf 23 = .ok (.ldc2_w 276, 3) := by decide +kernel
theorem dX5_drawOf_26 : decode cX5_drawOf 26 = .ok (.ldiv, 1) := by decide +kernel
theorem dX5_drawOf_27 : decode cX5_drawOf 27 = .ok (.l2i, 1) := by decide +kernel
theorem dX5_drawOf_28 : decode cX5_drawOf 28 = .ok (.ireturn, 1) := by decide +kernel
set_option maxRecDepth 20000 in
theorem ggX5_dealOnce_X5_isLoose : GoodIn wsX5_dealOnce wsX5_isLoose := goodIn_r _ [9, 1, 10, 11, 12, 13, 14, 15, 16, 17, 18, 19, 20, 21, 22, 23, 72, 73, 74, 75, 76, 77, 78, 79, 80, 81, 82, 83, 84, 85, 86, 87, 88, 89, 90, 91, 92, 93, 94, 95, 96, 97, 98] (by decide +kernel) (by decide +kernel)
set_option maxRecDepth 20000 in
theorem gX5_dealOnce_X5_isLoose : GoodIn wsX5_dealOnce (wsV RX5 130 RX5 yX5_isLoose wsX5_isLoose) := goodIn_app (goodIn_of _ (by decide +kernel)) ggX5_dealOnce_X5_isLoose
set_option maxRecDepth 20000 in
theorem ggX5_dealOnce_X4_roomOf : GoodIn wsX5_dealOnce wsX4_roomOf := goodIn_r _ [27, 28, 94, 95, 96, 97, 98] (by decide +kernel) (by decide +kernel)
set_option maxRecDepth 20000 in
theorem gX5_dealOnce_X4_roomOf : GoodIn wsX5_dealOnce (wsV RX5 116 RX4 yX4_roomOf wsX4_roomOf) := goodIn_app (goodIn_of _ (by decide +kernel)) ggX5_dealOnce_X4_roomOf
set_option maxRecDepth 20000 in
theorem ggX5_dealOnce_X0_toldBy : GoodIn wsX5_dealOnce wsX0_toldBy := goodIn_r _ [32, 33, 34, 35, 36, 37, 38, 39, 40, 21, 41, 42, 43, 44, 45, 82, 83, 84, 85, 86, 87, 88, 89, 90, 91, 92, 93] (by decide +kernel) (by decide +kernel)
set_option maxRecDepth 20000 in
theorem gX5_dealOnce_X0_toldBy : GoodIn wsX5_dealOnce (wsV RX5 126 RX0 yX0_toldBy wsX0_toldBy) := goodIn_app (goodIn_of _ (by decide +kernel)) ggX5_dealOnce_X0_toldBy
set_option maxRecDepth 20000 in
theorem ggX5_dealOnce_X4_letSpeak : GoodIn wsX5_dealOnce wsX4_letSpeak := goodIn_r _ [49, 50, 16, 51, 52, 53, 54, 55, 56, 57, 94, 95, 96, 97, 98] (by decide +kernel) (by decide +kernel)
set_option maxRecDepth 20000 in
theorem gX5_dealOnce_X4_letSpeak : GoodIn wsX5_dealOnce (wsV RX5 163 RX4 yX4_letSpeak wsX4_letSpeak) := goodIn_app (goodIn_of _ (by decide +kernel)) ggX5_dealOnce_X4_letSpeak
set_option maxRecDepth 20000 in
theorem ggX5_dealOnce_X5_canBeBought : GoodIn wsX5_dealOnce wsX5_canBeBought := goodIn_r _ [61, 1, 4, 62, 11, 12, 13, 14, 15, 16, 17, 72, 73, 74, 75, 76, 77, 78, 79, 80, 81, 82, 83, 84, 85, 86, 87, 88, 89, 90, 91, 92, 93, 94, 95, 96, 97, 98] (by decide +kernel) (by decide +kernel)
set_option maxRecDepth 20000 in
theorem gX5_dealOnce_X5_canBeBought : GoodIn wsX5_dealOnce (wsV RX5 166 RX5 yX5_canBeBought wsX5_canBeBought) := goodIn_app (goodIn_of _ (by decide +kernel)) ggX5_dealOnce_X5_canBeBought
set_option maxRecDepth 20000 in
theorem ggX5_dealOnce_X4_sell : GoodIn wsX5_dealOnce wsX4_sell := goodIn_r _ [66, 17, 67, 94, 95, 96, 97, 98] (by decide +kernel) (by decide +kernel)
set_option maxRecDepth 20000 in
theorem gX5_dealOnce_X4_sell : GoodIn wsX5_dealOnce (wsV RX5 169 RX4 yX4_sell wsX4_sell) := goodIn_app (goodIn_of _ (by decide +kernel)) ggX5_dealOnce_X4_sell
set_option maxRecDepth 20000 in
theorem ggX5_dealOnce_X4_howIs : GoodIn wsX5_dealOnce wsX4_howIs := goodIn_r _ [15, 16, 17, 94, 95, 96, 97, 98] (by decide +kernel) (by decide +kernel)
set_option maxRecDepth 20000 in
theorem gX5_dealOnce_X4_howIs : GoodIn wsX5_dealOnce (wsV RX5 123 RX4 yX4_howIs wsX4_howIs) := goodIn_app (goodIn_of _ (by decide +kernel)) ggX5_dealOnce_X4_howIs
set_option maxRecDepth 20000 in
theorem ggX5_dealOnce_X4_move : GoodIn wsX5_dealOnce wsX4_move := goodIn_r _ [71, 28, 94, 95, 96, 97, 98] (by decide +kernel) (by decide +kernel)
set_option maxRecDepth 20000 in
theorem gX5_dealOnce_X4_move : GoodIn wsX5_dealOnce (wsV RX5 173 RX4 yX4_move wsX4_move) := goodIn_app (goodIn_of _ (by decide +kernel)) ggX5_dealOnce_X4_move
theorem dX5_dealOnce_0 : decode cX5_dealOnce 0 = .ok (.aload_n 0, 1) := by decide +kernel
theorem dX5_dealOnce_1 : decode cX5_dealOnce 1 = .ok (.getfield 19, 3) := by decide +kernel
theorem dX5_dealOnce_4 : decode cX5_dealOnce 4 = .ok (.getfield 91, 3) := by decide +kernel
theorem dX5_dealOnce_7 : decode cX5_dealOnce 7 = .ok (.iconst 1, 1) := by decide +kernel
theorem dX5_dealOnce_8 : decode cX5_dealOnce 8 = .ok (.if_icmp .ge 4, 3) := by decide +kernel
theorem dX5_dealOnce_11 : decode cX5_dealOnce 11 = .ok (.return_, 1) := by decide +kernel
theorem dX5_dealOnce_12 : decode cX5_dealOnce 12 = .ok (.iload_n 1, 1) := by decide +kernel
theorem dX5_dealOnce_13 : decode cX5_dealOnce 13 = .ok (.aload_n 0, 1) := by decide +kernel
theorem dX5_dealOnce_14 : decode cX5_dealOnce 14 = .ok (.getfield 19, 3) := by decide +kernel
theorem dX5_dealOnce_17 : decode cX5_dealOnce 17 = .ok (.getfield 91, 3) := by decide +kernel
theorem dX5_dealOnce_20 : decode cX5_dealOnce 20 = .ok (.irem, 1) := by decide +kernel
theorem dX5_dealOnce_21 : decode cX5_dealOnce 21 = .ok (.istore_n 2, 1) := by decide +kernel
theorem dX5_dealOnce_22 : decode cX5_dealOnce 22 = .ok (.iload_n 1, 1) := by decide +kernel
theorem dX5_dealOnce_23 : decode cX5_dealOnce 23 = .ok (.bipush 8, 2) := by decide +kernel
theorem dX5_dealOnce_25 : decode cX5_dealOnce 25 = .ok (.idiv, 1) := by decide +kernel
theorem dX5_dealOnce_26 : decode cX5_dealOnce 26 = .ok (.iconst 3, 1) := by decide +kernel
theorem dX5_dealOnce_27 : decode cX5_dealOnce 27 = .ok (.irem, 1) := by decide +kernel
theorem dX5_dealOnce_28 : decode cX5_dealOnce 28 = .ok (.istore_n 3, 1) := by decide +kernel
theorem dX5_dealOnce_29 : decode cX5_dealOnce 29 = .ok (.iload_n 3, 1) := by decide +kernel
theorem dX5_dealOnce_30 : decode cX5_dealOnce 30 = .ok (.ifCond .ne 40, 3) := by decide +kernel
theorem dX5_dealOnce_33 : decode cX5_dealOnce 33 = .ok (.aload_n 0, 1) := by decide +kernel
theorem dX5_dealOnce_34 : decode cX5_dealOnce 34 = .ok (.aload_n 0, 1) := by decide +kernel
theorem dX5_dealOnce_35 : decode cX5_dealOnce 35 = .ok (.getfield 33, 3) := by decide +kernel
theorem dX5_dealOnce_38 : decode cX5_dealOnce 38 = .ok (.iload_n 2, 1) := by decide +kernel
theorem dX5_dealOnce_39 : decode cX5_dealOnce 39 = .ok (.invokevirtual 130, 3) := by decide +kernel
theorem dX5_dealOnce_42 : decode cX5_dealOnce 42 = .ok (.ifCond .eq 28, 3) := by decide +kernel
theorem dX5_dealOnce_45 : decode cX5_dealOnce 45 = .ok (.aload_n 0, 1) := by decide +kernel
theorem dX5_dealOnce_46 : decode cX5_dealOnce 46 = .ok (.getfield 33, 3) := by decide +kernel
theorem dX5_dealOnce_49 : decode cX5_dealOnce 49 = .ok (.iload_n 2, 1) := by decide +kernel
theorem dX5_dealOnce_50 : decode cX5_dealOnce 50 = .ok (.aload_n 0, 1) := by decide +kernel
theorem dX5_dealOnce_51 : decode cX5_dealOnce 51 = .ok (.getfield 19, 3) := by decide +kernel
theorem dX5_dealOnce_54 : decode cX5_dealOnce 54 = .ok (.iload_n 2, 1) := by decide +kernel
theorem dX5_dealOnce_55 : decode cX5_dealOnce 55 = .ok (.aload_n 0, 1) := by decide +kernel
theorem dX5_dealOnce_56 : decode cX5_dealOnce 56 = .ok (.getfield 33, 3) := by decide +kernel
theorem dX5_dealOnce_59 : decode cX5_dealOnce 59 = .ok (.iload_n 2, 1) := by decide +kernel
theorem dX5_dealOnce_60 : decode cX5_dealOnce 60 = .ok (.invokevirtual 116, 3) := by decide +kernel
theorem dX5_dealOnce_63 : decode cX5_dealOnce 63 = .ok (.invokevirtual 126, 3) := by decide +kernel
theorem dX5_dealOnce_66 : decode cX5_dealOnce 66 = .ok (.invokevirtual 163, 3) := by decide +kernel
theorem dX5_dealOnce_69 : decode cX5_dealOnce 69 = .ok (.pop, 1) := by decide +kernel
theorem dX5_dealOnce_70 : decode cX5_dealOnce 70 = .ok (.iload_n 3, 1) := by decide +kernel
theorem dX5_dealOnce_71 : decode cX5_dealOnce 71 = .ok (.iconst 1, 1) := by decide +kernel
theorem dX5_dealOnce_72 : decode cX5_dealOnce 72 = .ok (.if_icmp .ne 32, 3) := by decide +kernel
theorem dX5_dealOnce_75 : decode cX5_dealOnce 75 = .ok (.aload_n 0, 1) := by decide +kernel
theorem dX5_dealOnce_76 : decode cX5_dealOnce 76 = .ok (.aload_n 0, 1) := by decide +kernel
theorem dX5_dealOnce_77 : decode cX5_dealOnce 77 = .ok (.getfield 33, 3) := by decide +kernel
theorem dX5_dealOnce_80 : decode cX5_dealOnce 80 = .ok (.iload_n 2, 1) := by decide +kernel
theorem dX5_dealOnce_81 : decode cX5_dealOnce 81 = .ok (.invokevirtual 166, 3) := by decide +kernel
theorem dX5_dealOnce_84 : decode cX5_dealOnce 84 = .ok (.ifCond .eq 20, 3) := by decide +kernel
theorem dX5_dealOnce_87 : decode cX5_dealOnce 87 = .ok (.aload_n 0, 1) := by decide +kernel
theorem dX5_dealOnce_88 : decode cX5_dealOnce 88 = .ok (.getfield 33, 3) := by decide +kernel
theorem dX5_dealOnce_91 : decode cX5_dealOnce 91 = .ok (.iload_n 2, 1) := by decide +kernel
theorem dX5_dealOnce_92 : decode cX5_dealOnce 92 = .ok (.aload_n 0, 1) := by decide +kernel
theorem dX5_dealOnce_93 : decode cX5_dealOnce 93 = .ok (.getfield 19, 3) := by decide +kernel
theorem dX5_dealOnce_96 : decode cX5_dealOnce 96 = .ok (.getfield 120, 3) := by decide +kernel
theorem dX5_dealOnce_99 : decode cX5_dealOnce 99 = .ok (.iload_n 2, 1) := by decide +kernel
theorem dX5_dealOnce_100 : decode cX5_dealOnce 100 = .ok (.iaload, 1) := by decide +kernel
theorem dX5_dealOnce_101 : decode cX5_dealOnce 101 = .ok (.invokevirtual 169, 3) := by decide +kernel
theorem dX5_dealOnce_104 : decode cX5_dealOnce 104 = .ok (.iload_n 3, 1) := by decide +kernel
theorem dX5_dealOnce_105 : decode cX5_dealOnce 105 = .ok (.iconst 2, 1) := by decide +kernel
theorem dX5_dealOnce_106 : decode cX5_dealOnce 106 = .ok (.if_icmp .ne 29, 3) := by decide +kernel
theorem dX5_dealOnce_109 : decode cX5_dealOnce 109 = .ok (.aload_n 0, 1) := by decide +kernel
theorem dX5_dealOnce_110 : decode cX5_dealOnce 110 = .ok (.getfield 33, 3) := by decide +kernel
theorem dX5_dealOnce_113 : decode cX5_dealOnce 113 = .ok (.iload_n 2, 1) := by decide +kernel
theorem dX5_dealOnce_114 : decode cX5_dealOnce 114 = .ok (.invokevirtual 123, 3) := by decide +kernel
theorem dX5_dealOnce_117 : decode cX5_dealOnce 117 = .ok (.iconst 2, 1) := by decide +kernel
theorem dX5_dealOnce_118 : decode cX5_dealOnce 118 = .ok (.if_icmp .eq 17, 3) := by decide +kernel
theorem dX5_dealOnce_121 : decode cX5_dealOnce 121 = .ok (.aload_n 0, 1) := by decide +kernel
theorem dX5_dealOnce_122 : decode cX5_dealOnce 122 = .ok (.getfield 33, 3) := by decide +kernel
theorem dX5_dealOnce_125 : decode cX5_dealOnce 125 = .ok (.iload_n 2, 1) := by decide +kernel
theorem dX5_dealOnce_126 : decode cX5_dealOnce 126 = .ok (.iload_n 1, 1) := by decide +kernel
theorem dX5_dealOnce_127 : decode cX5_dealOnce 127 = .ok (.bipush 32, 2) := by decide +kernel
theorem dX5_dealOnce_129 : decode cX5_dealOnce 129 = .ok (.idiv, 1) := by decide +kernel
theorem dX5_dealOnce_130 : decode cX5_dealOnce 130 = .ok (.iconst 4, 1) := by decide +kernel
theorem dX5_dealOnce_131 : decode cX5_dealOnce 131 = .ok (.irem, 1) := by decide +kernel
theorem dX5_dealOnce_132 : decode cX5_dealOnce 132 = .ok (.invokevirtual 173, 3) := by decide +kernel
theorem dX5_dealOnce_135 : decode cX5_dealOnce 135 = .ok (.return_, 1) := by decide +kernel
set_option maxRecDepth 20000 in
theorem ggX6_init_X6_clearTold : GoodIn wsX6_init wsX6_clearTold := goodIn_r _ [23, 24, 25, 17, 18, 47, 48, 49, 50, 51, 52, 53, 54, 55, 56, 57, 58, 59, 60, 61, 62, 63, 64, 65, 66, 67, 68, 69, 70] (by decide +kernel) (by decide +kernel)
set_option maxRecDepth 20000 in
theorem gX6_init_X6_clearTold : GoodIn wsX6_init (wsV RX6 46 RX6 yX6_clearTold wsX6_clearTold) := goodIn_app (goodIn_of _ (by decide +kernel)) ggX6_init_X6_clearTold
set_option maxRecDepth 20000 in
theorem ggX6_init_X6_tellsPiece : GoodIn wsX6_init wsX6_tellsPiece := goodIn_r _ [29, 13, 24, 14, 47, 48, 49, 50, 51, 52, 53, 54, 55, 56, 57, 58, 59, 60, 61, 62, 63, 64, 65, 66, 67, 68, 69, 70] (by decide +kernel) (by decide +kernel)
set_option maxRecDepth 20000 in
theorem gX6_init_X6_tellsPiece : GoodIn wsX6_init (wsV RX6 49 RX6 yX6_tellsPiece wsX6_tellsPiece) := goodIn_app (goodIn_of _ (by decide +kernel)) ggX6_init_X6_tellsPiece
set_option maxRecDepth 20000 in
theorem ggX6_init_X6_tellsDeed : GoodIn wsX6_init wsX6_tellsDeed := goodIn_r _ [33, 15, 25, 47, 48, 49, 50, 51, 52, 53, 54, 55, 56, 57, 58, 59, 60, 61, 62, 63, 64, 65, 66, 67, 68, 69, 70] (by decide +kernel) (by decide +kernel)
set_option maxRecDepth 20000 in
theorem gX6_init_X6_tellsDeed : GoodIn wsX6_init (wsV RX6 53 RX6 yX6_tellsDeed wsX6_tellsDeed) := goodIn_app (goodIn_of _ (by decide +kernel)) ggX6_init_X6_tellsDeed
set_option maxRecDepth 20000 in
theorem ggX6_init_X6_settles : GoodIn wsX6_init wsX6_settles := goodIn_r _ [37, 24, 38, 5, 13, 25, 39, 6, 15, 18, 40, 7, 17, 14, 41, 42, 43, 44, 45, 22, 46, 47, 48, 49, 50, 51, 52, 53, 54, 55, 56, 57, 58, 59, 60, 61, 62, 63, 64, 65, 66, 67, 68, 69, 70] (by decide +kernel) (by decide +kernel)
set_option maxRecDepth 20000 in
theorem gX6_init_X6_settles : GoodIn wsX6_init (wsV RX6 64 RX6 yX6_settles wsX6_settles) := goodIn_app (goodIn_of _ (by decide +kernel)) ggX6_init_X6_settles
theorem dX6_init_0 : decode cX6_init 0 = .ok (.aload_n 0, 1) := by decide +kernel
theorem dX6_init_1 : decode cX6_init 1 = .ok (.invokespecial 1, 3) := by decide +kernel
theorem dX6_init_4 : decode cX6_init 4 = .ok (.aload_n 0, 1) := by decide +kernel
theorem dX6_init_5 : decode cX6_init 5 = .ok (.bipush 16, 2) := by decide +kernel
theorem dX6_init_7 : decode cX6_init 7 = .ok (.newarray .int, 2) := by decide +kernel
theorem dX6_init_9 : decode cX6_init 9 = .ok (.putfield 7, 3) := by decide +kernel
theorem dX6_init_12 : decode cX6_init 12 = .ok (.aload_n 0, 1) := by decide +kernel
theorem dX6_init_13 : decode cX6_init 13 = .ok (.bipush 40, 2) := by decide +kernel
theorem dX6_init_15 : decode cX6_init 15 = .ok (.newarray .int, 2) := by decide +kernel
theorem dX6_init_17 : decode cX6_init 17 = .ok (.putfield 13, 3) := by decide +kernel
theorem dX6_init_20 : decode cX6_init 20 = .ok (.aload_n 0, 1) := by decide +kernel
theorem dX6_init_21 : decode cX6_init 21 = .ok (.bipush 18, 2) := by decide +kernel
theorem dX6_init_23 : decode cX6_init 23 = .ok (.newarray .int, 2) := by decide +kernel
theorem dX6_init_25 : decode cX6_init 25 = .ok (.putfield 16, 3) := by decide +kernel
theorem dX6_init_28 : decode cX6_init 28 = .ok (.aload_n 0, 1) := by decide +kernel
theorem dX6_init_29 : decode cX6_init 29 = .ok (.sipush 144, 3) := by decide +kernel
theorem dX6_init_32 : decode cX6_init 32 = .ok (.newarray .int, 2) := by decide +kernel
theorem dX6_init_34 : decode cX6_init 34 = .ok (.putfield 19, 3) := by decide +kernel
theorem dX6_init_37 : decode cX6_init 37 = .ok (.aload_n 0, 1) := by decide +kernel
theorem dX6_init_38 : decode cX6_init 38 = .ok (.bipush 36, 2) := by decide +kernel
theorem dX6_init_40 : decode cX6_init 40 = .ok (.newarray .int, 2) := by decide +kernel
theorem dX6_init_42 : decode cX6_init 42 = .ok (.putfield 22, 3) := by decide +kernel
theorem dX6_init_45 : decode cX6_init 45 = .ok (.aload_n 0, 1) := by decide +kernel
theorem dX6_init_46 : decode cX6_init 46 = .ok (.bipush 18, 2) := by decide +kernel
theorem dX6_init_48 : decode cX6_init 48 = .ok (.newarray .int, 2) := by decide +kernel
theorem dX6_init_50 : decode cX6_init 50 = .ok (.putfield 25, 3) := by decide +kernel
theorem dX6_init_53 : decode cX6_init 53 = .ok (.aload_n 0, 1) := by decide +kernel
theorem dX6_init_54 : decode cX6_init 54 = .ok (.sipush 200, 3) := by decide +kernel
theorem dX6_init_57 : decode cX6_init 57 = .ok (.newarray .int, 2) := by decide +kernel
theorem dX6_init_59 : decode cX6_init 59 = .ok (.putfield 28, 3) := by decide +kernel
theorem dX6_init_62 : decode cX6_init 62 = .ok (.aload_n 0, 1) := by decide +kernel
theorem dX6_init_63 : decode cX6_init 63 = .ok (.iconst 4, 1) := by decide +kernel
theorem dX6_init_64 : decode cX6_init 64 = .ok (.newarray .int, 2) := by decide +kernel
theorem dX6_init_66 : decode cX6_init 66 = .ok (.putfield 31, 3) := by decide +kernel
theorem dX6_init_69 : decode cX6_init 69 = .ok (.aload_n 0, 1) := by decide +kernel
theorem dX6_init_70 : decode cX6_init 70 = .ok (.bipush 16, 2) := by decide +kernel
theorem dX6_init_72 : decode cX6_init 72 = .ok (.newarray .int, 2) := by decide +kernel
theorem dX6_init_74 : decode cX6_init 74 = .ok (.putfield 34, 3) := by decide +kernel
theorem dX6_init_77 : decode cX6_init 77 = .ok (.aload_n 0, 1) := by decide +kernel
theorem dX6_init_78 : decode cX6_init 78 = .ok (.bipush 8, 2) := by decide +kernel
theorem dX6_init_80 : decode cX6_init 80 = .ok (.newarray .int, 2) := by decide +kernel
theorem dX6_init_82 : decode cX6_init 82 = .ok (.putfield 37, 3) := by decide +kernel
theorem dX6_init_85 : decode cX6_init 85 = .ok (.aload_n 0, 1) := by decide +kernel
theorem dX6_init_86 : decode cX6_init 86 = .ok (.bipush 40, 2) := by decide +kernel
theorem dX6_init_88 : decode cX6_init 88 = .ok (.newarray .int, 2) := by decide +kernel
theorem dX6_init_90 : decode cX6_init 90 = .ok (.putfield 40, 3) := by decide +kernel
theorem dX6_init_93 : decode cX6_init 93 = .ok (.aload_n 0, 1) := by decide +kernel
theorem dX6_init_94 : decode cX6_init 94 = .ok (.bipush 18, 2) := by decide +kernel
theorem dX6_init_96 : decode cX6_init 96 = .ok (.newarray .int, 2) := by decide +kernel
theorem dX6_init_98 : decode cX6_init 98 = .ok (.putfield 43, 3) := by decide +kernel
theorem dX6_init_101 : decode cX6_init 101 = .ok (.aload_n 0, 1) := by decide +kernel
theorem dX6_init_102 : decode cX6_init 102 = .ok (.invokevirtual 46, 3) := by decide +kernel
theorem dX6_init_105 : decode cX6_init 105 = .ok (.aload_n 0, 1) := by decide +kernel
theorem dX6_init_106 : decode cX6_init 106 = .ok (.iconst 0, 1) := by decide +kernel
theorem dX6_init_107 : decode cX6_init 107 = .ok (.iconst 0, 1) := by decide +kernel
theorem dX6_init_108 : decode cX6_init 108 = .ok (.bipush 20, 2) := by decide +kernel
theorem dX6_init_110 : decode cX6_init 110 = .ok (.invokevirtual 49, 3) := by decide +kernel
theorem dX6_init_113 : decode cX6_init 113 = .ok (.aload_n 0, 1) := by decide +kernel
theorem dX6_init_114 : decode cX6_init 114 = .ok (.iconst 1, 1) := by decide +kernel
theorem dX6_init_115 : decode cX6_init 115 = .ok (.iconst 0, 1) := by decide +kernel
theorem dX6_init_116 : decode cX6_init 116 = .ok (.bipush 9, 2) := by decide +kernel
theorem dX6_init_118 : decode cX6_init 118 = .ok (.invokevirtual 49, 3) := by decide +kernel
theorem dX6_init_121 : decode cX6_init 121 = .ok (.aload_n 0, 1) := by decide +kernel
theorem dX6_init_122 : decode cX6_init 122 = .ok (.iconst 2, 1) := by decide +kernel
theorem dX6_init_123 : decode cX6_init 123 = .ok (.iconst 1, 1) := by decide +kernel
theorem dX6_init_124 : decode cX6_init 124 = .ok (.bipush 12, 2) := by decide +kernel
theorem dX6_init_126 : decode cX6_init 126 = .ok (.invokevirtual 49, 3) := by decide +kernel
theorem dX6_init_129 : decode cX6_init 129 = .ok (.aload_n 0, 1) := by decide +kernel
theorem dX6_init_130 : decode cX6_init 130 = .ok (.iconst 2, 1) := by decide +kernel
theorem dX6_init_131 : decode cX6_init 131 = .ok (.iconst 0, 1) := by decide +kernel
theorem dX6_init_132 : decode cX6_init 132 = .ok (.bipush 7, 2) := by decide +kernel
theorem dX6_init_134 : decode cX6_init 134 = .ok (.invokevirtual 49, 3) := by decide +kernel
theorem dX6_init_137 : decode cX6_init 137 = .ok (.aload_n 0, 1) := by decide +kernel
theorem dX6_init_138 : decode cX6_init 138 = .ok (.iconst 3, 1) := by decide +kernel
theorem dX6_init_139 : decode cX6_init 139 = .ok (.iconst 1, 1) := by decide +kernel
theorem dX6_init_140 : decode cX6_init 140 = .ok (.iconst 3, 1) := by decide +kernel
theorem dX6_init_141 : decode cX6_init 141 = .ok (.invokevirtual 49, 3) := by decide +kernel
theorem dX6_init_144 : decode cX6_init 144 = .ok (.aload_n 0, 1) := by decide +kernel
theorem dX6_init_145 : decode cX6_init 145 = .ok (.iconst 0, 1) := by decide +kernel
theorem dX6_init_146 : decode cX6_init 146 = .ok (.iconst 2, 1) := by decide +kernel
theorem dX6_init_147 : decode cX6_init 147 = .ok (.bipush 30, 2) := by decide +kernel
theorem dX6_init_149 : decode cX6_init 149 = .ok (.invokevirtual 49, 3) := by decide +kernel
theorem dX6_init_152 : decode cX6_init 152 = .ok (.aload_n 0, 1) := by decide +kernel
theorem dX6_init_153 : decode cX6_init 153 = .ok (.iconst 1, 1) := by decide +kernel
theorem dX6_init_154 : decode cX6_init 154 = .ok (.iconst 2, 1) := by decide +kernel
theorem dX6_init_155 : decode cX6_init 155 = .ok (.iconst 5, 1) := by decide +kernel
theorem dX6_init_156 : decode cX6_init 156 = .ok (.invokevirtual 49, 3) := by decide +kernel
theorem dX6_init_159 : decode cX6_init 159 = .ok (.aload_n 0, 1) := by decide +kernel
theorem dX6_init_160 : decode cX6_init 160 = .ok (.iconst 0, 1) := by decide +kernel
theorem dX6_init_161 : decode cX6_init 161 = .ok (.iconst 0, 1) := by decide +kernel
theorem dX6_init_162 : decode cX6_init 162 = .ok (.bipush 9, 2) := by decide +kernel
theorem dX6_init_164 : decode cX6_init 164 = .ok (.iconst 4, 1) := by decide +kernel
theorem dX6_init_165 : decode cX6_init 165 = .ok (.invokevirtual 53, 3) := by decide +kernel
theorem dX6_init_168 : decode cX6_init 168 = .ok (.aload_n 0, 1) := by decide +kernel
theorem dX6_init_169 : decode cX6_init 169 = .ok (.iconst 1, 1) := by decide +kernel
theorem dX6_init_170 : decode cX6_init 170 = .ok (.iconst 0, 1) := by decide +kernel
