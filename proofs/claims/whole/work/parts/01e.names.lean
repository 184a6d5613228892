set_option maxRecDepth 20000 in
theorem gX5_safe_X0_wouldTell : GoodIn wsX5_safe (wsV RX5 223 RX0 yX0_wouldTell wsX0_wouldTell) := goodIn_app (goodIn_of _ (by decide +kernel)) ggX5_safe_X0_wouldTell
theorem dX5_safe_0 : decode cX5_safe 0 = .ok (.iload_n 1, 1) := by decide +kernel
theorem dX5_safe_1 : decode cX5_safe 1 = .ok (.iconst 0, 1) := by decide +kernel
theorem dX5_safe_2 : decode cX5_safe 2 = .ok (.bipush 23, 2) := by decide +kernel
theorem dX5_safe_4 : decode cX5_safe 4 = .ok (.invokestatic 80, 3) := by decide +kernel
theorem dX5_safe_7 : decode cX5_safe 7 = .ok (.ifCond .eq 13, 3) := by decide +kernel
theorem dX5_safe_10 : decode cX5_safe 10 = .ok (.iload_n 2, 1) := by decide +kernel
theorem dX5_safe_11 : decode cX5_safe 11 = .ok (.iconst 1, 1) := by decide +kernel
theorem dX5_safe_12 : decode cX5_safe 12 = .ok (.bipush 30, 2) := by decide +kernel
theorem dX5_safe_14 : decode cX5_safe 14 = .ok (.invokestatic 80, 3) := by decide +kernel
theorem dX5_safe_17 : decode cX5_safe 17 = .ok (.ifCond .ne 5, 3) := by decide +kernel
theorem dX5_safe_20 : decode cX5_safe 20 = .ok (.iconst (-1), 1) := by decide +kernel
theorem dX5_safe_21 : decode cX5_safe 21 = .ok (.ireturn, 1) := by decide +kernel
theorem dX5_safe_22 : decode cX5_safe 22 = .ok (.bipush 15, 2) := by decide +kernel
theorem dX5_safe_24 : decode cX5_safe 24 = .ok (.istore_n 3, 1) := by decide +kernel
theorem dX5_safe_25 : decode cX5_safe 25 = .ok (.iconst 0, 1) := by decide +kernel
theorem dX5_safe_26 : decode cX5_safe 26 = .ok (.istore 4, 2) := by decide +kernel
theorem dX5_safe_28 : decode cX5_safe 28 = .ok (.iload 4, 2) := by decide +kernel
theorem dX5_safe_30 : decode cX5_safe 30 = .ok (.aload_n 0, 1) := by decide +kernel
theorem dX5_safe_31 : decode cX5_safe 31 = .ok (.getfield 19, 3) := by decide +kernel
theorem dX5_safe_34 : decode cX5_safe 34 = .ok (.getfield 91, 3) := by decide +kernel
theorem dX5_safe_37 : decode cX5_safe 37 = .ok (.if_icmp .ge 73, 3) := by decide +kernel
theorem dX5_safe_40 : decode cX5_safe 40 = .ok (.aload_n 0, 1) := by decide +kernel
theorem dX5_safe_41 : decode cX5_safe 41 = .ok (.getfield 29, 3) := by decide +kernel
theorem dX5_safe_44 : decode cX5_safe 44 = .ok (.iload 4, 2) := by decide +kernel
theorem dX5_safe_46 : decode cX5_safe 46 = .ok (.invokevirtual 116, 3) := by decide +kernel
theorem dX5_safe_49 : decode cX5_safe 49 = .ok (.istore 5, 2) := by decide +kernel
theorem dX5_safe_51 : decode cX5_safe 51 = .ok (.aload_n 0, 1) := by decide +kernel
theorem dX5_safe_52 : decode cX5_safe 52 = .ok (.aload_n 0, 1) := by decide +kernel
theorem dX5_safe_53 : decode cX5_safe 53 = .ok (.getfield 29, 3) := by decide +kernel
theorem dX5_safe_56 : decode cX5_safe 56 = .ok (.iload 4, 2) := by decide +kernel
theorem dX5_safe_58 : decode cX5_safe 58 = .ok (.invokevirtual 130, 3) := by decide +kernel
theorem dX5_safe_61 : decode cX5_safe 61 = .ok (.ifCond .eq 43, 3) := by decide +kernel
theorem dX5_safe_64 : decode cX5_safe 64 = .ok (.aload_n 0, 1) := by decide +kernel
theorem dX5_safe_65 : decode cX5_safe 65 = .ok (.getfield 19, 3) := by decide +kernel
theorem dX5_safe_68 : decode cX5_safe 68 = .ok (.aload_n 0, 1) := by decide +kernel
theorem dX5_safe_69 : decode cX5_safe 69 = .ok (.getfield 19, 3) := by decide +kernel
theorem dX5_safe_72 : decode cX5_safe 72 = .ok (.getfield 113, 3) := by decide +kernel
theorem dX5_safe_75 : decode cX5_safe 75 = .ok (.iload 4, 2) := by decide +kernel
theorem dX5_safe_77 : decode cX5_safe 77 = .ok (.iaload, 1) := by decide +kernel
theorem dX5_safe_78 : decode cX5_safe 78 = .ok (.iload 5, 2) := by decide +kernel
theorem dX5_safe_80 : decode cX5_safe 80 = .ok (.aload_n 0, 1) := by decide +kernel
theorem dX5_safe_81 : decode cX5_safe 81 = .ok (.getfield 19, 3) := by decide +kernel
theorem dX5_safe_84 : decode cX5_safe 84 = .ok (.getfield 220, 3) := by decide +kernel
theorem dX5_safe_87 : decode cX5_safe 87 = .ok (.iload_n 1, 1) := by decide +kernel
theorem dX5_safe_88 : decode cX5_safe 88 = .ok (.iload_n 2, 1) := by decide +kernel
theorem dX5_safe_89 : decode cX5_safe 89 = .ok (.invokevirtual 223, 3) := by decide +kernel
theorem dX5_safe_92 : decode cX5_safe 92 = .ok (.ifCond .eq 12, 3) := by decide +kernel
theorem dX5_safe_95 : decode cX5_safe 95 = .ok (.iload_n 3, 1) := by decide +kernel
theorem dX5_safe_96 : decode cX5_safe 96 = .ok (.iconst 1, 1) := by decide +kernel
theorem dX5_safe_97 : decode cX5_safe 97 = .ok (.iload 5, 2) := by decide +kernel
theorem dX5_safe_99 : decode cX5_safe 99 = .ok (.ishl, 1) := by decide +kernel
theorem dX5_safe_100 : decode cX5_safe 100 = .ok (.iconst (-1), 1) := by decide +kernel
theorem dX5_safe_101 : decode cX5_safe 101 = .ok (.ixor, 1) := by decide +kernel
theorem dX5_safe_102 : decode cX5_safe 102 = .ok (.iand, 1) := by decide +kernel
theorem dX5_safe_103 : decode cX5_safe 103 = .ok (.istore_n 3, 1) := by decide +kernel
theorem dX5_safe_104 : decode cX5_safe 104 = .ok (.iinc 4 1, 3) := by decide +kernel
theorem dX5_safe_107 : decode cX5_safe 107 = .ok (.goto (-79), 3) := by decide +kernel
theorem dX5_safe_110 : decode cX5_safe 110 = .ok (.iload_n 3, 1) := by decide +kernel
theorem dX5_safe_111 : decode cX5_safe 111 = .ok (.ireturn, 1) := by decide +kernel
set_option maxRecDepth 20000 in
theorem ggX5_dealer_X5_fillTold : GoodIn wsX5_dealer wsX5_fillTold := goodIn_r _ [10, 3, 4, 5, 1, 11, 12, 13, 14, 15, 16, 17, 18, 19, 20, 21, 22, 23, 24, 25, 26, 27, 28, 29, 30, 31, 32, 33, 34, 63, 64, 65, 66, 67, 68, 69, 70, 71, 72, 78, 79, 80, 81, 82, 83, 84, 85, 86, 87, 88, 89, 73, 74, 75, 76, 77] (by decide +kernel) (by decide +kernel)
set_option maxRecDepth 20000 in
theorem gX5_dealer_X5_fillTold : GoodIn wsX5_dealer (wsV RX5 200 RX5 yX5_fillTold wsX5_fillTold) := goodIn_app (goodIn_of _ (by decide +kernel)) ggX5_dealer_X5_fillTold
set_option maxRecDepth 20000 in
theorem ggX5_dealer_X5_looseOnes : GoodIn wsX5_dealer wsX5_looseOnes := goodIn_r _ [38, 3, 4, 1, 39, 40, 41, 9, 42, 43, 44, 45, 46, 14, 47, 48, 49, 50, 51, 52, 20, 53, 54, 63, 64, 65, 66, 67, 68, 69, 70, 71, 72, 78, 79, 80, 81, 82, 83, 84, 85, 86, 87, 88, 89, 73, 74, 75, 76, 77] (by decide +kernel) (by decide +kernel)
set_option maxRecDepth 20000 in
theorem gX5_dealer_X5_looseOnes : GoodIn wsX5_dealer (wsV RX5 203 RX5 yX5_looseOnes wsX5_looseOnes) := goodIn_app (goodIn_of _ (by decide +kernel)) ggX5_dealer_X5_looseOnes
set_option maxRecDepth 20000 in
theorem ggX5_dealer_X5_loudest : GoodIn wsX5_dealer wsX5_loudest := goodIn_r _ [58, 3, 4, 5, 59, 60, 61, 20, 62, 22, 26, 63, 64, 65, 66, 67, 68, 69, 70, 71, 72, 78, 79, 80, 81, 82, 83, 84, 85, 86, 87, 88, 89] (by decide +kernel) (by decide +kernel)
set_option maxRecDepth 20000 in
theorem gX5_dealer_X5_loudest : GoodIn wsX5_dealer (wsV RX5 227 RX5 yX5_loudest wsX5_loudest) := goodIn_app (goodIn_of _ (by decide +kernel)) ggX5_dealer_X5_loudest
set_option maxRecDepth 20000 in
theorem ggX5_dealer_X0_weightOf : GoodIn wsX5_dealer wsX0_weightOf := goodIn_r _ [62, 22, 26, 78, 79, 80, 81, 82, 83, 84, 85, 86, 87, 88, 89] (by decide +kernel) (by decide +kernel)
set_option maxRecDepth 20000 in
theorem gX5_dealer_X0_weightOf : GoodIn wsX5_dealer (wsV RX5 230 RX0 yX0_weightOf wsX0_weightOf) := goodIn_app (goodIn_of _ (by decide +kernel)) ggX5_dealer_X0_weightOf
theorem dX5_dealer_0 : decode cX5_dealer 0 = .ok (.iload_n 1, 1) := by decide +kernel
theorem dX5_dealer_1 : decode cX5_dealer 1 = .ok (.iconst (-1), 1) := by decide +kernel
theorem dX5_dealer_2 : decode cX5_dealer 2 = .ok (.if_icmp .ge 5, 3) := by decide +kernel
theorem dX5_dealer_5 : decode cX5_dealer 5 = .ok (.iconst (-1), 1) := by decide +kernel
theorem dX5_dealer_6 : decode cX5_dealer 6 = .ok (.ireturn, 1) := by decide +kernel
theorem dX5_dealer_7 : decode cX5_dealer 7 = .ok (.aload_n 0, 1) := by decide +kernel
theorem dX5_dealer_8 : decode cX5_dealer 8 = .ok (.invokevirtual 200, 3) := by decide +kernel
theorem dX5_dealer_11 : decode cX5_dealer 11 = .ok (.aload_n 0, 1) := by decide +kernel
theorem dX5_dealer_12 : decode cX5_dealer 12 = .ok (.invokevirtual 203, 3) := by decide +kernel
theorem dX5_dealer_15 : decode cX5_dealer 15 = .ok (.istore_n 2, 1) := by decide +kernel
theorem dX5_dealer_16 : decode cX5_dealer 16 = .ok (.aload_n 0, 1) := by decide +kernel
theorem dX5_dealer_17 : decode cX5_dealer 17 = .ok (.getfield 29, 3) := by decide +kernel
theorem dX5_dealer_20 : decode cX5_dealer 20 = .ok (.getfield 191, 3) := by decide +kernel
theorem dX5_dealer_23 : decode cX5_dealer 23 = .ok (.istore_n 3, 1) := by decide +kernel
theorem dX5_dealer_24 : decode cX5_dealer 24 = .ok (.iconst 0, 1) := by decide +kernel
theorem dX5_dealer_25 : decode cX5_dealer 25 = .ok (.istore 4, 2) := by decide +kernel
theorem dX5_dealer_27 : decode cX5_dealer 27 = .ok (.iconst 0, 1) := by decide +kernel
theorem dX5_dealer_28 : decode cX5_dealer 28 = .ok (.istore 5, 2) := by decide +kernel
theorem dX5_dealer_30 : decode cX5_dealer 30 = .ok (.iload 5, 2) := by decide +kernel
theorem dX5_dealer_32 : decode cX5_dealer 32 = .ok (.aload_n 0, 1) := by decide +kernel
theorem dX5_dealer_33 : decode cX5_dealer 33 = .ok (.getfield 19, 3) := by decide +kernel
theorem dX5_dealer_36 : decode cX5_dealer 36 = .ok (.getfield 91, 3) := by decide +kernel
theorem dX5_dealer_39 : decode cX5_dealer 39 = .ok (.if_icmp .ge 67, 3) := by decide +kernel
theorem dX5_dealer_42 : decode cX5_dealer 42 = .ok (.aload_n 0, 1) := by decide +kernel
theorem dX5_dealer_43 : decode cX5_dealer 43 = .ok (.iload_n 2, 1) := by decide +kernel
theorem dX5_dealer_44 : decode cX5_dealer 44 = .ok (.iload_n 3, 1) := by decide +kernel
theorem dX5_dealer_45 : decode cX5_dealer 45 = .ok (.invokevirtual 227, 3) := by decide +kernel
theorem dX5_dealer_48 : decode cX5_dealer 48 = .ok (.istore 6, 2) := by decide +kernel
theorem dX5_dealer_50 : decode cX5_dealer 50 = .ok (.iload 6, 2) := by decide +kernel
theorem dX5_dealer_52 : decode cX5_dealer 52 = .ok (.ifCond .ge 6, 3) := by decide +kernel
theorem dX5_dealer_55 : decode cX5_dealer 55 = .ok (.goto 51, 3) := by decide +kernel
theorem dX5_dealer_58 : decode cX5_dealer 58 = .ok (.iload 5, 2) := by decide +kernel
theorem dX5_dealer_60 : decode cX5_dealer 60 = .ok (.iload_n 1, 1) := by decide +kernel
theorem dX5_dealer_61 : decode cX5_dealer 61 = .ok (.if_icmp .ne 6, 3) := by decide +kernel
theorem dX5_dealer_64 : decode cX5_dealer 64 = .ok (.iload 6, 2) := by decide +kernel
theorem dX5_dealer_66 : decode cX5_dealer 66 = .ok (.ireturn, 1) := by decide +kernel
theorem dX5_dealer_67 : decode cX5_dealer 67 = .ok (.iload 4, 2) := by decide +kernel
theorem dX5_dealer_69 : decode cX5_dealer 69 = .ok (.aload_n 0, 1) := by decide +kernel
theorem dX5_dealer_70 : decode cX5_dealer 70 = .ok (.getfield 19, 3) := by decide +kernel
theorem dX5_dealer_73 : decode cX5_dealer 73 = .ok (.aload_n 0, 1) := by decide +kernel
theorem dX5_dealer_74 : decode cX5_dealer 74 = .ok (.getfield 54, 3) := by decide +kernel
theorem dX5_dealer_77 : decode cX5_dealer 77 = .ok (.iload 6, 2) := by decide +kernel
theorem dX5_dealer_79 : decode cX5_dealer 79 = .ok (.iaload, 1) := by decide +kernel
theorem dX5_dealer_80 : decode cX5_dealer 80 = .ok (.iload_n 3, 1) := by decide +kernel
theorem dX5_dealer_81 : decode cX5_dealer 81 = .ok (.iconst (-1), 1) := by decide +kernel
theorem dX5_dealer_82 : decode cX5_dealer 82 = .ok (.ixor, 1) := by decide +kernel
theorem dX5_dealer_83 : decode cX5_dealer 83 = .ok (.iand, 1) := by decide +kernel
theorem dX5_dealer_84 : decode cX5_dealer 84 = .ok (.invokevirtual 230, 3) := by decide +kernel
theorem dX5_dealer_87 : decode cX5_dealer 87 = .ok (.iadd, 1) := by decide +kernel
theorem dX5_dealer_88 : decode cX5_dealer 88 = .ok (.istore 4, 2) := by decide +kernel
theorem dX5_dealer_90 : decode cX5_dealer 90 = .ok (.iload_n 3, 1) := by decide +kernel
theorem dX5_dealer_91 : decode cX5_dealer 91 = .ok (.aload_n 0, 1) := by decide +kernel
theorem dX5_dealer_92 : decode cX5_dealer 92 = .ok (.getfield 54, 3) := by decide +kernel
theorem dX5_dealer_95 : decode cX5_dealer 95 = .ok (.iload 6, 2) := by decide +kernel
theorem dX5_dealer_97 : decode cX5_dealer 97 = .ok (.iaload, 1) := by decide +kernel
theorem dX5_dealer_98 : decode cX5_dealer 98 = .ok (.ior, 1) := by decide +kernel
theorem dX5_dealer_99 : decode cX5_dealer 99 = .ok (.istore_n 3, 1) := by decide +kernel
theorem dX5_dealer_100 : decode cX5_dealer 100 = .ok (.iinc 5 1, 3) := by decide +kernel
theorem dX5_dealer_103 : decode cX5_dealer 103 = .ok (.goto (-73), 3) := by decide +kernel
theorem dX5_dealer_106 : decode cX5_dealer 106 = .ok (.iload_n 1, 1) := by decide +kernel
theorem dX5_dealer_107 : decode cX5_dealer 107 = .ok (.iconst (-1), 1) := by decide +kernel
theorem dX5_dealer_108 : decode cX5_dealer 108 = .ok (.if_icmp .ne 8, 3) := by decide +kernel
theorem dX5_dealer_111 : decode cX5_dealer 111 = .ok (.iload 4, 2) := by decide +kernel
theorem dX5_dealer_113 : decode cX5_dealer 113 = .ok (.goto 5, 3) := by decide +kernel
theorem dX5_dealer_116 : decode cX5_dealer 116 = .ok (.bipush (-4), 2) := by decide +kernel
theorem dX5_dealer_118 : decode cX5_dealer 118 = .ok (.ireturn, 1) := by decide +kernel
set_option maxRecDepth 20000 in
theorem ggX5_ruin_X5_isPerson : GoodIn wsX5_ruin wsX5_isPerson := goodIn_r _ [7, 8, 9, 6, 10] (by decide +kernel) (by decide +kernel)
set_option maxRecDepth 20000 in
theorem gX5_ruin_X5_isPerson : GoodIn wsX5_ruin (va_wsS RX5 194 yX5_isPerson wsX5_isPerson) := goodIn_app (goodIn_of _ (by decide +kernel)) ggX5_ruin_X5_isPerson
set_option maxRecDepth 20000 in
theorem ggX5_ruin_X0_deedsOf : GoodIn wsX5_ruin wsX0_deedsOf := goodIn_r _ [15, 16, 17, 38, 39, 40, 41, 42, 43, 44, 45, 46, 47, 48, 49] (by decide +kernel) (by decide +kernel)
set_option maxRecDepth 20000 in
theorem gX5_ruin_X0_deedsOf : GoodIn wsX5_ruin (wsV RX5 197 RX0 yX0_deedsOf wsX0_deedsOf) := goodIn_app (goodIn_of _ (by decide +kernel)) ggX5_ruin_X0_deedsOf
set_option maxRecDepth 20000 in
theorem ggX5_ruin_X0_weightOf : GoodIn wsX5_ruin wsX0_weightOf := goodIn_r _ [21, 16, 22, 38, 39, 40, 41, 42, 43, 44, 45, 46, 47, 48, 49] (by decide +kernel) (by decide +kernel)
set_option maxRecDepth 20000 in
theorem gX5_ruin_X0_weightOf : GoodIn wsX5_ruin (wsV RX5 230 RX0 yX0_weightOf wsX0_weightOf) := goodIn_app (goodIn_of _ (by decide +kernel)) ggX5_ruin_X0_weightOf
theorem dX5_ruin_0 : decode cX5_ruin 0 = .ok (.iload_n 1, 1) := by decide +kernel
theorem dX5_ruin_1 : decode cX5_ruin 1 = .ok (.invokestatic 194, 3) := by decide +kernel
theorem dX5_ruin_4 : decode cX5_ruin 4 = .ok (.ifCond .ne 5, 3) := by decide +kernel
theorem dX5_ruin_7 : decode cX5_ruin 7 = .ok (.iconst (-1), 1) := by decide +kernel
theorem dX5_ruin_8 : decode cX5_ruin 8 = .ok (.ireturn, 1) := by decide +kernel
theorem dX5_ruin_9 : decode cX5_ruin 9 = .ok (.aload_n 0, 1) := by decide +kernel
theorem dX5_ruin_10 : decode cX5_ruin 10 = .ok (.getfield 19, 3) := by decide +kernel
theorem dX5_ruin_13 : decode cX5_ruin 13 = .ok (.aload_n 0, 1) := by decide +kernel
theorem dX5_ruin_14 : decode cX5_ruin 14 = .ok (.getfield 19, 3) := by decide +kernel
theorem dX5_ruin_17 : decode cX5_ruin 17 = .ok (.iload_n 1, 1) := by decide +kernel
theorem dX5_ruin_18 : decode cX5_ruin 18 = .ok (.invokevirtual 197, 3) := by decide +kernel
theorem dX5_ruin_21 : decode cX5_ruin 21 = .ok (.aload_n 0, 1) := by decide +kernel
theorem dX5_ruin_22 : decode cX5_ruin 22 = .ok (.getfield 29, 3) := by decide +kernel
theorem dX5_ruin_25 : decode cX5_ruin 25 = .ok (.getfield 191, 3) := by decide +kernel
theorem dX5_ruin_28 : decode cX5_ruin 28 = .ok (.iand, 1) := by decide +kernel
theorem dX5_ruin_29 : decode cX5_ruin 29 = .ok (.invokevirtual 230, 3) := by decide +kernel
theorem dX5_ruin_32 : decode cX5_ruin 32 = .ok (.ireturn, 1) := by decide +kernel
set_option maxRecDepth 20000 in
theorem ggX5_seen_X5_isPiece : GoodIn wsX5_seen wsX5_isPiece := goodIn_r _ [7, 8, 9, 10, 11, 6, 12, 27, 28, 29, 30, 31, 32, 33, 34, 35, 36, 41, 42, 43, 44, 45, 46, 47, 48, 49, 50, 51, 52] (by decide +kernel) (by decide +kernel)
set_option maxRecDepth 20000 in
theorem gX5_seen_X5_isPiece : GoodIn wsX5_seen (wsV RX5 109 RX5 yX5_isPiece wsX5_isPiece) := goodIn_app (goodIn_of _ (by decide +kernel)) ggX5_seen_X5_isPiece
set_option maxRecDepth 20000 in
theorem ggX5_seen_X5_isDeed : GoodIn wsX5_seen wsX5_isDeed := goodIn_r _ [16, 8, 17, 10, 11, 6, 12, 27, 28, 29, 30, 31, 32, 33, 34, 35, 36, 41, 42, 43, 44, 45, 46, 47, 48, 49, 50, 51, 52] (by decide +kernel) (by decide +kernel)
set_option maxRecDepth 20000 in
theorem gX5_seen_X5_isDeed : GoodIn wsX5_seen (wsV RX5 134 RX5 yX5_isDeed wsX5_isDeed) := goodIn_app (goodIn_of _ (by decide +kernel)) ggX5_seen_X5_isDeed
set_option maxRecDepth 20000 in
theorem ggX5_seen_X5_isWithin : GoodIn wsX5_seen wsX5_isWithin := goodIn_r _ [12] (by decide +kernel) (by decide +kernel)
set_option maxRecDepth 20000 in
theorem gX5_seen_X5_isWithin : GoodIn wsX5_seen (va_wsS RX5 80 yX5_isWithin wsX5_isWithin) := goodIn_app (goodIn_of _ (by decide +kernel)) ggX5_seen_X5_isWithin
set_option maxRecDepth 20000 in
theorem ggX5_seen_X3_add : GoodIn wsX5_seen wsX3_add := goodIn_r _ [22, 23, 24, 25, 26, 37, 38, 39, 40] (by decide +kernel) (by decide +kernel)
set_option maxRecDepth 20000 in
theorem gX5_seen_X3_add : GoodIn wsX5_seen (wsV RX5 233 RX3 yX3_add wsX3_add) := goodIn_app (goodIn_of _ (by decide +kernel)) ggX5_seen_X3_add
theorem dX5_seen_0 : decode cX5_seen 0 = .ok (.aload_n 0, 1) := by decide +kernel
theorem dX5_seen_1 : decode cX5_seen 1 = .ok (.iload_n 1, 1) := by decide +kernel
theorem dX5_seen_2 : decode cX5_seen 2 = .ok (.invokevirtual 109, 3) := by decide +kernel
theorem dX5_seen_5 : decode cX5_seen 5 = .ok (.ifCond .eq 20, 3) := by decide +kernel
theorem dX5_seen_8 : decode cX5_seen 8 = .ok (.aload_n 0, 1) := by decide +kernel
theorem dX5_seen_9 : decode cX5_seen 9 = .ok (.iload_n 2, 1) := by decide +kernel
theorem dX5_seen_10 : decode cX5_seen 10 = .ok (.invokevirtual 134, 3) := by decide +kernel
theorem dX5_seen_13 : decode cX5_seen 13 = .ok (.ifCond .eq 12, 3) := by decide +kernel
theorem dX5_seen_16 : decode cX5_seen 16 = .ok (.iload_n 3, 1) := by decide +kernel
theorem dX5_seen_17 : decode cX5_seen 17 = .ok (.iconst 0, 1) := by decide +kernel
theorem dX5_seen_18 : decode cX5_seen 18 = .ok (.iconst 1, 1) := by decide +kernel
theorem dX5_seen_19 : decode cX5_seen 19 = .ok (.invokestatic 80, 3) := by decide +kernel
theorem dX5_seen_22 : decode cX5_seen 22 = .ok (.ifCond .ne 5, 3) := by decide +kernel
theorem dX5_seen_25 : decode cX5_seen 25 = .ok (.iconst (-1), 1) := by decide +kernel
theorem dX5_seen_26 : decode cX5_seen 26 = .ok (.ireturn, 1) := by decide +kernel
theorem dX5_seen_27 : decode cX5_seen 27 = .ok (.aload_n 0, 1) := by decide +kernel
theorem dX5_seen_28 : decode cX5_seen 28 = .ok (.getfield 46, 3) := by decide +kernel
theorem dX5_seen_31 : decode cX5_seen 31 = .ok (.iload_n 1, 1) := by decide +kernel
theorem dX5_seen_32 : decode cX5_seen 32 = .ok (.iload_n 2, 1) := by decide +kernel
theorem dX5_seen_33 : decode cX5_seen 33 = .ok (.iload_n 3, 1) := by decide +kernel
theorem dX5_seen_34 : decode cX5_seen 34 = .ok (.iconst 1, 1) := by decide +kernel
theorem dX5_seen_35 : decode cX5_seen 35 = .ok (.if_icmp .ne 7, 3) := by decide +kernel
theorem dX5_seen_38 : decode cX5_seen 38 = .ok (.iconst 1, 1) := by decide +kernel
theorem dX5_seen_39 : decode cX5_seen 39 = .ok (.goto 4, 3) := by decide +kernel
theorem dX5_seen_42 : decode cX5_seen 42 = .ok (.iconst 0, 1) := by decide +kernel
theorem dX5_seen_43 : decode cX5_seen 43 = .ok (.invokevirtual 233, 3) := by decide +kernel
theorem dX5_seen_46 : decode cX5_seen 46 = .ok (.ifCond .eq 13, 3) := by decide +kernel
theorem dX5_seen_49 : decode cX5_seen 49 = .ok (.aload_n 0, 1) := by decide +kernel
theorem dX5_seen_50 : decode cX5_seen 50 = .ok (.getfield 46, 3) := by decide +kernel
theorem dX5_seen_53 : decode cX5_seen 53 = .ok (.getfield 236, 3) := by decide +kernel
theorem dX5_seen_56 : decode cX5_seen 56 = .ok (.goto 5, 3) := by decide +kernel
theorem dX5_seen_59 : decode cX5_seen 59 = .ok (.bipush (-3), 2) := by decide +kernel
theorem dX5_seen_61 : decode cX5_seen 61 = .ok (.ireturn, 1) := by decide +kernel
set_option maxRecDepth 20000 in
theorem ggX5_forget_X3_clear : GoodIn wsX5_forget wsX3_clear := goodIn_r _ [7, 8, 19, 20, 21, 22] (by decide +kernel) (by decide +kernel)
set_option maxRecDepth 20000 in
theorem gX5_forget_X3_clear : GoodIn wsX5_forget (wsV RX5 105 RX3 yX3_clear wsX3_clear) := goodIn_app (goodIn_of _ (by decide +kernel)) ggX5_forget_X3_clear
theorem dX5_forget_0 : decode cX5_forget 0 = .ok (.aload_n 0, 1) := by decide +kernel
theorem dX5_forget_1 : decode cX5_forget 1 = .ok (.getfield 46, 3) := by decide +kernel
theorem dX5_forget_4 : decode cX5_forget 4 = .ok (.getfield 236, 3) := by decide +kernel
theorem dX5_forget_7 : decode cX5_forget 7 = .ok (.istore_n 1, 1) := by decide +kernel
theorem dX5_forget_8 : decode cX5_forget 8 = .ok (.aload_n 0, 1) := by decide +kernel
theorem dX5_forget_9 : decode cX5_forget 9 = .ok (.getfield 46, 3) := by decide +kernel
theorem dX5_forget_12 : decode cX5_forget 12 = .ok (.invokevirtual 105, 3) := by decide +kernel
theorem dX5_forget_15 : decode cX5_forget 15 = .ok (.iload_n 1, 1) := by decide +kernel
theorem dX5_forget_16 : decode cX5_forget 16 = .ok (.ireturn, 1) := by decide +kernel
set_option maxRecDepth 20000 in
theorem ggX5_may_X5_isDeed : GoodIn wsX5_may wsX5_isDeed := goodIn_r _ [5, 6, 7, 8, 9, 4, 10, 56, 57, 58, 59, 60, 61, 62, 63, 64, 65, 66, 67, 68, 69, 70, 71, 72, 73, 74, 75, 76, 77] (by decide +kernel) (by decide +kernel)
set_option maxRecDepth 20000 in
theorem gX5_may_X5_isDeed : GoodIn wsX5_may (wsV RX5 134 RX5 yX5_isDeed wsX5_isDeed) := goodIn_app (goodIn_of _ (by decide +kernel)) ggX5_may_X5_isDeed
set_option maxRecDepth 20000 in
theorem ggX5_may_X5_isWithin : GoodIn wsX5_may wsX5_isWithin := goodIn_r _ [10] (by decide +kernel) (by decide +kernel)
set_option maxRecDepth 20000 in
theorem gX5_may_X5_isWithin : GoodIn wsX5_may (va_wsS RX5 80 yX5_isWithin wsX5_isWithin) := goodIn_app (goodIn_of _ (by decide +kernel)) ggX5_may_X5_isWithin
set_option maxRecDepth 20000 in
theorem ggX5_may_X5_roomsThatMay : GoodIn wsX5_may wsX5_roomsThatMay := goodIn_r _ [14, 6, 15, 16, 17, 18, 4, 19, 20, 21, 22, 23, 24, 25, 26, 27, 28, 29, 30, 31, 32, 8, 9, 10, 33, 34, 35, 36, 37, 38, 39, 40, 41, 42, 43, 44, 45, 46, 47, 48, 49, 50, 56, 57, 58, 59, 60, 61, 62, 63, 64, 65, 66, 67, 68, 69, 70, 71, 72, 73, 74, 75, 76, 77, 78, 79, 80, 81, 82, 83, 84, 85, 86] (by decide +kernel) (by decide +kernel)
set_option maxRecDepth 20000 in
theorem gX5_may_X5_roomsThatMay : GoodIn wsX5_may (wsV RX5 237 RX5 yX5_roomsThatMay wsX5_roomsThatMay) := goodIn_app (goodIn_of _ (by decide +kernel)) ggX5_may_X5_roomsThatMay
set_option maxRecDepth 20000 in
theorem ggX5_may_X5_hoursThatMay : GoodIn wsX5_may wsX5_hoursThatMay := goodIn_r _ [54, 6, 55, 16, 17, 18, 4, 19, 20, 21, 22, 23, 24, 25, 26, 27, 28, 29, 30, 31, 32, 8, 9, 10, 33, 34, 35, 36, 37, 38, 39, 40, 41, 42, 43, 44, 45, 46, 47, 48, 49, 50, 56, 57, 58, 59, 60, 61, 62, 63, 64, 65, 66, 67, 68, 69, 70, 71, 72, 73, 74, 75, 76, 77, 78, 79, 80, 81, 82, 83, 84, 85, 86] (by decide +kernel) (by decide +kernel)
set_option maxRecDepth 20000 in
theorem gX5_may_X5_hoursThatMay : GoodIn wsX5_may (wsV RX5 240 RX5 yX5_hoursThatMay wsX5_hoursThatMay) := goodIn_app (goodIn_of _ (by decide +kernel)) ggX5_may_X5_hoursThatMay
theorem dX5_may_0 : decode cX5_may 0 = .ok (.aload_n 0, 1) := by decide +kernel
theorem dX5_may_1 : decode cX5_may 1 = .ok (.iload_n 1, 1) := by decide +kernel
theorem dX5_may_2 : decode cX5_may 2 = .ok (.invokevirtual 134, 3) := by decide +kernel
theorem dX5_may_5 : decode cX5_may 5 = .ok (.ifCond .eq 12, 3) := by decide +kernel
theorem dX5_may_8 : decode cX5_may 8 = .ok (.iload_n 2, 1) := by decide +kernel
theorem dX5_may_9 : decode cX5_may 9 = .ok (.iconst 0, 1) := by decide +kernel
theorem dX5_may_10 : decode cX5_may 10 = .ok (.iconst 1, 1) := by decide +kernel
theorem dX5_may_11 : decode cX5_may 11 = .ok (.invokestatic 80, 3) := by decide +kernel
theorem dX5_may_14 : decode cX5_may 14 = .ok (.ifCond .ne 5, 3) := by decide +kernel
theorem dX5_may_17 : decode cX5_may 17 = .ok (.iconst (-1), 1) := by decide +kernel
theorem dX5_may_18 : decode cX5_may 18 = .ok (.ireturn, 1) := by decide +kernel
theorem dX5_may_19 : decode cX5_may 19 = .ok (.iload_n 2, 1) := by decide +kernel
theorem dX5_may_20 : decode cX5_may 20 = .ok (.ifCond .ne 11, 3) := by decide +kernel
theorem dX5_may_23 : decode cX5_may 23 = .ok (.aload_n 0, 1) := by decide +kernel
theorem dX5_may_24 : decode cX5_may 24 = .ok (.iload_n 1, 1) := by decide +kernel
theorem dX5_may_25 : decode cX5_may 25 = .ok (.invokevirtual 237, 3) := by decide +kernel
theorem dX5_may_28 : decode cX5_may 28 = .ok (.goto 8, 3) := by decide +kernel
theorem dX5_may_31 : decode cX5_may 31 = .ok (.aload_n 0, 1) := by decide +kernel
theorem dX5_may_32 : decode cX5_may 32 = .ok (.iload_n 1, 1) := by decide +kernel
theorem dX5_may_33 : decode cX5_may 33 = .ok (.invokevirtual 240, 3) := by decide +kernel
theorem dX5_may_36 : decode cX5_may 36 = .ok (.ireturn, 1) := by decide +kernel
set_option maxRecDepth 20000 in
theorem ggX5_likely_X5_isDeed : GoodIn wsX5_likely wsX5_isDeed := goodIn_r _ [5, 6, 7, 8, 9, 4, 10, 69, 70, 71, 72, 73, 74, 75, 76, 77, 78, 79, 80, 81, 82, 83, 84, 85, 86, 87, 88, 89, 90] (by decide +kernel) (by decide +kernel)
set_option maxRecDepth 20000 in
theorem gX5_likely_X5_isDeed : GoodIn wsX5_likely (wsV RX5 134 RX5 yX5_isDeed wsX5_isDeed) := goodIn_app (goodIn_of _ (by decide +kernel)) ggX5_likely_X5_isDeed
set_option maxRecDepth 20000 in
theorem ggX5_likely_X5_isWithin : GoodIn wsX5_likely wsX5_isWithin := goodIn_r _ [10] (by decide +kernel) (by decide +kernel)
set_option maxRecDepth 20000 in
theorem gX5_likely_X5_isWithin : GoodIn wsX5_likely (va_wsS RX5 80 yX5_isWithin wsX5_isWithin) := goodIn_app (goodIn_of _ (by decide +kernel)) ggX5_likely_X5_isWithin
set_option maxRecDepth 20000 in
theorem ggX5_likely_X5_hasComeOut : GoodIn wsX5_likely wsX5_hasComeOut := goodIn_r _ [14, 15, 16, 69, 70, 71, 72, 73, 74, 75, 76, 77, 78, 91, 92, 93, 94, 95] (by decide +kernel) (by decide +kernel)
set_option maxRecDepth 20000 in
theorem gX5_likely_X5_hasComeOut : GoodIn wsX5_likely (wsV RX5 149 RX5 yX5_hasComeOut wsX5_hasComeOut) := goodIn_app (goodIn_of _ (by decide +kernel)) ggX5_likely_X5_hasComeOut
set_option maxRecDepth 20000 in
theorem ggX5_likely_X5_looseTellers : GoodIn wsX5_likely wsX5_looseTellers := goodIn_r _ [20, 6, 21, 15, 22, 23, 24, 4, 25, 26, 27, 28, 29, 30, 31, 32, 33, 34, 35, 36, 37, 38, 39, 40, 41, 42, 43, 44, 45, 46, 47, 48, 49, 50, 51, 52, 53, 54, 55, 56, 57, 58, 59, 60, 61, 69, 70, 71, 72, 73, 74, 75, 76, 77, 78, 79, 80, 81, 82, 83, 84, 85, 86, 87, 88, 89, 90, 91, 92, 93, 94, 95] (by decide +kernel) (by decide +kernel)
set_option maxRecDepth 20000 in
theorem gX5_likely_X5_looseTellers : GoodIn wsX5_likely (wsV RX5 152 RX5 yX5_looseTellers wsX5_looseTellers) := goodIn_app (goodIn_of _ (by decide +kernel)) ggX5_likely_X5_looseTellers
set_option maxRecDepth 20000 in
theorem ggX5_likely_J6_bitCount_0f7a4 : GoodIn wsX5_likely wsJ6_bitCount_0f7a4 := goodIn_r _ [65, 66, 67, 68] (by decide +kernel) (by decide +kernel)
set_option maxRecDepth 20000 in
theorem gX5_likely_J6_bitCount_0f7a4 : GoodIn wsX5_likely (va_wsS RX5 215 yJ6_bitCount_0f7a4 wsJ6_bitCount_0f7a4) := goodIn_app (goodIn_of _ (by decide +kernel)) ggX5_likely_J6_bitCount_0f7a4
theorem dX5_likely_0 : decode cX5_likely 0 = .ok (.aload_n 0, 1) := by decide +kernel
theorem dX5_likely_1 : decode cX5_likely 1 = .ok (.iload_n 1, 1) := by decide +kernel
theorem dX5_likely_2 : decode cX5_likely 2 = .ok (.invokevirtual 134, 3) := by decide +kernel
theorem dX5_likely_5 : decode cX5_likely 5 = .ok (.ifCond .eq 22, 3) := by decide +kernel
theorem dX5_likely_8 : decode cX5_likely 8 = .ok (.iload_n 2, 1) := by decide +kernel
theorem dX5_likely_9 : decode cX5_likely 9 = .ok (.iconst 0, 1) := by decide +kernel
theorem dX5_likely_10 : decode cX5_likely 10 = .ok (.bipush 10, 2) := by decide +kernel
theorem dX5_likely_12 : decode cX5_likely 12 = .ok (.invokestatic 80, 3) := by decide +kernel
theorem dX5_likely_15 : decode cX5_likely 15 = .ok (.ifCond .eq 12, 3) := by decide +kernel
theorem dX5_likely_18 : decode cX5_likely 18 = .ok (.iload_n 3, 1) := by decide +kernel
theorem dX5_likely_19 : decode cX5_likely 19 = .ok (.iconst 0, 1) := by decide +kernel
theorem dX5_likely_20 : decode cX5_likely 20 = .ok (.iconst 1, 1) := by decide +kernel
theorem dX5_likely_21 : decode cX5_likely 21 = .ok (.invokestatic 80, 3) := by decide +kernel
theorem dX5_likely_24 : decode cX5_likely 24 = .ok (.ifCond .ne 5, 3) := by decide +kernel
theorem dX5_likely_27 : decode cX5_likely 27 = .ok (.iconst (-1), 1) := by decide +kernel
theorem dX5_likely_28 : decode cX5_likely 28 = .ok (.ireturn, 1) := by decide +kernel
theorem dX5_likely_29 : decode cX5_likely 29 = .ok (.aload_n 0, 1) := by decide +kernel
theorem dX5_likely_30 : decode cX5_likely 30 = .ok (.iload_n 1, 1) := by decide +kernel
theorem dX5_likely_31 : decode cX5_likely 31 = .ok (.invokevirtual 149, 3) := by decide +kernel
theorem dX5_likely_34 : decode cX5_likely 34 = .ok (.ifCond .eq 5, 3) := by decide +kernel
theorem dX5_likely_37 : decode cX5_likely 37 = .ok (.iconst 1, 1) := by decide +kernel
theorem dX5_likely_38 : decode cX5_likely 38 = .ok (.ireturn, 1) := by decide +kernel
theorem dX5_likely_39 : decode cX5_likely 39 = .ok (.iconst 1, 1) := by decide +kernel
theorem dX5_likely_40 : decode cX5_likely 40 = .ok (.istore 4, 2) := by decide +kernel
theorem dX5_likely_42 : decode cX5_likely 42 = .ok (.iconst 1, 1) := by decide +kernel
theorem dX5_likely_43 : decode cX5_likely 43 = .ok (.istore 5, 2) := by decide +kernel
theorem dX5_likely_45 : decode cX5_likely 45 = .ok (.aload_n 0, 1) := by decide +kernel
theorem dX5_likely_46 : decode cX5_likely 46 = .ok (.iconst 1, 1) := by decide +kernel
theorem dX5_likely_47 : decode cX5_likely 47 = .ok (.iload_n 1, 1) := by decide +kernel
theorem dX5_likely_48 : decode cX5_likely 48 = .ok (.ishl, 1) := by decide +kernel
theorem dX5_likely_49 : decode cX5_likely 49 = .ok (.invokevirtual 152, 3) := by decide +kernel
theorem dX5_likely_52 : decode cX5_likely 52 = .ok (.invokestatic 215, 3) := by decide +kernel
theorem dX5_likely_55 : decode cX5_likely 55 = .ok (.istore 6, 2) := by decide +kernel
theorem dX5_likely_57 : decode cX5_likely 57 = .ok (.iconst 0, 1) := by decide +kernel
theorem dX5_likely_58 : decode cX5_likely 58 = .ok (.istore 7, 2) := by decide +kernel
theorem dX5_likely_60 : decode cX5_likely 60 = .ok (.iload 7, 2) := by decide +kernel
theorem dX5_likely_62 : decode cX5_likely 62 = .ok (.iload 6, 2) := by decide +kernel
theorem dX5_likely_64 : decode cX5_likely 64 = .ok (.if_icmp .ge 25, 3) := by decide +kernel
theorem dX5_likely_67 : decode cX5_likely 67 = .ok (.iload 4, 2) := by decide +kernel
theorem dX5_likely_69 : decode cX5_likely 69 = .ok (.bipush 10, 2) := by decide +kernel
theorem dX5_likely_71 : decode cX5_likely 71 = .ok (.iload_n 2, 1) := by decide +kernel
theorem dX5_likely_72 : decode cX5_likely 72 = .ok (.isub, 1) := by decide +kernel
theorem dX5_likely_73 : decode cX5_likely 73 = .ok (.imul, 1) := by decide +kernel
theorem dX5_likely_74 : decode cX5_likely 74 = .ok (.istore 4, 2) := by decide +kernel
theorem dX5_likely_76 : decode cX5_likely 76 = .ok (.iload 5, 2) := by decide +kernel
theorem dX5_likely_78 : decode cX5_likely 78 = .ok (.bipush 10, 2) := by decide +kernel
theorem dX5_likely_80 : decode cX5_likely 80 = .ok (.imul, 1) := by decide +kernel
theorem dX5_likely_81 : decode cX5_likely 81 = .ok (.istore 5, 2) := by decide +kernel
theorem dX5_likely_83 : decode cX5_likely 83 = .ok (.iinc 7 1, 3) := by decide +kernel
theorem dX5_likely_86 : decode cX5_likely 86 = .ok (.goto (-26), 3) := by decide +kernel
theorem dX5_likely_89 : decode cX5_likely 89 = .ok (.iload 5, 2) := by decide +kernel
theorem dX5_likely_91 : decode cX5_likely 91 = .ok (.iload 4, 2) := by decide +kernel
theorem dX5_likely_93 : decode cX5_likely 93 = .ok (.isub, 1) := by decide +kernel
theorem dX5_likely_94 : decode cX5_likely 94 = .ok (.istore 7, 2) := by decide +kernel
theorem dX5_likely_96 : decode cX5_likely 96 = .ok (.iconst 0, 1) := by decide +kernel
theorem dX5_likely_97 : decode cX5_likely 97 = .ok (.istore 8, 2) := by decide +kernel
theorem dX5_likely_99 : decode cX5_likely 99 = .ok (.iload 8, 2) := by decide +kernel
theorem dX5_likely_101 : decode cX5_likely 101 = .ok (.iload 6, 2) := by decide +kernel
theorem dX5_likely_103 : decode cX5_likely 103 = .ok (.if_icmp .ge 61, 3) := by decide +kernel
theorem dX5_likely_106 : decode cX5_likely 106 = .ok (.iload 7, 2) := by decide +kernel
theorem dX5_likely_108 : decode cX5_likely 108 = .ok (.iconst 2, 1) := by decide +kernel
theorem dX5_likely_109 : decode cX5_likely 109 = .ok (.irem, 1) := by decide +kernel
theorem dX5_likely_110 : decode cX5_likely 110 = .ok (.ifCond .ne 22, 3) := by decide +kernel
theorem dX5_likely_113 : decode cX5_likely 113 = .ok (.iload 5, 2) := by decide +kernel
theorem dX5_likely_115 : decode cX5_likely 115 = .ok (.iconst 2, 1) := by decide +kernel
theorem dX5_likely_116 : decode cX5_likely 116 = .ok (.irem, 1) := by decide +kernel
theorem dX5_likely_117 : decode cX5_likely 117 = .ok (.ifCond .ne 15, 3) := by decide +kernel
theorem dX5_likely_120 : decode cX5_likely 120 = .ok (.iload 7, 2) := by decide +kernel
theorem dX5_likely_122 : decode cX5_likely 122 = .ok (.iconst 2, 1) := by decide +kernel
theorem dX5_likely_123 : decode cX5_likely 123 = .ok (.idiv, 1) := by decide +kernel
theorem dX5_likely_124 : decode cX5_likely 124 = .ok (.istore 7, 2) := by decide +kernel
theorem dX5_likely_126 : decode cX5_likely 126 = .ok (.iload 5, 2) := by decide +kernel
theorem dX5_likely_128 : decode cX5_likely 128 = .ok (.iconst 2, 1) := by decide +kernel
theorem dX5_likely_129 : decode cX5_likely 129 = .ok (.idiv, 1) := by decide +kernel
theorem dX5_likely_130 : decode cX5_likely 130 = .ok (.istore 5, 2) := by decide +kernel
theorem dX5_likely_132 : decode cX5_likely 132 = .ok (.iload 7, 2) := by decide +kernel
theorem dX5_likely_134 : decode cX5_likely 134 = .ok (.iconst 5, 1) := by decide +kernel
theorem dX5_likely_135 : decode cX5_likely 135 = .ok (.irem, 1) := by decide +kernel
theorem dX5_likely_136 : decode cX5_likely 136 = .ok (.ifCond .ne 22, 3) := by decide +kernel
theorem dX5_likely_139 : decode cX5_likely 139 = .ok (.iload 5, 2) := by decide +kernel
theorem dX5_likely_141 : decode cX5_likely 141 = .ok (.iconst 5, 1) := by decide +kernel
theorem dX5_likely_142 : decode cX5_likely 142 = .ok (.irem, 1) := by decide +kernel
theorem dX5_likely_143 : decode cX5_likely 143 = .ok (.ifCond .ne 15, 3) := by decide +kernel
theorem dX5_likely_146 : decode cX5_likely 146 = .ok (.iload 7, 2) := by decide +kernel
theorem dX5_likely_148 : decode cX5_likely 148 = .ok (.iconst 5, 1) := by decide +kernel
theorem dX5_likely_149 : decode cX5_likely 149 = .ok (.idiv, 1) := by decide +kernel
theorem dX5_likely_150 : decode cX5_likely 150 = .ok (.istore 7, 2) := by decide +kernel
theorem dX5_likely_152 : decode cX5_likely 152 = .ok (.iload 5, 2) := by decide +kernel
theorem dX5_likely_154 : decode cX5_likely 154 = .ok (.iconst 5, 1) := by decide +kernel
theorem dX5_likely_155 : decode cX5_likely 155 = .ok (.idiv, 1) := by decide +kernel
theorem dX5_likely_156 : decode cX5_likely 156 = .ok (.istore 5, 2) := by decide +kernel
theorem dX5_likely_158 : decode cX5_likely 158 = .ok (.iinc 8 1, 3) := by decide +kernel
theorem dX5_likely_161 : decode cX5_likely 161 = .ok (.goto (-62), 3) := by decide +kernel
theorem dX5_likely_164 : decode cX5_likely 164 = .ok (.iload_n 3, 1) := by decide +kernel
theorem dX5_likely_165 : decode cX5_likely 165 = .ok (.ifCond .ne 8, 3) := by decide +kernel
theorem dX5_likely_168 : decode cX5_likely 168 = .ok (.iload 7, 2) := by decide +kernel
theorem dX5_likely_170 : decode cX5_likely 170 = .ok (.goto 5, 3) := by decide +kernel
theorem dX5_likely_173 : decode cX5_likely 173 = .ok (.iload 5, 2) := by decide +kernel
theorem dX5_likely_175 : decode cX5_likely 175 = .ok (.ireturn, 1) := by decide +kernel
set_option maxRecDepth 20000 in
theorem ggX5_sale_X5_isWithin : GoodIn wsX5_sale wsX5_isWithin := goodIn_r _ [8] (by decide +kernel) (by decide +kernel)
set_option maxRecDepth 20000 in
theorem gX5_sale_X5_isWithin : GoodIn wsX5_sale (va_wsS RX5 80 yX5_isWithin wsX5_isWithin) := goodIn_app (goodIn_of _ (by decide +kernel)) ggX5_sale_X5_isWithin
set_option maxRecDepth 20000 in
theorem ggX5_sale_X4_packed : GoodIn wsX5_sale wsX4_packed := goodIn_r _ [13, 14, 15, 16, 17, 18, 108, 109, 110, 111, 112] (by decide +kernel) (by decide +kernel)
set_option maxRecDepth 20000 in
theorem gX5_sale_X4_packed : GoodIn wsX5_sale (wsV RX5 155 RX4 yX4_packed wsX4_packed) := goodIn_app (goodIn_of _ (by decide +kernel)) ggX5_sale_X4_packed
set_option maxRecDepth 20000 in
theorem ggX5_sale_X4_unpack : GoodIn wsX5_sale wsX4_unpack := goodIn_r _ [22, 23, 18, 24, 17, 16, 15, 14, 108, 109, 110, 111, 112] (by decide +kernel) (by decide +kernel)
set_option maxRecDepth 20000 in
theorem gX5_sale_X4_unpack : GoodIn wsX5_sale (wsV RX5 182 RX4 yX4_unpack wsX4_unpack) := goodIn_app (goodIn_of _ (by decide +kernel)) ggX5_sale_X4_unpack
set_option maxRecDepth 20000 in
theorem ggX5_sale_X5_drawOf : GoodIn wsX5_sale wsX5_drawOf := goodIn_r _ [27, 28, 29, 30, 31] (by decide +kernel) (by decide +kernel)
set_option maxRecDepth 20000 in
theorem gX5_sale_X5_drawOf : GoodIn wsX5_sale (va_wsS RX5 243 yX5_drawOf wsX5_drawOf) := goodIn_app (goodIn_of _ (by decide +kernel)) ggX5_sale_X5_drawOf
set_option maxRecDepth 20000 in
theorem ggX5_sale_X5_dealOnce : GoodIn wsX5_sale wsX5_dealOnce := goodIn_r _ [35, 36, 37, 1, 38, 39, 40, 41, 7, 42, 43, 44, 45, 46, 12, 47, 16, 17, 48, 49, 50, 51, 52, 53, 54, 55, 56, 57, 18, 58, 59, 60, 61, 62, 63, 64, 65, 66, 67, 68, 69, 70, 71, 72, 73, 74, 75, 76, 77, 78, 15, 79, 80, 81, 82, 83, 84, 85, 86, 87, 88, 89, 4, 90, 91, 92, 93, 14, 94, 95, 96, 97, 98, 99, 100, 101, 102, 103, 104, 105, 106, 107, 113, 114, 115, 116, 117, 118, 119, 120, 121, 122, 123, 124, 108, 109, 110, 111, 112] (by decide +kernel) (by decide +kernel)
set_option maxRecDepth 20000 in
theorem gX5_sale_X5_dealOnce : GoodIn wsX5_sale (wsV RX5 246 RX5 yX5_dealOnce wsX5_dealOnce) := goodIn_app (goodIn_of _ (by decide +kernel)) ggX5_sale_X5_dealOnce
theorem dX5_sale_0 : decode cX5_sale 0 = .ok (.iload_n 1, 1) := by decide +kernel
theorem dX5_sale_1 : decode cX5_sale 1 = .ok (.iconst 0, 1) := by decide +kernel
theorem dX5_sale_2 : decode cX5_sale 2 = .ok (.sipush 9999, 3) := by decide +kernel
theorem dX5_sale_5 : decode cX5_sale 5 = .ok (.invokestatic 80, 3) := by decide +kernel
theorem dX5_sale_8 : decode cX5_sale 8 = .ok (.ifCond .eq 22, 3) := by decide +kernel
theorem dX5_sale_11 : decode cX5_sale 11 = .ok (.iload_n 2, 1) := by decide +kernel
theorem dX5_sale_12 : decode cX5_sale 12 = .ok (.iconst 1, 1) := by decide +kernel
theorem dX5_sale_13 : decode cX5_sale 13 = .ok (.bipush 40, 2) := by decide +kernel
theorem dX5_sale_15 : decode cX5_sale 15 = .ok (.invokestatic 80, 3) := by decide +kernel
theorem dX5_sale_18 : decode cX5_sale 18 = .ok (.ifCond .eq 12, 3) := by decide +kernel
theorem dX5_sale_21 : decode cX5_sale 21 = .ok (.iload_n 3, 1) := by decide +kernel
theorem dX5_sale_22 : decode cX5_sale 22 = .ok (.iconst 0, 1) := by decide +kernel
theorem dX5_sale_23 : decode cX5_sale 23 = .ok (.iconst 1, 1) := by decide +kernel
theorem dX5_sale_24 : decode cX5_sale 24 = .ok (.invokestatic 80, 3) := by decide +kernel
theorem dX5_sale_27 : decode cX5_sale 27 = .ok (.ifCond .ne 5, 3) := by decide +kernel
theorem dX5_sale_30 : decode cX5_sale 30 = .ok (.iconst (-1), 1) := by decide +kernel
theorem dX5_sale_31 : decode cX5_sale 31 = .ok (.ireturn, 1) := by decide +kernel
theorem dX5_sale_32 : decode cX5_sale 32 = .ok (.aload_n 0, 1) := by decide +kernel
theorem dX5_sale_33 : decode cX5_sale 33 = .ok (.getfield 33, 3) := by decide +kernel
theorem dX5_sale_36 : decode cX5_sale 36 = .ok (.aload_n 0, 1) := by decide +kernel
theorem dX5_sale_37 : decode cX5_sale 37 = .ok (.getfield 29, 3) := by decide +kernel
theorem dX5_sale_40 : decode cX5_sale 40 = .ok (.invokevirtual 155, 3) := by decide +kernel
theorem dX5_sale_43 : decode cX5_sale 43 = .ok (.invokevirtual 182, 3) := by decide +kernel
theorem dX5_sale_46 : decode cX5_sale 46 = .ok (.iconst 0, 1) := by decide +kernel
theorem dX5_sale_47 : decode cX5_sale 47 = .ok (.istore 4, 2) := by decide +kernel
theorem dX5_sale_49 : decode cX5_sale 49 = .ok (.iload 4, 2) := by decide +kernel
theorem dX5_sale_51 : decode cX5_sale 51 = .ok (.iload_n 2, 1) := by decide +kernel
theorem dX5_sale_52 : decode cX5_sale 52 = .ok (.if_icmp .ge 19, 3) := by decide +kernel
theorem dX5_sale_55 : decode cX5_sale 55 = .ok (.aload_n 0, 1) := by decide +kernel
theorem dX5_sale_56 : decode cX5_sale 56 = .ok (.iload_n 1, 1) := by decide +kernel
theorem dX5_sale_57 : decode cX5_sale 57 = .ok (.iload 4, 2) := by decide +kernel
theorem dX5_sale_59 : decode cX5_sale 59 = .ok (.invokestatic 243, 3) := by decide +kernel
theorem dX5_sale_62 : decode cX5_sale 62 = .ok (.invokevirtual 246, 3) := by decide +kernel
theorem dX5_sale_65 : decode cX5_sale 65 = .ok (.iinc 4 1, 3) := by decide +kernel
theorem dX5_sale_68 : decode cX5_sale 68 = .ok (.goto (-19), 3) := by decide +kernel
theorem dX5_sale_71 : decode cX5_sale 71 = .ok (.iload_n 3, 1) := by decide +kernel
theorem dX5_sale_72 : decode cX5_sale 72 = .ok (.ifCond .ne 13, 3) := by decide +kernel
theorem dX5_sale_75 : decode cX5_sale 75 = .ok (.aload_n 0, 1) := by decide +kernel
theorem dX5_sale_76 : decode cX5_sale 76 = .ok (.getfield 33, 3) := by decide +kernel
theorem dX5_sale_79 : decode cX5_sale 79 = .ok (.getfield 191, 3) := by decide +kernel
theorem dX5_sale_82 : decode cX5_sale 82 = .ok (.goto 10, 3) := by decide +kernel
theorem dX5_sale_85 : decode cX5_sale 85 = .ok (.aload_n 0, 1) := by decide +kernel
theorem dX5_sale_86 : decode cX5_sale 86 = .ok (.getfield 33, 3) := by decide +kernel
theorem dX5_sale_89 : decode cX5_sale 89 = .ok (.getfield 172, 3) := by decide +kernel
theorem dX5_sale_92 : decode cX5_sale 92 = .ok (.ireturn, 1) := by decide +kernel
set_option maxRecDepth 20000 in
theorem ggX5_keep_X4_packed : GoodIn wsX5_keep wsX4_packed := goodIn_r _ [8, 9, 10, 11, 12, 13, 24, 25, 26, 27, 28] (by decide +kernel) (by decide +kernel)
set_option maxRecDepth 20000 in
theorem gX5_keep_X4_packed : GoodIn wsX5_keep (wsV RX5 155 RX4 yX4_packed wsX4_packed) := goodIn_app (goodIn_of _ (by decide +kernel)) ggX5_keep_X4_packed
theorem dX5_keep_0 : decode cX5_keep 0 = .ok (.aload_n 0, 1) := by decide +kernel
theorem dX5_keep_1 : decode cX5_keep 1 = .ok (.getfield 106, 3) := by decide +kernel
theorem dX5_keep_4 : decode cX5_keep 4 = .ok (.aload_n 0, 1) := by decide +kernel
theorem dX5_keep_5 : decode cX5_keep 5 = .ok (.getfield 50, 3) := by decide +kernel
theorem dX5_keep_8 : decode cX5_keep 8 = .ok (.arraylength, 1) := by decide +kernel
theorem dX5_keep_9 : decode cX5_keep 9 = .ok (.if_icmp .lt 6, 3) := by decide +kernel
theorem dX5_keep_12 : decode cX5_keep 12 = .ok (.bipush (-3), 2) := by decide +kernel
theorem dX5_keep_14 : decode cX5_keep 14 = .ok (.ireturn, 1) := by decide +kernel
theorem dX5_keep_15 : decode cX5_keep 15 = .ok (.aload_n 0, 1) := by decide +kernel
theorem dX5_keep_16 : decode cX5_keep 16 = .ok (.getfield 50, 3) := by decide +kernel
theorem dX5_keep_19 : decode cX5_keep 19 = .ok (.aload_n 0, 1) := by decide +kernel
theorem dX5_keep_20 : decode cX5_keep 20 = .ok (.getfield 106, 3) := by decide +kernel
theorem dX5_keep_23 : decode cX5_keep 23 = .ok (.aload_n 0, 1) := by decide +kernel
theorem dX5_keep_24 : decode cX5_keep 24 = .ok (.getfield 29, 3) := by decide +kernel
theorem dX5_keep_27 : decode cX5_keep 27 = .ok (.invokevirtual 155, 3) := by decide +kernel
theorem dX5_keep_30 : decode cX5_keep 30 = .ok (.lastore, 1) := by decide +kernel
theorem dX5_keep_31 : decode cX5_keep 31 = .ok (.aload_n 0, 1) := by decide +kernel
theorem dX5_keep_32 : decode cX5_keep 32 = .ok (.dup, 1) := by decide +kernel
theorem dX5_keep_33 : decode cX5_keep 33 = .ok (.getfield 106, 3) := by decide +kernel
theorem dX5_keep_36 : decode cX5_keep 36 = .ok (.iconst 1, 1) := by decide +kernel
theorem dX5_keep_37 : decode cX5_keep 37 = .ok (.iadd, 1) := by decide +kernel
theorem dX5_keep_38 : decode cX5_keep 38 = .ok (.putfield 106, 3) := by decide +kernel
theorem dX5_keep_41 : decode cX5_keep 41 = .ok (.aload_n 0, 1) := by decide +kernel
theorem dX5_keep_42 : decode cX5_keep 42 = .ok (.getfield 106, 3) := by decide +kernel
theorem dX5_keep_45 : decode cX5_keep 45 = .ok (.ireturn, 1) := by decide +kernel
set_option maxRecDepth 20000 in
theorem ggX5_back_X4_unpack : GoodIn wsX5_back wsX4_unpack := goodIn_r _ [9, 10, 11, 12, 13, 14, 15, 16, 33, 34, 35, 36, 37] (by decide +kernel) (by decide +kernel)
set_option maxRecDepth 20000 in
theorem gX5_back_X4_unpack : GoodIn wsX5_back (wsV RX5 182 RX4 yX4_unpack wsX4_unpack) := goodIn_app (goodIn_of _ (by decide +kernel)) ggX5_back_X4_unpack
set_option maxRecDepth 20000 in
theorem ggX5_back_X2_clear : GoodIn wsX5_back wsX2_clear := goodIn_r _ [21, 22, 38, 39, 40] (by decide +kernel) (by decide +kernel)
set_option maxRecDepth 20000 in
theorem gX5_back_X2_clear : GoodIn wsX5_back (wsV RX5 104 RX2 yX2_clear wsX2_clear) := goodIn_app (goodIn_of _ (by decide +kernel)) ggX5_back_X2_clear
theorem dX5_back_0 : decode cX5_back 0 = .ok (.aload_n 0, 1) := by decide +kernel
theorem dX5_back_1 : decode cX5_back 1 = .ok (.getfield 106, 3) := by decide +kernel
theorem dX5_back_4 : decode cX5_back 4 = .ok (.iconst 1, 1) := by decide +kernel
theorem dX5_back_5 : decode cX5_back 5 = .ok (.if_icmp .ge 6, 3) := by decide +kernel
theorem dX5_back_8 : decode cX5_back 8 = .ok (.bipush (-2), 2) := by decide +kernel
theorem dX5_back_10 : decode cX5_back 10 = .ok (.ireturn, 1) := by decide +kernel
theorem dX5_back_11 : decode cX5_back 11 = .ok (.aload_n 0, 1) := by decide +kernel
theorem dX5_back_12 : decode cX5_back 12 = .ok (.dup, 1) := by decide +kernel
theorem dX5_back_13 : decode cX5_back 13 = .ok (.getfield 106, 3) := by decide +kernel
theorem dX5_back_16 : decode cX5_back 16 = .ok (.iconst 1, 1) := by decide +kernel
theorem dX5_back_17 : decode cX5_back 17 = .ok (.isub, 1) := by decide +kernel
theorem dX5_back_18 : decode cX5_back 18 = .ok (.putfield 106, 3) := by decide +kernel
theorem dX5_back_21 : decode cX5_back 21 = .ok (.aload_n 0, 1) := by decide +kernel
theorem dX5_back_22 : decode cX5_back 22 = .ok (.getfield 29, 3) := by decide +kernel
theorem dX5_back_25 : decode cX5_back 25 = .ok (.aload_n 0, 1) := by decide +kernel
theorem dX5_back_26 : decode cX5_back 26 = .ok (.getfield 50, 3) := by decide +kernel
theorem dX5_back_29 : decode cX5_back 29 = .ok (.aload_n 0, 1) := by decide +kernel
theorem dX5_back_30 : decode cX5_back 30 = .ok (.getfield 106, 3) := by decide +kernel
theorem dX5_back_33 : decode cX5_back 33 = .ok (.laload, 1) := by decide +kernel
theorem dX5_back_34 : decode cX5_back 34 = .ok (.invokevirtual 182, 3) := by decide +kernel
theorem dX5_back_37 : decode cX5_back 37 = .ok (.aload_n 0, 1) := by decide +kernel
theorem dX5_back_38 : decode cX5_back 38 = .ok (.getfield 39, 3) := by decide +kernel
theorem dX5_back_41 : decode cX5_back 41 = .ok (.invokevirtual 104, 3) := by decide +kernel
theorem dX5_back_44 : decode cX5_back 44 = .ok (.aload_n 0, 1) := by decide +kernel
theorem dX5_back_45 : decode cX5_back 45 = .ok (.getfield 106, 3) := by decide +kernel
theorem dX5_back_48 : decode cX5_back 48 = .ok (.ireturn, 1) := by decide +kernel
set_option maxRecDepth 20000 in
theorem ggX5_count_X5_looseOnes : GoodIn wsX5_count wsX5_looseOnes := goodIn_r _ [20, 1, 2, 4, 21, 22, 23, 19, 24, 25, 26, 27, 28, 29, 30, 31, 32, 33, 34, 35, 36, 37, 38, 46, 47, 48, 49, 50, 51, 52, 53, 54, 55, 56, 57, 58, 59, 60, 61, 62, 63, 64, 65, 66, 67, 68, 69, 70, 71, 72] (by decide +kernel) (by decide +kernel)
set_option maxRecDepth 20000 in
theorem gX5_count_X5_looseOnes : GoodIn wsX5_count (wsV RX5 203 RX5 yX5_looseOnes wsX5_looseOnes) := goodIn_app (goodIn_of _ (by decide +kernel)) ggX5_count_X5_looseOnes
set_option maxRecDepth 20000 in
theorem ggX5_count_J6_bitCount_0f7a4 : GoodIn wsX5_count wsJ6_bitCount_0f7a4 := goodIn_r _ [42, 43, 44, 45] (by decide +kernel) (by decide +kernel)
set_option maxRecDepth 20000 in
theorem gX5_count_J6_bitCount_0f7a4 : GoodIn wsX5_count (va_wsS RX5 215 yJ6_bitCount_0f7a4 wsJ6_bitCount_0f7a4) := goodIn_app (goodIn_of _ (by decide +kernel)) ggX5_count_J6_bitCount_0f7a4
theorem dX5_count_0 : decode cX5_count 0 = .ok (.iload_n 1, 1) := by decide +kernel
theorem dX5_count_1 : decode cX5_count 1 = .ok (.tableswitch 153 0 10 #[59, 67, 75, 83, 91, 102, 113, 124, 132, 140, 145], 59) := by decide +kernel
theorem dX5_count_60 : decode cX5_count 60 = .ok (.aload_n 0, 1) := by decide +kernel
theorem dX5_count_61 : decode cX5_count 61 = .ok (.getfield 19, 3) := by decide +kernel
theorem dX5_count_64 : decode cX5_count 64 = .ok (.getfield 91, 3) := by decide +kernel
theorem dX5_count_67 : decode cX5_count 67 = .ok (.ireturn, 1) := by decide +kernel
theorem dX5_count_68 : decode cX5_count 68 = .ok (.aload_n 0, 1) := by decide +kernel
theorem dX5_count_69 : decode cX5_count 69 = .ok (.getfield 19, 3) := by decide +kernel
theorem dX5_count_72 : decode cX5_count 72 = .ok (.getfield 220, 3) := by decide +kernel
theorem dX5_count_75 : decode cX5_count 75 = .ok (.ireturn, 1) := by decide +kernel
theorem dX5_count_76 : decode cX5_count 76 = .ok (.aload_n 0, 1) := by decide +kernel
theorem dX5_count_77 : decode cX5_count 77 = .ok (.getfield 29, 3) := by decide +kernel
theorem dX5_count_80 : decode cX5_count 80 = .ok (.getfield 172, 3) := by decide +kernel
theorem dX5_count_83 : decode cX5_count 83 = .ok (.ireturn, 1) := by decide +kernel
theorem dX5_count_84 : decode cX5_count 84 = .ok (.aload_n 0, 1) := by decide +kernel
theorem dX5_count_85 : decode cX5_count 85 = .ok (.invokevirtual 203, 3) := by decide +kernel
theorem dX5_count_88 : decode cX5_count 88 = .ok (.invokestatic 215, 3) := by decide +kernel
theorem dX5_count_91 : decode cX5_count 91 = .ok (.ireturn, 1) := by decide +kernel
theorem dX5_count_92 : decode cX5_count 92 = .ok (.aload_n 0, 1) := by decide +kernel
theorem dX5_count_93 : decode cX5_count 93 = .ok (.getfield 29, 3) := by decide +kernel
theorem dX5_count_96 : decode cX5_count 96 = .ok (.getfield 250, 3) := by decide +kernel
theorem dX5_count_99 : decode cX5_count 99 = .ok (.invokestatic 215, 3) := by decide +kernel
theorem dX5_count_102 : decode cX5_count 102 = .ok (.ireturn, 1) := by decide +kernel
theorem dX5_count_103 : decode cX5_count 103 = .ok (.aload_n 0, 1) := by decide +kernel
theorem dX5_count_104 : decode cX5_count 104 = .ok (.getfield 29, 3) := by decide +kernel
theorem dX5_count_107 : decode cX5_count 107 = .ok (.getfield 253, 3) := by decide +kernel
theorem dX5_count_110 : decode cX5_count 110 = .ok (.invokestatic 215, 3) := by decide +kernel
theorem dX5_count_113 : decode cX5_count 113 = .ok (.ireturn, 1) := by decide +kernel
theorem dX5_count_114 : decode cX5_count 114 = .ok (.aload_n 0, 1) := by decide +kernel
theorem dX5_count_115 : decode cX5_count 115 = .ok (.getfield 29, 3) := by decide +kernel
theorem dX5_count_118 : decode cX5_count 118 = .ok (.getfield 191, 3) := by decide +kernel
theorem dX5_count_121 : decode cX5_count 121 = .ok (.invokestatic 215, 3) := by decide +kernel
theorem dX5_count_124 : decode cX5_count 124 = .ok (.ireturn, 1) := by decide +kernel
theorem dX5_count_125 : decode cX5_count 125 = .ok (.aload_n 0, 1) := by decide +kernel
theorem dX5_count_126 : decode cX5_count 126 = .ok (.getfield 46, 3) := by decide +kernel
theorem dX5_count_129 : decode cX5_count 129 = .ok (.getfield 236, 3) := by decide +kernel
theorem dX5_count_132 : decode cX5_count 132 = .ok (.ireturn, 1) := by decide +kernel
theorem dX5_count_133 : decode cX5_count 133 = .ok (.aload_n 0, 1) := by decide +kernel
theorem dX5_count_134 : decode cX5_count 134 = .ok (.getfield 39, 3) := by decide +kernel
theorem dX5_count_137 : decode cX5_count 137 = .ok (.getfield 176, 3) := by decide +kernel
theorem dX5_count_140 : decode cX5_count 140 = .ok (.ireturn, 1) := by decide +kernel
theorem dX5_count_141 : decode cX5_count 141 = .ok (.aload_n 0, 1) := by decide +kernel
theorem dX5_count_142 : decode cX5_count 142 = .ok (.getfield 106, 3) := by decide +kernel
theorem dX5_count_145 : decode cX5_count 145 = .ok (.ireturn, 1) := by decide +kernel
theorem dX5_count_146 : decode cX5_count 146 = .ok (.aload_n 0, 1) := by decide +kernel
theorem dX5_count_147 : decode cX5_count 147 = .ok (.getfield 10, 3) := by decide +kernel
theorem dX5_count_150 : decode cX5_count 150 = .ok (.getfield 84, 3) := by decide +kernel
theorem dX5_count_153 : decode cX5_count 153 = .ok (.ireturn, 1) := by decide +kernel
theorem dX5_count_154 : decode cX5_count 154 = .ok (.iconst (-1), 1) := by decide +kernel
theorem dX5_count_155 : decode cX5_count 155 = .ok (.ireturn, 1) := by decide +kernel
theorem dX5_isWithin_0 : decode cX5_isWithin 0 = .ok (.iload_n 0, 1) := by decide +kernel
theorem dX5_isWithin_1 : decode cX5_isWithin 1 = .ok (.iload_n 1, 1) := by decide +kernel
theorem dX5_isWithin_2 : decode cX5_isWithin 2 = .ok (.if_icmp .lt 12, 3) := by decide +kernel
theorem dX5_isWithin_5 : decode cX5_isWithin 5 = .ok (.iload_n 0, 1) := by decide +kernel
theorem dX5_isWithin_6 : decode cX5_isWithin 6 = .ok (.iload_n 2, 1) := by decide +kernel
theorem dX5_isWithin_7 : decode cX5_isWithin 7 = .ok (.if_icmp .gt 7, 3) := by decide +kernel
theorem dX5_isWithin_10 : decode cX5_isWithin 10 = .ok (.iconst 1, 1) := by decide +kernel
theorem dX5_isWithin_11 : decode cX5_isWithin 11 = .ok (.goto 4, 3) := by decide +kernel
theorem dX5_isWithin_14 : decode cX5_isWithin 14 = .ok (.iconst 0, 1) := by decide +kernel
theorem dX5_isWithin_15 : decode cX5_isWithin 15 = .ok (.ireturn, 1) := by decide +kernel
set_option maxRecDepth 20000 in
theorem ggX5_isPerson_X5_isWithin : GoodIn wsX5_isPerson wsX5_isWithin := goodIn_r _ [4] (by decide +kernel) (by decide +kernel)
set_option maxRecDepth 20000 in
theorem gX5_isPerson_X5_isWithin : GoodIn wsX5_isPerson (va_wsS RX5 80 yX5_isWithin wsX5_isWithin) := goodIn_app (goodIn_of _ (by decide +kernel)) ggX5_isPerson_X5_isWithin
theorem dX5_isPerson_0 : decode cX5_isPerson 0 = .ok (.iload_n 0, 1) := by decide +kernel
theorem dX5_isPerson_1 : decode cX5_isPerson 1 = .ok (.iconst 0, 1) := by decide +kernel
theorem dX5_isPerson_2 : decode cX5_isPerson 2 = .ok (.iconst 5, 1) := by decide +kernel
theorem dX5_isPerson_3 : decode cX5_isPerson 3 = .ok (.invokestatic 80, 3) := by decide +kernel
theorem dX5_isPerson_6 : decode cX5_isPerson 6 = .ok (.ireturn, 1) := by decide +kernel
set_option maxRecDepth 20000 in
theorem ggX5_isPiece_X5_isWithin : GoodIn wsX5_isPiece wsX5_isWithin := goodIn_r _ [6] (by decide +kernel) (by decide +kernel)
set_option maxRecDepth 20000 in
theorem gX5_isPiece_X5_isWithin : GoodIn wsX5_isPiece (va_wsS RX5 80 yX5_isWithin wsX5_isWithin) := goodIn_app (goodIn_of _ (by decide +kernel)) ggX5_isPiece_X5_isWithin
theorem dX5_isPiece_0 : decode cX5_isPiece 0 = .ok (.iload_n 1, 1) := by decide +kernel
theorem dX5_isPiece_1 : decode cX5_isPiece 1 = .ok (.iconst 0, 1) := by decide +kernel
theorem dX5_isPiece_2 : decode cX5_isPiece 2 = .ok (.aload_n 0, 1) := by decide +kernel
theorem dX5_isPiece_3 : decode cX5_isPiece 3 = .ok (.getfield 19, 3) := by decide +kernel
theorem dX5_isPiece_6 : decode cX5_isPiece 6 = .ok (.getfield 91, 3) := by decide +kernel
theorem dX5_isPiece_9 : decode cX5_isPiece 9 = .ok (.iconst 1, 1) := by decide +kernel
theorem dX5_isPiece_10 : decode cX5_isPiece 10 = .ok (.isub, 1) := by decide +kernel
theorem dX5_isPiece_11 : decode cX5_isPiece 11 = .ok (.invokestatic 80, 3) := by decide +kernel
theorem dX5_isPiece_14 : decode cX5_isPiece 14 = .ok (.ireturn, 1) := by decide +kernel
set_option maxRecDepth 20000 in
theorem ggX5_isDeed_X5_isWithin : GoodIn wsX5_isDeed wsX5_isWithin := goodIn_r _ [6] (by decide +kernel) (by decide +kernel)
set_option maxRecDepth 20000 in
theorem gX5_isDeed_X5_isWithin : GoodIn wsX5_isDeed (va_wsS RX5 80 yX5_isWithin wsX5_isWithin) := goodIn_app (goodIn_of _ (by decide +kernel)) ggX5_isDeed_X5_isWithin
theorem dX5_isDeed_0 : decode cX5_isDeed 0 = .ok (.iload_n 1, 1) := by decide +kernel
theorem dX5_isDeed_1 : decode cX5_isDeed 1 = .ok (.iconst 0, 1) := by decide +kernel
theorem dX5_isDeed_2 : decode cX5_isDeed 2 = .ok (.aload_n 0, 1) := by decide +kernel
theorem dX5_isDeed_3 : decode cX5_isDeed 3 = .ok (.getfield 19, 3) := by decide +kernel
theorem dX5_isDeed_6 : decode cX5_isDeed 6 = .ok (.getfield 220, 3) := by decide +kernel
theorem dX5_isDeed_9 : decode cX5_isDeed 9 = .ok (.iconst 1, 1) := by decide +kernel
theorem dX5_isDeed_10 : decode cX5_isDeed 10 = .ok (.isub, 1) := by decide +kernel
theorem dX5_isDeed_11 : decode cX5_isDeed 11 = .ok (.invokestatic 80, 3) := by decide +kernel
theorem dX5_isDeed_14 : decode cX5_isDeed 14 = .ok (.ireturn, 1) := by decide +kernel
theorem dX5_hasComeOut_0 : decode cX5_hasComeOut 0 = .ok (.aload_n 0, 1) := by decide +kernel
theorem dX5_hasComeOut_1 : decode cX5_hasComeOut 1 = .ok (.getfield 29, 3) := by decide +kernel
theorem dX5_hasComeOut_4 : decode cX5_hasComeOut 4 = .ok (.getfield 191, 3) := by decide +kernel
theorem dX5_hasComeOut_7 : decode cX5_hasComeOut 7 = .ok (.iload_n 1, 1) := by decide +kernel
theorem dX5_hasComeOut_8 : decode cX5_hasComeOut 8 = .ok (.ishr, 1) := by decide +kernel
theorem dX5_hasComeOut_9 : decode cX5_hasComeOut 9 = .ok (.iconst 1, 1) := by decide +kernel
theorem dX5_hasComeOut_10 : decode cX5_hasComeOut 10 = .ok (.iand, 1) := by decide +kernel
theorem dX5_hasComeOut_11 : decode cX5_hasComeOut 11 = .ok (.iconst 1, 1) := by decide +kernel
theorem dX5_hasComeOut_12 : decode cX5_hasComeOut 12 = .ok (.if_icmp .ne 7, 3) := by decide +kernel
theorem dX5_hasComeOut_15 : decode cX5_hasComeOut 15 = .ok (.iconst 1, 1) := by decide +kernel
theorem dX5_hasComeOut_16 : decode cX5_hasComeOut 16 = .ok (.goto 4, 3) := by decide +kernel
theorem dX5_hasComeOut_19 : decode cX5_hasComeOut 19 = .ok (.iconst 0, 1) := by decide +kernel
theorem dX5_hasComeOut_20 : decode cX5_hasComeOut 20 = .ok (.ireturn, 1) := by decide +kernel
set_option maxRecDepth 20000 in
theorem ggX5_isLoose_X4_howIs : GoodIn wsX5_isLoose wsX4_howIs := goodIn_r _ [7, 8, 9, 38, 39, 40, 41, 42] (by decide +kernel) (by decide +kernel)
set_option maxRecDepth 20000 in
theorem gX5_isLoose_X4_howIs : GoodIn wsX5_isLoose (wsV RX5 123 RX4 yX4_howIs wsX4_howIs) := goodIn_app (goodIn_of _ (by decide +kernel)) ggX5_isLoose_X4_howIs
set_option maxRecDepth 20000 in
theorem ggX5_isLoose_X0_forbids : GoodIn wsX5_isLoose wsX0_forbids := goodIn_r _ [14, 15, 26, 27, 28, 29, 30, 31, 32, 33, 34, 35, 36, 37] (by decide +kernel) (by decide +kernel)
set_option maxRecDepth 20000 in
theorem gX5_isLoose_X0_forbids : GoodIn wsX5_isLoose (wsV RX5 256 RX0 yX0_forbids wsX0_forbids) := goodIn_app (goodIn_of _ (by decide +kernel)) ggX5_isLoose_X0_forbids
theorem dX5_isLoose_0 : decode cX5_isLoose 0 = .ok (.aload_n 1, 1) := by decide +kernel
theorem dX5_isLoose_1 : decode cX5_isLoose 1 = .ok (.iload_n 2, 1) := by decide +kernel
theorem dX5_isLoose_2 : decode cX5_isLoose 2 = .ok (.invokevirtual 123, 3) := by decide +kernel
theorem dX5_isLoose_5 : decode cX5_isLoose 5 = .ok (.ifCond .ne 26, 3) := by decide +kernel
theorem dX5_isLoose_8 : decode cX5_isLoose 8 = .ok (.aload_n 0, 1) := by decide +kernel
