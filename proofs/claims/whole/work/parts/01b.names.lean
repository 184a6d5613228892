theorem dX0_init_0 : decode cX0_init 0 = .ok (.aload_n 0, 1) := by decide +kernel
theorem dX0_init_1 : decode cX0_init 1 = .ok (.invokespecial 3, 3) := by decide +kernel
theorem dX0_init_4 : decode cX0_init 4 = .ok (.aload_n 0, 1) := by decide +kernel
theorem dX0_init_5 : decode cX0_init 5 = .ok (.bipush 8, 2) := by decide +kernel
theorem dX0_init_7 : decode cX0_init 7 = .ok (.newarray .int, 2) := by decide +kernel
theorem dX0_init_9 : decode cX0_init 9 = .ok (.putfield 9, 3) := by decide +kernel
theorem dX0_init_12 : decode cX0_init 12 = .ok (.aload_n 0, 1) := by decide +kernel
theorem dX0_init_13 : decode cX0_init 13 = .ok (.bipush 8, 2) := by decide +kernel
theorem dX0_init_15 : decode cX0_init 15 = .ok (.newarray .int, 2) := by decide +kernel
theorem dX0_init_17 : decode cX0_init 17 = .ok (.putfield 15, 3) := by decide +kernel
theorem dX0_init_20 : decode cX0_init 20 = .ok (.aload_n 0, 1) := by decide +kernel
theorem dX0_init_21 : decode cX0_init 21 = .ok (.bipush 9, 2) := by decide +kernel
theorem dX0_init_23 : decode cX0_init 23 = .ok (.newarray .int, 2) := by decide +kernel
theorem dX0_init_25 : decode cX0_init 25 = .ok (.putfield 18, 3) := by decide +kernel
theorem dX0_init_28 : decode cX0_init 28 = .ok (.aload_n 0, 1) := by decide +kernel
theorem dX0_init_29 : decode cX0_init 29 = .ok (.bipush 9, 2) := by decide +kernel
theorem dX0_init_31 : decode cX0_init 31 = .ok (.newarray .int, 2) := by decide +kernel
theorem dX0_init_33 : decode cX0_init 33 = .ok (.putfield 21, 3) := by decide +kernel
theorem dX0_init_36 : decode cX0_init 36 = .ok (.aload_n 0, 1) := by decide +kernel
theorem dX0_init_37 : decode cX0_init 37 = .ok (.bipush 9, 2) := by decide +kernel
theorem dX0_init_39 : decode cX0_init 39 = .ok (.newarray .int, 2) := by decide +kernel
theorem dX0_init_41 : decode cX0_init 41 = .ok (.putfield 24, 3) := by decide +kernel
theorem dX0_init_44 : decode cX0_init 44 = .ok (.aload_n 0, 1) := by decide +kernel
theorem dX0_init_45 : decode cX0_init 45 = .ok (.bipush 9, 2) := by decide +kernel
theorem dX0_init_47 : decode cX0_init 47 = .ok (.newarray .int, 2) := by decide +kernel
theorem dX0_init_49 : decode cX0_init 49 = .ok (.putfield 27, 3) := by decide +kernel
theorem dX0_init_52 : decode cX0_init 52 = .ok (.aload_n 0, 1) := by decide +kernel
theorem dX0_init_53 : decode cX0_init 53 = .ok (.iconst 4, 1) := by decide +kernel
theorem dX0_init_54 : decode cX0_init 54 = .ok (.newarray .int, 2) := by decide +kernel
theorem dX0_init_56 : decode cX0_init 56 = .ok (.putfield 30, 3) := by decide +kernel
theorem dX0_init_59 : decode cX0_init 59 = .ok (.return_, 1) := by decide +kernel
set_option maxRecDepth 20000 in
theorem ggX0_readFrom_X0_readItem : GoodIn wsX0_readFrom wsX0_readItem := goodIn_r _ [11, 12, 13, 14, 15, 16, 17, 18, 19, 20, 21, 10, 22, 23, 24, 25, 26, 27, 28, 29, 30, 31, 32, 33, 34, 35, 36, 37, 38, 39, 1, 40, 3, 41, 42, 43, 44, 45, 2, 46, 47, 48, 49, 50, 51, 52, 53, 5, 54, 55, 56, 57, 4, 58, 59, 60, 61, 62, 63, 64, 65, 66, 67, 68, 69, 70, 71] (by decide +kernel) (by decide +kernel)
set_option maxRecDepth 20000 in
theorem gX0_readFrom_X0_readItem : GoodIn wsX0_readFrom (wsV RX0 54 RX0 yX0_readItem wsX0_readItem) := goodIn_app (goodIn_of _ (by decide +kernel)) ggX0_readFrom_X0_readItem
theorem dX0_readFrom_0 : decode cX0_readFrom 0 = .ok (.aload_n 0, 1) := by decide +kernel
theorem dX0_readFrom_1 : decode cX0_readFrom 1 = .ok (.iconst 0, 1) := by decide +kernel
theorem dX0_readFrom_2 : decode cX0_readFrom 2 = .ok (.putfield 33, 3) := by decide +kernel
theorem dX0_readFrom_5 : decode cX0_readFrom 5 = .ok (.aload_n 0, 1) := by decide +kernel
theorem dX0_readFrom_6 : decode cX0_readFrom 6 = .ok (.iconst 0, 1) := by decide +kernel
theorem dX0_readFrom_7 : decode cX0_readFrom 7 = .ok (.putfield 37, 3) := by decide +kernel
theorem dX0_readFrom_10 : decode cX0_readFrom 10 = .ok (.aload_n 0, 1) := by decide +kernel
theorem dX0_readFrom_11 : decode cX0_readFrom 11 = .ok (.iconst 0, 1) := by decide +kernel
theorem dX0_readFrom_12 : decode cX0_readFrom 12 = .ok (.putfield 40, 3) := by decide +kernel
theorem dX0_readFrom_15 : decode cX0_readFrom 15 = .ok (.aload_n 0, 1) := by decide +kernel
theorem dX0_readFrom_16 : decode cX0_readFrom 16 = .ok (.iconst 0, 1) := by decide +kernel
theorem dX0_readFrom_17 : decode cX0_readFrom 17 = .ok (.putfield 43, 3) := by decide +kernel
theorem dX0_readFrom_20 : decode cX0_readFrom 20 = .ok (.aload_n 0, 1) := by decide +kernel
theorem dX0_readFrom_21 : decode cX0_readFrom 21 = .ok (.bipush 50, 2) := by decide +kernel
theorem dX0_readFrom_23 : decode cX0_readFrom 23 = .ok (.putfield 46, 3) := by decide +kernel
theorem dX0_readFrom_26 : decode cX0_readFrom 26 = .ok (.iconst 0, 1) := by decide +kernel
theorem dX0_readFrom_27 : decode cX0_readFrom 27 = .ok (.istore_n 2, 1) := by decide +kernel
theorem dX0_readFrom_28 : decode cX0_readFrom 28 = .ok (.iload_n 2, 1) := by decide +kernel
theorem dX0_readFrom_29 : decode cX0_readFrom 29 = .ok (.aload_n 1, 1) := by decide +kernel
theorem dX0_readFrom_30 : decode cX0_readFrom 30 = .ok (.getfield 49, 3) := by decide +kernel
theorem dX0_readFrom_33 : decode cX0_readFrom 33 = .ok (.if_icmp .ge 22, 3) := by decide +kernel
theorem dX0_readFrom_36 : decode cX0_readFrom 36 = .ok (.aload_n 0, 1) := by decide +kernel
theorem dX0_readFrom_37 : decode cX0_readFrom 37 = .ok (.aload_n 1, 1) := by decide +kernel
theorem dX0_readFrom_38 : decode cX0_readFrom 38 = .ok (.iload_n 2, 1) := by decide +kernel
theorem dX0_readFrom_39 : decode cX0_readFrom 39 = .ok (.invokevirtual 54, 3) := by decide +kernel
theorem dX0_readFrom_42 : decode cX0_readFrom 42 = .ok (.istore_n 3, 1) := by decide +kernel
theorem dX0_readFrom_43 : decode cX0_readFrom 43 = .ok (.iload_n 3, 1) := by decide +kernel
theorem dX0_readFrom_44 : decode cX0_readFrom 44 = .ok (.iload_n 2, 1) := by decide +kernel
theorem dX0_readFrom_45 : decode cX0_readFrom 45 = .ok (.if_icmp .gt 5, 3) := by decide +kernel
theorem dX0_readFrom_48 : decode cX0_readFrom 48 = .ok (.iload_n 2, 1) := by decide +kernel
theorem dX0_readFrom_49 : decode cX0_readFrom 49 = .ok (.ireturn, 1) := by decide +kernel
theorem dX0_readFrom_50 : decode cX0_readFrom 50 = .ok (.iload_n 3, 1) := by decide +kernel
theorem dX0_readFrom_51 : decode cX0_readFrom 51 = .ok (.istore_n 2, 1) := by decide +kernel
theorem dX0_readFrom_52 : decode cX0_readFrom 52 = .ok (.goto (-24), 3) := by decide +kernel
theorem dX0_readFrom_55 : decode cX0_readFrom 55 = .ok (.bipush (-4), 2) := by decide +kernel
theorem dX0_readFrom_57 : decode cX0_readFrom 57 = .ok (.ireturn, 1) := by decide +kernel
set_option maxRecDepth 20000 in
theorem ggX0_readItem_X1_letterAt : GoodIn wsX0_readItem wsX1_letterAt := goodIn_r _ [6, 7, 8, 65, 66] (by decide +kernel) (by decide +kernel)
set_option maxRecDepth 20000 in
theorem gX0_readItem_X1_letterAt : GoodIn wsX0_readItem (wsV RX0 58 RX1 yX1_letterAt wsX1_letterAt) := goodIn_app (goodIn_of _ (by decide +kernel)) ggX0_readItem_X1_letterAt
set_option maxRecDepth 20000 in
theorem ggX0_readItem_X0_numbersBehind : GoodIn wsX0_readItem wsX0_numbersBehind := goodIn_r _ [12] (by decide +kernel) (by decide +kernel)
set_option maxRecDepth 20000 in
theorem gX0_readItem_X0_numbersBehind : GoodIn wsX0_readItem (va_wsS RX0 62 yX0_numbersBehind wsX0_numbersBehind) := goodIn_app (goodIn_of _ (by decide +kernel)) ggX0_readItem_X0_numbersBehind
set_option maxRecDepth 20000 in
theorem ggX0_readItem_X0_figuresAt : GoodIn wsX0_readItem wsX0_figuresAt := goodIn_r _ [15, 2, 3, 4, 5, 6, 7, 8, 16, 17, 11, 18, 65, 66] (by decide +kernel) (by decide +kernel)
set_option maxRecDepth 20000 in
theorem gX0_readItem_X0_figuresAt : GoodIn wsX0_readItem (va_wsS RX0 65 yX0_figuresAt wsX0_figuresAt) := goodIn_app (goodIn_of _ (by decide +kernel)) ggX0_readItem_X0_figuresAt
set_option maxRecDepth 20000 in
theorem ggX0_readItem_X0_numberAt : GoodIn wsX0_readItem wsX0_numberAt := goodIn_r _ [21, 2, 3, 4, 5, 6, 7, 8, 65, 66] (by decide +kernel) (by decide +kernel)
set_option maxRecDepth 20000 in
theorem gX0_readItem_X0_numberAt : GoodIn wsX0_readItem (va_wsS RX0 68 yX0_numberAt wsX0_numberAt) := goodIn_app (goodIn_of _ (by decide +kernel)) ggX0_readItem_X0_numberAt
set_option maxRecDepth 20000 in
theorem ggX0_readItem_X0_takeItem : GoodIn wsX0_readItem wsX0_takeItem := goodIn_r _ [25, 26, 27, 28, 11, 29, 30, 1, 31, 32, 33, 34, 35, 36, 37, 38, 39, 40, 41, 42, 43, 44, 45, 46, 47, 48, 49, 50, 51, 52, 53, 54, 55, 56, 57, 58, 59, 60, 61, 62, 63, 64] (by decide +kernel) (by decide +kernel)
set_option maxRecDepth 20000 in
theorem gX0_readItem_X0_takeItem : GoodIn wsX0_readItem (wsV RX0 72 RX0 yX0_takeItem wsX0_takeItem) := goodIn_app (goodIn_of _ (by decide +kernel)) ggX0_readItem_X0_takeItem
theorem dX0_readItem_0 : decode cX0_readItem 0 = .ok (.aload_n 1, 1) := by decide +kernel
theorem dX0_readItem_1 : decode cX0_readItem 1 = .ok (.iload_n 2, 1) := by decide +kernel
theorem dX0_readItem_2 : decode cX0_readItem 2 = .ok (.invokevirtual 58, 3) := by decide +kernel
theorem dX0_readItem_5 : decode cX0_readItem 5 = .ok (.istore_n 3, 1) := by decide +kernel
theorem dX0_readItem_6 : decode cX0_readItem 6 = .ok (.iload_n 3, 1) := by decide +kernel
theorem dX0_readItem_7 : decode cX0_readItem 7 = .ok (.invokestatic 62, 3) := by decide +kernel
theorem dX0_readItem_10 : decode cX0_readItem 10 = .ok (.istore 4, 2) := by decide +kernel
theorem dX0_readItem_12 : decode cX0_readItem 12 = .ok (.iload_n 2, 1) := by decide +kernel
theorem dX0_readItem_13 : decode cX0_readItem 13 = .ok (.iconst 1, 1) := by decide +kernel
theorem dX0_readItem_14 : decode cX0_readItem 14 = .ok (.iadd, 1) := by decide +kernel
theorem dX0_readItem_15 : decode cX0_readItem 15 = .ok (.istore 5, 2) := by decide +kernel
theorem dX0_readItem_17 : decode cX0_readItem 17 = .ok (.iconst 0, 1) := by decide +kernel
theorem dX0_readItem_18 : decode cX0_readItem 18 = .ok (.istore 6, 2) := by decide +kernel
theorem dX0_readItem_20 : decode cX0_readItem 20 = .ok (.iload 6, 2) := by decide +kernel
theorem dX0_readItem_22 : decode cX0_readItem 22 = .ok (.iload 4, 2) := by decide +kernel
theorem dX0_readItem_24 : decode cX0_readItem 24 = .ok (.if_icmp .ge 76, 3) := by decide +kernel
theorem dX0_readItem_27 : decode cX0_readItem 27 = .ok (.aload_n 1, 1) := by decide +kernel
theorem dX0_readItem_28 : decode cX0_readItem 28 = .ok (.iload 5, 2) := by decide +kernel
theorem dX0_readItem_30 : decode cX0_readItem 30 = .ok (.invokestatic 65, 3) := by decide +kernel
theorem dX0_readItem_33 : decode cX0_readItem 33 = .ok (.istore 7, 2) := by decide +kernel
theorem dX0_readItem_35 : decode cX0_readItem 35 = .ok (.iload 7, 2) := by decide +kernel
theorem dX0_readItem_37 : decode cX0_readItem 37 = .ok (.ifCond .ne 5, 3) := by decide +kernel
theorem dX0_readItem_40 : decode cX0_readItem 40 = .ok (.iconst (-1), 1) := by decide +kernel
theorem dX0_readItem_41 : decode cX0_readItem 41 = .ok (.ireturn, 1) := by decide +kernel
theorem dX0_readItem_42 : decode cX0_readItem 42 = .ok (.aload_n 0, 1) := by decide +kernel
theorem dX0_readItem_43 : decode cX0_readItem 43 = .ok (.getfield 30, 3) := by decide +kernel
theorem dX0_readItem_46 : decode cX0_readItem 46 = .ok (.iload 6, 2) := by decide +kernel
theorem dX0_readItem_48 : decode cX0_readItem 48 = .ok (.aload_n 1, 1) := by decide +kernel
theorem dX0_readItem_49 : decode cX0_readItem 49 = .ok (.iload 5, 2) := by decide +kernel
theorem dX0_readItem_51 : decode cX0_readItem 51 = .ok (.iload 7, 2) := by decide +kernel
theorem dX0_readItem_53 : decode cX0_readItem 53 = .ok (.invokestatic 68, 3) := by decide +kernel
theorem dX0_readItem_56 : decode cX0_readItem 56 = .ok (.iastore, 1) := by decide +kernel
theorem dX0_readItem_57 : decode cX0_readItem 57 = .ok (.iload 5, 2) := by decide +kernel
theorem dX0_readItem_59 : decode cX0_readItem 59 = .ok (.iload 7, 2) := by decide +kernel
theorem dX0_readItem_61 : decode cX0_readItem 61 = .ok (.iadd, 1) := by decide +kernel
theorem dX0_readItem_62 : decode cX0_readItem 62 = .ok (.istore 5, 2) := by decide +kernel
theorem dX0_readItem_64 : decode cX0_readItem 64 = .ok (.aload_n 1, 1) := by decide +kernel
theorem dX0_readItem_65 : decode cX0_readItem 65 = .ok (.iload 5, 2) := by decide +kernel
theorem dX0_readItem_67 : decode cX0_readItem 67 = .ok (.invokevirtual 58, 3) := by decide +kernel
theorem dX0_readItem_70 : decode cX0_readItem 70 = .ok (.iload 6, 2) := by decide +kernel
theorem dX0_readItem_72 : decode cX0_readItem 72 = .ok (.iconst 1, 1) := by decide +kernel
theorem dX0_readItem_73 : decode cX0_readItem 73 = .ok (.iadd, 1) := by decide +kernel
theorem dX0_readItem_74 : decode cX0_readItem 74 = .ok (.iload 4, 2) := by decide +kernel
theorem dX0_readItem_76 : decode cX0_readItem 76 = .ok (.if_icmp .ge 8, 3) := by decide +kernel
theorem dX0_readItem_79 : decode cX0_readItem 79 = .ok (.bipush 44, 2) := by decide +kernel
theorem dX0_readItem_81 : decode cX0_readItem 81 = .ok (.goto 5, 3) := by decide +kernel
theorem dX0_readItem_84 : decode cX0_readItem 84 = .ok (.bipush 59, 2) := by decide +kernel
theorem dX0_readItem_86 : decode cX0_readItem 86 = .ok (.if_icmp .eq 5, 3) := by decide +kernel
theorem dX0_readItem_89 : decode cX0_readItem 89 = .ok (.iconst (-1), 1) := by decide +kernel
theorem dX0_readItem_90 : decode cX0_readItem 90 = .ok (.ireturn, 1) := by decide +kernel
theorem dX0_readItem_91 : decode cX0_readItem 91 = .ok (.iinc 5 1, 3) := by decide +kernel
theorem dX0_readItem_94 : decode cX0_readItem 94 = .ok (.iinc 6 1, 3) := by decide +kernel
theorem dX0_readItem_97 : decode cX0_readItem 97 = .ok (.goto (-77), 3) := by decide +kernel
theorem dX0_readItem_100 : decode cX0_readItem 100 = .ok (.aload_n 0, 1) := by decide +kernel
theorem dX0_readItem_101 : decode cX0_readItem 101 = .ok (.iload_n 3, 1) := by decide +kernel
theorem dX0_readItem_102 : decode cX0_readItem 102 = .ok (.invokevirtual 72, 3) := by decide +kernel
theorem dX0_readItem_105 : decode cX0_readItem 105 = .ok (.ifCond .eq 8, 3) := by decide +kernel
theorem dX0_readItem_108 : decode cX0_readItem 108 = .ok (.iload 5, 2) := by decide +kernel
theorem dX0_readItem_110 : decode cX0_readItem 110 = .ok (.goto 4, 3) := by decide +kernel
theorem dX0_readItem_113 : decode cX0_readItem 113 = .ok (.iconst (-1), 1) := by decide +kernel
theorem dX0_readItem_114 : decode cX0_readItem 114 = .ok (.ireturn, 1) := by decide +kernel
theorem dX0_numbersBehind_0 : decode cX0_numbersBehind 0 = .ok (.iload_n 0, 1) := by decide +kernel
theorem dX0_numbersBehind_1 : decode cX0_numbersBehind 1 = .ok (.lookupswitch 51 #[(100, 45), (108, 49), (109, 47), (112, 43)], 43) := by decide +kernel
theorem dX0_numbersBehind_44 : decode cX0_numbersBehind 44 = .ok (.iconst 3, 1) := by decide +kernel
theorem dX0_numbersBehind_45 : decode cX0_numbersBehind 45 = .ok (.ireturn, 1) := by decide +kernel
theorem dX0_numbersBehind_46 : decode cX0_numbersBehind 46 = .ok (.iconst 4, 1) := by decide +kernel
theorem dX0_numbersBehind_47 : decode cX0_numbersBehind 47 = .ok (.ireturn, 1) := by decide +kernel
theorem dX0_numbersBehind_48 : decode cX0_numbersBehind 48 = .ok (.iconst 1, 1) := by decide +kernel
theorem dX0_numbersBehind_49 : decode cX0_numbersBehind 49 = .ok (.ireturn, 1) := by decide +kernel
theorem dX0_numbersBehind_50 : decode cX0_numbersBehind 50 = .ok (.iconst 1, 1) := by decide +kernel
theorem dX0_numbersBehind_51 : decode cX0_numbersBehind 51 = .ok (.ireturn, 1) := by decide +kernel
theorem dX0_numbersBehind_52 : decode cX0_numbersBehind 52 = .ok (.iconst 0, 1) := by decide +kernel
theorem dX0_numbersBehind_53 : decode cX0_numbersBehind 53 = .ok (.ireturn, 1) := by decide +kernel
theorem dX0_isFigure_0 : decode cX0_isFigure 0 = .ok (.iload_n 0, 1) := by decide +kernel
theorem dX0_isFigure_1 : decode cX0_isFigure 1 = .ok (.bipush 48, 2) := by decide +kernel
theorem dX0_isFigure_3 : decode cX0_isFigure 3 = .ok (.if_icmp .lt 13, 3) := by decide +kernel
theorem dX0_isFigure_6 : decode cX0_isFigure 6 = .ok (.iload_n 0, 1) := by decide +kernel
theorem dX0_isFigure_7 : decode cX0_isFigure 7 = .ok (.bipush 57, 2) := by decide +kernel
theorem dX0_isFigure_9 : decode cX0_isFigure 9 = .ok (.if_icmp .gt 7, 3) := by decide +kernel
theorem dX0_isFigure_12 : decode cX0_isFigure 12 = .ok (.iconst 1, 1) := by decide +kernel
theorem dX0_isFigure_13 : decode cX0_isFigure 13 = .ok (.goto 4, 3) := by decide +kernel
theorem dX0_isFigure_16 : decode cX0_isFigure 16 = .ok (.iconst 0, 1) := by decide +kernel
theorem dX0_isFigure_17 : decode cX0_isFigure 17 = .ok (.ireturn, 1) := by decide +kernel
set_option maxRecDepth 20000 in
theorem ggX0_figuresAt_X1_letterAt : GoodIn wsX0_figuresAt wsX1_letterAt := goodIn_r _ [5, 6, 7, 12, 13] (by decide +kernel) (by decide +kernel)
set_option maxRecDepth 20000 in
theorem gX0_figuresAt_X1_letterAt : GoodIn wsX0_figuresAt (wsV RX0 58 RX1 yX1_letterAt wsX1_letterAt) := goodIn_app (goodIn_of _ (by decide +kernel)) ggX0_figuresAt_X1_letterAt
set_option maxRecDepth 20000 in
theorem ggX0_figuresAt_X0_isFigure : GoodIn wsX0_figuresAt wsX0_isFigure := goodIn_r _ [11] (by decide +kernel) (by decide +kernel)
set_option maxRecDepth 20000 in
theorem gX0_figuresAt_X0_isFigure : GoodIn wsX0_figuresAt (va_wsS RX0 76 yX0_isFigure wsX0_isFigure) := goodIn_app (goodIn_of _ (by decide +kernel)) ggX0_figuresAt_X0_isFigure
theorem dX0_figuresAt_0 : decode cX0_figuresAt 0 = .ok (.aload_n 0, 1) := by decide +kernel
theorem dX0_figuresAt_1 : decode cX0_figuresAt 1 = .ok (.iload_n 1, 1) := by decide +kernel
theorem dX0_figuresAt_2 : decode cX0_figuresAt 2 = .ok (.invokevirtual 58, 3) := by decide +kernel
theorem dX0_figuresAt_5 : decode cX0_figuresAt 5 = .ok (.invokestatic 76, 3) := by decide +kernel
theorem dX0_figuresAt_8 : decode cX0_figuresAt 8 = .ok (.ifCond .ne 5, 3) := by decide +kernel
theorem dX0_figuresAt_11 : decode cX0_figuresAt 11 = .ok (.iconst 0, 1) := by decide +kernel
theorem dX0_figuresAt_12 : decode cX0_figuresAt 12 = .ok (.ireturn, 1) := by decide +kernel
theorem dX0_figuresAt_13 : decode cX0_figuresAt 13 = .ok (.aload_n 0, 1) := by decide +kernel
theorem dX0_figuresAt_14 : decode cX0_figuresAt 14 = .ok (.iload_n 1, 1) := by decide +kernel
theorem dX0_figuresAt_15 : decode cX0_figuresAt 15 = .ok (.iconst 1, 1) := by decide +kernel
theorem dX0_figuresAt_16 : decode cX0_figuresAt 16 = .ok (.iadd, 1) := by decide +kernel
theorem dX0_figuresAt_17 : decode cX0_figuresAt 17 = .ok (.invokevirtual 58, 3) := by decide +kernel
theorem dX0_figuresAt_20 : decode cX0_figuresAt 20 = .ok (.invokestatic 76, 3) := by decide +kernel
theorem dX0_figuresAt_23 : decode cX0_figuresAt 23 = .ok (.ifCond .eq 7, 3) := by decide +kernel
theorem dX0_figuresAt_26 : decode cX0_figuresAt 26 = .ok (.iconst 2, 1) := by decide +kernel
theorem dX0_figuresAt_27 : decode cX0_figuresAt 27 = .ok (.goto 4, 3) := by decide +kernel
theorem dX0_figuresAt_30 : decode cX0_figuresAt 30 = .ok (.iconst 1, 1) := by decide +kernel
theorem dX0_figuresAt_31 : decode cX0_figuresAt 31 = .ok (.ireturn, 1) := by decide +kernel
set_option maxRecDepth 20000 in
theorem ggX0_numberAt_X1_letterAt : GoodIn wsX0_numberAt wsX1_letterAt := goodIn_r _ [5, 6, 7, 8, 9] (by decide +kernel) (by decide +kernel)
set_option maxRecDepth 20000 in
theorem gX0_numberAt_X1_letterAt : GoodIn wsX0_numberAt (wsV RX0 58 RX1 yX1_letterAt wsX1_letterAt) := goodIn_app (goodIn_of _ (by decide +kernel)) ggX0_numberAt_X1_letterAt
theorem dX0_numberAt_0 : decode cX0_numberAt 0 = .ok (.aload_n 0, 1) := by decide +kernel
theorem dX0_numberAt_1 : decode cX0_numberAt 1 = .ok (.iload_n 1, 1) := by decide +kernel
theorem dX0_numberAt_2 : decode cX0_numberAt 2 = .ok (.invokevirtual 58, 3) := by decide +kernel
theorem dX0_numberAt_5 : decode cX0_numberAt 5 = .ok (.bipush 48, 2) := by decide +kernel
theorem dX0_numberAt_7 : decode cX0_numberAt 7 = .ok (.isub, 1) := by decide +kernel
theorem dX0_numberAt_8 : decode cX0_numberAt 8 = .ok (.istore_n 3, 1) := by decide +kernel
theorem dX0_numberAt_9 : decode cX0_numberAt 9 = .ok (.iload_n 2, 1) := by decide +kernel
theorem dX0_numberAt_10 : decode cX0_numberAt 10 = .ok (.iconst 2, 1) := by decide +kernel
theorem dX0_numberAt_11 : decode cX0_numberAt 11 = .ok (.if_icmp .ne 21, 3) := by decide +kernel
theorem dX0_numberAt_14 : decode cX0_numberAt 14 = .ok (.iload_n 3, 1) := by decide +kernel
theorem dX0_numberAt_15 : decode cX0_numberAt 15 = .ok (.bipush 10, 2) := by decide +kernel
theorem dX0_numberAt_17 : decode cX0_numberAt 17 = .ok (.imul, 1) := by decide +kernel
theorem dX0_numberAt_18 : decode cX0_numberAt 18 = .ok (.aload_n 0, 1) := by decide +kernel
theorem dX0_numberAt_19 : decode cX0_numberAt 19 = .ok (.iload_n 1, 1) := by decide +kernel
theorem dX0_numberAt_20 : decode cX0_numberAt 20 = .ok (.iconst 1, 1) := by decide +kernel
theorem dX0_numberAt_21 : decode cX0_numberAt 21 = .ok (.iadd, 1) := by decide +kernel
theorem dX0_numberAt_22 : decode cX0_numberAt 22 = .ok (.invokevirtual 58, 3) := by decide +kernel
theorem dX0_numberAt_25 : decode cX0_numberAt 25 = .ok (.iadd, 1) := by decide +kernel
theorem dX0_numberAt_26 : decode cX0_numberAt 26 = .ok (.bipush 48, 2) := by decide +kernel
theorem dX0_numberAt_28 : decode cX0_numberAt 28 = .ok (.isub, 1) := by decide +kernel
theorem dX0_numberAt_29 : decode cX0_numberAt 29 = .ok (.goto 4, 3) := by decide +kernel
theorem dX0_numberAt_32 : decode cX0_numberAt 32 = .ok (.iload_n 3, 1) := by decide +kernel
theorem dX0_numberAt_33 : decode cX0_numberAt 33 = .ok (.ireturn, 1) := by decide +kernel
set_option maxRecDepth 20000 in
theorem ggX0_takeItem_X0_takePiece : GoodIn wsX0_takeItem wsX0_takePiece := goodIn_r _ [5, 6, 7, 8, 9, 10, 30, 31, 32, 33, 34, 35, 36, 37, 38, 39, 40, 41] (by decide +kernel) (by decide +kernel)
set_option maxRecDepth 20000 in
theorem gX0_takeItem_X0_takePiece : GoodIn wsX0_takeItem (wsV RX0 79 RX0 yX0_takePiece wsX0_takePiece) := goodIn_app (goodIn_of _ (by decide +kernel)) ggX0_takeItem_X0_takePiece
set_option maxRecDepth 20000 in
theorem ggX0_takeItem_X0_takeDeed : GoodIn wsX0_takeItem wsX0_takeDeed := goodIn_r _ [14, 15, 7, 16, 17, 18, 19, 30, 31, 32, 33, 34, 35, 36, 37, 38, 39, 40, 41] (by decide +kernel) (by decide +kernel)
set_option maxRecDepth 20000 in
theorem gX0_takeItem_X0_takeDeed : GoodIn wsX0_takeItem (wsV RX0 83 RX0 yX0_takeDeed wsX0_takeDeed) := goodIn_app (goodIn_of _ (by decide +kernel)) ggX0_takeItem_X0_takeDeed
set_option maxRecDepth 20000 in
theorem ggX0_takeItem_X0_takeCoins : GoodIn wsX0_takeItem wsX0_takeCoins := goodIn_r _ [23, 7, 24, 30, 31, 32, 33, 34, 35, 36, 37, 38, 39, 40, 41] (by decide +kernel) (by decide +kernel)
set_option maxRecDepth 20000 in
theorem gX0_takeItem_X0_takeCoins : GoodIn wsX0_takeItem (wsV RX0 86 RX0 yX0_takeCoins wsX0_takeCoins) := goodIn_app (goodIn_of _ (by decide +kernel)) ggX0_takeItem_X0_takeCoins
set_option maxRecDepth 20000 in
theorem ggX0_takeItem_X0_takeLaw : GoodIn wsX0_takeItem wsX0_takeLaw := goodIn_r _ [28, 7, 29, 30, 31, 32, 33, 34, 35, 36, 37, 38, 39, 40, 41] (by decide +kernel) (by decide +kernel)
set_option maxRecDepth 20000 in
theorem gX0_takeItem_X0_takeLaw : GoodIn wsX0_takeItem (wsV RX0 89 RX0 yX0_takeLaw wsX0_takeLaw) := goodIn_app (goodIn_of _ (by decide +kernel)) ggX0_takeItem_X0_takeLaw
theorem dX0_takeItem_0 : decode cX0_takeItem 0 = .ok (.iload_n 1, 1) := by decide +kernel
theorem dX0_takeItem_1 : decode cX0_takeItem 1 = .ok (.lookupswitch 63 #[(100, 48), (108, 58), (109, 53), (112, 43)], 43) := by decide +kernel
theorem dX0_takeItem_44 : decode cX0_takeItem 44 = .ok (.aload_n 0, 1) := by decide +kernel
theorem dX0_takeItem_45 : decode cX0_takeItem 45 = .ok (.invokevirtual 79, 3) := by decide +kernel
theorem dX0_takeItem_48 : decode cX0_takeItem 48 = .ok (.ireturn, 1) := by decide +kernel
theorem dX0_takeItem_49 : decode cX0_takeItem 49 = .ok (.aload_n 0, 1) := by decide +kernel
theorem dX0_takeItem_50 : decode cX0_takeItem 50 = .ok (.invokevirtual 83, 3) := by decide +kernel
theorem dX0_takeItem_53 : decode cX0_takeItem 53 = .ok (.ireturn, 1) := by decide +kernel
theorem dX0_takeItem_54 : decode cX0_takeItem 54 = .ok (.aload_n 0, 1) := by decide +kernel
theorem dX0_takeItem_55 : decode cX0_takeItem 55 = .ok (.invokevirtual 86, 3) := by decide +kernel
theorem dX0_takeItem_58 : decode cX0_takeItem 58 = .ok (.ireturn, 1) := by decide +kernel
theorem dX0_takeItem_59 : decode cX0_takeItem 59 = .ok (.aload_n 0, 1) := by decide +kernel
theorem dX0_takeItem_60 : decode cX0_takeItem 60 = .ok (.invokevirtual 89, 3) := by decide +kernel
theorem dX0_takeItem_63 : decode cX0_takeItem 63 = .ok (.ireturn, 1) := by decide +kernel
theorem dX0_takeItem_64 : decode cX0_takeItem 64 = .ok (.iconst 0, 1) := by decide +kernel
theorem dX0_takeItem_65 : decode cX0_takeItem 65 = .ok (.ireturn, 1) := by decide +kernel
theorem dX0_takePiece_0 : decode cX0_takePiece 0 = .ok (.aload_n 0, 1) := by decide +kernel
theorem dX0_takePiece_1 : decode cX0_takePiece 1 = .ok (.getfield 33, 3) := by decide +kernel
theorem dX0_takePiece_4 : decode cX0_takePiece 4 = .ok (.bipush 8, 2) := by decide +kernel
theorem dX0_takePiece_6 : decode cX0_takePiece 6 = .ok (.if_icmp .ge 34, 3) := by decide +kernel
theorem dX0_takePiece_9 : decode cX0_takePiece 9 = .ok (.aload_n 0, 1) := by decide +kernel
theorem dX0_takePiece_10 : decode cX0_takePiece 10 = .ok (.getfield 30, 3) := by decide +kernel
theorem dX0_takePiece_13 : decode cX0_takePiece 13 = .ok (.iconst 0, 1) := by decide +kernel
theorem dX0_takePiece_14 : decode cX0_takePiece 14 = .ok (.iaload, 1) := by decide +kernel
theorem dX0_takePiece_15 : decode cX0_takePiece 15 = .ok (.iconst 4, 1) := by decide +kernel
theorem dX0_takePiece_16 : decode cX0_takePiece 16 = .ok (.if_icmp .ge 24, 3) := by decide +kernel
theorem dX0_takePiece_19 : decode cX0_takePiece 19 = .ok (.aload_n 0, 1) := by decide +kernel
theorem dX0_takePiece_20 : decode cX0_takePiece 20 = .ok (.getfield 30, 3) := by decide +kernel
theorem dX0_takePiece_23 : decode cX0_takePiece 23 = .ok (.iconst 1, 1) := by decide +kernel
theorem dX0_takePiece_24 : decode cX0_takePiece 24 = .ok (.iaload, 1) := by decide +kernel
theorem dX0_takePiece_25 : decode cX0_takePiece 25 = .ok (.iconst 4, 1) := by decide +kernel
theorem dX0_takePiece_26 : decode cX0_takePiece 26 = .ok (.if_icmp .ge 14, 3) := by decide +kernel
theorem dX0_takePiece_29 : decode cX0_takePiece 29 = .ok (.aload_n 0, 1) := by decide +kernel
theorem dX0_takePiece_30 : decode cX0_takePiece 30 = .ok (.getfield 30, 3) := by decide +kernel
theorem dX0_takePiece_33 : decode cX0_takePiece 33 = .ok (.iconst 2, 1) := by decide +kernel
theorem dX0_takePiece_34 : decode cX0_takePiece 34 = .ok (.iaload, 1) := by decide +kernel
theorem dX0_takePiece_35 : decode cX0_takePiece 35 = .ok (.bipush 60, 2) := by decide +kernel
theorem dX0_takePiece_37 : decode cX0_takePiece 37 = .ok (.if_icmp .le 5, 3) := by decide +kernel
theorem dX0_takePiece_40 : decode cX0_takePiece 40 = .ok (.iconst 0, 1) := by decide +kernel
theorem dX0_takePiece_41 : decode cX0_takePiece 41 = .ok (.ireturn, 1) := by decide +kernel
theorem dX0_takePiece_42 : decode cX0_takePiece 42 = .ok (.aload_n 0, 1) := by decide +kernel
theorem dX0_takePiece_43 : decode cX0_takePiece 43 = .ok (.getfield 9, 3) := by decide +kernel
theorem dX0_takePiece_46 : decode cX0_takePiece 46 = .ok (.aload_n 0, 1) := by decide +kernel
theorem dX0_takePiece_47 : decode cX0_takePiece 47 = .ok (.getfield 33, 3) := by decide +kernel
theorem dX0_takePiece_50 : decode cX0_takePiece 50 = .ok (.aload_n 0, 1) := by decide +kernel
theorem dX0_takePiece_51 : decode cX0_takePiece 51 = .ok (.getfield 30, 3) := by decide +kernel
theorem dX0_takePiece_54 : decode cX0_takePiece 54 = .ok (.iconst 0, 1) := by decide +kernel
theorem dX0_takePiece_55 : decode cX0_takePiece 55 = .ok (.iaload, 1) := by decide +kernel
theorem dX0_takePiece_56 : decode cX0_takePiece 56 = .ok (.iastore, 1) := by decide +kernel
theorem dX0_takePiece_57 : decode cX0_takePiece 57 = .ok (.aload_n 0, 1) := by decide +kernel
theorem dX0_takePiece_58 : decode cX0_takePiece 58 = .ok (.dup, 1) := by decide +kernel
theorem dX0_takePiece_59 : decode cX0_takePiece 59 = .ok (.getfield 40, 3) := by decide +kernel
theorem dX0_takePiece_62 : decode cX0_takePiece 62 = .ok (.aload_n 0, 1) := by decide +kernel
theorem dX0_takePiece_63 : decode cX0_takePiece 63 = .ok (.getfield 30, 3) := by decide +kernel
theorem dX0_takePiece_66 : decode cX0_takePiece 66 = .ok (.iconst 1, 1) := by decide +kernel
theorem dX0_takePiece_67 : decode cX0_takePiece 67 = .ok (.iaload, 1) := by decide +kernel
theorem dX0_takePiece_68 : decode cX0_takePiece 68 = .ok (.iconst 2, 1) := by decide +kernel
theorem dX0_takePiece_69 : decode cX0_takePiece 69 = .ok (.aload_n 0, 1) := by decide +kernel
theorem dX0_takePiece_70 : decode cX0_takePiece 70 = .ok (.getfield 33, 3) := by decide +kernel
theorem dX0_takePiece_73 : decode cX0_takePiece 73 = .ok (.imul, 1) := by decide +kernel
theorem dX0_takePiece_74 : decode cX0_takePiece 74 = .ok (.ishl, 1) := by decide +kernel
theorem dX0_takePiece_75 : decode cX0_takePiece 75 = .ok (.ior, 1) := by decide +kernel
theorem dX0_takePiece_76 : decode cX0_takePiece 76 = .ok (.putfield 40, 3) := by decide +kernel
theorem dX0_takePiece_79 : decode cX0_takePiece 79 = .ok (.aload_n 0, 1) := by decide +kernel
theorem dX0_takePiece_80 : decode cX0_takePiece 80 = .ok (.getfield 15, 3) := by decide +kernel
theorem dX0_takePiece_83 : decode cX0_takePiece 83 = .ok (.aload_n 0, 1) := by decide +kernel
theorem dX0_takePiece_84 : decode cX0_takePiece 84 = .ok (.getfield 33, 3) := by decide +kernel
theorem dX0_takePiece_87 : decode cX0_takePiece 87 = .ok (.aload_n 0, 1) := by decide +kernel
theorem dX0_takePiece_88 : decode cX0_takePiece 88 = .ok (.getfield 30, 3) := by decide +kernel
theorem dX0_takePiece_91 : decode cX0_takePiece 91 = .ok (.iconst 2, 1) := by decide +kernel
theorem dX0_takePiece_92 : decode cX0_takePiece 92 = .ok (.iaload, 1) := by decide +kernel
theorem dX0_takePiece_93 : decode cX0_takePiece 93 = .ok (.iastore, 1) := by decide +kernel
theorem dX0_takePiece_94 : decode cX0_takePiece 94 = .ok (.aload_n 0, 1) := by decide +kernel
theorem dX0_takePiece_95 : decode cX0_takePiece 95 = .ok (.dup, 1) := by decide +kernel
theorem dX0_takePiece_96 : decode cX0_takePiece 96 = .ok (.getfield 33, 3) := by decide +kernel
theorem dX0_takePiece_99 : decode cX0_takePiece 99 = .ok (.iconst 1, 1) := by decide +kernel
theorem dX0_takePiece_100 : decode cX0_takePiece 100 = .ok (.iadd, 1) := by decide +kernel
theorem dX0_takePiece_101 : decode cX0_takePiece 101 = .ok (.putfield 33, 3) := by decide +kernel
theorem dX0_takePiece_104 : decode cX0_takePiece 104 = .ok (.iconst 1, 1) := by decide +kernel
theorem dX0_takePiece_105 : decode cX0_takePiece 105 = .ok (.ireturn, 1) := by decide +kernel
theorem dX0_takeDeed_0 : decode cX0_takeDeed 0 = .ok (.aload_n 0, 1) := by decide +kernel
theorem dX0_takeDeed_1 : decode cX0_takeDeed 1 = .ok (.getfield 37, 3) := by decide +kernel
theorem dX0_takeDeed_4 : decode cX0_takeDeed 4 = .ok (.bipush 9, 2) := by decide +kernel
theorem dX0_takeDeed_6 : decode cX0_takeDeed 6 = .ok (.if_icmp .ge 56, 3) := by decide +kernel
theorem dX0_takeDeed_9 : decode cX0_takeDeed 9 = .ok (.aload_n 0, 1) := by decide +kernel
theorem dX0_takeDeed_10 : decode cX0_takeDeed 10 = .ok (.getfield 30, 3) := by decide +kernel
theorem dX0_takeDeed_13 : decode cX0_takeDeed 13 = .ok (.iconst 0, 1) := by decide +kernel
theorem dX0_takeDeed_14 : decode cX0_takeDeed 14 = .ok (.iaload, 1) := by decide +kernel
theorem dX0_takeDeed_15 : decode cX0_takeDeed 15 = .ok (.bipush 6, 2) := by decide +kernel
theorem dX0_takeDeed_17 : decode cX0_takeDeed 17 = .ok (.if_icmp .ge 45, 3) := by decide +kernel
theorem dX0_takeDeed_20 : decode cX0_takeDeed 20 = .ok (.aload_n 0, 1) := by decide +kernel
theorem dX0_takeDeed_21 : decode cX0_takeDeed 21 = .ok (.getfield 30, 3) := by decide +kernel
theorem dX0_takeDeed_24 : decode cX0_takeDeed 24 = .ok (.iconst 1, 1) := by decide +kernel
theorem dX0_takeDeed_25 : decode cX0_takeDeed 25 = .ok (.iaload, 1) := by decide +kernel
theorem dX0_takeDeed_26 : decode cX0_takeDeed 26 = .ok (.iconst 4, 1) := by decide +kernel
theorem dX0_takeDeed_27 : decode cX0_takeDeed 27 = .ok (.if_icmp .ge 35, 3) := by decide +kernel
theorem dX0_takeDeed_30 : decode cX0_takeDeed 30 = .ok (.aload_n 0, 1) := by decide +kernel
theorem dX0_takeDeed_31 : decode cX0_takeDeed 31 = .ok (.getfield 30, 3) := by decide +kernel
theorem dX0_takeDeed_34 : decode cX0_takeDeed 34 = .ok (.iconst 2, 1) := by decide +kernel
theorem dX0_takeDeed_35 : decode cX0_takeDeed 35 = .ok (.iaload, 1) := by decide +kernel
theorem dX0_takeDeed_36 : decode cX0_takeDeed 36 = .ok (.bipush 24, 2) := by decide +kernel
theorem dX0_takeDeed_38 : decode cX0_takeDeed 38 = .ok (.if_icmp .ge 24, 3) := by decide +kernel
theorem dX0_takeDeed_41 : decode cX0_takeDeed 41 = .ok (.aload_n 0, 1) := by decide +kernel
theorem dX0_takeDeed_42 : decode cX0_takeDeed 42 = .ok (.getfield 30, 3) := by decide +kernel
theorem dX0_takeDeed_45 : decode cX0_takeDeed 45 = .ok (.iconst 3, 1) := by decide +kernel
theorem dX0_takeDeed_46 : decode cX0_takeDeed 46 = .ok (.iaload, 1) := by decide +kernel
theorem dX0_takeDeed_47 : decode cX0_takeDeed 47 = .ok (.iconst 1, 1) := by decide +kernel
theorem dX0_takeDeed_48 : decode cX0_takeDeed 48 = .ok (.if_icmp .lt 14, 3) := by decide +kernel
theorem dX0_takeDeed_51 : decode cX0_takeDeed 51 = .ok (.aload_n 0, 1) := by decide +kernel
theorem dX0_takeDeed_52 : decode cX0_takeDeed 52 = .ok (.getfield 30, 3) := by decide +kernel
theorem dX0_takeDeed_55 : decode cX0_takeDeed 55 = .ok (.iconst 3, 1) := by decide +kernel
theorem dX0_takeDeed_56 : decode cX0_takeDeed 56 = .ok (.iaload, 1) := by decide +kernel
theorem dX0_takeDeed_57 : decode cX0_takeDeed 57 = .ok (.bipush 30, 2) := by decide +kernel
theorem dX0_takeDeed_59 : decode cX0_takeDeed 59 = .ok (.if_icmp .le 5, 3) := by decide +kernel
theorem dX0_takeDeed_62 : decode cX0_takeDeed 62 = .ok (.iconst 0, 1) := by decide +kernel
theorem dX0_takeDeed_63 : decode cX0_takeDeed 63 = .ok (.ireturn, 1) := by decide +kernel
theorem dX0_takeDeed_64 : decode cX0_takeDeed 64 = .ok (.aload_n 0, 1) := by decide +kernel
theorem dX0_takeDeed_65 : decode cX0_takeDeed 65 = .ok (.getfield 18, 3) := by decide +kernel
theorem dX0_takeDeed_68 : decode cX0_takeDeed 68 = .ok (.aload_n 0, 1) := by decide +kernel
theorem dX0_takeDeed_69 : decode cX0_takeDeed 69 = .ok (.getfield 37, 3) := by decide +kernel
theorem dX0_takeDeed_72 : decode cX0_takeDeed 72 = .ok (.aload_n 0, 1) := by decide +kernel
theorem dX0_takeDeed_73 : decode cX0_takeDeed 73 = .ok (.getfield 30, 3) := by decide +kernel
theorem dX0_takeDeed_76 : decode cX0_takeDeed 76 = .ok (.iconst 0, 1) := by decide +kernel
theorem dX0_takeDeed_77 : decode cX0_takeDeed 77 = .ok (.iaload, 1) := by decide +kernel
theorem dX0_takeDeed_78 : decode cX0_takeDeed 78 = .ok (.iastore, 1) := by decide +kernel
theorem dX0_takeDeed_79 : decode cX0_takeDeed 79 = .ok (.aload_n 0, 1) := by decide +kernel
theorem dX0_takeDeed_80 : decode cX0_takeDeed 80 = .ok (.getfield 21, 3) := by decide +kernel
theorem dX0_takeDeed_83 : decode cX0_takeDeed 83 = .ok (.aload_n 0, 1) := by decide +kernel
theorem dX0_takeDeed_84 : decode cX0_takeDeed 84 = .ok (.getfield 37, 3) := by decide +kernel
theorem dX0_takeDeed_87 : decode cX0_takeDeed 87 = .ok (.aload_n 0, 1) := by decide +kernel
theorem dX0_takeDeed_88 : decode cX0_takeDeed 88 = .ok (.getfield 30, 3) := by decide +kernel
theorem dX0_takeDeed_91 : decode cX0_takeDeed 91 = .ok (.iconst 1, 1) := by decide +kernel
theorem dX0_takeDeed_92 : decode cX0_takeDeed 92 = .ok (.iaload, 1) := by decide +kernel
theorem dX0_takeDeed_93 : decode cX0_takeDeed 93 = .ok (.iastore, 1) := by decide +kernel
theorem dX0_takeDeed_94 : decode cX0_takeDeed 94 = .ok (.aload_n 0, 1) := by decide +kernel
theorem dX0_takeDeed_95 : decode cX0_takeDeed 95 = .ok (.getfield 24, 3) := by decide +kernel
theorem dX0_takeDeed_98 : decode cX0_takeDeed 98 = .ok (.aload_n 0, 1) := by decide +kernel
theorem dX0_takeDeed_99 : decode cX0_takeDeed 99 = .ok (.getfield 37, 3) := by decide +kernel
theorem dX0_takeDeed_102 : decode cX0_takeDeed 102 = .ok (.aload_n 0, 1) := by decide +kernel
theorem dX0_takeDeed_103 : decode cX0_takeDeed 103 = .ok (.getfield 30, 3) := by decide +kernel
theorem dX0_takeDeed_106 : decode cX0_takeDeed 106 = .ok (.iconst 2, 1) := by decide +kernel
theorem dX0_takeDeed_107 : decode cX0_takeDeed 107 = .ok (.iaload, 1) := by decide +kernel
theorem dX0_takeDeed_108 : decode cX0_takeDeed 108 = .ok (.iastore, 1) := by decide +kernel
theorem dX0_takeDeed_109 : decode cX0_takeDeed 109 = .ok (.aload_n 0, 1) := by decide +kernel
theorem dX0_takeDeed_110 : decode cX0_takeDeed 110 = .ok (.getfield 27, 3) := by decide +kernel
theorem dX0_takeDeed_113 : decode cX0_takeDeed 113 = .ok (.aload_n 0, 1) := by decide +kernel
theorem dX0_takeDeed_114 : decode cX0_takeDeed 114 = .ok (.getfield 37, 3) := by decide +kernel
theorem dX0_takeDeed_117 : decode cX0_takeDeed 117 = .ok (.aload_n 0, 1) := by decide +kernel
theorem dX0_takeDeed_118 : decode cX0_takeDeed 118 = .ok (.getfield 30, 3) := by decide +kernel
theorem dX0_takeDeed_121 : decode cX0_takeDeed 121 = .ok (.iconst 3, 1) := by decide +kernel
theorem dX0_takeDeed_122 : decode cX0_takeDeed 122 = .ok (.iaload, 1) := by decide +kernel
theorem dX0_takeDeed_123 : decode cX0_takeDeed 123 = .ok (.iastore, 1) := by decide +kernel
theorem dX0_takeDeed_124 : decode cX0_takeDeed 124 = .ok (.aload_n 0, 1) := by decide +kernel
theorem dX0_takeDeed_125 : decode cX0_takeDeed 125 = .ok (.dup, 1) := by decide +kernel
theorem dX0_takeDeed_126 : decode cX0_takeDeed 126 = .ok (.getfield 37, 3) := by decide +kernel
theorem dX0_takeDeed_129 : decode cX0_takeDeed 129 = .ok (.iconst 1, 1) := by decide +kernel
theorem dX0_takeDeed_130 : decode cX0_takeDeed 130 = .ok (.iadd, 1) := by decide +kernel
theorem dX0_takeDeed_131 : decode cX0_takeDeed 131 = .ok (.putfield 37, 3) := by decide +kernel
theorem dX0_takeDeed_134 : decode cX0_takeDeed 134 = .ok (.iconst 1, 1) := by decide +kernel
theorem dX0_takeDeed_135 : decode cX0_takeDeed 135 = .ok (.ireturn, 1) := by decide +kernel
theorem dX0_takeCoins_0 : decode cX0_takeCoins 0 = .ok (.aload_n 0, 1) := by decide +kernel
theorem dX0_takeCoins_1 : decode cX0_takeCoins 1 = .ok (.aload_n 0, 1) := by decide +kernel
theorem dX0_takeCoins_2 : decode cX0_takeCoins 2 = .ok (.getfield 30, 3) := by decide +kernel
theorem dX0_takeCoins_5 : decode cX0_takeCoins 5 = .ok (.iconst 0, 1) := by decide +kernel
theorem dX0_takeCoins_6 : decode cX0_takeCoins 6 = .ok (.iaload, 1) := by decide +kernel
theorem dX0_takeCoins_7 : decode cX0_takeCoins 7 = .ok (.putfield 46, 3) := by decide +kernel
theorem dX0_takeCoins_10 : decode cX0_takeCoins 10 = .ok (.iconst 1, 1) := by decide +kernel
theorem dX0_takeCoins_11 : decode cX0_takeCoins 11 = .ok (.ireturn, 1) := by decide +kernel
theorem dX0_takeLaw_0 : decode cX0_takeLaw 0 = .ok (.aload_n 0, 1) := by decide +kernel
theorem dX0_takeLaw_1 : decode cX0_takeLaw 1 = .ok (.getfield 30, 3) := by decide +kernel
theorem dX0_takeLaw_4 : decode cX0_takeLaw 4 = .ok (.iconst 0, 1) := by decide +kernel
theorem dX0_takeLaw_5 : decode cX0_takeLaw 5 = .ok (.iaload, 1) := by decide +kernel
theorem dX0_takeLaw_6 : decode cX0_takeLaw 6 = .ok (.iconst 4, 1) := by decide +kernel
theorem dX0_takeLaw_7 : decode cX0_takeLaw 7 = .ok (.if_icmp .lt 5, 3) := by decide +kernel
theorem dX0_takeLaw_10 : decode cX0_takeLaw 10 = .ok (.iconst 0, 1) := by decide +kernel
theorem dX0_takeLaw_11 : decode cX0_takeLaw 11 = .ok (.ireturn, 1) := by decide +kernel
theorem dX0_takeLaw_12 : decode cX0_takeLaw 12 = .ok (.aload_n 0, 1) := by decide +kernel
theorem dX0_takeLaw_13 : decode cX0_takeLaw 13 = .ok (.dup, 1) := by decide +kernel
theorem dX0_takeLaw_14 : decode cX0_takeLaw 14 = .ok (.getfield 43, 3) := by decide +kernel
theorem dX0_takeLaw_17 : decode cX0_takeLaw 17 = .ok (.iconst 1, 1) := by decide +kernel
theorem dX0_takeLaw_18 : decode cX0_takeLaw 18 = .ok (.aload_n 0, 1) := by decide +kernel
theorem dX0_takeLaw_19 : decode cX0_takeLaw 19 = .ok (.getfield 30, 3) := by decide +kernel
theorem dX0_takeLaw_22 : decode cX0_takeLaw 22 = .ok (.iconst 0, 1) := by decide +kernel
theorem dX0_takeLaw_23 : decode cX0_takeLaw 23 = .ok (.iaload, 1) := by decide +kernel
theorem dX0_takeLaw_24 : decode cX0_takeLaw 24 = .ok (.ishl, 1) := by decide +kernel
theorem dX0_takeLaw_25 : decode cX0_takeLaw 25 = .ok (.ior, 1) := by decide +kernel
theorem dX0_takeLaw_26 : decode cX0_takeLaw 26 = .ok (.putfield 43, 3) := by decide +kernel
theorem dX0_takeLaw_29 : decode cX0_takeLaw 29 = .ok (.iconst 1, 1) := by decide +kernel
theorem dX0_takeLaw_30 : decode cX0_takeLaw 30 = .ok (.ireturn, 1) := by decide +kernel
theorem dX0_forbids_0 : decode cX0_forbids 0 = .ok (.aload_n 0, 1) := by decide +kernel
theorem dX0_forbids_1 : decode cX0_forbids 1 = .ok (.getfield 43, 3) := by decide +kernel
theorem dX0_forbids_4 : decode cX0_forbids 4 = .ok (.iload_n 1, 1) := by decide +kernel
theorem dX0_forbids_5 : decode cX0_forbids 5 = .ok (.ishr, 1) := by decide +kernel
theorem dX0_forbids_6 : decode cX0_forbids 6 = .ok (.iconst 1, 1) := by decide +kernel
theorem dX0_forbids_7 : decode cX0_forbids 7 = .ok (.iand, 1) := by decide +kernel
theorem dX0_forbids_8 : decode cX0_forbids 8 = .ok (.iconst 1, 1) := by decide +kernel
theorem dX0_forbids_9 : decode cX0_forbids 9 = .ok (.if_icmp .ne 7, 3) := by decide +kernel
theorem dX0_forbids_12 : decode cX0_forbids 12 = .ok (.iconst 1, 1) := by decide +kernel
theorem dX0_forbids_13 : decode cX0_forbids 13 = .ok (.goto 4, 3) := by decide +kernel
theorem dX0_forbids_16 : decode cX0_forbids 16 = .ok (.iconst 0, 1) := by decide +kernel
theorem dX0_forbids_17 : decode cX0_forbids 17 = .ok (.ireturn, 1) := by decide +kernel
set_option maxRecDepth 20000 in
theorem ggX0_toldBy_X0_wouldTell : GoodIn wsX0_toldBy wsX0_wouldTell := goodIn_r _ [10, 11, 12, 13, 9, 14, 1, 4, 2, 15, 16, 17, 18, 19, 20, 21, 22, 23, 24, 25, 26] (by decide +kernel) (by decide +kernel)
set_option maxRecDepth 20000 in
theorem gX0_toldBy_X0_wouldTell : GoodIn wsX0_toldBy (wsV RX0 92 RX0 yX0_wouldTell wsX0_wouldTell) := goodIn_app (goodIn_of _ (by decide +kernel)) ggX0_toldBy_X0_wouldTell
theorem dX0_toldBy_0 : decode cX0_toldBy 0 = .ok (.iconst 0, 1) := by decide +kernel
theorem dX0_toldBy_1 : decode cX0_toldBy 1 = .ok (.istore_n 3, 1) := by decide +kernel
theorem dX0_toldBy_2 : decode cX0_toldBy 2 = .ok (.iconst 0, 1) := by decide +kernel
theorem dX0_toldBy_3 : decode cX0_toldBy 3 = .ok (.istore 4, 2) := by decide +kernel
theorem dX0_toldBy_5 : decode cX0_toldBy 5 = .ok (.iload 4, 2) := by decide +kernel
theorem dX0_toldBy_7 : decode cX0_toldBy 7 = .ok (.aload_n 0, 1) := by decide +kernel
theorem dX0_toldBy_8 : decode cX0_toldBy 8 = .ok (.getfield 37, 3) := by decide +kernel
theorem dX0_toldBy_11 : decode cX0_toldBy 11 = .ok (.if_icmp .ge 57, 3) := by decide +kernel
theorem dX0_toldBy_14 : decode cX0_toldBy 14 = .ok (.aload_n 0, 1) := by decide +kernel
theorem dX0_toldBy_15 : decode cX0_toldBy 15 = .ok (.getfield 21, 3) := by decide +kernel
theorem dX0_toldBy_18 : decode cX0_toldBy 18 = .ok (.iload 4, 2) := by decide +kernel
theorem dX0_toldBy_20 : decode cX0_toldBy 20 = .ok (.iaload, 1) := by decide +kernel
theorem dX0_toldBy_21 : decode cX0_toldBy 21 = .ok (.iload_n 2, 1) := by decide +kernel
theorem dX0_toldBy_22 : decode cX0_toldBy 22 = .ok (.if_icmp .ne 40, 3) := by decide +kernel
theorem dX0_toldBy_25 : decode cX0_toldBy 25 = .ok (.aload_n 0, 1) := by decide +kernel
theorem dX0_toldBy_26 : decode cX0_toldBy 26 = .ok (.aload_n 0, 1) := by decide +kernel
theorem dX0_toldBy_27 : decode cX0_toldBy 27 = .ok (.getfield 9, 3) := by decide +kernel
theorem dX0_toldBy_30 : decode cX0_toldBy 30 = .ok (.iload_n 1, 1) := by decide +kernel
theorem dX0_toldBy_31 : decode cX0_toldBy 31 = .ok (.iaload, 1) := by decide +kernel
theorem dX0_toldBy_32 : decode cX0_toldBy 32 = .ok (.iload_n 2, 1) := by decide +kernel
theorem dX0_toldBy_33 : decode cX0_toldBy 33 = .ok (.iload 4, 2) := by decide +kernel
theorem dX0_toldBy_35 : decode cX0_toldBy 35 = .ok (.aload_n 0, 1) := by decide +kernel
theorem dX0_toldBy_36 : decode cX0_toldBy 36 = .ok (.getfield 24, 3) := by decide +kernel
theorem dX0_toldBy_39 : decode cX0_toldBy 39 = .ok (.iload 4, 2) := by decide +kernel
theorem dX0_toldBy_41 : decode cX0_toldBy 41 = .ok (.iaload, 1) := by decide +kernel
theorem dX0_toldBy_42 : decode cX0_toldBy 42 = .ok (.aload_n 0, 1) := by decide +kernel
theorem dX0_toldBy_43 : decode cX0_toldBy 43 = .ok (.getfield 27, 3) := by decide +kernel
theorem dX0_toldBy_46 : decode cX0_toldBy 46 = .ok (.iload 4, 2) := by decide +kernel
theorem dX0_toldBy_48 : decode cX0_toldBy 48 = .ok (.iaload, 1) := by decide +kernel
theorem dX0_toldBy_49 : decode cX0_toldBy 49 = .ok (.invokevirtual 92, 3) := by decide +kernel
theorem dX0_toldBy_52 : decode cX0_toldBy 52 = .ok (.ifCond .eq 10, 3) := by decide +kernel
theorem dX0_toldBy_55 : decode cX0_toldBy 55 = .ok (.iload_n 3, 1) := by decide +kernel
theorem dX0_toldBy_56 : decode cX0_toldBy 56 = .ok (.iconst 1, 1) := by decide +kernel
theorem dX0_toldBy_57 : decode cX0_toldBy 57 = .ok (.iload 4, 2) := by decide +kernel
theorem dX0_toldBy_59 : decode cX0_toldBy 59 = .ok (.ishl, 1) := by decide +kernel
theorem dX0_toldBy_60 : decode cX0_toldBy 60 = .ok (.ior, 1) := by decide +kernel
theorem dX0_toldBy_61 : decode cX0_toldBy 61 = .ok (.istore_n 3, 1) := by decide +kernel
theorem dX0_toldBy_62 : decode cX0_toldBy 62 = .ok (.iinc 4 1, 3) := by decide +kernel
theorem dX0_toldBy_65 : decode cX0_toldBy 65 = .ok (.goto (-60), 3) := by decide +kernel
theorem dX0_toldBy_68 : decode cX0_toldBy 68 = .ok (.iload_n 3, 1) := by decide +kernel
theorem dX0_toldBy_69 : decode cX0_toldBy 69 = .ok (.ireturn, 1) := by decide +kernel
set_option maxRecDepth 20000 in
theorem ggX0_wouldTell_X0_laterOnes : GoodIn wsX0_wouldTell wsX0_laterOnes := goodIn_r _ [5, 6, 7, 8, 9, 10, 11, 12, 13, 14, 15, 16, 17, 18, 19, 20] (by decide +kernel) (by decide +kernel)
set_option maxRecDepth 20000 in
theorem gX0_wouldTell_X0_laterOnes : GoodIn wsX0_wouldTell (wsV RX0 96 RX0 yX0_laterOnes wsX0_laterOnes) := goodIn_app (goodIn_of _ (by decide +kernel)) ggX0_wouldTell_X0_laterOnes
theorem dX0_wouldTell_0 : decode cX0_wouldTell 0 = .ok (.iload_n 1, 1) := by decide +kernel
theorem dX0_wouldTell_1 : decode cX0_wouldTell 1 = .ok (.tableswitch 84 0 3 #[31, 33, 46, 64], 31) := by decide +kernel
theorem dX0_wouldTell_32 : decode cX0_wouldTell 32 = .ok (.iconst 1, 1) := by decide +kernel
theorem dX0_wouldTell_33 : decode cX0_wouldTell 33 = .ok (.ireturn, 1) := by decide +kernel
theorem dX0_wouldTell_34 : decode cX0_wouldTell 34 = .ok (.iload 4, 2) := by decide +kernel
theorem dX0_wouldTell_36 : decode cX0_wouldTell 36 = .ok (.bipush 12, 2) := by decide +kernel
theorem dX0_wouldTell_38 : decode cX0_wouldTell 38 = .ok (.if_icmp .lt 7, 3) := by decide +kernel
theorem dX0_wouldTell_41 : decode cX0_wouldTell 41 = .ok (.iconst 1, 1) := by decide +kernel
theorem dX0_wouldTell_42 : decode cX0_wouldTell 42 = .ok (.goto 4, 3) := by decide +kernel
theorem dX0_wouldTell_45 : decode cX0_wouldTell 45 = .ok (.iconst 0, 1) := by decide +kernel
theorem dX0_wouldTell_46 : decode cX0_wouldTell 46 = .ok (.ireturn, 1) := by decide +kernel
theorem dX0_wouldTell_47 : decode cX0_wouldTell 47 = .ok (.aload_n 0, 1) := by decide +kernel
theorem dX0_wouldTell_48 : decode cX0_wouldTell 48 = .ok (.iload_n 2, 1) := by decide +kernel
theorem dX0_wouldTell_49 : decode cX0_wouldTell 49 = .ok (.iload_n 3, 1) := by decide +kernel
theorem dX0_wouldTell_50 : decode cX0_wouldTell 50 = .ok (.iload 4, 2) := by decide +kernel
theorem dX0_wouldTell_52 : decode cX0_wouldTell 52 = .ok (.invokevirtual 96, 3) := by decide +kernel
theorem dX0_wouldTell_55 : decode cX0_wouldTell 55 = .ok (.iconst 2, 1) := by decide +kernel
theorem dX0_wouldTell_56 : decode cX0_wouldTell 56 = .ok (.if_icmp .ge 7, 3) := by decide +kernel
theorem dX0_wouldTell_59 : decode cX0_wouldTell 59 = .ok (.iconst 1, 1) := by decide +kernel
theorem dX0_wouldTell_60 : decode cX0_wouldTell 60 = .ok (.goto 4, 3) := by decide +kernel
theorem dX0_wouldTell_63 : decode cX0_wouldTell 63 = .ok (.iconst 0, 1) := by decide +kernel
theorem dX0_wouldTell_64 : decode cX0_wouldTell 64 = .ok (.ireturn, 1) := by decide +kernel
theorem dX0_wouldTell_65 : decode cX0_wouldTell 65 = .ok (.iload 4, 2) := by decide +kernel
theorem dX0_wouldTell_67 : decode cX0_wouldTell 67 = .ok (.bipush 12, 2) := by decide +kernel
theorem dX0_wouldTell_69 : decode cX0_wouldTell 69 = .ok (.if_icmp .ge 14, 3) := by decide +kernel
theorem dX0_wouldTell_72 : decode cX0_wouldTell 72 = .ok (.iload 5, 2) := by decide +kernel
theorem dX0_wouldTell_74 : decode cX0_wouldTell 74 = .ok (.bipush 10, 2) := by decide +kernel
theorem dX0_wouldTell_76 : decode cX0_wouldTell 76 = .ok (.if_icmp .gt 7, 3) := by decide +kernel
theorem dX0_wouldTell_79 : decode cX0_wouldTell 79 = .ok (.iconst 1, 1) := by decide +kernel
theorem dX0_wouldTell_80 : decode cX0_wouldTell 80 = .ok (.goto 4, 3) := by decide +kernel
theorem dX0_wouldTell_83 : decode cX0_wouldTell 83 = .ok (.iconst 0, 1) := by decide +kernel
theorem dX0_wouldTell_84 : decode cX0_wouldTell 84 = .ok (.ireturn, 1) := by decide +kernel
theorem dX0_wouldTell_85 : decode cX0_wouldTell 85 = .ok (.iconst 0, 1) := by decide +kernel
theorem dX0_wouldTell_86 : decode cX0_wouldTell 86 = .ok (.ireturn, 1) := by decide +kernel
theorem dX0_laterOnes_0 : decode cX0_laterOnes 0 = .ok (.iconst 0, 1) := by decide +kernel
theorem dX0_laterOnes_1 : decode cX0_laterOnes 1 = .ok (.istore 4, 2) := by decide +kernel
theorem dX0_laterOnes_3 : decode cX0_laterOnes 3 = .ok (.iconst 0, 1) := by decide +kernel
theorem dX0_laterOnes_4 : decode cX0_laterOnes 4 = .ok (.istore 5, 2) := by decide +kernel
theorem dX0_laterOnes_6 : decode cX0_laterOnes 6 = .ok (.iload 5, 2) := by decide +kernel
theorem dX0_laterOnes_8 : decode cX0_laterOnes 8 = .ok (.aload_n 0, 1) := by decide +kernel
theorem dX0_laterOnes_9 : decode cX0_laterOnes 9 = .ok (.getfield 37, 3) := by decide +kernel
theorem dX0_laterOnes_12 : decode cX0_laterOnes 12 = .ok (.if_icmp .ge 69, 3) := by decide +kernel
theorem dX0_laterOnes_15 : decode cX0_laterOnes 15 = .ok (.aload_n 0, 1) := by decide +kernel
theorem dX0_laterOnes_16 : decode cX0_laterOnes 16 = .ok (.getfield 24, 3) := by decide +kernel
theorem dX0_laterOnes_19 : decode cX0_laterOnes 19 = .ok (.iload 5, 2) := by decide +kernel
theorem dX0_laterOnes_21 : decode cX0_laterOnes 21 = .ok (.iaload, 1) := by decide +kernel
theorem dX0_laterOnes_22 : decode cX0_laterOnes 22 = .ok (.iload_n 3, 1) := by decide +kernel
theorem dX0_laterOnes_23 : decode cX0_laterOnes 23 = .ok (.if_icmp .gt 20, 3) := by decide +kernel
theorem dX0_laterOnes_26 : decode cX0_laterOnes 26 = .ok (.aload_n 0, 1) := by decide +kernel
theorem dX0_laterOnes_27 : decode cX0_laterOnes 27 = .ok (.getfield 24, 3) := by decide +kernel
theorem dX0_laterOnes_30 : decode cX0_laterOnes 30 = .ok (.iload 5, 2) := by decide +kernel
theorem dX0_laterOnes_32 : decode cX0_laterOnes 32 = .ok (.iaload, 1) := by decide +kernel
theorem dX0_laterOnes_33 : decode cX0_laterOnes 33 = .ok (.iload_n 3, 1) := by decide +kernel
theorem dX0_laterOnes_34 : decode cX0_laterOnes 34 = .ok (.if_icmp .ne 13, 3) := by decide +kernel
theorem dX0_laterOnes_37 : decode cX0_laterOnes 37 = .ok (.iload 5, 2) := by decide +kernel
theorem dX0_laterOnes_39 : decode cX0_laterOnes 39 = .ok (.iload_n 2, 1) := by decide +kernel
theorem dX0_laterOnes_40 : decode cX0_laterOnes 40 = .ok (.if_icmp .le 7, 3) := by decide +kernel
theorem dX0_laterOnes_43 : decode cX0_laterOnes 43 = .ok (.iconst 1, 1) := by decide +kernel
theorem dX0_laterOnes_44 : decode cX0_laterOnes 44 = .ok (.goto 4, 3) := by decide +kernel
theorem dX0_laterOnes_47 : decode cX0_laterOnes 47 = .ok (.iconst 0, 1) := by decide +kernel
theorem dX0_laterOnes_48 : decode cX0_laterOnes 48 = .ok (.istore 6, 2) := by decide +kernel
theorem dX0_laterOnes_50 : decode cX0_laterOnes 50 = .ok (.iload 5, 2) := by decide +kernel
theorem dX0_laterOnes_52 : decode cX0_laterOnes 52 = .ok (.iload_n 2, 1) := by decide +kernel
theorem dX0_laterOnes_53 : decode cX0_laterOnes 53 = .ok (.if_icmp .eq 22, 3) := by decide +kernel
theorem dX0_laterOnes_56 : decode cX0_laterOnes 56 = .ok (.aload_n 0, 1) := by decide +kernel
theorem dX0_laterOnes_57 : decode cX0_laterOnes 57 = .ok (.getfield 21, 3) := by decide +kernel
theorem dX0_laterOnes_60 : decode cX0_laterOnes 60 = .ok (.iload 5, 2) := by decide +kernel
theorem dX0_laterOnes_62 : decode cX0_laterOnes 62 = .ok (.iaload, 1) := by decide +kernel
theorem dX0_laterOnes_63 : decode cX0_laterOnes 63 = .ok (.iload_n 1, 1) := by decide +kernel
theorem dX0_laterOnes_64 : decode cX0_laterOnes 64 = .ok (.if_icmp .ne 11, 3) := by decide +kernel
theorem dX0_laterOnes_67 : decode cX0_laterOnes 67 = .ok (.iload 6, 2) := by decide +kernel
theorem dX0_laterOnes_69 : decode cX0_laterOnes 69 = .ok (.ifCond .eq 6, 3) := by decide +kernel
theorem dX0_laterOnes_72 : decode cX0_laterOnes 72 = .ok (.iinc 4 1, 3) := by decide +kernel
theorem dX0_laterOnes_75 : decode cX0_laterOnes 75 = .ok (.iinc 5 1, 3) := by decide +kernel
theorem dX0_laterOnes_78 : decode cX0_laterOnes 78 = .ok (.goto (-72), 3) := by decide +kernel
theorem dX0_laterOnes_81 : decode cX0_laterOnes 81 = .ok (.iload 4, 2) := by decide +kernel
theorem dX0_laterOnes_83 : decode cX0_laterOnes 83 = .ok (.ireturn, 1) := by decide +kernel
theorem dX0_deedsAsHeavyAs_0 : decode cX0_deedsAsHeavyAs 0 = .ok (.iconst 0, 1) := by decide +kernel
theorem dX0_deedsAsHeavyAs_1 : decode cX0_deedsAsHeavyAs 1 = .ok (.istore_n 2, 1) := by decide +kernel
theorem dX0_deedsAsHeavyAs_2 : decode cX0_deedsAsHeavyAs 2 = .ok (.iconst 0, 1) := by decide +kernel
theorem dX0_deedsAsHeavyAs_3 : decode cX0_deedsAsHeavyAs 3 = .ok (.istore_n 3, 1) := by decide +kernel
theorem dX0_deedsAsHeavyAs_4 : decode cX0_deedsAsHeavyAs 4 = .ok (.iload_n 3, 1) := by decide +kernel
theorem dX0_deedsAsHeavyAs_5 : decode cX0_deedsAsHeavyAs 5 = .ok (.aload_n 0, 1) := by decide +kernel
theorem dX0_deedsAsHeavyAs_6 : decode cX0_deedsAsHeavyAs 6 = .ok (.getfield 37, 3) := by decide +kernel
theorem dX0_deedsAsHeavyAs_9 : decode cX0_deedsAsHeavyAs 9 = .ok (.if_icmp .ge 25, 3) := by decide +kernel
theorem dX0_deedsAsHeavyAs_12 : decode cX0_deedsAsHeavyAs 12 = .ok (.aload_n 0, 1) := by decide +kernel
theorem dX0_deedsAsHeavyAs_13 : decode cX0_deedsAsHeavyAs 13 = .ok (.getfield 27, 3) := by decide +kernel
theorem dX0_deedsAsHeavyAs_16 : decode cX0_deedsAsHeavyAs 16 = .ok (.iload_n 3, 1) := by decide +kernel
theorem dX0_deedsAsHeavyAs_17 : decode cX0_deedsAsHeavyAs 17 = .ok (.iaload, 1) := by decide +kernel
theorem dX0_deedsAsHeavyAs_18 : decode cX0_deedsAsHeavyAs 18 = .ok (.iload_n 1, 1) := by decide +kernel
theorem dX0_deedsAsHeavyAs_19 : decode cX0_deedsAsHeavyAs 19 = .ok (.if_icmp .lt 9, 3) := by decide +kernel
theorem dX0_deedsAsHeavyAs_22 : decode cX0_deedsAsHeavyAs 22 = .ok (.iload_n 2, 1) := by decide +kernel
theorem dX0_deedsAsHeavyAs_23 : decode cX0_deedsAsHeavyAs 23 = .ok (.iconst 1, 1) := by decide +kernel
theorem dX0_deedsAsHeavyAs_24 : decode cX0_deedsAsHeavyAs 24 = .ok (.iload_n 3, 1) := by decide +kernel
theorem dX0_deedsAsHeavyAs_25 : decode cX0_deedsAsHeavyAs 25 = .ok (.ishl, 1) := by decide +kernel
theorem dX0_deedsAsHeavyAs_26 : decode cX0_deedsAsHeavyAs 26 = .ok (.ior, 1) := by decide +kernel
theorem dX0_deedsAsHeavyAs_27 : decode cX0_deedsAsHeavyAs 27 = .ok (.istore_n 2, 1) := by decide +kernel
theorem dX0_deedsAsHeavyAs_28 : decode cX0_deedsAsHeavyAs 28 = .ok (.iinc 3 1, 3) := by decide +kernel
theorem dX0_deedsAsHeavyAs_31 : decode cX0_deedsAsHeavyAs 31 = .ok (.goto (-27), 3) := by decide +kernel
theorem dX0_deedsAsHeavyAs_34 : decode cX0_deedsAsHeavyAs 34 = .ok (.iload_n 2, 1) := by decide +kernel
theorem dX0_deedsAsHeavyAs_35 : decode cX0_deedsAsHeavyAs 35 = .ok (.ireturn, 1) := by decide +kernel
theorem dX0_deedsOf_0 : decode cX0_deedsOf 0 = .ok (.iconst 0, 1) := by decide +kernel
theorem dX0_deedsOf_1 : decode cX0_deedsOf 1 = .ok (.istore_n 2, 1) := by decide +kernel
theorem dX0_deedsOf_2 : decode cX0_deedsOf 2 = .ok (.iconst 0, 1) := by decide +kernel
theorem dX0_deedsOf_3 : decode cX0_deedsOf 3 = .ok (.istore_n 3, 1) := by decide +kernel
theorem dX0_deedsOf_4 : decode cX0_deedsOf 4 = .ok (.iload_n 3, 1) := by decide +kernel
theorem dX0_deedsOf_5 : decode cX0_deedsOf 5 = .ok (.aload_n 0, 1) := by decide +kernel
theorem dX0_deedsOf_6 : decode cX0_deedsOf 6 = .ok (.getfield 37, 3) := by decide +kernel
theorem dX0_deedsOf_9 : decode cX0_deedsOf 9 = .ok (.if_icmp .ge 25, 3) := by decide +kernel
theorem dX0_deedsOf_12 : decode cX0_deedsOf 12 = .ok (.aload_n 0, 1) := by decide +kernel
theorem dX0_deedsOf_13 : decode cX0_deedsOf 13 = .ok (.getfield 18, 3) := by decide +kernel
