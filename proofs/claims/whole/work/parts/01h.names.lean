theorem dX6_lay_24 : decode cX6_lay 24 = .ok (.getfield 73, 3) := by decide +kernel
theorem dX6_lay_27 : decode cX6_lay 27 = .ok (.ireturn, 1) := by decide +kernel
theorem dX6_copies_0 : decode cX6_copies 0 = .ok (.iconst 0, 1) := by decide +kernel
theorem dX6_copies_1 : decode cX6_copies 1 = .ok (.istore 5, 2) := by decide +kernel
theorem dX6_copies_3 : decode cX6_copies 3 = .ok (.iload 5, 2) := by decide +kernel
theorem dX6_copies_5 : decode cX6_copies 5 = .ok (.iload 4, 2) := by decide +kernel
theorem dX6_copies_7 : decode cX6_copies 7 = .ok (.if_icmp .ge 21, 3) := by decide +kernel
theorem dX6_copies_10 : decode cX6_copies 10 = .ok (.aload_n 0, 1) := by decide +kernel
theorem dX6_copies_11 : decode cX6_copies 11 = .ok (.iload_n 1, 1) := by decide +kernel
theorem dX6_copies_12 : decode cX6_copies 12 = .ok (.iload 5, 2) := by decide +kernel
theorem dX6_copies_14 : decode cX6_copies 14 = .ok (.iadd, 1) := by decide +kernel
theorem dX6_copies_15 : decode cX6_copies 15 = .ok (.aload_n 2, 1) := by decide +kernel
theorem dX6_copies_16 : decode cX6_copies 16 = .ok (.iload_n 3, 1) := by decide +kernel
theorem dX6_copies_17 : decode cX6_copies 17 = .ok (.iload 5, 2) := by decide +kernel
theorem dX6_copies_19 : decode cX6_copies 19 = .ok (.iadd, 1) := by decide +kernel
theorem dX6_copies_20 : decode cX6_copies 20 = .ok (.iaload, 1) := by decide +kernel
theorem dX6_copies_21 : decode cX6_copies 21 = .ok (.iastore, 1) := by decide +kernel
theorem dX6_copies_22 : decode cX6_copies 22 = .ok (.iinc 5 1, 3) := by decide +kernel
theorem dX6_copies_25 : decode cX6_copies 25 = .ok (.goto (-22), 3) := by decide +kernel
theorem dX6_copies_28 : decode cX6_copies 28 = .ok (.return_, 1) := by decide +kernel
set_option maxRecDepth 20000 in
theorem ggX6_settles_X6_copies : GoodIn wsX6_settles wsX6_copies := goodIn_r _ [20] (by decide +kernel) (by decide +kernel)
set_option maxRecDepth 20000 in
theorem gX6_settles_X6_copies : GoodIn wsX6_settles (va_wsS RX6 123 yX6_copies wsX6_copies) := goodIn_app (goodIn_of _ (by decide +kernel)) ggX6_settles_X6_copies
theorem dX6_settles_0 : decode cX6_settles 0 = .ok (.aload_n 0, 1) := by decide +kernel
theorem dX6_settles_1 : decode cX6_settles 1 = .ok (.aload_n 0, 1) := by decide +kernel
theorem dX6_settles_2 : decode cX6_settles 2 = .ok (.getfield 67, 3) := by decide +kernel
theorem dX6_settles_5 : decode cX6_settles 5 = .ok (.putfield 73, 3) := by decide +kernel
theorem dX6_settles_8 : decode cX6_settles 8 = .ok (.aload_n 0, 1) := by decide +kernel
theorem dX6_settles_9 : decode cX6_settles 9 = .ok (.getfield 7, 3) := by decide +kernel
theorem dX6_settles_12 : decode cX6_settles 12 = .ok (.iconst 0, 1) := by decide +kernel
theorem dX6_settles_13 : decode cX6_settles 13 = .ok (.aload_n 0, 1) := by decide +kernel
theorem dX6_settles_14 : decode cX6_settles 14 = .ok (.getfield 34, 3) := by decide +kernel
theorem dX6_settles_17 : decode cX6_settles 17 = .ok (.iconst 0, 1) := by decide +kernel
theorem dX6_settles_18 : decode cX6_settles 18 = .ok (.bipush 16, 2) := by decide +kernel
theorem dX6_settles_20 : decode cX6_settles 20 = .ok (.invokestatic 123, 3) := by decide +kernel
theorem dX6_settles_23 : decode cX6_settles 23 = .ok (.aload_n 0, 1) := by decide +kernel
theorem dX6_settles_24 : decode cX6_settles 24 = .ok (.aload_n 0, 1) := by decide +kernel
theorem dX6_settles_25 : decode cX6_settles 25 = .ok (.getfield 70, 3) := by decide +kernel
theorem dX6_settles_28 : decode cX6_settles 28 = .ok (.putfield 80, 3) := by decide +kernel
theorem dX6_settles_31 : decode cX6_settles 31 = .ok (.aload_n 0, 1) := by decide +kernel
theorem dX6_settles_32 : decode cX6_settles 32 = .ok (.getfield 13, 3) := by decide +kernel
theorem dX6_settles_35 : decode cX6_settles 35 = .ok (.iconst 0, 1) := by decide +kernel
theorem dX6_settles_36 : decode cX6_settles 36 = .ok (.aload_n 0, 1) := by decide +kernel
theorem dX6_settles_37 : decode cX6_settles 37 = .ok (.getfield 40, 3) := by decide +kernel
theorem dX6_settles_40 : decode cX6_settles 40 = .ok (.iconst 0, 1) := by decide +kernel
theorem dX6_settles_41 : decode cX6_settles 41 = .ok (.bipush 40, 2) := by decide +kernel
theorem dX6_settles_43 : decode cX6_settles 43 = .ok (.invokestatic 123, 3) := by decide +kernel
theorem dX6_settles_46 : decode cX6_settles 46 = .ok (.aload_n 0, 1) := by decide +kernel
theorem dX6_settles_47 : decode cX6_settles 47 = .ok (.aload_n 0, 1) := by decide +kernel
theorem dX6_settles_48 : decode cX6_settles 48 = .ok (.getfield 61, 3) := by decide +kernel
theorem dX6_settles_51 : decode cX6_settles 51 = .ok (.putfield 127, 3) := by decide +kernel
theorem dX6_settles_54 : decode cX6_settles 54 = .ok (.iconst 0, 1) := by decide +kernel
theorem dX6_settles_55 : decode cX6_settles 55 = .ok (.istore_n 1, 1) := by decide +kernel
theorem dX6_settles_56 : decode cX6_settles 56 = .ok (.iload_n 1, 1) := by decide +kernel
theorem dX6_settles_57 : decode cX6_settles 57 = .ok (.bipush 18, 2) := by decide +kernel
theorem dX6_settles_59 : decode cX6_settles 59 = .ok (.if_icmp .ge 16, 3) := by decide +kernel
theorem dX6_settles_62 : decode cX6_settles 62 = .ok (.aload_n 0, 1) := by decide +kernel
theorem dX6_settles_63 : decode cX6_settles 63 = .ok (.getfield 16, 3) := by decide +kernel
theorem dX6_settles_66 : decode cX6_settles 66 = .ok (.iload_n 1, 1) := by decide +kernel
theorem dX6_settles_67 : decode cX6_settles 67 = .ok (.iconst 0, 1) := by decide +kernel
theorem dX6_settles_68 : decode cX6_settles 68 = .ok (.iastore, 1) := by decide +kernel
theorem dX6_settles_69 : decode cX6_settles 69 = .ok (.iinc 1 1, 3) := by decide +kernel
theorem dX6_settles_72 : decode cX6_settles 72 = .ok (.goto (-16), 3) := by decide +kernel
theorem dX6_settles_75 : decode cX6_settles 75 = .ok (.aload_n 0, 1) := by decide +kernel
theorem dX6_settles_76 : decode cX6_settles 76 = .ok (.getfield 16, 3) := by decide +kernel
theorem dX6_settles_79 : decode cX6_settles 79 = .ok (.iconst 0, 1) := by decide +kernel
theorem dX6_settles_80 : decode cX6_settles 80 = .ok (.aload_n 0, 1) := by decide +kernel
theorem dX6_settles_81 : decode cX6_settles 81 = .ok (.getfield 57, 3) := by decide +kernel
theorem dX6_settles_84 : decode cX6_settles 84 = .ok (.iastore, 1) := by decide +kernel
theorem dX6_settles_85 : decode cX6_settles 85 = .ok (.aload_n 0, 1) := by decide +kernel
theorem dX6_settles_86 : decode cX6_settles 86 = .ok (.getfield 16, 3) := by decide +kernel
theorem dX6_settles_89 : decode cX6_settles 89 = .ok (.iconst 2, 1) := by decide +kernel
theorem dX6_settles_90 : decode cX6_settles 90 = .ok (.aload_n 0, 1) := by decide +kernel
theorem dX6_settles_91 : decode cX6_settles 91 = .ok (.getfield 37, 3) := by decide +kernel
theorem dX6_settles_94 : decode cX6_settles 94 = .ok (.iconst 0, 1) := by decide +kernel
theorem dX6_settles_95 : decode cX6_settles 95 = .ok (.aload_n 0, 1) := by decide +kernel
theorem dX6_settles_96 : decode cX6_settles 96 = .ok (.getfield 73, 3) := by decide +kernel
theorem dX6_settles_99 : decode cX6_settles 99 = .ok (.invokestatic 123, 3) := by decide +kernel
theorem dX6_settles_102 : decode cX6_settles 102 = .ok (.aload_n 0, 1) := by decide +kernel
theorem dX6_settles_103 : decode cX6_settles 103 = .ok (.iconst 0, 1) := by decide +kernel
theorem dX6_settles_104 : decode cX6_settles 104 = .ok (.putfield 130, 3) := by decide +kernel
theorem dX6_settles_107 : decode cX6_settles 107 = .ok (.aload_n 0, 1) := by decide +kernel
theorem dX6_settles_108 : decode cX6_settles 108 = .ok (.iconst 0, 1) := by decide +kernel
theorem dX6_settles_109 : decode cX6_settles 109 = .ok (.putfield 133, 3) := by decide +kernel
theorem dX6_settles_112 : decode cX6_settles 112 = .ok (.aload_n 0, 1) := by decide +kernel
theorem dX6_settles_113 : decode cX6_settles 113 = .ok (.iconst 0, 1) := by decide +kernel
theorem dX6_settles_114 : decode cX6_settles 114 = .ok (.putfield 136, 3) := by decide +kernel
theorem dX6_settles_117 : decode cX6_settles 117 = .ok (.return_, 1) := by decide +kernel
set_option maxRecDepth 20000 in
theorem ggX6_asItIs_X6_copies : GoodIn wsX6_asItIs wsX6_copies := goodIn_r _ [6] (by decide +kernel) (by decide +kernel)
set_option maxRecDepth 20000 in
theorem gX6_asItIs_X6_copies : GoodIn wsX6_asItIs (va_wsS RX6 123 yX6_copies wsX6_copies) := goodIn_app (goodIn_of _ (by decide +kernel)) ggX6_asItIs_X6_copies
theorem dX6_asItIs_0 : decode cX6_asItIs 0 = .ok (.aload_n 0, 1) := by decide +kernel
theorem dX6_asItIs_1 : decode cX6_asItIs 1 = .ok (.getfield 43, 3) := by decide +kernel
theorem dX6_asItIs_4 : decode cX6_asItIs 4 = .ok (.iconst 0, 1) := by decide +kernel
theorem dX6_asItIs_5 : decode cX6_asItIs 5 = .ok (.aload_n 0, 1) := by decide +kernel
theorem dX6_asItIs_6 : decode cX6_asItIs 6 = .ok (.getfield 16, 3) := by decide +kernel
theorem dX6_asItIs_9 : decode cX6_asItIs 9 = .ok (.iconst 0, 1) := by decide +kernel
theorem dX6_asItIs_10 : decode cX6_asItIs 10 = .ok (.bipush 18, 2) := by decide +kernel
theorem dX6_asItIs_12 : decode cX6_asItIs 12 = .ok (.invokestatic 123, 3) := by decide +kernel
theorem dX6_asItIs_15 : decode cX6_asItIs 15 = .ok (.return_, 1) := by decide +kernel
theorem dX6_roomOf_0 : decode cX6_roomOf 0 = .ok (.aload_n 0, 1) := by decide +kernel
theorem dX6_roomOf_1 : decode cX6_roomOf 1 = .ok (.getfield 13, 3) := by decide +kernel
theorem dX6_roomOf_4 : decode cX6_roomOf 4 = .ok (.iconst 4, 1) := by decide +kernel
theorem dX6_roomOf_5 : decode cX6_roomOf 5 = .ok (.iload_n 1, 1) := by decide +kernel
theorem dX6_roomOf_6 : decode cX6_roomOf 6 = .ok (.imul, 1) := by decide +kernel
theorem dX6_roomOf_7 : decode cX6_roomOf 7 = .ok (.iconst 1, 1) := by decide +kernel
theorem dX6_roomOf_8 : decode cX6_roomOf 8 = .ok (.iadd, 1) := by decide +kernel
theorem dX6_roomOf_9 : decode cX6_roomOf 9 = .ok (.iaload, 1) := by decide +kernel
theorem dX6_roomOf_10 : decode cX6_roomOf 10 = .ok (.ireturn, 1) := by decide +kernel
theorem dX6_hourOf_0 : decode cX6_hourOf 0 = .ok (.aload_n 0, 1) := by decide +kernel
theorem dX6_hourOf_1 : decode cX6_hourOf 1 = .ok (.getfield 13, 3) := by decide +kernel
theorem dX6_hourOf_4 : decode cX6_hourOf 4 = .ok (.iconst 4, 1) := by decide +kernel
theorem dX6_hourOf_5 : decode cX6_hourOf 5 = .ok (.iload_n 1, 1) := by decide +kernel
theorem dX6_hourOf_6 : decode cX6_hourOf 6 = .ok (.imul, 1) := by decide +kernel
theorem dX6_hourOf_7 : decode cX6_hourOf 7 = .ok (.iconst 2, 1) := by decide +kernel
theorem dX6_hourOf_8 : decode cX6_hourOf 8 = .ok (.iadd, 1) := by decide +kernel
theorem dX6_hourOf_9 : decode cX6_hourOf 9 = .ok (.iaload, 1) := by decide +kernel
theorem dX6_hourOf_10 : decode cX6_hourOf 10 = .ok (.ireturn, 1) := by decide +kernel
theorem dX6_weighs_0 : decode cX6_weighs 0 = .ok (.aload_n 0, 1) := by decide +kernel
theorem dX6_weighs_1 : decode cX6_weighs 1 = .ok (.getfield 13, 3) := by decide +kernel
theorem dX6_weighs_4 : decode cX6_weighs 4 = .ok (.iconst 4, 1) := by decide +kernel
theorem dX6_weighs_5 : decode cX6_weighs 5 = .ok (.iload_n 1, 1) := by decide +kernel
theorem dX6_weighs_6 : decode cX6_weighs 6 = .ok (.imul, 1) := by decide +kernel
theorem dX6_weighs_7 : decode cX6_weighs 7 = .ok (.iconst 3, 1) := by decide +kernel
theorem dX6_weighs_8 : decode cX6_weighs 8 = .ok (.iadd, 1) := by decide +kernel
theorem dX6_weighs_9 : decode cX6_weighs 9 = .ok (.iaload, 1) := by decide +kernel
theorem dX6_weighs_10 : decode cX6_weighs 10 = .ok (.ireturn, 1) := by decide +kernel
set_option maxRecDepth 20000 in
theorem ggX6_laterThan_X6_hourOf : GoodIn wsX6_laterThan wsX6_hourOf := goodIn_r _ [5, 6, 11, 12, 13, 14, 15, 16, 17, 18, 19, 20, 21, 22, 23, 24, 25, 26, 27, 28, 29, 30, 31, 32, 33, 34] (by decide +kernel) (by decide +kernel)
set_option maxRecDepth 20000 in
theorem gX6_laterThan_X6_hourOf : GoodIn wsX6_laterThan (wsV RX6 139 RX6 yX6_hourOf wsX6_hourOf) := goodIn_app (goodIn_of _ (by decide +kernel)) ggX6_laterThan_X6_hourOf
set_option maxRecDepth 20000 in
theorem ggX6_laterThan_X6_roomOf : GoodIn wsX6_laterThan wsX6_roomOf := goodIn_r _ [10, 6, 11, 12, 13, 14, 15, 16, 17, 18, 19, 20, 21, 22, 23, 24, 25, 26, 27, 28, 29, 30, 31, 32, 33, 34] (by decide +kernel) (by decide +kernel)
set_option maxRecDepth 20000 in
theorem gX6_laterThan_X6_roomOf : GoodIn wsX6_laterThan (wsV RX6 142 RX6 yX6_roomOf wsX6_roomOf) := goodIn_app (goodIn_of _ (by decide +kernel)) ggX6_laterThan_X6_roomOf
theorem dX6_laterThan_0 : decode cX6_laterThan 0 = .ok (.iconst 0, 1) := by decide +kernel
theorem dX6_laterThan_1 : decode cX6_laterThan 1 = .ok (.istore_n 3, 1) := by decide +kernel
theorem dX6_laterThan_2 : decode cX6_laterThan 2 = .ok (.iconst 0, 1) := by decide +kernel
theorem dX6_laterThan_3 : decode cX6_laterThan 3 = .ok (.istore 4, 2) := by decide +kernel
theorem dX6_laterThan_5 : decode cX6_laterThan 5 = .ok (.iload 4, 2) := by decide +kernel
theorem dX6_laterThan_7 : decode cX6_laterThan 7 = .ok (.iload_n 2, 1) := by decide +kernel
theorem dX6_laterThan_8 : decode cX6_laterThan 8 = .ok (.if_icmp .ge 83, 3) := by decide +kernel
theorem dX6_laterThan_11 : decode cX6_laterThan 11 = .ok (.aload_n 0, 1) := by decide +kernel
theorem dX6_laterThan_12 : decode cX6_laterThan 12 = .ok (.iload 4, 2) := by decide +kernel
theorem dX6_laterThan_14 : decode cX6_laterThan 14 = .ok (.invokevirtual 139, 3) := by decide +kernel
theorem dX6_laterThan_17 : decode cX6_laterThan 17 = .ok (.aload_n 0, 1) := by decide +kernel
theorem dX6_laterThan_18 : decode cX6_laterThan 18 = .ok (.iload_n 1, 1) := by decide +kernel
theorem dX6_laterThan_19 : decode cX6_laterThan 19 = .ok (.invokevirtual 139, 3) := by decide +kernel
theorem dX6_laterThan_22 : decode cX6_laterThan 22 = .ok (.if_icmp .gt 23, 3) := by decide +kernel
theorem dX6_laterThan_25 : decode cX6_laterThan 25 = .ok (.aload_n 0, 1) := by decide +kernel
theorem dX6_laterThan_26 : decode cX6_laterThan 26 = .ok (.iload 4, 2) := by decide +kernel
theorem dX6_laterThan_28 : decode cX6_laterThan 28 = .ok (.invokevirtual 139, 3) := by decide +kernel
theorem dX6_laterThan_31 : decode cX6_laterThan 31 = .ok (.aload_n 0, 1) := by decide +kernel
theorem dX6_laterThan_32 : decode cX6_laterThan 32 = .ok (.iload_n 1, 1) := by decide +kernel
theorem dX6_laterThan_33 : decode cX6_laterThan 33 = .ok (.invokevirtual 139, 3) := by decide +kernel
theorem dX6_laterThan_36 : decode cX6_laterThan 36 = .ok (.if_icmp .ne 13, 3) := by decide +kernel
theorem dX6_laterThan_39 : decode cX6_laterThan 39 = .ok (.iload 4, 2) := by decide +kernel
theorem dX6_laterThan_41 : decode cX6_laterThan 41 = .ok (.iload_n 1, 1) := by decide +kernel
theorem dX6_laterThan_42 : decode cX6_laterThan 42 = .ok (.if_icmp .le 7, 3) := by decide +kernel
theorem dX6_laterThan_45 : decode cX6_laterThan 45 = .ok (.iconst 1, 1) := by decide +kernel
theorem dX6_laterThan_46 : decode cX6_laterThan 46 = .ok (.goto 4, 3) := by decide +kernel
theorem dX6_laterThan_49 : decode cX6_laterThan 49 = .ok (.iconst 0, 1) := by decide +kernel
theorem dX6_laterThan_50 : decode cX6_laterThan 50 = .ok (.istore 5, 2) := by decide +kernel
theorem dX6_laterThan_52 : decode cX6_laterThan 52 = .ok (.iload_n 3, 1) := by decide +kernel
theorem dX6_laterThan_53 : decode cX6_laterThan 53 = .ok (.iload 4, 2) := by decide +kernel
theorem dX6_laterThan_55 : decode cX6_laterThan 55 = .ok (.iload_n 1, 1) := by decide +kernel
theorem dX6_laterThan_56 : decode cX6_laterThan 56 = .ok (.if_icmp .eq 26, 3) := by decide +kernel
theorem dX6_laterThan_59 : decode cX6_laterThan 59 = .ok (.aload_n 0, 1) := by decide +kernel
theorem dX6_laterThan_60 : decode cX6_laterThan 60 = .ok (.iload 4, 2) := by decide +kernel
theorem dX6_laterThan_62 : decode cX6_laterThan 62 = .ok (.invokevirtual 142, 3) := by decide +kernel
theorem dX6_laterThan_65 : decode cX6_laterThan 65 = .ok (.aload_n 0, 1) := by decide +kernel
theorem dX6_laterThan_66 : decode cX6_laterThan 66 = .ok (.iload_n 1, 1) := by decide +kernel
theorem dX6_laterThan_67 : decode cX6_laterThan 67 = .ok (.invokevirtual 142, 3) := by decide +kernel
theorem dX6_laterThan_70 : decode cX6_laterThan 70 = .ok (.if_icmp .ne 12, 3) := by decide +kernel
theorem dX6_laterThan_73 : decode cX6_laterThan 73 = .ok (.iload 5, 2) := by decide +kernel
theorem dX6_laterThan_75 : decode cX6_laterThan 75 = .ok (.ifCond .eq 7, 3) := by decide +kernel
theorem dX6_laterThan_78 : decode cX6_laterThan 78 = .ok (.iconst 1, 1) := by decide +kernel
theorem dX6_laterThan_79 : decode cX6_laterThan 79 = .ok (.goto 4, 3) := by decide +kernel
theorem dX6_laterThan_82 : decode cX6_laterThan 82 = .ok (.iconst 0, 1) := by decide +kernel
theorem dX6_laterThan_83 : decode cX6_laterThan 83 = .ok (.iadd, 1) := by decide +kernel
theorem dX6_laterThan_84 : decode cX6_laterThan 84 = .ok (.istore_n 3, 1) := by decide +kernel
theorem dX6_laterThan_85 : decode cX6_laterThan 85 = .ok (.iinc 4 1, 3) := by decide +kernel
theorem dX6_laterThan_88 : decode cX6_laterThan 88 = .ok (.goto (-83), 3) := by decide +kernel
theorem dX6_laterThan_91 : decode cX6_laterThan 91 = .ok (.iload_n 3, 1) := by decide +kernel
theorem dX6_laterThan_92 : decode cX6_laterThan 92 = .ok (.ireturn, 1) := by decide +kernel
set_option maxRecDepth 20000 in
theorem ggX6_doesTell_X6_roomOf : GoodIn wsX6_doesTell wsX6_roomOf := goodIn_r _ [7, 8, 21, 22, 23, 24, 25, 26, 27, 28, 29, 30, 31, 32, 33, 34, 35, 36, 37, 38, 39, 40, 41, 42, 43, 44] (by decide +kernel) (by decide +kernel)
set_option maxRecDepth 20000 in
theorem gX6_doesTell_X6_roomOf : GoodIn wsX6_doesTell (wsV RX6 142 RX6 yX6_roomOf wsX6_roomOf) := goodIn_app (goodIn_of _ (by decide +kernel)) ggX6_doesTell_X6_roomOf
set_option maxRecDepth 20000 in
theorem ggX6_doesTell_X6_hourOf : GoodIn wsX6_doesTell wsX6_hourOf := goodIn_r _ [12, 8, 21, 22, 23, 24, 25, 26, 27, 28, 29, 30, 31, 32, 33, 34, 35, 36, 37, 38, 39, 40, 41, 42, 43, 44] (by decide +kernel) (by decide +kernel)
set_option maxRecDepth 20000 in
theorem gX6_doesTell_X6_hourOf : GoodIn wsX6_doesTell (wsV RX6 139 RX6 yX6_hourOf wsX6_hourOf) := goodIn_app (goodIn_of _ (by decide +kernel)) ggX6_doesTell_X6_hourOf
set_option maxRecDepth 20000 in
theorem ggX6_doesTell_X6_laterThan : GoodIn wsX6_doesTell wsX6_laterThan := goodIn_r _ [16, 9, 10, 11, 6, 12, 8, 3, 4, 5, 7, 21, 22, 23, 24, 25, 26, 27, 28, 29, 30, 31, 32, 33, 34, 35, 36, 37, 38, 39, 40, 41, 42, 43, 44] (by decide +kernel) (by decide +kernel)
set_option maxRecDepth 20000 in
theorem gX6_doesTell_X6_laterThan : GoodIn wsX6_doesTell (wsV RX6 145 RX6 yX6_laterThan wsX6_laterThan) := goodIn_app (goodIn_of _ (by decide +kernel)) ggX6_doesTell_X6_laterThan
set_option maxRecDepth 20000 in
theorem ggX6_doesTell_X6_weighs : GoodIn wsX6_doesTell wsX6_weighs := goodIn_r _ [20, 8, 21, 22, 23, 24, 25, 26, 27, 28, 29, 30, 31, 32, 33, 34, 35, 36, 37, 38, 39, 40, 41, 42, 43, 44] (by decide +kernel) (by decide +kernel)
set_option maxRecDepth 20000 in
theorem gX6_doesTell_X6_weighs : GoodIn wsX6_doesTell (wsV RX6 149 RX6 yX6_weighs wsX6_weighs) := goodIn_app (goodIn_of _ (by decide +kernel)) ggX6_doesTell_X6_weighs
theorem dX6_doesTell_0 : decode cX6_doesTell 0 = .ok (.aload_n 0, 1) := by decide +kernel
theorem dX6_doesTell_1 : decode cX6_doesTell 1 = .ok (.iload_n 2, 1) := by decide +kernel
theorem dX6_doesTell_2 : decode cX6_doesTell 2 = .ok (.invokevirtual 142, 3) := by decide +kernel
theorem dX6_doesTell_5 : decode cX6_doesTell 5 = .ok (.aload_n 0, 1) := by decide +kernel
theorem dX6_doesTell_6 : decode cX6_doesTell 6 = .ok (.getfield 43, 3) := by decide +kernel
theorem dX6_doesTell_9 : decode cX6_doesTell 9 = .ok (.iconst 2, 1) := by decide +kernel
theorem dX6_doesTell_10 : decode cX6_doesTell 10 = .ok (.iload_n 1, 1) := by decide +kernel
theorem dX6_doesTell_11 : decode cX6_doesTell 11 = .ok (.iadd, 1) := by decide +kernel
theorem dX6_doesTell_12 : decode cX6_doesTell 12 = .ok (.iaload, 1) := by decide +kernel
theorem dX6_doesTell_13 : decode cX6_doesTell 13 = .ok (.if_icmp .eq 5, 3) := by decide +kernel
theorem dX6_doesTell_16 : decode cX6_doesTell 16 = .ok (.iconst 0, 1) := by decide +kernel
theorem dX6_doesTell_17 : decode cX6_doesTell 17 = .ok (.ireturn, 1) := by decide +kernel
theorem dX6_doesTell_18 : decode cX6_doesTell 18 = .ok (.aload_n 0, 1) := by decide +kernel
theorem dX6_doesTell_19 : decode cX6_doesTell 19 = .ok (.getfield 7, 3) := by decide +kernel
theorem dX6_doesTell_22 : decode cX6_doesTell 22 = .ok (.iconst 2, 1) := by decide +kernel
theorem dX6_doesTell_23 : decode cX6_doesTell 23 = .ok (.iload_n 1, 1) := by decide +kernel
theorem dX6_doesTell_24 : decode cX6_doesTell 24 = .ok (.imul, 1) := by decide +kernel
theorem dX6_doesTell_25 : decode cX6_doesTell 25 = .ok (.iaload, 1) := by decide +kernel
theorem dX6_doesTell_26 : decode cX6_doesTell 26 = .ok (.tableswitch 84 1 3 #[26, 42, 58], 26) := by decide +kernel
theorem dX6_doesTell_52 : decode cX6_doesTell 52 = .ok (.aload_n 0, 1) := by decide +kernel
theorem dX6_doesTell_53 : decode cX6_doesTell 53 = .ok (.iload_n 2, 1) := by decide +kernel
theorem dX6_doesTell_54 : decode cX6_doesTell 54 = .ok (.invokevirtual 139, 3) := by decide +kernel
theorem dX6_doesTell_57 : decode cX6_doesTell 57 = .ok (.bipush 12, 2) := by decide +kernel
theorem dX6_doesTell_59 : decode cX6_doesTell 59 = .ok (.if_icmp .lt 7, 3) := by decide +kernel
theorem dX6_doesTell_62 : decode cX6_doesTell 62 = .ok (.iconst 1, 1) := by decide +kernel
theorem dX6_doesTell_63 : decode cX6_doesTell 63 = .ok (.goto 4, 3) := by decide +kernel
theorem dX6_doesTell_66 : decode cX6_doesTell 66 = .ok (.iconst 0, 1) := by decide +kernel
theorem dX6_doesTell_67 : decode cX6_doesTell 67 = .ok (.ireturn, 1) := by decide +kernel
theorem dX6_doesTell_68 : decode cX6_doesTell 68 = .ok (.aload_n 0, 1) := by decide +kernel
theorem dX6_doesTell_69 : decode cX6_doesTell 69 = .ok (.iload_n 2, 1) := by decide +kernel
theorem dX6_doesTell_70 : decode cX6_doesTell 70 = .ok (.iload_n 3, 1) := by decide +kernel
theorem dX6_doesTell_71 : decode cX6_doesTell 71 = .ok (.invokevirtual 145, 3) := by decide +kernel
theorem dX6_doesTell_74 : decode cX6_doesTell 74 = .ok (.iconst 2, 1) := by decide +kernel
theorem dX6_doesTell_75 : decode cX6_doesTell 75 = .ok (.if_icmp .ge 7, 3) := by decide +kernel
theorem dX6_doesTell_78 : decode cX6_doesTell 78 = .ok (.iconst 1, 1) := by decide +kernel
theorem dX6_doesTell_79 : decode cX6_doesTell 79 = .ok (.goto 4, 3) := by decide +kernel
theorem dX6_doesTell_82 : decode cX6_doesTell 82 = .ok (.iconst 0, 1) := by decide +kernel
theorem dX6_doesTell_83 : decode cX6_doesTell 83 = .ok (.ireturn, 1) := by decide +kernel
theorem dX6_doesTell_84 : decode cX6_doesTell 84 = .ok (.aload_n 0, 1) := by decide +kernel
theorem dX6_doesTell_85 : decode cX6_doesTell 85 = .ok (.iload_n 2, 1) := by decide +kernel
theorem dX6_doesTell_86 : decode cX6_doesTell 86 = .ok (.invokevirtual 139, 3) := by decide +kernel
theorem dX6_doesTell_89 : decode cX6_doesTell 89 = .ok (.bipush 12, 2) := by decide +kernel
theorem dX6_doesTell_91 : decode cX6_doesTell 91 = .ok (.if_icmp .ge 17, 3) := by decide +kernel
theorem dX6_doesTell_94 : decode cX6_doesTell 94 = .ok (.aload_n 0, 1) := by decide +kernel
theorem dX6_doesTell_95 : decode cX6_doesTell 95 = .ok (.iload_n 2, 1) := by decide +kernel
theorem dX6_doesTell_96 : decode cX6_doesTell 96 = .ok (.invokevirtual 149, 3) := by decide +kernel
theorem dX6_doesTell_99 : decode cX6_doesTell 99 = .ok (.bipush 10, 2) := by decide +kernel
theorem dX6_doesTell_101 : decode cX6_doesTell 101 = .ok (.if_icmp .gt 7, 3) := by decide +kernel
theorem dX6_doesTell_104 : decode cX6_doesTell 104 = .ok (.iconst 1, 1) := by decide +kernel
theorem dX6_doesTell_105 : decode cX6_doesTell 105 = .ok (.goto 4, 3) := by decide +kernel
theorem dX6_doesTell_108 : decode cX6_doesTell 108 = .ok (.iconst 0, 1) := by decide +kernel
theorem dX6_doesTell_109 : decode cX6_doesTell 109 = .ok (.ireturn, 1) := by decide +kernel
theorem dX6_doesTell_110 : decode cX6_doesTell 110 = .ok (.iconst 1, 1) := by decide +kernel
theorem dX6_doesTell_111 : decode cX6_doesTell 111 = .ok (.ireturn, 1) := by decide +kernel
set_option maxRecDepth 20000 in
theorem ggX6_toldBy_X6_doesTell : GoodIn wsX6_toldBy wsX6_doesTell := goodIn_r _ [6, 7, 8, 9, 10, 11, 5, 12, 13, 14, 15, 16, 17, 18, 19, 20, 21, 22, 23, 24, 25, 26, 27, 28, 29, 30, 31, 32, 33, 34, 35, 36, 37, 38, 39, 40, 41, 42, 43, 44, 45, 46, 47, 48, 49] (by decide +kernel) (by decide +kernel)
set_option maxRecDepth 20000 in
theorem gX6_toldBy_X6_doesTell : GoodIn wsX6_toldBy (wsV RX6 152 RX6 yX6_doesTell wsX6_doesTell) := goodIn_app (goodIn_of _ (by decide +kernel)) ggX6_toldBy_X6_doesTell
theorem dX6_toldBy_0 : decode cX6_toldBy 0 = .ok (.iconst 0, 1) := by decide +kernel
theorem dX6_toldBy_1 : decode cX6_toldBy 1 = .ok (.istore_n 2, 1) := by decide +kernel
theorem dX6_toldBy_2 : decode cX6_toldBy 2 = .ok (.iconst 0, 1) := by decide +kernel
theorem dX6_toldBy_3 : decode cX6_toldBy 3 = .ok (.istore_n 3, 1) := by decide +kernel
theorem dX6_toldBy_4 : decode cX6_toldBy 4 = .ok (.iload_n 3, 1) := by decide +kernel
theorem dX6_toldBy_5 : decode cX6_toldBy 5 = .ok (.aload_n 0, 1) := by decide +kernel
theorem dX6_toldBy_6 : decode cX6_toldBy 6 = .ok (.getfield 80, 3) := by decide +kernel
theorem dX6_toldBy_9 : decode cX6_toldBy 9 = .ok (.if_icmp .ge 32, 3) := by decide +kernel
theorem dX6_toldBy_12 : decode cX6_toldBy 12 = .ok (.iload_n 2, 1) := by decide +kernel
theorem dX6_toldBy_13 : decode cX6_toldBy 13 = .ok (.aload_n 0, 1) := by decide +kernel
theorem dX6_toldBy_14 : decode cX6_toldBy 14 = .ok (.iload_n 1, 1) := by decide +kernel
theorem dX6_toldBy_15 : decode cX6_toldBy 15 = .ok (.iload_n 3, 1) := by decide +kernel
theorem dX6_toldBy_16 : decode cX6_toldBy 16 = .ok (.aload_n 0, 1) := by decide +kernel
theorem dX6_toldBy_17 : decode cX6_toldBy 17 = .ok (.getfield 80, 3) := by decide +kernel
theorem dX6_toldBy_20 : decode cX6_toldBy 20 = .ok (.invokevirtual 152, 3) := by decide +kernel
theorem dX6_toldBy_23 : decode cX6_toldBy 23 = .ok (.ifCond .eq 9, 3) := by decide +kernel
theorem dX6_toldBy_26 : decode cX6_toldBy 26 = .ok (.iconst 1, 1) := by decide +kernel
theorem dX6_toldBy_27 : decode cX6_toldBy 27 = .ok (.iload_n 3, 1) := by decide +kernel
theorem dX6_toldBy_28 : decode cX6_toldBy 28 = .ok (.ishl, 1) := by decide +kernel
theorem dX6_toldBy_29 : decode cX6_toldBy 29 = .ok (.goto 4, 3) := by decide +kernel
theorem dX6_toldBy_32 : decode cX6_toldBy 32 = .ok (.iconst 0, 1) := by decide +kernel
theorem dX6_toldBy_33 : decode cX6_toldBy 33 = .ok (.ior, 1) := by decide +kernel
theorem dX6_toldBy_34 : decode cX6_toldBy 34 = .ok (.istore_n 2, 1) := by decide +kernel
theorem dX6_toldBy_35 : decode cX6_toldBy 35 = .ok (.iinc 3 1, 3) := by decide +kernel
theorem dX6_toldBy_38 : decode cX6_toldBy 38 = .ok (.goto (-34), 3) := by decide +kernel
theorem dX6_toldBy_41 : decode cX6_toldBy 41 = .ok (.iload_n 2, 1) := by decide +kernel
theorem dX6_toldBy_42 : decode cX6_toldBy 42 = .ok (.ireturn, 1) := by decide +kernel
set_option maxRecDepth 20000 in
theorem ggX6_isLoose_X6_has : GoodIn wsX6_isLoose wsX6_has := goodIn_r _ [7] (by decide +kernel) (by decide +kernel)
set_option maxRecDepth 20000 in
theorem gX6_isLoose_X6_has : GoodIn wsX6_isLoose (va_wsS RX6 155 yX6_has wsX6_has) := goodIn_app (goodIn_of _ (by decide +kernel)) ggX6_isLoose_X6_has
theorem dX6_isLoose_0 : decode cX6_isLoose 0 = .ok (.aload_n 0, 1) := by decide +kernel
theorem dX6_isLoose_1 : decode cX6_isLoose 1 = .ok (.getfield 43, 3) := by decide +kernel
theorem dX6_isLoose_4 : decode cX6_isLoose 4 = .ok (.bipush 10, 2) := by decide +kernel
theorem dX6_isLoose_6 : decode cX6_isLoose 6 = .ok (.iload_n 1, 1) := by decide +kernel
theorem dX6_isLoose_7 : decode cX6_isLoose 7 = .ok (.iadd, 1) := by decide +kernel
theorem dX6_isLoose_8 : decode cX6_isLoose 8 = .ok (.iaload, 1) := by decide +kernel
theorem dX6_isLoose_9 : decode cX6_isLoose 9 = .ok (.ifCond .ne 25, 3) := by decide +kernel
theorem dX6_isLoose_12 : decode cX6_isLoose 12 = .ok (.aload_n 0, 1) := by decide +kernel
theorem dX6_isLoose_13 : decode cX6_isLoose 13 = .ok (.getfield 127, 3) := by decide +kernel
theorem dX6_isLoose_16 : decode cX6_isLoose 16 = .ok (.aload_n 0, 1) := by decide +kernel
theorem dX6_isLoose_17 : decode cX6_isLoose 17 = .ok (.getfield 7, 3) := by decide +kernel
theorem dX6_isLoose_20 : decode cX6_isLoose 20 = .ok (.iconst 2, 1) := by decide +kernel
theorem dX6_isLoose_21 : decode cX6_isLoose 21 = .ok (.iload_n 1, 1) := by decide +kernel
theorem dX6_isLoose_22 : decode cX6_isLoose 22 = .ok (.imul, 1) := by decide +kernel
theorem dX6_isLoose_23 : decode cX6_isLoose 23 = .ok (.iaload, 1) := by decide +kernel
theorem dX6_isLoose_24 : decode cX6_isLoose 24 = .ok (.invokestatic 155, 3) := by decide +kernel
theorem dX6_isLoose_27 : decode cX6_isLoose 27 = .ok (.ifCond .ne 7, 3) := by decide +kernel
theorem dX6_isLoose_30 : decode cX6_isLoose 30 = .ok (.iconst 1, 1) := by decide +kernel
theorem dX6_isLoose_31 : decode cX6_isLoose 31 = .ok (.goto 4, 3) := by decide +kernel
theorem dX6_isLoose_34 : decode cX6_isLoose 34 = .ok (.iconst 0, 1) := by decide +kernel
theorem dX6_isLoose_35 : decode cX6_isLoose 35 = .ok (.ireturn, 1) := by decide +kernel
set_option maxRecDepth 20000 in
theorem ggX6_loose_X6_isLoose : GoodIn wsX6_loose wsX6_isLoose := goodIn_r _ [6, 7, 8, 9, 10, 11, 5, 12, 13, 14, 15, 16, 17, 18, 19, 20, 21, 22, 23, 24, 25, 26, 27, 28, 29, 30, 31, 32, 33, 34, 35, 36] (by decide +kernel) (by decide +kernel)
set_option maxRecDepth 20000 in
theorem gX6_loose_X6_isLoose : GoodIn wsX6_loose (wsV RX6 159 RX6 yX6_isLoose wsX6_isLoose) := goodIn_app (goodIn_of _ (by decide +kernel)) ggX6_loose_X6_isLoose
theorem dX6_loose_0 : decode cX6_loose 0 = .ok (.iconst 0, 1) := by decide +kernel
theorem dX6_loose_1 : decode cX6_loose 1 = .ok (.istore_n 1, 1) := by decide +kernel
theorem dX6_loose_2 : decode cX6_loose 2 = .ok (.iconst 0, 1) := by decide +kernel
theorem dX6_loose_3 : decode cX6_loose 3 = .ok (.istore_n 2, 1) := by decide +kernel
theorem dX6_loose_4 : decode cX6_loose 4 = .ok (.iload_n 2, 1) := by decide +kernel
theorem dX6_loose_5 : decode cX6_loose 5 = .ok (.aload_n 0, 1) := by decide +kernel
theorem dX6_loose_6 : decode cX6_loose 6 = .ok (.getfield 73, 3) := by decide +kernel
theorem dX6_loose_9 : decode cX6_loose 9 = .ok (.if_icmp .ge 27, 3) := by decide +kernel
theorem dX6_loose_12 : decode cX6_loose 12 = .ok (.iload_n 1, 1) := by decide +kernel
theorem dX6_loose_13 : decode cX6_loose 13 = .ok (.aload_n 0, 1) := by decide +kernel
theorem dX6_loose_14 : decode cX6_loose 14 = .ok (.iload_n 2, 1) := by decide +kernel
theorem dX6_loose_15 : decode cX6_loose 15 = .ok (.invokevirtual 159, 3) := by decide +kernel
theorem dX6_loose_18 : decode cX6_loose 18 = .ok (.ifCond .eq 9, 3) := by decide +kernel
theorem dX6_loose_21 : decode cX6_loose 21 = .ok (.iconst 1, 1) := by decide +kernel
theorem dX6_loose_22 : decode cX6_loose 22 = .ok (.iload_n 2, 1) := by decide +kernel
theorem dX6_loose_23 : decode cX6_loose 23 = .ok (.ishl, 1) := by decide +kernel
theorem dX6_loose_24 : decode cX6_loose 24 = .ok (.goto 4, 3) := by decide +kernel
theorem dX6_loose_27 : decode cX6_loose 27 = .ok (.iconst 0, 1) := by decide +kernel
theorem dX6_loose_28 : decode cX6_loose 28 = .ok (.ior, 1) := by decide +kernel
theorem dX6_loose_29 : decode cX6_loose 29 = .ok (.istore_n 1, 1) := by decide +kernel
theorem dX6_loose_30 : decode cX6_loose 30 = .ok (.iinc 2 1, 3) := by decide +kernel
theorem dX6_loose_33 : decode cX6_loose 33 = .ok (.goto (-29), 3) := by decide +kernel
theorem dX6_loose_36 : decode cX6_loose 36 = .ok (.iload_n 1, 1) := by decide +kernel
theorem dX6_loose_37 : decode cX6_loose 37 = .ok (.ireturn, 1) := by decide +kernel
set_option maxRecDepth 20000 in
theorem ggX6_tellers_X6_isLoose : GoodIn wsX6_tellers wsX6_isLoose := goodIn_r _ [7, 8, 9, 10, 11, 12, 6, 13, 35, 36, 37, 38, 39, 40, 41, 42, 43, 44, 45, 46, 47, 48, 49, 50, 51, 52, 53, 54, 55, 56, 57, 58] (by decide +kernel) (by decide +kernel)
set_option maxRecDepth 20000 in
theorem gX6_tellers_X6_isLoose : GoodIn wsX6_tellers (wsV RX6 159 RX6 yX6_isLoose wsX6_isLoose) := goodIn_app (goodIn_of _ (by decide +kernel)) ggX6_tellers_X6_isLoose
set_option maxRecDepth 20000 in
theorem ggX6_tellers_X6_doesTell : GoodIn wsX6_tellers wsX6_doesTell := goodIn_r _ [17, 8, 10, 18, 19, 20, 6, 21, 22, 23, 24, 25, 26, 27, 28, 29, 30, 31, 32, 33, 34, 35, 36, 37, 38, 39, 40, 41, 42, 43, 44, 45, 46, 47, 48, 49, 50, 51, 52, 53, 54, 55, 56, 57, 58] (by decide +kernel) (by decide +kernel)
set_option maxRecDepth 20000 in
theorem gX6_tellers_X6_doesTell : GoodIn wsX6_tellers (wsV RX6 152 RX6 yX6_doesTell wsX6_doesTell) := goodIn_app (goodIn_of _ (by decide +kernel)) ggX6_tellers_X6_doesTell
theorem dX6_tellers_0 : decode cX6_tellers 0 = .ok (.iconst 0, 1) := by decide +kernel
theorem dX6_tellers_1 : decode cX6_tellers 1 = .ok (.istore_n 2, 1) := by decide +kernel
theorem dX6_tellers_2 : decode cX6_tellers 2 = .ok (.iconst 0, 1) := by decide +kernel
theorem dX6_tellers_3 : decode cX6_tellers 3 = .ok (.istore_n 3, 1) := by decide +kernel
theorem dX6_tellers_4 : decode cX6_tellers 4 = .ok (.iload_n 3, 1) := by decide +kernel
theorem dX6_tellers_5 : decode cX6_tellers 5 = .ok (.aload_n 0, 1) := by decide +kernel
theorem dX6_tellers_6 : decode cX6_tellers 6 = .ok (.getfield 73, 3) := by decide +kernel
theorem dX6_tellers_9 : decode cX6_tellers 9 = .ok (.if_icmp .ge 40, 3) := by decide +kernel
theorem dX6_tellers_12 : decode cX6_tellers 12 = .ok (.iload_n 2, 1) := by decide +kernel
theorem dX6_tellers_13 : decode cX6_tellers 13 = .ok (.aload_n 0, 1) := by decide +kernel
theorem dX6_tellers_14 : decode cX6_tellers 14 = .ok (.iload_n 3, 1) := by decide +kernel
theorem dX6_tellers_15 : decode cX6_tellers 15 = .ok (.invokevirtual 159, 3) := by decide +kernel
theorem dX6_tellers_18 : decode cX6_tellers 18 = .ok (.ifCond .eq 22, 3) := by decide +kernel
theorem dX6_tellers_21 : decode cX6_tellers 21 = .ok (.aload_n 0, 1) := by decide +kernel
theorem dX6_tellers_22 : decode cX6_tellers 22 = .ok (.iload_n 3, 1) := by decide +kernel
theorem dX6_tellers_23 : decode cX6_tellers 23 = .ok (.iload_n 1, 1) := by decide +kernel
theorem dX6_tellers_24 : decode cX6_tellers 24 = .ok (.aload_n 0, 1) := by decide +kernel
theorem dX6_tellers_25 : decode cX6_tellers 25 = .ok (.getfield 80, 3) := by decide +kernel
theorem dX6_tellers_28 : decode cX6_tellers 28 = .ok (.invokevirtual 152, 3) := by decide +kernel
theorem dX6_tellers_31 : decode cX6_tellers 31 = .ok (.ifCond .eq 9, 3) := by decide +kernel
theorem dX6_tellers_34 : decode cX6_tellers 34 = .ok (.iconst 1, 1) := by decide +kernel
theorem dX6_tellers_35 : decode cX6_tellers 35 = .ok (.iload_n 3, 1) := by decide +kernel
theorem dX6_tellers_36 : decode cX6_tellers 36 = .ok (.ishl, 1) := by decide +kernel
theorem dX6_tellers_37 : decode cX6_tellers 37 = .ok (.goto 4, 3) := by decide +kernel
theorem dX6_tellers_40 : decode cX6_tellers 40 = .ok (.iconst 0, 1) := by decide +kernel
theorem dX6_tellers_41 : decode cX6_tellers 41 = .ok (.ior, 1) := by decide +kernel
theorem dX6_tellers_42 : decode cX6_tellers 42 = .ok (.istore_n 2, 1) := by decide +kernel
theorem dX6_tellers_43 : decode cX6_tellers 43 = .ok (.iinc 3 1, 3) := by decide +kernel
theorem dX6_tellers_46 : decode cX6_tellers 46 = .ok (.goto (-42), 3) := by decide +kernel
theorem dX6_tellers_49 : decode cX6_tellers 49 = .ok (.iload_n 2, 1) := by decide +kernel
theorem dX6_tellers_50 : decode cX6_tellers 50 = .ok (.ireturn, 1) := by decide +kernel
set_option maxRecDepth 20000 in
theorem ggX6_priceOf_X6_has : GoodIn wsX6_priceOf wsX6_has := goodIn_r _ [6] (by decide +kernel) (by decide +kernel)
set_option maxRecDepth 20000 in
theorem gX6_priceOf_X6_has : GoodIn wsX6_priceOf (va_wsS RX6 155 yX6_has wsX6_has) := goodIn_app (goodIn_of _ (by decide +kernel)) ggX6_priceOf_X6_has
theorem dX6_priceOf_0 : decode cX6_priceOf 0 = .ok (.iconst 0, 1) := by decide +kernel
theorem dX6_priceOf_1 : decode cX6_priceOf 1 = .ok (.istore_n 2, 1) := by decide +kernel
theorem dX6_priceOf_2 : decode cX6_priceOf 2 = .ok (.iconst 0, 1) := by decide +kernel
theorem dX6_priceOf_3 : decode cX6_priceOf 3 = .ok (.istore_n 3, 1) := by decide +kernel
theorem dX6_priceOf_4 : decode cX6_priceOf 4 = .ok (.iload_n 3, 1) := by decide +kernel
theorem dX6_priceOf_5 : decode cX6_priceOf 5 = .ok (.aload_n 0, 1) := by decide +kernel
theorem dX6_priceOf_6 : decode cX6_priceOf 6 = .ok (.getfield 73, 3) := by decide +kernel
theorem dX6_priceOf_9 : decode cX6_priceOf 9 = .ok (.if_icmp .ge 34, 3) := by decide +kernel
theorem dX6_priceOf_12 : decode cX6_priceOf 12 = .ok (.iload_n 2, 1) := by decide +kernel
theorem dX6_priceOf_13 : decode cX6_priceOf 13 = .ok (.iload_n 1, 1) := by decide +kernel
theorem dX6_priceOf_14 : decode cX6_priceOf 14 = .ok (.iload_n 3, 1) := by decide +kernel
theorem dX6_priceOf_15 : decode cX6_priceOf 15 = .ok (.invokestatic 155, 3) := by decide +kernel
theorem dX6_priceOf_18 : decode cX6_priceOf 18 = .ok (.ifCond .eq 16, 3) := by decide +kernel
theorem dX6_priceOf_21 : decode cX6_priceOf 21 = .ok (.aload_n 0, 1) := by decide +kernel
theorem dX6_priceOf_22 : decode cX6_priceOf 22 = .ok (.getfield 7, 3) := by decide +kernel
theorem dX6_priceOf_25 : decode cX6_priceOf 25 = .ok (.iconst 2, 1) := by decide +kernel
theorem dX6_priceOf_26 : decode cX6_priceOf 26 = .ok (.iload_n 3, 1) := by decide +kernel
theorem dX6_priceOf_27 : decode cX6_priceOf 27 = .ok (.imul, 1) := by decide +kernel
theorem dX6_priceOf_28 : decode cX6_priceOf 28 = .ok (.iconst 1, 1) := by decide +kernel
theorem dX6_priceOf_29 : decode cX6_priceOf 29 = .ok (.iadd, 1) := by decide +kernel
theorem dX6_priceOf_30 : decode cX6_priceOf 30 = .ok (.iaload, 1) := by decide +kernel
theorem dX6_priceOf_31 : decode cX6_priceOf 31 = .ok (.goto 4, 3) := by decide +kernel
theorem dX6_priceOf_34 : decode cX6_priceOf 34 = .ok (.iconst 0, 1) := by decide +kernel
theorem dX6_priceOf_35 : decode cX6_priceOf 35 = .ok (.iadd, 1) := by decide +kernel
theorem dX6_priceOf_36 : decode cX6_priceOf 36 = .ok (.istore_n 2, 1) := by decide +kernel
theorem dX6_priceOf_37 : decode cX6_priceOf 37 = .ok (.iinc 3 1, 3) := by decide +kernel
theorem dX6_priceOf_40 : decode cX6_priceOf 40 = .ok (.goto (-36), 3) := by decide +kernel
theorem dX6_priceOf_43 : decode cX6_priceOf 43 = .ok (.iload_n 2, 1) := by decide +kernel
theorem dX6_priceOf_44 : decode cX6_priceOf 44 = .ok (.ireturn, 1) := by decide +kernel
set_option maxRecDepth 20000 in
theorem ggX6_allWeigh_X6_has : GoodIn wsX6_allWeigh wsX6_has := goodIn_r _ [5] (by decide +kernel) (by decide +kernel)
set_option maxRecDepth 20000 in
theorem gX6_allWeigh_X6_has : GoodIn wsX6_allWeigh (va_wsS RX6 155 yX6_has wsX6_has) := goodIn_app (goodIn_of _ (by decide +kernel)) ggX6_allWeigh_X6_has
set_option maxRecDepth 20000 in
theorem ggX6_allWeigh_X6_weighs : GoodIn wsX6_allWeigh wsX6_weighs := goodIn_r _ [9, 10, 11, 12, 13, 14, 15, 16, 17, 18, 19, 20, 21, 22, 23, 24, 25, 26, 27, 28, 29, 30, 31, 32, 33, 34] (by decide +kernel) (by decide +kernel)
set_option maxRecDepth 20000 in
theorem gX6_allWeigh_X6_weighs : GoodIn wsX6_allWeigh (wsV RX6 149 RX6 yX6_weighs wsX6_weighs) := goodIn_app (goodIn_of _ (by decide +kernel)) ggX6_allWeigh_X6_weighs
theorem dX6_allWeigh_0 : decode cX6_allWeigh 0 = .ok (.iconst 0, 1) := by decide +kernel
theorem dX6_allWeigh_1 : decode cX6_allWeigh 1 = .ok (.istore_n 2, 1) := by decide +kernel
theorem dX6_allWeigh_2 : decode cX6_allWeigh 2 = .ok (.iconst 0, 1) := by decide +kernel
theorem dX6_allWeigh_3 : decode cX6_allWeigh 3 = .ok (.istore_n 3, 1) := by decide +kernel
theorem dX6_allWeigh_4 : decode cX6_allWeigh 4 = .ok (.iload_n 3, 1) := by decide +kernel
theorem dX6_allWeigh_5 : decode cX6_allWeigh 5 = .ok (.aload_n 0, 1) := by decide +kernel
theorem dX6_allWeigh_6 : decode cX6_allWeigh 6 = .ok (.getfield 80, 3) := by decide +kernel
theorem dX6_allWeigh_9 : decode cX6_allWeigh 9 = .ok (.if_icmp .ge 29, 3) := by decide +kernel
theorem dX6_allWeigh_12 : decode cX6_allWeigh 12 = .ok (.iload_n 2, 1) := by decide +kernel
theorem dX6_allWeigh_13 : decode cX6_allWeigh 13 = .ok (.iload_n 1, 1) := by decide +kernel
theorem dX6_allWeigh_14 : decode cX6_allWeigh 14 = .ok (.iload_n 3, 1) := by decide +kernel
theorem dX6_allWeigh_15 : decode cX6_allWeigh 15 = .ok (.invokestatic 155, 3) := by decide +kernel
theorem dX6_allWeigh_18 : decode cX6_allWeigh 18 = .ok (.ifCond .eq 11, 3) := by decide +kernel
theorem dX6_allWeigh_21 : decode cX6_allWeigh 21 = .ok (.aload_n 0, 1) := by decide +kernel
theorem dX6_allWeigh_22 : decode cX6_allWeigh 22 = .ok (.iload_n 3, 1) := by decide +kernel
theorem dX6_allWeigh_23 : decode cX6_allWeigh 23 = .ok (.invokevirtual 149, 3) := by decide +kernel
theorem dX6_allWeigh_26 : decode cX6_allWeigh 26 = .ok (.goto 4, 3) := by decide +kernel
theorem dX6_allWeigh_29 : decode cX6_allWeigh 29 = .ok (.iconst 0, 1) := by decide +kernel
theorem dX6_allWeigh_30 : decode cX6_allWeigh 30 = .ok (.iadd, 1) := by decide +kernel
theorem dX6_allWeigh_31 : decode cX6_allWeigh 31 = .ok (.istore_n 2, 1) := by decide +kernel
theorem dX6_allWeigh_32 : decode cX6_allWeigh 32 = .ok (.iinc 3 1, 3) := by decide +kernel
theorem dX6_allWeigh_35 : decode cX6_allWeigh 35 = .ok (.goto (-31), 3) := by decide +kernel
theorem dX6_allWeigh_38 : decode cX6_allWeigh 38 = .ok (.iload_n 2, 1) := by decide +kernel
theorem dX6_allWeigh_39 : decode cX6_allWeigh 39 = .ok (.ireturn, 1) := by decide +kernel
set_option maxRecDepth 20000 in
theorem ggX6_toldByAll_X6_has : GoodIn wsX6_toldByAll wsX6_has := goodIn_r _ [5] (by decide +kernel) (by decide +kernel)
set_option maxRecDepth 20000 in
theorem gX6_toldByAll_X6_has : GoodIn wsX6_toldByAll (va_wsS RX6 155 yX6_has wsX6_has) := goodIn_app (goodIn_of _ (by decide +kernel)) ggX6_toldByAll_X6_has
set_option maxRecDepth 20000 in
theorem ggX6_toldByAll_X6_toldBy : GoodIn wsX6_toldByAll wsX6_toldBy := goodIn_r _ [9, 10, 11, 12, 13, 4, 14, 15, 16, 17, 18, 19, 20, 21, 22, 23, 24, 25, 26, 27, 28, 29, 30, 31, 32, 33, 34, 35, 36, 37, 38, 39, 40, 41, 42, 43, 44, 45, 46, 47, 48, 49, 50, 51, 52, 53, 54, 55, 56, 57] (by decide +kernel) (by decide +kernel)
set_option maxRecDepth 20000 in
theorem gX6_toldByAll_X6_toldBy : GoodIn wsX6_toldByAll (wsV RX6 162 RX6 yX6_toldBy wsX6_toldBy) := goodIn_app (goodIn_of _ (by decide +kernel)) ggX6_toldByAll_X6_toldBy
theorem dX6_toldByAll_0 : decode cX6_toldByAll 0 = .ok (.iconst 0, 1) := by decide +kernel
theorem dX6_toldByAll_1 : decode cX6_toldByAll 1 = .ok (.istore_n 2, 1) := by decide +kernel
theorem dX6_toldByAll_2 : decode cX6_toldByAll 2 = .ok (.iconst 0, 1) := by decide +kernel
theorem dX6_toldByAll_3 : decode cX6_toldByAll 3 = .ok (.istore_n 3, 1) := by decide +kernel
theorem dX6_toldByAll_4 : decode cX6_toldByAll 4 = .ok (.iload_n 3, 1) := by decide +kernel
theorem dX6_toldByAll_5 : decode cX6_toldByAll 5 = .ok (.aload_n 0, 1) := by decide +kernel
theorem dX6_toldByAll_6 : decode cX6_toldByAll 6 = .ok (.getfield 73, 3) := by decide +kernel
theorem dX6_toldByAll_9 : decode cX6_toldByAll 9 = .ok (.if_icmp .ge 29, 3) := by decide +kernel
theorem dX6_toldByAll_12 : decode cX6_toldByAll 12 = .ok (.iload_n 2, 1) := by decide +kernel
theorem dX6_toldByAll_13 : decode cX6_toldByAll 13 = .ok (.iload_n 1, 1) := by decide +kernel
theorem dX6_toldByAll_14 : decode cX6_toldByAll 14 = .ok (.iload_n 3, 1) := by decide +kernel
theorem dX6_toldByAll_15 : decode cX6_toldByAll 15 = .ok (.invokestatic 155, 3) := by decide +kernel
theorem dX6_toldByAll_18 : decode cX6_toldByAll 18 = .ok (.ifCond .eq 11, 3) := by decide +kernel
theorem dX6_toldByAll_21 : decode cX6_toldByAll 21 = .ok (.aload_n 0, 1) := by decide +kernel
theorem dX6_toldByAll_22 : decode cX6_toldByAll 22 = .ok (.iload_n 3, 1) := by decide +kernel
theorem dX6_toldByAll_23 : decode cX6_toldByAll 23 = .ok (.invokevirtual 162, 3) := by decide +kernel
theorem dX6_toldByAll_26 : decode cX6_toldByAll 26 = .ok (.goto 4, 3) := by decide +kernel
theorem dX6_toldByAll_29 : decode cX6_toldByAll 29 = .ok (.iconst 0, 1) := by decide +kernel
theorem dX6_toldByAll_30 : decode cX6_toldByAll 30 = .ok (.ior, 1) := by decide +kernel
theorem dX6_toldByAll_31 : decode cX6_toldByAll 31 = .ok (.istore_n 2, 1) := by decide +kernel
theorem dX6_toldByAll_32 : decode cX6_toldByAll 32 = .ok (.iinc 3 1, 3) := by decide +kernel
theorem dX6_toldByAll_35 : decode cX6_toldByAll 35 = .ok (.goto (-31), 3) := by decide +kernel
theorem dX6_toldByAll_38 : decode cX6_toldByAll 38 = .ok (.iload_n 2, 1) := by decide +kernel
theorem dX6_toldByAll_39 : decode cX6_toldByAll 39 = .ok (.ireturn, 1) := by decide +kernel
set_option maxRecDepth 20000 in
theorem ggX6_piece_X6_isPiece : GoodIn wsX6_piece wsX6_isPiece := goodIn_r _ [7, 8, 9, 10, 6, 11, 54, 55, 56, 57, 58, 59, 60, 61, 62, 63, 64, 65, 66, 67, 68, 69, 70, 71, 72, 73, 74, 75, 76, 77] (by decide +kernel) (by decide +kernel)
set_option maxRecDepth 20000 in
theorem gX6_piece_X6_isPiece : GoodIn wsX6_piece (wsV RX6 165 RX6 yX6_isPiece wsX6_isPiece) := goodIn_app (goodIn_of _ (by decide +kernel)) ggX6_piece_X6_isPiece
set_option maxRecDepth 20000 in
theorem ggX6_piece_X6_asItIs : GoodIn wsX6_piece wsX6_asItIs := goodIn_r _ [15, 16, 2, 17, 18, 6, 19, 54, 55, 56, 57, 58, 59, 60, 61, 62, 63, 64, 65, 66, 67, 68, 69, 70, 71, 72, 73, 74, 75, 76, 77] (by decide +kernel) (by decide +kernel)
set_option maxRecDepth 20000 in
theorem gX6_piece_X6_asItIs : GoodIn wsX6_piece (wsV RX6 168 RX6 yX6_asItIs wsX6_asItIs) := goodIn_app (goodIn_of _ (by decide +kernel)) ggX6_piece_X6_asItIs
set_option maxRecDepth 20000 in
theorem ggX6_piece_X6_toldBy : GoodIn wsX6_piece wsX6_toldBy := goodIn_r _ [23, 24, 25, 26, 27, 6, 28, 16, 1, 29, 30, 31, 32, 33, 34, 35, 36, 37, 38, 39, 40, 41, 42, 43, 44, 45, 54, 55, 56, 57, 58, 59, 60, 61, 62, 63, 64, 65, 66, 67, 68, 69, 70, 71, 72, 73, 74, 75, 76, 77] (by decide +kernel) (by decide +kernel)
set_option maxRecDepth 20000 in
theorem gX6_piece_X6_toldBy : GoodIn wsX6_piece (wsV RX6 162 RX6 yX6_toldBy wsX6_toldBy) := goodIn_app (goodIn_of _ (by decide +kernel)) ggX6_piece_X6_toldBy
set_option maxRecDepth 20000 in
theorem ggX6_piece_X6_isLoose : GoodIn wsX6_piece wsX6_isLoose := goodIn_r _ [49, 16, 50, 1, 51, 52, 6, 53, 54, 55, 56, 57, 58, 59, 60, 61, 62, 63, 64, 65, 66, 67, 68, 69, 70, 71, 72, 73, 74, 75, 76, 77] (by decide +kernel) (by decide +kernel)
set_option maxRecDepth 20000 in
theorem gX6_piece_X6_isLoose : GoodIn wsX6_piece (wsV RX6 159 RX6 yX6_isLoose wsX6_isLoose) := goodIn_app (goodIn_of _ (by decide +kernel)) ggX6_piece_X6_isLoose
theorem dX6_piece_0 : decode cX6_piece 0 = .ok (.aload_n 0, 1) := by decide +kernel
theorem dX6_piece_1 : decode cX6_piece 1 = .ok (.iload_n 1, 1) := by decide +kernel
theorem dX6_piece_2 : decode cX6_piece 2 = .ok (.invokevirtual 165, 3) := by decide +kernel
theorem dX6_piece_5 : decode cX6_piece 5 = .ok (.ifCond .ne 5, 3) := by decide +kernel
theorem dX6_piece_8 : decode cX6_piece 8 = .ok (.iconst (-1), 1) := by decide +kernel
theorem dX6_piece_9 : decode cX6_piece 9 = .ok (.ireturn, 1) := by decide +kernel
theorem dX6_piece_10 : decode cX6_piece 10 = .ok (.aload_n 0, 1) := by decide +kernel
theorem dX6_piece_11 : decode cX6_piece 11 = .ok (.invokevirtual 168, 3) := by decide +kernel
theorem dX6_piece_14 : decode cX6_piece 14 = .ok (.iload_n 2, 1) := by decide +kernel
theorem dX6_piece_15 : decode cX6_piece 15 = .ok (.tableswitch 96 0 5 #[37, 46, 55, 66, 76, 82], 37) := by decide +kernel
theorem dX6_piece_52 : decode cX6_piece 52 = .ok (.aload_n 0, 1) := by decide +kernel
theorem dX6_piece_53 : decode cX6_piece 53 = .ok (.getfield 7, 3) := by decide +kernel
theorem dX6_piece_56 : decode cX6_piece 56 = .ok (.iconst 2, 1) := by decide +kernel
theorem dX6_piece_57 : decode cX6_piece 57 = .ok (.iload_n 1, 1) := by decide +kernel
theorem dX6_piece_58 : decode cX6_piece 58 = .ok (.imul, 1) := by decide +kernel
theorem dX6_piece_59 : decode cX6_piece 59 = .ok (.iaload, 1) := by decide +kernel
theorem dX6_piece_60 : decode cX6_piece 60 = .ok (.ireturn, 1) := by decide +kernel
theorem dX6_piece_61 : decode cX6_piece 61 = .ok (.aload_n 0, 1) := by decide +kernel
theorem dX6_piece_62 : decode cX6_piece 62 = .ok (.getfield 16, 3) := by decide +kernel
theorem dX6_piece_65 : decode cX6_piece 65 = .ok (.iconst 2, 1) := by decide +kernel
theorem dX6_piece_66 : decode cX6_piece 66 = .ok (.iload_n 1, 1) := by decide +kernel
theorem dX6_piece_67 : decode cX6_piece 67 = .ok (.iadd, 1) := by decide +kernel
theorem dX6_piece_68 : decode cX6_piece 68 = .ok (.iaload, 1) := by decide +kernel
theorem dX6_piece_69 : decode cX6_piece 69 = .ok (.ireturn, 1) := by decide +kernel
theorem dX6_piece_70 : decode cX6_piece 70 = .ok (.aload_n 0, 1) := by decide +kernel
theorem dX6_piece_71 : decode cX6_piece 71 = .ok (.getfield 7, 3) := by decide +kernel
theorem dX6_piece_74 : decode cX6_piece 74 = .ok (.iconst 2, 1) := by decide +kernel
theorem dX6_piece_75 : decode cX6_piece 75 = .ok (.iload_n 1, 1) := by decide +kernel
theorem dX6_piece_76 : decode cX6_piece 76 = .ok (.imul, 1) := by decide +kernel
theorem dX6_piece_77 : decode cX6_piece 77 = .ok (.iconst 1, 1) := by decide +kernel
theorem dX6_piece_78 : decode cX6_piece 78 = .ok (.iadd, 1) := by decide +kernel
theorem dX6_piece_79 : decode cX6_piece 79 = .ok (.iaload, 1) := by decide +kernel
theorem dX6_piece_80 : decode cX6_piece 80 = .ok (.ireturn, 1) := by decide +kernel
theorem dX6_piece_81 : decode cX6_piece 81 = .ok (.aload_n 0, 1) := by decide +kernel
theorem dX6_piece_82 : decode cX6_piece 82 = .ok (.getfield 16, 3) := by decide +kernel
theorem dX6_piece_85 : decode cX6_piece 85 = .ok (.bipush 10, 2) := by decide +kernel
theorem dX6_piece_87 : decode cX6_piece 87 = .ok (.iload_n 1, 1) := by decide +kernel
theorem dX6_piece_88 : decode cX6_piece 88 = .ok (.iadd, 1) := by decide +kernel
theorem dX6_piece_89 : decode cX6_piece 89 = .ok (.iaload, 1) := by decide +kernel
theorem dX6_piece_90 : decode cX6_piece 90 = .ok (.ireturn, 1) := by decide +kernel
theorem dX6_piece_91 : decode cX6_piece 91 = .ok (.aload_n 0, 1) := by decide +kernel
theorem dX6_piece_92 : decode cX6_piece 92 = .ok (.iload_n 1, 1) := by decide +kernel
theorem dX6_piece_93 : decode cX6_piece 93 = .ok (.invokevirtual 162, 3) := by decide +kernel
theorem dX6_piece_96 : decode cX6_piece 96 = .ok (.ireturn, 1) := by decide +kernel
theorem dX6_piece_97 : decode cX6_piece 97 = .ok (.aload_n 0, 1) := by decide +kernel
theorem dX6_piece_98 : decode cX6_piece 98 = .ok (.iload_n 1, 1) := by decide +kernel
theorem dX6_piece_99 : decode cX6_piece 99 = .ok (.invokevirtual 159, 3) := by decide +kernel
theorem dX6_piece_102 : decode cX6_piece 102 = .ok (.ifCond .eq 7, 3) := by decide +kernel
theorem dX6_piece_105 : decode cX6_piece 105 = .ok (.iconst 1, 1) := by decide +kernel
theorem dX6_piece_106 : decode cX6_piece 106 = .ok (.goto 4, 3) := by decide +kernel
theorem dX6_piece_109 : decode cX6_piece 109 = .ok (.iconst 0, 1) := by decide +kernel
theorem dX6_piece_110 : decode cX6_piece 110 = .ok (.ireturn, 1) := by decide +kernel
theorem dX6_piece_111 : decode cX6_piece 111 = .ok (.iconst (-1), 1) := by decide +kernel
theorem dX6_piece_112 : decode cX6_piece 112 = .ok (.ireturn, 1) := by decide +kernel
set_option maxRecDepth 20000 in
theorem ggX6_deed_X6_isDeed : GoodIn wsX6_deed wsX6_isDeed := goodIn_r _ [7, 8, 9, 10, 6, 11, 54, 55, 56, 57, 58, 59, 60, 61, 62, 63, 64, 65, 66, 67, 68, 69, 70, 71, 72, 73, 74, 75, 76, 77] (by decide +kernel) (by decide +kernel)
set_option maxRecDepth 20000 in
theorem gX6_deed_X6_isDeed : GoodIn wsX6_deed (wsV RX6 171 RX6 yX6_isDeed wsX6_isDeed) := goodIn_app (goodIn_of _ (by decide +kernel)) ggX6_deed_X6_isDeed
set_option maxRecDepth 20000 in
theorem ggX6_deed_X6_in : GoodIn wsX6_deed wsX6_in := goodIn_r _ [11] (by decide +kernel) (by decide +kernel)
set_option maxRecDepth 20000 in
theorem gX6_deed_X6_in : GoodIn wsX6_deed (va_wsS RX6 76 yX6_in wsX6_in) := goodIn_app (goodIn_of _ (by decide +kernel)) ggX6_deed_X6_in
set_option maxRecDepth 20000 in
theorem ggX6_deed_X6_asItIs : GoodIn wsX6_deed wsX6_asItIs := goodIn_r _ [15, 16, 2, 17, 18, 6, 19, 54, 55, 56, 57, 58, 59, 60, 61, 62, 63, 64, 65, 66, 67, 68, 69, 70, 71, 72, 73, 74, 75, 76, 77] (by decide +kernel) (by decide +kernel)
set_option maxRecDepth 20000 in
theorem gX6_deed_X6_asItIs : GoodIn wsX6_deed (wsV RX6 168 RX6 yX6_asItIs wsX6_asItIs) := goodIn_app (goodIn_of _ (by decide +kernel)) ggX6_deed_X6_asItIs
set_option maxRecDepth 20000 in
theorem ggX6_deed_X6_tellers : GoodIn wsX6_deed wsX6_tellers := goodIn_r _ [23, 24, 8, 25, 26, 27, 6, 28, 16, 29, 30, 31, 32, 33, 34, 35, 36, 37, 38, 39, 40, 41, 1, 42, 43, 44, 45, 46, 47, 48, 49, 50, 51, 52, 53, 54, 55, 56, 57, 58, 59, 60, 61, 62, 63, 64, 65, 66, 67, 68, 69, 70, 71, 72, 73, 74, 75, 76, 77] (by decide +kernel) (by decide +kernel)
set_option maxRecDepth 20000 in
theorem gX6_deed_X6_tellers : GoodIn wsX6_deed (wsV RX6 174 RX6 yX6_tellers wsX6_tellers) := goodIn_app (goodIn_of _ (by decide +kernel)) ggX6_deed_X6_tellers
theorem dX6_deed_0 : decode cX6_deed 0 = .ok (.aload_n 0, 1) := by decide +kernel
theorem dX6_deed_1 : decode cX6_deed 1 = .ok (.iload_n 1, 1) := by decide +kernel
theorem dX6_deed_2 : decode cX6_deed 2 = .ok (.invokevirtual 171, 3) := by decide +kernel
theorem dX6_deed_5 : decode cX6_deed 5 = .ok (.ifCond .eq 12, 3) := by decide +kernel
theorem dX6_deed_8 : decode cX6_deed 8 = .ok (.iload_n 2, 1) := by decide +kernel
theorem dX6_deed_9 : decode cX6_deed 9 = .ok (.iconst 0, 1) := by decide +kernel
theorem dX6_deed_10 : decode cX6_deed 10 = .ok (.iconst 5, 1) := by decide +kernel
theorem dX6_deed_11 : decode cX6_deed 11 = .ok (.invokestatic 76, 3) := by decide +kernel
theorem dX6_deed_14 : decode cX6_deed 14 = .ok (.ifCond .ne 5, 3) := by decide +kernel
theorem dX6_deed_17 : decode cX6_deed 17 = .ok (.iconst (-1), 1) := by decide +kernel
theorem dX6_deed_18 : decode cX6_deed 18 = .ok (.ireturn, 1) := by decide +kernel
theorem dX6_deed_19 : decode cX6_deed 19 = .ok (.aload_n 0, 1) := by decide +kernel
theorem dX6_deed_20 : decode cX6_deed 20 = .ok (.invokevirtual 168, 3) := by decide +kernel
theorem dX6_deed_23 : decode cX6_deed 23 = .ok (.iload_n 2, 1) := by decide +kernel
theorem dX6_deed_24 : decode cX6_deed 24 = .ok (.iconst 4, 1) := by decide +kernel
theorem dX6_deed_25 : decode cX6_deed 25 = .ok (.if_icmp .ge 16, 3) := by decide +kernel
theorem dX6_deed_28 : decode cX6_deed 28 = .ok (.aload_n 0, 1) := by decide +kernel
theorem dX6_deed_29 : decode cX6_deed 29 = .ok (.getfield 13, 3) := by decide +kernel
theorem dX6_deed_32 : decode cX6_deed 32 = .ok (.iconst 4, 1) := by decide +kernel
theorem dX6_deed_33 : decode cX6_deed 33 = .ok (.iload_n 1, 1) := by decide +kernel
theorem dX6_deed_34 : decode cX6_deed 34 = .ok (.imul, 1) := by decide +kernel
theorem dX6_deed_35 : decode cX6_deed 35 = .ok (.iload_n 2, 1) := by decide +kernel
theorem dX6_deed_36 : decode cX6_deed 36 = .ok (.iadd, 1) := by decide +kernel
theorem dX6_deed_37 : decode cX6_deed 37 = .ok (.iaload, 1) := by decide +kernel
theorem dX6_deed_38 : decode cX6_deed 38 = .ok (.goto 26, 3) := by decide +kernel
theorem dX6_deed_41 : decode cX6_deed 41 = .ok (.iload_n 2, 1) := by decide +kernel
theorem dX6_deed_42 : decode cX6_deed 42 = .ok (.iconst 4, 1) := by decide +kernel
theorem dX6_deed_43 : decode cX6_deed 43 = .ok (.if_icmp .ne 16, 3) := by decide +kernel
theorem dX6_deed_46 : decode cX6_deed 46 = .ok (.aload_n 0, 1) := by decide +kernel
theorem dX6_deed_47 : decode cX6_deed 47 = .ok (.getfield 16, 3) := by decide +kernel
theorem dX6_deed_50 : decode cX6_deed 50 = .ok (.iconst 1, 1) := by decide +kernel
theorem dX6_deed_51 : decode cX6_deed 51 = .ok (.iaload, 1) := by decide +kernel
theorem dX6_deed_52 : decode cX6_deed 52 = .ok (.iload_n 1, 1) := by decide +kernel
theorem dX6_deed_53 : decode cX6_deed 53 = .ok (.ishr, 1) := by decide +kernel
theorem dX6_deed_54 : decode cX6_deed 54 = .ok (.iconst 1, 1) := by decide +kernel
theorem dX6_deed_55 : decode cX6_deed 55 = .ok (.iand, 1) := by decide +kernel
theorem dX6_deed_56 : decode cX6_deed 56 = .ok (.goto 8, 3) := by decide +kernel
theorem dX6_deed_59 : decode cX6_deed 59 = .ok (.aload_n 0, 1) := by decide +kernel
theorem dX6_deed_60 : decode cX6_deed 60 = .ok (.iload_n 1, 1) := by decide +kernel
theorem dX6_deed_61 : decode cX6_deed 61 = .ok (.invokevirtual 174, 3) := by decide +kernel
theorem dX6_deed_64 : decode cX6_deed 64 = .ok (.ireturn, 1) := by decide +kernel
set_option maxRecDepth 20000 in
theorem ggX6_remembers_X6_copies : GoodIn wsX6_remembers wsX6_copies := goodIn_r _ [7] (by decide +kernel) (by decide +kernel)
set_option maxRecDepth 20000 in
theorem gX6_remembers_X6_copies : GoodIn wsX6_remembers (va_wsS RX6 123 yX6_copies wsX6_copies) := goodIn_app (goodIn_of _ (by decide +kernel)) ggX6_remembers_X6_copies
theorem dX6_remembers_0 : decode cX6_remembers 0 = .ok (.aload_n 0, 1) := by decide +kernel
theorem dX6_remembers_1 : decode cX6_remembers 1 = .ok (.getfield 130, 3) := by decide +kernel
theorem dX6_remembers_4 : decode cX6_remembers 4 = .ok (.bipush 8, 2) := by decide +kernel
theorem dX6_remembers_6 : decode cX6_remembers 6 = .ok (.if_icmp .ne 42, 3) := by decide +kernel
theorem dX6_remembers_9 : decode cX6_remembers 9 = .ok (.iconst 0, 1) := by decide +kernel
theorem dX6_remembers_10 : decode cX6_remembers 10 = .ok (.istore_n 1, 1) := by decide +kernel
theorem dX6_remembers_11 : decode cX6_remembers 11 = .ok (.iload_n 1, 1) := by decide +kernel
theorem dX6_remembers_12 : decode cX6_remembers 12 = .ok (.bipush 126, 2) := by decide +kernel
theorem dX6_remembers_14 : decode cX6_remembers 14 = .ok (.if_icmp .ge 24, 3) := by decide +kernel
theorem dX6_remembers_17 : decode cX6_remembers 17 = .ok (.aload_n 0, 1) := by decide +kernel
theorem dX6_remembers_18 : decode cX6_remembers 18 = .ok (.getfield 19, 3) := by decide +kernel
theorem dX6_remembers_21 : decode cX6_remembers 21 = .ok (.iload_n 1, 1) := by decide +kernel
theorem dX6_remembers_22 : decode cX6_remembers 22 = .ok (.aload_n 0, 1) := by decide +kernel
theorem dX6_remembers_23 : decode cX6_remembers 23 = .ok (.getfield 19, 3) := by decide +kernel
theorem dX6_remembers_26 : decode cX6_remembers 26 = .ok (.iload_n 1, 1) := by decide +kernel
theorem dX6_remembers_27 : decode cX6_remembers 27 = .ok (.bipush 18, 2) := by decide +kernel
theorem dX6_remembers_29 : decode cX6_remembers 29 = .ok (.iadd, 1) := by decide +kernel
theorem dX6_remembers_30 : decode cX6_remembers 30 = .ok (.iaload, 1) := by decide +kernel
theorem dX6_remembers_31 : decode cX6_remembers 31 = .ok (.iastore, 1) := by decide +kernel
theorem dX6_remembers_32 : decode cX6_remembers 32 = .ok (.iinc 1 1, 3) := by decide +kernel
