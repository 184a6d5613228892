set_option maxRecDepth 20000 in
theorem ggX6_cover_X6_in : GoodIn wsX6_cover wsX6_in := goodIn_r _ [5] (by decide +kernel) (by decide +kernel)
set_option maxRecDepth 20000 in
theorem gX6_cover_X6_in : GoodIn wsX6_cover (va_wsS RX6 76 yX6_in wsX6_in) := goodIn_app (goodIn_of _ (by decide +kernel)) ggX6_cover_X6_in
set_option maxRecDepth 20000 in
theorem ggX6_cover_X6_asItIs : GoodIn wsX6_cover wsX6_asItIs := goodIn_r _ [9, 10, 11, 12, 13, 4, 14, 61, 62, 63, 64, 65, 66, 67, 68, 69, 70, 71, 72, 73, 74, 75, 76, 77, 78, 79, 80, 81, 82, 83, 84] (by decide +kernel) (by decide +kernel)
set_option maxRecDepth 20000 in
theorem gX6_cover_X6_asItIs : GoodIn wsX6_cover (wsV RX6 168 RX6 yX6_asItIs wsX6_asItIs) := goodIn_app (goodIn_of _ (by decide +kernel)) ggX6_cover_X6_asItIs
set_option maxRecDepth 20000 in
theorem ggX6_cover_X6_loose : GoodIn wsX6_cover wsX6_loose := goodIn_r _ [18, 1, 19, 20, 21, 4, 22, 10, 23, 24, 25, 26, 27, 61, 62, 63, 64, 65, 66, 67, 68, 69, 70, 71, 72, 73, 74, 75, 76, 77, 78, 79, 80, 81, 82, 83, 84] (by decide +kernel) (by decide +kernel)
set_option maxRecDepth 20000 in
theorem gX6_cover_X6_loose : GoodIn wsX6_cover (wsV RX6 183 RX6 yX6_loose wsX6_loose) := goodIn_app (goodIn_of _ (by decide +kernel)) ggX6_cover_X6_loose
set_option maxRecDepth 20000 in
theorem ggX6_cover_X6_toldByAll : GoodIn wsX6_cover wsX6_toldByAll := goodIn_r _ [31, 1, 25, 26, 4, 27, 32, 33, 34, 35, 36, 37, 38, 39, 40, 10, 24, 41, 42, 43, 44, 45, 46, 47, 48, 49, 50, 51, 52, 53, 54, 55, 56, 57, 61, 62, 63, 64, 65, 66, 67, 68, 69, 70, 71, 72, 73, 74, 75, 76, 77, 78, 79, 80, 81, 82, 83, 84] (by decide +kernel) (by decide +kernel)
set_option maxRecDepth 20000 in
theorem gX6_cover_X6_toldByAll : GoodIn wsX6_cover (wsV RX6 186 RX6 yX6_toldByAll wsX6_toldByAll) := goodIn_app (goodIn_of _ (by decide +kernel)) ggX6_cover_X6_toldByAll
set_option maxRecDepth 20000 in
theorem ggX6_cover_X6_bits : GoodIn wsX6_cover wsX6_bits := goodIn_r _ [60] (by decide +kernel) (by decide +kernel)
set_option maxRecDepth 20000 in
theorem gX6_cover_X6_bits : GoodIn wsX6_cover (va_wsS RX6 180 yX6_bits wsX6_bits) := goodIn_app (goodIn_of _ (by decide +kernel)) ggX6_cover_X6_bits
theorem dX6_cover_0 : decode cX6_cover 0 = .ok (.iload_n 1, 1) := by decide +kernel
theorem dX6_cover_1 : decode cX6_cover 1 = .ok (.iconst 0, 1) := by decide +kernel
theorem dX6_cover_2 : decode cX6_cover 2 = .ok (.iconst 1, 1) := by decide +kernel
theorem dX6_cover_3 : decode cX6_cover 3 = .ok (.invokestatic 76, 3) := by decide +kernel
theorem dX6_cover_6 : decode cX6_cover 6 = .ok (.ifCond .ne 5, 3) := by decide +kernel
theorem dX6_cover_9 : decode cX6_cover 9 = .ok (.iconst (-1), 1) := by decide +kernel
theorem dX6_cover_10 : decode cX6_cover 10 = .ok (.ireturn, 1) := by decide +kernel
theorem dX6_cover_11 : decode cX6_cover 11 = .ok (.aload_n 0, 1) := by decide +kernel
theorem dX6_cover_12 : decode cX6_cover 12 = .ok (.invokevirtual 168, 3) := by decide +kernel
theorem dX6_cover_15 : decode cX6_cover 15 = .ok (.aload_n 0, 1) := by decide +kernel
theorem dX6_cover_16 : decode cX6_cover 16 = .ok (.invokevirtual 183, 3) := by decide +kernel
theorem dX6_cover_19 : decode cX6_cover 19 = .ok (.istore_n 2, 1) := by decide +kernel
theorem dX6_cover_20 : decode cX6_cover 20 = .ok (.iload_n 2, 1) := by decide +kernel
theorem dX6_cover_21 : decode cX6_cover 21 = .ok (.istore_n 3, 1) := by decide +kernel
theorem dX6_cover_22 : decode cX6_cover 22 = .ok (.iconst 0, 1) := by decide +kernel
theorem dX6_cover_23 : decode cX6_cover 23 = .ok (.istore 4, 2) := by decide +kernel
theorem dX6_cover_25 : decode cX6_cover 25 = .ok (.iload 4, 2) := by decide +kernel
theorem dX6_cover_27 : decode cX6_cover 27 = .ok (.iconst 1, 1) := by decide +kernel
theorem dX6_cover_28 : decode cX6_cover 28 = .ok (.aload_n 0, 1) := by decide +kernel
theorem dX6_cover_29 : decode cX6_cover 29 = .ok (.getfield 73, 3) := by decide +kernel
theorem dX6_cover_32 : decode cX6_cover 32 = .ok (.ishl, 1) := by decide +kernel
theorem dX6_cover_33 : decode cX6_cover 33 = .ok (.if_icmp .ge 81, 3) := by decide +kernel
theorem dX6_cover_36 : decode cX6_cover 36 = .ok (.iload 4, 2) := by decide +kernel
theorem dX6_cover_38 : decode cX6_cover 38 = .ok (.iload_n 2, 1) := by decide +kernel
theorem dX6_cover_39 : decode cX6_cover 39 = .ok (.iconst (-1), 1) := by decide +kernel
theorem dX6_cover_40 : decode cX6_cover 40 = .ok (.ixor, 1) := by decide +kernel
theorem dX6_cover_41 : decode cX6_cover 41 = .ok (.iand, 1) := by decide +kernel
theorem dX6_cover_42 : decode cX6_cover 42 = .ok (.ifCond .ne 21, 3) := by decide +kernel
theorem dX6_cover_45 : decode cX6_cover 45 = .ok (.aload_n 0, 1) := by decide +kernel
theorem dX6_cover_46 : decode cX6_cover 46 = .ok (.iload 4, 2) := by decide +kernel
theorem dX6_cover_48 : decode cX6_cover 48 = .ok (.invokevirtual 186, 3) := by decide +kernel
theorem dX6_cover_51 : decode cX6_cover 51 = .ok (.aload_n 0, 1) := by decide +kernel
theorem dX6_cover_52 : decode cX6_cover 52 = .ok (.iload_n 2, 1) := by decide +kernel
theorem dX6_cover_53 : decode cX6_cover 53 = .ok (.invokevirtual 186, 3) := by decide +kernel
theorem dX6_cover_56 : decode cX6_cover 56 = .ok (.if_icmp .ne 7, 3) := by decide +kernel
theorem dX6_cover_59 : decode cX6_cover 59 = .ok (.iconst 1, 1) := by decide +kernel
theorem dX6_cover_60 : decode cX6_cover 60 = .ok (.goto 4, 3) := by decide +kernel
theorem dX6_cover_63 : decode cX6_cover 63 = .ok (.iconst 0, 1) := by decide +kernel
theorem dX6_cover_64 : decode cX6_cover 64 = .ok (.istore 5, 2) := by decide +kernel
theorem dX6_cover_66 : decode cX6_cover 66 = .ok (.iload 5, 2) := by decide +kernel
theorem dX6_cover_68 : decode cX6_cover 68 = .ok (.ifCond .eq 38, 3) := by decide +kernel
theorem dX6_cover_71 : decode cX6_cover 71 = .ok (.iload 4, 2) := by decide +kernel
theorem dX6_cover_73 : decode cX6_cover 73 = .ok (.invokestatic 180, 3) := by decide +kernel
theorem dX6_cover_76 : decode cX6_cover 76 = .ok (.iload_n 3, 1) := by decide +kernel
theorem dX6_cover_77 : decode cX6_cover 77 = .ok (.invokestatic 180, 3) := by decide +kernel
theorem dX6_cover_80 : decode cX6_cover 80 = .ok (.if_icmp .lt 21, 3) := by decide +kernel
theorem dX6_cover_83 : decode cX6_cover 83 = .ok (.iload 4, 2) := by decide +kernel
theorem dX6_cover_85 : decode cX6_cover 85 = .ok (.invokestatic 180, 3) := by decide +kernel
theorem dX6_cover_88 : decode cX6_cover 88 = .ok (.iload_n 3, 1) := by decide +kernel
theorem dX6_cover_89 : decode cX6_cover 89 = .ok (.invokestatic 180, 3) := by decide +kernel
theorem dX6_cover_92 : decode cX6_cover 92 = .ok (.if_icmp .ne 14, 3) := by decide +kernel
theorem dX6_cover_95 : decode cX6_cover 95 = .ok (.iload 4, 2) := by decide +kernel
theorem dX6_cover_97 : decode cX6_cover 97 = .ok (.iload_n 3, 1) := by decide +kernel
theorem dX6_cover_98 : decode cX6_cover 98 = .ok (.if_icmp .ge 8, 3) := by decide +kernel
theorem dX6_cover_101 : decode cX6_cover 101 = .ok (.iload 4, 2) := by decide +kernel
theorem dX6_cover_103 : decode cX6_cover 103 = .ok (.goto 4, 3) := by decide +kernel
theorem dX6_cover_106 : decode cX6_cover 106 = .ok (.iload_n 3, 1) := by decide +kernel
theorem dX6_cover_107 : decode cX6_cover 107 = .ok (.istore_n 3, 1) := by decide +kernel
theorem dX6_cover_108 : decode cX6_cover 108 = .ok (.iinc 4 1, 3) := by decide +kernel
theorem dX6_cover_111 : decode cX6_cover 111 = .ok (.goto (-86), 3) := by decide +kernel
theorem dX6_cover_114 : decode cX6_cover 114 = .ok (.iload_n 1, 1) := by decide +kernel
theorem dX6_cover_115 : decode cX6_cover 115 = .ok (.ifCond .ne 10, 3) := by decide +kernel
theorem dX6_cover_118 : decode cX6_cover 118 = .ok (.iload_n 3, 1) := by decide +kernel
theorem dX6_cover_119 : decode cX6_cover 119 = .ok (.invokestatic 180, 3) := by decide +kernel
theorem dX6_cover_122 : decode cX6_cover 122 = .ok (.goto 4, 3) := by decide +kernel
theorem dX6_cover_125 : decode cX6_cover 125 = .ok (.iload_n 3, 1) := by decide +kernel
theorem dX6_cover_126 : decode cX6_cover 126 = .ok (.ireturn, 1) := by decide +kernel
set_option maxRecDepth 20000 in
theorem ggX6_safe_X6_in : GoodIn wsX6_safe wsX6_in := goodIn_r _ [7] (by decide +kernel) (by decide +kernel)
set_option maxRecDepth 20000 in
theorem gX6_safe_X6_in : GoodIn wsX6_safe (va_wsS RX6 76 yX6_in wsX6_in) := goodIn_app (goodIn_of _ (by decide +kernel)) ggX6_safe_X6_in
set_option maxRecDepth 20000 in
theorem ggX6_safe_X6_asItIs : GoodIn wsX6_safe wsX6_asItIs := goodIn_r _ [11, 12, 13, 14, 15, 6, 16, 46, 47, 48, 49, 50, 51, 52, 53, 54, 55, 56, 57, 58, 59, 60, 61, 62, 63, 64, 65, 66, 67, 68, 69] (by decide +kernel) (by decide +kernel)
set_option maxRecDepth 20000 in
theorem gX6_safe_X6_asItIs : GoodIn wsX6_safe (wsV RX6 168 RX6 yX6_asItIs wsX6_asItIs) := goodIn_app (goodIn_of _ (by decide +kernel)) ggX6_safe_X6_asItIs
set_option maxRecDepth 20000 in
theorem ggX6_safe_X6_isLoose : GoodIn wsX6_safe wsX6_isLoose := goodIn_r _ [20, 12, 21, 22, 23, 24, 6, 25, 46, 47, 48, 49, 50, 51, 52, 53, 54, 55, 56, 57, 58, 59, 60, 61, 62, 63, 64, 65, 66, 67, 68, 69] (by decide +kernel) (by decide +kernel)
set_option maxRecDepth 20000 in
theorem gX6_safe_X6_isLoose : GoodIn wsX6_safe (wsV RX6 159 RX6 yX6_isLoose wsX6_isLoose) := goodIn_app (goodIn_of _ (by decide +kernel)) ggX6_safe_X6_isLoose
set_option maxRecDepth 20000 in
theorem ggX6_safe_X6_doesTell : GoodIn wsX6_safe wsX6_doesTell := goodIn_r _ [29, 12, 22, 30, 31, 32, 6, 33, 1, 34, 35, 36, 37, 38, 39, 40, 41, 42, 43, 44, 45, 46, 47, 48, 49, 50, 51, 52, 53, 54, 55, 56, 57, 58, 59, 60, 61, 62, 63, 64, 65, 66, 67, 68, 69] (by decide +kernel) (by decide +kernel)
set_option maxRecDepth 20000 in
theorem gX6_safe_X6_doesTell : GoodIn wsX6_safe (wsV RX6 152 RX6 yX6_doesTell wsX6_doesTell) := goodIn_app (goodIn_of _ (by decide +kernel)) ggX6_safe_X6_doesTell
theorem dX6_safe_0 : decode cX6_safe 0 = .ok (.iload_n 1, 1) := by decide +kernel
theorem dX6_safe_1 : decode cX6_safe 1 = .ok (.iconst 0, 1) := by decide +kernel
theorem dX6_safe_2 : decode cX6_safe 2 = .ok (.bipush 23, 2) := by decide +kernel
theorem dX6_safe_4 : decode cX6_safe 4 = .ok (.invokestatic 76, 3) := by decide +kernel
theorem dX6_safe_7 : decode cX6_safe 7 = .ok (.ifCond .eq 13, 3) := by decide +kernel
theorem dX6_safe_10 : decode cX6_safe 10 = .ok (.iload_n 2, 1) := by decide +kernel
theorem dX6_safe_11 : decode cX6_safe 11 = .ok (.iconst 1, 1) := by decide +kernel
theorem dX6_safe_12 : decode cX6_safe 12 = .ok (.bipush 30, 2) := by decide +kernel
theorem dX6_safe_14 : decode cX6_safe 14 = .ok (.invokestatic 76, 3) := by decide +kernel
theorem dX6_safe_17 : decode cX6_safe 17 = .ok (.ifCond .ne 5, 3) := by decide +kernel
theorem dX6_safe_20 : decode cX6_safe 20 = .ok (.iconst (-1), 1) := by decide +kernel
theorem dX6_safe_21 : decode cX6_safe 21 = .ok (.ireturn, 1) := by decide +kernel
theorem dX6_safe_22 : decode cX6_safe 22 = .ok (.aload_n 0, 1) := by decide +kernel
theorem dX6_safe_23 : decode cX6_safe 23 = .ok (.invokevirtual 168, 3) := by decide +kernel
theorem dX6_safe_26 : decode cX6_safe 26 = .ok (.iconst 0, 1) := by decide +kernel
theorem dX6_safe_27 : decode cX6_safe 27 = .ok (.istore_n 3, 1) := by decide +kernel
theorem dX6_safe_28 : decode cX6_safe 28 = .ok (.iconst 0, 1) := by decide +kernel
theorem dX6_safe_29 : decode cX6_safe 29 = .ok (.istore 4, 2) := by decide +kernel
theorem dX6_safe_31 : decode cX6_safe 31 = .ok (.iload 4, 2) := by decide +kernel
theorem dX6_safe_33 : decode cX6_safe 33 = .ok (.iconst 4, 1) := by decide +kernel
theorem dX6_safe_34 : decode cX6_safe 34 = .ok (.if_icmp .ge 129, 3) := by decide +kernel
theorem dX6_safe_37 : decode cX6_safe 37 = .ok (.aload_n 0, 1) := by decide +kernel
theorem dX6_safe_38 : decode cX6_safe 38 = .ok (.getfield 13, 3) := by decide +kernel
theorem dX6_safe_41 : decode cX6_safe 41 = .ok (.iconst 4, 1) := by decide +kernel
theorem dX6_safe_42 : decode cX6_safe 42 = .ok (.aload_n 0, 1) := by decide +kernel
theorem dX6_safe_43 : decode cX6_safe 43 = .ok (.getfield 80, 3) := by decide +kernel
theorem dX6_safe_46 : decode cX6_safe 46 = .ok (.imul, 1) := by decide +kernel
theorem dX6_safe_47 : decode cX6_safe 47 = .ok (.iconst 1, 1) := by decide +kernel
theorem dX6_safe_48 : decode cX6_safe 48 = .ok (.iadd, 1) := by decide +kernel
theorem dX6_safe_49 : decode cX6_safe 49 = .ok (.iload 4, 2) := by decide +kernel
theorem dX6_safe_51 : decode cX6_safe 51 = .ok (.iastore, 1) := by decide +kernel
theorem dX6_safe_52 : decode cX6_safe 52 = .ok (.aload_n 0, 1) := by decide +kernel
theorem dX6_safe_53 : decode cX6_safe 53 = .ok (.getfield 13, 3) := by decide +kernel
theorem dX6_safe_56 : decode cX6_safe 56 = .ok (.iconst 4, 1) := by decide +kernel
theorem dX6_safe_57 : decode cX6_safe 57 = .ok (.aload_n 0, 1) := by decide +kernel
theorem dX6_safe_58 : decode cX6_safe 58 = .ok (.getfield 80, 3) := by decide +kernel
theorem dX6_safe_61 : decode cX6_safe 61 = .ok (.imul, 1) := by decide +kernel
theorem dX6_safe_62 : decode cX6_safe 62 = .ok (.iconst 2, 1) := by decide +kernel
theorem dX6_safe_63 : decode cX6_safe 63 = .ok (.iadd, 1) := by decide +kernel
theorem dX6_safe_64 : decode cX6_safe 64 = .ok (.iload_n 1, 1) := by decide +kernel
theorem dX6_safe_65 : decode cX6_safe 65 = .ok (.iastore, 1) := by decide +kernel
theorem dX6_safe_66 : decode cX6_safe 66 = .ok (.aload_n 0, 1) := by decide +kernel
theorem dX6_safe_67 : decode cX6_safe 67 = .ok (.getfield 13, 3) := by decide +kernel
theorem dX6_safe_70 : decode cX6_safe 70 = .ok (.iconst 4, 1) := by decide +kernel
theorem dX6_safe_71 : decode cX6_safe 71 = .ok (.aload_n 0, 1) := by decide +kernel
theorem dX6_safe_72 : decode cX6_safe 72 = .ok (.getfield 80, 3) := by decide +kernel
theorem dX6_safe_75 : decode cX6_safe 75 = .ok (.imul, 1) := by decide +kernel
theorem dX6_safe_76 : decode cX6_safe 76 = .ok (.iconst 3, 1) := by decide +kernel
theorem dX6_safe_77 : decode cX6_safe 77 = .ok (.iadd, 1) := by decide +kernel
theorem dX6_safe_78 : decode cX6_safe 78 = .ok (.iload_n 2, 1) := by decide +kernel
theorem dX6_safe_79 : decode cX6_safe 79 = .ok (.iastore, 1) := by decide +kernel
theorem dX6_safe_80 : decode cX6_safe 80 = .ok (.iconst 1, 1) := by decide +kernel
theorem dX6_safe_81 : decode cX6_safe 81 = .ok (.istore 5, 2) := by decide +kernel
theorem dX6_safe_83 : decode cX6_safe 83 = .ok (.iconst 0, 1) := by decide +kernel
theorem dX6_safe_84 : decode cX6_safe 84 = .ok (.istore 6, 2) := by decide +kernel
theorem dX6_safe_86 : decode cX6_safe 86 = .ok (.iload 6, 2) := by decide +kernel
theorem dX6_safe_88 : decode cX6_safe 88 = .ok (.aload_n 0, 1) := by decide +kernel
theorem dX6_safe_89 : decode cX6_safe 89 = .ok (.getfield 73, 3) := by decide +kernel
theorem dX6_safe_92 : decode cX6_safe 92 = .ok (.if_icmp .ge 49, 3) := by decide +kernel
theorem dX6_safe_95 : decode cX6_safe 95 = .ok (.iload 5, 2) := by decide +kernel
theorem dX6_safe_97 : decode cX6_safe 97 = .ok (.ifCond .eq 35, 3) := by decide +kernel
theorem dX6_safe_100 : decode cX6_safe 100 = .ok (.aload_n 0, 1) := by decide +kernel
theorem dX6_safe_101 : decode cX6_safe 101 = .ok (.iload 6, 2) := by decide +kernel
theorem dX6_safe_103 : decode cX6_safe 103 = .ok (.invokevirtual 159, 3) := by decide +kernel
theorem dX6_safe_106 : decode cX6_safe 106 = .ok (.ifCond .eq 22, 3) := by decide +kernel
theorem dX6_safe_109 : decode cX6_safe 109 = .ok (.aload_n 0, 1) := by decide +kernel
theorem dX6_safe_110 : decode cX6_safe 110 = .ok (.iload 6, 2) := by decide +kernel
theorem dX6_safe_112 : decode cX6_safe 112 = .ok (.aload_n 0, 1) := by decide +kernel
theorem dX6_safe_113 : decode cX6_safe 113 = .ok (.getfield 80, 3) := by decide +kernel
theorem dX6_safe_116 : decode cX6_safe 116 = .ok (.aload_n 0, 1) := by decide +kernel
theorem dX6_safe_117 : decode cX6_safe 117 = .ok (.getfield 80, 3) := by decide +kernel
theorem dX6_safe_120 : decode cX6_safe 120 = .ok (.iconst 1, 1) := by decide +kernel
theorem dX6_safe_121 : decode cX6_safe 121 = .ok (.iadd, 1) := by decide +kernel
theorem dX6_safe_122 : decode cX6_safe 122 = .ok (.invokevirtual 152, 3) := by decide +kernel
theorem dX6_safe_125 : decode cX6_safe 125 = .ok (.ifCond .ne 7, 3) := by decide +kernel
theorem dX6_safe_128 : decode cX6_safe 128 = .ok (.iconst 1, 1) := by decide +kernel
theorem dX6_safe_129 : decode cX6_safe 129 = .ok (.goto 4, 3) := by decide +kernel
theorem dX6_safe_132 : decode cX6_safe 132 = .ok (.iconst 0, 1) := by decide +kernel
theorem dX6_safe_133 : decode cX6_safe 133 = .ok (.istore 5, 2) := by decide +kernel
theorem dX6_safe_135 : decode cX6_safe 135 = .ok (.iinc 6 1, 3) := by decide +kernel
theorem dX6_safe_138 : decode cX6_safe 138 = .ok (.goto (-52), 3) := by decide +kernel
theorem dX6_safe_141 : decode cX6_safe 141 = .ok (.iload_n 3, 1) := by decide +kernel
theorem dX6_safe_142 : decode cX6_safe 142 = .ok (.iload 5, 2) := by decide +kernel
theorem dX6_safe_144 : decode cX6_safe 144 = .ok (.ifCond .eq 10, 3) := by decide +kernel
theorem dX6_safe_147 : decode cX6_safe 147 = .ok (.iconst 1, 1) := by decide +kernel
theorem dX6_safe_148 : decode cX6_safe 148 = .ok (.iload 4, 2) := by decide +kernel
theorem dX6_safe_150 : decode cX6_safe 150 = .ok (.ishl, 1) := by decide +kernel
theorem dX6_safe_151 : decode cX6_safe 151 = .ok (.goto 4, 3) := by decide +kernel
theorem dX6_safe_154 : decode cX6_safe 154 = .ok (.iconst 0, 1) := by decide +kernel
theorem dX6_safe_155 : decode cX6_safe 155 = .ok (.ior, 1) := by decide +kernel
theorem dX6_safe_156 : decode cX6_safe 156 = .ok (.istore_n 3, 1) := by decide +kernel
theorem dX6_safe_157 : decode cX6_safe 157 = .ok (.iinc 4 1, 3) := by decide +kernel
theorem dX6_safe_160 : decode cX6_safe 160 = .ok (.goto (-129), 3) := by decide +kernel
theorem dX6_safe_163 : decode cX6_safe 163 = .ok (.iload_n 3, 1) := by decide +kernel
theorem dX6_safe_164 : decode cX6_safe 164 = .ok (.ireturn, 1) := by decide +kernel
set_option maxRecDepth 20000 in
theorem ggX6_dealer_X6_asItIs : GoodIn wsX6_dealer wsX6_asItIs := goodIn_r _ [7, 2, 8, 9, 10, 6, 11, 51, 52, 53, 54, 55, 56, 57, 58, 59, 60, 61, 62, 63, 64, 65, 66, 67, 68, 69, 70, 71, 72, 73, 74] (by decide +kernel) (by decide +kernel)
set_option maxRecDepth 20000 in
theorem gX6_dealer_X6_asItIs : GoodIn wsX6_dealer (wsV RX6 168 RX6 yX6_asItIs wsX6_asItIs) := goodIn_app (goodIn_of _ (by decide +kernel)) ggX6_dealer_X6_asItIs
set_option maxRecDepth 20000 in
theorem ggX6_dealer_X6_isLoose : GoodIn wsX6_dealer wsX6_isLoose := goodIn_r _ [15, 2, 16, 17, 18, 19, 6, 20, 51, 52, 53, 54, 55, 56, 57, 58, 59, 60, 61, 62, 63, 64, 65, 66, 67, 68, 69, 70, 71, 72, 73, 74] (by decide +kernel) (by decide +kernel)
set_option maxRecDepth 20000 in
theorem gX6_dealer_X6_isLoose : GoodIn wsX6_dealer (wsV RX6 159 RX6 yX6_isLoose wsX6_isLoose) := goodIn_app (goodIn_of _ (by decide +kernel)) ggX6_dealer_X6_isLoose
set_option maxRecDepth 20000 in
theorem ggX6_dealer_X6_toldBy : GoodIn wsX6_dealer wsX6_toldBy := goodIn_r _ [24, 25, 26, 27, 28, 6, 29, 2, 17, 30, 31, 32, 33, 34, 35, 36, 37, 38, 39, 40, 41, 42, 43, 44, 45, 46, 51, 52, 53, 54, 55, 56, 57, 58, 59, 60, 61, 62, 63, 64, 65, 66, 67, 68, 69, 70, 71, 72, 73, 74] (by decide +kernel) (by decide +kernel)
set_option maxRecDepth 20000 in
theorem gX6_dealer_X6_toldBy : GoodIn wsX6_dealer (wsV RX6 162 RX6 yX6_toldBy wsX6_toldBy) := goodIn_app (goodIn_of _ (by decide +kernel)) ggX6_dealer_X6_toldBy
set_option maxRecDepth 20000 in
theorem ggX6_dealer_X6_allWeigh : GoodIn wsX6_dealer wsX6_allWeigh := goodIn_r _ [50, 25, 18, 19, 6, 20, 43, 44, 45, 46, 34, 51, 52, 53, 54, 55, 56, 57, 58, 59, 60, 61, 62, 63, 64, 65, 66, 67, 68, 69, 70, 71, 72, 73, 74] (by decide +kernel) (by decide +kernel)
set_option maxRecDepth 20000 in
theorem gX6_dealer_X6_allWeigh : GoodIn wsX6_dealer (wsV RX6 195 RX6 yX6_allWeigh wsX6_allWeigh) := goodIn_app (goodIn_of _ (by decide +kernel)) ggX6_dealer_X6_allWeigh
theorem dX6_dealer_0 : decode cX6_dealer 0 = .ok (.iload_n 1, 1) := by decide +kernel
theorem dX6_dealer_1 : decode cX6_dealer 1 = .ok (.iconst (-1), 1) := by decide +kernel
theorem dX6_dealer_2 : decode cX6_dealer 2 = .ok (.if_icmp .ge 5, 3) := by decide +kernel
theorem dX6_dealer_5 : decode cX6_dealer 5 = .ok (.iconst (-1), 1) := by decide +kernel
theorem dX6_dealer_6 : decode cX6_dealer 6 = .ok (.ireturn, 1) := by decide +kernel
theorem dX6_dealer_7 : decode cX6_dealer 7 = .ok (.aload_n 0, 1) := by decide +kernel
theorem dX6_dealer_8 : decode cX6_dealer 8 = .ok (.invokevirtual 168, 3) := by decide +kernel
theorem dX6_dealer_11 : decode cX6_dealer 11 = .ok (.iconst 0, 1) := by decide +kernel
theorem dX6_dealer_12 : decode cX6_dealer 12 = .ok (.istore_n 2, 1) := by decide +kernel
theorem dX6_dealer_13 : decode cX6_dealer 13 = .ok (.iconst 0, 1) := by decide +kernel
theorem dX6_dealer_14 : decode cX6_dealer 14 = .ok (.istore_n 3, 1) := by decide +kernel
theorem dX6_dealer_15 : decode cX6_dealer 15 = .ok (.bipush (-4), 2) := by decide +kernel
theorem dX6_dealer_17 : decode cX6_dealer 17 = .ok (.istore 4, 2) := by decide +kernel
theorem dX6_dealer_19 : decode cX6_dealer 19 = .ok (.iconst 1, 1) := by decide +kernel
theorem dX6_dealer_20 : decode cX6_dealer 20 = .ok (.istore 5, 2) := by decide +kernel
theorem dX6_dealer_22 : decode cX6_dealer 22 = .ok (.iload 5, 2) := by decide +kernel
theorem dX6_dealer_24 : decode cX6_dealer 24 = .ok (.ifCond .eq 161, 3) := by decide +kernel
theorem dX6_dealer_27 : decode cX6_dealer 27 = .ok (.iconst (-1), 1) := by decide +kernel
theorem dX6_dealer_28 : decode cX6_dealer 28 = .ok (.istore 6, 2) := by decide +kernel
theorem dX6_dealer_30 : decode cX6_dealer 30 = .ok (.iconst 0, 1) := by decide +kernel
theorem dX6_dealer_31 : decode cX6_dealer 31 = .ok (.istore 7, 2) := by decide +kernel
theorem dX6_dealer_33 : decode cX6_dealer 33 = .ok (.iconst 0, 1) := by decide +kernel
theorem dX6_dealer_34 : decode cX6_dealer 34 = .ok (.istore 8, 2) := by decide +kernel
theorem dX6_dealer_36 : decode cX6_dealer 36 = .ok (.iload 8, 2) := by decide +kernel
theorem dX6_dealer_38 : decode cX6_dealer 38 = .ok (.aload_n 0, 1) := by decide +kernel
theorem dX6_dealer_39 : decode cX6_dealer 39 = .ok (.getfield 73, 3) := by decide +kernel
theorem dX6_dealer_42 : decode cX6_dealer 42 = .ok (.if_icmp .ge 75, 3) := by decide +kernel
theorem dX6_dealer_45 : decode cX6_dealer 45 = .ok (.aload_n 0, 1) := by decide +kernel
theorem dX6_dealer_46 : decode cX6_dealer 46 = .ok (.iload 8, 2) := by decide +kernel
theorem dX6_dealer_48 : decode cX6_dealer 48 = .ok (.invokevirtual 159, 3) := by decide +kernel
theorem dX6_dealer_51 : decode cX6_dealer 51 = .ok (.ifCond .eq 25, 3) := by decide +kernel
theorem dX6_dealer_54 : decode cX6_dealer 54 = .ok (.aload_n 0, 1) := by decide +kernel
theorem dX6_dealer_55 : decode cX6_dealer 55 = .ok (.aload_n 0, 1) := by decide +kernel
theorem dX6_dealer_56 : decode cX6_dealer 56 = .ok (.iload 8, 2) := by decide +kernel
theorem dX6_dealer_58 : decode cX6_dealer 58 = .ok (.invokevirtual 162, 3) := by decide +kernel
theorem dX6_dealer_61 : decode cX6_dealer 61 = .ok (.aload_n 0, 1) := by decide +kernel
theorem dX6_dealer_62 : decode cX6_dealer 62 = .ok (.getfield 43, 3) := by decide +kernel
theorem dX6_dealer_65 : decode cX6_dealer 65 = .ok (.iconst 1, 1) := by decide +kernel
theorem dX6_dealer_66 : decode cX6_dealer 66 = .ok (.iaload, 1) := by decide +kernel
theorem dX6_dealer_67 : decode cX6_dealer 67 = .ok (.iconst (-1), 1) := by decide +kernel
theorem dX6_dealer_68 : decode cX6_dealer 68 = .ok (.ixor, 1) := by decide +kernel
theorem dX6_dealer_69 : decode cX6_dealer 69 = .ok (.iand, 1) := by decide +kernel
theorem dX6_dealer_70 : decode cX6_dealer 70 = .ok (.invokevirtual 195, 3) := by decide +kernel
theorem dX6_dealer_73 : decode cX6_dealer 73 = .ok (.goto 4, 3) := by decide +kernel
theorem dX6_dealer_76 : decode cX6_dealer 76 = .ok (.iconst 0, 1) := by decide +kernel
theorem dX6_dealer_77 : decode cX6_dealer 77 = .ok (.istore 9, 2) := by decide +kernel
theorem dX6_dealer_79 : decode cX6_dealer 79 = .ok (.iload 9, 2) := by decide +kernel
theorem dX6_dealer_81 : decode cX6_dealer 81 = .ok (.iload 7, 2) := by decide +kernel
theorem dX6_dealer_83 : decode cX6_dealer 83 = .ok (.if_icmp .le 8, 3) := by decide +kernel
theorem dX6_dealer_86 : decode cX6_dealer 86 = .ok (.iload 8, 2) := by decide +kernel
theorem dX6_dealer_88 : decode cX6_dealer 88 = .ok (.goto 5, 3) := by decide +kernel
theorem dX6_dealer_91 : decode cX6_dealer 91 = .ok (.iload 6, 2) := by decide +kernel
theorem dX6_dealer_93 : decode cX6_dealer 93 = .ok (.istore 6, 2) := by decide +kernel
theorem dX6_dealer_95 : decode cX6_dealer 95 = .ok (.iload 9, 2) := by decide +kernel
theorem dX6_dealer_97 : decode cX6_dealer 97 = .ok (.iload 7, 2) := by decide +kernel
theorem dX6_dealer_99 : decode cX6_dealer 99 = .ok (.if_icmp .le 8, 3) := by decide +kernel
theorem dX6_dealer_102 : decode cX6_dealer 102 = .ok (.iload 9, 2) := by decide +kernel
theorem dX6_dealer_104 : decode cX6_dealer 104 = .ok (.goto 5, 3) := by decide +kernel
theorem dX6_dealer_107 : decode cX6_dealer 107 = .ok (.iload 7, 2) := by decide +kernel
theorem dX6_dealer_109 : decode cX6_dealer 109 = .ok (.istore 7, 2) := by decide +kernel
theorem dX6_dealer_111 : decode cX6_dealer 111 = .ok (.iinc 8 1, 3) := by decide +kernel
theorem dX6_dealer_114 : decode cX6_dealer 114 = .ok (.goto (-78), 3) := by decide +kernel
theorem dX6_dealer_117 : decode cX6_dealer 117 = .ok (.iload 6, 2) := by decide +kernel
theorem dX6_dealer_119 : decode cX6_dealer 119 = .ok (.ifCond .lt 7, 3) := by decide +kernel
theorem dX6_dealer_122 : decode cX6_dealer 122 = .ok (.iconst 1, 1) := by decide +kernel
theorem dX6_dealer_123 : decode cX6_dealer 123 = .ok (.goto 4, 3) := by decide +kernel
theorem dX6_dealer_126 : decode cX6_dealer 126 = .ok (.iconst 0, 1) := by decide +kernel
theorem dX6_dealer_127 : decode cX6_dealer 127 = .ok (.istore 5, 2) := by decide +kernel
theorem dX6_dealer_129 : decode cX6_dealer 129 = .ok (.iload 5, 2) := by decide +kernel
theorem dX6_dealer_131 : decode cX6_dealer 131 = .ok (.ifCond .eq 51, 3) := by decide +kernel
theorem dX6_dealer_134 : decode cX6_dealer 134 = .ok (.iload_n 3, 1) := by decide +kernel
theorem dX6_dealer_135 : decode cX6_dealer 135 = .ok (.iload_n 1, 1) := by decide +kernel
theorem dX6_dealer_136 : decode cX6_dealer 136 = .ok (.if_icmp .ne 8, 3) := by decide +kernel
theorem dX6_dealer_139 : decode cX6_dealer 139 = .ok (.iload 6, 2) := by decide +kernel
theorem dX6_dealer_141 : decode cX6_dealer 141 = .ok (.goto 5, 3) := by decide +kernel
theorem dX6_dealer_144 : decode cX6_dealer 144 = .ok (.iload 4, 2) := by decide +kernel
theorem dX6_dealer_146 : decode cX6_dealer 146 = .ok (.istore 4, 2) := by decide +kernel
theorem dX6_dealer_148 : decode cX6_dealer 148 = .ok (.iinc 3 1, 3) := by decide +kernel
theorem dX6_dealer_151 : decode cX6_dealer 151 = .ok (.iload_n 2, 1) := by decide +kernel
theorem dX6_dealer_152 : decode cX6_dealer 152 = .ok (.iload 7, 2) := by decide +kernel
theorem dX6_dealer_154 : decode cX6_dealer 154 = .ok (.iadd, 1) := by decide +kernel
theorem dX6_dealer_155 : decode cX6_dealer 155 = .ok (.istore_n 2, 1) := by decide +kernel
theorem dX6_dealer_156 : decode cX6_dealer 156 = .ok (.aload_n 0, 1) := by decide +kernel
theorem dX6_dealer_157 : decode cX6_dealer 157 = .ok (.getfield 43, 3) := by decide +kernel
theorem dX6_dealer_160 : decode cX6_dealer 160 = .ok (.iconst 1, 1) := by decide +kernel
theorem dX6_dealer_161 : decode cX6_dealer 161 = .ok (.dup2, 1) := by decide +kernel
theorem dX6_dealer_162 : decode cX6_dealer 162 = .ok (.iaload, 1) := by decide +kernel
theorem dX6_dealer_163 : decode cX6_dealer 163 = .ok (.aload_n 0, 1) := by decide +kernel
theorem dX6_dealer_164 : decode cX6_dealer 164 = .ok (.iload 6, 2) := by decide +kernel
theorem dX6_dealer_166 : decode cX6_dealer 166 = .ok (.invokevirtual 162, 3) := by decide +kernel
theorem dX6_dealer_169 : decode cX6_dealer 169 = .ok (.ior, 1) := by decide +kernel
theorem dX6_dealer_170 : decode cX6_dealer 170 = .ok (.iastore, 1) := by decide +kernel
theorem dX6_dealer_171 : decode cX6_dealer 171 = .ok (.aload_n 0, 1) := by decide +kernel
theorem dX6_dealer_172 : decode cX6_dealer 172 = .ok (.getfield 43, 3) := by decide +kernel
theorem dX6_dealer_175 : decode cX6_dealer 175 = .ok (.bipush 10, 2) := by decide +kernel
theorem dX6_dealer_177 : decode cX6_dealer 177 = .ok (.iload 6, 2) := by decide +kernel
theorem dX6_dealer_179 : decode cX6_dealer 179 = .ok (.iadd, 1) := by decide +kernel
theorem dX6_dealer_180 : decode cX6_dealer 180 = .ok (.iconst 2, 1) := by decide +kernel
theorem dX6_dealer_181 : decode cX6_dealer 181 = .ok (.iastore, 1) := by decide +kernel
theorem dX6_dealer_182 : decode cX6_dealer 182 = .ok (.goto (-160), 3) := by decide +kernel
theorem dX6_dealer_185 : decode cX6_dealer 185 = .ok (.iload_n 1, 1) := by decide +kernel
theorem dX6_dealer_186 : decode cX6_dealer 186 = .ok (.ifCond .ge 7, 3) := by decide +kernel
theorem dX6_dealer_189 : decode cX6_dealer 189 = .ok (.iload_n 2, 1) := by decide +kernel
theorem dX6_dealer_190 : decode cX6_dealer 190 = .ok (.goto 5, 3) := by decide +kernel
theorem dX6_dealer_193 : decode cX6_dealer 193 = .ok (.iload 4, 2) := by decide +kernel
theorem dX6_dealer_195 : decode cX6_dealer 195 = .ok (.ireturn, 1) := by decide +kernel
set_option maxRecDepth 20000 in
theorem ggX6_ruin_X6_in : GoodIn wsX6_ruin wsX6_in := goodIn_r _ [7] (by decide +kernel) (by decide +kernel)
set_option maxRecDepth 20000 in
theorem gX6_ruin_X6_in : GoodIn wsX6_ruin (va_wsS RX6 76 yX6_in wsX6_in) := goodIn_app (goodIn_of _ (by decide +kernel)) ggX6_ruin_X6_in
set_option maxRecDepth 20000 in
theorem ggX6_ruin_X6_has : GoodIn wsX6_ruin wsX6_has := goodIn_r _ [10] (by decide +kernel) (by decide +kernel)
set_option maxRecDepth 20000 in
theorem gX6_ruin_X6_has : GoodIn wsX6_ruin (va_wsS RX6 155 yX6_has wsX6_has) := goodIn_app (goodIn_of _ (by decide +kernel)) ggX6_ruin_X6_has
set_option maxRecDepth 20000 in
theorem ggX6_ruin_X6_weighs : GoodIn wsX6_ruin wsX6_weighs := goodIn_r _ [14, 2, 15, 16, 17, 18, 19, 20, 21, 22, 23, 24, 25, 26, 27, 28, 29, 30, 31, 32, 33, 34, 35, 36, 37, 38] (by decide +kernel) (by decide +kernel)
set_option maxRecDepth 20000 in
theorem gX6_ruin_X6_weighs : GoodIn wsX6_ruin (wsV RX6 149 RX6 yX6_weighs wsX6_weighs) := goodIn_app (goodIn_of _ (by decide +kernel)) ggX6_ruin_X6_weighs
theorem dX6_ruin_0 : decode cX6_ruin 0 = .ok (.iload_n 1, 1) := by decide +kernel
theorem dX6_ruin_1 : decode cX6_ruin 1 = .ok (.iconst 0, 1) := by decide +kernel
theorem dX6_ruin_2 : decode cX6_ruin 2 = .ok (.iconst 5, 1) := by decide +kernel
theorem dX6_ruin_3 : decode cX6_ruin 3 = .ok (.invokestatic 76, 3) := by decide +kernel
theorem dX6_ruin_6 : decode cX6_ruin 6 = .ok (.ifCond .ne 5, 3) := by decide +kernel
theorem dX6_ruin_9 : decode cX6_ruin 9 = .ok (.iconst (-1), 1) := by decide +kernel
theorem dX6_ruin_10 : decode cX6_ruin 10 = .ok (.ireturn, 1) := by decide +kernel
theorem dX6_ruin_11 : decode cX6_ruin 11 = .ok (.iconst 0, 1) := by decide +kernel
theorem dX6_ruin_12 : decode cX6_ruin 12 = .ok (.istore_n 2, 1) := by decide +kernel
theorem dX6_ruin_13 : decode cX6_ruin 13 = .ok (.iconst 0, 1) := by decide +kernel
theorem dX6_ruin_14 : decode cX6_ruin 14 = .ok (.istore_n 3, 1) := by decide +kernel
theorem dX6_ruin_15 : decode cX6_ruin 15 = .ok (.iload_n 3, 1) := by decide +kernel
theorem dX6_ruin_16 : decode cX6_ruin 16 = .ok (.aload_n 0, 1) := by decide +kernel
theorem dX6_ruin_17 : decode cX6_ruin 17 = .ok (.getfield 80, 3) := by decide +kernel
theorem dX6_ruin_20 : decode cX6_ruin 20 = .ok (.if_icmp .ge 46, 3) := by decide +kernel
theorem dX6_ruin_23 : decode cX6_ruin 23 = .ok (.iload_n 2, 1) := by decide +kernel
theorem dX6_ruin_24 : decode cX6_ruin 24 = .ok (.aload_n 0, 1) := by decide +kernel
theorem dX6_ruin_25 : decode cX6_ruin 25 = .ok (.getfield 13, 3) := by decide +kernel
theorem dX6_ruin_28 : decode cX6_ruin 28 = .ok (.iconst 4, 1) := by decide +kernel
theorem dX6_ruin_29 : decode cX6_ruin 29 = .ok (.iload_n 3, 1) := by decide +kernel
theorem dX6_ruin_30 : decode cX6_ruin 30 = .ok (.imul, 1) := by decide +kernel
theorem dX6_ruin_31 : decode cX6_ruin 31 = .ok (.iaload, 1) := by decide +kernel
theorem dX6_ruin_32 : decode cX6_ruin 32 = .ok (.iload_n 1, 1) := by decide +kernel
theorem dX6_ruin_33 : decode cX6_ruin 33 = .ok (.if_icmp .ne 24, 3) := by decide +kernel
theorem dX6_ruin_36 : decode cX6_ruin 36 = .ok (.aload_n 0, 1) := by decide +kernel
theorem dX6_ruin_37 : decode cX6_ruin 37 = .ok (.getfield 16, 3) := by decide +kernel
theorem dX6_ruin_40 : decode cX6_ruin 40 = .ok (.iconst 1, 1) := by decide +kernel
theorem dX6_ruin_41 : decode cX6_ruin 41 = .ok (.iaload, 1) := by decide +kernel
theorem dX6_ruin_42 : decode cX6_ruin 42 = .ok (.iload_n 3, 1) := by decide +kernel
theorem dX6_ruin_43 : decode cX6_ruin 43 = .ok (.invokestatic 155, 3) := by decide +kernel
theorem dX6_ruin_46 : decode cX6_ruin 46 = .ok (.ifCond .eq 11, 3) := by decide +kernel
theorem dX6_ruin_49 : decode cX6_ruin 49 = .ok (.aload_n 0, 1) := by decide +kernel
theorem dX6_ruin_50 : decode cX6_ruin 50 = .ok (.iload_n 3, 1) := by decide +kernel
theorem dX6_ruin_51 : decode cX6_ruin 51 = .ok (.invokevirtual 149, 3) := by decide +kernel
theorem dX6_ruin_54 : decode cX6_ruin 54 = .ok (.goto 4, 3) := by decide +kernel
theorem dX6_ruin_57 : decode cX6_ruin 57 = .ok (.iconst 0, 1) := by decide +kernel
theorem dX6_ruin_58 : decode cX6_ruin 58 = .ok (.iadd, 1) := by decide +kernel
theorem dX6_ruin_59 : decode cX6_ruin 59 = .ok (.istore_n 2, 1) := by decide +kernel
theorem dX6_ruin_60 : decode cX6_ruin 60 = .ok (.iinc 3 1, 3) := by decide +kernel
theorem dX6_ruin_63 : decode cX6_ruin 63 = .ok (.goto (-48), 3) := by decide +kernel
theorem dX6_ruin_66 : decode cX6_ruin 66 = .ok (.iload_n 2, 1) := by decide +kernel
theorem dX6_ruin_67 : decode cX6_ruin 67 = .ok (.ireturn, 1) := by decide +kernel
set_option maxRecDepth 20000 in
theorem ggX6_seen_X6_isPiece : GoodIn wsX6_seen wsX6_isPiece := goodIn_r _ [7, 8, 9, 10, 6, 11, 17, 18, 19, 20, 21, 22, 23, 24, 25, 26, 27, 28, 29, 30, 31, 32, 33, 34, 35, 36, 37, 38, 39, 40] (by decide +kernel) (by decide +kernel)
set_option maxRecDepth 20000 in
theorem gX6_seen_X6_isPiece : GoodIn wsX6_seen (wsV RX6 165 RX6 yX6_isPiece wsX6_isPiece) := goodIn_app (goodIn_of _ (by decide +kernel)) ggX6_seen_X6_isPiece
set_option maxRecDepth 20000 in
theorem ggX6_seen_X6_isDeed : GoodIn wsX6_seen wsX6_isDeed := goodIn_r _ [15, 16, 9, 10, 6, 11, 17, 18, 19, 20, 21, 22, 23, 24, 25, 26, 27, 28, 29, 30, 31, 32, 33, 34, 35, 36, 37, 38, 39, 40] (by decide +kernel) (by decide +kernel)
set_option maxRecDepth 20000 in
theorem gX6_seen_X6_isDeed : GoodIn wsX6_seen (wsV RX6 171 RX6 yX6_isDeed wsX6_isDeed) := goodIn_app (goodIn_of _ (by decide +kernel)) ggX6_seen_X6_isDeed
set_option maxRecDepth 20000 in
theorem ggX6_seen_X6_in : GoodIn wsX6_seen wsX6_in := goodIn_r _ [11] (by decide +kernel) (by decide +kernel)
set_option maxRecDepth 20000 in
theorem gX6_seen_X6_in : GoodIn wsX6_seen (va_wsS RX6 76 yX6_in wsX6_in) := goodIn_app (goodIn_of _ (by decide +kernel)) ggX6_seen_X6_in
theorem dX6_seen_0 : decode cX6_seen 0 = .ok (.aload_n 0, 1) := by decide +kernel
theorem dX6_seen_1 : decode cX6_seen 1 = .ok (.iload_n 1, 1) := by decide +kernel
theorem dX6_seen_2 : decode cX6_seen 2 = .ok (.invokevirtual 165, 3) := by decide +kernel
theorem dX6_seen_5 : decode cX6_seen 5 = .ok (.ifCond .eq 20, 3) := by decide +kernel
theorem dX6_seen_8 : decode cX6_seen 8 = .ok (.aload_n 0, 1) := by decide +kernel
theorem dX6_seen_9 : decode cX6_seen 9 = .ok (.iload_n 2, 1) := by decide +kernel
theorem dX6_seen_10 : decode cX6_seen 10 = .ok (.invokevirtual 171, 3) := by decide +kernel
theorem dX6_seen_13 : decode cX6_seen 13 = .ok (.ifCond .eq 12, 3) := by decide +kernel
theorem dX6_seen_16 : decode cX6_seen 16 = .ok (.iload_n 3, 1) := by decide +kernel
theorem dX6_seen_17 : decode cX6_seen 17 = .ok (.iconst 0, 1) := by decide +kernel
theorem dX6_seen_18 : decode cX6_seen 18 = .ok (.iconst 1, 1) := by decide +kernel
theorem dX6_seen_19 : decode cX6_seen 19 = .ok (.invokestatic 76, 3) := by decide +kernel
theorem dX6_seen_22 : decode cX6_seen 22 = .ok (.ifCond .ne 5, 3) := by decide +kernel
theorem dX6_seen_25 : decode cX6_seen 25 = .ok (.iconst (-1), 1) := by decide +kernel
theorem dX6_seen_26 : decode cX6_seen 26 = .ok (.ireturn, 1) := by decide +kernel
theorem dX6_seen_27 : decode cX6_seen 27 = .ok (.aload_n 0, 1) := by decide +kernel
theorem dX6_seen_28 : decode cX6_seen 28 = .ok (.getfield 136, 3) := by decide +kernel
theorem dX6_seen_31 : decode cX6_seen 31 = .ok (.bipush 6, 2) := by decide +kernel
theorem dX6_seen_33 : decode cX6_seen 33 = .ok (.if_icmp .ne 6, 3) := by decide +kernel
theorem dX6_seen_36 : decode cX6_seen 36 = .ok (.bipush (-3), 2) := by decide +kernel
theorem dX6_seen_38 : decode cX6_seen 38 = .ok (.ireturn, 1) := by decide +kernel
theorem dX6_seen_39 : decode cX6_seen 39 = .ok (.aload_n 0, 1) := by decide +kernel
theorem dX6_seen_40 : decode cX6_seen 40 = .ok (.getfield 25, 3) := by decide +kernel
theorem dX6_seen_43 : decode cX6_seen 43 = .ok (.iconst 3, 1) := by decide +kernel
theorem dX6_seen_44 : decode cX6_seen 44 = .ok (.aload_n 0, 1) := by decide +kernel
theorem dX6_seen_45 : decode cX6_seen 45 = .ok (.getfield 136, 3) := by decide +kernel
theorem dX6_seen_48 : decode cX6_seen 48 = .ok (.imul, 1) := by decide +kernel
theorem dX6_seen_49 : decode cX6_seen 49 = .ok (.iload_n 1, 1) := by decide +kernel
theorem dX6_seen_50 : decode cX6_seen 50 = .ok (.iastore, 1) := by decide +kernel
theorem dX6_seen_51 : decode cX6_seen 51 = .ok (.aload_n 0, 1) := by decide +kernel
theorem dX6_seen_52 : decode cX6_seen 52 = .ok (.getfield 25, 3) := by decide +kernel
theorem dX6_seen_55 : decode cX6_seen 55 = .ok (.iconst 3, 1) := by decide +kernel
theorem dX6_seen_56 : decode cX6_seen 56 = .ok (.aload_n 0, 1) := by decide +kernel
theorem dX6_seen_57 : decode cX6_seen 57 = .ok (.getfield 136, 3) := by decide +kernel
theorem dX6_seen_60 : decode cX6_seen 60 = .ok (.imul, 1) := by decide +kernel
theorem dX6_seen_61 : decode cX6_seen 61 = .ok (.iconst 1, 1) := by decide +kernel
theorem dX6_seen_62 : decode cX6_seen 62 = .ok (.iadd, 1) := by decide +kernel
theorem dX6_seen_63 : decode cX6_seen 63 = .ok (.iload_n 2, 1) := by decide +kernel
theorem dX6_seen_64 : decode cX6_seen 64 = .ok (.iastore, 1) := by decide +kernel
theorem dX6_seen_65 : decode cX6_seen 65 = .ok (.aload_n 0, 1) := by decide +kernel
theorem dX6_seen_66 : decode cX6_seen 66 = .ok (.getfield 25, 3) := by decide +kernel
theorem dX6_seen_69 : decode cX6_seen 69 = .ok (.iconst 3, 1) := by decide +kernel
theorem dX6_seen_70 : decode cX6_seen 70 = .ok (.aload_n 0, 1) := by decide +kernel
theorem dX6_seen_71 : decode cX6_seen 71 = .ok (.getfield 136, 3) := by decide +kernel
theorem dX6_seen_74 : decode cX6_seen 74 = .ok (.imul, 1) := by decide +kernel
theorem dX6_seen_75 : decode cX6_seen 75 = .ok (.iconst 2, 1) := by decide +kernel
theorem dX6_seen_76 : decode cX6_seen 76 = .ok (.iadd, 1) := by decide +kernel
theorem dX6_seen_77 : decode cX6_seen 77 = .ok (.iload_n 3, 1) := by decide +kernel
theorem dX6_seen_78 : decode cX6_seen 78 = .ok (.iastore, 1) := by decide +kernel
theorem dX6_seen_79 : decode cX6_seen 79 = .ok (.aload_n 0, 1) := by decide +kernel
theorem dX6_seen_80 : decode cX6_seen 80 = .ok (.dup, 1) := by decide +kernel
theorem dX6_seen_81 : decode cX6_seen 81 = .ok (.getfield 136, 3) := by decide +kernel
theorem dX6_seen_84 : decode cX6_seen 84 = .ok (.iconst 1, 1) := by decide +kernel
theorem dX6_seen_85 : decode cX6_seen 85 = .ok (.iadd, 1) := by decide +kernel
theorem dX6_seen_86 : decode cX6_seen 86 = .ok (.putfield 136, 3) := by decide +kernel
theorem dX6_seen_89 : decode cX6_seen 89 = .ok (.aload_n 0, 1) := by decide +kernel
theorem dX6_seen_90 : decode cX6_seen 90 = .ok (.getfield 136, 3) := by decide +kernel
theorem dX6_seen_93 : decode cX6_seen 93 = .ok (.ireturn, 1) := by decide +kernel
theorem dX6_forget_0 : decode cX6_forget 0 = .ok (.aload_n 0, 1) := by decide +kernel
theorem dX6_forget_1 : decode cX6_forget 1 = .ok (.getfield 136, 3) := by decide +kernel
theorem dX6_forget_4 : decode cX6_forget 4 = .ok (.istore_n 1, 1) := by decide +kernel
theorem dX6_forget_5 : decode cX6_forget 5 = .ok (.aload_n 0, 1) := by decide +kernel
theorem dX6_forget_6 : decode cX6_forget 6 = .ok (.iconst 0, 1) := by decide +kernel
theorem dX6_forget_7 : decode cX6_forget 7 = .ok (.putfield 136, 3) := by decide +kernel
theorem dX6_forget_10 : decode cX6_forget 10 = .ok (.iload_n 1, 1) := by decide +kernel
theorem dX6_forget_11 : decode cX6_forget 11 = .ok (.ireturn, 1) := by decide +kernel
set_option maxRecDepth 20000 in
theorem ggX6_isSo_X6_doesTell : GoodIn wsX6_isSo wsX6_doesTell := goodIn_r _ [8, 9, 10, 11, 12, 13, 7, 14, 15, 16, 17, 18, 19, 20, 21, 22, 23, 24, 25, 26, 27, 28, 29, 30, 31, 32, 33, 34, 35, 36, 37, 38, 39, 40, 41, 42, 43, 44, 45, 46, 47, 48, 49, 50, 51] (by decide +kernel) (by decide +kernel)
set_option maxRecDepth 20000 in
theorem gX6_isSo_X6_doesTell : GoodIn wsX6_isSo (wsV RX6 152 RX6 yX6_doesTell wsX6_doesTell) := goodIn_app (goodIn_of _ (by decide +kernel)) ggX6_isSo_X6_doesTell
theorem dX6_isSo_0 : decode cX6_isSo 0 = .ok (.iconst 1, 1) := by decide +kernel
theorem dX6_isSo_1 : decode cX6_isSo 1 = .ok (.istore_n 2, 1) := by decide +kernel
theorem dX6_isSo_2 : decode cX6_isSo 2 = .ok (.iconst 0, 1) := by decide +kernel
theorem dX6_isSo_3 : decode cX6_isSo 3 = .ok (.istore_n 3, 1) := by decide +kernel
theorem dX6_isSo_4 : decode cX6_isSo 4 = .ok (.iload_n 3, 1) := by decide +kernel
theorem dX6_isSo_5 : decode cX6_isSo 5 = .ok (.aload_n 0, 1) := by decide +kernel
theorem dX6_isSo_6 : decode cX6_isSo 6 = .ok (.getfield 136, 3) := by decide +kernel
theorem dX6_isSo_9 : decode cX6_isSo 9 = .ok (.if_icmp .ge 72, 3) := by decide +kernel
theorem dX6_isSo_12 : decode cX6_isSo 12 = .ok (.iload_n 2, 1) := by decide +kernel
theorem dX6_isSo_13 : decode cX6_isSo 13 = .ok (.ifCond .eq 60, 3) := by decide +kernel
theorem dX6_isSo_16 : decode cX6_isSo 16 = .ok (.aload_n 0, 1) := by decide +kernel
theorem dX6_isSo_17 : decode cX6_isSo 17 = .ok (.getfield 25, 3) := by decide +kernel
theorem dX6_isSo_20 : decode cX6_isSo 20 = .ok (.iconst 3, 1) := by decide +kernel
theorem dX6_isSo_21 : decode cX6_isSo 21 = .ok (.iload_n 3, 1) := by decide +kernel
theorem dX6_isSo_22 : decode cX6_isSo 22 = .ok (.imul, 1) := by decide +kernel
theorem dX6_isSo_23 : decode cX6_isSo 23 = .ok (.iconst 1, 1) := by decide +kernel
theorem dX6_isSo_24 : decode cX6_isSo 24 = .ok (.iadd, 1) := by decide +kernel
theorem dX6_isSo_25 : decode cX6_isSo 25 = .ok (.iaload, 1) := by decide +kernel
theorem dX6_isSo_26 : decode cX6_isSo 26 = .ok (.iload_n 1, 1) := by decide +kernel
theorem dX6_isSo_27 : decode cX6_isSo 27 = .ok (.if_icmp .ne 42, 3) := by decide +kernel
theorem dX6_isSo_30 : decode cX6_isSo 30 = .ok (.aload_n 0, 1) := by decide +kernel
theorem dX6_isSo_31 : decode cX6_isSo 31 = .ok (.aload_n 0, 1) := by decide +kernel
theorem dX6_isSo_32 : decode cX6_isSo 32 = .ok (.getfield 25, 3) := by decide +kernel
theorem dX6_isSo_35 : decode cX6_isSo 35 = .ok (.iconst 3, 1) := by decide +kernel
theorem dX6_isSo_36 : decode cX6_isSo 36 = .ok (.iload_n 3, 1) := by decide +kernel
theorem dX6_isSo_37 : decode cX6_isSo 37 = .ok (.imul, 1) := by decide +kernel
theorem dX6_isSo_38 : decode cX6_isSo 38 = .ok (.iaload, 1) := by decide +kernel
theorem dX6_isSo_39 : decode cX6_isSo 39 = .ok (.iload_n 1, 1) := by decide +kernel
theorem dX6_isSo_40 : decode cX6_isSo 40 = .ok (.aload_n 0, 1) := by decide +kernel
theorem dX6_isSo_41 : decode cX6_isSo 41 = .ok (.getfield 80, 3) := by decide +kernel
theorem dX6_isSo_44 : decode cX6_isSo 44 = .ok (.invokevirtual 152, 3) := by decide +kernel
theorem dX6_isSo_47 : decode cX6_isSo 47 = .ok (.aload_n 0, 1) := by decide +kernel
theorem dX6_isSo_48 : decode cX6_isSo 48 = .ok (.getfield 25, 3) := by decide +kernel
theorem dX6_isSo_51 : decode cX6_isSo 51 = .ok (.iconst 3, 1) := by decide +kernel
theorem dX6_isSo_52 : decode cX6_isSo 52 = .ok (.iload_n 3, 1) := by decide +kernel
theorem dX6_isSo_53 : decode cX6_isSo 53 = .ok (.imul, 1) := by decide +kernel
theorem dX6_isSo_54 : decode cX6_isSo 54 = .ok (.iconst 2, 1) := by decide +kernel
theorem dX6_isSo_55 : decode cX6_isSo 55 = .ok (.iadd, 1) := by decide +kernel
theorem dX6_isSo_56 : decode cX6_isSo 56 = .ok (.iaload, 1) := by decide +kernel
theorem dX6_isSo_57 : decode cX6_isSo 57 = .ok (.iconst 1, 1) := by decide +kernel
theorem dX6_isSo_58 : decode cX6_isSo 58 = .ok (.if_icmp .ne 7, 3) := by decide +kernel
theorem dX6_isSo_61 : decode cX6_isSo 61 = .ok (.iconst 1, 1) := by decide +kernel
theorem dX6_isSo_62 : decode cX6_isSo 62 = .ok (.goto 4, 3) := by decide +kernel
theorem dX6_isSo_65 : decode cX6_isSo 65 = .ok (.iconst 0, 1) := by decide +kernel
theorem dX6_isSo_66 : decode cX6_isSo 66 = .ok (.if_icmp .ne 7, 3) := by decide +kernel
theorem dX6_isSo_69 : decode cX6_isSo 69 = .ok (.iconst 1, 1) := by decide +kernel
theorem dX6_isSo_70 : decode cX6_isSo 70 = .ok (.goto 4, 3) := by decide +kernel
theorem dX6_isSo_73 : decode cX6_isSo 73 = .ok (.iconst 0, 1) := by decide +kernel
theorem dX6_isSo_74 : decode cX6_isSo 74 = .ok (.istore_n 2, 1) := by decide +kernel
theorem dX6_isSo_75 : decode cX6_isSo 75 = .ok (.iinc 3 1, 3) := by decide +kernel
theorem dX6_isSo_78 : decode cX6_isSo 78 = .ok (.goto (-74), 3) := by decide +kernel
theorem dX6_isSo_81 : decode cX6_isSo 81 = .ok (.iload_n 2, 1) := by decide +kernel
theorem dX6_isSo_82 : decode cX6_isSo 82 = .ok (.ireturn, 1) := by decide +kernel
set_option maxRecDepth 20000 in
theorem ggX6_may_X6_isDeed : GoodIn wsX6_may wsX6_isDeed := goodIn_r _ [6, 7, 8, 9, 5, 10, 47, 48, 49, 50, 51, 52, 53, 54, 55, 56, 57, 58, 59, 60, 61, 62, 63, 64, 65, 66, 67, 68, 69, 70] (by decide +kernel) (by decide +kernel)
set_option maxRecDepth 20000 in
theorem gX6_may_X6_isDeed : GoodIn wsX6_may (wsV RX6 171 RX6 yX6_isDeed wsX6_isDeed) := goodIn_app (goodIn_of _ (by decide +kernel)) ggX6_may_X6_isDeed
set_option maxRecDepth 20000 in
theorem ggX6_may_X6_in : GoodIn wsX6_may wsX6_in := goodIn_r _ [10] (by decide +kernel) (by decide +kernel)
set_option maxRecDepth 20000 in
theorem gX6_may_X6_in : GoodIn wsX6_may (va_wsS RX6 76 yX6_in wsX6_in) := goodIn_app (goodIn_of _ (by decide +kernel)) ggX6_may_X6_in
set_option maxRecDepth 20000 in
theorem ggX6_may_X6_asItIs : GoodIn wsX6_may wsX6_asItIs := goodIn_r _ [14, 15, 16, 17, 18, 5, 19, 47, 48, 49, 50, 51, 52, 53, 54, 55, 56, 57, 58, 59, 60, 61, 62, 63, 64, 65, 66, 67, 68, 69, 70] (by decide +kernel) (by decide +kernel)
set_option maxRecDepth 20000 in
theorem gX6_may_X6_asItIs : GoodIn wsX6_may (wsV RX6 168 RX6 yX6_asItIs wsX6_asItIs) := goodIn_app (goodIn_of _ (by decide +kernel)) ggX6_may_X6_asItIs
set_option maxRecDepth 20000 in
theorem ggX6_may_X6_isSo : GoodIn wsX6_may wsX6_isSo := goodIn_r _ [23, 24, 25, 7, 26, 27, 28, 5, 29, 15, 30, 31, 32, 33, 34, 1, 35, 36, 37, 38, 39, 40, 41, 42, 43, 44, 45, 46, 47, 48, 49, 50, 51, 52, 53, 54, 55, 56, 57, 58, 59, 60, 61, 62, 63, 64, 65, 66, 67, 68, 69, 70] (by decide +kernel) (by decide +kernel)
set_option maxRecDepth 20000 in
theorem gX6_may_X6_isSo : GoodIn wsX6_may (wsV RX6 198 RX6 yX6_isSo wsX6_isSo) := goodIn_app (goodIn_of _ (by decide +kernel)) ggX6_may_X6_isSo
theorem dX6_may_0 : decode cX6_may 0 = .ok (.aload_n 0, 1) := by decide +kernel
theorem dX6_may_1 : decode cX6_may 1 = .ok (.iload_n 1, 1) := by decide +kernel
theorem dX6_may_2 : decode cX6_may 2 = .ok (.invokevirtual 171, 3) := by decide +kernel
theorem dX6_may_5 : decode cX6_may 5 = .ok (.ifCond .eq 12, 3) := by decide +kernel
theorem dX6_may_8 : decode cX6_may 8 = .ok (.iload_n 2, 1) := by decide +kernel
theorem dX6_may_9 : decode cX6_may 9 = .ok (.iconst 0, 1) := by decide +kernel
theorem dX6_may_10 : decode cX6_may 10 = .ok (.iconst 1, 1) := by decide +kernel
theorem dX6_may_11 : decode cX6_may 11 = .ok (.invokestatic 76, 3) := by decide +kernel
theorem dX6_may_14 : decode cX6_may 14 = .ok (.ifCond .ne 5, 3) := by decide +kernel
theorem dX6_may_17 : decode cX6_may 17 = .ok (.iconst (-1), 1) := by decide +kernel
theorem dX6_may_18 : decode cX6_may 18 = .ok (.ireturn, 1) := by decide +kernel
theorem dX6_may_19 : decode cX6_may 19 = .ok (.aload_n 0, 1) := by decide +kernel
theorem dX6_may_20 : decode cX6_may 20 = .ok (.invokevirtual 168, 3) := by decide +kernel
theorem dX6_may_23 : decode cX6_may 23 = .ok (.iconst 4, 1) := by decide +kernel
theorem dX6_may_24 : decode cX6_may 24 = .ok (.iload_n 1, 1) := by decide +kernel
theorem dX6_may_25 : decode cX6_may 25 = .ok (.imul, 1) := by decide +kernel
theorem dX6_may_26 : decode cX6_may 26 = .ok (.iconst 1, 1) := by decide +kernel
theorem dX6_may_27 : decode cX6_may 27 = .ok (.iadd, 1) := by decide +kernel
theorem dX6_may_28 : decode cX6_may 28 = .ok (.iload_n 2, 1) := by decide +kernel
theorem dX6_may_29 : decode cX6_may 29 = .ok (.iadd, 1) := by decide +kernel
theorem dX6_may_30 : decode cX6_may 30 = .ok (.istore_n 3, 1) := by decide +kernel
theorem dX6_may_31 : decode cX6_may 31 = .ok (.aload_n 0, 1) := by decide +kernel
theorem dX6_may_32 : decode cX6_may 32 = .ok (.getfield 13, 3) := by decide +kernel
theorem dX6_may_35 : decode cX6_may 35 = .ok (.iload_n 3, 1) := by decide +kernel
theorem dX6_may_36 : decode cX6_may 36 = .ok (.iaload, 1) := by decide +kernel
theorem dX6_may_37 : decode cX6_may 37 = .ok (.istore 4, 2) := by decide +kernel
theorem dX6_may_39 : decode cX6_may 39 = .ok (.iconst 0, 1) := by decide +kernel
theorem dX6_may_40 : decode cX6_may 40 = .ok (.istore 5, 2) := by decide +kernel
theorem dX6_may_42 : decode cX6_may 42 = .ok (.iconst 0, 1) := by decide +kernel
theorem dX6_may_43 : decode cX6_may 43 = .ok (.istore 6, 2) := by decide +kernel
theorem dX6_may_45 : decode cX6_may 45 = .ok (.iload 6, 2) := by decide +kernel
theorem dX6_may_47 : decode cX6_may 47 = .ok (.iload_n 2, 1) := by decide +kernel
theorem dX6_may_48 : decode cX6_may 48 = .ok (.ifCond .ne 7, 3) := by decide +kernel
theorem dX6_may_51 : decode cX6_may 51 = .ok (.iconst 4, 1) := by decide +kernel
theorem dX6_may_52 : decode cX6_may 52 = .ok (.goto 5, 3) := by decide +kernel
theorem dX6_may_55 : decode cX6_may 55 = .ok (.bipush 24, 2) := by decide +kernel
theorem dX6_may_57 : decode cX6_may 57 = .ok (.if_icmp .ge 38, 3) := by decide +kernel
theorem dX6_may_60 : decode cX6_may 60 = .ok (.aload_n 0, 1) := by decide +kernel
theorem dX6_may_61 : decode cX6_may 61 = .ok (.getfield 13, 3) := by decide +kernel
theorem dX6_may_64 : decode cX6_may 64 = .ok (.iload_n 3, 1) := by decide +kernel
theorem dX6_may_65 : decode cX6_may 65 = .ok (.iload 6, 2) := by decide +kernel
theorem dX6_may_67 : decode cX6_may 67 = .ok (.iastore, 1) := by decide +kernel
theorem dX6_may_68 : decode cX6_may 68 = .ok (.iload 5, 2) := by decide +kernel
theorem dX6_may_70 : decode cX6_may 70 = .ok (.aload_n 0, 1) := by decide +kernel
theorem dX6_may_71 : decode cX6_may 71 = .ok (.iload_n 1, 1) := by decide +kernel
theorem dX6_may_72 : decode cX6_may 72 = .ok (.invokevirtual 198, 3) := by decide +kernel
theorem dX6_may_75 : decode cX6_may 75 = .ok (.ifCond .eq 10, 3) := by decide +kernel
theorem dX6_may_78 : decode cX6_may 78 = .ok (.iconst 1, 1) := by decide +kernel
theorem dX6_may_79 : decode cX6_may 79 = .ok (.iload 6, 2) := by decide +kernel
theorem dX6_may_81 : decode cX6_may 81 = .ok (.ishl, 1) := by decide +kernel
theorem dX6_may_82 : decode cX6_may 82 = .ok (.goto 4, 3) := by decide +kernel
theorem dX6_may_85 : decode cX6_may 85 = .ok (.iconst 0, 1) := by decide +kernel
theorem dX6_may_86 : decode cX6_may 86 = .ok (.ior, 1) := by decide +kernel
theorem dX6_may_87 : decode cX6_may 87 = .ok (.istore 5, 2) := by decide +kernel
theorem dX6_may_89 : decode cX6_may 89 = .ok (.iinc 6 1, 3) := by decide +kernel
theorem dX6_may_92 : decode cX6_may 92 = .ok (.goto (-47), 3) := by decide +kernel
theorem dX6_may_95 : decode cX6_may 95 = .ok (.aload_n 0, 1) := by decide +kernel
theorem dX6_may_96 : decode cX6_may 96 = .ok (.getfield 13, 3) := by decide +kernel
theorem dX6_may_99 : decode cX6_may 99 = .ok (.iload_n 3, 1) := by decide +kernel
theorem dX6_may_100 : decode cX6_may 100 = .ok (.iload 4, 2) := by decide +kernel
theorem dX6_may_102 : decode cX6_may 102 = .ok (.iastore, 1) := by decide +kernel
theorem dX6_may_103 : decode cX6_may 103 = .ok (.iload 5, 2) := by decide +kernel
theorem dX6_may_105 : decode cX6_may 105 = .ok (.ireturn, 1) := by decide +kernel
set_option maxRecDepth 20000 in
theorem ggX6_likely_X6_isDeed : GoodIn wsX6_likely wsX6_isDeed := goodIn_r _ [6, 7, 8, 9, 5, 10, 57, 58, 59, 60, 61, 62, 63, 64, 65, 66, 67, 68, 69, 70, 71, 72, 73, 74, 75, 76, 77, 78, 79, 80] (by decide +kernel) (by decide +kernel)
set_option maxRecDepth 20000 in
theorem gX6_likely_X6_isDeed : GoodIn wsX6_likely (wsV RX6 171 RX6 yX6_isDeed wsX6_isDeed) := goodIn_app (goodIn_of _ (by decide +kernel)) ggX6_likely_X6_isDeed
set_option maxRecDepth 20000 in
theorem ggX6_likely_X6_in : GoodIn wsX6_likely wsX6_in := goodIn_r _ [10] (by decide +kernel) (by decide +kernel)
set_option maxRecDepth 20000 in
theorem gX6_likely_X6_in : GoodIn wsX6_likely (va_wsS RX6 76 yX6_in wsX6_in) := goodIn_app (goodIn_of _ (by decide +kernel)) ggX6_likely_X6_in
set_option maxRecDepth 20000 in
theorem ggX6_likely_X6_asItIs : GoodIn wsX6_likely wsX6_asItIs := goodIn_r _ [14, 15, 1, 16, 17, 5, 18, 57, 58, 59, 60, 61, 62, 63, 64, 65, 66, 67, 68, 69, 70, 71, 72, 73, 74, 75, 76, 77, 78, 79, 80] (by decide +kernel) (by decide +kernel)
set_option maxRecDepth 20000 in
theorem gX6_likely_X6_asItIs : GoodIn wsX6_likely (wsV RX6 168 RX6 yX6_asItIs wsX6_asItIs) := goodIn_app (goodIn_of _ (by decide +kernel)) ggX6_likely_X6_asItIs
set_option maxRecDepth 20000 in
theorem ggX6_likely_X6_has : GoodIn wsX6_likely wsX6_has := goodIn_r _ [21] (by decide +kernel) (by decide +kernel)
set_option maxRecDepth 20000 in
theorem gX6_likely_X6_has : GoodIn wsX6_likely (va_wsS RX6 155 yX6_has wsX6_has) := goodIn_app (goodIn_of _ (by decide +kernel)) ggX6_likely_X6_has
set_option maxRecDepth 20000 in
theorem ggX6_likely_X6_tellers : GoodIn wsX6_likely wsX6_tellers := goodIn_r _ [25, 26, 7, 27, 28, 29, 5, 30, 15, 31, 32, 19, 20, 21, 33, 34, 35, 36, 37, 38, 39, 40, 41, 42, 43, 44, 45, 46, 47, 48, 49, 50, 51, 52, 53, 57, 58, 59, 60, 61, 62, 63, 64, 65, 66, 67, 68, 69, 70, 71, 72, 73, 74, 75, 76, 77, 78, 79, 80] (by decide +kernel) (by decide +kernel)
set_option maxRecDepth 20000 in
theorem gX6_likely_X6_tellers : GoodIn wsX6_likely (wsV RX6 174 RX6 yX6_tellers wsX6_tellers) := goodIn_app (goodIn_of _ (by decide +kernel)) ggX6_likely_X6_tellers
set_option maxRecDepth 20000 in
theorem ggX6_likely_X6_bits : GoodIn wsX6_likely wsX6_bits := goodIn_r _ [56] (by decide +kernel) (by decide +kernel)
set_option maxRecDepth 20000 in
theorem gX6_likely_X6_bits : GoodIn wsX6_likely (va_wsS RX6 180 yX6_bits wsX6_bits) := goodIn_app (goodIn_of _ (by decide +kernel)) ggX6_likely_X6_bits
theorem dX6_likely_0 : decode cX6_likely 0 = .ok (.aload_n 0, 1) := by decide +kernel
theorem dX6_likely_1 : decode cX6_likely 1 = .ok (.iload_n 1, 1) := by decide +kernel
theorem dX6_likely_2 : decode cX6_likely 2 = .ok (.invokevirtual 171, 3) := by decide +kernel
theorem dX6_likely_5 : decode cX6_likely 5 = .ok (.ifCond .eq 22, 3) := by decide +kernel
theorem dX6_likely_8 : decode cX6_likely 8 = .ok (.iload_n 2, 1) := by decide +kernel
theorem dX6_likely_9 : decode cX6_likely 9 = .ok (.iconst 0, 1) := by decide +kernel
theorem dX6_likely_10 : decode cX6_likely 10 = .ok (.bipush 10, 2) := by decide +kernel
theorem dX6_likely_12 : decode cX6_likely 12 = .ok (.invokestatic 76, 3) := by decide +kernel
theorem dX6_likely_15 : decode cX6_likely 15 = .ok (.ifCond .eq 12, 3) := by decide +kernel
theorem dX6_likely_18 : decode cX6_likely 18 = .ok (.iload_n 3, 1) := by decide +kernel
theorem dX6_likely_19 : decode cX6_likely 19 = .ok (.iconst 0, 1) := by decide +kernel
theorem dX6_likely_20 : decode cX6_likely 20 = .ok (.iconst 1, 1) := by decide +kernel
theorem dX6_likely_21 : decode cX6_likely 21 = .ok (.invokestatic 76, 3) := by decide +kernel
theorem dX6_likely_24 : decode cX6_likely 24 = .ok (.ifCond .ne 5, 3) := by decide +kernel
theorem dX6_likely_27 : decode cX6_likely 27 = .ok (.iconst (-1), 1) := by decide +kernel
theorem dX6_likely_28 : decode cX6_likely 28 = .ok (.ireturn, 1) := by decide +kernel
theorem dX6_likely_29 : decode cX6_likely 29 = .ok (.aload_n 0, 1) := by decide +kernel
theorem dX6_likely_30 : decode cX6_likely 30 = .ok (.invokevirtual 168, 3) := by decide +kernel
theorem dX6_likely_33 : decode cX6_likely 33 = .ok (.iconst 1, 1) := by decide +kernel
theorem dX6_likely_34 : decode cX6_likely 34 = .ok (.istore 4, 2) := by decide +kernel
theorem dX6_likely_36 : decode cX6_likely 36 = .ok (.iconst 1, 1) := by decide +kernel
theorem dX6_likely_37 : decode cX6_likely 37 = .ok (.istore 5, 2) := by decide +kernel
