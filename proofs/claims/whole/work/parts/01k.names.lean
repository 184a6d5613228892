theorem dX6_likely_39 : decode cX6_likely 39 = .ok (.aload_n 0, 1) := by decide +kernel
theorem dX6_likely_40 : decode cX6_likely 40 = .ok (.getfield 16, 3) := by decide +kernel
theorem dX6_likely_43 : decode cX6_likely 43 = .ok (.iconst 1, 1) := by decide +kernel
theorem dX6_likely_44 : decode cX6_likely 44 = .ok (.iaload, 1) := by decide +kernel
theorem dX6_likely_45 : decode cX6_likely 45 = .ok (.iload_n 1, 1) := by decide +kernel
theorem dX6_likely_46 : decode cX6_likely 46 = .ok (.invokestatic 155, 3) := by decide +kernel
theorem dX6_likely_49 : decode cX6_likely 49 = .ok (.ifCond .eq 7, 3) := by decide +kernel
theorem dX6_likely_52 : decode cX6_likely 52 = .ok (.iconst 0, 1) := by decide +kernel
theorem dX6_likely_53 : decode cX6_likely 53 = .ok (.goto 8, 3) := by decide +kernel
theorem dX6_likely_56 : decode cX6_likely 56 = .ok (.aload_n 0, 1) := by decide +kernel
theorem dX6_likely_57 : decode cX6_likely 57 = .ok (.iload_n 1, 1) := by decide +kernel
theorem dX6_likely_58 : decode cX6_likely 58 = .ok (.invokevirtual 174, 3) := by decide +kernel
theorem dX6_likely_61 : decode cX6_likely 61 = .ok (.istore 6, 2) := by decide +kernel
theorem dX6_likely_63 : decode cX6_likely 63 = .ok (.iconst 0, 1) := by decide +kernel
theorem dX6_likely_64 : decode cX6_likely 64 = .ok (.istore 7, 2) := by decide +kernel
theorem dX6_likely_66 : decode cX6_likely 66 = .ok (.iload 7, 2) := by decide +kernel
theorem dX6_likely_68 : decode cX6_likely 68 = .ok (.iload 6, 2) := by decide +kernel
theorem dX6_likely_70 : decode cX6_likely 70 = .ok (.invokestatic 180, 3) := by decide +kernel
theorem dX6_likely_73 : decode cX6_likely 73 = .ok (.if_icmp .ge 25, 3) := by decide +kernel
theorem dX6_likely_76 : decode cX6_likely 76 = .ok (.iload 4, 2) := by decide +kernel
theorem dX6_likely_78 : decode cX6_likely 78 = .ok (.bipush 10, 2) := by decide +kernel
theorem dX6_likely_80 : decode cX6_likely 80 = .ok (.imul, 1) := by decide +kernel
theorem dX6_likely_81 : decode cX6_likely 81 = .ok (.istore 4, 2) := by decide +kernel
theorem dX6_likely_83 : decode cX6_likely 83 = .ok (.iload 5, 2) := by decide +kernel
theorem dX6_likely_85 : decode cX6_likely 85 = .ok (.bipush 10, 2) := by decide +kernel
theorem dX6_likely_87 : decode cX6_likely 87 = .ok (.iload_n 2, 1) := by decide +kernel
theorem dX6_likely_88 : decode cX6_likely 88 = .ok (.isub, 1) := by decide +kernel
theorem dX6_likely_89 : decode cX6_likely 89 = .ok (.imul, 1) := by decide +kernel
theorem dX6_likely_90 : decode cX6_likely 90 = .ok (.istore 5, 2) := by decide +kernel
theorem dX6_likely_92 : decode cX6_likely 92 = .ok (.iinc 7 1, 3) := by decide +kernel
theorem dX6_likely_95 : decode cX6_likely 95 = .ok (.goto (-29), 3) := by decide +kernel
theorem dX6_likely_98 : decode cX6_likely 98 = .ok (.aload_n 0, 1) := by decide +kernel
theorem dX6_likely_99 : decode cX6_likely 99 = .ok (.getfield 16, 3) := by decide +kernel
theorem dX6_likely_102 : decode cX6_likely 102 = .ok (.iconst 1, 1) := by decide +kernel
theorem dX6_likely_103 : decode cX6_likely 103 = .ok (.iaload, 1) := by decide +kernel
theorem dX6_likely_104 : decode cX6_likely 104 = .ok (.iload_n 1, 1) := by decide +kernel
theorem dX6_likely_105 : decode cX6_likely 105 = .ok (.invokestatic 155, 3) := by decide +kernel
theorem dX6_likely_108 : decode cX6_likely 108 = .ok (.ifCond .eq 7, 3) := by decide +kernel
theorem dX6_likely_111 : decode cX6_likely 111 = .ok (.iconst 1, 1) := by decide +kernel
theorem dX6_likely_112 : decode cX6_likely 112 = .ok (.goto 8, 3) := by decide +kernel
theorem dX6_likely_115 : decode cX6_likely 115 = .ok (.iload 4, 2) := by decide +kernel
theorem dX6_likely_117 : decode cX6_likely 117 = .ok (.iload 5, 2) := by decide +kernel
theorem dX6_likely_119 : decode cX6_likely 119 = .ok (.isub, 1) := by decide +kernel
theorem dX6_likely_120 : decode cX6_likely 120 = .ok (.istore 7, 2) := by decide +kernel
theorem dX6_likely_122 : decode cX6_likely 122 = .ok (.iload 7, 2) := by decide +kernel
theorem dX6_likely_124 : decode cX6_likely 124 = .ok (.istore 8, 2) := by decide +kernel
theorem dX6_likely_126 : decode cX6_likely 126 = .ok (.iload 4, 2) := by decide +kernel
theorem dX6_likely_128 : decode cX6_likely 128 = .ok (.istore 9, 2) := by decide +kernel
theorem dX6_likely_130 : decode cX6_likely 130 = .ok (.iload 9, 2) := by decide +kernel
theorem dX6_likely_132 : decode cX6_likely 132 = .ok (.ifCond .le 21, 3) := by decide +kernel
theorem dX6_likely_135 : decode cX6_likely 135 = .ok (.iload 8, 2) := by decide +kernel
theorem dX6_likely_137 : decode cX6_likely 137 = .ok (.iload 9, 2) := by decide +kernel
theorem dX6_likely_139 : decode cX6_likely 139 = .ok (.irem, 1) := by decide +kernel
theorem dX6_likely_140 : decode cX6_likely 140 = .ok (.istore 10, 2) := by decide +kernel
theorem dX6_likely_142 : decode cX6_likely 142 = .ok (.iload 9, 2) := by decide +kernel
theorem dX6_likely_144 : decode cX6_likely 144 = .ok (.istore 8, 2) := by decide +kernel
theorem dX6_likely_146 : decode cX6_likely 146 = .ok (.iload 10, 2) := by decide +kernel
theorem dX6_likely_148 : decode cX6_likely 148 = .ok (.istore 9, 2) := by decide +kernel
theorem dX6_likely_150 : decode cX6_likely 150 = .ok (.goto (-20), 3) := by decide +kernel
theorem dX6_likely_153 : decode cX6_likely 153 = .ok (.iload_n 3, 1) := by decide +kernel
theorem dX6_likely_154 : decode cX6_likely 154 = .ok (.ifCond .ne 8, 3) := by decide +kernel
theorem dX6_likely_157 : decode cX6_likely 157 = .ok (.iload 7, 2) := by decide +kernel
theorem dX6_likely_159 : decode cX6_likely 159 = .ok (.goto 5, 3) := by decide +kernel
theorem dX6_likely_162 : decode cX6_likely 162 = .ok (.iload 4, 2) := by decide +kernel
theorem dX6_likely_164 : decode cX6_likely 164 = .ok (.iload 8, 2) := by decide +kernel
theorem dX6_likely_166 : decode cX6_likely 166 = .ok (.idiv, 1) := by decide +kernel
theorem dX6_likely_167 : decode cX6_likely 167 = .ok (.ireturn, 1) := by decide +kernel
set_option maxRecDepth 20000 in
theorem ggX6_sale_X6_in : GoodIn wsX6_sale wsX6_in := goodIn_r _ [11] (by decide +kernel) (by decide +kernel)
set_option maxRecDepth 20000 in
theorem gX6_sale_X6_in : GoodIn wsX6_sale (va_wsS RX6 76 yX6_in wsX6_in) := goodIn_app (goodIn_of _ (by decide +kernel)) ggX6_sale_X6_in
set_option maxRecDepth 20000 in
theorem ggX6_sale_X6_asItIs : GoodIn wsX6_sale wsX6_asItIs := goodIn_r _ [15, 6, 16, 17, 18, 10, 19, 54, 55, 56, 57, 58, 59, 60, 61, 62, 63, 64, 65, 66, 67, 68, 69, 70, 71, 72, 73, 74, 75, 76, 77] (by decide +kernel) (by decide +kernel)
set_option maxRecDepth 20000 in
theorem gX6_sale_X6_asItIs : GoodIn wsX6_sale (wsV RX6 168 RX6 yX6_asItIs wsX6_asItIs) := goodIn_app (goodIn_of _ (by decide +kernel)) ggX6_sale_X6_asItIs
set_option maxRecDepth 20000 in
theorem ggX6_sale_X6_isLoose : GoodIn wsX6_sale wsX6_isLoose := goodIn_r _ [23, 6, 24, 7, 25, 26, 10, 27, 54, 55, 56, 57, 58, 59, 60, 61, 62, 63, 64, 65, 66, 67, 68, 69, 70, 71, 72, 73, 74, 75, 76, 77] (by decide +kernel) (by decide +kernel)
set_option maxRecDepth 20000 in
theorem gX6_sale_X6_isLoose : GoodIn wsX6_sale (wsV RX6 159 RX6 yX6_isLoose wsX6_isLoose) := goodIn_app (goodIn_of _ (by decide +kernel)) ggX6_sale_X6_isLoose
set_option maxRecDepth 20000 in
theorem ggX6_sale_X6_toldBy : GoodIn wsX6_sale wsX6_toldBy := goodIn_r _ [31, 32, 33, 34, 35, 10, 36, 6, 7, 37, 38, 39, 40, 41, 42, 43, 44, 45, 46, 47, 48, 49, 50, 51, 52, 53, 54, 55, 56, 57, 58, 59, 60, 61, 62, 63, 64, 65, 66, 67, 68, 69, 70, 71, 72, 73, 74, 75, 76, 77] (by decide +kernel) (by decide +kernel)
set_option maxRecDepth 20000 in
theorem gX6_sale_X6_toldBy : GoodIn wsX6_sale (wsV RX6 162 RX6 yX6_toldBy wsX6_toldBy) := goodIn_app (goodIn_of _ (by decide +kernel)) ggX6_sale_X6_toldBy
theorem dX6_sale_0 : decode cX6_sale 0 = .ok (.iload_n 1, 1) := by decide +kernel
theorem dX6_sale_1 : decode cX6_sale 1 = .ok (.iconst 0, 1) := by decide +kernel
theorem dX6_sale_2 : decode cX6_sale 2 = .ok (.sipush 9999, 3) := by decide +kernel
theorem dX6_sale_5 : decode cX6_sale 5 = .ok (.invokestatic 76, 3) := by decide +kernel
theorem dX6_sale_8 : decode cX6_sale 8 = .ok (.ifCond .eq 22, 3) := by decide +kernel
theorem dX6_sale_11 : decode cX6_sale 11 = .ok (.iload_n 2, 1) := by decide +kernel
theorem dX6_sale_12 : decode cX6_sale 12 = .ok (.iconst 1, 1) := by decide +kernel
theorem dX6_sale_13 : decode cX6_sale 13 = .ok (.bipush 40, 2) := by decide +kernel
theorem dX6_sale_15 : decode cX6_sale 15 = .ok (.invokestatic 76, 3) := by decide +kernel
theorem dX6_sale_18 : decode cX6_sale 18 = .ok (.ifCond .eq 12, 3) := by decide +kernel
theorem dX6_sale_21 : decode cX6_sale 21 = .ok (.iload_n 3, 1) := by decide +kernel
theorem dX6_sale_22 : decode cX6_sale 22 = .ok (.iconst 0, 1) := by decide +kernel
theorem dX6_sale_23 : decode cX6_sale 23 = .ok (.iconst 1, 1) := by decide +kernel
theorem dX6_sale_24 : decode cX6_sale 24 = .ok (.invokestatic 76, 3) := by decide +kernel
theorem dX6_sale_27 : decode cX6_sale 27 = .ok (.ifCond .ne 5, 3) := by decide +kernel
theorem dX6_sale_30 : decode cX6_sale 30 = .ok (.iconst (-1), 1) := by decide +kernel
theorem dX6_sale_31 : decode cX6_sale 31 = .ok (.ireturn, 1) := by decide +kernel
theorem dX6_sale_32 : decode cX6_sale 32 = .ok (.aload_n 0, 1) := by decide +kernel
theorem dX6_sale_33 : decode cX6_sale 33 = .ok (.invokevirtual 168, 3) := by decide +kernel
theorem dX6_sale_36 : decode cX6_sale 36 = .ok (.iconst 0, 1) := by decide +kernel
theorem dX6_sale_37 : decode cX6_sale 37 = .ok (.istore 4, 2) := by decide +kernel
theorem dX6_sale_39 : decode cX6_sale 39 = .ok (.iload 4, 2) := by decide +kernel
theorem dX6_sale_41 : decode cX6_sale 41 = .ok (.iload_n 2, 1) := by decide +kernel
theorem dX6_sale_42 : decode cX6_sale 42 = .ok (.if_icmp .ge 213, 3) := by decide +kernel
theorem dX6_sale_45 : decode cX6_sale 45 = .ok (.ldc2_w 201, 3) := by decide +kernel
theorem dX6_sale_48 : decode cX6_sale 48 = .ok (.iload_n 1, 1) := by decide +kernel
theorem dX6_sale_49 : decode cX6_sale 49 = .ok (.i2l, 1) := by decide +kernel
theorem dX6_sale_50 : decode cX6_sale 50 = .ok (.lmul, 1) := by decide +kernel
theorem dX6_sale_51 : decode cX6_sale 51 = .ok (.ldc2_w 203, 3) := by decide +kernel
theorem dX6_sale_54 : decode cX6_sale 54 = .ok (.iload 4, 2) := by decide +kernel
theorem dX6_sale_56 : decode cX6_sale 56 = .ok (.i2l, 1) := by decide +kernel
theorem dX6_sale_57 : decode cX6_sale 57 = .ok (.lmul, 1) := by decide +kernel
theorem dX6_sale_58 : decode cX6_sale 58 = .ok (.ladd, 1) := by decide +kernel
theorem dX6_sale_59 : decode cX6_sale 59 = .ok (.lconst 1, 1) := by decide +kernel
theorem dX6_sale_60 : decode cX6_sale 60 = .ok (.ladd, 1) := by decide +kernel
theorem dX6_sale_61 : decode cX6_sale 61 = .ok (.lstore 5, 2) := by decide +kernel
theorem dX6_sale_63 : decode cX6_sale 63 = .ok (.lload 5, 2) := by decide +kernel
theorem dX6_sale_65 : decode cX6_sale 65 = .ok (.lload 5, 2) := by decide +kernel
theorem dX6_sale_67 : decode cX6_sale 67 = .ok (.lmul, 1) := by decide +kernel
theorem dX6_sale_68 : decode cX6_sale 68 = .ok (.ldc2_w 205, 3) := by decide +kernel
theorem dX6_sale_71 : decode cX6_sale 71 = .ok (.lrem, 1) := by decide +kernel
theorem dX6_sale_72 : decode cX6_sale 72 = .ok (.ldc2_w 207, 3) := by decide +kernel
theorem dX6_sale_75 : decode cX6_sale 75 = .ok (.ldiv, 1) := by decide +kernel
theorem dX6_sale_76 : decode cX6_sale 76 = .ok (.l2i, 1) := by decide +kernel
theorem dX6_sale_77 : decode cX6_sale 77 = .ok (.istore 7, 2) := by decide +kernel
theorem dX6_sale_79 : decode cX6_sale 79 = .ok (.iload 7, 2) := by decide +kernel
theorem dX6_sale_81 : decode cX6_sale 81 = .ok (.aload_n 0, 1) := by decide +kernel
theorem dX6_sale_82 : decode cX6_sale 82 = .ok (.getfield 73, 3) := by decide +kernel
theorem dX6_sale_85 : decode cX6_sale 85 = .ok (.irem, 1) := by decide +kernel
theorem dX6_sale_86 : decode cX6_sale 86 = .ok (.istore 8, 2) := by decide +kernel
theorem dX6_sale_88 : decode cX6_sale 88 = .ok (.iload 7, 2) := by decide +kernel
theorem dX6_sale_90 : decode cX6_sale 90 = .ok (.bipush 8, 2) := by decide +kernel
theorem dX6_sale_92 : decode cX6_sale 92 = .ok (.idiv, 1) := by decide +kernel
theorem dX6_sale_93 : decode cX6_sale 93 = .ok (.iconst 3, 1) := by decide +kernel
theorem dX6_sale_94 : decode cX6_sale 94 = .ok (.irem, 1) := by decide +kernel
theorem dX6_sale_95 : decode cX6_sale 95 = .ok (.istore 9, 2) := by decide +kernel
theorem dX6_sale_97 : decode cX6_sale 97 = .ok (.iload 9, 2) := by decide +kernel
theorem dX6_sale_99 : decode cX6_sale 99 = .ok (.ifCond .ne 41, 3) := by decide +kernel
theorem dX6_sale_102 : decode cX6_sale 102 = .ok (.aload_n 0, 1) := by decide +kernel
theorem dX6_sale_103 : decode cX6_sale 103 = .ok (.iload 8, 2) := by decide +kernel
theorem dX6_sale_105 : decode cX6_sale 105 = .ok (.invokevirtual 159, 3) := by decide +kernel
theorem dX6_sale_108 : decode cX6_sale 108 = .ok (.ifCond .eq 32, 3) := by decide +kernel
theorem dX6_sale_111 : decode cX6_sale 111 = .ok (.aload_n 0, 1) := by decide +kernel
theorem dX6_sale_112 : decode cX6_sale 112 = .ok (.getfield 43, 3) := by decide +kernel
theorem dX6_sale_115 : decode cX6_sale 115 = .ok (.iconst 1, 1) := by decide +kernel
theorem dX6_sale_116 : decode cX6_sale 116 = .ok (.dup2, 1) := by decide +kernel
theorem dX6_sale_117 : decode cX6_sale 117 = .ok (.iaload, 1) := by decide +kernel
theorem dX6_sale_118 : decode cX6_sale 118 = .ok (.aload_n 0, 1) := by decide +kernel
theorem dX6_sale_119 : decode cX6_sale 119 = .ok (.iload 8, 2) := by decide +kernel
theorem dX6_sale_121 : decode cX6_sale 121 = .ok (.invokevirtual 162, 3) := by decide +kernel
theorem dX6_sale_124 : decode cX6_sale 124 = .ok (.ior, 1) := by decide +kernel
theorem dX6_sale_125 : decode cX6_sale 125 = .ok (.iastore, 1) := by decide +kernel
theorem dX6_sale_126 : decode cX6_sale 126 = .ok (.aload_n 0, 1) := by decide +kernel
theorem dX6_sale_127 : decode cX6_sale 127 = .ok (.getfield 43, 3) := by decide +kernel
theorem dX6_sale_130 : decode cX6_sale 130 = .ok (.bipush 10, 2) := by decide +kernel
theorem dX6_sale_132 : decode cX6_sale 132 = .ok (.iload 8, 2) := by decide +kernel
theorem dX6_sale_134 : decode cX6_sale 134 = .ok (.iadd, 1) := by decide +kernel
theorem dX6_sale_135 : decode cX6_sale 135 = .ok (.iconst 2, 1) := by decide +kernel
theorem dX6_sale_136 : decode cX6_sale 136 = .ok (.iastore, 1) := by decide +kernel
theorem dX6_sale_137 : decode cX6_sale 137 = .ok (.goto 112, 3) := by decide +kernel
theorem dX6_sale_140 : decode cX6_sale 140 = .ok (.iload 9, 2) := by decide +kernel
theorem dX6_sale_142 : decode cX6_sale 142 = .ok (.iconst 1, 1) := by decide +kernel
theorem dX6_sale_143 : decode cX6_sale 143 = .ok (.if_icmp .ne 70, 3) := by decide +kernel
theorem dX6_sale_146 : decode cX6_sale 146 = .ok (.aload_n 0, 1) := by decide +kernel
theorem dX6_sale_147 : decode cX6_sale 147 = .ok (.getfield 43, 3) := by decide +kernel
theorem dX6_sale_150 : decode cX6_sale 150 = .ok (.bipush 10, 2) := by decide +kernel
theorem dX6_sale_152 : decode cX6_sale 152 = .ok (.iload 8, 2) := by decide +kernel
theorem dX6_sale_154 : decode cX6_sale 154 = .ok (.iadd, 1) := by decide +kernel
theorem dX6_sale_155 : decode cX6_sale 155 = .ok (.iaload, 1) := by decide +kernel
theorem dX6_sale_156 : decode cX6_sale 156 = .ok (.ifCond .ne 57, 3) := by decide +kernel
theorem dX6_sale_159 : decode cX6_sale 159 = .ok (.aload_n 0, 1) := by decide +kernel
theorem dX6_sale_160 : decode cX6_sale 160 = .ok (.getfield 43, 3) := by decide +kernel
theorem dX6_sale_163 : decode cX6_sale 163 = .ok (.iconst 0, 1) := by decide +kernel
theorem dX6_sale_164 : decode cX6_sale 164 = .ok (.iaload, 1) := by decide +kernel
theorem dX6_sale_165 : decode cX6_sale 165 = .ok (.aload_n 0, 1) := by decide +kernel
theorem dX6_sale_166 : decode cX6_sale 166 = .ok (.getfield 7, 3) := by decide +kernel
theorem dX6_sale_169 : decode cX6_sale 169 = .ok (.iconst 2, 1) := by decide +kernel
theorem dX6_sale_170 : decode cX6_sale 170 = .ok (.iload 8, 2) := by decide +kernel
theorem dX6_sale_172 : decode cX6_sale 172 = .ok (.imul, 1) := by decide +kernel
theorem dX6_sale_173 : decode cX6_sale 173 = .ok (.iconst 1, 1) := by decide +kernel
theorem dX6_sale_174 : decode cX6_sale 174 = .ok (.iadd, 1) := by decide +kernel
theorem dX6_sale_175 : decode cX6_sale 175 = .ok (.iaload, 1) := by decide +kernel
theorem dX6_sale_176 : decode cX6_sale 176 = .ok (.if_icmp .lt 37, 3) := by decide +kernel
theorem dX6_sale_179 : decode cX6_sale 179 = .ok (.aload_n 0, 1) := by decide +kernel
theorem dX6_sale_180 : decode cX6_sale 180 = .ok (.getfield 43, 3) := by decide +kernel
theorem dX6_sale_183 : decode cX6_sale 183 = .ok (.bipush 10, 2) := by decide +kernel
theorem dX6_sale_185 : decode cX6_sale 185 = .ok (.iload 8, 2) := by decide +kernel
theorem dX6_sale_187 : decode cX6_sale 187 = .ok (.iadd, 1) := by decide +kernel
theorem dX6_sale_188 : decode cX6_sale 188 = .ok (.iconst 1, 1) := by decide +kernel
theorem dX6_sale_189 : decode cX6_sale 189 = .ok (.iastore, 1) := by decide +kernel
theorem dX6_sale_190 : decode cX6_sale 190 = .ok (.aload_n 0, 1) := by decide +kernel
theorem dX6_sale_191 : decode cX6_sale 191 = .ok (.getfield 43, 3) := by decide +kernel
theorem dX6_sale_194 : decode cX6_sale 194 = .ok (.iconst 0, 1) := by decide +kernel
theorem dX6_sale_195 : decode cX6_sale 195 = .ok (.dup2, 1) := by decide +kernel
theorem dX6_sale_196 : decode cX6_sale 196 = .ok (.iaload, 1) := by decide +kernel
theorem dX6_sale_197 : decode cX6_sale 197 = .ok (.aload_n 0, 1) := by decide +kernel
theorem dX6_sale_198 : decode cX6_sale 198 = .ok (.getfield 7, 3) := by decide +kernel
theorem dX6_sale_201 : decode cX6_sale 201 = .ok (.iconst 2, 1) := by decide +kernel
theorem dX6_sale_202 : decode cX6_sale 202 = .ok (.iload 8, 2) := by decide +kernel
theorem dX6_sale_204 : decode cX6_sale 204 = .ok (.imul, 1) := by decide +kernel
theorem dX6_sale_205 : decode cX6_sale 205 = .ok (.iconst 1, 1) := by decide +kernel
theorem dX6_sale_206 : decode cX6_sale 206 = .ok (.iadd, 1) := by decide +kernel
theorem dX6_sale_207 : decode cX6_sale 207 = .ok (.iaload, 1) := by decide +kernel
theorem dX6_sale_208 : decode cX6_sale 208 = .ok (.isub, 1) := by decide +kernel
theorem dX6_sale_209 : decode cX6_sale 209 = .ok (.iastore, 1) := by decide +kernel
theorem dX6_sale_210 : decode cX6_sale 210 = .ok (.goto 39, 3) := by decide +kernel
theorem dX6_sale_213 : decode cX6_sale 213 = .ok (.iload 9, 2) := by decide +kernel
theorem dX6_sale_215 : decode cX6_sale 215 = .ok (.iconst 2, 1) := by decide +kernel
theorem dX6_sale_216 : decode cX6_sale 216 = .ok (.if_icmp .ne 33, 3) := by decide +kernel
theorem dX6_sale_219 : decode cX6_sale 219 = .ok (.aload_n 0, 1) := by decide +kernel
theorem dX6_sale_220 : decode cX6_sale 220 = .ok (.getfield 43, 3) := by decide +kernel
theorem dX6_sale_223 : decode cX6_sale 223 = .ok (.bipush 10, 2) := by decide +kernel
theorem dX6_sale_225 : decode cX6_sale 225 = .ok (.iload 8, 2) := by decide +kernel
theorem dX6_sale_227 : decode cX6_sale 227 = .ok (.iadd, 1) := by decide +kernel
theorem dX6_sale_228 : decode cX6_sale 228 = .ok (.iaload, 1) := by decide +kernel
theorem dX6_sale_229 : decode cX6_sale 229 = .ok (.iconst 2, 1) := by decide +kernel
theorem dX6_sale_230 : decode cX6_sale 230 = .ok (.if_icmp .eq 19, 3) := by decide +kernel
theorem dX6_sale_233 : decode cX6_sale 233 = .ok (.aload_n 0, 1) := by decide +kernel
theorem dX6_sale_234 : decode cX6_sale 234 = .ok (.getfield 43, 3) := by decide +kernel
theorem dX6_sale_237 : decode cX6_sale 237 = .ok (.iconst 2, 1) := by decide +kernel
theorem dX6_sale_238 : decode cX6_sale 238 = .ok (.iload 8, 2) := by decide +kernel
theorem dX6_sale_240 : decode cX6_sale 240 = .ok (.iadd, 1) := by decide +kernel
theorem dX6_sale_241 : decode cX6_sale 241 = .ok (.iload 7, 2) := by decide +kernel
theorem dX6_sale_243 : decode cX6_sale 243 = .ok (.bipush 32, 2) := by decide +kernel
theorem dX6_sale_245 : decode cX6_sale 245 = .ok (.idiv, 1) := by decide +kernel
theorem dX6_sale_246 : decode cX6_sale 246 = .ok (.iconst 4, 1) := by decide +kernel
theorem dX6_sale_247 : decode cX6_sale 247 = .ok (.irem, 1) := by decide +kernel
theorem dX6_sale_248 : decode cX6_sale 248 = .ok (.iastore, 1) := by decide +kernel
theorem dX6_sale_249 : decode cX6_sale 249 = .ok (.iinc 4 1, 3) := by decide +kernel
theorem dX6_sale_252 : decode cX6_sale 252 = .ok (.goto (-213), 3) := by decide +kernel
theorem dX6_sale_255 : decode cX6_sale 255 = .ok (.iload_n 3, 1) := by decide +kernel
theorem dX6_sale_256 : decode cX6_sale 256 = .ok (.ifCond .ne 12, 3) := by decide +kernel
theorem dX6_sale_259 : decode cX6_sale 259 = .ok (.aload_n 0, 1) := by decide +kernel
theorem dX6_sale_260 : decode cX6_sale 260 = .ok (.getfield 43, 3) := by decide +kernel
theorem dX6_sale_263 : decode cX6_sale 263 = .ok (.iconst 1, 1) := by decide +kernel
theorem dX6_sale_264 : decode cX6_sale 264 = .ok (.iaload, 1) := by decide +kernel
theorem dX6_sale_265 : decode cX6_sale 265 = .ok (.goto 9, 3) := by decide +kernel
theorem dX6_sale_268 : decode cX6_sale 268 = .ok (.aload_n 0, 1) := by decide +kernel
theorem dX6_sale_269 : decode cX6_sale 269 = .ok (.getfield 43, 3) := by decide +kernel
theorem dX6_sale_272 : decode cX6_sale 272 = .ok (.iconst 0, 1) := by decide +kernel
theorem dX6_sale_273 : decode cX6_sale 273 = .ok (.iaload, 1) := by decide +kernel
theorem dX6_sale_274 : decode cX6_sale 274 = .ok (.ireturn, 1) := by decide +kernel
set_option maxRecDepth 20000 in
theorem ggX6_keep_X6_copies : GoodIn wsX6_keep wsX6_copies := goodIn_r _ [7] (by decide +kernel) (by decide +kernel)
set_option maxRecDepth 20000 in
theorem gX6_keep_X6_copies : GoodIn wsX6_keep (va_wsS RX6 123 yX6_copies wsX6_copies) := goodIn_app (goodIn_of _ (by decide +kernel)) ggX6_keep_X6_copies
theorem dX6_keep_0 : decode cX6_keep 0 = .ok (.aload_n 0, 1) := by decide +kernel
theorem dX6_keep_1 : decode cX6_keep 1 = .ok (.getfield 133, 3) := by decide +kernel
theorem dX6_keep_4 : decode cX6_keep 4 = .ok (.iconst 2, 1) := by decide +kernel
theorem dX6_keep_5 : decode cX6_keep 5 = .ok (.if_icmp .ne 6, 3) := by decide +kernel
theorem dX6_keep_8 : decode cX6_keep 8 = .ok (.bipush (-3), 2) := by decide +kernel
theorem dX6_keep_10 : decode cX6_keep 10 = .ok (.ireturn, 1) := by decide +kernel
theorem dX6_keep_11 : decode cX6_keep 11 = .ok (.aload_n 0, 1) := by decide +kernel
theorem dX6_keep_12 : decode cX6_keep 12 = .ok (.getfield 22, 3) := by decide +kernel
theorem dX6_keep_15 : decode cX6_keep 15 = .ok (.bipush 18, 2) := by decide +kernel
theorem dX6_keep_17 : decode cX6_keep 17 = .ok (.aload_n 0, 1) := by decide +kernel
theorem dX6_keep_18 : decode cX6_keep 18 = .ok (.getfield 133, 3) := by decide +kernel
theorem dX6_keep_21 : decode cX6_keep 21 = .ok (.imul, 1) := by decide +kernel
theorem dX6_keep_22 : decode cX6_keep 22 = .ok (.aload_n 0, 1) := by decide +kernel
theorem dX6_keep_23 : decode cX6_keep 23 = .ok (.getfield 16, 3) := by decide +kernel
theorem dX6_keep_26 : decode cX6_keep 26 = .ok (.iconst 0, 1) := by decide +kernel
theorem dX6_keep_27 : decode cX6_keep 27 = .ok (.bipush 18, 2) := by decide +kernel
theorem dX6_keep_29 : decode cX6_keep 29 = .ok (.invokestatic 123, 3) := by decide +kernel
theorem dX6_keep_32 : decode cX6_keep 32 = .ok (.aload_n 0, 1) := by decide +kernel
theorem dX6_keep_33 : decode cX6_keep 33 = .ok (.dup, 1) := by decide +kernel
theorem dX6_keep_34 : decode cX6_keep 34 = .ok (.getfield 133, 3) := by decide +kernel
theorem dX6_keep_37 : decode cX6_keep 37 = .ok (.iconst 1, 1) := by decide +kernel
theorem dX6_keep_38 : decode cX6_keep 38 = .ok (.iadd, 1) := by decide +kernel
theorem dX6_keep_39 : decode cX6_keep 39 = .ok (.putfield 133, 3) := by decide +kernel
theorem dX6_keep_42 : decode cX6_keep 42 = .ok (.aload_n 0, 1) := by decide +kernel
theorem dX6_keep_43 : decode cX6_keep 43 = .ok (.getfield 133, 3) := by decide +kernel
theorem dX6_keep_46 : decode cX6_keep 46 = .ok (.ireturn, 1) := by decide +kernel
set_option maxRecDepth 20000 in
theorem ggX6_back_X6_copies : GoodIn wsX6_back wsX6_copies := goodIn_r _ [8] (by decide +kernel) (by decide +kernel)
set_option maxRecDepth 20000 in
theorem gX6_back_X6_copies : GoodIn wsX6_back (va_wsS RX6 123 yX6_copies wsX6_copies) := goodIn_app (goodIn_of _ (by decide +kernel)) ggX6_back_X6_copies
theorem dX6_back_0 : decode cX6_back 0 = .ok (.aload_n 0, 1) := by decide +kernel
theorem dX6_back_1 : decode cX6_back 1 = .ok (.getfield 133, 3) := by decide +kernel
theorem dX6_back_4 : decode cX6_back 4 = .ok (.ifCond .ne 6, 3) := by decide +kernel
theorem dX6_back_7 : decode cX6_back 7 = .ok (.bipush (-2), 2) := by decide +kernel
theorem dX6_back_9 : decode cX6_back 9 = .ok (.ireturn, 1) := by decide +kernel
theorem dX6_back_10 : decode cX6_back 10 = .ok (.aload_n 0, 1) := by decide +kernel
theorem dX6_back_11 : decode cX6_back 11 = .ok (.dup, 1) := by decide +kernel
theorem dX6_back_12 : decode cX6_back 12 = .ok (.getfield 133, 3) := by decide +kernel
theorem dX6_back_15 : decode cX6_back 15 = .ok (.iconst 1, 1) := by decide +kernel
theorem dX6_back_16 : decode cX6_back 16 = .ok (.isub, 1) := by decide +kernel
theorem dX6_back_17 : decode cX6_back 17 = .ok (.putfield 133, 3) := by decide +kernel
theorem dX6_back_20 : decode cX6_back 20 = .ok (.aload_n 0, 1) := by decide +kernel
theorem dX6_back_21 : decode cX6_back 21 = .ok (.getfield 16, 3) := by decide +kernel
theorem dX6_back_24 : decode cX6_back 24 = .ok (.iconst 0, 1) := by decide +kernel
theorem dX6_back_25 : decode cX6_back 25 = .ok (.aload_n 0, 1) := by decide +kernel
theorem dX6_back_26 : decode cX6_back 26 = .ok (.getfield 22, 3) := by decide +kernel
theorem dX6_back_29 : decode cX6_back 29 = .ok (.bipush 18, 2) := by decide +kernel
theorem dX6_back_31 : decode cX6_back 31 = .ok (.aload_n 0, 1) := by decide +kernel
theorem dX6_back_32 : decode cX6_back 32 = .ok (.getfield 133, 3) := by decide +kernel
theorem dX6_back_35 : decode cX6_back 35 = .ok (.imul, 1) := by decide +kernel
theorem dX6_back_36 : decode cX6_back 36 = .ok (.bipush 18, 2) := by decide +kernel
theorem dX6_back_38 : decode cX6_back 38 = .ok (.invokestatic 123, 3) := by decide +kernel
theorem dX6_back_41 : decode cX6_back 41 = .ok (.aload_n 0, 1) := by decide +kernel
theorem dX6_back_42 : decode cX6_back 42 = .ok (.iconst 0, 1) := by decide +kernel
theorem dX6_back_43 : decode cX6_back 43 = .ok (.putfield 130, 3) := by decide +kernel
theorem dX6_back_46 : decode cX6_back 46 = .ok (.aload_n 0, 1) := by decide +kernel
theorem dX6_back_47 : decode cX6_back 47 = .ok (.getfield 133, 3) := by decide +kernel
theorem dX6_back_50 : decode cX6_back 50 = .ok (.ireturn, 1) := by decide +kernel
theorem dX6_manyAre_0 : decode cX6_manyAre 0 = .ok (.iconst 0, 1) := by decide +kernel
theorem dX6_manyAre_1 : decode cX6_manyAre 1 = .ok (.istore_n 2, 1) := by decide +kernel
theorem dX6_manyAre_2 : decode cX6_manyAre 2 = .ok (.iconst 0, 1) := by decide +kernel
theorem dX6_manyAre_3 : decode cX6_manyAre 3 = .ok (.istore_n 3, 1) := by decide +kernel
theorem dX6_manyAre_4 : decode cX6_manyAre 4 = .ok (.iload_n 3, 1) := by decide +kernel
theorem dX6_manyAre_5 : decode cX6_manyAre 5 = .ok (.aload_n 0, 1) := by decide +kernel
theorem dX6_manyAre_6 : decode cX6_manyAre 6 = .ok (.getfield 73, 3) := by decide +kernel
theorem dX6_manyAre_9 : decode cX6_manyAre 9 = .ok (.if_icmp .ge 30, 3) := by decide +kernel
theorem dX6_manyAre_12 : decode cX6_manyAre 12 = .ok (.iload_n 2, 1) := by decide +kernel
theorem dX6_manyAre_13 : decode cX6_manyAre 13 = .ok (.aload_n 0, 1) := by decide +kernel
theorem dX6_manyAre_14 : decode cX6_manyAre 14 = .ok (.getfield 16, 3) := by decide +kernel
theorem dX6_manyAre_17 : decode cX6_manyAre 17 = .ok (.bipush 10, 2) := by decide +kernel
theorem dX6_manyAre_19 : decode cX6_manyAre 19 = .ok (.iload_n 3, 1) := by decide +kernel
theorem dX6_manyAre_20 : decode cX6_manyAre 20 = .ok (.iadd, 1) := by decide +kernel
theorem dX6_manyAre_21 : decode cX6_manyAre 21 = .ok (.iaload, 1) := by decide +kernel
theorem dX6_manyAre_22 : decode cX6_manyAre 22 = .ok (.iload_n 1, 1) := by decide +kernel
theorem dX6_manyAre_23 : decode cX6_manyAre 23 = .ok (.if_icmp .ne 7, 3) := by decide +kernel
theorem dX6_manyAre_26 : decode cX6_manyAre 26 = .ok (.iconst 1, 1) := by decide +kernel
theorem dX6_manyAre_27 : decode cX6_manyAre 27 = .ok (.goto 4, 3) := by decide +kernel
theorem dX6_manyAre_30 : decode cX6_manyAre 30 = .ok (.iconst 0, 1) := by decide +kernel
theorem dX6_manyAre_31 : decode cX6_manyAre 31 = .ok (.iadd, 1) := by decide +kernel
theorem dX6_manyAre_32 : decode cX6_manyAre 32 = .ok (.istore_n 2, 1) := by decide +kernel
theorem dX6_manyAre_33 : decode cX6_manyAre 33 = .ok (.iinc 3 1, 3) := by decide +kernel
theorem dX6_manyAre_36 : decode cX6_manyAre 36 = .ok (.goto (-32), 3) := by decide +kernel
theorem dX6_manyAre_39 : decode cX6_manyAre 39 = .ok (.iload_n 2, 1) := by decide +kernel
theorem dX6_manyAre_40 : decode cX6_manyAre 40 = .ok (.ireturn, 1) := by decide +kernel
set_option maxRecDepth 20000 in
theorem ggX6_count_X6_asItIs : GoodIn wsX6_count wsX6_asItIs := goodIn_r _ [12, 13, 3, 14, 15, 11, 16, 37, 38, 39, 40, 41, 42, 43, 44, 45, 46, 47, 48, 49, 50, 51, 52, 53, 54, 55, 56, 57, 58, 59, 60] (by decide +kernel) (by decide +kernel)
set_option maxRecDepth 20000 in
theorem gX6_count_X6_asItIs : GoodIn wsX6_count (wsV RX6 168 RX6 yX6_asItIs wsX6_asItIs) := goodIn_app (goodIn_of _ (by decide +kernel)) ggX6_count_X6_asItIs
set_option maxRecDepth 20000 in
theorem ggX6_count_X6_loose : GoodIn wsX6_count wsX6_loose := goodIn_r _ [20, 1, 21, 22, 23, 11, 24, 13, 25, 26, 27, 28, 29, 37, 38, 39, 40, 41, 42, 43, 44, 45, 46, 47, 48, 49, 50, 51, 52, 53, 54, 55, 56, 57, 58, 59, 60] (by decide +kernel) (by decide +kernel)
set_option maxRecDepth 20000 in
theorem gX6_count_X6_loose : GoodIn wsX6_count (wsV RX6 183 RX6 yX6_loose wsX6_loose) := goodIn_app (goodIn_of _ (by decide +kernel)) ggX6_count_X6_loose
set_option maxRecDepth 20000 in
theorem ggX6_count_X6_bits : GoodIn wsX6_count wsX6_bits := goodIn_r _ [32] (by decide +kernel) (by decide +kernel)
set_option maxRecDepth 20000 in
theorem gX6_count_X6_bits : GoodIn wsX6_count (va_wsS RX6 180 yX6_bits wsX6_bits) := goodIn_app (goodIn_of _ (by decide +kernel)) ggX6_count_X6_bits
set_option maxRecDepth 20000 in
theorem ggX6_count_X6_manyAre : GoodIn wsX6_count wsX6_manyAre := goodIn_r _ [36, 1, 3, 37, 38, 39, 40, 41, 42, 43, 44, 45, 46, 47, 48, 49, 50, 51, 52, 53, 54, 55, 56, 57, 58, 59, 60] (by decide +kernel) (by decide +kernel)
set_option maxRecDepth 20000 in
theorem gX6_count_X6_manyAre : GoodIn wsX6_count (wsV RX6 209 RX6 yX6_manyAre wsX6_manyAre) := goodIn_app (goodIn_of _ (by decide +kernel)) ggX6_count_X6_manyAre
theorem dX6_count_0 : decode cX6_count 0 = .ok (.aload_n 0, 1) := by decide +kernel
theorem dX6_count_1 : decode cX6_count 1 = .ok (.invokevirtual 168, 3) := by decide +kernel
theorem dX6_count_4 : decode cX6_count 4 = .ok (.iload_n 1, 1) := by decide +kernel
theorem dX6_count_5 : decode cX6_count 5 = .ok (.tableswitch 126 0 10 #[59, 64, 69, 76, 84, 90, 96, 106, 111, 116, 121], 59) := by decide +kernel
theorem dX6_count_64 : decode cX6_count 64 = .ok (.aload_n 0, 1) := by decide +kernel
theorem dX6_count_65 : decode cX6_count 65 = .ok (.getfield 73, 3) := by decide +kernel
theorem dX6_count_68 : decode cX6_count 68 = .ok (.ireturn, 1) := by decide +kernel
theorem dX6_count_69 : decode cX6_count 69 = .ok (.aload_n 0, 1) := by decide +kernel
theorem dX6_count_70 : decode cX6_count 70 = .ok (.getfield 80, 3) := by decide +kernel
theorem dX6_count_73 : decode cX6_count 73 = .ok (.ireturn, 1) := by decide +kernel
theorem dX6_count_74 : decode cX6_count 74 = .ok (.aload_n 0, 1) := by decide +kernel
theorem dX6_count_75 : decode cX6_count 75 = .ok (.getfield 16, 3) := by decide +kernel
theorem dX6_count_78 : decode cX6_count 78 = .ok (.iconst 0, 1) := by decide +kernel
theorem dX6_count_79 : decode cX6_count 79 = .ok (.iaload, 1) := by decide +kernel
theorem dX6_count_80 : decode cX6_count 80 = .ok (.ireturn, 1) := by decide +kernel
theorem dX6_count_81 : decode cX6_count 81 = .ok (.aload_n 0, 1) := by decide +kernel
theorem dX6_count_82 : decode cX6_count 82 = .ok (.invokevirtual 183, 3) := by decide +kernel
theorem dX6_count_85 : decode cX6_count 85 = .ok (.invokestatic 180, 3) := by decide +kernel
theorem dX6_count_88 : decode cX6_count 88 = .ok (.ireturn, 1) := by decide +kernel
theorem dX6_count_89 : decode cX6_count 89 = .ok (.aload_n 0, 1) := by decide +kernel
theorem dX6_count_90 : decode cX6_count 90 = .ok (.iconst 1, 1) := by decide +kernel
theorem dX6_count_91 : decode cX6_count 91 = .ok (.invokevirtual 209, 3) := by decide +kernel
theorem dX6_count_94 : decode cX6_count 94 = .ok (.ireturn, 1) := by decide +kernel
theorem dX6_count_95 : decode cX6_count 95 = .ok (.aload_n 0, 1) := by decide +kernel
theorem dX6_count_96 : decode cX6_count 96 = .ok (.iconst 2, 1) := by decide +kernel
theorem dX6_count_97 : decode cX6_count 97 = .ok (.invokevirtual 209, 3) := by decide +kernel
theorem dX6_count_100 : decode cX6_count 100 = .ok (.ireturn, 1) := by decide +kernel
theorem dX6_count_101 : decode cX6_count 101 = .ok (.aload_n 0, 1) := by decide +kernel
theorem dX6_count_102 : decode cX6_count 102 = .ok (.getfield 16, 3) := by decide +kernel
theorem dX6_count_105 : decode cX6_count 105 = .ok (.iconst 1, 1) := by decide +kernel
theorem dX6_count_106 : decode cX6_count 106 = .ok (.iaload, 1) := by decide +kernel
theorem dX6_count_107 : decode cX6_count 107 = .ok (.invokestatic 180, 3) := by decide +kernel
theorem dX6_count_110 : decode cX6_count 110 = .ok (.ireturn, 1) := by decide +kernel
theorem dX6_count_111 : decode cX6_count 111 = .ok (.aload_n 0, 1) := by decide +kernel
theorem dX6_count_112 : decode cX6_count 112 = .ok (.getfield 136, 3) := by decide +kernel
theorem dX6_count_115 : decode cX6_count 115 = .ok (.ireturn, 1) := by decide +kernel
theorem dX6_count_116 : decode cX6_count 116 = .ok (.aload_n 0, 1) := by decide +kernel
theorem dX6_count_117 : decode cX6_count 117 = .ok (.getfield 130, 3) := by decide +kernel
theorem dX6_count_120 : decode cX6_count 120 = .ok (.ireturn, 1) := by decide +kernel
theorem dX6_count_121 : decode cX6_count 121 = .ok (.aload_n 0, 1) := by decide +kernel
theorem dX6_count_122 : decode cX6_count 122 = .ok (.getfield 133, 3) := by decide +kernel
theorem dX6_count_125 : decode cX6_count 125 = .ok (.ireturn, 1) := by decide +kernel
theorem dX6_count_126 : decode cX6_count 126 = .ok (.aload_n 0, 1) := by decide +kernel
theorem dX6_count_127 : decode cX6_count 127 = .ok (.getfield 83, 3) := by decide +kernel
theorem dX6_count_130 : decode cX6_count 130 = .ok (.ireturn, 1) := by decide +kernel
theorem dX6_count_131 : decode cX6_count 131 = .ok (.iconst (-1), 1) := by decide +kernel
theorem dX6_count_132 : decode cX6_count 132 = .ok (.ireturn, 1) := by decide +kernel
theorem dJ6_bitCount_0f7a4_0 : decode cJ6_bitCount_0f7a4 0 = .ok (.iload_n 0, 1) := by decide +kernel
theorem dJ6_bitCount_0f7a4_1 : decode cJ6_bitCount_0f7a4 1 = .ok (.iload_n 0, 1) := by decide +kernel
theorem dJ6_bitCount_0f7a4_2 : decode cJ6_bitCount_0f7a4 2 = .ok (.iconst 1, 1) := by decide +kernel
theorem dJ6_bitCount_0f7a4_3 : decode cJ6_bitCount_0f7a4 3 = .ok (.iushr, 1) := by decide +kernel
theorem dJ6_bitCount_0f7a4_4 : decode cJ6_bitCount_0f7a4 4 = .ok (.ldc_w 265, 3) := by decide +kernel
theorem dJ6_bitCount_0f7a4_7 : decode cJ6_bitCount_0f7a4 7 = .ok (.iand, 1) := by decide +kernel
theorem dJ6_bitCount_0f7a4_8 : decode cJ6_bitCount_0f7a4 8 = .ok (.isub, 1) := by decide +kernel
theorem dJ6_bitCount_0f7a4_9 : decode cJ6_bitCount_0f7a4 9 = .ok (.istore_n 0, 1) := by decide +kernel
theorem dJ6_bitCount_0f7a4_10 : decode cJ6_bitCount_0f7a4 10 = .ok (.iload_n 0, 1) := by decide +kernel
theorem dJ6_bitCount_0f7a4_11 : decode cJ6_bitCount_0f7a4 11 = .ok (.ldc_w 266, 3) := by decide +kernel
theorem dJ6_bitCount_0f7a4_14 : decode cJ6_bitCount_0f7a4 14 = .ok (.iand, 1) := by decide +kernel
theorem dJ6_bitCount_0f7a4_15 : decode cJ6_bitCount_0f7a4 15 = .ok (.iload_n 0, 1) := by decide +kernel
theorem dJ6_bitCount_0f7a4_16 : decode cJ6_bitCount_0f7a4 16 = .ok (.iconst 2, 1) := by decide +kernel
theorem dJ6_bitCount_0f7a4_17 : decode cJ6_bitCount_0f7a4 17 = .ok (.iushr, 1) := by decide +kernel
theorem dJ6_bitCount_0f7a4_18 : decode cJ6_bitCount_0f7a4 18 = .ok (.ldc_w 266, 3) := by decide +kernel
theorem dJ6_bitCount_0f7a4_21 : decode cJ6_bitCount_0f7a4 21 = .ok (.iand, 1) := by decide +kernel
theorem dJ6_bitCount_0f7a4_22 : decode cJ6_bitCount_0f7a4 22 = .ok (.iadd, 1) := by decide +kernel
theorem dJ6_bitCount_0f7a4_23 : decode cJ6_bitCount_0f7a4 23 = .ok (.istore_n 0, 1) := by decide +kernel
theorem dJ6_bitCount_0f7a4_24 : decode cJ6_bitCount_0f7a4 24 = .ok (.iload_n 0, 1) := by decide +kernel
theorem dJ6_bitCount_0f7a4_25 : decode cJ6_bitCount_0f7a4 25 = .ok (.iload_n 0, 1) := by decide +kernel
theorem dJ6_bitCount_0f7a4_26 : decode cJ6_bitCount_0f7a4 26 = .ok (.iconst 4, 1) := by decide +kernel
theorem dJ6_bitCount_0f7a4_27 : decode cJ6_bitCount_0f7a4 27 = .ok (.iushr, 1) := by decide +kernel
theorem dJ6_bitCount_0f7a4_28 : decode cJ6_bitCount_0f7a4 28 = .ok (.iadd, 1) := by decide +kernel
theorem dJ6_bitCount_0f7a4_29 : decode cJ6_bitCount_0f7a4 29 = .ok (.ldc_w 267, 3) := by decide +kernel
theorem dJ6_bitCount_0f7a4_32 : decode cJ6_bitCount_0f7a4 32 = .ok (.iand, 1) := by decide +kernel
theorem dJ6_bitCount_0f7a4_33 : decode cJ6_bitCount_0f7a4 33 = .ok (.istore_n 0, 1) := by decide +kernel
theorem dJ6_bitCount_0f7a4_34 : decode cJ6_bitCount_0f7a4 34 = .ok (.iload_n 0, 1) := by decide +kernel
theorem dJ6_bitCount_0f7a4_35 : decode cJ6_bitCount_0f7a4 35 = .ok (.iload_n 0, 1) := by decide +kernel
theorem dJ6_bitCount_0f7a4_36 : decode cJ6_bitCount_0f7a4 36 = .ok (.bipush 8, 2) := by decide +kernel
theorem dJ6_bitCount_0f7a4_38 : decode cJ6_bitCount_0f7a4 38 = .ok (.iushr, 1) := by decide +kernel
theorem dJ6_bitCount_0f7a4_39 : decode cJ6_bitCount_0f7a4 39 = .ok (.iadd, 1) := by decide +kernel
theorem dJ6_bitCount_0f7a4_40 : decode cJ6_bitCount_0f7a4 40 = .ok (.istore_n 0, 1) := by decide +kernel
theorem dJ6_bitCount_0f7a4_41 : decode cJ6_bitCount_0f7a4 41 = .ok (.iload_n 0, 1) := by decide +kernel
theorem dJ6_bitCount_0f7a4_42 : decode cJ6_bitCount_0f7a4 42 = .ok (.iload_n 0, 1) := by decide +kernel
theorem dJ6_bitCount_0f7a4_43 : decode cJ6_bitCount_0f7a4 43 = .ok (.bipush 16, 2) := by decide +kernel
theorem dJ6_bitCount_0f7a4_45 : decode cJ6_bitCount_0f7a4 45 = .ok (.iushr, 1) := by decide +kernel
theorem dJ6_bitCount_0f7a4_46 : decode cJ6_bitCount_0f7a4 46 = .ok (.iadd, 1) := by decide +kernel
theorem dJ6_bitCount_0f7a4_47 : decode cJ6_bitCount_0f7a4 47 = .ok (.istore_n 0, 1) := by decide +kernel
theorem dJ6_bitCount_0f7a4_48 : decode cJ6_bitCount_0f7a4 48 = .ok (.iload_n 0, 1) := by decide +kernel
theorem dJ6_bitCount_0f7a4_49 : decode cJ6_bitCount_0f7a4 49 = .ok (.bipush 63, 2) := by decide +kernel
theorem dJ6_bitCount_0f7a4_51 : decode cJ6_bitCount_0f7a4 51 = .ok (.iand, 1) := by decide +kernel
theorem dJ6_bitCount_0f7a4_52 : decode cJ6_bitCount_0f7a4 52 = .ok (.ireturn, 1) := by decide +kernel
theorem dJ9_max_7cf53_0 : decode cJ9_max_7cf53 0 = .ok (.iload_n 0, 1) := by decide +kernel
theorem dJ9_max_7cf53_1 : decode cJ9_max_7cf53 1 = .ok (.iload_n 1, 1) := by decide +kernel
theorem dJ9_max_7cf53_2 : decode cJ9_max_7cf53 2 = .ok (.if_icmp .lt 7, 3) := by decide +kernel
theorem dJ9_max_7cf53_5 : decode cJ9_max_7cf53 5 = .ok (.iload_n 0, 1) := by decide +kernel
theorem dJ9_max_7cf53_6 : decode cJ9_max_7cf53 6 = .ok (.goto 4, 3) := by decide +kernel
theorem dJ9_max_7cf53_9 : decode cJ9_max_7cf53 9 = .ok (.iload_n 1, 1) := by decide +kernel
theorem dJ9_max_7cf53_10 : decode cJ9_max_7cf53 10 = .ok (.ireturn, 1) := by decide +kernel
theorem dJ9_min_7cf53_0 : decode cJ9_min_7cf53 0 = .ok (.iload_n 0, 1) := by decide +kernel
theorem dJ9_min_7cf53_1 : decode cJ9_min_7cf53 1 = .ok (.iload_n 1, 1) := by decide +kernel
theorem dJ9_min_7cf53_2 : decode cJ9_min_7cf53 2 = .ok (.if_icmp .gt 7, 3) := by decide +kernel
theorem dJ9_min_7cf53_5 : decode cJ9_min_7cf53 5 = .ok (.iload_n 0, 1) := by decide +kernel
theorem dJ9_min_7cf53_6 : decode cJ9_min_7cf53 6 = .ok (.goto 4, 3) := by decide +kernel
theorem dJ9_min_7cf53_9 : decode cJ9_min_7cf53 9 = .ok (.iload_n 1, 1) := by decide +kernel
theorem dJ9_min_7cf53_10 : decode cJ9_min_7cf53 10 = .ok (.ireturn, 1) := by decide +kernel
set_option maxRecDepth 20000 in
theorem ggJ0_length_8abf5_J0_coder_7d493 : GoodIn wsJ0_length_8abf5 wsJ0_coder_7d493 := goodIn_r _ [6, 7, 8] (by decide +kernel) (by decide +kernel)
set_option maxRecDepth 20000 in
theorem gJ0_length_8abf5_J0_coder_7d493 : GoodIn wsJ0_length_8abf5 (wsV RJ0 335 RJ0 yJ0_coder_7d493 wsJ0_coder_7d493) := goodIn_app (goodIn_of _ (by decide +kernel)) ggJ0_length_8abf5_J0_coder_7d493
theorem dJ0_length_8abf5_0 : decode cJ0_length_8abf5 0 = .ok (.aload_n 0, 1) := by decide +kernel
theorem dJ0_length_8abf5_1 : decode cJ0_length_8abf5 1 = .ok (.getfield 9, 3) := by decide +kernel
theorem dJ0_length_8abf5_4 : decode cJ0_length_8abf5 4 = .ok (.arraylength, 1) := by decide +kernel
theorem dJ0_length_8abf5_5 : decode cJ0_length_8abf5 5 = .ok (.aload_n 0, 1) := by decide +kernel
theorem dJ0_length_8abf5_6 : decode cJ0_length_8abf5 6 = .ok (.invokevirtual 335, 3) := by decide +kernel
theorem dJ0_length_8abf5_9 : decode cJ0_length_8abf5 9 = .ok (.ishr, 1) := by decide +kernel
theorem dJ0_length_8abf5_10 : decode cJ0_length_8abf5 10 = .ok (.ireturn, 1) := by decide +kernel
set_option maxRecDepth 20000 in
theorem ggJ0_charAt_5068e_J0_isLatin1_aae02 : GoodIn wsJ0_charAt_5068e wsJ0_isLatin1_aae02 := goodIn_r _ [6, 7, 8] (by decide +kernel) (by decide +kernel)
set_option maxRecDepth 20000 in
theorem gJ0_charAt_5068e_J0_isLatin1_aae02 : GoodIn wsJ0_charAt_5068e (wsV RJ0 492 RJ0 yJ0_isLatin1_aae02 wsJ0_isLatin1_aae02) := goodIn_app (goodIn_of _ (by decide +kernel)) ggJ0_charAt_5068e_J0_isLatin1_aae02
set_option maxRecDepth 20000 in
theorem ggJ0_charAt_5068e_J1_charAt_3b067 : GoodIn wsJ0_charAt_5068e wsJ1_charAt_3b067 := goodIn_r _ [12, 13, 14, 5, 15, 16, 17, 18, 19, 20] (by decide +kernel) (by decide +kernel)
set_option maxRecDepth 20000 in
theorem gJ0_charAt_5068e_J1_charAt_3b067 : GoodIn wsJ0_charAt_5068e (va_wsS RJ0 495 yJ1_charAt_3b067 wsJ1_charAt_3b067) := goodIn_app (goodIn_of _ (by decide +kernel)) ggJ0_charAt_5068e_J1_charAt_3b067
set_option maxRecDepth 20000 in
theorem ggJ0_charAt_5068e_J2_charAt_3b067 : GoodIn wsJ0_charAt_5068e wsJ2_charAt_3b067 := goodIn_r _ [24, 25, 26, 23, 27, 28, 29, 30, 31, 14, 5, 15, 16, 17, 18, 19, 20, 32, 33, 34, 35, 36, 37] (by decide +kernel) (by decide +kernel)
set_option maxRecDepth 20000 in
theorem gJ0_charAt_5068e_J2_charAt_3b067 : GoodIn wsJ0_charAt_5068e (va_wsS RJ0 498 yJ2_charAt_3b067 wsJ2_charAt_3b067) := goodIn_app (goodIn_of _ (by decide +kernel)) ggJ0_charAt_5068e_J2_charAt_3b067
theorem dJ0_charAt_5068e_0 : decode cJ0_charAt_5068e 0 = .ok (.aload_n 0, 1) := by decide +kernel
theorem dJ0_charAt_5068e_1 : decode cJ0_charAt_5068e 1 = .ok (.invokevirtual 492, 3) := by decide +kernel
theorem dJ0_charAt_5068e_4 : decode cJ0_charAt_5068e 4 = .ok (.ifCond .eq 12, 3) := by decide +kernel
theorem dJ0_charAt_5068e_7 : decode cJ0_charAt_5068e 7 = .ok (.aload_n 0, 1) := by decide +kernel
theorem dJ0_charAt_5068e_8 : decode cJ0_charAt_5068e 8 = .ok (.getfield 9, 3) := by decide +kernel
theorem dJ0_charAt_5068e_11 : decode cJ0_charAt_5068e 11 = .ok (.iload_n 1, 1) := by decide +kernel
theorem dJ0_charAt_5068e_12 : decode cJ0_charAt_5068e 12 = .ok (.invokestatic 495, 3) := by decide +kernel
theorem dJ0_charAt_5068e_15 : decode cJ0_charAt_5068e 15 = .ok (.ireturn, 1) := by decide +kernel
theorem dJ0_charAt_5068e_16 : decode cJ0_charAt_5068e 16 = .ok (.aload_n 0, 1) := by decide +kernel
theorem dJ0_charAt_5068e_17 : decode cJ0_charAt_5068e 17 = .ok (.getfield 9, 3) := by decide +kernel
theorem dJ0_charAt_5068e_20 : decode cJ0_charAt_5068e 20 = .ok (.iload_n 1, 1) := by decide +kernel
theorem dJ0_charAt_5068e_21 : decode cJ0_charAt_5068e 21 = .ok (.invokestatic 498, 3) := by decide +kernel
theorem dJ0_charAt_5068e_24 : decode cJ0_charAt_5068e 24 = .ok (.ireturn, 1) := by decide +kernel
theorem dJ0_coder_7d493_0 : decode cJ0_coder_7d493 0 = .ok (.getstatic 38, 3) := by decide +kernel
theorem dJ0_coder_7d493_3 : decode cJ0_coder_7d493 3 = .ok (.ifCond .eq 10, 3) := by decide +kernel
theorem dJ0_coder_7d493_6 : decode cJ0_coder_7d493 6 = .ok (.aload_n 0, 1) := by decide +kernel
theorem dJ0_coder_7d493_7 : decode cJ0_coder_7d493 7 = .ok (.getfield 15, 3) := by decide +kernel
theorem dJ0_coder_7d493_10 : decode cJ0_coder_7d493 10 = .ok (.goto 4, 3) := by decide +kernel
theorem dJ0_coder_7d493_13 : decode cJ0_coder_7d493 13 = .ok (.iconst 1, 1) := by decide +kernel
theorem dJ0_coder_7d493_14 : decode cJ0_coder_7d493 14 = .ok (.ireturn, 1) := by decide +kernel
theorem dJ0_isLatin1_aae02_0 : decode cJ0_isLatin1_aae02 0 = .ok (.getstatic 38, 3) := by decide +kernel
theorem dJ0_isLatin1_aae02_3 : decode cJ0_isLatin1_aae02 3 = .ok (.ifCond .eq 14, 3) := by decide +kernel
theorem dJ0_isLatin1_aae02_6 : decode cJ0_isLatin1_aae02 6 = .ok (.aload_n 0, 1) := by decide +kernel
theorem dJ0_isLatin1_aae02_7 : decode cJ0_isLatin1_aae02 7 = .ok (.getfield 15, 3) := by decide +kernel
theorem dJ0_isLatin1_aae02_10 : decode cJ0_isLatin1_aae02 10 = .ok (.ifCond .ne 7, 3) := by decide +kernel
theorem dJ0_isLatin1_aae02_13 : decode cJ0_isLatin1_aae02 13 = .ok (.iconst 1, 1) := by decide +kernel
theorem dJ0_isLatin1_aae02_14 : decode cJ0_isLatin1_aae02 14 = .ok (.goto 4, 3) := by decide +kernel
theorem dJ0_isLatin1_aae02_17 : decode cJ0_isLatin1_aae02 17 = .ok (.iconst 0, 1) := by decide +kernel
theorem dJ0_isLatin1_aae02_18 : decode cJ0_isLatin1_aae02 18 = .ok (.ireturn, 1) := by decide +kernel
set_option maxRecDepth 20000 in
theorem ggJ0_checkIndex_df160_J3_checkIndex_8e157 : GoodIn wsJ0_checkIndex_df160 wsJ3_checkIndex_8e157 := goodIn_r _ [5] (by decide +kernel) (by decide +kernel)
set_option maxRecDepth 20000 in
theorem gJ0_checkIndex_df160_J3_checkIndex_8e157 : GoodIn wsJ0_checkIndex_df160 (va_wsS RJ0 1059 yJ3_checkIndex_8e157 wsJ3_checkIndex_8e157) := goodIn_app (goodIn_of _ (by decide +kernel)) ggJ0_checkIndex_df160_J3_checkIndex_8e157
theorem dJ0_checkIndex_df160_0 : decode cJ0_checkIndex_df160 0 = .ok (.iload_n 0, 1) := by decide +kernel
theorem dJ0_checkIndex_df160_1 : decode cJ0_checkIndex_df160 1 = .ok (.iload_n 1, 1) := by decide +kernel
theorem dJ0_checkIndex_df160_2 : decode cJ0_checkIndex_df160 2 = .ok (.getstatic 1053, 3) := by decide +kernel
theorem dJ0_checkIndex_df160_5 : decode cJ0_checkIndex_df160 5 = .ok (.invokestatic 1059, 3) := by decide +kernel
theorem dJ0_checkIndex_df160_8 : decode cJ0_checkIndex_df160 8 = .ok (.pop, 1) := by decide +kernel
theorem dJ0_checkIndex_df160_9 : decode cJ0_checkIndex_df160 9 = .ok (.return_, 1) := by decide +kernel
set_option maxRecDepth 20000 in
theorem ggJ1_charAt_3b067_J0_checkIndex_df160 : GoodIn wsJ1_charAt_3b067 wsJ0_checkIndex_df160 := goodIn_r _ [4, 5, 6, 7, 8, 9] (by decide +kernel) (by decide +kernel)
set_option maxRecDepth 20000 in
theorem gJ1_charAt_3b067_J0_checkIndex_df160 : GoodIn wsJ1_charAt_3b067 (va_wsS RJ1 9 yJ0_checkIndex_df160 wsJ0_checkIndex_df160) := goodIn_app (goodIn_of _ (by decide +kernel)) ggJ1_charAt_3b067_J0_checkIndex_df160
theorem dJ1_charAt_3b067_0 : decode cJ1_charAt_3b067 0 = .ok (.iload_n 1, 1) := by decide +kernel
theorem dJ1_charAt_3b067_1 : decode cJ1_charAt_3b067 1 = .ok (.aload_n 0, 1) := by decide +kernel
theorem dJ1_charAt_3b067_2 : decode cJ1_charAt_3b067 2 = .ok (.arraylength, 1) := by decide +kernel
theorem dJ1_charAt_3b067_3 : decode cJ1_charAt_3b067 3 = .ok (.invokestatic 9, 3) := by decide +kernel
theorem dJ1_charAt_3b067_6 : decode cJ1_charAt_3b067 6 = .ok (.aload_n 0, 1) := by decide +kernel
theorem dJ1_charAt_3b067_7 : decode cJ1_charAt_3b067 7 = .ok (.iload_n 1, 1) := by decide +kernel
theorem dJ1_charAt_3b067_8 : decode cJ1_charAt_3b067 8 = .ok (.baload, 1) := by decide +kernel
theorem dJ1_charAt_3b067_9 : decode cJ1_charAt_3b067 9 = .ok (.sipush 255, 3) := by decide +kernel
theorem dJ1_charAt_3b067_12 : decode cJ1_charAt_3b067 12 = .ok (.iand, 1) := by decide +kernel
theorem dJ1_charAt_3b067_13 : decode cJ1_charAt_3b067 13 = .ok (.i2c, 1) := by decide +kernel
theorem dJ1_charAt_3b067_14 : decode cJ1_charAt_3b067 14 = .ok (.ireturn, 1) := by decide +kernel
set_option maxRecDepth 20000 in
theorem ggJ2_getChar_3b067_J2_length_9d52b : GoodIn wsJ2_getChar_3b067 wsJ2_length_9d52b := goodIn_r _ [7] (by decide +kernel) (by decide +kernel)
set_option maxRecDepth 20000 in
theorem gJ2_getChar_3b067_J2_length_9d52b : GoodIn wsJ2_getChar_3b067 (va_wsS RJ2 48 yJ2_length_9d52b wsJ2_length_9d52b) := goodIn_app (goodIn_of _ (by decide +kernel)) ggJ2_getChar_3b067_J2_length_9d52b
theorem dJ2_getChar_3b067_0 : decode cJ2_getChar_3b067 0 = .ok (.getstatic 44, 3) := by decide +kernel
theorem dJ2_getChar_3b067_3 : decode cJ2_getChar_3b067 3 = .ok (.ifCond .ne 25, 3) := by decide +kernel
theorem dJ2_getChar_3b067_6 : decode cJ2_getChar_3b067 6 = .ok (.iload_n 1, 1) := by decide +kernel
theorem dJ2_getChar_3b067_7 : decode cJ2_getChar_3b067 7 = .ok (.ifCond .lt 11, 3) := by decide +kernel
theorem dJ2_getChar_3b067_10 : decode cJ2_getChar_3b067 10 = .ok (.iload_n 1, 1) := by decide +kernel
theorem dJ2_getChar_3b067_11 : decode cJ2_getChar_3b067 11 = .ok (.aload_n 0, 1) := by decide +kernel
theorem dJ2_getChar_3b067_12 : decode cJ2_getChar_3b067 12 = .ok (.invokestatic 48, 3) := by decide +kernel
theorem dJ2_getChar_3b067_15 : decode cJ2_getChar_3b067 15 = .ok (.if_icmp .lt 13, 3) := by decide +kernel
theorem dJ2_getChar_3b067_18 : decode cJ2_getChar_3b067 18 = .ok (.new 52, 3) := by decide +kernel
theorem dJ2_getChar_3b067_21 : decode cJ2_getChar_3b067 21 = .ok (.dup, 1) := by decide +kernel
theorem dJ2_getChar_3b067_22 : decode cJ2_getChar_3b067 22 = .ok (.ldc 54, 2) := by decide +kernel
theorem dJ2_getChar_3b067_24 : decode cJ2_getChar_3b067 24 = .ok (.invokespecial 56, 3) := by decide +kernel
theorem dJ2_getChar_3b067_27 : decode cJ2_getChar_3b067 27 = .ok (.athrow, 1) := by decide +kernel
theorem dJ2_getChar_3b067_28 : decode cJ2_getChar_3b067 28 = .ok (.iload_n 1, 1) := by decide +kernel
theorem dJ2_getChar_3b067_29 : decode cJ2_getChar_3b067 29 = .ok (.iconst 1, 1) := by decide +kernel
theorem dJ2_getChar_3b067_30 : decode cJ2_getChar_3b067 30 = .ok (.ishl, 1) := by decide +kernel
theorem dJ2_getChar_3b067_31 : decode cJ2_getChar_3b067 31 = .ok (.istore_n 1, 1) := by decide +kernel
theorem dJ2_getChar_3b067_32 : decode cJ2_getChar_3b067 32 = .ok (.aload_n 0, 1) := by decide +kernel
theorem dJ2_getChar_3b067_33 : decode cJ2_getChar_3b067 33 = .ok (.iload_n 1, 1) := by decide +kernel
theorem dJ2_getChar_3b067_34 : decode cJ2_getChar_3b067 34 = .ok (.iinc 1 1, 3) := by decide +kernel
theorem dJ2_getChar_3b067_37 : decode cJ2_getChar_3b067 37 = .ok (.baload, 1) := by decide +kernel
theorem dJ2_getChar_3b067_38 : decode cJ2_getChar_3b067 38 = .ok (.sipush 255, 3) := by decide +kernel
theorem dJ2_getChar_3b067_41 : decode cJ2_getChar_3b067 41 = .ok (.iand, 1) := by decide +kernel
theorem dJ2_getChar_3b067_42 : decode cJ2_getChar_3b067 42 = .ok (.getstatic 59, 3) := by decide +kernel
theorem dJ2_getChar_3b067_45 : decode cJ2_getChar_3b067 45 = .ok (.ishl, 1) := by decide +kernel
theorem dJ2_getChar_3b067_46 : decode cJ2_getChar_3b067 46 = .ok (.aload_n 0, 1) := by decide +kernel
theorem dJ2_getChar_3b067_47 : decode cJ2_getChar_3b067 47 = .ok (.iload_n 1, 1) := by decide +kernel
theorem dJ2_getChar_3b067_48 : decode cJ2_getChar_3b067 48 = .ok (.baload, 1) := by decide +kernel
theorem dJ2_getChar_3b067_49 : decode cJ2_getChar_3b067 49 = .ok (.sipush 255, 3) := by decide +kernel
theorem dJ2_getChar_3b067_52 : decode cJ2_getChar_3b067 52 = .ok (.iand, 1) := by decide +kernel
theorem dJ2_getChar_3b067_53 : decode cJ2_getChar_3b067 53 = .ok (.getstatic 63, 3) := by decide +kernel
theorem dJ2_getChar_3b067_56 : decode cJ2_getChar_3b067 56 = .ok (.ishl, 1) := by decide +kernel
theorem dJ2_getChar_3b067_57 : decode cJ2_getChar_3b067 57 = .ok (.ior, 1) := by decide +kernel
theorem dJ2_getChar_3b067_58 : decode cJ2_getChar_3b067 58 = .ok (.i2c, 1) := by decide +kernel
theorem dJ2_getChar_3b067_59 : decode cJ2_getChar_3b067 59 = .ok (.ireturn, 1) := by decide +kernel
theorem dJ2_length_9d52b_0 : decode cJ2_length_9d52b 0 = .ok (.aload_n 0, 1) := by decide +kernel
theorem dJ2_length_9d52b_1 : decode cJ2_length_9d52b 1 = .ok (.arraylength, 1) := by decide +kernel
theorem dJ2_length_9d52b_2 : decode cJ2_length_9d52b 2 = .ok (.iconst 1, 1) := by decide +kernel
theorem dJ2_length_9d52b_3 : decode cJ2_length_9d52b 3 = .ok (.ishr, 1) := by decide +kernel
theorem dJ2_length_9d52b_4 : decode cJ2_length_9d52b 4 = .ok (.ireturn, 1) := by decide +kernel
set_option maxRecDepth 20000 in
theorem ggJ2_charAt_3b067_J2_checkIndex_2214a : GoodIn wsJ2_charAt_3b067 wsJ2_checkIndex_2214a := goodIn_r _ [4, 5, 6, 3, 7, 8, 9, 10, 11, 12, 13, 14, 15, 16] (by decide +kernel) (by decide +kernel)
set_option maxRecDepth 20000 in
theorem gJ2_charAt_3b067_J2_checkIndex_2214a : GoodIn wsJ2_charAt_3b067 (va_wsS RJ2 67 yJ2_checkIndex_2214a wsJ2_checkIndex_2214a) := goodIn_app (goodIn_of _ (by decide +kernel)) ggJ2_charAt_3b067_J2_checkIndex_2214a
set_option maxRecDepth 20000 in
theorem ggJ2_charAt_3b067_J2_getChar_3b067 : GoodIn wsJ2_charAt_3b067 wsJ2_getChar_3b067 := goodIn_r _ [19, 20, 21, 22, 5, 6, 3, 7] (by decide +kernel) (by decide +kernel)
set_option maxRecDepth 20000 in
theorem gJ2_charAt_3b067_J2_getChar_3b067 : GoodIn wsJ2_charAt_3b067 (va_wsS RJ2 71 yJ2_getChar_3b067 wsJ2_getChar_3b067) := goodIn_app (goodIn_of _ (by decide +kernel)) ggJ2_charAt_3b067_J2_getChar_3b067
theorem dJ2_charAt_3b067_0 : decode cJ2_charAt_3b067 0 = .ok (.iload_n 1, 1) := by decide +kernel
theorem dJ2_charAt_3b067_1 : decode cJ2_charAt_3b067 1 = .ok (.aload_n 0, 1) := by decide +kernel
theorem dJ2_charAt_3b067_2 : decode cJ2_charAt_3b067 2 = .ok (.invokestatic 67, 3) := by decide +kernel
theorem dJ2_charAt_3b067_5 : decode cJ2_charAt_3b067 5 = .ok (.aload_n 0, 1) := by decide +kernel
theorem dJ2_charAt_3b067_6 : decode cJ2_charAt_3b067 6 = .ok (.iload_n 1, 1) := by decide +kernel
theorem dJ2_charAt_3b067_7 : decode cJ2_charAt_3b067 7 = .ok (.invokestatic 71, 3) := by decide +kernel
theorem dJ2_charAt_3b067_10 : decode cJ2_charAt_3b067 10 = .ok (.ireturn, 1) := by decide +kernel
set_option maxRecDepth 20000 in
theorem ggJ2_checkIndex_2214a_J2_length_9d52b : GoodIn wsJ2_checkIndex_2214a wsJ2_length_9d52b := goodIn_r _ [4] (by decide +kernel) (by decide +kernel)
set_option maxRecDepth 20000 in
theorem gJ2_checkIndex_2214a_J2_length_9d52b : GoodIn wsJ2_checkIndex_2214a (va_wsS RJ2 48 yJ2_length_9d52b wsJ2_length_9d52b) := goodIn_app (goodIn_of _ (by decide +kernel)) ggJ2_checkIndex_2214a_J2_length_9d52b
set_option maxRecDepth 20000 in
theorem ggJ2_checkIndex_2214a_J0_checkIndex_df160 : GoodIn wsJ2_checkIndex_2214a wsJ0_checkIndex_df160 := goodIn_r _ [8, 9, 10, 11, 12, 13] (by decide +kernel) (by decide +kernel)
set_option maxRecDepth 20000 in
theorem gJ2_checkIndex_2214a_J0_checkIndex_df160 : GoodIn wsJ2_checkIndex_2214a (va_wsS RJ2 414 yJ0_checkIndex_df160 wsJ0_checkIndex_df160) := goodIn_app (goodIn_of _ (by decide +kernel)) ggJ2_checkIndex_2214a_J0_checkIndex_df160
theorem dJ2_checkIndex_2214a_0 : decode cJ2_checkIndex_2214a 0 = .ok (.iload_n 0, 1) := by decide +kernel
theorem dJ2_checkIndex_2214a_1 : decode cJ2_checkIndex_2214a 1 = .ok (.aload_n 1, 1) := by decide +kernel
theorem dJ2_checkIndex_2214a_2 : decode cJ2_checkIndex_2214a 2 = .ok (.invokestatic 48, 3) := by decide +kernel
theorem dJ2_checkIndex_2214a_5 : decode cJ2_checkIndex_2214a 5 = .ok (.invokestatic 414, 3) := by decide +kernel
theorem dJ2_checkIndex_2214a_8 : decode cJ2_checkIndex_2214a 8 = .ok (.return_, 1) := by decide +kernel
theorem dJ3_checkIndex_8e157_0 : decode cJ3_checkIndex_8e157 0 = .ok (.iload_n 0, 1) := by decide +kernel
theorem dJ3_checkIndex_8e157_1 : decode cJ3_checkIndex_8e157 1 = .ok (.ifCond .lt 8, 3) := by decide +kernel
theorem dJ3_checkIndex_8e157_4 : decode cJ3_checkIndex_8e157 4 = .ok (.iload_n 0, 1) := by decide +kernel
theorem dJ3_checkIndex_8e157_5 : decode cJ3_checkIndex_8e157 5 = .ok (.iload_n 1, 1) := by decide +kernel
theorem dJ3_checkIndex_8e157_6 : decode cJ3_checkIndex_8e157 6 = .ok (.if_icmp .lt 10, 3) := by decide +kernel
theorem dJ3_checkIndex_8e157_9 : decode cJ3_checkIndex_8e157 9 = .ok (.aload_n 2, 1) := by decide +kernel
theorem dJ3_checkIndex_8e157_10 : decode cJ3_checkIndex_8e157 10 = .ok (.iload_n 0, 1) := by decide +kernel
theorem dJ3_checkIndex_8e157_11 : decode cJ3_checkIndex_8e157 11 = .ok (.iload_n 1, 1) := by decide +kernel
theorem dJ3_checkIndex_8e157_12 : decode cJ3_checkIndex_8e157 12 = .ok (.invokestatic 95, 3) := by decide +kernel
theorem dJ3_checkIndex_8e157_15 : decode cJ3_checkIndex_8e157 15 = .ok (.athrow, 1) := by decide +kernel
theorem dJ3_checkIndex_8e157_16 : decode cJ3_checkIndex_8e157 16 = .ok (.iload_n 0, 1) := by decide +kernel
theorem dJ3_checkIndex_8e157_17 : decode cJ3_checkIndex_8e157 17 = .ok (.ireturn, 1) := by decide +kernel
abbrev vwCl : List vw_C := [(RX0, TX0, 12), (RX1, TX1, 2), (RX2, TX2, 3), (RX3, TX3, 4), (RX4, TX4, 5), (RX5, TX5, 10), (RX6, TX6, 24)]
