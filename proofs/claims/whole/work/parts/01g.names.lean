theorem dX6_init_171 : decode cX6_init 171 = .ok (.bipush 22, 2) := by decide +kernel
theorem dX6_init_173 : decode cX6_init 173 = .ok (.bipush 15, 2) := by decide +kernel
theorem dX6_init_175 : decode cX6_init 175 = .ok (.invokevirtual 53, 3) := by decide +kernel
theorem dX6_init_178 : decode cX6_init 178 = .ok (.aload_n 0, 1) := by decide +kernel
theorem dX6_init_179 : decode cX6_init 179 = .ok (.iconst 0, 1) := by decide +kernel
theorem dX6_init_180 : decode cX6_init 180 = .ok (.iconst 1, 1) := by decide +kernel
theorem dX6_init_181 : decode cX6_init 181 = .ok (.iconst 3, 1) := by decide +kernel
theorem dX6_init_182 : decode cX6_init 182 = .ok (.bipush 8, 2) := by decide +kernel
theorem dX6_init_184 : decode cX6_init 184 = .ok (.invokevirtual 53, 3) := by decide +kernel
theorem dX6_init_187 : decode cX6_init 187 = .ok (.aload_n 0, 1) := by decide +kernel
theorem dX6_init_188 : decode cX6_init 188 = .ok (.iconst 2, 1) := by decide +kernel
theorem dX6_init_189 : decode cX6_init 189 = .ok (.iconst 1, 1) := by decide +kernel
theorem dX6_init_190 : decode cX6_init 190 = .ok (.bipush 14, 2) := by decide +kernel
theorem dX6_init_192 : decode cX6_init 192 = .ok (.bipush 20, 2) := by decide +kernel
theorem dX6_init_194 : decode cX6_init 194 = .ok (.invokevirtual 53, 3) := by decide +kernel
theorem dX6_init_197 : decode cX6_init 197 = .ok (.aload_n 0, 1) := by decide +kernel
theorem dX6_init_198 : decode cX6_init 198 = .ok (.iconst 1, 1) := by decide +kernel
theorem dX6_init_199 : decode cX6_init 199 = .ok (.iconst 0, 1) := by decide +kernel
theorem dX6_init_200 : decode cX6_init 200 = .ok (.bipush 13, 2) := by decide +kernel
theorem dX6_init_202 : decode cX6_init 202 = .ok (.bipush 6, 2) := by decide +kernel
theorem dX6_init_204 : decode cX6_init 204 = .ok (.invokevirtual 53, 3) := by decide +kernel
theorem dX6_init_207 : decode cX6_init 207 = .ok (.aload_n 0, 1) := by decide +kernel
theorem dX6_init_208 : decode cX6_init 208 = .ok (.iconst 3, 1) := by decide +kernel
theorem dX6_init_209 : decode cX6_init 209 = .ok (.iconst 2, 1) := by decide +kernel
theorem dX6_init_210 : decode cX6_init 210 = .ok (.bipush 7, 2) := by decide +kernel
theorem dX6_init_212 : decode cX6_init 212 = .ok (.bipush 11, 2) := by decide +kernel
theorem dX6_init_214 : decode cX6_init 214 = .ok (.invokevirtual 53, 3) := by decide +kernel
theorem dX6_init_217 : decode cX6_init 217 = .ok (.aload_n 0, 1) := by decide +kernel
theorem dX6_init_218 : decode cX6_init 218 = .ok (.bipush 40, 2) := by decide +kernel
theorem dX6_init_220 : decode cX6_init 220 = .ok (.putfield 57, 3) := by decide +kernel
theorem dX6_init_223 : decode cX6_init 223 = .ok (.aload_n 0, 1) := by decide +kernel
theorem dX6_init_224 : decode cX6_init 224 = .ok (.iconst 1, 1) := by decide +kernel
theorem dX6_init_225 : decode cX6_init 225 = .ok (.putfield 61, 3) := by decide +kernel
theorem dX6_init_228 : decode cX6_init 228 = .ok (.aload_n 0, 1) := by decide +kernel
theorem dX6_init_229 : decode cX6_init 229 = .ok (.invokevirtual 64, 3) := by decide +kernel
theorem dX6_init_232 : decode cX6_init 232 = .ok (.return_, 1) := by decide +kernel
theorem dX6_tellsPiece_0 : decode cX6_tellsPiece 0 = .ok (.aload_n 0, 1) := by decide +kernel
theorem dX6_tellsPiece_1 : decode cX6_tellsPiece 1 = .ok (.getfield 34, 3) := by decide +kernel
theorem dX6_tellsPiece_4 : decode cX6_tellsPiece 4 = .ok (.iconst 2, 1) := by decide +kernel
theorem dX6_tellsPiece_5 : decode cX6_tellsPiece 5 = .ok (.aload_n 0, 1) := by decide +kernel
theorem dX6_tellsPiece_6 : decode cX6_tellsPiece 6 = .ok (.getfield 67, 3) := by decide +kernel
theorem dX6_tellsPiece_9 : decode cX6_tellsPiece 9 = .ok (.imul, 1) := by decide +kernel
theorem dX6_tellsPiece_10 : decode cX6_tellsPiece 10 = .ok (.iload_n 1, 1) := by decide +kernel
theorem dX6_tellsPiece_11 : decode cX6_tellsPiece 11 = .ok (.iastore, 1) := by decide +kernel
theorem dX6_tellsPiece_12 : decode cX6_tellsPiece 12 = .ok (.aload_n 0, 1) := by decide +kernel
theorem dX6_tellsPiece_13 : decode cX6_tellsPiece 13 = .ok (.getfield 34, 3) := by decide +kernel
theorem dX6_tellsPiece_16 : decode cX6_tellsPiece 16 = .ok (.iconst 2, 1) := by decide +kernel
theorem dX6_tellsPiece_17 : decode cX6_tellsPiece 17 = .ok (.aload_n 0, 1) := by decide +kernel
theorem dX6_tellsPiece_18 : decode cX6_tellsPiece 18 = .ok (.getfield 67, 3) := by decide +kernel
theorem dX6_tellsPiece_21 : decode cX6_tellsPiece 21 = .ok (.imul, 1) := by decide +kernel
theorem dX6_tellsPiece_22 : decode cX6_tellsPiece 22 = .ok (.iconst 1, 1) := by decide +kernel
theorem dX6_tellsPiece_23 : decode cX6_tellsPiece 23 = .ok (.iadd, 1) := by decide +kernel
theorem dX6_tellsPiece_24 : decode cX6_tellsPiece 24 = .ok (.iload_n 3, 1) := by decide +kernel
theorem dX6_tellsPiece_25 : decode cX6_tellsPiece 25 = .ok (.iastore, 1) := by decide +kernel
theorem dX6_tellsPiece_26 : decode cX6_tellsPiece 26 = .ok (.aload_n 0, 1) := by decide +kernel
theorem dX6_tellsPiece_27 : decode cX6_tellsPiece 27 = .ok (.getfield 37, 3) := by decide +kernel
theorem dX6_tellsPiece_30 : decode cX6_tellsPiece 30 = .ok (.aload_n 0, 1) := by decide +kernel
theorem dX6_tellsPiece_31 : decode cX6_tellsPiece 31 = .ok (.getfield 67, 3) := by decide +kernel
theorem dX6_tellsPiece_34 : decode cX6_tellsPiece 34 = .ok (.iload_n 2, 1) := by decide +kernel
theorem dX6_tellsPiece_35 : decode cX6_tellsPiece 35 = .ok (.iastore, 1) := by decide +kernel
theorem dX6_tellsPiece_36 : decode cX6_tellsPiece 36 = .ok (.aload_n 0, 1) := by decide +kernel
theorem dX6_tellsPiece_37 : decode cX6_tellsPiece 37 = .ok (.dup, 1) := by decide +kernel
theorem dX6_tellsPiece_38 : decode cX6_tellsPiece 38 = .ok (.getfield 67, 3) := by decide +kernel
theorem dX6_tellsPiece_41 : decode cX6_tellsPiece 41 = .ok (.iconst 1, 1) := by decide +kernel
theorem dX6_tellsPiece_42 : decode cX6_tellsPiece 42 = .ok (.iadd, 1) := by decide +kernel
theorem dX6_tellsPiece_43 : decode cX6_tellsPiece 43 = .ok (.putfield 67, 3) := by decide +kernel
theorem dX6_tellsPiece_46 : decode cX6_tellsPiece 46 = .ok (.return_, 1) := by decide +kernel
theorem dX6_tellsDeed_0 : decode cX6_tellsDeed 0 = .ok (.aload_n 0, 1) := by decide +kernel
theorem dX6_tellsDeed_1 : decode cX6_tellsDeed 1 = .ok (.getfield 40, 3) := by decide +kernel
theorem dX6_tellsDeed_4 : decode cX6_tellsDeed 4 = .ok (.iconst 4, 1) := by decide +kernel
theorem dX6_tellsDeed_5 : decode cX6_tellsDeed 5 = .ok (.aload_n 0, 1) := by decide +kernel
theorem dX6_tellsDeed_6 : decode cX6_tellsDeed 6 = .ok (.getfield 70, 3) := by decide +kernel
theorem dX6_tellsDeed_9 : decode cX6_tellsDeed 9 = .ok (.imul, 1) := by decide +kernel
theorem dX6_tellsDeed_10 : decode cX6_tellsDeed 10 = .ok (.iload_n 1, 1) := by decide +kernel
theorem dX6_tellsDeed_11 : decode cX6_tellsDeed 11 = .ok (.iastore, 1) := by decide +kernel
theorem dX6_tellsDeed_12 : decode cX6_tellsDeed 12 = .ok (.aload_n 0, 1) := by decide +kernel
theorem dX6_tellsDeed_13 : decode cX6_tellsDeed 13 = .ok (.getfield 40, 3) := by decide +kernel
theorem dX6_tellsDeed_16 : decode cX6_tellsDeed 16 = .ok (.iconst 4, 1) := by decide +kernel
theorem dX6_tellsDeed_17 : decode cX6_tellsDeed 17 = .ok (.aload_n 0, 1) := by decide +kernel
theorem dX6_tellsDeed_18 : decode cX6_tellsDeed 18 = .ok (.getfield 70, 3) := by decide +kernel
theorem dX6_tellsDeed_21 : decode cX6_tellsDeed 21 = .ok (.imul, 1) := by decide +kernel
theorem dX6_tellsDeed_22 : decode cX6_tellsDeed 22 = .ok (.iconst 1, 1) := by decide +kernel
theorem dX6_tellsDeed_23 : decode cX6_tellsDeed 23 = .ok (.iadd, 1) := by decide +kernel
theorem dX6_tellsDeed_24 : decode cX6_tellsDeed 24 = .ok (.iload_n 2, 1) := by decide +kernel
theorem dX6_tellsDeed_25 : decode cX6_tellsDeed 25 = .ok (.iastore, 1) := by decide +kernel
theorem dX6_tellsDeed_26 : decode cX6_tellsDeed 26 = .ok (.aload_n 0, 1) := by decide +kernel
theorem dX6_tellsDeed_27 : decode cX6_tellsDeed 27 = .ok (.getfield 40, 3) := by decide +kernel
theorem dX6_tellsDeed_30 : decode cX6_tellsDeed 30 = .ok (.iconst 4, 1) := by decide +kernel
theorem dX6_tellsDeed_31 : decode cX6_tellsDeed 31 = .ok (.aload_n 0, 1) := by decide +kernel
theorem dX6_tellsDeed_32 : decode cX6_tellsDeed 32 = .ok (.getfield 70, 3) := by decide +kernel
theorem dX6_tellsDeed_35 : decode cX6_tellsDeed 35 = .ok (.imul, 1) := by decide +kernel
theorem dX6_tellsDeed_36 : decode cX6_tellsDeed 36 = .ok (.iconst 2, 1) := by decide +kernel
theorem dX6_tellsDeed_37 : decode cX6_tellsDeed 37 = .ok (.iadd, 1) := by decide +kernel
theorem dX6_tellsDeed_38 : decode cX6_tellsDeed 38 = .ok (.iload_n 3, 1) := by decide +kernel
theorem dX6_tellsDeed_39 : decode cX6_tellsDeed 39 = .ok (.iastore, 1) := by decide +kernel
theorem dX6_tellsDeed_40 : decode cX6_tellsDeed 40 = .ok (.aload_n 0, 1) := by decide +kernel
theorem dX6_tellsDeed_41 : decode cX6_tellsDeed 41 = .ok (.getfield 40, 3) := by decide +kernel
theorem dX6_tellsDeed_44 : decode cX6_tellsDeed 44 = .ok (.iconst 4, 1) := by decide +kernel
theorem dX6_tellsDeed_45 : decode cX6_tellsDeed 45 = .ok (.aload_n 0, 1) := by decide +kernel
theorem dX6_tellsDeed_46 : decode cX6_tellsDeed 46 = .ok (.getfield 70, 3) := by decide +kernel
theorem dX6_tellsDeed_49 : decode cX6_tellsDeed 49 = .ok (.imul, 1) := by decide +kernel
theorem dX6_tellsDeed_50 : decode cX6_tellsDeed 50 = .ok (.iconst 3, 1) := by decide +kernel
theorem dX6_tellsDeed_51 : decode cX6_tellsDeed 51 = .ok (.iadd, 1) := by decide +kernel
theorem dX6_tellsDeed_52 : decode cX6_tellsDeed 52 = .ok (.iload 4, 2) := by decide +kernel
theorem dX6_tellsDeed_54 : decode cX6_tellsDeed 54 = .ok (.iastore, 1) := by decide +kernel
theorem dX6_tellsDeed_55 : decode cX6_tellsDeed 55 = .ok (.aload_n 0, 1) := by decide +kernel
theorem dX6_tellsDeed_56 : decode cX6_tellsDeed 56 = .ok (.dup, 1) := by decide +kernel
theorem dX6_tellsDeed_57 : decode cX6_tellsDeed 57 = .ok (.getfield 70, 3) := by decide +kernel
theorem dX6_tellsDeed_60 : decode cX6_tellsDeed 60 = .ok (.iconst 1, 1) := by decide +kernel
theorem dX6_tellsDeed_61 : decode cX6_tellsDeed 61 = .ok (.iadd, 1) := by decide +kernel
theorem dX6_tellsDeed_62 : decode cX6_tellsDeed 62 = .ok (.putfield 70, 3) := by decide +kernel
theorem dX6_tellsDeed_65 : decode cX6_tellsDeed 65 = .ok (.return_, 1) := by decide +kernel
theorem dX6_in_0 : decode cX6_in 0 = .ok (.iload_n 0, 1) := by decide +kernel
theorem dX6_in_1 : decode cX6_in 1 = .ok (.iload_n 1, 1) := by decide +kernel
theorem dX6_in_2 : decode cX6_in 2 = .ok (.if_icmp .lt 12, 3) := by decide +kernel
theorem dX6_in_5 : decode cX6_in 5 = .ok (.iload_n 0, 1) := by decide +kernel
theorem dX6_in_6 : decode cX6_in 6 = .ok (.iload_n 2, 1) := by decide +kernel
theorem dX6_in_7 : decode cX6_in 7 = .ok (.if_icmp .gt 7, 3) := by decide +kernel
theorem dX6_in_10 : decode cX6_in 10 = .ok (.iconst 1, 1) := by decide +kernel
theorem dX6_in_11 : decode cX6_in 11 = .ok (.goto 4, 3) := by decide +kernel
theorem dX6_in_14 : decode cX6_in 14 = .ok (.iconst 0, 1) := by decide +kernel
theorem dX6_in_15 : decode cX6_in 15 = .ok (.ireturn, 1) := by decide +kernel
theorem dX6_has_0 : decode cX6_has 0 = .ok (.iload_n 0, 1) := by decide +kernel
theorem dX6_has_1 : decode cX6_has 1 = .ok (.iload_n 1, 1) := by decide +kernel
theorem dX6_has_2 : decode cX6_has 2 = .ok (.ishr, 1) := by decide +kernel
theorem dX6_has_3 : decode cX6_has 3 = .ok (.iconst 1, 1) := by decide +kernel
theorem dX6_has_4 : decode cX6_has 4 = .ok (.iand, 1) := by decide +kernel
theorem dX6_has_5 : decode cX6_has 5 = .ok (.iconst 1, 1) := by decide +kernel
theorem dX6_has_6 : decode cX6_has 6 = .ok (.if_icmp .ne 7, 3) := by decide +kernel
theorem dX6_has_9 : decode cX6_has 9 = .ok (.iconst 1, 1) := by decide +kernel
theorem dX6_has_10 : decode cX6_has 10 = .ok (.goto 4, 3) := by decide +kernel
theorem dX6_has_13 : decode cX6_has 13 = .ok (.iconst 0, 1) := by decide +kernel
theorem dX6_has_14 : decode cX6_has 14 = .ok (.ireturn, 1) := by decide +kernel
theorem dX6_bits_0 : decode cX6_bits 0 = .ok (.iconst 0, 1) := by decide +kernel
theorem dX6_bits_1 : decode cX6_bits 1 = .ok (.istore_n 1, 1) := by decide +kernel
theorem dX6_bits_2 : decode cX6_bits 2 = .ok (.iconst 0, 1) := by decide +kernel
theorem dX6_bits_3 : decode cX6_bits 3 = .ok (.istore_n 2, 1) := by decide +kernel
theorem dX6_bits_4 : decode cX6_bits 4 = .ok (.iload_n 2, 1) := by decide +kernel
theorem dX6_bits_5 : decode cX6_bits 5 = .ok (.bipush 10, 2) := by decide +kernel
theorem dX6_bits_7 : decode cX6_bits 7 = .ok (.if_icmp .ge 17, 3) := by decide +kernel
theorem dX6_bits_10 : decode cX6_bits 10 = .ok (.iload_n 1, 1) := by decide +kernel
theorem dX6_bits_11 : decode cX6_bits 11 = .ok (.iload_n 0, 1) := by decide +kernel
theorem dX6_bits_12 : decode cX6_bits 12 = .ok (.iload_n 2, 1) := by decide +kernel
theorem dX6_bits_13 : decode cX6_bits 13 = .ok (.ishr, 1) := by decide +kernel
theorem dX6_bits_14 : decode cX6_bits 14 = .ok (.iconst 1, 1) := by decide +kernel
theorem dX6_bits_15 : decode cX6_bits 15 = .ok (.iand, 1) := by decide +kernel
theorem dX6_bits_16 : decode cX6_bits 16 = .ok (.iadd, 1) := by decide +kernel
theorem dX6_bits_17 : decode cX6_bits 17 = .ok (.istore_n 1, 1) := by decide +kernel
theorem dX6_bits_18 : decode cX6_bits 18 = .ok (.iinc 2 1, 3) := by decide +kernel
theorem dX6_bits_21 : decode cX6_bits 21 = .ok (.goto (-17), 3) := by decide +kernel
theorem dX6_bits_24 : decode cX6_bits 24 = .ok (.iload_n 1, 1) := by decide +kernel
theorem dX6_bits_25 : decode cX6_bits 25 = .ok (.ireturn, 1) := by decide +kernel
set_option maxRecDepth 20000 in
theorem ggX6_isPiece_X6_in : GoodIn wsX6_isPiece wsX6_in := goodIn_r _ [5] (by decide +kernel) (by decide +kernel)
set_option maxRecDepth 20000 in
theorem gX6_isPiece_X6_in : GoodIn wsX6_isPiece (va_wsS RX6 76 yX6_in wsX6_in) := goodIn_app (goodIn_of _ (by decide +kernel)) ggX6_isPiece_X6_in
theorem dX6_isPiece_0 : decode cX6_isPiece 0 = .ok (.iload_n 1, 1) := by decide +kernel
theorem dX6_isPiece_1 : decode cX6_isPiece 1 = .ok (.iconst 0, 1) := by decide +kernel
theorem dX6_isPiece_2 : decode cX6_isPiece 2 = .ok (.aload_n 0, 1) := by decide +kernel
theorem dX6_isPiece_3 : decode cX6_isPiece 3 = .ok (.getfield 73, 3) := by decide +kernel
theorem dX6_isPiece_6 : decode cX6_isPiece 6 = .ok (.iconst 1, 1) := by decide +kernel
theorem dX6_isPiece_7 : decode cX6_isPiece 7 = .ok (.isub, 1) := by decide +kernel
theorem dX6_isPiece_8 : decode cX6_isPiece 8 = .ok (.invokestatic 76, 3) := by decide +kernel
theorem dX6_isPiece_11 : decode cX6_isPiece 11 = .ok (.ireturn, 1) := by decide +kernel
set_option maxRecDepth 20000 in
theorem ggX6_isDeed_X6_in : GoodIn wsX6_isDeed wsX6_in := goodIn_r _ [5] (by decide +kernel) (by decide +kernel)
set_option maxRecDepth 20000 in
theorem gX6_isDeed_X6_in : GoodIn wsX6_isDeed (va_wsS RX6 76 yX6_in wsX6_in) := goodIn_app (goodIn_of _ (by decide +kernel)) ggX6_isDeed_X6_in
theorem dX6_isDeed_0 : decode cX6_isDeed 0 = .ok (.iload_n 1, 1) := by decide +kernel
theorem dX6_isDeed_1 : decode cX6_isDeed 1 = .ok (.iconst 0, 1) := by decide +kernel
theorem dX6_isDeed_2 : decode cX6_isDeed 2 = .ok (.aload_n 0, 1) := by decide +kernel
theorem dX6_isDeed_3 : decode cX6_isDeed 3 = .ok (.getfield 80, 3) := by decide +kernel
theorem dX6_isDeed_6 : decode cX6_isDeed 6 = .ok (.iconst 1, 1) := by decide +kernel
theorem dX6_isDeed_7 : decode cX6_isDeed 7 = .ok (.isub, 1) := by decide +kernel
theorem dX6_isDeed_8 : decode cX6_isDeed 8 = .ok (.invokestatic 76, 3) := by decide +kernel
theorem dX6_isDeed_11 : decode cX6_isDeed 11 = .ok (.ireturn, 1) := by decide +kernel
set_option maxRecDepth 20000 in
theorem ggX6_write_X6_in : GoodIn wsX6_write wsX6_in := goodIn_r _ [6] (by decide +kernel) (by decide +kernel)
set_option maxRecDepth 20000 in
theorem gX6_write_X6_in : GoodIn wsX6_write (va_wsS RX6 76 yX6_in wsX6_in) := goodIn_app (goodIn_of _ (by decide +kernel)) ggX6_write_X6_in
theorem dX6_write_0 : decode cX6_write 0 = .ok (.iload_n 1, 1) := by decide +kernel
theorem dX6_write_1 : decode cX6_write 1 = .ok (.bipush 32, 2) := by decide +kernel
theorem dX6_write_3 : decode cX6_write 3 = .ok (.bipush 126, 2) := by decide +kernel
theorem dX6_write_5 : decode cX6_write 5 = .ok (.invokestatic 76, 3) := by decide +kernel
theorem dX6_write_8 : decode cX6_write 8 = .ok (.ifCond .ne 5, 3) := by decide +kernel
theorem dX6_write_11 : decode cX6_write 11 = .ok (.iconst (-1), 1) := by decide +kernel
theorem dX6_write_12 : decode cX6_write 12 = .ok (.ireturn, 1) := by decide +kernel
theorem dX6_write_13 : decode cX6_write 13 = .ok (.aload_n 0, 1) := by decide +kernel
theorem dX6_write_14 : decode cX6_write 14 = .ok (.getfield 83, 3) := by decide +kernel
theorem dX6_write_17 : decode cX6_write 17 = .ok (.sipush 200, 3) := by decide +kernel
theorem dX6_write_20 : decode cX6_write 20 = .ok (.if_icmp .ne 6, 3) := by decide +kernel
theorem dX6_write_23 : decode cX6_write 23 = .ok (.bipush (-3), 2) := by decide +kernel
theorem dX6_write_25 : decode cX6_write 25 = .ok (.ireturn, 1) := by decide +kernel
theorem dX6_write_26 : decode cX6_write 26 = .ok (.aload_n 0, 1) := by decide +kernel
theorem dX6_write_27 : decode cX6_write 27 = .ok (.getfield 28, 3) := by decide +kernel
theorem dX6_write_30 : decode cX6_write 30 = .ok (.aload_n 0, 1) := by decide +kernel
theorem dX6_write_31 : decode cX6_write 31 = .ok (.getfield 83, 3) := by decide +kernel
theorem dX6_write_34 : decode cX6_write 34 = .ok (.iload_n 1, 1) := by decide +kernel
theorem dX6_write_35 : decode cX6_write 35 = .ok (.iastore, 1) := by decide +kernel
theorem dX6_write_36 : decode cX6_write 36 = .ok (.aload_n 0, 1) := by decide +kernel
theorem dX6_write_37 : decode cX6_write 37 = .ok (.dup, 1) := by decide +kernel
theorem dX6_write_38 : decode cX6_write 38 = .ok (.getfield 83, 3) := by decide +kernel
theorem dX6_write_41 : decode cX6_write 41 = .ok (.iconst 1, 1) := by decide +kernel
theorem dX6_write_42 : decode cX6_write 42 = .ok (.iadd, 1) := by decide +kernel
theorem dX6_write_43 : decode cX6_write 43 = .ok (.putfield 83, 3) := by decide +kernel
theorem dX6_write_46 : decode cX6_write 46 = .ok (.aload_n 0, 1) := by decide +kernel
theorem dX6_write_47 : decode cX6_write 47 = .ok (.getfield 83, 3) := by decide +kernel
theorem dX6_write_50 : decode cX6_write 50 = .ok (.ireturn, 1) := by decide +kernel
theorem dX6_wipe_0 : decode cX6_wipe 0 = .ok (.aload_n 0, 1) := by decide +kernel
theorem dX6_wipe_1 : decode cX6_wipe 1 = .ok (.getfield 83, 3) := by decide +kernel
theorem dX6_wipe_4 : decode cX6_wipe 4 = .ok (.istore_n 1, 1) := by decide +kernel
theorem dX6_wipe_5 : decode cX6_wipe 5 = .ok (.aload_n 0, 1) := by decide +kernel
theorem dX6_wipe_6 : decode cX6_wipe 6 = .ok (.iconst 0, 1) := by decide +kernel
theorem dX6_wipe_7 : decode cX6_wipe 7 = .ok (.putfield 83, 3) := by decide +kernel
theorem dX6_wipe_10 : decode cX6_wipe 10 = .ok (.iload_n 1, 1) := by decide +kernel
theorem dX6_wipe_11 : decode cX6_wipe 11 = .ok (.ireturn, 1) := by decide +kernel
theorem dX6_letterAt_0 : decode cX6_letterAt 0 = .ok (.iload_n 1, 1) := by decide +kernel
theorem dX6_letterAt_1 : decode cX6_letterAt 1 = .ok (.aload_n 0, 1) := by decide +kernel
theorem dX6_letterAt_2 : decode cX6_letterAt 2 = .ok (.getfield 83, 3) := by decide +kernel
theorem dX6_letterAt_5 : decode cX6_letterAt 5 = .ok (.if_icmp .ge 12, 3) := by decide +kernel
theorem dX6_letterAt_8 : decode cX6_letterAt 8 = .ok (.aload_n 0, 1) := by decide +kernel
theorem dX6_letterAt_9 : decode cX6_letterAt 9 = .ok (.getfield 28, 3) := by decide +kernel
theorem dX6_letterAt_12 : decode cX6_letterAt 12 = .ok (.iload_n 1, 1) := by decide +kernel
theorem dX6_letterAt_13 : decode cX6_letterAt 13 = .ok (.iaload, 1) := by decide +kernel
theorem dX6_letterAt_14 : decode cX6_letterAt 14 = .ok (.goto 4, 3) := by decide +kernel
theorem dX6_letterAt_17 : decode cX6_letterAt 17 = .ok (.iconst (-1), 1) := by decide +kernel
theorem dX6_letterAt_18 : decode cX6_letterAt 18 = .ok (.ireturn, 1) := by decide +kernel
set_option maxRecDepth 20000 in
theorem ggX6_isFigure_X6_in : GoodIn wsX6_isFigure wsX6_in := goodIn_r _ [4] (by decide +kernel) (by decide +kernel)
set_option maxRecDepth 20000 in
theorem gX6_isFigure_X6_in : GoodIn wsX6_isFigure (va_wsS RX6 76 yX6_in wsX6_in) := goodIn_app (goodIn_of _ (by decide +kernel)) ggX6_isFigure_X6_in
theorem dX6_isFigure_0 : decode cX6_isFigure 0 = .ok (.iload_n 0, 1) := by decide +kernel
theorem dX6_isFigure_1 : decode cX6_isFigure 1 = .ok (.bipush 48, 2) := by decide +kernel
theorem dX6_isFigure_3 : decode cX6_isFigure 3 = .ok (.bipush 57, 2) := by decide +kernel
theorem dX6_isFigure_5 : decode cX6_isFigure 5 = .ok (.invokestatic 76, 3) := by decide +kernel
theorem dX6_isFigure_8 : decode cX6_isFigure 8 = .ok (.ireturn, 1) := by decide +kernel
set_option maxRecDepth 20000 in
theorem ggX6_readNumbers_X6_letterAt : GoodIn wsX6_readNumbers wsX6_letterAt := goodIn_r _ [7, 8, 9, 16, 17, 18, 19, 20, 21, 22, 23, 24, 25, 26, 27, 28, 29, 30, 31, 32, 33, 34, 35, 36, 37, 38, 39] (by decide +kernel) (by decide +kernel)
set_option maxRecDepth 20000 in
theorem gX6_readNumbers_X6_letterAt : GoodIn wsX6_readNumbers (wsV RX6 89 RX6 yX6_letterAt wsX6_letterAt) := goodIn_app (goodIn_of _ (by decide +kernel)) ggX6_readNumbers_X6_letterAt
set_option maxRecDepth 20000 in
theorem ggX6_readNumbers_X6_isFigure : GoodIn wsX6_readNumbers wsX6_isFigure := goodIn_r _ [12, 13, 14, 6, 15] (by decide +kernel) (by decide +kernel)
set_option maxRecDepth 20000 in
theorem gX6_readNumbers_X6_isFigure : GoodIn wsX6_readNumbers (va_wsS RX6 93 yX6_isFigure wsX6_isFigure) := goodIn_app (goodIn_of _ (by decide +kernel)) ggX6_readNumbers_X6_isFigure
theorem dX6_readNumbers_0 : decode cX6_readNumbers 0 = .ok (.iconst 0, 1) := by decide +kernel
theorem dX6_readNumbers_1 : decode cX6_readNumbers 1 = .ok (.istore_n 2, 1) := by decide +kernel
theorem dX6_readNumbers_2 : decode cX6_readNumbers 2 = .ok (.iload_n 2, 1) := by decide +kernel
theorem dX6_readNumbers_3 : decode cX6_readNumbers 3 = .ok (.iload_n 1, 1) := by decide +kernel
theorem dX6_readNumbers_4 : decode cX6_readNumbers 4 = .ok (.if_icmp .ge 140, 3) := by decide +kernel
theorem dX6_readNumbers_7 : decode cX6_readNumbers 7 = .ok (.aload_n 0, 1) := by decide +kernel
theorem dX6_readNumbers_8 : decode cX6_readNumbers 8 = .ok (.aload_n 0, 1) := by decide +kernel
theorem dX6_readNumbers_9 : decode cX6_readNumbers 9 = .ok (.getfield 86, 3) := by decide +kernel
theorem dX6_readNumbers_12 : decode cX6_readNumbers 12 = .ok (.invokevirtual 89, 3) := by decide +kernel
theorem dX6_readNumbers_15 : decode cX6_readNumbers 15 = .ok (.invokestatic 93, 3) := by decide +kernel
theorem dX6_readNumbers_18 : decode cX6_readNumbers 18 = .ok (.ifCond .ne 5, 3) := by decide +kernel
theorem dX6_readNumbers_21 : decode cX6_readNumbers 21 = .ok (.iconst 0, 1) := by decide +kernel
theorem dX6_readNumbers_22 : decode cX6_readNumbers 22 = .ok (.ireturn, 1) := by decide +kernel
theorem dX6_readNumbers_23 : decode cX6_readNumbers 23 = .ok (.aload_n 0, 1) := by decide +kernel
theorem dX6_readNumbers_24 : decode cX6_readNumbers 24 = .ok (.getfield 31, 3) := by decide +kernel
theorem dX6_readNumbers_27 : decode cX6_readNumbers 27 = .ok (.iload_n 2, 1) := by decide +kernel
theorem dX6_readNumbers_28 : decode cX6_readNumbers 28 = .ok (.aload_n 0, 1) := by decide +kernel
theorem dX6_readNumbers_29 : decode cX6_readNumbers 29 = .ok (.aload_n 0, 1) := by decide +kernel
theorem dX6_readNumbers_30 : decode cX6_readNumbers 30 = .ok (.getfield 86, 3) := by decide +kernel
theorem dX6_readNumbers_33 : decode cX6_readNumbers 33 = .ok (.invokevirtual 89, 3) := by decide +kernel
theorem dX6_readNumbers_36 : decode cX6_readNumbers 36 = .ok (.bipush 48, 2) := by decide +kernel
theorem dX6_readNumbers_38 : decode cX6_readNumbers 38 = .ok (.isub, 1) := by decide +kernel
theorem dX6_readNumbers_39 : decode cX6_readNumbers 39 = .ok (.iastore, 1) := by decide +kernel
theorem dX6_readNumbers_40 : decode cX6_readNumbers 40 = .ok (.aload_n 0, 1) := by decide +kernel
theorem dX6_readNumbers_41 : decode cX6_readNumbers 41 = .ok (.dup, 1) := by decide +kernel
theorem dX6_readNumbers_42 : decode cX6_readNumbers 42 = .ok (.getfield 86, 3) := by decide +kernel
theorem dX6_readNumbers_45 : decode cX6_readNumbers 45 = .ok (.iconst 1, 1) := by decide +kernel
theorem dX6_readNumbers_46 : decode cX6_readNumbers 46 = .ok (.iadd, 1) := by decide +kernel
theorem dX6_readNumbers_47 : decode cX6_readNumbers 47 = .ok (.putfield 86, 3) := by decide +kernel
theorem dX6_readNumbers_50 : decode cX6_readNumbers 50 = .ok (.aload_n 0, 1) := by decide +kernel
theorem dX6_readNumbers_51 : decode cX6_readNumbers 51 = .ok (.aload_n 0, 1) := by decide +kernel
theorem dX6_readNumbers_52 : decode cX6_readNumbers 52 = .ok (.getfield 86, 3) := by decide +kernel
theorem dX6_readNumbers_55 : decode cX6_readNumbers 55 = .ok (.invokevirtual 89, 3) := by decide +kernel
theorem dX6_readNumbers_58 : decode cX6_readNumbers 58 = .ok (.invokestatic 93, 3) := by decide +kernel
theorem dX6_readNumbers_61 : decode cX6_readNumbers 61 = .ok (.ifCond .eq 40, 3) := by decide +kernel
theorem dX6_readNumbers_64 : decode cX6_readNumbers 64 = .ok (.aload_n 0, 1) := by decide +kernel
theorem dX6_readNumbers_65 : decode cX6_readNumbers 65 = .ok (.getfield 31, 3) := by decide +kernel
theorem dX6_readNumbers_68 : decode cX6_readNumbers 68 = .ok (.iload_n 2, 1) := by decide +kernel
theorem dX6_readNumbers_69 : decode cX6_readNumbers 69 = .ok (.bipush 10, 2) := by decide +kernel
theorem dX6_readNumbers_71 : decode cX6_readNumbers 71 = .ok (.aload_n 0, 1) := by decide +kernel
theorem dX6_readNumbers_72 : decode cX6_readNumbers 72 = .ok (.getfield 31, 3) := by decide +kernel
theorem dX6_readNumbers_75 : decode cX6_readNumbers 75 = .ok (.iload_n 2, 1) := by decide +kernel
theorem dX6_readNumbers_76 : decode cX6_readNumbers 76 = .ok (.iaload, 1) := by decide +kernel
theorem dX6_readNumbers_77 : decode cX6_readNumbers 77 = .ok (.imul, 1) := by decide +kernel
theorem dX6_readNumbers_78 : decode cX6_readNumbers 78 = .ok (.aload_n 0, 1) := by decide +kernel
theorem dX6_readNumbers_79 : decode cX6_readNumbers 79 = .ok (.aload_n 0, 1) := by decide +kernel
theorem dX6_readNumbers_80 : decode cX6_readNumbers 80 = .ok (.getfield 86, 3) := by decide +kernel
theorem dX6_readNumbers_83 : decode cX6_readNumbers 83 = .ok (.invokevirtual 89, 3) := by decide +kernel
theorem dX6_readNumbers_86 : decode cX6_readNumbers 86 = .ok (.iadd, 1) := by decide +kernel
theorem dX6_readNumbers_87 : decode cX6_readNumbers 87 = .ok (.bipush 48, 2) := by decide +kernel
theorem dX6_readNumbers_89 : decode cX6_readNumbers 89 = .ok (.isub, 1) := by decide +kernel
theorem dX6_readNumbers_90 : decode cX6_readNumbers 90 = .ok (.iastore, 1) := by decide +kernel
theorem dX6_readNumbers_91 : decode cX6_readNumbers 91 = .ok (.aload_n 0, 1) := by decide +kernel
theorem dX6_readNumbers_92 : decode cX6_readNumbers 92 = .ok (.dup, 1) := by decide +kernel
theorem dX6_readNumbers_93 : decode cX6_readNumbers 93 = .ok (.getfield 86, 3) := by decide +kernel
theorem dX6_readNumbers_96 : decode cX6_readNumbers 96 = .ok (.iconst 1, 1) := by decide +kernel
theorem dX6_readNumbers_97 : decode cX6_readNumbers 97 = .ok (.iadd, 1) := by decide +kernel
theorem dX6_readNumbers_98 : decode cX6_readNumbers 98 = .ok (.putfield 86, 3) := by decide +kernel
theorem dX6_readNumbers_101 : decode cX6_readNumbers 101 = .ok (.aload_n 0, 1) := by decide +kernel
theorem dX6_readNumbers_102 : decode cX6_readNumbers 102 = .ok (.aload_n 0, 1) := by decide +kernel
theorem dX6_readNumbers_103 : decode cX6_readNumbers 103 = .ok (.getfield 86, 3) := by decide +kernel
theorem dX6_readNumbers_106 : decode cX6_readNumbers 106 = .ok (.invokevirtual 89, 3) := by decide +kernel
theorem dX6_readNumbers_109 : decode cX6_readNumbers 109 = .ok (.iload_n 2, 1) := by decide +kernel
theorem dX6_readNumbers_110 : decode cX6_readNumbers 110 = .ok (.iload_n 1, 1) := by decide +kernel
theorem dX6_readNumbers_111 : decode cX6_readNumbers 111 = .ok (.iconst 1, 1) := by decide +kernel
theorem dX6_readNumbers_112 : decode cX6_readNumbers 112 = .ok (.isub, 1) := by decide +kernel
theorem dX6_readNumbers_113 : decode cX6_readNumbers 113 = .ok (.if_icmp .ge 8, 3) := by decide +kernel
theorem dX6_readNumbers_116 : decode cX6_readNumbers 116 = .ok (.bipush 44, 2) := by decide +kernel
theorem dX6_readNumbers_118 : decode cX6_readNumbers 118 = .ok (.goto 5, 3) := by decide +kernel
theorem dX6_readNumbers_121 : decode cX6_readNumbers 121 = .ok (.bipush 59, 2) := by decide +kernel
theorem dX6_readNumbers_123 : decode cX6_readNumbers 123 = .ok (.if_icmp .eq 5, 3) := by decide +kernel
theorem dX6_readNumbers_126 : decode cX6_readNumbers 126 = .ok (.iconst 0, 1) := by decide +kernel
theorem dX6_readNumbers_127 : decode cX6_readNumbers 127 = .ok (.ireturn, 1) := by decide +kernel
theorem dX6_readNumbers_128 : decode cX6_readNumbers 128 = .ok (.aload_n 0, 1) := by decide +kernel
theorem dX6_readNumbers_129 : decode cX6_readNumbers 129 = .ok (.dup, 1) := by decide +kernel
theorem dX6_readNumbers_130 : decode cX6_readNumbers 130 = .ok (.getfield 86, 3) := by decide +kernel
theorem dX6_readNumbers_133 : decode cX6_readNumbers 133 = .ok (.iconst 1, 1) := by decide +kernel
theorem dX6_readNumbers_134 : decode cX6_readNumbers 134 = .ok (.iadd, 1) := by decide +kernel
theorem dX6_readNumbers_135 : decode cX6_readNumbers 135 = .ok (.putfield 86, 3) := by decide +kernel
theorem dX6_readNumbers_138 : decode cX6_readNumbers 138 = .ok (.iinc 2 1, 3) := by decide +kernel
theorem dX6_readNumbers_141 : decode cX6_readNumbers 141 = .ok (.goto (-139), 3) := by decide +kernel
theorem dX6_readNumbers_144 : decode cX6_readNumbers 144 = .ok (.iconst 1, 1) := by decide +kernel
theorem dX6_readNumbers_145 : decode cX6_readNumbers 145 = .ok (.ireturn, 1) := by decide +kernel
set_option maxRecDepth 20000 in
theorem ggX6_isTold_X6_in : GoodIn wsX6_isTold wsX6_in := goodIn_r _ [5] (by decide +kernel) (by decide +kernel)
set_option maxRecDepth 20000 in
theorem gX6_isTold_X6_in : GoodIn wsX6_isTold (va_wsS RX6 76 yX6_in wsX6_in) := goodIn_app (goodIn_of _ (by decide +kernel)) ggX6_isTold_X6_in
theorem dX6_isTold_0 : decode cX6_isTold 0 = .ok (.aload_n 0, 1) := by decide +kernel
theorem dX6_isTold_1 : decode cX6_isTold 1 = .ok (.getfield 31, 3) := by decide +kernel
theorem dX6_isTold_4 : decode cX6_isTold 4 = .ok (.iload_n 1, 1) := by decide +kernel
theorem dX6_isTold_5 : decode cX6_isTold 5 = .ok (.iaload, 1) := by decide +kernel
theorem dX6_isTold_6 : decode cX6_isTold 6 = .ok (.iload_n 2, 1) := by decide +kernel
theorem dX6_isTold_7 : decode cX6_isTold 7 = .ok (.iload_n 3, 1) := by decide +kernel
theorem dX6_isTold_8 : decode cX6_isTold 8 = .ok (.invokestatic 76, 3) := by decide +kernel
theorem dX6_isTold_11 : decode cX6_isTold 11 = .ok (.ireturn, 1) := by decide +kernel
theorem dX6_clearTold_0 : decode cX6_clearTold 0 = .ok (.aload_n 0, 1) := by decide +kernel
theorem dX6_clearTold_1 : decode cX6_clearTold 1 = .ok (.iconst 0, 1) := by decide +kernel
theorem dX6_clearTold_2 : decode cX6_clearTold 2 = .ok (.putfield 67, 3) := by decide +kernel
theorem dX6_clearTold_5 : decode cX6_clearTold 5 = .ok (.aload_n 0, 1) := by decide +kernel
theorem dX6_clearTold_6 : decode cX6_clearTold 6 = .ok (.iconst 0, 1) := by decide +kernel
theorem dX6_clearTold_7 : decode cX6_clearTold 7 = .ok (.putfield 70, 3) := by decide +kernel
theorem dX6_clearTold_10 : decode cX6_clearTold 10 = .ok (.aload_n 0, 1) := by decide +kernel
theorem dX6_clearTold_11 : decode cX6_clearTold 11 = .ok (.bipush 50, 2) := by decide +kernel
theorem dX6_clearTold_13 : decode cX6_clearTold 13 = .ok (.putfield 57, 3) := by decide +kernel
theorem dX6_clearTold_16 : decode cX6_clearTold 16 = .ok (.aload_n 0, 1) := by decide +kernel
theorem dX6_clearTold_17 : decode cX6_clearTold 17 = .ok (.iconst 0, 1) := by decide +kernel
theorem dX6_clearTold_18 : decode cX6_clearTold 18 = .ok (.putfield 61, 3) := by decide +kernel
theorem dX6_clearTold_21 : decode cX6_clearTold 21 = .ok (.return_, 1) := by decide +kernel
set_option maxRecDepth 20000 in
theorem ggX6_readPieceOf_X6_readNumbers : GoodIn wsX6_readPieceOf wsX6_readNumbers := goodIn_r _ [7, 8, 2, 9, 10, 11, 6, 12, 13, 14, 15, 16, 17, 18, 19, 20, 31, 32, 33, 34, 35, 36, 37, 38, 39, 40, 41, 42, 43, 44, 45, 46, 47, 48, 49, 50, 51, 52, 53, 54] (by decide +kernel) (by decide +kernel)
set_option maxRecDepth 20000 in
theorem gX6_readPieceOf_X6_readNumbers : GoodIn wsX6_readPieceOf (wsV RX6 97 RX6 yX6_readNumbers wsX6_readNumbers) := goodIn_app (goodIn_of _ (by decide +kernel)) ggX6_readPieceOf_X6_readNumbers
set_option maxRecDepth 20000 in
theorem ggX6_readPieceOf_X6_isTold : GoodIn wsX6_readPieceOf wsX6_isTold := goodIn_r _ [24, 2, 18, 19, 6, 20, 31, 32, 33, 34, 35, 36, 37, 38, 39, 40, 41, 42, 43, 44, 45, 46, 47, 48, 49, 50, 51, 52, 53, 54] (by decide +kernel) (by decide +kernel)
set_option maxRecDepth 20000 in
theorem gX6_readPieceOf_X6_isTold : GoodIn wsX6_readPieceOf (wsV RX6 100 RX6 yX6_isTold wsX6_isTold) := goodIn_app (goodIn_of _ (by decide +kernel)) ggX6_readPieceOf_X6_isTold
set_option maxRecDepth 20000 in
theorem ggX6_readPieceOf_X6_tellsPiece : GoodIn wsX6_readPieceOf wsX6_tellsPiece := goodIn_r _ [28, 29, 1, 30, 31, 32, 33, 34, 35, 36, 37, 38, 39, 40, 41, 42, 43, 44, 45, 46, 47, 48, 49, 50, 51, 52, 53, 54] (by decide +kernel) (by decide +kernel)
set_option maxRecDepth 20000 in
theorem gX6_readPieceOf_X6_tellsPiece : GoodIn wsX6_readPieceOf (wsV RX6 49 RX6 yX6_tellsPiece wsX6_tellsPiece) := goodIn_app (goodIn_of _ (by decide +kernel)) ggX6_readPieceOf_X6_tellsPiece
theorem dX6_readPieceOf_0 : decode cX6_readPieceOf 0 = .ok (.aload_n 0, 1) := by decide +kernel
theorem dX6_readPieceOf_1 : decode cX6_readPieceOf 1 = .ok (.getfield 67, 3) := by decide +kernel
theorem dX6_readPieceOf_4 : decode cX6_readPieceOf 4 = .ok (.bipush 8, 2) := by decide +kernel
theorem dX6_readPieceOf_6 : decode cX6_readPieceOf 6 = .ok (.if_icmp .eq 42, 3) := by decide +kernel
theorem dX6_readPieceOf_9 : decode cX6_readPieceOf 9 = .ok (.aload_n 0, 1) := by decide +kernel
theorem dX6_readPieceOf_10 : decode cX6_readPieceOf 10 = .ok (.iconst 3, 1) := by decide +kernel
theorem dX6_readPieceOf_11 : decode cX6_readPieceOf 11 = .ok (.invokevirtual 97, 3) := by decide +kernel
theorem dX6_readPieceOf_14 : decode cX6_readPieceOf 14 = .ok (.ifCond .eq 34, 3) := by decide +kernel
theorem dX6_readPieceOf_17 : decode cX6_readPieceOf 17 = .ok (.aload_n 0, 1) := by decide +kernel
theorem dX6_readPieceOf_18 : decode cX6_readPieceOf 18 = .ok (.iconst 0, 1) := by decide +kernel
theorem dX6_readPieceOf_19 : decode cX6_readPieceOf 19 = .ok (.iconst 0, 1) := by decide +kernel
theorem dX6_readPieceOf_20 : decode cX6_readPieceOf 20 = .ok (.iconst 3, 1) := by decide +kernel
theorem dX6_readPieceOf_21 : decode cX6_readPieceOf 21 = .ok (.invokevirtual 100, 3) := by decide +kernel
theorem dX6_readPieceOf_24 : decode cX6_readPieceOf 24 = .ok (.ifCond .eq 24, 3) := by decide +kernel
theorem dX6_readPieceOf_27 : decode cX6_readPieceOf 27 = .ok (.aload_n 0, 1) := by decide +kernel
theorem dX6_readPieceOf_28 : decode cX6_readPieceOf 28 = .ok (.iconst 1, 1) := by decide +kernel
theorem dX6_readPieceOf_29 : decode cX6_readPieceOf 29 = .ok (.iconst 0, 1) := by decide +kernel
theorem dX6_readPieceOf_30 : decode cX6_readPieceOf 30 = .ok (.iconst 3, 1) := by decide +kernel
theorem dX6_readPieceOf_31 : decode cX6_readPieceOf 31 = .ok (.invokevirtual 100, 3) := by decide +kernel
theorem dX6_readPieceOf_34 : decode cX6_readPieceOf 34 = .ok (.ifCond .eq 14, 3) := by decide +kernel
theorem dX6_readPieceOf_37 : decode cX6_readPieceOf 37 = .ok (.aload_n 0, 1) := by decide +kernel
theorem dX6_readPieceOf_38 : decode cX6_readPieceOf 38 = .ok (.iconst 2, 1) := by decide +kernel
theorem dX6_readPieceOf_39 : decode cX6_readPieceOf 39 = .ok (.iconst 0, 1) := by decide +kernel
theorem dX6_readPieceOf_40 : decode cX6_readPieceOf 40 = .ok (.bipush 60, 2) := by decide +kernel
theorem dX6_readPieceOf_42 : decode cX6_readPieceOf 42 = .ok (.invokevirtual 100, 3) := by decide +kernel
theorem dX6_readPieceOf_45 : decode cX6_readPieceOf 45 = .ok (.ifCond .ne 5, 3) := by decide +kernel
theorem dX6_readPieceOf_48 : decode cX6_readPieceOf 48 = .ok (.iconst 0, 1) := by decide +kernel
theorem dX6_readPieceOf_49 : decode cX6_readPieceOf 49 = .ok (.ireturn, 1) := by decide +kernel
theorem dX6_readPieceOf_50 : decode cX6_readPieceOf 50 = .ok (.aload_n 0, 1) := by decide +kernel
theorem dX6_readPieceOf_51 : decode cX6_readPieceOf 51 = .ok (.aload_n 0, 1) := by decide +kernel
theorem dX6_readPieceOf_52 : decode cX6_readPieceOf 52 = .ok (.getfield 31, 3) := by decide +kernel
theorem dX6_readPieceOf_55 : decode cX6_readPieceOf 55 = .ok (.iconst 0, 1) := by decide +kernel
theorem dX6_readPieceOf_56 : decode cX6_readPieceOf 56 = .ok (.iaload, 1) := by decide +kernel
theorem dX6_readPieceOf_57 : decode cX6_readPieceOf 57 = .ok (.aload_n 0, 1) := by decide +kernel
theorem dX6_readPieceOf_58 : decode cX6_readPieceOf 58 = .ok (.getfield 31, 3) := by decide +kernel
theorem dX6_readPieceOf_61 : decode cX6_readPieceOf 61 = .ok (.iconst 1, 1) := by decide +kernel
theorem dX6_readPieceOf_62 : decode cX6_readPieceOf 62 = .ok (.iaload, 1) := by decide +kernel
theorem dX6_readPieceOf_63 : decode cX6_readPieceOf 63 = .ok (.aload_n 0, 1) := by decide +kernel
theorem dX6_readPieceOf_64 : decode cX6_readPieceOf 64 = .ok (.getfield 31, 3) := by decide +kernel
theorem dX6_readPieceOf_67 : decode cX6_readPieceOf 67 = .ok (.iconst 2, 1) := by decide +kernel
theorem dX6_readPieceOf_68 : decode cX6_readPieceOf 68 = .ok (.iaload, 1) := by decide +kernel
theorem dX6_readPieceOf_69 : decode cX6_readPieceOf 69 = .ok (.invokevirtual 49, 3) := by decide +kernel
theorem dX6_readPieceOf_72 : decode cX6_readPieceOf 72 = .ok (.iconst 1, 1) := by decide +kernel
theorem dX6_readPieceOf_73 : decode cX6_readPieceOf 73 = .ok (.ireturn, 1) := by decide +kernel
set_option maxRecDepth 20000 in
theorem ggX6_readDeedOf_X6_readNumbers : GoodIn wsX6_readDeedOf wsX6_readNumbers := goodIn_r _ [7, 8, 2, 9, 10, 11, 6, 12, 13, 14, 15, 16, 17, 18, 19, 20, 30, 31, 32, 33, 34, 35, 36, 37, 38, 39, 40, 41, 42, 43, 44, 45, 46, 47, 48, 49, 50, 51, 52, 53] (by decide +kernel) (by decide +kernel)
set_option maxRecDepth 20000 in
theorem gX6_readDeedOf_X6_readNumbers : GoodIn wsX6_readDeedOf (wsV RX6 97 RX6 yX6_readNumbers wsX6_readNumbers) := goodIn_app (goodIn_of _ (by decide +kernel)) ggX6_readDeedOf_X6_readNumbers
set_option maxRecDepth 20000 in
theorem ggX6_readDeedOf_X6_isTold : GoodIn wsX6_readDeedOf wsX6_isTold := goodIn_r _ [24, 2, 18, 19, 6, 20, 30, 31, 32, 33, 34, 35, 36, 37, 38, 39, 40, 41, 42, 43, 44, 45, 46, 47, 48, 49, 50, 51, 52, 53] (by decide +kernel) (by decide +kernel)
set_option maxRecDepth 20000 in
theorem gX6_readDeedOf_X6_isTold : GoodIn wsX6_readDeedOf (wsV RX6 100 RX6 yX6_isTold wsX6_isTold) := goodIn_app (goodIn_of _ (by decide +kernel)) ggX6_readDeedOf_X6_isTold
set_option maxRecDepth 20000 in
theorem ggX6_readDeedOf_X6_tellsDeed : GoodIn wsX6_readDeedOf wsX6_tellsDeed := goodIn_r _ [28, 29, 1, 30, 31, 32, 33, 34, 35, 36, 37, 38, 39, 40, 41, 42, 43, 44, 45, 46, 47, 48, 49, 50, 51, 52, 53] (by decide +kernel) (by decide +kernel)
set_option maxRecDepth 20000 in
theorem gX6_readDeedOf_X6_tellsDeed : GoodIn wsX6_readDeedOf (wsV RX6 53 RX6 yX6_tellsDeed wsX6_tellsDeed) := goodIn_app (goodIn_of _ (by decide +kernel)) ggX6_readDeedOf_X6_tellsDeed
theorem dX6_readDeedOf_0 : decode cX6_readDeedOf 0 = .ok (.aload_n 0, 1) := by decide +kernel
theorem dX6_readDeedOf_1 : decode cX6_readDeedOf 1 = .ok (.getfield 70, 3) := by decide +kernel
theorem dX6_readDeedOf_4 : decode cX6_readDeedOf 4 = .ok (.bipush 9, 2) := by decide +kernel
theorem dX6_readDeedOf_6 : decode cX6_readDeedOf 6 = .ok (.if_icmp .eq 53, 3) := by decide +kernel
theorem dX6_readDeedOf_9 : decode cX6_readDeedOf 9 = .ok (.aload_n 0, 1) := by decide +kernel
theorem dX6_readDeedOf_10 : decode cX6_readDeedOf 10 = .ok (.iconst 4, 1) := by decide +kernel
theorem dX6_readDeedOf_11 : decode cX6_readDeedOf 11 = .ok (.invokevirtual 97, 3) := by decide +kernel
theorem dX6_readDeedOf_14 : decode cX6_readDeedOf 14 = .ok (.ifCond .eq 45, 3) := by decide +kernel
theorem dX6_readDeedOf_17 : decode cX6_readDeedOf 17 = .ok (.aload_n 0, 1) := by decide +kernel
theorem dX6_readDeedOf_18 : decode cX6_readDeedOf 18 = .ok (.iconst 0, 1) := by decide +kernel
theorem dX6_readDeedOf_19 : decode cX6_readDeedOf 19 = .ok (.iconst 0, 1) := by decide +kernel
theorem dX6_readDeedOf_20 : decode cX6_readDeedOf 20 = .ok (.iconst 5, 1) := by decide +kernel
theorem dX6_readDeedOf_21 : decode cX6_readDeedOf 21 = .ok (.invokevirtual 100, 3) := by decide +kernel
theorem dX6_readDeedOf_24 : decode cX6_readDeedOf 24 = .ok (.ifCond .eq 35, 3) := by decide +kernel
theorem dX6_readDeedOf_27 : decode cX6_readDeedOf 27 = .ok (.aload_n 0, 1) := by decide +kernel
theorem dX6_readDeedOf_28 : decode cX6_readDeedOf 28 = .ok (.iconst 1, 1) := by decide +kernel
theorem dX6_readDeedOf_29 : decode cX6_readDeedOf 29 = .ok (.iconst 0, 1) := by decide +kernel
theorem dX6_readDeedOf_30 : decode cX6_readDeedOf 30 = .ok (.iconst 3, 1) := by decide +kernel
theorem dX6_readDeedOf_31 : decode cX6_readDeedOf 31 = .ok (.invokevirtual 100, 3) := by decide +kernel
theorem dX6_readDeedOf_34 : decode cX6_readDeedOf 34 = .ok (.ifCond .eq 25, 3) := by decide +kernel
theorem dX6_readDeedOf_37 : decode cX6_readDeedOf 37 = .ok (.aload_n 0, 1) := by decide +kernel
theorem dX6_readDeedOf_38 : decode cX6_readDeedOf 38 = .ok (.iconst 2, 1) := by decide +kernel
theorem dX6_readDeedOf_39 : decode cX6_readDeedOf 39 = .ok (.iconst 0, 1) := by decide +kernel
theorem dX6_readDeedOf_40 : decode cX6_readDeedOf 40 = .ok (.bipush 23, 2) := by decide +kernel
theorem dX6_readDeedOf_42 : decode cX6_readDeedOf 42 = .ok (.invokevirtual 100, 3) := by decide +kernel
theorem dX6_readDeedOf_45 : decode cX6_readDeedOf 45 = .ok (.ifCond .eq 14, 3) := by decide +kernel
theorem dX6_readDeedOf_48 : decode cX6_readDeedOf 48 = .ok (.aload_n 0, 1) := by decide +kernel
theorem dX6_readDeedOf_49 : decode cX6_readDeedOf 49 = .ok (.iconst 3, 1) := by decide +kernel
theorem dX6_readDeedOf_50 : decode cX6_readDeedOf 50 = .ok (.iconst 1, 1) := by decide +kernel
theorem dX6_readDeedOf_51 : decode cX6_readDeedOf 51 = .ok (.bipush 30, 2) := by decide +kernel
theorem dX6_readDeedOf_53 : decode cX6_readDeedOf 53 = .ok (.invokevirtual 100, 3) := by decide +kernel
theorem dX6_readDeedOf_56 : decode cX6_readDeedOf 56 = .ok (.ifCond .ne 5, 3) := by decide +kernel
theorem dX6_readDeedOf_59 : decode cX6_readDeedOf 59 = .ok (.iconst 0, 1) := by decide +kernel
theorem dX6_readDeedOf_60 : decode cX6_readDeedOf 60 = .ok (.ireturn, 1) := by decide +kernel
theorem dX6_readDeedOf_61 : decode cX6_readDeedOf 61 = .ok (.aload_n 0, 1) := by decide +kernel
theorem dX6_readDeedOf_62 : decode cX6_readDeedOf 62 = .ok (.aload_n 0, 1) := by decide +kernel
theorem dX6_readDeedOf_63 : decode cX6_readDeedOf 63 = .ok (.getfield 31, 3) := by decide +kernel
theorem dX6_readDeedOf_66 : decode cX6_readDeedOf 66 = .ok (.iconst 0, 1) := by decide +kernel
theorem dX6_readDeedOf_67 : decode cX6_readDeedOf 67 = .ok (.iaload, 1) := by decide +kernel
theorem dX6_readDeedOf_68 : decode cX6_readDeedOf 68 = .ok (.aload_n 0, 1) := by decide +kernel
theorem dX6_readDeedOf_69 : decode cX6_readDeedOf 69 = .ok (.getfield 31, 3) := by decide +kernel
theorem dX6_readDeedOf_72 : decode cX6_readDeedOf 72 = .ok (.iconst 1, 1) := by decide +kernel
theorem dX6_readDeedOf_73 : decode cX6_readDeedOf 73 = .ok (.iaload, 1) := by decide +kernel
theorem dX6_readDeedOf_74 : decode cX6_readDeedOf 74 = .ok (.aload_n 0, 1) := by decide +kernel
theorem dX6_readDeedOf_75 : decode cX6_readDeedOf 75 = .ok (.getfield 31, 3) := by decide +kernel
theorem dX6_readDeedOf_78 : decode cX6_readDeedOf 78 = .ok (.iconst 2, 1) := by decide +kernel
theorem dX6_readDeedOf_79 : decode cX6_readDeedOf 79 = .ok (.iaload, 1) := by decide +kernel
theorem dX6_readDeedOf_80 : decode cX6_readDeedOf 80 = .ok (.aload_n 0, 1) := by decide +kernel
theorem dX6_readDeedOf_81 : decode cX6_readDeedOf 81 = .ok (.getfield 31, 3) := by decide +kernel
theorem dX6_readDeedOf_84 : decode cX6_readDeedOf 84 = .ok (.iconst 3, 1) := by decide +kernel
theorem dX6_readDeedOf_85 : decode cX6_readDeedOf 85 = .ok (.iaload, 1) := by decide +kernel
theorem dX6_readDeedOf_86 : decode cX6_readDeedOf 86 = .ok (.invokevirtual 53, 3) := by decide +kernel
theorem dX6_readDeedOf_89 : decode cX6_readDeedOf 89 = .ok (.iconst 1, 1) := by decide +kernel
theorem dX6_readDeedOf_90 : decode cX6_readDeedOf 90 = .ok (.ireturn, 1) := by decide +kernel
set_option maxRecDepth 20000 in
theorem ggX6_readCoinsOf_X6_readNumbers : GoodIn wsX6_readCoinsOf wsX6_readNumbers := goodIn_r _ [7, 8, 1, 9, 10, 11, 6, 12, 13, 14, 15, 16, 17, 18, 19, 20, 21, 22, 23, 24, 25, 26, 27, 28, 29, 30, 31, 32, 33, 34, 35, 36, 37, 38, 39, 40, 41, 42, 43, 44] (by decide +kernel) (by decide +kernel)
set_option maxRecDepth 20000 in
theorem gX6_readCoinsOf_X6_readNumbers : GoodIn wsX6_readCoinsOf (wsV RX6 97 RX6 yX6_readNumbers wsX6_readNumbers) := goodIn_app (goodIn_of _ (by decide +kernel)) ggX6_readCoinsOf_X6_readNumbers
theorem dX6_readCoinsOf_0 : decode cX6_readCoinsOf 0 = .ok (.aload_n 0, 1) := by decide +kernel
theorem dX6_readCoinsOf_1 : decode cX6_readCoinsOf 1 = .ok (.iconst 1, 1) := by decide +kernel
theorem dX6_readCoinsOf_2 : decode cX6_readCoinsOf 2 = .ok (.invokevirtual 97, 3) := by decide +kernel
theorem dX6_readCoinsOf_5 : decode cX6_readCoinsOf 5 = .ok (.istore_n 1, 1) := by decide +kernel
theorem dX6_readCoinsOf_6 : decode cX6_readCoinsOf 6 = .ok (.aload_n 0, 1) := by decide +kernel
theorem dX6_readCoinsOf_7 : decode cX6_readCoinsOf 7 = .ok (.iload_n 1, 1) := by decide +kernel
theorem dX6_readCoinsOf_8 : decode cX6_readCoinsOf 8 = .ok (.ifCond .eq 12, 3) := by decide +kernel
theorem dX6_readCoinsOf_11 : decode cX6_readCoinsOf 11 = .ok (.aload_n 0, 1) := by decide +kernel
theorem dX6_readCoinsOf_12 : decode cX6_readCoinsOf 12 = .ok (.getfield 31, 3) := by decide +kernel
theorem dX6_readCoinsOf_15 : decode cX6_readCoinsOf 15 = .ok (.iconst 0, 1) := by decide +kernel
theorem dX6_readCoinsOf_16 : decode cX6_readCoinsOf 16 = .ok (.iaload, 1) := by decide +kernel
theorem dX6_readCoinsOf_17 : decode cX6_readCoinsOf 17 = .ok (.goto 7, 3) := by decide +kernel
theorem dX6_readCoinsOf_20 : decode cX6_readCoinsOf 20 = .ok (.aload_n 0, 1) := by decide +kernel
theorem dX6_readCoinsOf_21 : decode cX6_readCoinsOf 21 = .ok (.getfield 57, 3) := by decide +kernel
theorem dX6_readCoinsOf_24 : decode cX6_readCoinsOf 24 = .ok (.putfield 57, 3) := by decide +kernel
theorem dX6_readCoinsOf_27 : decode cX6_readCoinsOf 27 = .ok (.iload_n 1, 1) := by decide +kernel
theorem dX6_readCoinsOf_28 : decode cX6_readCoinsOf 28 = .ok (.ireturn, 1) := by decide +kernel
set_option maxRecDepth 20000 in
theorem ggX6_readLawOf_X6_readNumbers : GoodIn wsX6_readLawOf wsX6_readNumbers := goodIn_r _ [7, 8, 2, 9, 10, 11, 6, 12, 13, 14, 15, 16, 17, 18, 19, 20, 25, 26, 27, 28, 29, 30, 31, 32, 33, 34, 35, 36, 37, 38, 39, 40, 41, 42, 43, 44, 45, 46, 47, 48] (by decide +kernel) (by decide +kernel)
set_option maxRecDepth 20000 in
theorem gX6_readLawOf_X6_readNumbers : GoodIn wsX6_readLawOf (wsV RX6 97 RX6 yX6_readNumbers wsX6_readNumbers) := goodIn_app (goodIn_of _ (by decide +kernel)) ggX6_readLawOf_X6_readNumbers
set_option maxRecDepth 20000 in
theorem ggX6_readLawOf_X6_isTold : GoodIn wsX6_readLawOf wsX6_isTold := goodIn_r _ [24, 2, 18, 19, 6, 20, 25, 26, 27, 28, 29, 30, 31, 32, 33, 34, 35, 36, 37, 38, 39, 40, 41, 42, 43, 44, 45, 46, 47, 48] (by decide +kernel) (by decide +kernel)
set_option maxRecDepth 20000 in
theorem gX6_readLawOf_X6_isTold : GoodIn wsX6_readLawOf (wsV RX6 100 RX6 yX6_isTold wsX6_isTold) := goodIn_app (goodIn_of _ (by decide +kernel)) ggX6_readLawOf_X6_isTold
theorem dX6_readLawOf_0 : decode cX6_readLawOf 0 = .ok (.aload_n 0, 1) := by decide +kernel
theorem dX6_readLawOf_1 : decode cX6_readLawOf 1 = .ok (.iconst 1, 1) := by decide +kernel
theorem dX6_readLawOf_2 : decode cX6_readLawOf 2 = .ok (.invokevirtual 97, 3) := by decide +kernel
theorem dX6_readLawOf_5 : decode cX6_readLawOf 5 = .ok (.ifCond .eq 13, 3) := by decide +kernel
theorem dX6_readLawOf_8 : decode cX6_readLawOf 8 = .ok (.aload_n 0, 1) := by decide +kernel
theorem dX6_readLawOf_9 : decode cX6_readLawOf 9 = .ok (.iconst 0, 1) := by decide +kernel
theorem dX6_readLawOf_10 : decode cX6_readLawOf 10 = .ok (.iconst 0, 1) := by decide +kernel
theorem dX6_readLawOf_11 : decode cX6_readLawOf 11 = .ok (.iconst 3, 1) := by decide +kernel
theorem dX6_readLawOf_12 : decode cX6_readLawOf 12 = .ok (.invokevirtual 100, 3) := by decide +kernel
theorem dX6_readLawOf_15 : decode cX6_readLawOf 15 = .ok (.ifCond .ne 5, 3) := by decide +kernel
theorem dX6_readLawOf_18 : decode cX6_readLawOf 18 = .ok (.iconst 0, 1) := by decide +kernel
theorem dX6_readLawOf_19 : decode cX6_readLawOf 19 = .ok (.ireturn, 1) := by decide +kernel
theorem dX6_readLawOf_20 : decode cX6_readLawOf 20 = .ok (.aload_n 0, 1) := by decide +kernel
theorem dX6_readLawOf_21 : decode cX6_readLawOf 21 = .ok (.dup, 1) := by decide +kernel
theorem dX6_readLawOf_22 : decode cX6_readLawOf 22 = .ok (.getfield 61, 3) := by decide +kernel
theorem dX6_readLawOf_25 : decode cX6_readLawOf 25 = .ok (.iconst 1, 1) := by decide +kernel
theorem dX6_readLawOf_26 : decode cX6_readLawOf 26 = .ok (.aload_n 0, 1) := by decide +kernel
theorem dX6_readLawOf_27 : decode cX6_readLawOf 27 = .ok (.getfield 31, 3) := by decide +kernel
theorem dX6_readLawOf_30 : decode cX6_readLawOf 30 = .ok (.iconst 0, 1) := by decide +kernel
theorem dX6_readLawOf_31 : decode cX6_readLawOf 31 = .ok (.iaload, 1) := by decide +kernel
theorem dX6_readLawOf_32 : decode cX6_readLawOf 32 = .ok (.ishl, 1) := by decide +kernel
theorem dX6_readLawOf_33 : decode cX6_readLawOf 33 = .ok (.ior, 1) := by decide +kernel
theorem dX6_readLawOf_34 : decode cX6_readLawOf 34 = .ok (.putfield 61, 3) := by decide +kernel
theorem dX6_readLawOf_37 : decode cX6_readLawOf 37 = .ok (.iconst 1, 1) := by decide +kernel
theorem dX6_readLawOf_38 : decode cX6_readLawOf 38 = .ok (.ireturn, 1) := by decide +kernel
set_option maxRecDepth 20000 in
theorem ggX6_readItem_X6_letterAt : GoodIn wsX6_readItem wsX6_letterAt := goodIn_r _ [6, 7, 8, 55, 56, 57, 58, 59, 60, 61, 62, 63, 64, 65, 66, 67, 68, 69, 70, 71, 72, 73, 74, 75, 76, 77, 78] (by decide +kernel) (by decide +kernel)
set_option maxRecDepth 20000 in
theorem gX6_readItem_X6_letterAt : GoodIn wsX6_readItem (wsV RX6 89 RX6 yX6_letterAt wsX6_letterAt) := goodIn_app (goodIn_of _ (by decide +kernel)) ggX6_readItem_X6_letterAt
set_option maxRecDepth 20000 in
theorem ggX6_readItem_X6_readPieceOf : GoodIn wsX6_readItem wsX6_readPieceOf := goodIn_r _ [12, 13, 14, 15, 16, 17, 5, 18, 1, 2, 3, 4, 6, 7, 8, 19, 20, 21, 22, 23, 24, 25, 26, 27, 28, 29, 30, 31, 32, 33, 34, 55, 56, 57, 58, 59, 60, 61, 62, 63, 64, 65, 66, 67, 68, 69, 70, 71, 72, 73, 74, 75, 76, 77, 78] (by decide +kernel) (by decide +kernel)
set_option maxRecDepth 20000 in
theorem gX6_readItem_X6_readPieceOf : GoodIn wsX6_readItem (wsV RX6 103 RX6 yX6_readPieceOf wsX6_readPieceOf) := goodIn_app (goodIn_of _ (by decide +kernel)) ggX6_readItem_X6_readPieceOf
set_option maxRecDepth 20000 in
theorem ggX6_readItem_X6_readDeedOf : GoodIn wsX6_readItem wsX6_readDeedOf := goodIn_r _ [38, 39, 14, 15, 16, 17, 5, 18, 1, 2, 3, 4, 6, 7, 8, 19, 20, 21, 22, 23, 24, 25, 26, 27, 28, 40, 41, 42, 43, 44, 55, 56, 57, 58, 59, 60, 61, 62, 63, 64, 65, 66, 67, 68, 69, 70, 71, 72, 73, 74, 75, 76, 77, 78] (by decide +kernel) (by decide +kernel)
set_option maxRecDepth 20000 in
theorem gX6_readItem_X6_readDeedOf : GoodIn wsX6_readItem (wsV RX6 107 RX6 yX6_readDeedOf wsX6_readDeedOf) := goodIn_app (goodIn_of _ (by decide +kernel)) ggX6_readItem_X6_readDeedOf
set_option maxRecDepth 20000 in
theorem ggX6_readItem_X6_readCoinsOf : GoodIn wsX6_readItem wsX6_readCoinsOf := goodIn_r _ [48, 14, 49, 15, 16, 17, 5, 18, 1, 2, 3, 4, 6, 7, 8, 19, 20, 21, 22, 23, 24, 55, 56, 57, 58, 59, 60, 61, 62, 63, 64, 65, 66, 67, 68, 69, 70, 71, 72, 73, 74, 75, 76, 77, 78] (by decide +kernel) (by decide +kernel)
set_option maxRecDepth 20000 in
theorem gX6_readItem_X6_readCoinsOf : GoodIn wsX6_readItem (wsV RX6 110 RX6 yX6_readCoinsOf wsX6_readCoinsOf) := goodIn_app (goodIn_of _ (by decide +kernel)) ggX6_readItem_X6_readCoinsOf
set_option maxRecDepth 20000 in
theorem ggX6_readItem_X6_readLawOf : GoodIn wsX6_readItem wsX6_readLawOf := goodIn_r _ [53, 54, 14, 15, 16, 17, 5, 18, 1, 2, 3, 4, 6, 7, 8, 19, 20, 21, 22, 23, 24, 25, 26, 27, 28, 55, 56, 57, 58, 59, 60, 61, 62, 63, 64, 65, 66, 67, 68, 69, 70, 71, 72, 73, 74, 75, 76, 77, 78] (by decide +kernel) (by decide +kernel)
set_option maxRecDepth 20000 in
theorem gX6_readItem_X6_readLawOf : GoodIn wsX6_readItem (wsV RX6 113 RX6 yX6_readLawOf wsX6_readLawOf) := goodIn_app (goodIn_of _ (by decide +kernel)) ggX6_readItem_X6_readLawOf
theorem dX6_readItem_0 : decode cX6_readItem 0 = .ok (.aload_n 0, 1) := by decide +kernel
theorem dX6_readItem_1 : decode cX6_readItem 1 = .ok (.aload_n 0, 1) := by decide +kernel
theorem dX6_readItem_2 : decode cX6_readItem 2 = .ok (.getfield 86, 3) := by decide +kernel
theorem dX6_readItem_5 : decode cX6_readItem 5 = .ok (.invokevirtual 89, 3) := by decide +kernel
theorem dX6_readItem_8 : decode cX6_readItem 8 = .ok (.istore_n 1, 1) := by decide +kernel
theorem dX6_readItem_9 : decode cX6_readItem 9 = .ok (.aload_n 0, 1) := by decide +kernel
theorem dX6_readItem_10 : decode cX6_readItem 10 = .ok (.dup, 1) := by decide +kernel
theorem dX6_readItem_11 : decode cX6_readItem 11 = .ok (.getfield 86, 3) := by decide +kernel
theorem dX6_readItem_14 : decode cX6_readItem 14 = .ok (.iconst 1, 1) := by decide +kernel
theorem dX6_readItem_15 : decode cX6_readItem 15 = .ok (.iadd, 1) := by decide +kernel
theorem dX6_readItem_16 : decode cX6_readItem 16 = .ok (.putfield 86, 3) := by decide +kernel
theorem dX6_readItem_19 : decode cX6_readItem 19 = .ok (.iload_n 1, 1) := by decide +kernel
theorem dX6_readItem_20 : decode cX6_readItem 20 = .ok (.lookupswitch 64 #[(100, 49), (108, 59), (109, 54), (112, 44)], 44) := by decide +kernel
theorem dX6_readItem_64 : decode cX6_readItem 64 = .ok (.aload_n 0, 1) := by decide +kernel
theorem dX6_readItem_65 : decode cX6_readItem 65 = .ok (.invokevirtual 103, 3) := by decide +kernel
theorem dX6_readItem_68 : decode cX6_readItem 68 = .ok (.ireturn, 1) := by decide +kernel
theorem dX6_readItem_69 : decode cX6_readItem 69 = .ok (.aload_n 0, 1) := by decide +kernel
theorem dX6_readItem_70 : decode cX6_readItem 70 = .ok (.invokevirtual 107, 3) := by decide +kernel
theorem dX6_readItem_73 : decode cX6_readItem 73 = .ok (.ireturn, 1) := by decide +kernel
theorem dX6_readItem_74 : decode cX6_readItem 74 = .ok (.aload_n 0, 1) := by decide +kernel
theorem dX6_readItem_75 : decode cX6_readItem 75 = .ok (.invokevirtual 110, 3) := by decide +kernel
theorem dX6_readItem_78 : decode cX6_readItem 78 = .ok (.ireturn, 1) := by decide +kernel
theorem dX6_readItem_79 : decode cX6_readItem 79 = .ok (.aload_n 0, 1) := by decide +kernel
theorem dX6_readItem_80 : decode cX6_readItem 80 = .ok (.invokevirtual 113, 3) := by decide +kernel
theorem dX6_readItem_83 : decode cX6_readItem 83 = .ok (.ireturn, 1) := by decide +kernel
theorem dX6_readItem_84 : decode cX6_readItem 84 = .ok (.iconst 0, 1) := by decide +kernel
theorem dX6_readItem_85 : decode cX6_readItem 85 = .ok (.ireturn, 1) := by decide +kernel
set_option maxRecDepth 20000 in
theorem ggX6_fault_X6_clearTold : GoodIn wsX6_fault wsX6_clearTold := goodIn_r _ [7, 8, 9, 10, 11, 63, 64, 65, 66, 67, 68, 69, 70, 71, 72, 73, 74, 75, 76, 77, 78, 79, 80, 81, 82, 83, 84, 85, 86] (by decide +kernel) (by decide +kernel)
set_option maxRecDepth 20000 in
theorem gX6_fault_X6_clearTold : GoodIn wsX6_fault (wsV RX6 46 RX6 yX6_clearTold wsX6_clearTold) := goodIn_app (goodIn_of _ (by decide +kernel)) ggX6_fault_X6_clearTold
set_option maxRecDepth 20000 in
theorem ggX6_fault_X6_readItem : GoodIn wsX6_fault wsX6_readItem := goodIn_r _ [15, 1, 16, 17, 18, 6, 19, 2, 20, 21, 22, 23, 24, 8, 25, 26, 27, 28, 29, 30, 31, 32, 33, 34, 35, 36, 37, 38, 39, 40, 41, 42, 43, 44, 45, 46, 47, 48, 49, 9, 50, 51, 52, 53, 54, 55, 56, 57, 58, 10, 59, 60, 61, 62, 11, 63, 64, 65, 66, 67, 68, 69, 70, 71, 72, 73, 74, 75, 76, 77, 78, 79, 80, 81, 82, 83, 84, 85, 86] (by decide +kernel) (by decide +kernel)
set_option maxRecDepth 20000 in
theorem gX6_fault_X6_readItem : GoodIn wsX6_fault (wsV RX6 116 RX6 yX6_readItem wsX6_readItem) := goodIn_app (goodIn_of _ (by decide +kernel)) ggX6_fault_X6_readItem
theorem dX6_fault_0 : decode cX6_fault 0 = .ok (.aload_n 0, 1) := by decide +kernel
theorem dX6_fault_1 : decode cX6_fault 1 = .ok (.iconst 0, 1) := by decide +kernel
theorem dX6_fault_2 : decode cX6_fault 2 = .ok (.putfield 86, 3) := by decide +kernel
theorem dX6_fault_5 : decode cX6_fault 5 = .ok (.aload_n 0, 1) := by decide +kernel
theorem dX6_fault_6 : decode cX6_fault 6 = .ok (.invokevirtual 46, 3) := by decide +kernel
theorem dX6_fault_9 : decode cX6_fault 9 = .ok (.aload_n 0, 1) := by decide +kernel
theorem dX6_fault_10 : decode cX6_fault 10 = .ok (.getfield 86, 3) := by decide +kernel
theorem dX6_fault_13 : decode cX6_fault 13 = .ok (.aload_n 0, 1) := by decide +kernel
theorem dX6_fault_14 : decode cX6_fault 14 = .ok (.getfield 83, 3) := by decide +kernel
theorem dX6_fault_17 : decode cX6_fault 17 = .ok (.if_icmp .ge 20, 3) := by decide +kernel
theorem dX6_fault_20 : decode cX6_fault 20 = .ok (.aload_n 0, 1) := by decide +kernel
theorem dX6_fault_21 : decode cX6_fault 21 = .ok (.getfield 86, 3) := by decide +kernel
theorem dX6_fault_24 : decode cX6_fault 24 = .ok (.istore_n 1, 1) := by decide +kernel
theorem dX6_fault_25 : decode cX6_fault 25 = .ok (.aload_n 0, 1) := by decide +kernel
theorem dX6_fault_26 : decode cX6_fault 26 = .ok (.invokevirtual 116, 3) := by decide +kernel
theorem dX6_fault_29 : decode cX6_fault 29 = .ok (.ifCond .ne 5, 3) := by decide +kernel
theorem dX6_fault_32 : decode cX6_fault 32 = .ok (.iload_n 1, 1) := by decide +kernel
theorem dX6_fault_33 : decode cX6_fault 33 = .ok (.ireturn, 1) := by decide +kernel
theorem dX6_fault_34 : decode cX6_fault 34 = .ok (.goto (-25), 3) := by decide +kernel
theorem dX6_fault_37 : decode cX6_fault 37 = .ok (.bipush (-4), 2) := by decide +kernel
theorem dX6_fault_39 : decode cX6_fault 39 = .ok (.ireturn, 1) := by decide +kernel
set_option maxRecDepth 20000 in
theorem ggX6_lay_X6_fault : GoodIn wsX6_lay wsX6_fault := goodIn_r _ [7, 8, 9, 10, 11, 12, 6, 13, 1, 14, 15, 16, 17, 18, 19, 20, 21, 22, 23, 24, 25, 26, 27, 28, 29, 30, 31, 32, 33, 34, 35, 36, 37, 38, 39, 40, 41, 42, 43, 44, 45, 46, 47, 48, 49, 50, 51, 52, 53, 54, 55, 56, 57, 58, 59, 60, 61, 62, 63, 64, 65, 66, 67, 83, 84, 85, 86, 87, 88, 89, 90, 91, 92, 93, 94, 95, 96, 97, 98, 99, 100, 101, 102, 103, 104, 105, 106] (by decide +kernel) (by decide +kernel)
set_option maxRecDepth 20000 in
theorem gX6_lay_X6_fault : GoodIn wsX6_lay (wsV RX6 119 RX6 yX6_fault wsX6_fault) := goodIn_app (goodIn_of _ (by decide +kernel)) ggX6_lay_X6_fault
set_option maxRecDepth 20000 in
theorem ggX6_lay_X6_settles : GoodIn wsX6_lay wsX6_settles := goodIn_r _ [71, 1, 2, 72, 49, 14, 73, 74, 59, 16, 75, 76, 15, 50, 77, 78, 79, 80, 81, 6, 82, 83, 84, 85, 86, 87, 88, 89, 90, 91, 92, 93, 94, 95, 96, 97, 98, 99, 100, 101, 102, 103, 104, 105, 106] (by decide +kernel) (by decide +kernel)
set_option maxRecDepth 20000 in
theorem gX6_lay_X6_settles : GoodIn wsX6_lay (wsV RX6 64 RX6 yX6_settles wsX6_settles) := goodIn_app (goodIn_of _ (by decide +kernel)) ggX6_lay_X6_settles
theorem dX6_lay_0 : decode cX6_lay 0 = .ok (.aload_n 0, 1) := by decide +kernel
theorem dX6_lay_1 : decode cX6_lay 1 = .ok (.invokevirtual 119, 3) := by decide +kernel
theorem dX6_lay_4 : decode cX6_lay 4 = .ok (.bipush (-4), 2) := by decide +kernel
theorem dX6_lay_6 : decode cX6_lay 6 = .ok (.if_icmp .ne 10, 3) := by decide +kernel
theorem dX6_lay_9 : decode cX6_lay 9 = .ok (.aload_n 0, 1) := by decide +kernel
theorem dX6_lay_10 : decode cX6_lay 10 = .ok (.getfield 67, 3) := by decide +kernel
theorem dX6_lay_13 : decode cX6_lay 13 = .ok (.ifCond .ne 6, 3) := by decide +kernel
theorem dX6_lay_16 : decode cX6_lay 16 = .ok (.bipush (-2), 2) := by decide +kernel
theorem dX6_lay_18 : decode cX6_lay 18 = .ok (.ireturn, 1) := by decide +kernel
theorem dX6_lay_19 : decode cX6_lay 19 = .ok (.aload_n 0, 1) := by decide +kernel
theorem dX6_lay_20 : decode cX6_lay 20 = .ok (.invokevirtual 64, 3) := by decide +kernel
theorem dX6_lay_23 : decode cX6_lay 23 = .ok (.aload_n 0, 1) := by decide +kernel
