theorem dX6_remembers_35 : decode cX6_remembers 35 = .ok (.goto (-24), 3) := by decide +kernel
theorem dX6_remembers_38 : decode cX6_remembers 38 = .ok (.aload_n 0, 1) := by decide +kernel
theorem dX6_remembers_39 : decode cX6_remembers 39 = .ok (.dup, 1) := by decide +kernel
theorem dX6_remembers_40 : decode cX6_remembers 40 = .ok (.getfield 130, 3) := by decide +kernel
theorem dX6_remembers_43 : decode cX6_remembers 43 = .ok (.iconst 1, 1) := by decide +kernel
theorem dX6_remembers_44 : decode cX6_remembers 44 = .ok (.isub, 1) := by decide +kernel
theorem dX6_remembers_45 : decode cX6_remembers 45 = .ok (.putfield 130, 3) := by decide +kernel
theorem dX6_remembers_48 : decode cX6_remembers 48 = .ok (.aload_n 0, 1) := by decide +kernel
theorem dX6_remembers_49 : decode cX6_remembers 49 = .ok (.getfield 19, 3) := by decide +kernel
theorem dX6_remembers_52 : decode cX6_remembers 52 = .ok (.bipush 18, 2) := by decide +kernel
theorem dX6_remembers_54 : decode cX6_remembers 54 = .ok (.aload_n 0, 1) := by decide +kernel
theorem dX6_remembers_55 : decode cX6_remembers 55 = .ok (.getfield 130, 3) := by decide +kernel
theorem dX6_remembers_58 : decode cX6_remembers 58 = .ok (.imul, 1) := by decide +kernel
theorem dX6_remembers_59 : decode cX6_remembers 59 = .ok (.aload_n 0, 1) := by decide +kernel
theorem dX6_remembers_60 : decode cX6_remembers 60 = .ok (.getfield 16, 3) := by decide +kernel
theorem dX6_remembers_63 : decode cX6_remembers 63 = .ok (.iconst 0, 1) := by decide +kernel
theorem dX6_remembers_64 : decode cX6_remembers 64 = .ok (.bipush 18, 2) := by decide +kernel
theorem dX6_remembers_66 : decode cX6_remembers 66 = .ok (.invokestatic 123, 3) := by decide +kernel
theorem dX6_remembers_69 : decode cX6_remembers 69 = .ok (.aload_n 0, 1) := by decide +kernel
theorem dX6_remembers_70 : decode cX6_remembers 70 = .ok (.dup, 1) := by decide +kernel
theorem dX6_remembers_71 : decode cX6_remembers 71 = .ok (.getfield 130, 3) := by decide +kernel
theorem dX6_remembers_74 : decode cX6_remembers 74 = .ok (.iconst 1, 1) := by decide +kernel
theorem dX6_remembers_75 : decode cX6_remembers 75 = .ok (.iadd, 1) := by decide +kernel
theorem dX6_remembers_76 : decode cX6_remembers 76 = .ok (.putfield 130, 3) := by decide +kernel
theorem dX6_remembers_79 : decode cX6_remembers 79 = .ok (.return_, 1) := by decide +kernel
set_option maxRecDepth 20000 in
theorem ggX6_speak_X6_isPiece : GoodIn wsX6_speak wsX6_isPiece := goodIn_r _ [6, 7, 8, 9, 5, 10, 63, 64, 65, 66, 67, 68, 69, 70, 71, 72, 73, 74, 75, 76, 77, 78, 79, 80, 81, 82, 83, 84, 85, 86] (by decide +kernel) (by decide +kernel)
set_option maxRecDepth 20000 in
theorem gX6_speak_X6_isPiece : GoodIn wsX6_speak (wsV RX6 165 RX6 yX6_isPiece wsX6_isPiece) := goodIn_app (goodIn_of _ (by decide +kernel)) ggX6_speak_X6_isPiece
set_option maxRecDepth 20000 in
theorem ggX6_speak_X6_asItIs : GoodIn wsX6_speak wsX6_asItIs := goodIn_r _ [14, 15, 1, 16, 17, 5, 18, 63, 64, 65, 66, 67, 68, 69, 70, 71, 72, 73, 74, 75, 76, 77, 78, 79, 80, 81, 82, 83, 84, 85, 86] (by decide +kernel) (by decide +kernel)
set_option maxRecDepth 20000 in
theorem gX6_speak_X6_asItIs : GoodIn wsX6_speak (wsV RX6 168 RX6 yX6_asItIs wsX6_asItIs) := goodIn_app (goodIn_of _ (by decide +kernel)) ggX6_speak_X6_asItIs
set_option maxRecDepth 20000 in
theorem ggX6_speak_X6_isLoose : GoodIn wsX6_speak wsX6_isLoose := goodIn_r _ [22, 15, 23, 24, 25, 26, 5, 27, 63, 64, 65, 66, 67, 68, 69, 70, 71, 72, 73, 74, 75, 76, 77, 78, 79, 80, 81, 82, 83, 84, 85, 86] (by decide +kernel) (by decide +kernel)
set_option maxRecDepth 20000 in
theorem gX6_speak_X6_isLoose : GoodIn wsX6_speak (wsV RX6 159 RX6 yX6_isLoose wsX6_isLoose) := goodIn_app (goodIn_of _ (by decide +kernel)) ggX6_speak_X6_isLoose
set_option maxRecDepth 20000 in
theorem ggX6_speak_X6_remembers : GoodIn wsX6_speak wsX6_remembers := goodIn_r _ [31, 32, 33, 1, 16, 17, 5, 18, 63, 64, 65, 66, 67, 68, 69, 70, 71, 72, 73, 74, 75, 76, 77, 78, 79, 80, 81, 82, 83, 84, 85, 86] (by decide +kernel) (by decide +kernel)
set_option maxRecDepth 20000 in
theorem gX6_speak_X6_remembers : GoodIn wsX6_speak (wsV RX6 177 RX6 yX6_remembers wsX6_remembers) := goodIn_app (goodIn_of _ (by decide +kernel)) ggX6_speak_X6_remembers
set_option maxRecDepth 20000 in
theorem ggX6_speak_X6_toldBy : GoodIn wsX6_speak wsX6_toldBy := goodIn_r _ [37, 38, 39, 40, 41, 5, 42, 15, 24, 43, 44, 45, 46, 47, 48, 49, 50, 51, 52, 53, 54, 55, 56, 57, 58, 59, 63, 64, 65, 66, 67, 68, 69, 70, 71, 72, 73, 74, 75, 76, 77, 78, 79, 80, 81, 82, 83, 84, 85, 86] (by decide +kernel) (by decide +kernel)
set_option maxRecDepth 20000 in
theorem gX6_speak_X6_toldBy : GoodIn wsX6_speak (wsV RX6 162 RX6 yX6_toldBy wsX6_toldBy) := goodIn_app (goodIn_of _ (by decide +kernel)) ggX6_speak_X6_toldBy
set_option maxRecDepth 20000 in
theorem ggX6_speak_X6_bits : GoodIn wsX6_speak wsX6_bits := goodIn_r _ [62] (by decide +kernel) (by decide +kernel)
set_option maxRecDepth 20000 in
theorem gX6_speak_X6_bits : GoodIn wsX6_speak (va_wsS RX6 180 yX6_bits wsX6_bits) := goodIn_app (goodIn_of _ (by decide +kernel)) ggX6_speak_X6_bits
theorem dX6_speak_0 : decode cX6_speak 0 = .ok (.aload_n 0, 1) := by decide +kernel
theorem dX6_speak_1 : decode cX6_speak 1 = .ok (.iload_n 1, 1) := by decide +kernel
theorem dX6_speak_2 : decode cX6_speak 2 = .ok (.invokevirtual 165, 3) := by decide +kernel
theorem dX6_speak_5 : decode cX6_speak 5 = .ok (.ifCond .ne 5, 3) := by decide +kernel
theorem dX6_speak_8 : decode cX6_speak 8 = .ok (.iconst (-1), 1) := by decide +kernel
theorem dX6_speak_9 : decode cX6_speak 9 = .ok (.ireturn, 1) := by decide +kernel
theorem dX6_speak_10 : decode cX6_speak 10 = .ok (.aload_n 0, 1) := by decide +kernel
theorem dX6_speak_11 : decode cX6_speak 11 = .ok (.invokevirtual 168, 3) := by decide +kernel
theorem dX6_speak_14 : decode cX6_speak 14 = .ok (.aload_n 0, 1) := by decide +kernel
theorem dX6_speak_15 : decode cX6_speak 15 = .ok (.iload_n 1, 1) := by decide +kernel
theorem dX6_speak_16 : decode cX6_speak 16 = .ok (.invokevirtual 159, 3) := by decide +kernel
theorem dX6_speak_19 : decode cX6_speak 19 = .ok (.ifCond .ne 6, 3) := by decide +kernel
theorem dX6_speak_22 : decode cX6_speak 22 = .ok (.bipush (-2), 2) := by decide +kernel
theorem dX6_speak_24 : decode cX6_speak 24 = .ok (.ireturn, 1) := by decide +kernel
theorem dX6_speak_25 : decode cX6_speak 25 = .ok (.aload_n 0, 1) := by decide +kernel
theorem dX6_speak_26 : decode cX6_speak 26 = .ok (.invokevirtual 177, 3) := by decide +kernel
theorem dX6_speak_29 : decode cX6_speak 29 = .ok (.aload_n 0, 1) := by decide +kernel
theorem dX6_speak_30 : decode cX6_speak 30 = .ok (.iload_n 1, 1) := by decide +kernel
theorem dX6_speak_31 : decode cX6_speak 31 = .ok (.invokevirtual 162, 3) := by decide +kernel
theorem dX6_speak_34 : decode cX6_speak 34 = .ok (.aload_n 0, 1) := by decide +kernel
theorem dX6_speak_35 : decode cX6_speak 35 = .ok (.getfield 16, 3) := by decide +kernel
theorem dX6_speak_38 : decode cX6_speak 38 = .ok (.iconst 1, 1) := by decide +kernel
theorem dX6_speak_39 : decode cX6_speak 39 = .ok (.iaload, 1) := by decide +kernel
theorem dX6_speak_40 : decode cX6_speak 40 = .ok (.iconst (-1), 1) := by decide +kernel
theorem dX6_speak_41 : decode cX6_speak 41 = .ok (.ixor, 1) := by decide +kernel
theorem dX6_speak_42 : decode cX6_speak 42 = .ok (.iand, 1) := by decide +kernel
theorem dX6_speak_43 : decode cX6_speak 43 = .ok (.istore_n 2, 1) := by decide +kernel
theorem dX6_speak_44 : decode cX6_speak 44 = .ok (.aload_n 0, 1) := by decide +kernel
theorem dX6_speak_45 : decode cX6_speak 45 = .ok (.getfield 16, 3) := by decide +kernel
theorem dX6_speak_48 : decode cX6_speak 48 = .ok (.iconst 1, 1) := by decide +kernel
theorem dX6_speak_49 : decode cX6_speak 49 = .ok (.dup2, 1) := by decide +kernel
theorem dX6_speak_50 : decode cX6_speak 50 = .ok (.iaload, 1) := by decide +kernel
theorem dX6_speak_51 : decode cX6_speak 51 = .ok (.iload_n 2, 1) := by decide +kernel
theorem dX6_speak_52 : decode cX6_speak 52 = .ok (.ior, 1) := by decide +kernel
theorem dX6_speak_53 : decode cX6_speak 53 = .ok (.iastore, 1) := by decide +kernel
theorem dX6_speak_54 : decode cX6_speak 54 = .ok (.aload_n 0, 1) := by decide +kernel
theorem dX6_speak_55 : decode cX6_speak 55 = .ok (.getfield 16, 3) := by decide +kernel
theorem dX6_speak_58 : decode cX6_speak 58 = .ok (.bipush 10, 2) := by decide +kernel
theorem dX6_speak_60 : decode cX6_speak 60 = .ok (.iload_n 1, 1) := by decide +kernel
theorem dX6_speak_61 : decode cX6_speak 61 = .ok (.iadd, 1) := by decide +kernel
theorem dX6_speak_62 : decode cX6_speak 62 = .ok (.iconst 2, 1) := by decide +kernel
theorem dX6_speak_63 : decode cX6_speak 63 = .ok (.iastore, 1) := by decide +kernel
theorem dX6_speak_64 : decode cX6_speak 64 = .ok (.iload_n 2, 1) := by decide +kernel
theorem dX6_speak_65 : decode cX6_speak 65 = .ok (.invokestatic 180, 3) := by decide +kernel
theorem dX6_speak_68 : decode cX6_speak 68 = .ok (.ireturn, 1) := by decide +kernel
set_option maxRecDepth 20000 in
theorem ggX6_buy_X6_isPiece : GoodIn wsX6_buy wsX6_isPiece := goodIn_r _ [7, 8, 9, 10, 6, 11, 21, 22, 23, 24, 25, 26, 27, 28, 29, 30, 31, 32, 33, 34, 35, 36, 37, 38, 39, 40, 41, 42, 43, 44] (by decide +kernel) (by decide +kernel)
set_option maxRecDepth 20000 in
theorem gX6_buy_X6_isPiece : GoodIn wsX6_buy (wsV RX6 165 RX6 yX6_isPiece wsX6_isPiece) := goodIn_app (goodIn_of _ (by decide +kernel)) ggX6_buy_X6_isPiece
set_option maxRecDepth 20000 in
theorem ggX6_buy_X6_remembers : GoodIn wsX6_buy wsX6_remembers := goodIn_r _ [15, 16, 17, 1, 18, 19, 6, 20, 21, 22, 23, 24, 25, 26, 27, 28, 29, 30, 31, 32, 33, 34, 35, 36, 37, 38, 39, 40, 41, 42, 43, 44] (by decide +kernel) (by decide +kernel)
set_option maxRecDepth 20000 in
theorem gX6_buy_X6_remembers : GoodIn wsX6_buy (wsV RX6 177 RX6 yX6_remembers wsX6_remembers) := goodIn_app (goodIn_of _ (by decide +kernel)) ggX6_buy_X6_remembers
theorem dX6_buy_0 : decode cX6_buy 0 = .ok (.aload_n 0, 1) := by decide +kernel
theorem dX6_buy_1 : decode cX6_buy 1 = .ok (.iload_n 1, 1) := by decide +kernel
theorem dX6_buy_2 : decode cX6_buy 2 = .ok (.invokevirtual 165, 3) := by decide +kernel
theorem dX6_buy_5 : decode cX6_buy 5 = .ok (.ifCond .ne 5, 3) := by decide +kernel
theorem dX6_buy_8 : decode cX6_buy 8 = .ok (.iconst (-1), 1) := by decide +kernel
theorem dX6_buy_9 : decode cX6_buy 9 = .ok (.ireturn, 1) := by decide +kernel
theorem dX6_buy_10 : decode cX6_buy 10 = .ok (.aload_n 0, 1) := by decide +kernel
theorem dX6_buy_11 : decode cX6_buy 11 = .ok (.getfield 16, 3) := by decide +kernel
theorem dX6_buy_14 : decode cX6_buy 14 = .ok (.bipush 10, 2) := by decide +kernel
theorem dX6_buy_16 : decode cX6_buy 16 = .ok (.iload_n 1, 1) := by decide +kernel
theorem dX6_buy_17 : decode cX6_buy 17 = .ok (.iadd, 1) := by decide +kernel
theorem dX6_buy_18 : decode cX6_buy 18 = .ok (.iaload, 1) := by decide +kernel
theorem dX6_buy_19 : decode cX6_buy 19 = .ok (.ifCond .ne 22, 3) := by decide +kernel
theorem dX6_buy_22 : decode cX6_buy 22 = .ok (.aload_n 0, 1) := by decide +kernel
theorem dX6_buy_23 : decode cX6_buy 23 = .ok (.getfield 16, 3) := by decide +kernel
theorem dX6_buy_26 : decode cX6_buy 26 = .ok (.iconst 0, 1) := by decide +kernel
theorem dX6_buy_27 : decode cX6_buy 27 = .ok (.iaload, 1) := by decide +kernel
theorem dX6_buy_28 : decode cX6_buy 28 = .ok (.aload_n 0, 1) := by decide +kernel
theorem dX6_buy_29 : decode cX6_buy 29 = .ok (.getfield 7, 3) := by decide +kernel
theorem dX6_buy_32 : decode cX6_buy 32 = .ok (.iconst 2, 1) := by decide +kernel
theorem dX6_buy_33 : decode cX6_buy 33 = .ok (.iload_n 1, 1) := by decide +kernel
theorem dX6_buy_34 : decode cX6_buy 34 = .ok (.imul, 1) := by decide +kernel
theorem dX6_buy_35 : decode cX6_buy 35 = .ok (.iconst 1, 1) := by decide +kernel
theorem dX6_buy_36 : decode cX6_buy 36 = .ok (.iadd, 1) := by decide +kernel
theorem dX6_buy_37 : decode cX6_buy 37 = .ok (.iaload, 1) := by decide +kernel
theorem dX6_buy_38 : decode cX6_buy 38 = .ok (.if_icmp .ge 6, 3) := by decide +kernel
theorem dX6_buy_41 : decode cX6_buy 41 = .ok (.bipush (-2), 2) := by decide +kernel
theorem dX6_buy_43 : decode cX6_buy 43 = .ok (.ireturn, 1) := by decide +kernel
theorem dX6_buy_44 : decode cX6_buy 44 = .ok (.aload_n 0, 1) := by decide +kernel
theorem dX6_buy_45 : decode cX6_buy 45 = .ok (.invokevirtual 177, 3) := by decide +kernel
theorem dX6_buy_48 : decode cX6_buy 48 = .ok (.aload_n 0, 1) := by decide +kernel
theorem dX6_buy_49 : decode cX6_buy 49 = .ok (.getfield 16, 3) := by decide +kernel
theorem dX6_buy_52 : decode cX6_buy 52 = .ok (.bipush 10, 2) := by decide +kernel
theorem dX6_buy_54 : decode cX6_buy 54 = .ok (.iload_n 1, 1) := by decide +kernel
theorem dX6_buy_55 : decode cX6_buy 55 = .ok (.iadd, 1) := by decide +kernel
theorem dX6_buy_56 : decode cX6_buy 56 = .ok (.iconst 1, 1) := by decide +kernel
theorem dX6_buy_57 : decode cX6_buy 57 = .ok (.iastore, 1) := by decide +kernel
theorem dX6_buy_58 : decode cX6_buy 58 = .ok (.aload_n 0, 1) := by decide +kernel
theorem dX6_buy_59 : decode cX6_buy 59 = .ok (.getfield 16, 3) := by decide +kernel
theorem dX6_buy_62 : decode cX6_buy 62 = .ok (.iconst 0, 1) := by decide +kernel
theorem dX6_buy_63 : decode cX6_buy 63 = .ok (.dup2, 1) := by decide +kernel
theorem dX6_buy_64 : decode cX6_buy 64 = .ok (.iaload, 1) := by decide +kernel
theorem dX6_buy_65 : decode cX6_buy 65 = .ok (.aload_n 0, 1) := by decide +kernel
theorem dX6_buy_66 : decode cX6_buy 66 = .ok (.getfield 7, 3) := by decide +kernel
theorem dX6_buy_69 : decode cX6_buy 69 = .ok (.iconst 2, 1) := by decide +kernel
theorem dX6_buy_70 : decode cX6_buy 70 = .ok (.iload_n 1, 1) := by decide +kernel
theorem dX6_buy_71 : decode cX6_buy 71 = .ok (.imul, 1) := by decide +kernel
theorem dX6_buy_72 : decode cX6_buy 72 = .ok (.iconst 1, 1) := by decide +kernel
theorem dX6_buy_73 : decode cX6_buy 73 = .ok (.iadd, 1) := by decide +kernel
theorem dX6_buy_74 : decode cX6_buy 74 = .ok (.iaload, 1) := by decide +kernel
theorem dX6_buy_75 : decode cX6_buy 75 = .ok (.isub, 1) := by decide +kernel
theorem dX6_buy_76 : decode cX6_buy 76 = .ok (.iastore, 1) := by decide +kernel
theorem dX6_buy_77 : decode cX6_buy 77 = .ok (.aload_n 0, 1) := by decide +kernel
theorem dX6_buy_78 : decode cX6_buy 78 = .ok (.getfield 16, 3) := by decide +kernel
theorem dX6_buy_81 : decode cX6_buy 81 = .ok (.iconst 0, 1) := by decide +kernel
theorem dX6_buy_82 : decode cX6_buy 82 = .ok (.iaload, 1) := by decide +kernel
theorem dX6_buy_83 : decode cX6_buy 83 = .ok (.ireturn, 1) := by decide +kernel
set_option maxRecDepth 20000 in
theorem ggX6_carry_X6_isPiece : GoodIn wsX6_carry wsX6_isPiece := goodIn_r _ [6, 7, 8, 9, 5, 10, 20, 21, 22, 23, 24, 25, 26, 27, 28, 29, 30, 31, 32, 33, 34, 35, 36, 37, 38, 39, 40, 41, 42, 43] (by decide +kernel) (by decide +kernel)
set_option maxRecDepth 20000 in
theorem gX6_carry_X6_isPiece : GoodIn wsX6_carry (wsV RX6 165 RX6 yX6_isPiece wsX6_isPiece) := goodIn_app (goodIn_of _ (by decide +kernel)) ggX6_carry_X6_isPiece
set_option maxRecDepth 20000 in
theorem ggX6_carry_X6_in : GoodIn wsX6_carry wsX6_in := goodIn_r _ [10] (by decide +kernel) (by decide +kernel)
set_option maxRecDepth 20000 in
theorem gX6_carry_X6_in : GoodIn wsX6_carry (va_wsS RX6 76 yX6_in wsX6_in) := goodIn_app (goodIn_of _ (by decide +kernel)) ggX6_carry_X6_in
set_option maxRecDepth 20000 in
theorem ggX6_carry_X6_remembers : GoodIn wsX6_carry wsX6_remembers := goodIn_r _ [14, 15, 16, 1, 17, 18, 5, 19, 20, 21, 22, 23, 24, 25, 26, 27, 28, 29, 30, 31, 32, 33, 34, 35, 36, 37, 38, 39, 40, 41, 42, 43] (by decide +kernel) (by decide +kernel)
set_option maxRecDepth 20000 in
theorem gX6_carry_X6_remembers : GoodIn wsX6_carry (wsV RX6 177 RX6 yX6_remembers wsX6_remembers) := goodIn_app (goodIn_of _ (by decide +kernel)) ggX6_carry_X6_remembers
theorem dX6_carry_0 : decode cX6_carry 0 = .ok (.aload_n 0, 1) := by decide +kernel
theorem dX6_carry_1 : decode cX6_carry 1 = .ok (.iload_n 1, 1) := by decide +kernel
theorem dX6_carry_2 : decode cX6_carry 2 = .ok (.invokevirtual 165, 3) := by decide +kernel
theorem dX6_carry_5 : decode cX6_carry 5 = .ok (.ifCond .eq 12, 3) := by decide +kernel
theorem dX6_carry_8 : decode cX6_carry 8 = .ok (.iload_n 2, 1) := by decide +kernel
theorem dX6_carry_9 : decode cX6_carry 9 = .ok (.iconst 0, 1) := by decide +kernel
theorem dX6_carry_10 : decode cX6_carry 10 = .ok (.iconst 3, 1) := by decide +kernel
theorem dX6_carry_11 : decode cX6_carry 11 = .ok (.invokestatic 76, 3) := by decide +kernel
theorem dX6_carry_14 : decode cX6_carry 14 = .ok (.ifCond .ne 5, 3) := by decide +kernel
theorem dX6_carry_17 : decode cX6_carry 17 = .ok (.iconst (-1), 1) := by decide +kernel
theorem dX6_carry_18 : decode cX6_carry 18 = .ok (.ireturn, 1) := by decide +kernel
theorem dX6_carry_19 : decode cX6_carry 19 = .ok (.aload_n 0, 1) := by decide +kernel
theorem dX6_carry_20 : decode cX6_carry 20 = .ok (.getfield 16, 3) := by decide +kernel
theorem dX6_carry_23 : decode cX6_carry 23 = .ok (.iconst 2, 1) := by decide +kernel
theorem dX6_carry_24 : decode cX6_carry 24 = .ok (.iload_n 1, 1) := by decide +kernel
theorem dX6_carry_25 : decode cX6_carry 25 = .ok (.iadd, 1) := by decide +kernel
theorem dX6_carry_26 : decode cX6_carry 26 = .ok (.iaload, 1) := by decide +kernel
theorem dX6_carry_27 : decode cX6_carry 27 = .ok (.istore_n 3, 1) := by decide +kernel
theorem dX6_carry_28 : decode cX6_carry 28 = .ok (.aload_n 0, 1) := by decide +kernel
theorem dX6_carry_29 : decode cX6_carry 29 = .ok (.getfield 16, 3) := by decide +kernel
theorem dX6_carry_32 : decode cX6_carry 32 = .ok (.bipush 10, 2) := by decide +kernel
theorem dX6_carry_34 : decode cX6_carry 34 = .ok (.iload_n 1, 1) := by decide +kernel
theorem dX6_carry_35 : decode cX6_carry 35 = .ok (.iadd, 1) := by decide +kernel
theorem dX6_carry_36 : decode cX6_carry 36 = .ok (.iaload, 1) := by decide +kernel
theorem dX6_carry_37 : decode cX6_carry 37 = .ok (.iconst 2, 1) := by decide +kernel
theorem dX6_carry_38 : decode cX6_carry 38 = .ok (.if_icmp .eq 8, 3) := by decide +kernel
theorem dX6_carry_41 : decode cX6_carry 41 = .ok (.iload_n 3, 1) := by decide +kernel
theorem dX6_carry_42 : decode cX6_carry 42 = .ok (.iload_n 2, 1) := by decide +kernel
theorem dX6_carry_43 : decode cX6_carry 43 = .ok (.if_icmp .ne 6, 3) := by decide +kernel
theorem dX6_carry_46 : decode cX6_carry 46 = .ok (.bipush (-2), 2) := by decide +kernel
theorem dX6_carry_48 : decode cX6_carry 48 = .ok (.ireturn, 1) := by decide +kernel
theorem dX6_carry_49 : decode cX6_carry 49 = .ok (.aload_n 0, 1) := by decide +kernel
theorem dX6_carry_50 : decode cX6_carry 50 = .ok (.invokevirtual 177, 3) := by decide +kernel
theorem dX6_carry_53 : decode cX6_carry 53 = .ok (.aload_n 0, 1) := by decide +kernel
theorem dX6_carry_54 : decode cX6_carry 54 = .ok (.getfield 16, 3) := by decide +kernel
theorem dX6_carry_57 : decode cX6_carry 57 = .ok (.iconst 2, 1) := by decide +kernel
theorem dX6_carry_58 : decode cX6_carry 58 = .ok (.iload_n 1, 1) := by decide +kernel
theorem dX6_carry_59 : decode cX6_carry 59 = .ok (.iadd, 1) := by decide +kernel
theorem dX6_carry_60 : decode cX6_carry 60 = .ok (.iload_n 2, 1) := by decide +kernel
theorem dX6_carry_61 : decode cX6_carry 61 = .ok (.iastore, 1) := by decide +kernel
theorem dX6_carry_62 : decode cX6_carry 62 = .ok (.iload_n 3, 1) := by decide +kernel
theorem dX6_carry_63 : decode cX6_carry 63 = .ok (.ireturn, 1) := by decide +kernel
set_option maxRecDepth 20000 in
theorem ggX6_undo_X6_copies : GoodIn wsX6_undo wsX6_copies := goodIn_r _ [7] (by decide +kernel) (by decide +kernel)
set_option maxRecDepth 20000 in
theorem gX6_undo_X6_copies : GoodIn wsX6_undo (va_wsS RX6 123 yX6_copies wsX6_copies) := goodIn_app (goodIn_of _ (by decide +kernel)) ggX6_undo_X6_copies
theorem dX6_undo_0 : decode cX6_undo 0 = .ok (.aload_n 0, 1) := by decide +kernel
theorem dX6_undo_1 : decode cX6_undo 1 = .ok (.getfield 130, 3) := by decide +kernel
theorem dX6_undo_4 : decode cX6_undo 4 = .ok (.ifCond .ne 6, 3) := by decide +kernel
theorem dX6_undo_7 : decode cX6_undo 7 = .ok (.bipush (-2), 2) := by decide +kernel
theorem dX6_undo_9 : decode cX6_undo 9 = .ok (.ireturn, 1) := by decide +kernel
theorem dX6_undo_10 : decode cX6_undo 10 = .ok (.aload_n 0, 1) := by decide +kernel
theorem dX6_undo_11 : decode cX6_undo 11 = .ok (.dup, 1) := by decide +kernel
theorem dX6_undo_12 : decode cX6_undo 12 = .ok (.getfield 130, 3) := by decide +kernel
theorem dX6_undo_15 : decode cX6_undo 15 = .ok (.iconst 1, 1) := by decide +kernel
theorem dX6_undo_16 : decode cX6_undo 16 = .ok (.isub, 1) := by decide +kernel
theorem dX6_undo_17 : decode cX6_undo 17 = .ok (.putfield 130, 3) := by decide +kernel
theorem dX6_undo_20 : decode cX6_undo 20 = .ok (.aload_n 0, 1) := by decide +kernel
theorem dX6_undo_21 : decode cX6_undo 21 = .ok (.getfield 16, 3) := by decide +kernel
theorem dX6_undo_24 : decode cX6_undo 24 = .ok (.iconst 0, 1) := by decide +kernel
theorem dX6_undo_25 : decode cX6_undo 25 = .ok (.aload_n 0, 1) := by decide +kernel
theorem dX6_undo_26 : decode cX6_undo 26 = .ok (.getfield 19, 3) := by decide +kernel
theorem dX6_undo_29 : decode cX6_undo 29 = .ok (.bipush 18, 2) := by decide +kernel
theorem dX6_undo_31 : decode cX6_undo 31 = .ok (.aload_n 0, 1) := by decide +kernel
theorem dX6_undo_32 : decode cX6_undo 32 = .ok (.getfield 130, 3) := by decide +kernel
theorem dX6_undo_35 : decode cX6_undo 35 = .ok (.imul, 1) := by decide +kernel
theorem dX6_undo_36 : decode cX6_undo 36 = .ok (.bipush 18, 2) := by decide +kernel
theorem dX6_undo_38 : decode cX6_undo 38 = .ok (.invokestatic 123, 3) := by decide +kernel
theorem dX6_undo_41 : decode cX6_undo 41 = .ok (.aload_n 0, 1) := by decide +kernel
theorem dX6_undo_42 : decode cX6_undo 42 = .ok (.getfield 130, 3) := by decide +kernel
theorem dX6_undo_45 : decode cX6_undo 45 = .ok (.ireturn, 1) := by decide +kernel
set_option maxRecDepth 20000 in
theorem ggX6_hushes_X6_loose : GoodIn wsX6_hushes wsX6_loose := goodIn_r _ [6, 1, 7, 8, 9, 5, 10, 11, 12, 13, 14, 15, 16, 51, 52, 53, 54, 55, 56, 57, 58, 59, 60, 61, 62, 63, 64, 65, 66, 67, 68, 69, 70, 71, 72, 73, 74] (by decide +kernel) (by decide +kernel)
set_option maxRecDepth 20000 in
theorem gX6_hushes_X6_loose : GoodIn wsX6_hushes (wsV RX6 183 RX6 yX6_loose wsX6_loose) := goodIn_app (goodIn_of _ (by decide +kernel)) ggX6_hushes_X6_loose
set_option maxRecDepth 20000 in
theorem ggX6_hushes_X6_toldByAll : GoodIn wsX6_hushes wsX6_toldByAll := goodIn_r _ [20, 1, 14, 15, 5, 16, 21, 22, 23, 24, 25, 26, 27, 28, 29, 11, 13, 30, 31, 32, 33, 34, 35, 36, 37, 38, 39, 40, 41, 42, 43, 44, 45, 46, 51, 52, 53, 54, 55, 56, 57, 58, 59, 60, 61, 62, 63, 64, 65, 66, 67, 68, 69, 70, 71, 72, 73, 74] (by decide +kernel) (by decide +kernel)
set_option maxRecDepth 20000 in
theorem gX6_hushes_X6_toldByAll : GoodIn wsX6_hushes (wsV RX6 186 RX6 yX6_toldByAll wsX6_toldByAll) := goodIn_app (goodIn_of _ (by decide +kernel)) ggX6_hushes_X6_toldByAll
set_option maxRecDepth 20000 in
theorem ggX6_hushes_X6_priceOf : GoodIn wsX6_hushes wsX6_priceOf := goodIn_r _ [50, 1, 13, 14, 15, 5, 16, 51, 52, 53, 54, 55, 56, 57, 58, 59, 60, 61, 62, 63, 64, 65, 66, 67, 68, 69, 70, 71, 72, 73, 74] (by decide +kernel) (by decide +kernel)
set_option maxRecDepth 20000 in
theorem gX6_hushes_X6_priceOf : GoodIn wsX6_hushes (wsV RX6 189 RX6 yX6_priceOf wsX6_priceOf) := goodIn_app (goodIn_of _ (by decide +kernel)) ggX6_hushes_X6_priceOf
theorem dX6_hushes_0 : decode cX6_hushes 0 = .ok (.iconst 0, 1) := by decide +kernel
theorem dX6_hushes_1 : decode cX6_hushes 1 = .ok (.istore_n 3, 1) := by decide +kernel
theorem dX6_hushes_2 : decode cX6_hushes 2 = .ok (.iconst (-1), 1) := by decide +kernel
theorem dX6_hushes_3 : decode cX6_hushes 3 = .ok (.istore 4, 2) := by decide +kernel
theorem dX6_hushes_5 : decode cX6_hushes 5 = .ok (.aload_n 0, 1) := by decide +kernel
theorem dX6_hushes_6 : decode cX6_hushes 6 = .ok (.invokevirtual 183, 3) := by decide +kernel
theorem dX6_hushes_9 : decode cX6_hushes 9 = .ok (.istore 5, 2) := by decide +kernel
theorem dX6_hushes_11 : decode cX6_hushes 11 = .ok (.iconst 0, 1) := by decide +kernel
theorem dX6_hushes_12 : decode cX6_hushes 12 = .ok (.istore 6, 2) := by decide +kernel
theorem dX6_hushes_14 : decode cX6_hushes 14 = .ok (.iload 6, 2) := by decide +kernel
theorem dX6_hushes_16 : decode cX6_hushes 16 = .ok (.iconst 1, 1) := by decide +kernel
theorem dX6_hushes_17 : decode cX6_hushes 17 = .ok (.aload_n 0, 1) := by decide +kernel
theorem dX6_hushes_18 : decode cX6_hushes 18 = .ok (.getfield 73, 3) := by decide +kernel
theorem dX6_hushes_21 : decode cX6_hushes 21 = .ok (.ishl, 1) := by decide +kernel
theorem dX6_hushes_22 : decode cX6_hushes 22 = .ok (.if_icmp .ge 100, 3) := by decide +kernel
theorem dX6_hushes_25 : decode cX6_hushes 25 = .ok (.iload 6, 2) := by decide +kernel
theorem dX6_hushes_27 : decode cX6_hushes 27 = .ok (.iload 5, 2) := by decide +kernel
theorem dX6_hushes_29 : decode cX6_hushes 29 = .ok (.iconst (-1), 1) := by decide +kernel
theorem dX6_hushes_30 : decode cX6_hushes 30 = .ok (.ixor, 1) := by decide +kernel
theorem dX6_hushes_31 : decode cX6_hushes 31 = .ok (.iand, 1) := by decide +kernel
theorem dX6_hushes_32 : decode cX6_hushes 32 = .ok (.ifCond .ne 23, 3) := by decide +kernel
theorem dX6_hushes_35 : decode cX6_hushes 35 = .ok (.aload_n 0, 1) := by decide +kernel
theorem dX6_hushes_36 : decode cX6_hushes 36 = .ok (.iload 5, 2) := by decide +kernel
theorem dX6_hushes_38 : decode cX6_hushes 38 = .ok (.iload 6, 2) := by decide +kernel
theorem dX6_hushes_40 : decode cX6_hushes 40 = .ok (.iconst (-1), 1) := by decide +kernel
theorem dX6_hushes_41 : decode cX6_hushes 41 = .ok (.ixor, 1) := by decide +kernel
theorem dX6_hushes_42 : decode cX6_hushes 42 = .ok (.iand, 1) := by decide +kernel
theorem dX6_hushes_43 : decode cX6_hushes 43 = .ok (.invokevirtual 186, 3) := by decide +kernel
theorem dX6_hushes_46 : decode cX6_hushes 46 = .ok (.iload_n 1, 1) := by decide +kernel
theorem dX6_hushes_47 : decode cX6_hushes 47 = .ok (.iand, 1) := by decide +kernel
theorem dX6_hushes_48 : decode cX6_hushes 48 = .ok (.ifCond .ne 7, 3) := by decide +kernel
theorem dX6_hushes_51 : decode cX6_hushes 51 = .ok (.iconst 1, 1) := by decide +kernel
theorem dX6_hushes_52 : decode cX6_hushes 52 = .ok (.goto 4, 3) := by decide +kernel
theorem dX6_hushes_55 : decode cX6_hushes 55 = .ok (.iconst 0, 1) := by decide +kernel
theorem dX6_hushes_56 : decode cX6_hushes 56 = .ok (.istore 7, 2) := by decide +kernel
theorem dX6_hushes_58 : decode cX6_hushes 58 = .ok (.iload 7, 2) := by decide +kernel
theorem dX6_hushes_60 : decode cX6_hushes 60 = .ok (.ifCond .eq 23, 3) := by decide +kernel
theorem dX6_hushes_63 : decode cX6_hushes 63 = .ok (.iload 4, 2) := by decide +kernel
theorem dX6_hushes_65 : decode cX6_hushes 65 = .ok (.ifCond .lt 14, 3) := by decide +kernel
theorem dX6_hushes_68 : decode cX6_hushes 68 = .ok (.aload_n 0, 1) := by decide +kernel
theorem dX6_hushes_69 : decode cX6_hushes 69 = .ok (.iload 6, 2) := by decide +kernel
theorem dX6_hushes_71 : decode cX6_hushes 71 = .ok (.invokevirtual 189, 3) := by decide +kernel
theorem dX6_hushes_74 : decode cX6_hushes 74 = .ok (.iload 4, 2) := by decide +kernel
theorem dX6_hushes_76 : decode cX6_hushes 76 = .ok (.if_icmp .ge 7, 3) := by decide +kernel
theorem dX6_hushes_79 : decode cX6_hushes 79 = .ok (.iconst 1, 1) := by decide +kernel
theorem dX6_hushes_80 : decode cX6_hushes 80 = .ok (.goto 4, 3) := by decide +kernel
theorem dX6_hushes_83 : decode cX6_hushes 83 = .ok (.iconst 0, 1) := by decide +kernel
theorem dX6_hushes_84 : decode cX6_hushes 84 = .ok (.istore 8, 2) := by decide +kernel
theorem dX6_hushes_86 : decode cX6_hushes 86 = .ok (.iload 8, 2) := by decide +kernel
theorem dX6_hushes_88 : decode cX6_hushes 88 = .ok (.ifCond .eq 8, 3) := by decide +kernel
theorem dX6_hushes_91 : decode cX6_hushes 91 = .ok (.iload 6, 2) := by decide +kernel
theorem dX6_hushes_93 : decode cX6_hushes 93 = .ok (.goto 4, 3) := by decide +kernel
theorem dX6_hushes_96 : decode cX6_hushes 96 = .ok (.iload_n 3, 1) := by decide +kernel
theorem dX6_hushes_97 : decode cX6_hushes 97 = .ok (.istore_n 3, 1) := by decide +kernel
theorem dX6_hushes_98 : decode cX6_hushes 98 = .ok (.iload 8, 2) := by decide +kernel
theorem dX6_hushes_100 : decode cX6_hushes 100 = .ok (.ifCond .eq 12, 3) := by decide +kernel
theorem dX6_hushes_103 : decode cX6_hushes 103 = .ok (.aload_n 0, 1) := by decide +kernel
theorem dX6_hushes_104 : decode cX6_hushes 104 = .ok (.iload 6, 2) := by decide +kernel
theorem dX6_hushes_106 : decode cX6_hushes 106 = .ok (.invokevirtual 189, 3) := by decide +kernel
theorem dX6_hushes_109 : decode cX6_hushes 109 = .ok (.goto 5, 3) := by decide +kernel
theorem dX6_hushes_112 : decode cX6_hushes 112 = .ok (.iload 4, 2) := by decide +kernel
theorem dX6_hushes_114 : decode cX6_hushes 114 = .ok (.istore 4, 2) := by decide +kernel
theorem dX6_hushes_116 : decode cX6_hushes 116 = .ok (.iinc 6 1, 3) := by decide +kernel
theorem dX6_hushes_119 : decode cX6_hushes 119 = .ok (.goto (-105), 3) := by decide +kernel
theorem dX6_hushes_122 : decode cX6_hushes 122 = .ok (.iload_n 2, 1) := by decide +kernel
theorem dX6_hushes_123 : decode cX6_hushes 123 = .ok (.ifCond .ne 8, 3) := by decide +kernel
theorem dX6_hushes_126 : decode cX6_hushes 126 = .ok (.iload 4, 2) := by decide +kernel
theorem dX6_hushes_128 : decode cX6_hushes 128 = .ok (.goto 4, 3) := by decide +kernel
theorem dX6_hushes_131 : decode cX6_hushes 131 = .ok (.iload_n 3, 1) := by decide +kernel
theorem dX6_hushes_132 : decode cX6_hushes 132 = .ok (.ireturn, 1) := by decide +kernel
set_option maxRecDepth 20000 in
theorem ggX6_hush_X6_isDeed : GoodIn wsX6_hush wsX6_isDeed := goodIn_r _ [6, 7, 8, 9, 5, 10, 70, 71, 72, 73, 74, 75, 76, 77, 78, 79, 80, 81, 82, 83, 84, 85, 86, 87, 88, 89, 90, 91, 92, 93] (by decide +kernel) (by decide +kernel)
set_option maxRecDepth 20000 in
theorem gX6_hush_X6_isDeed : GoodIn wsX6_hush (wsV RX6 171 RX6 yX6_isDeed wsX6_isDeed) := goodIn_app (goodIn_of _ (by decide +kernel)) ggX6_hush_X6_isDeed
set_option maxRecDepth 20000 in
theorem ggX6_hush_X6_in : GoodIn wsX6_hush wsX6_in := goodIn_r _ [10] (by decide +kernel) (by decide +kernel)
set_option maxRecDepth 20000 in
theorem gX6_hush_X6_in : GoodIn wsX6_hush (va_wsS RX6 76 yX6_in wsX6_in) := goodIn_app (goodIn_of _ (by decide +kernel)) ggX6_hush_X6_in
set_option maxRecDepth 20000 in
theorem ggX6_hush_X6_asItIs : GoodIn wsX6_hush wsX6_asItIs := goodIn_r _ [14, 15, 1, 16, 17, 5, 18, 70, 71, 72, 73, 74, 75, 76, 77, 78, 79, 80, 81, 82, 83, 84, 85, 86, 87, 88, 89, 90, 91, 92, 93] (by decide +kernel) (by decide +kernel)
set_option maxRecDepth 20000 in
theorem gX6_hush_X6_asItIs : GoodIn wsX6_hush (wsV RX6 168 RX6 yX6_asItIs wsX6_asItIs) := goodIn_app (goodIn_of _ (by decide +kernel)) ggX6_hush_X6_asItIs
set_option maxRecDepth 20000 in
theorem ggX6_hush_X6_has : GoodIn wsX6_hush wsX6_has := goodIn_r _ [21] (by decide +kernel) (by decide +kernel)
set_option maxRecDepth 20000 in
theorem gX6_hush_X6_has : GoodIn wsX6_hush (va_wsS RX6 155 yX6_has wsX6_has) := goodIn_app (goodIn_of _ (by decide +kernel)) ggX6_hush_X6_has
set_option maxRecDepth 20000 in
theorem ggX6_hush_X6_hushes : GoodIn wsX6_hush wsX6_hushes := goodIn_r _ [25, 26, 27, 28, 29, 5, 30, 31, 32, 33, 34, 15, 35, 36, 19, 20, 21, 37, 38, 39, 40, 41, 42, 43, 44, 7, 45, 46, 47, 48, 49, 50, 51, 52, 53, 54, 55, 56, 57, 58, 59, 60, 61, 62, 63, 64, 65, 66, 67, 68, 69, 70, 71, 72, 73, 74, 75, 76, 77, 78, 79, 80, 81, 82, 83, 84, 85, 86, 87, 88, 89, 90, 91, 92, 93] (by decide +kernel) (by decide +kernel)
set_option maxRecDepth 20000 in
theorem gX6_hush_X6_hushes : GoodIn wsX6_hush (wsV RX6 192 RX6 yX6_hushes wsX6_hushes) := goodIn_app (goodIn_of _ (by decide +kernel)) ggX6_hush_X6_hushes
theorem dX6_hush_0 : decode cX6_hush 0 = .ok (.aload_n 0, 1) := by decide +kernel
theorem dX6_hush_1 : decode cX6_hush 1 = .ok (.iload_n 1, 1) := by decide +kernel
theorem dX6_hush_2 : decode cX6_hush 2 = .ok (.invokevirtual 171, 3) := by decide +kernel
theorem dX6_hush_5 : decode cX6_hush 5 = .ok (.ifCond .eq 12, 3) := by decide +kernel
theorem dX6_hush_8 : decode cX6_hush 8 = .ok (.iload_n 2, 1) := by decide +kernel
theorem dX6_hush_9 : decode cX6_hush 9 = .ok (.iconst 0, 1) := by decide +kernel
theorem dX6_hush_10 : decode cX6_hush 10 = .ok (.iconst 1, 1) := by decide +kernel
theorem dX6_hush_11 : decode cX6_hush 11 = .ok (.invokestatic 76, 3) := by decide +kernel
theorem dX6_hush_14 : decode cX6_hush 14 = .ok (.ifCond .ne 5, 3) := by decide +kernel
theorem dX6_hush_17 : decode cX6_hush 17 = .ok (.iconst (-1), 1) := by decide +kernel
theorem dX6_hush_18 : decode cX6_hush 18 = .ok (.ireturn, 1) := by decide +kernel
theorem dX6_hush_19 : decode cX6_hush 19 = .ok (.aload_n 0, 1) := by decide +kernel
theorem dX6_hush_20 : decode cX6_hush 20 = .ok (.invokevirtual 168, 3) := by decide +kernel
theorem dX6_hush_23 : decode cX6_hush 23 = .ok (.aload_n 0, 1) := by decide +kernel
theorem dX6_hush_24 : decode cX6_hush 24 = .ok (.getfield 16, 3) := by decide +kernel
theorem dX6_hush_27 : decode cX6_hush 27 = .ok (.iconst 1, 1) := by decide +kernel
theorem dX6_hush_28 : decode cX6_hush 28 = .ok (.iaload, 1) := by decide +kernel
theorem dX6_hush_29 : decode cX6_hush 29 = .ok (.iload_n 1, 1) := by decide +kernel
theorem dX6_hush_30 : decode cX6_hush 30 = .ok (.invokestatic 155, 3) := by decide +kernel
theorem dX6_hush_33 : decode cX6_hush 33 = .ok (.ifCond .eq 8, 3) := by decide +kernel
theorem dX6_hush_36 : decode cX6_hush 36 = .ok (.bipush (-4), 2) := by decide +kernel
theorem dX6_hush_38 : decode cX6_hush 38 = .ok (.goto 11, 3) := by decide +kernel
theorem dX6_hush_41 : decode cX6_hush 41 = .ok (.aload_n 0, 1) := by decide +kernel
theorem dX6_hush_42 : decode cX6_hush 42 = .ok (.iconst 1, 1) := by decide +kernel
theorem dX6_hush_43 : decode cX6_hush 43 = .ok (.iload_n 1, 1) := by decide +kernel
theorem dX6_hush_44 : decode cX6_hush 44 = .ok (.ishl, 1) := by decide +kernel
theorem dX6_hush_45 : decode cX6_hush 45 = .ok (.iload_n 2, 1) := by decide +kernel
theorem dX6_hush_46 : decode cX6_hush 46 = .ok (.invokevirtual 192, 3) := by decide +kernel
theorem dX6_hush_49 : decode cX6_hush 49 = .ok (.ireturn, 1) := by decide +kernel
set_option maxRecDepth 20000 in
theorem ggX6_hushAll_X6_in : GoodIn wsX6_hushAll wsX6_in := goodIn_r _ [6] (by decide +kernel) (by decide +kernel)
set_option maxRecDepth 20000 in
theorem gX6_hushAll_X6_in : GoodIn wsX6_hushAll (va_wsS RX6 76 yX6_in wsX6_in) := goodIn_app (goodIn_of _ (by decide +kernel)) ggX6_hushAll_X6_in
set_option maxRecDepth 20000 in
theorem ggX6_hushAll_X6_asItIs : GoodIn wsX6_hushAll wsX6_asItIs := goodIn_r _ [10, 11, 2, 12, 13, 5, 14, 66, 67, 68, 69, 70, 71, 72, 73, 74, 75, 76, 77, 78, 79, 80, 81, 82, 83, 84, 85, 86, 87, 88, 89] (by decide +kernel) (by decide +kernel)
set_option maxRecDepth 20000 in
theorem gX6_hushAll_X6_asItIs : GoodIn wsX6_hushAll (wsV RX6 168 RX6 yX6_asItIs wsX6_asItIs) := goodIn_app (goodIn_of _ (by decide +kernel)) ggX6_hushAll_X6_asItIs
set_option maxRecDepth 20000 in
theorem ggX6_hushAll_X6_weighs : GoodIn wsX6_hushAll wsX6_weighs := goodIn_r _ [18, 19, 66, 67, 68, 69, 70, 71, 72, 73, 74, 75, 76, 77, 78, 79, 80, 81, 82, 83, 84, 85, 86, 87, 88, 89] (by decide +kernel) (by decide +kernel)
set_option maxRecDepth 20000 in
theorem gX6_hushAll_X6_weighs : GoodIn wsX6_hushAll (wsV RX6 149 RX6 yX6_weighs wsX6_weighs) := goodIn_app (goodIn_of _ (by decide +kernel)) ggX6_hushAll_X6_weighs
set_option maxRecDepth 20000 in
theorem ggX6_hushAll_X6_has : GoodIn wsX6_hushAll wsX6_has := goodIn_r _ [22] (by decide +kernel) (by decide +kernel)
set_option maxRecDepth 20000 in
theorem gX6_hushAll_X6_has : GoodIn wsX6_hushAll (va_wsS RX6 155 yX6_has wsX6_has) := goodIn_app (goodIn_of _ (by decide +kernel)) ggX6_hushAll_X6_has
set_option maxRecDepth 20000 in
theorem ggX6_hushAll_X6_hushes : GoodIn wsX6_hushAll wsX6_hushes := goodIn_r _ [26, 27, 28, 29, 30, 5, 31, 32, 33, 34, 35, 11, 36, 37, 20, 21, 22, 38, 39, 40, 41, 42, 43, 44, 45, 1, 46, 47, 48, 49, 50, 51, 52, 53, 19, 54, 55, 56, 57, 58, 59, 60, 61, 15, 16, 17, 18, 62, 63, 64, 65, 66, 67, 68, 69, 70, 71, 72, 73, 74, 75, 76, 77, 78, 79, 80, 81, 82, 83, 84, 85, 86, 87, 88, 89] (by decide +kernel) (by decide +kernel)
set_option maxRecDepth 20000 in
theorem gX6_hushAll_X6_hushes : GoodIn wsX6_hushAll (wsV RX6 192 RX6 yX6_hushes wsX6_hushes) := goodIn_app (goodIn_of _ (by decide +kernel)) ggX6_hushAll_X6_hushes
theorem dX6_hushAll_0 : decode cX6_hushAll 0 = .ok (.iload_n 1, 1) := by decide +kernel
theorem dX6_hushAll_1 : decode cX6_hushAll 1 = .ok (.iconst 1, 1) := by decide +kernel
theorem dX6_hushAll_2 : decode cX6_hushAll 2 = .ok (.bipush 30, 2) := by decide +kernel
theorem dX6_hushAll_4 : decode cX6_hushAll 4 = .ok (.invokestatic 76, 3) := by decide +kernel
theorem dX6_hushAll_7 : decode cX6_hushAll 7 = .ok (.ifCond .eq 12, 3) := by decide +kernel
theorem dX6_hushAll_10 : decode cX6_hushAll 10 = .ok (.iload_n 2, 1) := by decide +kernel
theorem dX6_hushAll_11 : decode cX6_hushAll 11 = .ok (.iconst 0, 1) := by decide +kernel
theorem dX6_hushAll_12 : decode cX6_hushAll 12 = .ok (.iconst 1, 1) := by decide +kernel
theorem dX6_hushAll_13 : decode cX6_hushAll 13 = .ok (.invokestatic 76, 3) := by decide +kernel
theorem dX6_hushAll_16 : decode cX6_hushAll 16 = .ok (.ifCond .ne 5, 3) := by decide +kernel
theorem dX6_hushAll_19 : decode cX6_hushAll 19 = .ok (.iconst (-1), 1) := by decide +kernel
theorem dX6_hushAll_20 : decode cX6_hushAll 20 = .ok (.ireturn, 1) := by decide +kernel
theorem dX6_hushAll_21 : decode cX6_hushAll 21 = .ok (.aload_n 0, 1) := by decide +kernel
theorem dX6_hushAll_22 : decode cX6_hushAll 22 = .ok (.invokevirtual 168, 3) := by decide +kernel
theorem dX6_hushAll_25 : decode cX6_hushAll 25 = .ok (.iconst 0, 1) := by decide +kernel
theorem dX6_hushAll_26 : decode cX6_hushAll 26 = .ok (.istore_n 3, 1) := by decide +kernel
theorem dX6_hushAll_27 : decode cX6_hushAll 27 = .ok (.iconst 0, 1) := by decide +kernel
theorem dX6_hushAll_28 : decode cX6_hushAll 28 = .ok (.istore 4, 2) := by decide +kernel
theorem dX6_hushAll_30 : decode cX6_hushAll 30 = .ok (.iload 4, 2) := by decide +kernel
theorem dX6_hushAll_32 : decode cX6_hushAll 32 = .ok (.aload_n 0, 1) := by decide +kernel
theorem dX6_hushAll_33 : decode cX6_hushAll 33 = .ok (.getfield 80, 3) := by decide +kernel
theorem dX6_hushAll_36 : decode cX6_hushAll 36 = .ok (.if_icmp .ge 44, 3) := by decide +kernel
theorem dX6_hushAll_39 : decode cX6_hushAll 39 = .ok (.iload_n 3, 1) := by decide +kernel
theorem dX6_hushAll_40 : decode cX6_hushAll 40 = .ok (.aload_n 0, 1) := by decide +kernel
theorem dX6_hushAll_41 : decode cX6_hushAll 41 = .ok (.iload 4, 2) := by decide +kernel
theorem dX6_hushAll_43 : decode cX6_hushAll 43 = .ok (.invokevirtual 149, 3) := by decide +kernel
theorem dX6_hushAll_46 : decode cX6_hushAll 46 = .ok (.iload_n 1, 1) := by decide +kernel
theorem dX6_hushAll_47 : decode cX6_hushAll 47 = .ok (.if_icmp .lt 24, 3) := by decide +kernel
theorem dX6_hushAll_50 : decode cX6_hushAll 50 = .ok (.aload_n 0, 1) := by decide +kernel
theorem dX6_hushAll_51 : decode cX6_hushAll 51 = .ok (.getfield 16, 3) := by decide +kernel
theorem dX6_hushAll_54 : decode cX6_hushAll 54 = .ok (.iconst 1, 1) := by decide +kernel
theorem dX6_hushAll_55 : decode cX6_hushAll 55 = .ok (.iaload, 1) := by decide +kernel
theorem dX6_hushAll_56 : decode cX6_hushAll 56 = .ok (.iload 4, 2) := by decide +kernel
theorem dX6_hushAll_58 : decode cX6_hushAll 58 = .ok (.invokestatic 155, 3) := by decide +kernel
theorem dX6_hushAll_61 : decode cX6_hushAll 61 = .ok (.ifCond .ne 10, 3) := by decide +kernel
theorem dX6_hushAll_64 : decode cX6_hushAll 64 = .ok (.iconst 1, 1) := by decide +kernel
theorem dX6_hushAll_65 : decode cX6_hushAll 65 = .ok (.iload 4, 2) := by decide +kernel
theorem dX6_hushAll_67 : decode cX6_hushAll 67 = .ok (.ishl, 1) := by decide +kernel
theorem dX6_hushAll_68 : decode cX6_hushAll 68 = .ok (.goto 4, 3) := by decide +kernel
theorem dX6_hushAll_71 : decode cX6_hushAll 71 = .ok (.iconst 0, 1) := by decide +kernel
theorem dX6_hushAll_72 : decode cX6_hushAll 72 = .ok (.ior, 1) := by decide +kernel
theorem dX6_hushAll_73 : decode cX6_hushAll 73 = .ok (.istore_n 3, 1) := by decide +kernel
theorem dX6_hushAll_74 : decode cX6_hushAll 74 = .ok (.iinc 4 1, 3) := by decide +kernel
theorem dX6_hushAll_77 : decode cX6_hushAll 77 = .ok (.goto (-47), 3) := by decide +kernel
theorem dX6_hushAll_80 : decode cX6_hushAll 80 = .ok (.aload_n 0, 1) := by decide +kernel
theorem dX6_hushAll_81 : decode cX6_hushAll 81 = .ok (.iload_n 3, 1) := by decide +kernel
theorem dX6_hushAll_82 : decode cX6_hushAll 82 = .ok (.iload_n 2, 1) := by decide +kernel
theorem dX6_hushAll_83 : decode cX6_hushAll 83 = .ok (.invokevirtual 192, 3) := by decide +kernel
theorem dX6_hushAll_86 : decode cX6_hushAll 86 = .ok (.ireturn, 1) := by decide +kernel
set_option maxRecDepth 20000 in
theorem ggX6_hushOne_X6_in : GoodIn wsX6_hushOne wsX6_in := goodIn_r _ [7] (by decide +kernel) (by decide +kernel)
set_option maxRecDepth 20000 in
theorem gX6_hushOne_X6_in : GoodIn wsX6_hushOne (va_wsS RX6 76 yX6_in wsX6_in) := goodIn_app (goodIn_of _ (by decide +kernel)) ggX6_hushOne_X6_in
set_option maxRecDepth 20000 in
theorem ggX6_hushOne_X6_asItIs : GoodIn wsX6_hushOne wsX6_asItIs := goodIn_r _ [11, 12, 3, 13, 14, 6, 15, 66, 67, 68, 69, 70, 71, 72, 73, 74, 75, 76, 77, 78, 79, 80, 81, 82, 83, 84, 85, 86, 87, 88, 89] (by decide +kernel) (by decide +kernel)
set_option maxRecDepth 20000 in
theorem gX6_hushOne_X6_asItIs : GoodIn wsX6_hushOne (wsV RX6 168 RX6 yX6_asItIs wsX6_asItIs) := goodIn_app (goodIn_of _ (by decide +kernel)) ggX6_hushOne_X6_asItIs
set_option maxRecDepth 20000 in
theorem ggX6_hushOne_X6_has : GoodIn wsX6_hushOne wsX6_has := goodIn_r _ [18] (by decide +kernel) (by decide +kernel)
set_option maxRecDepth 20000 in
theorem gX6_hushOne_X6_has : GoodIn wsX6_hushOne (va_wsS RX6 155 yX6_has wsX6_has) := goodIn_app (goodIn_of _ (by decide +kernel)) ggX6_hushOne_X6_has
set_option maxRecDepth 20000 in
theorem ggX6_hushOne_X6_hushes : GoodIn wsX6_hushOne wsX6_hushes := goodIn_r _ [22, 23, 24, 25, 26, 6, 27, 28, 29, 30, 31, 12, 32, 33, 16, 17, 18, 34, 35, 36, 37, 38, 39, 40, 41, 1, 42, 43, 44, 45, 46, 47, 48, 49, 2, 50, 51, 52, 53, 54, 55, 56, 57, 58, 59, 60, 61, 62, 63, 64, 65, 66, 67, 68, 69, 70, 71, 72, 73, 74, 75, 76, 77, 78, 79, 80, 81, 82, 83, 84, 85, 86, 87, 88, 89] (by decide +kernel) (by decide +kernel)
set_option maxRecDepth 20000 in
theorem gX6_hushOne_X6_hushes : GoodIn wsX6_hushOne (wsV RX6 192 RX6 yX6_hushes wsX6_hushes) := goodIn_app (goodIn_of _ (by decide +kernel)) ggX6_hushOne_X6_hushes
theorem dX6_hushOne_0 : decode cX6_hushOne 0 = .ok (.iload_n 1, 1) := by decide +kernel
theorem dX6_hushOne_1 : decode cX6_hushOne 1 = .ok (.iconst 0, 1) := by decide +kernel
theorem dX6_hushOne_2 : decode cX6_hushOne 2 = .ok (.iconst 5, 1) := by decide +kernel
theorem dX6_hushOne_3 : decode cX6_hushOne 3 = .ok (.invokestatic 76, 3) := by decide +kernel
theorem dX6_hushOne_6 : decode cX6_hushOne 6 = .ok (.ifCond .eq 12, 3) := by decide +kernel
theorem dX6_hushOne_9 : decode cX6_hushOne 9 = .ok (.iload_n 2, 1) := by decide +kernel
theorem dX6_hushOne_10 : decode cX6_hushOne 10 = .ok (.iconst 0, 1) := by decide +kernel
theorem dX6_hushOne_11 : decode cX6_hushOne 11 = .ok (.iconst 1, 1) := by decide +kernel
theorem dX6_hushOne_12 : decode cX6_hushOne 12 = .ok (.invokestatic 76, 3) := by decide +kernel
theorem dX6_hushOne_15 : decode cX6_hushOne 15 = .ok (.ifCond .ne 5, 3) := by decide +kernel
theorem dX6_hushOne_18 : decode cX6_hushOne 18 = .ok (.iconst (-1), 1) := by decide +kernel
theorem dX6_hushOne_19 : decode cX6_hushOne 19 = .ok (.ireturn, 1) := by decide +kernel
theorem dX6_hushOne_20 : decode cX6_hushOne 20 = .ok (.aload_n 0, 1) := by decide +kernel
theorem dX6_hushOne_21 : decode cX6_hushOne 21 = .ok (.invokevirtual 168, 3) := by decide +kernel
theorem dX6_hushOne_24 : decode cX6_hushOne 24 = .ok (.iconst 0, 1) := by decide +kernel
theorem dX6_hushOne_25 : decode cX6_hushOne 25 = .ok (.istore_n 3, 1) := by decide +kernel
theorem dX6_hushOne_26 : decode cX6_hushOne 26 = .ok (.iconst 0, 1) := by decide +kernel
theorem dX6_hushOne_27 : decode cX6_hushOne 27 = .ok (.istore 4, 2) := by decide +kernel
theorem dX6_hushOne_29 : decode cX6_hushOne 29 = .ok (.iload 4, 2) := by decide +kernel
theorem dX6_hushOne_31 : decode cX6_hushOne 31 = .ok (.aload_n 0, 1) := by decide +kernel
theorem dX6_hushOne_32 : decode cX6_hushOne 32 = .ok (.getfield 80, 3) := by decide +kernel
theorem dX6_hushOne_35 : decode cX6_hushOne 35 = .ok (.if_icmp .ge 47, 3) := by decide +kernel
theorem dX6_hushOne_38 : decode cX6_hushOne 38 = .ok (.iload_n 3, 1) := by decide +kernel
theorem dX6_hushOne_39 : decode cX6_hushOne 39 = .ok (.aload_n 0, 1) := by decide +kernel
theorem dX6_hushOne_40 : decode cX6_hushOne 40 = .ok (.getfield 13, 3) := by decide +kernel
theorem dX6_hushOne_43 : decode cX6_hushOne 43 = .ok (.iconst 4, 1) := by decide +kernel
theorem dX6_hushOne_44 : decode cX6_hushOne 44 = .ok (.iload 4, 2) := by decide +kernel
theorem dX6_hushOne_46 : decode cX6_hushOne 46 = .ok (.imul, 1) := by decide +kernel
theorem dX6_hushOne_47 : decode cX6_hushOne 47 = .ok (.iaload, 1) := by decide +kernel
theorem dX6_hushOne_48 : decode cX6_hushOne 48 = .ok (.iload_n 1, 1) := by decide +kernel
theorem dX6_hushOne_49 : decode cX6_hushOne 49 = .ok (.if_icmp .ne 24, 3) := by decide +kernel
theorem dX6_hushOne_52 : decode cX6_hushOne 52 = .ok (.aload_n 0, 1) := by decide +kernel
theorem dX6_hushOne_53 : decode cX6_hushOne 53 = .ok (.getfield 16, 3) := by decide +kernel
theorem dX6_hushOne_56 : decode cX6_hushOne 56 = .ok (.iconst 1, 1) := by decide +kernel
theorem dX6_hushOne_57 : decode cX6_hushOne 57 = .ok (.iaload, 1) := by decide +kernel
theorem dX6_hushOne_58 : decode cX6_hushOne 58 = .ok (.iload 4, 2) := by decide +kernel
theorem dX6_hushOne_60 : decode cX6_hushOne 60 = .ok (.invokestatic 155, 3) := by decide +kernel
theorem dX6_hushOne_63 : decode cX6_hushOne 63 = .ok (.ifCond .ne 10, 3) := by decide +kernel
theorem dX6_hushOne_66 : decode cX6_hushOne 66 = .ok (.iconst 1, 1) := by decide +kernel
theorem dX6_hushOne_67 : decode cX6_hushOne 67 = .ok (.iload 4, 2) := by decide +kernel
theorem dX6_hushOne_69 : decode cX6_hushOne 69 = .ok (.ishl, 1) := by decide +kernel
theorem dX6_hushOne_70 : decode cX6_hushOne 70 = .ok (.goto 4, 3) := by decide +kernel
theorem dX6_hushOne_73 : decode cX6_hushOne 73 = .ok (.iconst 0, 1) := by decide +kernel
theorem dX6_hushOne_74 : decode cX6_hushOne 74 = .ok (.ior, 1) := by decide +kernel
theorem dX6_hushOne_75 : decode cX6_hushOne 75 = .ok (.istore_n 3, 1) := by decide +kernel
theorem dX6_hushOne_76 : decode cX6_hushOne 76 = .ok (.iinc 4 1, 3) := by decide +kernel
theorem dX6_hushOne_79 : decode cX6_hushOne 79 = .ok (.goto (-50), 3) := by decide +kernel
theorem dX6_hushOne_82 : decode cX6_hushOne 82 = .ok (.aload_n 0, 1) := by decide +kernel
theorem dX6_hushOne_83 : decode cX6_hushOne 83 = .ok (.iload_n 3, 1) := by decide +kernel
theorem dX6_hushOne_84 : decode cX6_hushOne 84 = .ok (.iload_n 2, 1) := by decide +kernel
theorem dX6_hushOne_85 : decode cX6_hushOne 85 = .ok (.invokevirtual 192, 3) := by decide +kernel
theorem dX6_hushOne_88 : decode cX6_hushOne 88 = .ok (.ireturn, 1) := by decide +kernel
set_option maxRecDepth 20000 in
theorem ggX6_save_X6_in : GoodIn wsX6_save wsX6_in := goodIn_r _ [6] (by decide +kernel) (by decide +kernel)
set_option maxRecDepth 20000 in
theorem gX6_save_X6_in : GoodIn wsX6_save (va_wsS RX6 76 yX6_in wsX6_in) := goodIn_app (goodIn_of _ (by decide +kernel)) ggX6_save_X6_in
set_option maxRecDepth 20000 in
theorem ggX6_save_X6_asItIs : GoodIn wsX6_save wsX6_asItIs := goodIn_r _ [10, 11, 2, 12, 13, 5, 14, 66, 67, 68, 69, 70, 71, 72, 73, 74, 75, 76, 77, 78, 79, 80, 81, 82, 83, 84, 85, 86, 87, 88, 89] (by decide +kernel) (by decide +kernel)
set_option maxRecDepth 20000 in
theorem gX6_save_X6_asItIs : GoodIn wsX6_save (wsV RX6 168 RX6 yX6_asItIs wsX6_asItIs) := goodIn_app (goodIn_of _ (by decide +kernel)) ggX6_save_X6_asItIs
set_option maxRecDepth 20000 in
theorem ggX6_save_X6_loose : GoodIn wsX6_save wsX6_loose := goodIn_r _ [18, 1, 19, 20, 21, 5, 22, 11, 23, 24, 25, 26, 27, 66, 67, 68, 69, 70, 71, 72, 73, 74, 75, 76, 77, 78, 79, 80, 81, 82, 83, 84, 85, 86, 87, 88, 89] (by decide +kernel) (by decide +kernel)
set_option maxRecDepth 20000 in
theorem gX6_save_X6_loose : GoodIn wsX6_save (wsV RX6 183 RX6 yX6_loose wsX6_loose) := goodIn_app (goodIn_of _ (by decide +kernel)) ggX6_save_X6_loose
set_option maxRecDepth 20000 in
theorem ggX6_save_X6_priceOf : GoodIn wsX6_save wsX6_priceOf := goodIn_r _ [31, 1, 24, 25, 26, 5, 27, 66, 67, 68, 69, 70, 71, 72, 73, 74, 75, 76, 77, 78, 79, 80, 81, 82, 83, 84, 85, 86, 87, 88, 89] (by decide +kernel) (by decide +kernel)
set_option maxRecDepth 20000 in
theorem gX6_save_X6_priceOf : GoodIn wsX6_save (wsV RX6 189 RX6 yX6_priceOf wsX6_priceOf) := goodIn_app (goodIn_of _ (by decide +kernel)) ggX6_save_X6_priceOf
set_option maxRecDepth 20000 in
theorem ggX6_save_X6_toldByAll : GoodIn wsX6_save wsX6_toldByAll := goodIn_r _ [35, 1, 25, 26, 5, 27, 36, 37, 38, 39, 40, 41, 42, 43, 44, 11, 24, 45, 46, 47, 48, 49, 50, 51, 52, 53, 54, 55, 56, 57, 58, 59, 60, 61, 66, 67, 68, 69, 70, 71, 72, 73, 74, 75, 76, 77, 78, 79, 80, 81, 82, 83, 84, 85, 86, 87, 88, 89] (by decide +kernel) (by decide +kernel)
set_option maxRecDepth 20000 in
theorem gX6_save_X6_toldByAll : GoodIn wsX6_save (wsV RX6 186 RX6 yX6_toldByAll wsX6_toldByAll) := goodIn_app (goodIn_of _ (by decide +kernel)) ggX6_save_X6_toldByAll
set_option maxRecDepth 20000 in
theorem ggX6_save_X6_allWeigh : GoodIn wsX6_save wsX6_allWeigh := goodIn_r _ [65, 40, 25, 26, 5, 27, 58, 59, 60, 61, 49, 66, 67, 68, 69, 70, 71, 72, 73, 74, 75, 76, 77, 78, 79, 80, 81, 82, 83, 84, 85, 86, 87, 88, 89] (by decide +kernel) (by decide +kernel)
set_option maxRecDepth 20000 in
theorem gX6_save_X6_allWeigh : GoodIn wsX6_save (wsV RX6 195 RX6 yX6_allWeigh wsX6_allWeigh) := goodIn_app (goodIn_of _ (by decide +kernel)) ggX6_save_X6_allWeigh
theorem dX6_save_0 : decode cX6_save 0 = .ok (.iload_n 1, 1) := by decide +kernel
theorem dX6_save_1 : decode cX6_save 1 = .ok (.iconst 0, 1) := by decide +kernel
theorem dX6_save_2 : decode cX6_save 2 = .ok (.iconst 1, 1) := by decide +kernel
theorem dX6_save_3 : decode cX6_save 3 = .ok (.invokestatic 76, 3) := by decide +kernel
theorem dX6_save_6 : decode cX6_save 6 = .ok (.ifCond .ne 5, 3) := by decide +kernel
theorem dX6_save_9 : decode cX6_save 9 = .ok (.iconst (-1), 1) := by decide +kernel
theorem dX6_save_10 : decode cX6_save 10 = .ok (.ireturn, 1) := by decide +kernel
theorem dX6_save_11 : decode cX6_save 11 = .ok (.aload_n 0, 1) := by decide +kernel
theorem dX6_save_12 : decode cX6_save 12 = .ok (.invokevirtual 168, 3) := by decide +kernel
theorem dX6_save_15 : decode cX6_save 15 = .ok (.iconst 0, 1) := by decide +kernel
theorem dX6_save_16 : decode cX6_save 16 = .ok (.istore_n 2, 1) := by decide +kernel
theorem dX6_save_17 : decode cX6_save 17 = .ok (.iconst (-1), 1) := by decide +kernel
theorem dX6_save_18 : decode cX6_save 18 = .ok (.istore_n 3, 1) := by decide +kernel
theorem dX6_save_19 : decode cX6_save 19 = .ok (.aload_n 0, 1) := by decide +kernel
theorem dX6_save_20 : decode cX6_save 20 = .ok (.invokevirtual 183, 3) := by decide +kernel
theorem dX6_save_23 : decode cX6_save 23 = .ok (.istore 4, 2) := by decide +kernel
theorem dX6_save_25 : decode cX6_save 25 = .ok (.iconst 0, 1) := by decide +kernel
theorem dX6_save_26 : decode cX6_save 26 = .ok (.istore 5, 2) := by decide +kernel
theorem dX6_save_28 : decode cX6_save 28 = .ok (.iload 5, 2) := by decide +kernel
theorem dX6_save_30 : decode cX6_save 30 = .ok (.iconst 1, 1) := by decide +kernel
theorem dX6_save_31 : decode cX6_save 31 = .ok (.aload_n 0, 1) := by decide +kernel
theorem dX6_save_32 : decode cX6_save 32 = .ok (.getfield 73, 3) := by decide +kernel
theorem dX6_save_35 : decode cX6_save 35 = .ok (.ishl, 1) := by decide +kernel
theorem dX6_save_36 : decode cX6_save 36 = .ok (.if_icmp .ge 94, 3) := by decide +kernel
theorem dX6_save_39 : decode cX6_save 39 = .ok (.iload 5, 2) := by decide +kernel
theorem dX6_save_41 : decode cX6_save 41 = .ok (.iload 4, 2) := by decide +kernel
theorem dX6_save_43 : decode cX6_save 43 = .ok (.iconst (-1), 1) := by decide +kernel
theorem dX6_save_44 : decode cX6_save 44 = .ok (.ixor, 1) := by decide +kernel
theorem dX6_save_45 : decode cX6_save 45 = .ok (.iand, 1) := by decide +kernel
theorem dX6_save_46 : decode cX6_save 46 = .ok (.ifCond .ne 78, 3) := by decide +kernel
theorem dX6_save_49 : decode cX6_save 49 = .ok (.aload_n 0, 1) := by decide +kernel
theorem dX6_save_50 : decode cX6_save 50 = .ok (.iload 5, 2) := by decide +kernel
theorem dX6_save_52 : decode cX6_save 52 = .ok (.invokevirtual 189, 3) := by decide +kernel
theorem dX6_save_55 : decode cX6_save 55 = .ok (.aload_n 0, 1) := by decide +kernel
theorem dX6_save_56 : decode cX6_save 56 = .ok (.getfield 16, 3) := by decide +kernel
theorem dX6_save_59 : decode cX6_save 59 = .ok (.iconst 0, 1) := by decide +kernel
theorem dX6_save_60 : decode cX6_save 60 = .ok (.iaload, 1) := by decide +kernel
theorem dX6_save_61 : decode cX6_save 61 = .ok (.if_icmp .gt 63, 3) := by decide +kernel
theorem dX6_save_64 : decode cX6_save 64 = .ok (.aload_n 0, 1) := by decide +kernel
theorem dX6_save_65 : decode cX6_save 65 = .ok (.aload_n 0, 1) := by decide +kernel
theorem dX6_save_66 : decode cX6_save 66 = .ok (.iload 4, 2) := by decide +kernel
theorem dX6_save_68 : decode cX6_save 68 = .ok (.iload 5, 2) := by decide +kernel
theorem dX6_save_70 : decode cX6_save 70 = .ok (.iconst (-1), 1) := by decide +kernel
theorem dX6_save_71 : decode cX6_save 71 = .ok (.ixor, 1) := by decide +kernel
theorem dX6_save_72 : decode cX6_save 72 = .ok (.iand, 1) := by decide +kernel
theorem dX6_save_73 : decode cX6_save 73 = .ok (.invokevirtual 186, 3) := by decide +kernel
theorem dX6_save_76 : decode cX6_save 76 = .ok (.aload_n 0, 1) := by decide +kernel
theorem dX6_save_77 : decode cX6_save 77 = .ok (.getfield 16, 3) := by decide +kernel
theorem dX6_save_80 : decode cX6_save 80 = .ok (.iconst 1, 1) := by decide +kernel
theorem dX6_save_81 : decode cX6_save 81 = .ok (.iaload, 1) := by decide +kernel
theorem dX6_save_82 : decode cX6_save 82 = .ok (.iconst (-1), 1) := by decide +kernel
theorem dX6_save_83 : decode cX6_save 83 = .ok (.ixor, 1) := by decide +kernel
theorem dX6_save_84 : decode cX6_save 84 = .ok (.iand, 1) := by decide +kernel
theorem dX6_save_85 : decode cX6_save 85 = .ok (.invokevirtual 195, 3) := by decide +kernel
theorem dX6_save_88 : decode cX6_save 88 = .ok (.istore 6, 2) := by decide +kernel
theorem dX6_save_90 : decode cX6_save 90 = .ok (.iload_n 3, 1) := by decide +kernel
theorem dX6_save_91 : decode cX6_save 91 = .ok (.ifCond .lt 9, 3) := by decide +kernel
theorem dX6_save_94 : decode cX6_save 94 = .ok (.iload 6, 2) := by decide +kernel
theorem dX6_save_96 : decode cX6_save 96 = .ok (.iload_n 3, 1) := by decide +kernel
theorem dX6_save_97 : decode cX6_save 97 = .ok (.if_icmp .ge 8, 3) := by decide +kernel
theorem dX6_save_100 : decode cX6_save 100 = .ok (.iload 5, 2) := by decide +kernel
theorem dX6_save_102 : decode cX6_save 102 = .ok (.goto 4, 3) := by decide +kernel
theorem dX6_save_105 : decode cX6_save 105 = .ok (.iload_n 2, 1) := by decide +kernel
theorem dX6_save_106 : decode cX6_save 106 = .ok (.istore_n 2, 1) := by decide +kernel
theorem dX6_save_107 : decode cX6_save 107 = .ok (.iload_n 3, 1) := by decide +kernel
theorem dX6_save_108 : decode cX6_save 108 = .ok (.ifCond .lt 9, 3) := by decide +kernel
theorem dX6_save_111 : decode cX6_save 111 = .ok (.iload 6, 2) := by decide +kernel
theorem dX6_save_113 : decode cX6_save 113 = .ok (.iload_n 3, 1) := by decide +kernel
theorem dX6_save_114 : decode cX6_save 114 = .ok (.if_icmp .ge 8, 3) := by decide +kernel
theorem dX6_save_117 : decode cX6_save 117 = .ok (.iload 6, 2) := by decide +kernel
theorem dX6_save_119 : decode cX6_save 119 = .ok (.goto 4, 3) := by decide +kernel
theorem dX6_save_122 : decode cX6_save 122 = .ok (.iload_n 3, 1) := by decide +kernel
theorem dX6_save_123 : decode cX6_save 123 = .ok (.istore_n 3, 1) := by decide +kernel
theorem dX6_save_124 : decode cX6_save 124 = .ok (.iinc 5 1, 3) := by decide +kernel
theorem dX6_save_127 : decode cX6_save 127 = .ok (.goto (-99), 3) := by decide +kernel
theorem dX6_save_130 : decode cX6_save 130 = .ok (.iload_n 1, 1) := by decide +kernel
theorem dX6_save_131 : decode cX6_save 131 = .ok (.ifCond .ne 7, 3) := by decide +kernel
theorem dX6_save_134 : decode cX6_save 134 = .ok (.iload_n 3, 1) := by decide +kernel
theorem dX6_save_135 : decode cX6_save 135 = .ok (.goto 4, 3) := by decide +kernel
theorem dX6_save_138 : decode cX6_save 138 = .ok (.iload_n 2, 1) := by decide +kernel
theorem dX6_save_139 : decode cX6_save 139 = .ok (.ireturn, 1) := by decide +kernel
set_option maxRecDepth 20000 in
theorem ggX6_together_X6_isPiece : GoodIn wsX6_together wsX6_isPiece := goodIn_r _ [5, 6, 7, 8, 4, 9, 46, 47, 48, 49, 50, 51, 52, 53, 54, 55, 56, 57, 58, 59, 60, 61, 62, 63, 64, 65, 66, 67, 68, 69] (by decide +kernel) (by decide +kernel)
set_option maxRecDepth 20000 in
theorem gX6_together_X6_isPiece : GoodIn wsX6_together (wsV RX6 165 RX6 yX6_isPiece wsX6_isPiece) := goodIn_app (goodIn_of _ (by decide +kernel)) ggX6_together_X6_isPiece
set_option maxRecDepth 20000 in
theorem ggX6_together_X6_asItIs : GoodIn wsX6_together wsX6_asItIs := goodIn_r _ [13, 14, 15, 16, 17, 4, 18, 46, 47, 48, 49, 50, 51, 52, 53, 54, 55, 56, 57, 58, 59, 60, 61, 62, 63, 64, 65, 66, 67, 68, 69] (by decide +kernel) (by decide +kernel)
set_option maxRecDepth 20000 in
theorem gX6_together_X6_asItIs : GoodIn wsX6_together (wsV RX6 168 RX6 yX6_asItIs wsX6_asItIs) := goodIn_app (goodIn_of _ (by decide +kernel)) ggX6_together_X6_asItIs
set_option maxRecDepth 20000 in
theorem ggX6_together_X6_toldBy : GoodIn wsX6_together wsX6_toldBy := goodIn_r _ [22, 23, 24, 25, 26, 4, 27, 14, 28, 29, 30, 31, 32, 33, 34, 35, 36, 37, 38, 39, 40, 41, 42, 43, 44, 45, 46, 47, 48, 49, 50, 51, 52, 53, 54, 55, 56, 57, 58, 59, 60, 61, 62, 63, 64, 65, 66, 67, 68, 69] (by decide +kernel) (by decide +kernel)
set_option maxRecDepth 20000 in
theorem gX6_together_X6_toldBy : GoodIn wsX6_together (wsV RX6 162 RX6 yX6_toldBy wsX6_toldBy) := goodIn_app (goodIn_of _ (by decide +kernel)) ggX6_together_X6_toldBy
theorem dX6_together_0 : decode cX6_together 0 = .ok (.aload_n 0, 1) := by decide +kernel
theorem dX6_together_1 : decode cX6_together 1 = .ok (.iload_n 1, 1) := by decide +kernel
theorem dX6_together_2 : decode cX6_together 2 = .ok (.invokevirtual 165, 3) := by decide +kernel
theorem dX6_together_5 : decode cX6_together 5 = .ok (.ifCond .eq 16, 3) := by decide +kernel
theorem dX6_together_8 : decode cX6_together 8 = .ok (.aload_n 0, 1) := by decide +kernel
theorem dX6_together_9 : decode cX6_together 9 = .ok (.iload_n 2, 1) := by decide +kernel
theorem dX6_together_10 : decode cX6_together 10 = .ok (.invokevirtual 165, 3) := by decide +kernel
theorem dX6_together_13 : decode cX6_together 13 = .ok (.ifCond .eq 8, 3) := by decide +kernel
theorem dX6_together_16 : decode cX6_together 16 = .ok (.iload_n 1, 1) := by decide +kernel
theorem dX6_together_17 : decode cX6_together 17 = .ok (.iload_n 2, 1) := by decide +kernel
theorem dX6_together_18 : decode cX6_together 18 = .ok (.if_icmp .ne 5, 3) := by decide +kernel
theorem dX6_together_21 : decode cX6_together 21 = .ok (.iconst (-1), 1) := by decide +kernel
theorem dX6_together_22 : decode cX6_together 22 = .ok (.ireturn, 1) := by decide +kernel
theorem dX6_together_23 : decode cX6_together 23 = .ok (.aload_n 0, 1) := by decide +kernel
theorem dX6_together_24 : decode cX6_together 24 = .ok (.invokevirtual 168, 3) := by decide +kernel
theorem dX6_together_27 : decode cX6_together 27 = .ok (.aload_n 0, 1) := by decide +kernel
theorem dX6_together_28 : decode cX6_together 28 = .ok (.iload_n 1, 1) := by decide +kernel
theorem dX6_together_29 : decode cX6_together 29 = .ok (.invokevirtual 162, 3) := by decide +kernel
theorem dX6_together_32 : decode cX6_together 32 = .ok (.aload_n 0, 1) := by decide +kernel
theorem dX6_together_33 : decode cX6_together 33 = .ok (.iload_n 2, 1) := by decide +kernel
theorem dX6_together_34 : decode cX6_together 34 = .ok (.invokevirtual 162, 3) := by decide +kernel
theorem dX6_together_37 : decode cX6_together 37 = .ok (.iand, 1) := by decide +kernel
theorem dX6_together_38 : decode cX6_together 38 = .ok (.ireturn, 1) := by decide +kernel
