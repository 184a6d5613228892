theorem dX5_lay_72 : decode cX5_lay 72 = .ok (.invokevirtual 104, 3) := by decide +kernel
theorem dX5_lay_75 : decode cX5_lay 75 = .ok (.aload_n 0, 1) := by decide +kernel
theorem dX5_lay_76 : decode cX5_lay 76 = .ok (.getfield 46, 3) := by decide +kernel
theorem dX5_lay_79 : decode cX5_lay 79 = .ok (.invokevirtual 105, 3) := by decide +kernel
theorem dX5_lay_82 : decode cX5_lay 82 = .ok (.aload_n 0, 1) := by decide +kernel
theorem dX5_lay_83 : decode cX5_lay 83 = .ok (.iconst 0, 1) := by decide +kernel
theorem dX5_lay_84 : decode cX5_lay 84 = .ok (.putfield 106, 3) := by decide +kernel
theorem dX5_lay_87 : decode cX5_lay 87 = .ok (.aload_n 0, 1) := by decide +kernel
theorem dX5_lay_88 : decode cX5_lay 88 = .ok (.getfield 19, 3) := by decide +kernel
theorem dX5_lay_91 : decode cX5_lay 91 = .ok (.getfield 91, 3) := by decide +kernel
theorem dX5_lay_94 : decode cX5_lay 94 = .ok (.ireturn, 1) := by decide +kernel
set_option maxRecDepth 20000 in
theorem ggX5_piece_X5_isPiece : GoodIn wsX5_piece wsX5_isPiece := goodIn_r _ [9, 1, 10, 11, 12, 8, 13, 53, 54, 55, 56, 57, 58, 59, 60, 61, 62, 63, 64, 65, 66, 67, 68, 69, 70, 71, 72, 73, 74] (by decide +kernel) (by decide +kernel)
set_option maxRecDepth 20000 in
theorem gX5_piece_X5_isPiece : GoodIn wsX5_piece (wsV RX5 109 RX5 yX5_isPiece wsX5_isPiece) := goodIn_app (goodIn_of _ (by decide +kernel)) ggX5_piece_X5_isPiece
set_option maxRecDepth 20000 in
theorem ggX5_piece_X4_roomOf : GoodIn wsX5_piece wsX4_roomOf := goodIn_r _ [18, 19, 75, 76, 77, 78, 79] (by decide +kernel) (by decide +kernel)
set_option maxRecDepth 20000 in
theorem gX5_piece_X4_roomOf : GoodIn wsX5_piece (wsV RX5 116 RX4 yX4_roomOf wsX4_roomOf) := goodIn_app (goodIn_of _ (by decide +kernel)) ggX5_piece_X4_roomOf
set_option maxRecDepth 20000 in
theorem ggX5_piece_X4_howIs : GoodIn wsX5_piece wsX4_howIs := goodIn_r _ [23, 24, 25, 75, 76, 77, 78, 79] (by decide +kernel) (by decide +kernel)
set_option maxRecDepth 20000 in
theorem gX5_piece_X4_howIs : GoodIn wsX5_piece (wsV RX5 123 RX4 yX4_howIs wsX4_howIs) := goodIn_app (goodIn_of _ (by decide +kernel)) ggX5_piece_X4_howIs
set_option maxRecDepth 20000 in
theorem ggX5_piece_X0_toldBy : GoodIn wsX5_piece wsX0_toldBy := goodIn_r _ [30, 31, 32, 33, 34, 35, 36, 37, 38, 29, 39, 40, 41, 42, 43, 63, 64, 65, 66, 67, 68, 69, 70, 71, 72, 73, 74] (by decide +kernel) (by decide +kernel)
set_option maxRecDepth 20000 in
theorem gX5_piece_X0_toldBy : GoodIn wsX5_piece (wsV RX5 126 RX0 yX0_toldBy wsX0_toldBy) := goodIn_app (goodIn_of _ (by decide +kernel)) ggX5_piece_X0_toldBy
set_option maxRecDepth 20000 in
theorem ggX5_piece_X5_isLoose : GoodIn wsX5_piece wsX5_isLoose := goodIn_r _ [47, 1, 2, 20, 21, 22, 17, 23, 24, 25, 48, 49, 50, 29, 51, 52, 53, 54, 55, 56, 57, 58, 59, 60, 61, 62, 63, 64, 65, 66, 67, 68, 69, 70, 71, 72, 73, 74, 75, 76, 77, 78, 79] (by decide +kernel) (by decide +kernel)
set_option maxRecDepth 20000 in
theorem gX5_piece_X5_isLoose : GoodIn wsX5_piece (wsV RX5 130 RX5 yX5_isLoose wsX5_isLoose) := goodIn_app (goodIn_of _ (by decide +kernel)) ggX5_piece_X5_isLoose
theorem dX5_piece_0 : decode cX5_piece 0 = .ok (.aload_n 0, 1) := by decide +kernel
theorem dX5_piece_1 : decode cX5_piece 1 = .ok (.iload_n 1, 1) := by decide +kernel
theorem dX5_piece_2 : decode cX5_piece 2 = .ok (.invokevirtual 109, 3) := by decide +kernel
theorem dX5_piece_5 : decode cX5_piece 5 = .ok (.ifCond .ne 5, 3) := by decide +kernel
theorem dX5_piece_8 : decode cX5_piece 8 = .ok (.iconst (-1), 1) := by decide +kernel
theorem dX5_piece_9 : decode cX5_piece 9 = .ok (.ireturn, 1) := by decide +kernel
theorem dX5_piece_10 : decode cX5_piece 10 = .ok (.iload_n 2, 1) := by decide +kernel
theorem dX5_piece_11 : decode cX5_piece 11 = .ok (.tableswitch 110 0 5 #[37, 47, 56, 66, 75, 92], 37) := by decide +kernel
theorem dX5_piece_48 : decode cX5_piece 48 = .ok (.aload_n 0, 1) := by decide +kernel
theorem dX5_piece_49 : decode cX5_piece 49 = .ok (.getfield 19, 3) := by decide +kernel
theorem dX5_piece_52 : decode cX5_piece 52 = .ok (.getfield 113, 3) := by decide +kernel
theorem dX5_piece_55 : decode cX5_piece 55 = .ok (.iload_n 1, 1) := by decide +kernel
theorem dX5_piece_56 : decode cX5_piece 56 = .ok (.iaload, 1) := by decide +kernel
theorem dX5_piece_57 : decode cX5_piece 57 = .ok (.ireturn, 1) := by decide +kernel
theorem dX5_piece_58 : decode cX5_piece 58 = .ok (.aload_n 0, 1) := by decide +kernel
theorem dX5_piece_59 : decode cX5_piece 59 = .ok (.getfield 29, 3) := by decide +kernel
theorem dX5_piece_62 : decode cX5_piece 62 = .ok (.iload_n 1, 1) := by decide +kernel
theorem dX5_piece_63 : decode cX5_piece 63 = .ok (.invokevirtual 116, 3) := by decide +kernel
theorem dX5_piece_66 : decode cX5_piece 66 = .ok (.ireturn, 1) := by decide +kernel
theorem dX5_piece_67 : decode cX5_piece 67 = .ok (.aload_n 0, 1) := by decide +kernel
theorem dX5_piece_68 : decode cX5_piece 68 = .ok (.getfield 19, 3) := by decide +kernel
theorem dX5_piece_71 : decode cX5_piece 71 = .ok (.getfield 120, 3) := by decide +kernel
theorem dX5_piece_74 : decode cX5_piece 74 = .ok (.iload_n 1, 1) := by decide +kernel
theorem dX5_piece_75 : decode cX5_piece 75 = .ok (.iaload, 1) := by decide +kernel
theorem dX5_piece_76 : decode cX5_piece 76 = .ok (.ireturn, 1) := by decide +kernel
theorem dX5_piece_77 : decode cX5_piece 77 = .ok (.aload_n 0, 1) := by decide +kernel
theorem dX5_piece_78 : decode cX5_piece 78 = .ok (.getfield 29, 3) := by decide +kernel
theorem dX5_piece_81 : decode cX5_piece 81 = .ok (.iload_n 1, 1) := by decide +kernel
theorem dX5_piece_82 : decode cX5_piece 82 = .ok (.invokevirtual 123, 3) := by decide +kernel
theorem dX5_piece_85 : decode cX5_piece 85 = .ok (.ireturn, 1) := by decide +kernel
theorem dX5_piece_86 : decode cX5_piece 86 = .ok (.aload_n 0, 1) := by decide +kernel
theorem dX5_piece_87 : decode cX5_piece 87 = .ok (.getfield 19, 3) := by decide +kernel
theorem dX5_piece_90 : decode cX5_piece 90 = .ok (.iload_n 1, 1) := by decide +kernel
theorem dX5_piece_91 : decode cX5_piece 91 = .ok (.aload_n 0, 1) := by decide +kernel
theorem dX5_piece_92 : decode cX5_piece 92 = .ok (.getfield 29, 3) := by decide +kernel
theorem dX5_piece_95 : decode cX5_piece 95 = .ok (.iload_n 1, 1) := by decide +kernel
theorem dX5_piece_96 : decode cX5_piece 96 = .ok (.invokevirtual 116, 3) := by decide +kernel
theorem dX5_piece_99 : decode cX5_piece 99 = .ok (.invokevirtual 126, 3) := by decide +kernel
theorem dX5_piece_102 : decode cX5_piece 102 = .ok (.ireturn, 1) := by decide +kernel
theorem dX5_piece_103 : decode cX5_piece 103 = .ok (.aload_n 0, 1) := by decide +kernel
theorem dX5_piece_104 : decode cX5_piece 104 = .ok (.aload_n 0, 1) := by decide +kernel
theorem dX5_piece_105 : decode cX5_piece 105 = .ok (.getfield 29, 3) := by decide +kernel
theorem dX5_piece_108 : decode cX5_piece 108 = .ok (.iload_n 1, 1) := by decide +kernel
theorem dX5_piece_109 : decode cX5_piece 109 = .ok (.invokevirtual 130, 3) := by decide +kernel
theorem dX5_piece_112 : decode cX5_piece 112 = .ok (.ifCond .eq 7, 3) := by decide +kernel
theorem dX5_piece_115 : decode cX5_piece 115 = .ok (.iconst 1, 1) := by decide +kernel
theorem dX5_piece_116 : decode cX5_piece 116 = .ok (.goto 4, 3) := by decide +kernel
theorem dX5_piece_119 : decode cX5_piece 119 = .ok (.iconst 0, 1) := by decide +kernel
theorem dX5_piece_120 : decode cX5_piece 120 = .ok (.ireturn, 1) := by decide +kernel
theorem dX5_piece_121 : decode cX5_piece 121 = .ok (.iconst (-1), 1) := by decide +kernel
theorem dX5_piece_122 : decode cX5_piece 122 = .ok (.ireturn, 1) := by decide +kernel
set_option maxRecDepth 20000 in
theorem ggX5_deed_X5_isDeed : GoodIn wsX5_deed wsX5_isDeed := goodIn_r _ [10, 1, 11, 12, 13, 9, 14, 66, 67, 68, 69, 70, 71, 72, 73, 74, 75, 76, 77, 78, 79, 80, 81, 82, 83, 84, 85, 86, 87] (by decide +kernel) (by decide +kernel)
set_option maxRecDepth 20000 in
theorem gX5_deed_X5_isDeed : GoodIn wsX5_deed (wsV RX5 134 RX5 yX5_isDeed wsX5_isDeed) := goodIn_app (goodIn_of _ (by decide +kernel)) ggX5_deed_X5_isDeed
set_option maxRecDepth 20000 in
theorem ggX5_deed_X5_hasComeOut : GoodIn wsX5_deed wsX5_hasComeOut := goodIn_r _ [18, 19, 20, 66, 67, 68, 69, 70, 71, 72, 73, 74, 75, 88, 89, 90, 91, 92] (by decide +kernel) (by decide +kernel)
set_option maxRecDepth 20000 in
theorem gX5_deed_X5_hasComeOut : GoodIn wsX5_deed (wsV RX5 149 RX5 yX5_hasComeOut wsX5_hasComeOut) := goodIn_app (goodIn_of _ (by decide +kernel)) ggX5_deed_X5_hasComeOut
set_option maxRecDepth 20000 in
theorem ggX5_deed_X5_looseTellers : GoodIn wsX5_deed wsX5_looseTellers := goodIn_r _ [24, 1, 25, 19, 26, 27, 28, 9, 29, 30, 31, 32, 33, 34, 35, 36, 37, 38, 39, 40, 41, 42, 43, 44, 45, 46, 47, 48, 49, 50, 51, 52, 53, 54, 55, 56, 57, 58, 59, 60, 61, 62, 63, 64, 65, 66, 67, 68, 69, 70, 71, 72, 73, 74, 75, 76, 77, 78, 79, 80, 81, 82, 83, 84, 85, 86, 87, 88, 89, 90, 91, 92] (by decide +kernel) (by decide +kernel)
set_option maxRecDepth 20000 in
theorem gX5_deed_X5_looseTellers : GoodIn wsX5_deed (wsV RX5 152 RX5 yX5_looseTellers wsX5_looseTellers) := goodIn_app (goodIn_of _ (by decide +kernel)) ggX5_deed_X5_looseTellers
theorem dX5_deed_0 : decode cX5_deed 0 = .ok (.aload_n 0, 1) := by decide +kernel
theorem dX5_deed_1 : decode cX5_deed 1 = .ok (.iload_n 1, 1) := by decide +kernel
theorem dX5_deed_2 : decode cX5_deed 2 = .ok (.invokevirtual 134, 3) := by decide +kernel
theorem dX5_deed_5 : decode cX5_deed 5 = .ok (.ifCond .ne 5, 3) := by decide +kernel
theorem dX5_deed_8 : decode cX5_deed 8 = .ok (.iconst (-1), 1) := by decide +kernel
theorem dX5_deed_9 : decode cX5_deed 9 = .ok (.ireturn, 1) := by decide +kernel
theorem dX5_deed_10 : decode cX5_deed 10 = .ok (.iload_n 2, 1) := by decide +kernel
theorem dX5_deed_11 : decode cX5_deed 11 = .ok (.tableswitch 99 0 5 #[37, 47, 57, 67, 77, 91], 37) := by decide +kernel
theorem dX5_deed_48 : decode cX5_deed 48 = .ok (.aload_n 0, 1) := by decide +kernel
theorem dX5_deed_49 : decode cX5_deed 49 = .ok (.getfield 19, 3) := by decide +kernel
theorem dX5_deed_52 : decode cX5_deed 52 = .ok (.getfield 137, 3) := by decide +kernel
theorem dX5_deed_55 : decode cX5_deed 55 = .ok (.iload_n 1, 1) := by decide +kernel
theorem dX5_deed_56 : decode cX5_deed 56 = .ok (.iaload, 1) := by decide +kernel
theorem dX5_deed_57 : decode cX5_deed 57 = .ok (.ireturn, 1) := by decide +kernel
theorem dX5_deed_58 : decode cX5_deed 58 = .ok (.aload_n 0, 1) := by decide +kernel
theorem dX5_deed_59 : decode cX5_deed 59 = .ok (.getfield 19, 3) := by decide +kernel
theorem dX5_deed_62 : decode cX5_deed 62 = .ok (.getfield 140, 3) := by decide +kernel
theorem dX5_deed_65 : decode cX5_deed 65 = .ok (.iload_n 1, 1) := by decide +kernel
theorem dX5_deed_66 : decode cX5_deed 66 = .ok (.iaload, 1) := by decide +kernel
theorem dX5_deed_67 : decode cX5_deed 67 = .ok (.ireturn, 1) := by decide +kernel
theorem dX5_deed_68 : decode cX5_deed 68 = .ok (.aload_n 0, 1) := by decide +kernel
theorem dX5_deed_69 : decode cX5_deed 69 = .ok (.getfield 19, 3) := by decide +kernel
theorem dX5_deed_72 : decode cX5_deed 72 = .ok (.getfield 143, 3) := by decide +kernel
theorem dX5_deed_75 : decode cX5_deed 75 = .ok (.iload_n 1, 1) := by decide +kernel
theorem dX5_deed_76 : decode cX5_deed 76 = .ok (.iaload, 1) := by decide +kernel
theorem dX5_deed_77 : decode cX5_deed 77 = .ok (.ireturn, 1) := by decide +kernel
theorem dX5_deed_78 : decode cX5_deed 78 = .ok (.aload_n 0, 1) := by decide +kernel
theorem dX5_deed_79 : decode cX5_deed 79 = .ok (.getfield 19, 3) := by decide +kernel
theorem dX5_deed_82 : decode cX5_deed 82 = .ok (.getfield 146, 3) := by decide +kernel
theorem dX5_deed_85 : decode cX5_deed 85 = .ok (.iload_n 1, 1) := by decide +kernel
theorem dX5_deed_86 : decode cX5_deed 86 = .ok (.iaload, 1) := by decide +kernel
theorem dX5_deed_87 : decode cX5_deed 87 = .ok (.ireturn, 1) := by decide +kernel
theorem dX5_deed_88 : decode cX5_deed 88 = .ok (.aload_n 0, 1) := by decide +kernel
theorem dX5_deed_89 : decode cX5_deed 89 = .ok (.iload_n 1, 1) := by decide +kernel
theorem dX5_deed_90 : decode cX5_deed 90 = .ok (.invokevirtual 149, 3) := by decide +kernel
theorem dX5_deed_93 : decode cX5_deed 93 = .ok (.ifCond .eq 7, 3) := by decide +kernel
theorem dX5_deed_96 : decode cX5_deed 96 = .ok (.iconst 1, 1) := by decide +kernel
theorem dX5_deed_97 : decode cX5_deed 97 = .ok (.goto 4, 3) := by decide +kernel
theorem dX5_deed_100 : decode cX5_deed 100 = .ok (.iconst 0, 1) := by decide +kernel
theorem dX5_deed_101 : decode cX5_deed 101 = .ok (.ireturn, 1) := by decide +kernel
theorem dX5_deed_102 : decode cX5_deed 102 = .ok (.aload_n 0, 1) := by decide +kernel
theorem dX5_deed_103 : decode cX5_deed 103 = .ok (.iconst 1, 1) := by decide +kernel
theorem dX5_deed_104 : decode cX5_deed 104 = .ok (.iload_n 1, 1) := by decide +kernel
theorem dX5_deed_105 : decode cX5_deed 105 = .ok (.ishl, 1) := by decide +kernel
theorem dX5_deed_106 : decode cX5_deed 106 = .ok (.invokevirtual 152, 3) := by decide +kernel
theorem dX5_deed_109 : decode cX5_deed 109 = .ok (.ireturn, 1) := by decide +kernel
theorem dX5_deed_110 : decode cX5_deed 110 = .ok (.iconst (-1), 1) := by decide +kernel
theorem dX5_deed_111 : decode cX5_deed 111 = .ok (.ireturn, 1) := by decide +kernel
set_option maxRecDepth 20000 in
theorem ggX5_speak_X5_isPiece : GoodIn wsX5_speak wsX5_isPiece := goodIn_r _ [8, 3, 9, 10, 11, 7, 12, 82, 83, 84, 85, 86, 87, 88, 89, 90, 91, 92, 93, 94, 95, 96, 97, 98, 99, 100, 101, 102, 103] (by decide +kernel) (by decide +kernel)
set_option maxRecDepth 20000 in
theorem gX5_speak_X5_isPiece : GoodIn wsX5_speak (wsV RX5 109 RX5 yX5_isPiece wsX5_isPiece) := goodIn_app (goodIn_of _ (by decide +kernel)) ggX5_speak_X5_isPiece
set_option maxRecDepth 20000 in
theorem ggX5_speak_X5_isLoose : GoodIn wsX5_speak wsX5_isLoose := goodIn_r _ [16, 3, 17, 18, 19, 20, 21, 22, 23, 24, 25, 26, 27, 28, 29, 30, 82, 83, 84, 85, 86, 87, 88, 89, 90, 91, 92, 93, 94, 95, 96, 97, 98, 99, 100, 101, 102, 103, 104, 105, 106, 107, 108] (by decide +kernel) (by decide +kernel)
set_option maxRecDepth 20000 in
theorem gX5_speak_X5_isLoose : GoodIn wsX5_speak (wsV RX5 130 RX5 yX5_isLoose wsX5_isLoose) := goodIn_app (goodIn_of _ (by decide +kernel)) ggX5_speak_X5_isLoose
set_option maxRecDepth 20000 in
theorem ggX5_speak_X4_packed : GoodIn wsX5_speak wsX4_packed := goodIn_r _ [34, 35, 36, 23, 24, 37, 104, 105, 106, 107, 108] (by decide +kernel) (by decide +kernel)
set_option maxRecDepth 20000 in
theorem gX5_speak_X4_packed : GoodIn wsX5_speak (wsV RX5 155 RX4 yX4_packed wsX4_packed) := goodIn_app (goodIn_of _ (by decide +kernel)) ggX5_speak_X4_packed
set_option maxRecDepth 20000 in
theorem ggX5_speak_X2_push : GoodIn wsX5_speak wsX2_push := goodIn_r _ [42, 43, 44, 45, 46, 47, 48, 49, 109, 110, 111] (by decide +kernel) (by decide +kernel)
set_option maxRecDepth 20000 in
theorem gX5_speak_X2_push : GoodIn wsX5_speak (wsV RX5 159 RX2 yX2_push wsX2_push) := goodIn_app (goodIn_of _ (by decide +kernel)) ggX5_speak_X2_push
set_option maxRecDepth 20000 in
theorem ggX5_speak_X4_roomOf : GoodIn wsX5_speak wsX4_roomOf := goodIn_r _ [53, 37, 104, 105, 106, 107, 108] (by decide +kernel) (by decide +kernel)
set_option maxRecDepth 20000 in
theorem gX5_speak_X4_roomOf : GoodIn wsX5_speak (wsV RX5 116 RX4 yX4_roomOf wsX4_roomOf) := goodIn_app (goodIn_of _ (by decide +kernel)) ggX5_speak_X4_roomOf
set_option maxRecDepth 20000 in
theorem ggX5_speak_X0_toldBy : GoodIn wsX5_speak wsX0_toldBy := goodIn_r _ [57, 58, 59, 60, 61, 62, 63, 64, 65, 28, 66, 67, 68, 69, 70, 92, 93, 94, 95, 96, 97, 98, 99, 100, 101, 102, 103] (by decide +kernel) (by decide +kernel)
set_option maxRecDepth 20000 in
theorem gX5_speak_X0_toldBy : GoodIn wsX5_speak (wsV RX5 126 RX0 yX0_toldBy wsX0_toldBy) := goodIn_app (goodIn_of _ (by decide +kernel)) ggX5_speak_X0_toldBy
set_option maxRecDepth 20000 in
theorem ggX5_speak_X4_letSpeak : GoodIn wsX5_speak wsX4_letSpeak := goodIn_r _ [74, 36, 23, 75, 76, 77, 78, 79, 80, 81, 104, 105, 106, 107, 108] (by decide +kernel) (by decide +kernel)
set_option maxRecDepth 20000 in
theorem gX5_speak_X4_letSpeak : GoodIn wsX5_speak (wsV RX5 163 RX4 yX4_letSpeak wsX4_letSpeak) := goodIn_app (goodIn_of _ (by decide +kernel)) ggX5_speak_X4_letSpeak
theorem dX5_speak_0 : decode cX5_speak 0 = .ok (.aload_n 0, 1) := by decide +kernel
theorem dX5_speak_1 : decode cX5_speak 1 = .ok (.iload_n 1, 1) := by decide +kernel
theorem dX5_speak_2 : decode cX5_speak 2 = .ok (.invokevirtual 109, 3) := by decide +kernel
theorem dX5_speak_5 : decode cX5_speak 5 = .ok (.ifCond .ne 5, 3) := by decide +kernel
theorem dX5_speak_8 : decode cX5_speak 8 = .ok (.iconst (-1), 1) := by decide +kernel
theorem dX5_speak_9 : decode cX5_speak 9 = .ok (.ireturn, 1) := by decide +kernel
theorem dX5_speak_10 : decode cX5_speak 10 = .ok (.aload_n 0, 1) := by decide +kernel
theorem dX5_speak_11 : decode cX5_speak 11 = .ok (.aload_n 0, 1) := by decide +kernel
theorem dX5_speak_12 : decode cX5_speak 12 = .ok (.getfield 29, 3) := by decide +kernel
theorem dX5_speak_15 : decode cX5_speak 15 = .ok (.iload_n 1, 1) := by decide +kernel
theorem dX5_speak_16 : decode cX5_speak 16 = .ok (.invokevirtual 130, 3) := by decide +kernel
theorem dX5_speak_19 : decode cX5_speak 19 = .ok (.ifCond .ne 6, 3) := by decide +kernel
theorem dX5_speak_22 : decode cX5_speak 22 = .ok (.bipush (-2), 2) := by decide +kernel
theorem dX5_speak_24 : decode cX5_speak 24 = .ok (.ireturn, 1) := by decide +kernel
theorem dX5_speak_25 : decode cX5_speak 25 = .ok (.aload_n 0, 1) := by decide +kernel
theorem dX5_speak_26 : decode cX5_speak 26 = .ok (.getfield 39, 3) := by decide +kernel
theorem dX5_speak_29 : decode cX5_speak 29 = .ok (.aload_n 0, 1) := by decide +kernel
theorem dX5_speak_30 : decode cX5_speak 30 = .ok (.getfield 29, 3) := by decide +kernel
theorem dX5_speak_33 : decode cX5_speak 33 = .ok (.invokevirtual 155, 3) := by decide +kernel
theorem dX5_speak_36 : decode cX5_speak 36 = .ok (.invokevirtual 159, 3) := by decide +kernel
theorem dX5_speak_39 : decode cX5_speak 39 = .ok (.aload_n 0, 1) := by decide +kernel
theorem dX5_speak_40 : decode cX5_speak 40 = .ok (.getfield 29, 3) := by decide +kernel
theorem dX5_speak_43 : decode cX5_speak 43 = .ok (.iload_n 1, 1) := by decide +kernel
theorem dX5_speak_44 : decode cX5_speak 44 = .ok (.aload_n 0, 1) := by decide +kernel
theorem dX5_speak_45 : decode cX5_speak 45 = .ok (.getfield 19, 3) := by decide +kernel
theorem dX5_speak_48 : decode cX5_speak 48 = .ok (.iload_n 1, 1) := by decide +kernel
theorem dX5_speak_49 : decode cX5_speak 49 = .ok (.aload_n 0, 1) := by decide +kernel
theorem dX5_speak_50 : decode cX5_speak 50 = .ok (.getfield 29, 3) := by decide +kernel
theorem dX5_speak_53 : decode cX5_speak 53 = .ok (.iload_n 1, 1) := by decide +kernel
theorem dX5_speak_54 : decode cX5_speak 54 = .ok (.invokevirtual 116, 3) := by decide +kernel
theorem dX5_speak_57 : decode cX5_speak 57 = .ok (.invokevirtual 126, 3) := by decide +kernel
theorem dX5_speak_60 : decode cX5_speak 60 = .ok (.invokevirtual 163, 3) := by decide +kernel
theorem dX5_speak_63 : decode cX5_speak 63 = .ok (.ireturn, 1) := by decide +kernel
set_option maxRecDepth 20000 in
theorem ggX5_buy_X5_isPiece : GoodIn wsX5_buy wsX5_isPiece := goodIn_r _ [10, 3, 11, 12, 13, 9, 14, 49, 50, 51, 52, 53, 54, 55, 56, 57, 58, 59, 60, 61, 62, 63, 64, 65, 66, 67, 68, 69, 70] (by decide +kernel) (by decide +kernel)
set_option maxRecDepth 20000 in
theorem gX5_buy_X5_isPiece : GoodIn wsX5_buy (wsV RX5 109 RX5 yX5_isPiece wsX5_isPiece) := goodIn_app (goodIn_of _ (by decide +kernel)) ggX5_buy_X5_isPiece
set_option maxRecDepth 20000 in
theorem ggX5_buy_X5_canBeBought : GoodIn wsX5_buy wsX5_canBeBought := goodIn_r _ [18, 3, 4, 5, 19, 20, 21, 22, 23, 24, 25, 49, 50, 51, 52, 53, 54, 55, 56, 57, 58, 59, 60, 61, 62, 63, 64, 65, 66, 67, 68, 69, 70, 71, 72, 73, 74, 75] (by decide +kernel) (by decide +kernel)
set_option maxRecDepth 20000 in
theorem gX5_buy_X5_canBeBought : GoodIn wsX5_buy (wsV RX5 166 RX5 yX5_canBeBought wsX5_canBeBought) := goodIn_app (goodIn_of _ (by decide +kernel)) ggX5_buy_X5_canBeBought
set_option maxRecDepth 20000 in
theorem ggX5_buy_X4_packed : GoodIn wsX5_buy wsX4_packed := goodIn_r _ [29, 30, 31, 24, 25, 32, 71, 72, 73, 74, 75] (by decide +kernel) (by decide +kernel)
set_option maxRecDepth 20000 in
theorem gX5_buy_X4_packed : GoodIn wsX5_buy (wsV RX5 155 RX4 yX4_packed wsX4_packed) := goodIn_app (goodIn_of _ (by decide +kernel)) ggX5_buy_X4_packed
set_option maxRecDepth 20000 in
theorem ggX5_buy_X2_push : GoodIn wsX5_buy wsX2_push := goodIn_r _ [37, 38, 39, 40, 41, 42, 43, 44, 76, 77, 78] (by decide +kernel) (by decide +kernel)
set_option maxRecDepth 20000 in
theorem gX5_buy_X2_push : GoodIn wsX5_buy (wsV RX5 159 RX2 yX2_push wsX2_push) := goodIn_app (goodIn_of _ (by decide +kernel)) ggX5_buy_X2_push
set_option maxRecDepth 20000 in
theorem ggX5_buy_X4_sell : GoodIn wsX5_buy wsX4_sell := goodIn_r _ [48, 25, 30, 71, 72, 73, 74, 75] (by decide +kernel) (by decide +kernel)
set_option maxRecDepth 20000 in
theorem gX5_buy_X4_sell : GoodIn wsX5_buy (wsV RX5 169 RX4 yX4_sell wsX4_sell) := goodIn_app (goodIn_of _ (by decide +kernel)) ggX5_buy_X4_sell
theorem dX5_buy_0 : decode cX5_buy 0 = .ok (.aload_n 0, 1) := by decide +kernel
theorem dX5_buy_1 : decode cX5_buy 1 = .ok (.iload_n 1, 1) := by decide +kernel
theorem dX5_buy_2 : decode cX5_buy 2 = .ok (.invokevirtual 109, 3) := by decide +kernel
theorem dX5_buy_5 : decode cX5_buy 5 = .ok (.ifCond .ne 5, 3) := by decide +kernel
theorem dX5_buy_8 : decode cX5_buy 8 = .ok (.iconst (-1), 1) := by decide +kernel
theorem dX5_buy_9 : decode cX5_buy 9 = .ok (.ireturn, 1) := by decide +kernel
theorem dX5_buy_10 : decode cX5_buy 10 = .ok (.aload_n 0, 1) := by decide +kernel
theorem dX5_buy_11 : decode cX5_buy 11 = .ok (.aload_n 0, 1) := by decide +kernel
theorem dX5_buy_12 : decode cX5_buy 12 = .ok (.getfield 29, 3) := by decide +kernel
theorem dX5_buy_15 : decode cX5_buy 15 = .ok (.iload_n 1, 1) := by decide +kernel
theorem dX5_buy_16 : decode cX5_buy 16 = .ok (.invokevirtual 166, 3) := by decide +kernel
theorem dX5_buy_19 : decode cX5_buy 19 = .ok (.ifCond .ne 6, 3) := by decide +kernel
theorem dX5_buy_22 : decode cX5_buy 22 = .ok (.bipush (-2), 2) := by decide +kernel
theorem dX5_buy_24 : decode cX5_buy 24 = .ok (.ireturn, 1) := by decide +kernel
theorem dX5_buy_25 : decode cX5_buy 25 = .ok (.aload_n 0, 1) := by decide +kernel
theorem dX5_buy_26 : decode cX5_buy 26 = .ok (.getfield 39, 3) := by decide +kernel
theorem dX5_buy_29 : decode cX5_buy 29 = .ok (.aload_n 0, 1) := by decide +kernel
theorem dX5_buy_30 : decode cX5_buy 30 = .ok (.getfield 29, 3) := by decide +kernel
theorem dX5_buy_33 : decode cX5_buy 33 = .ok (.invokevirtual 155, 3) := by decide +kernel
theorem dX5_buy_36 : decode cX5_buy 36 = .ok (.invokevirtual 159, 3) := by decide +kernel
theorem dX5_buy_39 : decode cX5_buy 39 = .ok (.aload_n 0, 1) := by decide +kernel
theorem dX5_buy_40 : decode cX5_buy 40 = .ok (.getfield 29, 3) := by decide +kernel
theorem dX5_buy_43 : decode cX5_buy 43 = .ok (.iload_n 1, 1) := by decide +kernel
theorem dX5_buy_44 : decode cX5_buy 44 = .ok (.aload_n 0, 1) := by decide +kernel
theorem dX5_buy_45 : decode cX5_buy 45 = .ok (.getfield 19, 3) := by decide +kernel
theorem dX5_buy_48 : decode cX5_buy 48 = .ok (.getfield 120, 3) := by decide +kernel
theorem dX5_buy_51 : decode cX5_buy 51 = .ok (.iload_n 1, 1) := by decide +kernel
theorem dX5_buy_52 : decode cX5_buy 52 = .ok (.iaload, 1) := by decide +kernel
theorem dX5_buy_53 : decode cX5_buy 53 = .ok (.invokevirtual 169, 3) := by decide +kernel
theorem dX5_buy_56 : decode cX5_buy 56 = .ok (.aload_n 0, 1) := by decide +kernel
theorem dX5_buy_57 : decode cX5_buy 57 = .ok (.getfield 29, 3) := by decide +kernel
theorem dX5_buy_60 : decode cX5_buy 60 = .ok (.getfield 172, 3) := by decide +kernel
theorem dX5_buy_63 : decode cX5_buy 63 = .ok (.ireturn, 1) := by decide +kernel
set_option maxRecDepth 20000 in
theorem ggX5_carry_X5_isPiece : GoodIn wsX5_carry wsX5_isPiece := goodIn_r _ [7, 8, 9, 10, 11, 6, 12, 47, 48, 49, 50, 51, 52, 53, 54, 55, 56, 57, 58, 59, 60, 61, 62, 63, 64, 65, 66, 67, 68] (by decide +kernel) (by decide +kernel)
set_option maxRecDepth 20000 in
theorem gX5_carry_X5_isPiece : GoodIn wsX5_carry (wsV RX5 109 RX5 yX5_isPiece wsX5_isPiece) := goodIn_app (goodIn_of _ (by decide +kernel)) ggX5_carry_X5_isPiece
set_option maxRecDepth 20000 in
theorem ggX5_carry_X5_isWithin : GoodIn wsX5_carry wsX5_isWithin := goodIn_r _ [12] (by decide +kernel) (by decide +kernel)
set_option maxRecDepth 20000 in
theorem gX5_carry_X5_isWithin : GoodIn wsX5_carry (va_wsS RX5 80 yX5_isWithin wsX5_isWithin) := goodIn_app (goodIn_of _ (by decide +kernel)) ggX5_carry_X5_isWithin
set_option maxRecDepth 20000 in
theorem ggX5_carry_X4_roomOf : GoodIn wsX5_carry wsX4_roomOf := goodIn_r _ [17, 18, 69, 70, 71, 72, 73] (by decide +kernel) (by decide +kernel)
set_option maxRecDepth 20000 in
theorem gX5_carry_X4_roomOf : GoodIn wsX5_carry (wsV RX5 116 RX4 yX4_roomOf wsX4_roomOf) := goodIn_app (goodIn_of _ (by decide +kernel)) ggX5_carry_X4_roomOf
set_option maxRecDepth 20000 in
theorem ggX5_carry_X4_howIs : GoodIn wsX5_carry wsX4_howIs := goodIn_r _ [22, 23, 24, 69, 70, 71, 72, 73] (by decide +kernel) (by decide +kernel)
set_option maxRecDepth 20000 in
theorem gX5_carry_X4_howIs : GoodIn wsX5_carry (wsV RX5 123 RX4 yX4_howIs wsX4_howIs) := goodIn_app (goodIn_of _ (by decide +kernel)) ggX5_carry_X4_howIs
set_option maxRecDepth 20000 in
theorem ggX5_carry_X4_packed : GoodIn wsX5_carry wsX4_packed := goodIn_r _ [28, 29, 30, 23, 24, 18, 69, 70, 71, 72, 73] (by decide +kernel) (by decide +kernel)
set_option maxRecDepth 20000 in
theorem gX5_carry_X4_packed : GoodIn wsX5_carry (wsV RX5 155 RX4 yX4_packed wsX4_packed) := goodIn_app (goodIn_of _ (by decide +kernel)) ggX5_carry_X4_packed
set_option maxRecDepth 20000 in
theorem ggX5_carry_X2_push : GoodIn wsX5_carry wsX2_push := goodIn_r _ [35, 36, 37, 38, 39, 40, 41, 42, 74, 75, 76] (by decide +kernel) (by decide +kernel)
set_option maxRecDepth 20000 in
theorem gX5_carry_X2_push : GoodIn wsX5_carry (wsV RX5 159 RX2 yX2_push wsX2_push) := goodIn_app (goodIn_of _ (by decide +kernel)) ggX5_carry_X2_push
set_option maxRecDepth 20000 in
theorem ggX5_carry_X4_move : GoodIn wsX5_carry wsX4_move := goodIn_r _ [46, 18, 69, 70, 71, 72, 73] (by decide +kernel) (by decide +kernel)
set_option maxRecDepth 20000 in
theorem gX5_carry_X4_move : GoodIn wsX5_carry (wsV RX5 173 RX4 yX4_move wsX4_move) := goodIn_app (goodIn_of _ (by decide +kernel)) ggX5_carry_X4_move
theorem dX5_carry_0 : decode cX5_carry 0 = .ok (.aload_n 0, 1) := by decide +kernel
theorem dX5_carry_1 : decode cX5_carry 1 = .ok (.iload_n 1, 1) := by decide +kernel
theorem dX5_carry_2 : decode cX5_carry 2 = .ok (.invokevirtual 109, 3) := by decide +kernel
theorem dX5_carry_5 : decode cX5_carry 5 = .ok (.ifCond .eq 12, 3) := by decide +kernel
theorem dX5_carry_8 : decode cX5_carry 8 = .ok (.iload_n 2, 1) := by decide +kernel
theorem dX5_carry_9 : decode cX5_carry 9 = .ok (.iconst 0, 1) := by decide +kernel
theorem dX5_carry_10 : decode cX5_carry 10 = .ok (.iconst 3, 1) := by decide +kernel
theorem dX5_carry_11 : decode cX5_carry 11 = .ok (.invokestatic 80, 3) := by decide +kernel
theorem dX5_carry_14 : decode cX5_carry 14 = .ok (.ifCond .ne 5, 3) := by decide +kernel
theorem dX5_carry_17 : decode cX5_carry 17 = .ok (.iconst (-1), 1) := by decide +kernel
theorem dX5_carry_18 : decode cX5_carry 18 = .ok (.ireturn, 1) := by decide +kernel
theorem dX5_carry_19 : decode cX5_carry 19 = .ok (.aload_n 0, 1) := by decide +kernel
theorem dX5_carry_20 : decode cX5_carry 20 = .ok (.getfield 29, 3) := by decide +kernel
theorem dX5_carry_23 : decode cX5_carry 23 = .ok (.iload_n 1, 1) := by decide +kernel
theorem dX5_carry_24 : decode cX5_carry 24 = .ok (.invokevirtual 116, 3) := by decide +kernel
theorem dX5_carry_27 : decode cX5_carry 27 = .ok (.istore_n 3, 1) := by decide +kernel
theorem dX5_carry_28 : decode cX5_carry 28 = .ok (.aload_n 0, 1) := by decide +kernel
theorem dX5_carry_29 : decode cX5_carry 29 = .ok (.getfield 29, 3) := by decide +kernel
theorem dX5_carry_32 : decode cX5_carry 32 = .ok (.iload_n 1, 1) := by decide +kernel
theorem dX5_carry_33 : decode cX5_carry 33 = .ok (.invokevirtual 123, 3) := by decide +kernel
theorem dX5_carry_36 : decode cX5_carry 36 = .ok (.iconst 2, 1) := by decide +kernel
theorem dX5_carry_37 : decode cX5_carry 37 = .ok (.if_icmp .eq 8, 3) := by decide +kernel
theorem dX5_carry_40 : decode cX5_carry 40 = .ok (.iload_n 3, 1) := by decide +kernel
theorem dX5_carry_41 : decode cX5_carry 41 = .ok (.iload_n 2, 1) := by decide +kernel
theorem dX5_carry_42 : decode cX5_carry 42 = .ok (.if_icmp .ne 6, 3) := by decide +kernel
theorem dX5_carry_45 : decode cX5_carry 45 = .ok (.bipush (-2), 2) := by decide +kernel
theorem dX5_carry_47 : decode cX5_carry 47 = .ok (.ireturn, 1) := by decide +kernel
theorem dX5_carry_48 : decode cX5_carry 48 = .ok (.aload_n 0, 1) := by decide +kernel
theorem dX5_carry_49 : decode cX5_carry 49 = .ok (.getfield 39, 3) := by decide +kernel
theorem dX5_carry_52 : decode cX5_carry 52 = .ok (.aload_n 0, 1) := by decide +kernel
theorem dX5_carry_53 : decode cX5_carry 53 = .ok (.getfield 29, 3) := by decide +kernel
theorem dX5_carry_56 : decode cX5_carry 56 = .ok (.invokevirtual 155, 3) := by decide +kernel
theorem dX5_carry_59 : decode cX5_carry 59 = .ok (.invokevirtual 159, 3) := by decide +kernel
theorem dX5_carry_62 : decode cX5_carry 62 = .ok (.aload_n 0, 1) := by decide +kernel
theorem dX5_carry_63 : decode cX5_carry 63 = .ok (.getfield 29, 3) := by decide +kernel
theorem dX5_carry_66 : decode cX5_carry 66 = .ok (.iload_n 1, 1) := by decide +kernel
theorem dX5_carry_67 : decode cX5_carry 67 = .ok (.iload_n 2, 1) := by decide +kernel
theorem dX5_carry_68 : decode cX5_carry 68 = .ok (.invokevirtual 173, 3) := by decide +kernel
theorem dX5_carry_71 : decode cX5_carry 71 = .ok (.iload_n 3, 1) := by decide +kernel
theorem dX5_carry_72 : decode cX5_carry 72 = .ok (.ireturn, 1) := by decide +kernel
set_option maxRecDepth 20000 in
theorem ggX5_undo_X2_pop : GoodIn wsX5_undo wsX2_pop := goodIn_r _ [8, 9, 10, 11, 12, 13, 14, 15, 38, 39, 40] (by decide +kernel) (by decide +kernel)
set_option maxRecDepth 20000 in
theorem gX5_undo_X2_pop : GoodIn wsX5_undo (wsV RX5 179 RX2 yX2_pop wsX2_pop) := goodIn_app (goodIn_of _ (by decide +kernel)) ggX5_undo_X2_pop
set_option maxRecDepth 20000 in
theorem ggX5_undo_X4_unpack : GoodIn wsX5_undo wsX4_unpack := goodIn_r _ [20, 21, 22, 23, 24, 25, 26, 27, 41, 42, 43, 44, 45] (by decide +kernel) (by decide +kernel)
set_option maxRecDepth 20000 in
theorem gX5_undo_X4_unpack : GoodIn wsX5_undo (wsV RX5 182 RX4 yX4_unpack wsX4_unpack) := goodIn_app (goodIn_of _ (by decide +kernel)) ggX5_undo_X4_unpack
theorem dX5_undo_0 : decode cX5_undo 0 = .ok (.aload_n 0, 1) := by decide +kernel
theorem dX5_undo_1 : decode cX5_undo 1 = .ok (.getfield 39, 3) := by decide +kernel
theorem dX5_undo_4 : decode cX5_undo 4 = .ok (.getfield 176, 3) := by decide +kernel
theorem dX5_undo_7 : decode cX5_undo 7 = .ok (.ifCond .ne 6, 3) := by decide +kernel
theorem dX5_undo_10 : decode cX5_undo 10 = .ok (.bipush (-2), 2) := by decide +kernel
theorem dX5_undo_12 : decode cX5_undo 12 = .ok (.ireturn, 1) := by decide +kernel
theorem dX5_undo_13 : decode cX5_undo 13 = .ok (.aload_n 0, 1) := by decide +kernel
theorem dX5_undo_14 : decode cX5_undo 14 = .ok (.getfield 29, 3) := by decide +kernel
theorem dX5_undo_17 : decode cX5_undo 17 = .ok (.aload_n 0, 1) := by decide +kernel
theorem dX5_undo_18 : decode cX5_undo 18 = .ok (.getfield 39, 3) := by decide +kernel
theorem dX5_undo_21 : decode cX5_undo 21 = .ok (.invokevirtual 179, 3) := by decide +kernel
theorem dX5_undo_24 : decode cX5_undo 24 = .ok (.invokevirtual 182, 3) := by decide +kernel
theorem dX5_undo_27 : decode cX5_undo 27 = .ok (.aload_n 0, 1) := by decide +kernel
theorem dX5_undo_28 : decode cX5_undo 28 = .ok (.getfield 39, 3) := by decide +kernel
theorem dX5_undo_31 : decode cX5_undo 31 = .ok (.getfield 176, 3) := by decide +kernel
theorem dX5_undo_34 : decode cX5_undo 34 = .ok (.ireturn, 1) := by decide +kernel
set_option maxRecDepth 20000 in
theorem ggX5_hush_X5_isDeed : GoodIn wsX5_hush wsX5_isDeed := goodIn_r _ [5, 6, 7, 8, 9, 4, 10, 72, 73, 74, 75, 76, 77, 78, 79, 80, 81, 82, 83, 84, 85, 86, 87, 88, 89, 90, 91, 92, 93] (by decide +kernel) (by decide +kernel)
set_option maxRecDepth 20000 in
theorem gX5_hush_X5_isDeed : GoodIn wsX5_hush (wsV RX5 134 RX5 yX5_isDeed wsX5_isDeed) := goodIn_app (goodIn_of _ (by decide +kernel)) ggX5_hush_X5_isDeed
set_option maxRecDepth 20000 in
theorem ggX5_hush_X5_isWithin : GoodIn wsX5_hush wsX5_isWithin := goodIn_r _ [10] (by decide +kernel) (by decide +kernel)
set_option maxRecDepth 20000 in
theorem gX5_hush_X5_isWithin : GoodIn wsX5_hush (va_wsS RX5 80 yX5_isWithin wsX5_isWithin) := goodIn_app (goodIn_of _ (by decide +kernel)) ggX5_hush_X5_isWithin
set_option maxRecDepth 20000 in
theorem ggX5_hush_X5_hasComeOut : GoodIn wsX5_hush wsX5_hasComeOut := goodIn_r _ [14, 15, 16, 72, 73, 74, 75, 76, 77, 78, 79, 80, 81, 94, 95, 96, 97, 98] (by decide +kernel) (by decide +kernel)
set_option maxRecDepth 20000 in
theorem gX5_hush_X5_hasComeOut : GoodIn wsX5_hush (wsV RX5 149 RX5 yX5_hasComeOut wsX5_hasComeOut) := goodIn_app (goodIn_of _ (by decide +kernel)) ggX5_hush_X5_hasComeOut
set_option maxRecDepth 20000 in
theorem ggX5_hush_X5_silence : GoodIn wsX5_hush wsX5_silence := goodIn_r _ [20, 6, 21, 22, 23, 4, 24, 25, 15, 26, 27, 28, 29, 30, 31, 32, 33, 34, 35, 36, 37, 38, 39, 40, 41, 42, 43, 44, 45, 46, 47, 48, 49, 50, 51, 52, 53, 54, 55, 56, 57, 58, 59, 60, 61, 62, 63, 64, 65, 66, 67, 68, 69, 70, 71, 72, 73, 74, 75, 76, 77, 78, 79, 80, 81, 82, 83, 84, 85, 86, 87, 88, 89, 90, 91, 92, 93, 94, 95, 96, 97, 98] (by decide +kernel) (by decide +kernel)
set_option maxRecDepth 20000 in
theorem gX5_hush_X5_silence : GoodIn wsX5_hush (wsV RX5 185 RX5 yX5_silence wsX5_silence) := goodIn_app (goodIn_of _ (by decide +kernel)) ggX5_hush_X5_silence
theorem dX5_hush_0 : decode cX5_hush 0 = .ok (.aload_n 0, 1) := by decide +kernel
theorem dX5_hush_1 : decode cX5_hush 1 = .ok (.iload_n 1, 1) := by decide +kernel
theorem dX5_hush_2 : decode cX5_hush 2 = .ok (.invokevirtual 134, 3) := by decide +kernel
theorem dX5_hush_5 : decode cX5_hush 5 = .ok (.ifCond .eq 12, 3) := by decide +kernel
theorem dX5_hush_8 : decode cX5_hush 8 = .ok (.iload_n 2, 1) := by decide +kernel
theorem dX5_hush_9 : decode cX5_hush 9 = .ok (.iconst 0, 1) := by decide +kernel
theorem dX5_hush_10 : decode cX5_hush 10 = .ok (.iconst 1, 1) := by decide +kernel
theorem dX5_hush_11 : decode cX5_hush 11 = .ok (.invokestatic 80, 3) := by decide +kernel
theorem dX5_hush_14 : decode cX5_hush 14 = .ok (.ifCond .ne 5, 3) := by decide +kernel
theorem dX5_hush_17 : decode cX5_hush 17 = .ok (.iconst (-1), 1) := by decide +kernel
theorem dX5_hush_18 : decode cX5_hush 18 = .ok (.ireturn, 1) := by decide +kernel
theorem dX5_hush_19 : decode cX5_hush 19 = .ok (.aload_n 0, 1) := by decide +kernel
theorem dX5_hush_20 : decode cX5_hush 20 = .ok (.iload_n 1, 1) := by decide +kernel
theorem dX5_hush_21 : decode cX5_hush 21 = .ok (.invokevirtual 149, 3) := by decide +kernel
theorem dX5_hush_24 : decode cX5_hush 24 = .ok (.ifCond .eq 6, 3) := by decide +kernel
theorem dX5_hush_27 : decode cX5_hush 27 = .ok (.bipush (-4), 2) := by decide +kernel
theorem dX5_hush_29 : decode cX5_hush 29 = .ok (.ireturn, 1) := by decide +kernel
theorem dX5_hush_30 : decode cX5_hush 30 = .ok (.aload_n 0, 1) := by decide +kernel
theorem dX5_hush_31 : decode cX5_hush 31 = .ok (.iconst 1, 1) := by decide +kernel
theorem dX5_hush_32 : decode cX5_hush 32 = .ok (.iload_n 1, 1) := by decide +kernel
theorem dX5_hush_33 : decode cX5_hush 33 = .ok (.ishl, 1) := by decide +kernel
theorem dX5_hush_34 : decode cX5_hush 34 = .ok (.iload_n 2, 1) := by decide +kernel
theorem dX5_hush_35 : decode cX5_hush 35 = .ok (.invokevirtual 185, 3) := by decide +kernel
theorem dX5_hush_38 : decode cX5_hush 38 = .ok (.ireturn, 1) := by decide +kernel
set_option maxRecDepth 20000 in
theorem ggX5_hushAll_X5_isWithin : GoodIn wsX5_hushAll wsX5_isWithin := goodIn_r _ [7] (by decide +kernel) (by decide +kernel)
set_option maxRecDepth 20000 in
theorem gX5_hushAll_X5_isWithin : GoodIn wsX5_hushAll (va_wsS RX5 80 yX5_isWithin wsX5_isWithin) := goodIn_app (goodIn_of _ (by decide +kernel)) ggX5_hushAll_X5_isWithin
set_option maxRecDepth 20000 in
theorem ggX5_hushAll_X0_deedsAsHeavyAs : GoodIn wsX5_hushAll wsX0_deedsAsHeavyAs := goodIn_r _ [12, 13, 14, 82, 83, 84, 85, 86, 87, 88, 89, 90, 91, 92, 93] (by decide +kernel) (by decide +kernel)
set_option maxRecDepth 20000 in
theorem gX5_hushAll_X0_deedsAsHeavyAs : GoodIn wsX5_hushAll (wsV RX5 188 RX0 yX0_deedsAsHeavyAs wsX0_deedsAsHeavyAs) := goodIn_app (goodIn_of _ (by decide +kernel)) ggX5_hushAll_X0_deedsAsHeavyAs
set_option maxRecDepth 20000 in
theorem ggX5_hushAll_X5_silence : GoodIn wsX5_hushAll wsX5_silence := goodIn_r _ [18, 1, 19, 20, 21, 6, 22, 23, 2, 24, 25, 26, 27, 28, 29, 30, 31, 32, 33, 34, 35, 36, 37, 38, 11, 39, 40, 41, 42, 43, 44, 45, 46, 47, 48, 49, 13, 50, 51, 52, 14, 53, 54, 55, 56, 57, 58, 59, 60, 61, 62, 63, 64, 65, 66, 67, 68, 69, 70, 71, 72, 73, 74, 75, 76, 82, 83, 84, 85, 86, 87, 88, 89, 90, 91, 92, 93, 77, 78, 79, 80, 81] (by decide +kernel) (by decide +kernel)
set_option maxRecDepth 20000 in
theorem gX5_hushAll_X5_silence : GoodIn wsX5_hushAll (wsV RX5 185 RX5 yX5_silence wsX5_silence) := goodIn_app (goodIn_of _ (by decide +kernel)) ggX5_hushAll_X5_silence
theorem dX5_hushAll_0 : decode cX5_hushAll 0 = .ok (.iload_n 1, 1) := by decide +kernel
theorem dX5_hushAll_1 : decode cX5_hushAll 1 = .ok (.iconst 1, 1) := by decide +kernel
theorem dX5_hushAll_2 : decode cX5_hushAll 2 = .ok (.bipush 30, 2) := by decide +kernel
theorem dX5_hushAll_4 : decode cX5_hushAll 4 = .ok (.invokestatic 80, 3) := by decide +kernel
theorem dX5_hushAll_7 : decode cX5_hushAll 7 = .ok (.ifCond .eq 12, 3) := by decide +kernel
theorem dX5_hushAll_10 : decode cX5_hushAll 10 = .ok (.iload_n 2, 1) := by decide +kernel
theorem dX5_hushAll_11 : decode cX5_hushAll 11 = .ok (.iconst 0, 1) := by decide +kernel
theorem dX5_hushAll_12 : decode cX5_hushAll 12 = .ok (.iconst 1, 1) := by decide +kernel
theorem dX5_hushAll_13 : decode cX5_hushAll 13 = .ok (.invokestatic 80, 3) := by decide +kernel
theorem dX5_hushAll_16 : decode cX5_hushAll 16 = .ok (.ifCond .ne 5, 3) := by decide +kernel
theorem dX5_hushAll_19 : decode cX5_hushAll 19 = .ok (.iconst (-1), 1) := by decide +kernel
theorem dX5_hushAll_20 : decode cX5_hushAll 20 = .ok (.ireturn, 1) := by decide +kernel
theorem dX5_hushAll_21 : decode cX5_hushAll 21 = .ok (.aload_n 0, 1) := by decide +kernel
theorem dX5_hushAll_22 : decode cX5_hushAll 22 = .ok (.aload_n 0, 1) := by decide +kernel
theorem dX5_hushAll_23 : decode cX5_hushAll 23 = .ok (.getfield 19, 3) := by decide +kernel
theorem dX5_hushAll_26 : decode cX5_hushAll 26 = .ok (.iload_n 1, 1) := by decide +kernel
theorem dX5_hushAll_27 : decode cX5_hushAll 27 = .ok (.invokevirtual 188, 3) := by decide +kernel
theorem dX5_hushAll_30 : decode cX5_hushAll 30 = .ok (.aload_n 0, 1) := by decide +kernel
theorem dX5_hushAll_31 : decode cX5_hushAll 31 = .ok (.getfield 29, 3) := by decide +kernel
theorem dX5_hushAll_34 : decode cX5_hushAll 34 = .ok (.getfield 191, 3) := by decide +kernel
theorem dX5_hushAll_37 : decode cX5_hushAll 37 = .ok (.iconst (-1), 1) := by decide +kernel
theorem dX5_hushAll_38 : decode cX5_hushAll 38 = .ok (.ixor, 1) := by decide +kernel
theorem dX5_hushAll_39 : decode cX5_hushAll 39 = .ok (.iand, 1) := by decide +kernel
theorem dX5_hushAll_40 : decode cX5_hushAll 40 = .ok (.iload_n 2, 1) := by decide +kernel
theorem dX5_hushAll_41 : decode cX5_hushAll 41 = .ok (.invokevirtual 185, 3) := by decide +kernel
theorem dX5_hushAll_44 : decode cX5_hushAll 44 = .ok (.ireturn, 1) := by decide +kernel
set_option maxRecDepth 20000 in
theorem ggX5_hushOne_X5_isPerson : GoodIn wsX5_hushOne wsX5_isPerson := goodIn_r _ [7, 8, 9, 6, 10] (by decide +kernel) (by decide +kernel)
set_option maxRecDepth 20000 in
theorem gX5_hushOne_X5_isPerson : GoodIn wsX5_hushOne (va_wsS RX5 194 yX5_isPerson wsX5_isPerson) := goodIn_app (goodIn_of _ (by decide +kernel)) ggX5_hushOne_X5_isPerson
set_option maxRecDepth 20000 in
theorem ggX5_hushOne_X5_isWithin : GoodIn wsX5_hushOne wsX5_isWithin := goodIn_r _ [10] (by decide +kernel) (by decide +kernel)
set_option maxRecDepth 20000 in
theorem gX5_hushOne_X5_isWithin : GoodIn wsX5_hushOne (va_wsS RX5 80 yX5_isWithin wsX5_isWithin) := goodIn_app (goodIn_of _ (by decide +kernel)) ggX5_hushOne_X5_isWithin
set_option maxRecDepth 20000 in
theorem ggX5_hushOne_X0_deedsOf : GoodIn wsX5_hushOne wsX0_deedsOf := goodIn_r _ [15, 16, 17, 86, 87, 88, 89, 90, 91, 92, 93, 94, 95, 96, 97] (by decide +kernel) (by decide +kernel)
set_option maxRecDepth 20000 in
theorem gX5_hushOne_X0_deedsOf : GoodIn wsX5_hushOne (wsV RX5 197 RX0 yX0_deedsOf wsX0_deedsOf) := goodIn_app (goodIn_of _ (by decide +kernel)) ggX5_hushOne_X0_deedsOf
set_option maxRecDepth 20000 in
theorem ggX5_hushOne_X5_silence : GoodIn wsX5_hushOne wsX5_silence := goodIn_r _ [21, 1, 22, 23, 24, 6, 25, 26, 2, 27, 28, 29, 30, 31, 32, 33, 34, 35, 36, 37, 38, 39, 40, 41, 14, 42, 43, 44, 45, 46, 47, 48, 49, 50, 51, 52, 16, 53, 54, 55, 56, 57, 58, 59, 60, 61, 62, 63, 64, 65, 66, 67, 68, 69, 70, 71, 72, 73, 74, 75, 76, 77, 78, 79, 80, 86, 87, 88, 89, 90, 91, 92, 93, 94, 95, 96, 97, 81, 82, 83, 84, 85] (by decide +kernel) (by decide +kernel)
set_option maxRecDepth 20000 in
theorem gX5_hushOne_X5_silence : GoodIn wsX5_hushOne (wsV RX5 185 RX5 yX5_silence wsX5_silence) := goodIn_app (goodIn_of _ (by decide +kernel)) ggX5_hushOne_X5_silence
theorem dX5_hushOne_0 : decode cX5_hushOne 0 = .ok (.iload_n 1, 1) := by decide +kernel
theorem dX5_hushOne_1 : decode cX5_hushOne 1 = .ok (.invokestatic 194, 3) := by decide +kernel
theorem dX5_hushOne_4 : decode cX5_hushOne 4 = .ok (.ifCond .eq 12, 3) := by decide +kernel
theorem dX5_hushOne_7 : decode cX5_hushOne 7 = .ok (.iload_n 2, 1) := by decide +kernel
theorem dX5_hushOne_8 : decode cX5_hushOne 8 = .ok (.iconst 0, 1) := by decide +kernel
theorem dX5_hushOne_9 : decode cX5_hushOne 9 = .ok (.iconst 1, 1) := by decide +kernel
theorem dX5_hushOne_10 : decode cX5_hushOne 10 = .ok (.invokestatic 80, 3) := by decide +kernel
theorem dX5_hushOne_13 : decode cX5_hushOne 13 = .ok (.ifCond .ne 5, 3) := by decide +kernel
theorem dX5_hushOne_16 : decode cX5_hushOne 16 = .ok (.iconst (-1), 1) := by decide +kernel
theorem dX5_hushOne_17 : decode cX5_hushOne 17 = .ok (.ireturn, 1) := by decide +kernel
theorem dX5_hushOne_18 : decode cX5_hushOne 18 = .ok (.aload_n 0, 1) := by decide +kernel
theorem dX5_hushOne_19 : decode cX5_hushOne 19 = .ok (.aload_n 0, 1) := by decide +kernel
theorem dX5_hushOne_20 : decode cX5_hushOne 20 = .ok (.getfield 19, 3) := by decide +kernel
theorem dX5_hushOne_23 : decode cX5_hushOne 23 = .ok (.iload_n 1, 1) := by decide +kernel
theorem dX5_hushOne_24 : decode cX5_hushOne 24 = .ok (.invokevirtual 197, 3) := by decide +kernel
theorem dX5_hushOne_27 : decode cX5_hushOne 27 = .ok (.aload_n 0, 1) := by decide +kernel
theorem dX5_hushOne_28 : decode cX5_hushOne 28 = .ok (.getfield 29, 3) := by decide +kernel
theorem dX5_hushOne_31 : decode cX5_hushOne 31 = .ok (.getfield 191, 3) := by decide +kernel
theorem dX5_hushOne_34 : decode cX5_hushOne 34 = .ok (.iconst (-1), 1) := by decide +kernel
theorem dX5_hushOne_35 : decode cX5_hushOne 35 = .ok (.ixor, 1) := by decide +kernel
theorem dX5_hushOne_36 : decode cX5_hushOne 36 = .ok (.iand, 1) := by decide +kernel
theorem dX5_hushOne_37 : decode cX5_hushOne 37 = .ok (.iload_n 2, 1) := by decide +kernel
theorem dX5_hushOne_38 : decode cX5_hushOne 38 = .ok (.invokevirtual 185, 3) := by decide +kernel
theorem dX5_hushOne_41 : decode cX5_hushOne 41 = .ok (.ireturn, 1) := by decide +kernel
set_option maxRecDepth 20000 in
theorem ggX5_save_X5_isWithin : GoodIn wsX5_save wsX5_isWithin := goodIn_r _ [8] (by decide +kernel) (by decide +kernel)
set_option maxRecDepth 20000 in
theorem gX5_save_X5_isWithin : GoodIn wsX5_save (va_wsS RX5 80 yX5_isWithin wsX5_isWithin) := goodIn_app (goodIn_of _ (by decide +kernel)) ggX5_save_X5_isWithin
set_option maxRecDepth 20000 in
theorem ggX5_save_X5_fillTold : GoodIn wsX5_save wsX5_fillTold := goodIn_r _ [12, 1, 2, 13, 3, 14, 15, 16, 17, 18, 19, 20, 21, 22, 23, 24, 25, 26, 27, 28, 29, 30, 31, 32, 33, 34, 35, 36, 37, 77, 78, 79, 80, 81, 82, 83, 84, 85, 86, 87, 88, 89, 90, 91, 92, 93, 94, 95, 96, 97, 98, 99, 100, 101, 102, 103] (by decide +kernel) (by decide +kernel)
set_option maxRecDepth 20000 in
theorem gX5_save_X5_fillTold : GoodIn wsX5_save (wsV RX5 200 RX5 yX5_fillTold wsX5_fillTold) := goodIn_app (goodIn_of _ (by decide +kernel)) ggX5_save_X5_fillTold
set_option maxRecDepth 20000 in
theorem ggX5_save_X5_looseOnes : GoodIn wsX5_save wsX5_looseOnes := goodIn_r _ [41, 1, 2, 3, 42, 43, 44, 7, 45, 46, 47, 48, 49, 17, 50, 51, 52, 53, 54, 55, 23, 56, 57, 77, 78, 79, 80, 81, 82, 83, 84, 85, 86, 87, 88, 89, 90, 91, 92, 93, 94, 95, 96, 97, 98, 99, 100, 101, 102, 103] (by decide +kernel) (by decide +kernel)
set_option maxRecDepth 20000 in
theorem gX5_save_X5_looseOnes : GoodIn wsX5_save (wsV RX5 203 RX5 yX5_looseOnes wsX5_looseOnes) := goodIn_app (goodIn_of _ (by decide +kernel)) ggX5_save_X5_looseOnes
set_option maxRecDepth 20000 in
theorem ggX5_save_X5_weightLeft : GoodIn wsX5_save wsX5_weightLeft := goodIn_r _ [61, 1, 3, 62, 63, 64, 65, 7, 66, 2, 13, 67, 68, 69, 23, 70, 25, 29, 77, 78, 79, 80, 81, 82, 83, 84, 85, 86, 99, 100, 101, 102, 103, 87, 88, 89, 90, 91, 92, 93, 94, 95, 96, 97, 98] (by decide +kernel) (by decide +kernel)
set_option maxRecDepth 20000 in
theorem gX5_save_X5_weightLeft : GoodIn wsX5_save (wsV RX5 206 RX5 yX5_weightLeft wsX5_weightLeft) := goodIn_app (goodIn_of _ (by decide +kernel)) ggX5_save_X5_weightLeft
set_option maxRecDepth 20000 in
theorem ggX5_save_X0_priceOf : GoodIn wsX5_save wsX0_priceOf := goodIn_r _ [74, 75, 76, 87, 88, 89, 90, 91, 92, 93, 94, 95, 96, 97, 98] (by decide +kernel) (by decide +kernel)
set_option maxRecDepth 20000 in
theorem gX5_save_X0_priceOf : GoodIn wsX5_save (wsV RX5 209 RX0 yX0_priceOf wsX0_priceOf) := goodIn_app (goodIn_of _ (by decide +kernel)) ggX5_save_X0_priceOf
theorem dX5_save_0 : decode cX5_save 0 = .ok (.iload_n 1, 1) := by decide +kernel
theorem dX5_save_1 : decode cX5_save 1 = .ok (.iconst 0, 1) := by decide +kernel
theorem dX5_save_2 : decode cX5_save 2 = .ok (.iconst 1, 1) := by decide +kernel
theorem dX5_save_3 : decode cX5_save 3 = .ok (.invokestatic 80, 3) := by decide +kernel
theorem dX5_save_6 : decode cX5_save 6 = .ok (.ifCond .ne 5, 3) := by decide +kernel
theorem dX5_save_9 : decode cX5_save 9 = .ok (.iconst (-1), 1) := by decide +kernel
theorem dX5_save_10 : decode cX5_save 10 = .ok (.ireturn, 1) := by decide +kernel
theorem dX5_save_11 : decode cX5_save 11 = .ok (.aload_n 0, 1) := by decide +kernel
theorem dX5_save_12 : decode cX5_save 12 = .ok (.invokevirtual 200, 3) := by decide +kernel
theorem dX5_save_15 : decode cX5_save 15 = .ok (.aload_n 0, 1) := by decide +kernel
theorem dX5_save_16 : decode cX5_save 16 = .ok (.invokevirtual 203, 3) := by decide +kernel
theorem dX5_save_19 : decode cX5_save 19 = .ok (.istore_n 2, 1) := by decide +kernel
theorem dX5_save_20 : decode cX5_save 20 = .ok (.iconst 0, 1) := by decide +kernel
theorem dX5_save_21 : decode cX5_save 21 = .ok (.istore_n 3, 1) := by decide +kernel
theorem dX5_save_22 : decode cX5_save 22 = .ok (.aload_n 0, 1) := by decide +kernel
theorem dX5_save_23 : decode cX5_save 23 = .ok (.iload_n 2, 1) := by decide +kernel
theorem dX5_save_24 : decode cX5_save 24 = .ok (.invokevirtual 206, 3) := by decide +kernel
theorem dX5_save_27 : decode cX5_save 27 = .ok (.istore 4, 2) := by decide +kernel
theorem dX5_save_29 : decode cX5_save 29 = .ok (.iconst 1, 1) := by decide +kernel
theorem dX5_save_30 : decode cX5_save 30 = .ok (.istore 5, 2) := by decide +kernel
theorem dX5_save_32 : decode cX5_save 32 = .ok (.iload 5, 2) := by decide +kernel
theorem dX5_save_34 : decode cX5_save 34 = .ok (.iconst 1, 1) := by decide +kernel
theorem dX5_save_35 : decode cX5_save 35 = .ok (.aload_n 0, 1) := by decide +kernel
theorem dX5_save_36 : decode cX5_save 36 = .ok (.getfield 19, 3) := by decide +kernel
theorem dX5_save_39 : decode cX5_save 39 = .ok (.getfield 91, 3) := by decide +kernel
theorem dX5_save_42 : decode cX5_save 42 = .ok (.ishl, 1) := by decide +kernel
theorem dX5_save_43 : decode cX5_save 43 = .ok (.if_icmp .ge 66, 3) := by decide +kernel
theorem dX5_save_46 : decode cX5_save 46 = .ok (.iload 5, 2) := by decide +kernel
theorem dX5_save_48 : decode cX5_save 48 = .ok (.iload_n 2, 1) := by decide +kernel
theorem dX5_save_49 : decode cX5_save 49 = .ok (.iconst (-1), 1) := by decide +kernel
theorem dX5_save_50 : decode cX5_save 50 = .ok (.ixor, 1) := by decide +kernel
theorem dX5_save_51 : decode cX5_save 51 = .ok (.iand, 1) := by decide +kernel
theorem dX5_save_52 : decode cX5_save 52 = .ok (.ifCond .ne 51, 3) := by decide +kernel
theorem dX5_save_55 : decode cX5_save 55 = .ok (.aload_n 0, 1) := by decide +kernel
theorem dX5_save_56 : decode cX5_save 56 = .ok (.getfield 19, 3) := by decide +kernel
theorem dX5_save_59 : decode cX5_save 59 = .ok (.iload 5, 2) := by decide +kernel
theorem dX5_save_61 : decode cX5_save 61 = .ok (.invokevirtual 209, 3) := by decide +kernel
theorem dX5_save_64 : decode cX5_save 64 = .ok (.aload_n 0, 1) := by decide +kernel
theorem dX5_save_65 : decode cX5_save 65 = .ok (.getfield 29, 3) := by decide +kernel
theorem dX5_save_68 : decode cX5_save 68 = .ok (.getfield 172, 3) := by decide +kernel
theorem dX5_save_71 : decode cX5_save 71 = .ok (.if_icmp .le 6, 3) := by decide +kernel
theorem dX5_save_74 : decode cX5_save 74 = .ok (.goto 29, 3) := by decide +kernel
theorem dX5_save_77 : decode cX5_save 77 = .ok (.aload_n 0, 1) := by decide +kernel
theorem dX5_save_78 : decode cX5_save 78 = .ok (.iload_n 2, 1) := by decide +kernel
theorem dX5_save_79 : decode cX5_save 79 = .ok (.iload 5, 2) := by decide +kernel
theorem dX5_save_81 : decode cX5_save 81 = .ok (.iconst (-1), 1) := by decide +kernel
theorem dX5_save_82 : decode cX5_save 82 = .ok (.ixor, 1) := by decide +kernel
theorem dX5_save_83 : decode cX5_save 83 = .ok (.iand, 1) := by decide +kernel
theorem dX5_save_84 : decode cX5_save 84 = .ok (.invokevirtual 206, 3) := by decide +kernel
theorem dX5_save_87 : decode cX5_save 87 = .ok (.istore 6, 2) := by decide +kernel
theorem dX5_save_89 : decode cX5_save 89 = .ok (.iload 6, 2) := by decide +kernel
theorem dX5_save_91 : decode cX5_save 91 = .ok (.iload 4, 2) := by decide +kernel
theorem dX5_save_93 : decode cX5_save 93 = .ok (.if_icmp .ge 10, 3) := by decide +kernel
theorem dX5_save_96 : decode cX5_save 96 = .ok (.iload 6, 2) := by decide +kernel
theorem dX5_save_98 : decode cX5_save 98 = .ok (.istore 4, 2) := by decide +kernel
theorem dX5_save_100 : decode cX5_save 100 = .ok (.iload 5, 2) := by decide +kernel
theorem dX5_save_102 : decode cX5_save 102 = .ok (.istore_n 3, 1) := by decide +kernel
theorem dX5_save_103 : decode cX5_save 103 = .ok (.iinc 5 1, 3) := by decide +kernel
theorem dX5_save_106 : decode cX5_save 106 = .ok (.goto (-74), 3) := by decide +kernel
theorem dX5_save_109 : decode cX5_save 109 = .ok (.iload_n 1, 1) := by decide +kernel
theorem dX5_save_110 : decode cX5_save 110 = .ok (.ifCond .ne 8, 3) := by decide +kernel
theorem dX5_save_113 : decode cX5_save 113 = .ok (.iload 4, 2) := by decide +kernel
theorem dX5_save_115 : decode cX5_save 115 = .ok (.goto 4, 3) := by decide +kernel
theorem dX5_save_118 : decode cX5_save 118 = .ok (.iload_n 3, 1) := by decide +kernel
theorem dX5_save_119 : decode cX5_save 119 = .ok (.ireturn, 1) := by decide +kernel
set_option maxRecDepth 20000 in
theorem ggX5_together_X5_isPiece : GoodIn wsX5_together wsX5_isPiece := goodIn_r _ [7, 1, 8, 9, 10, 6, 11, 36, 37, 38, 39, 40, 41, 42, 43, 44, 45, 46, 47, 48, 49, 50, 51, 52, 53, 54, 55, 56, 57] (by decide +kernel) (by decide +kernel)
set_option maxRecDepth 20000 in
theorem gX5_together_X5_isPiece : GoodIn wsX5_together (wsV RX5 109 RX5 yX5_isPiece wsX5_isPiece) := goodIn_app (goodIn_of _ (by decide +kernel)) ggX5_together_X5_isPiece
set_option maxRecDepth 20000 in
theorem ggX5_together_X4_roomOf : GoodIn wsX5_together wsX4_roomOf := goodIn_r _ [16, 17, 58, 59, 60, 61, 62] (by decide +kernel) (by decide +kernel)
set_option maxRecDepth 20000 in
theorem gX5_together_X4_roomOf : GoodIn wsX5_together (wsV RX5 116 RX4 yX4_roomOf wsX4_roomOf) := goodIn_app (goodIn_of _ (by decide +kernel)) ggX5_together_X4_roomOf
set_option maxRecDepth 20000 in
theorem ggX5_together_X0_toldBy : GoodIn wsX5_together wsX0_toldBy := goodIn_r _ [22, 23, 24, 25, 26, 27, 28, 29, 30, 21, 31, 32, 33, 34, 35, 46, 47, 48, 49, 50, 51, 52, 53, 54, 55, 56, 57] (by decide +kernel) (by decide +kernel)
set_option maxRecDepth 20000 in
theorem gX5_together_X0_toldBy : GoodIn wsX5_together (wsV RX5 126 RX0 yX0_toldBy wsX0_toldBy) := goodIn_app (goodIn_of _ (by decide +kernel)) ggX5_together_X0_toldBy
theorem dX5_together_0 : decode cX5_together 0 = .ok (.aload_n 0, 1) := by decide +kernel
theorem dX5_together_1 : decode cX5_together 1 = .ok (.iload_n 1, 1) := by decide +kernel
theorem dX5_together_2 : decode cX5_together 2 = .ok (.invokevirtual 109, 3) := by decide +kernel
theorem dX5_together_5 : decode cX5_together 5 = .ok (.ifCond .eq 16, 3) := by decide +kernel
theorem dX5_together_8 : decode cX5_together 8 = .ok (.aload_n 0, 1) := by decide +kernel
theorem dX5_together_9 : decode cX5_together 9 = .ok (.iload_n 2, 1) := by decide +kernel
theorem dX5_together_10 : decode cX5_together 10 = .ok (.invokevirtual 109, 3) := by decide +kernel
theorem dX5_together_13 : decode cX5_together 13 = .ok (.ifCond .eq 8, 3) := by decide +kernel
theorem dX5_together_16 : decode cX5_together 16 = .ok (.iload_n 1, 1) := by decide +kernel
theorem dX5_together_17 : decode cX5_together 17 = .ok (.iload_n 2, 1) := by decide +kernel
theorem dX5_together_18 : decode cX5_together 18 = .ok (.if_icmp .ne 5, 3) := by decide +kernel
theorem dX5_together_21 : decode cX5_together 21 = .ok (.iconst (-1), 1) := by decide +kernel
theorem dX5_together_22 : decode cX5_together 22 = .ok (.ireturn, 1) := by decide +kernel
theorem dX5_together_23 : decode cX5_together 23 = .ok (.aload_n 0, 1) := by decide +kernel
theorem dX5_together_24 : decode cX5_together 24 = .ok (.getfield 19, 3) := by decide +kernel
theorem dX5_together_27 : decode cX5_together 27 = .ok (.iload_n 1, 1) := by decide +kernel
theorem dX5_together_28 : decode cX5_together 28 = .ok (.aload_n 0, 1) := by decide +kernel
theorem dX5_together_29 : decode cX5_together 29 = .ok (.getfield 29, 3) := by decide +kernel
theorem dX5_together_32 : decode cX5_together 32 = .ok (.iload_n 1, 1) := by decide +kernel
theorem dX5_together_33 : decode cX5_together 33 = .ok (.invokevirtual 116, 3) := by decide +kernel
theorem dX5_together_36 : decode cX5_together 36 = .ok (.invokevirtual 126, 3) := by decide +kernel
theorem dX5_together_39 : decode cX5_together 39 = .ok (.aload_n 0, 1) := by decide +kernel
theorem dX5_together_40 : decode cX5_together 40 = .ok (.getfield 19, 3) := by decide +kernel
theorem dX5_together_43 : decode cX5_together 43 = .ok (.iload_n 2, 1) := by decide +kernel
theorem dX5_together_44 : decode cX5_together 44 = .ok (.aload_n 0, 1) := by decide +kernel
theorem dX5_together_45 : decode cX5_together 45 = .ok (.getfield 29, 3) := by decide +kernel
theorem dX5_together_48 : decode cX5_together 48 = .ok (.iload_n 2, 1) := by decide +kernel
theorem dX5_together_49 : decode cX5_together 49 = .ok (.invokevirtual 116, 3) := by decide +kernel
theorem dX5_together_52 : decode cX5_together 52 = .ok (.invokevirtual 126, 3) := by decide +kernel
theorem dX5_together_55 : decode cX5_together 55 = .ok (.iand, 1) := by decide +kernel
theorem dX5_together_56 : decode cX5_together 56 = .ok (.ireturn, 1) := by decide +kernel
set_option maxRecDepth 20000 in
theorem ggX5_cover_X5_isWithin : GoodIn wsX5_cover wsX5_isWithin := goodIn_r _ [6] (by decide +kernel) (by decide +kernel)
set_option maxRecDepth 20000 in
theorem gX5_cover_X5_isWithin : GoodIn wsX5_cover (va_wsS RX5 80 yX5_isWithin wsX5_isWithin) := goodIn_app (goodIn_of _ (by decide +kernel)) ggX5_cover_X5_isWithin
set_option maxRecDepth 20000 in
theorem ggX5_cover_X5_fillTold : GoodIn wsX5_cover wsX5_fillTold := goodIn_r _ [10, 1, 2, 11, 12, 13, 14, 15, 16, 17, 18, 19, 20, 21, 22, 23, 24, 25, 26, 27, 28, 29, 30, 31, 32, 33, 34, 35, 36, 68, 69, 70, 71, 72, 73, 74, 75, 76, 77, 78, 79, 80, 81, 82, 83, 84, 85, 86, 87, 88, 89, 90, 91, 92, 93, 94] (by decide +kernel) (by decide +kernel)
set_option maxRecDepth 20000 in
theorem gX5_cover_X5_fillTold : GoodIn wsX5_cover (wsV RX5 200 RX5 yX5_fillTold wsX5_fillTold) := goodIn_app (goodIn_of _ (by decide +kernel)) ggX5_cover_X5_fillTold
set_option maxRecDepth 20000 in
theorem ggX5_cover_X5_looseOnes : GoodIn wsX5_cover wsX5_looseOnes := goodIn_r _ [40, 1, 2, 12, 41, 42, 43, 5, 44, 45, 46, 47, 48, 16, 49, 50, 51, 52, 53, 54, 22, 55, 56, 68, 69, 70, 71, 72, 73, 74, 75, 76, 77, 78, 79, 80, 81, 82, 83, 84, 85, 86, 87, 88, 89, 90, 91, 92, 93, 94] (by decide +kernel) (by decide +kernel)
set_option maxRecDepth 20000 in
theorem gX5_cover_X5_looseOnes : GoodIn wsX5_cover (wsV RX5 203 RX5 yX5_looseOnes wsX5_looseOnes) := goodIn_app (goodIn_of _ (by decide +kernel)) ggX5_cover_X5_looseOnes
set_option maxRecDepth 20000 in
theorem ggX5_cover_X5_toldBySet : GoodIn wsX5_cover wsX5_toldBySet := goodIn_r _ [60, 1, 2, 11, 68, 69, 70, 71, 72, 73, 74, 75, 76, 77, 78, 79, 80, 81, 82, 83, 84, 85, 86, 87, 88, 89] (by decide +kernel) (by decide +kernel)
set_option maxRecDepth 20000 in
theorem gX5_cover_X5_toldBySet : GoodIn wsX5_cover (wsV RX5 212 RX5 yX5_toldBySet wsX5_toldBySet) := goodIn_app (goodIn_of _ (by decide +kernel)) ggX5_cover_X5_toldBySet
set_option maxRecDepth 20000 in
theorem ggX5_cover_J6_bitCount_0f7a4 : GoodIn wsX5_cover wsJ6_bitCount_0f7a4 := goodIn_r _ [64, 65, 66, 67] (by decide +kernel) (by decide +kernel)
set_option maxRecDepth 20000 in
theorem gX5_cover_J6_bitCount_0f7a4 : GoodIn wsX5_cover (va_wsS RX5 215 yJ6_bitCount_0f7a4 wsJ6_bitCount_0f7a4) := goodIn_app (goodIn_of _ (by decide +kernel)) ggX5_cover_J6_bitCount_0f7a4
theorem dX5_cover_0 : decode cX5_cover 0 = .ok (.iload_n 1, 1) := by decide +kernel
theorem dX5_cover_1 : decode cX5_cover 1 = .ok (.iconst 0, 1) := by decide +kernel
theorem dX5_cover_2 : decode cX5_cover 2 = .ok (.iconst 1, 1) := by decide +kernel
theorem dX5_cover_3 : decode cX5_cover 3 = .ok (.invokestatic 80, 3) := by decide +kernel
theorem dX5_cover_6 : decode cX5_cover 6 = .ok (.ifCond .ne 5, 3) := by decide +kernel
theorem dX5_cover_9 : decode cX5_cover 9 = .ok (.iconst (-1), 1) := by decide +kernel
theorem dX5_cover_10 : decode cX5_cover 10 = .ok (.ireturn, 1) := by decide +kernel
theorem dX5_cover_11 : decode cX5_cover 11 = .ok (.aload_n 0, 1) := by decide +kernel
theorem dX5_cover_12 : decode cX5_cover 12 = .ok (.invokevirtual 200, 3) := by decide +kernel
theorem dX5_cover_15 : decode cX5_cover 15 = .ok (.aload_n 0, 1) := by decide +kernel
theorem dX5_cover_16 : decode cX5_cover 16 = .ok (.invokevirtual 203, 3) := by decide +kernel
theorem dX5_cover_19 : decode cX5_cover 19 = .ok (.istore_n 2, 1) := by decide +kernel
theorem dX5_cover_20 : decode cX5_cover 20 = .ok (.aload_n 0, 1) := by decide +kernel
theorem dX5_cover_21 : decode cX5_cover 21 = .ok (.iload_n 2, 1) := by decide +kernel
theorem dX5_cover_22 : decode cX5_cover 22 = .ok (.invokevirtual 212, 3) := by decide +kernel
theorem dX5_cover_25 : decode cX5_cover 25 = .ok (.istore_n 3, 1) := by decide +kernel
theorem dX5_cover_26 : decode cX5_cover 26 = .ok (.iload_n 2, 1) := by decide +kernel
theorem dX5_cover_27 : decode cX5_cover 27 = .ok (.istore 4, 2) := by decide +kernel
theorem dX5_cover_29 : decode cX5_cover 29 = .ok (.bipush 9, 2) := by decide +kernel
theorem dX5_cover_31 : decode cX5_cover 31 = .ok (.istore 5, 2) := by decide +kernel
theorem dX5_cover_33 : decode cX5_cover 33 = .ok (.iconst 0, 1) := by decide +kernel
theorem dX5_cover_34 : decode cX5_cover 34 = .ok (.istore 6, 2) := by decide +kernel
theorem dX5_cover_36 : decode cX5_cover 36 = .ok (.iload 6, 2) := by decide +kernel
theorem dX5_cover_38 : decode cX5_cover 38 = .ok (.iconst 1, 1) := by decide +kernel
theorem dX5_cover_39 : decode cX5_cover 39 = .ok (.aload_n 0, 1) := by decide +kernel
theorem dX5_cover_40 : decode cX5_cover 40 = .ok (.getfield 19, 3) := by decide +kernel
theorem dX5_cover_43 : decode cX5_cover 43 = .ok (.getfield 91, 3) := by decide +kernel
theorem dX5_cover_46 : decode cX5_cover 46 = .ok (.ishl, 1) := by decide +kernel
theorem dX5_cover_47 : decode cX5_cover 47 = .ok (.if_icmp .ge 50, 3) := by decide +kernel
theorem dX5_cover_50 : decode cX5_cover 50 = .ok (.iload 6, 2) := by decide +kernel
theorem dX5_cover_52 : decode cX5_cover 52 = .ok (.invokestatic 215, 3) := by decide +kernel
theorem dX5_cover_55 : decode cX5_cover 55 = .ok (.istore 7, 2) := by decide +kernel
theorem dX5_cover_57 : decode cX5_cover 57 = .ok (.iload 6, 2) := by decide +kernel
theorem dX5_cover_59 : decode cX5_cover 59 = .ok (.iload_n 2, 1) := by decide +kernel
theorem dX5_cover_60 : decode cX5_cover 60 = .ok (.iconst (-1), 1) := by decide +kernel
theorem dX5_cover_61 : decode cX5_cover 61 = .ok (.ixor, 1) := by decide +kernel
theorem dX5_cover_62 : decode cX5_cover 62 = .ok (.iand, 1) := by decide +kernel
theorem dX5_cover_63 : decode cX5_cover 63 = .ok (.ifCond .ne 28, 3) := by decide +kernel
theorem dX5_cover_66 : decode cX5_cover 66 = .ok (.iload 7, 2) := by decide +kernel
theorem dX5_cover_68 : decode cX5_cover 68 = .ok (.iload 5, 2) := by decide +kernel
theorem dX5_cover_70 : decode cX5_cover 70 = .ok (.if_icmp .ge 21, 3) := by decide +kernel
theorem dX5_cover_73 : decode cX5_cover 73 = .ok (.aload_n 0, 1) := by decide +kernel
theorem dX5_cover_74 : decode cX5_cover 74 = .ok (.iload 6, 2) := by decide +kernel
theorem dX5_cover_76 : decode cX5_cover 76 = .ok (.invokevirtual 212, 3) := by decide +kernel
theorem dX5_cover_79 : decode cX5_cover 79 = .ok (.iload_n 3, 1) := by decide +kernel
theorem dX5_cover_80 : decode cX5_cover 80 = .ok (.if_icmp .ne 11, 3) := by decide +kernel
theorem dX5_cover_83 : decode cX5_cover 83 = .ok (.iload 7, 2) := by decide +kernel
theorem dX5_cover_85 : decode cX5_cover 85 = .ok (.istore 5, 2) := by decide +kernel
theorem dX5_cover_87 : decode cX5_cover 87 = .ok (.iload 6, 2) := by decide +kernel
theorem dX5_cover_89 : decode cX5_cover 89 = .ok (.istore 4, 2) := by decide +kernel
theorem dX5_cover_91 : decode cX5_cover 91 = .ok (.iinc 6 1, 3) := by decide +kernel
theorem dX5_cover_94 : decode cX5_cover 94 = .ok (.goto (-58), 3) := by decide +kernel
theorem dX5_cover_97 : decode cX5_cover 97 = .ok (.iload_n 1, 1) := by decide +kernel
theorem dX5_cover_98 : decode cX5_cover 98 = .ok (.ifCond .ne 11, 3) := by decide +kernel
theorem dX5_cover_101 : decode cX5_cover 101 = .ok (.iload 4, 2) := by decide +kernel
theorem dX5_cover_103 : decode cX5_cover 103 = .ok (.invokestatic 215, 3) := by decide +kernel
theorem dX5_cover_106 : decode cX5_cover 106 = .ok (.goto 5, 3) := by decide +kernel
theorem dX5_cover_109 : decode cX5_cover 109 = .ok (.iload 4, 2) := by decide +kernel
theorem dX5_cover_111 : decode cX5_cover 111 = .ok (.ireturn, 1) := by decide +kernel
set_option maxRecDepth 20000 in
theorem ggX5_safe_X5_isWithin : GoodIn wsX5_safe wsX5_isWithin := goodIn_r _ [9] (by decide +kernel) (by decide +kernel)
set_option maxRecDepth 20000 in
theorem gX5_safe_X5_isWithin : GoodIn wsX5_safe (va_wsS RX5 80 yX5_isWithin wsX5_isWithin) := goodIn_app (goodIn_of _ (by decide +kernel)) ggX5_safe_X5_isWithin
set_option maxRecDepth 20000 in
theorem ggX5_safe_X4_roomOf : GoodIn wsX5_safe wsX4_roomOf := goodIn_r _ [14, 15, 65, 66, 67, 68, 69] (by decide +kernel) (by decide +kernel)
set_option maxRecDepth 20000 in
theorem gX5_safe_X4_roomOf : GoodIn wsX5_safe (wsV RX5 116 RX4 yX4_roomOf wsX4_roomOf) := goodIn_app (goodIn_of _ (by decide +kernel)) ggX5_safe_X4_roomOf
set_option maxRecDepth 20000 in
theorem ggX5_safe_X5_isLoose : GoodIn wsX5_safe wsX5_isLoose := goodIn_r _ [19, 1, 4, 20, 21, 22, 13, 23, 24, 25, 26, 27, 28, 29, 30, 31, 43, 44, 45, 46, 47, 48, 49, 50, 51, 52, 53, 54, 55, 56, 57, 58, 59, 60, 61, 62, 63, 64, 65, 66, 67, 68, 69] (by decide +kernel) (by decide +kernel)
set_option maxRecDepth 20000 in
theorem gX5_safe_X5_isLoose : GoodIn wsX5_safe (wsV RX5 130 RX5 yX5_isLoose wsX5_isLoose) := goodIn_app (goodIn_of _ (by decide +kernel)) ggX5_safe_X5_isLoose
set_option maxRecDepth 20000 in
theorem ggX5_safe_X0_wouldTell : GoodIn wsX5_safe wsX0_wouldTell := goodIn_r _ [35, 36, 37, 38, 29, 39, 40, 41, 42, 53, 54, 55, 56, 57, 58, 59, 60, 61, 62, 63, 64] (by decide +kernel) (by decide +kernel)
