theorem dX11_face_57 : decode cX11_face 57 = .ok (.getfield 91, 3) := by decide +kernel
theorem dX11_face_60 : decode cX11_face 60 = .ok (.ldc_w 341, 3) := by decide +kernel
theorem dX11_face_63 : decode cX11_face 63 = .ok (.invokevirtual 343, 3) := by decide +kernel
theorem dX11_face_66 : decode cX11_face 66 = .ok (.pop, 1) := by decide +kernel
theorem dX11_face_67 : decode cX11_face 67 = .ok (.aload_n 0, 1) := by decide +kernel
theorem dX11_face_68 : decode cX11_face 68 = .ok (.getfield 91, 3) := by decide +kernel
theorem dX11_face_71 : decode cX11_face 71 = .ok (.iload_n 2, 1) := by decide +kernel
theorem dX11_face_72 : decode cX11_face 72 = .ok (.bipush 60, 2) := by decide +kernel
theorem dX11_face_74 : decode cX11_face 74 = .ok (.idiv, 1) := by decide +kernel
theorem dX11_face_75 : decode cX11_face 75 = .ok (.invokevirtual 346, 3) := by decide +kernel
theorem dX11_face_78 : decode cX11_face 78 = .ok (.pop, 1) := by decide +kernel
theorem dX11_face_79 : decode cX11_face 79 = .ok (.aload_n 0, 1) := by decide +kernel
theorem dX11_face_80 : decode cX11_face 80 = .ok (.getfield 91, 3) := by decide +kernel
theorem dX11_face_83 : decode cX11_face 83 = .ok (.bipush 46, 2) := by decide +kernel
theorem dX11_face_85 : decode cX11_face 85 = .ok (.invokevirtual 349, 3) := by decide +kernel
theorem dX11_face_88 : decode cX11_face 88 = .ok (.pop, 1) := by decide +kernel
theorem dX11_face_89 : decode cX11_face 89 = .ok (.aload_n 0, 1) := by decide +kernel
theorem dX11_face_90 : decode cX11_face 90 = .ok (.getfield 91, 3) := by decide +kernel
theorem dX11_face_93 : decode cX11_face 93 = .ok (.bipush 48, 2) := by decide +kernel
theorem dX11_face_95 : decode cX11_face 95 = .ok (.iload_n 2, 1) := by decide +kernel
theorem dX11_face_96 : decode cX11_face 96 = .ok (.bipush 60, 2) := by decide +kernel
theorem dX11_face_98 : decode cX11_face 98 = .ok (.irem, 1) := by decide +kernel
theorem dX11_face_99 : decode cX11_face 99 = .ok (.bipush 10, 2) := by decide +kernel
theorem dX11_face_101 : decode cX11_face 101 = .ok (.idiv, 1) := by decide +kernel
theorem dX11_face_102 : decode cX11_face 102 = .ok (.iadd, 1) := by decide +kernel
theorem dX11_face_103 : decode cX11_face 103 = .ok (.i2c, 1) := by decide +kernel
theorem dX11_face_104 : decode cX11_face 104 = .ok (.invokevirtual 349, 3) := by decide +kernel
theorem dX11_face_107 : decode cX11_face 107 = .ok (.pop, 1) := by decide +kernel
theorem dX11_face_108 : decode cX11_face 108 = .ok (.aload_n 0, 1) := by decide +kernel
theorem dX11_face_109 : decode cX11_face 109 = .ok (.getfield 91, 3) := by decide +kernel
theorem dX11_face_112 : decode cX11_face 112 = .ok (.bipush 48, 2) := by decide +kernel
theorem dX11_face_114 : decode cX11_face 114 = .ok (.iload_n 2, 1) := by decide +kernel
theorem dX11_face_115 : decode cX11_face 115 = .ok (.bipush 10, 2) := by decide +kernel
theorem dX11_face_117 : decode cX11_face 117 = .ok (.irem, 1) := by decide +kernel
theorem dX11_face_118 : decode cX11_face 118 = .ok (.iadd, 1) := by decide +kernel
theorem dX11_face_119 : decode cX11_face 119 = .ok (.i2c, 1) := by decide +kernel
theorem dX11_face_120 : decode cX11_face 120 = .ok (.invokevirtual 349, 3) := by decide +kernel
theorem dX11_face_123 : decode cX11_face 123 = .ok (.pop, 1) := by decide +kernel
theorem dX11_face_124 : decode cX11_face 124 = .ok (.aload_n 0, 1) := by decide +kernel
theorem dX11_face_125 : decode cX11_face 125 = .ok (.getfield 28, 3) := by decide +kernel
theorem dX11_face_128 : decode cX11_face 128 = .ok (.getfield 127, 3) := by decide +kernel
theorem dX11_face_131 : decode cX11_face 131 = .ok (.iload_n 1, 1) := by decide +kernel
theorem dX11_face_132 : decode cX11_face 132 = .ok (.invokevirtual 156, 3) := by decide +kernel
theorem dX11_face_135 : decode cX11_face 135 = .ok (.ifCond .eq 14, 3) := by decide +kernel
theorem dX11_face_138 : decode cX11_face 138 = .ok (.aload_n 0, 1) := by decide +kernel
theorem dX11_face_139 : decode cX11_face 139 = .ok (.getfield 91, 3) := by decide +kernel
theorem dX11_face_142 : decode cX11_face 142 = .ok (.ldc_w 352, 3) := by decide +kernel
theorem dX11_face_145 : decode cX11_face 145 = .ok (.invokevirtual 343, 3) := by decide +kernel
theorem dX11_face_148 : decode cX11_face 148 = .ok (.pop, 1) := by decide +kernel
theorem dX11_face_149 : decode cX11_face 149 = .ok (.aload_n 0, 1) := by decide +kernel
theorem dX11_face_150 : decode cX11_face 150 = .ok (.getfield 91, 3) := by decide +kernel
theorem dX11_face_153 : decode cX11_face 153 = .ok (.invokevirtual 354, 3) := by decide +kernel
theorem dX11_face_156 : decode cX11_face 156 = .ok (.ireturn, 1) := by decide +kernel
set_option maxRecDepth 20000 in
theorem ggX11_byteAt_J4_length_8abf5 : GoodIn wsX11_byteAt wsJ4_length_8abf5 := goodIn_r _ [6, 7, 8, 9, 10, 11, 12, 13, 60, 61, 62, 63] (by decide +kernel) (by decide +kernel)
set_option maxRecDepth 20000 in
theorem gX11_byteAt_J4_length_8abf5 : GoodIn wsX11_byteAt (wsV RX11 354 RJ4 yJ4_length_8abf5 wsJ4_length_8abf5) := goodIn_app (goodIn_of _ (by decide +kernel)) ggX11_byteAt_J4_length_8abf5
set_option maxRecDepth 20000 in
theorem ggX11_byteAt_J4_charAt_5068e : GoodIn wsX11_byteAt wsJ4_charAt_5068e := goodIn_r _ [17, 18, 19, 9, 20, 11, 21, 22, 23, 13, 24, 25, 26, 27, 28, 29, 30, 31, 32, 33, 34, 35, 36, 37, 38, 39, 40, 41, 42, 43, 44, 45, 46, 60, 61, 62, 63] (by decide +kernel) (by decide +kernel)
set_option maxRecDepth 20000 in
theorem gX11_byteAt_J4_charAt_5068e : GoodIn wsX11_byteAt (wsV RX11 356 RJ4 yJ4_charAt_5068e wsJ4_charAt_5068e) := goodIn_app (goodIn_of _ (by decide +kernel)) ggX11_byteAt_J4_charAt_5068e
theorem dX11_byteAt_0 : decode cX11_byteAt 0 = .ok (.iload_n 1, 1) := by decide +kernel
theorem dX11_byteAt_1 : decode cX11_byteAt 1 = .ok (.ifCond .lt 14, 3) := by decide +kernel
theorem dX11_byteAt_4 : decode cX11_byteAt 4 = .ok (.iload_n 1, 1) := by decide +kernel
theorem dX11_byteAt_5 : decode cX11_byteAt 5 = .ok (.aload_n 0, 1) := by decide +kernel
theorem dX11_byteAt_6 : decode cX11_byteAt 6 = .ok (.getfield 91, 3) := by decide +kernel
theorem dX11_byteAt_9 : decode cX11_byteAt 9 = .ok (.invokevirtual 354, 3) := by decide +kernel
theorem dX11_byteAt_12 : decode cX11_byteAt 12 = .ok (.if_icmp .lt 5, 3) := by decide +kernel
theorem dX11_byteAt_15 : decode cX11_byteAt 15 = .ok (.iconst (-1), 1) := by decide +kernel
theorem dX11_byteAt_16 : decode cX11_byteAt 16 = .ok (.ireturn, 1) := by decide +kernel
theorem dX11_byteAt_17 : decode cX11_byteAt 17 = .ok (.aload_n 0, 1) := by decide +kernel
theorem dX11_byteAt_18 : decode cX11_byteAt 18 = .ok (.getfield 91, 3) := by decide +kernel
theorem dX11_byteAt_21 : decode cX11_byteAt 21 = .ok (.iload_n 1, 1) := by decide +kernel
theorem dX11_byteAt_22 : decode cX11_byteAt 22 = .ok (.invokevirtual 356, 3) := by decide +kernel
theorem dX11_byteAt_25 : decode cX11_byteAt 25 = .ok (.ireturn, 1) := by decide +kernel
set_option maxRecDepth 20000 in
theorem ggX11_drawn_X3_minutesLeft : GoodIn wsX11_drawn wsX3_minutesLeft := goodIn_r _ [8, 9, 146, 147, 148, 149, 150, 151, 152, 153, 154, 155] (by decide +kernel) (by decide +kernel)
set_option maxRecDepth 20000 in
theorem gX11_drawn_X3_minutesLeft : GoodIn wsX11_drawn (wsV RX11 263 RX3 yX3_minutesLeft wsX3_minutesLeft) := goodIn_app (goodIn_of _ (by decide +kernel)) ggX11_drawn_X3_minutesLeft
set_option maxRecDepth 20000 in
theorem ggX11_drawn_X4_keep : GoodIn wsX11_drawn wsX4_keep := goodIn_r _ [14, 15, 16, 17, 18, 19, 20, 21, 22, 23, 24, 7, 25, 9, 26, 27, 28, 29, 30, 31, 32, 33, 34, 35, 36, 37, 156, 157, 158, 146, 147, 148, 149, 150, 151, 152, 153, 154, 155] (by decide +kernel) (by decide +kernel)
set_option maxRecDepth 20000 in
theorem gX11_drawn_X4_keep : GoodIn wsX11_drawn (wsV RX11 240 RX4 yX4_keep wsX4_keep) := goodIn_app (goodIn_of _ (by decide +kernel)) ggX11_drawn_X4_keep
set_option maxRecDepth 20000 in
theorem ggX11_drawn_X3_passDrawn : GoodIn wsX11_drawn wsX3_passDrawn := goodIn_r _ [41, 42, 43, 44, 45, 5, 6, 7, 8, 9, 46, 47, 48, 49, 50, 51, 52, 53, 54, 55, 56, 57, 58, 59, 60, 27, 61, 62, 63, 64, 28, 33, 65, 66, 67, 68, 69, 70, 71, 72, 34, 73, 74, 75, 76, 77, 78, 79, 80, 81, 82, 83, 84, 85, 26, 86, 87, 88, 89, 90, 91, 92, 93, 94, 95, 19, 20, 21, 96, 97, 98, 99, 100, 101, 102, 103, 104, 105, 106, 107, 108, 109, 110, 111, 112, 113, 114, 115, 116, 37, 36, 117, 118, 35, 119, 120, 121, 122, 123, 124, 125, 126, 127, 128, 146, 147, 148, 149, 150, 151, 152, 153, 154, 155, 159, 160, 161, 162, 163, 164, 165, 166, 167, 168, 169, 170, 171, 172, 173] (by decide +kernel) (by decide +kernel)
set_option maxRecDepth 20000 in
theorem gX11_drawn_X3_passDrawn : GoodIn wsX11_drawn (wsV RX11 360 RX3 yX3_passDrawn wsX3_passDrawn) := goodIn_app (goodIn_of _ (by decide +kernel)) ggX11_drawn_X3_passDrawn
theorem dX11_drawn_0 : decode cX11_drawn 0 = .ok (.iload_n 1, 1) := by decide +kernel
theorem dX11_drawn_1 : decode cX11_drawn 1 = .ok (.iconst 1, 1) := by decide +kernel
theorem dX11_drawn_2 : decode cX11_drawn 2 = .ok (.if_icmp .lt 9, 3) := by decide +kernel
theorem dX11_drawn_5 : decode cX11_drawn 5 = .ok (.iload_n 1, 1) := by decide +kernel
theorem dX11_drawn_6 : decode cX11_drawn 6 = .ok (.bipush 24, 2) := by decide +kernel
theorem dX11_drawn_8 : decode cX11_drawn 8 = .ok (.if_icmp .le 5, 3) := by decide +kernel
theorem dX11_drawn_11 : decode cX11_drawn 11 = .ok (.iconst (-1), 1) := by decide +kernel
theorem dX11_drawn_12 : decode cX11_drawn 12 = .ok (.ireturn, 1) := by decide +kernel
theorem dX11_drawn_13 : decode cX11_drawn 13 = .ok (.aload_n 0, 1) := by decide +kernel
theorem dX11_drawn_14 : decode cX11_drawn 14 = .ok (.getfield 28, 3) := by decide +kernel
theorem dX11_drawn_17 : decode cX11_drawn 17 = .ok (.getfield 127, 3) := by decide +kernel
theorem dX11_drawn_20 : decode cX11_drawn 20 = .ok (.invokevirtual 263, 3) := by decide +kernel
theorem dX11_drawn_23 : decode cX11_drawn 23 = .ok (.ifCond .le 17, 3) := by decide +kernel
theorem dX11_drawn_26 : decode cX11_drawn 26 = .ok (.aload_n 0, 1) := by decide +kernel
theorem dX11_drawn_27 : decode cX11_drawn 27 = .ok (.getfield 45, 3) := by decide +kernel
theorem dX11_drawn_30 : decode cX11_drawn 30 = .ok (.aload_n 0, 1) := by decide +kernel
theorem dX11_drawn_31 : decode cX11_drawn 31 = .ok (.getfield 28, 3) := by decide +kernel
theorem dX11_drawn_34 : decode cX11_drawn 34 = .ok (.getfield 127, 3) := by decide +kernel
theorem dX11_drawn_37 : decode cX11_drawn 37 = .ok (.invokevirtual 240, 3) := by decide +kernel
theorem dX11_drawn_40 : decode cX11_drawn 40 = .ok (.aload_n 0, 1) := by decide +kernel
theorem dX11_drawn_41 : decode cX11_drawn 41 = .ok (.getfield 28, 3) := by decide +kernel
theorem dX11_drawn_44 : decode cX11_drawn 44 = .ok (.getfield 127, 3) := by decide +kernel
theorem dX11_drawn_47 : decode cX11_drawn 47 = .ok (.iload_n 1, 1) := by decide +kernel
theorem dX11_drawn_48 : decode cX11_drawn 48 = .ok (.iload_n 2, 1) := by decide +kernel
theorem dX11_drawn_49 : decode cX11_drawn 49 = .ok (.invokevirtual 360, 3) := by decide +kernel
theorem dX11_drawn_52 : decode cX11_drawn 52 = .ok (.ireturn, 1) := by decide +kernel
set_option maxRecDepth 20000 in
theorem ggX11_odds_X11_isMaster : GoodIn wsX11_odds wsX11_isMaster := goodIn_r _ [8, 2, 9, 10, 126, 127, 128, 129, 130, 131, 132, 133, 134, 135, 136, 137, 138, 139, 140, 141, 142, 143, 144, 145, 146, 147, 148, 149, 150, 151, 152, 153, 154, 155, 156, 157] (by decide +kernel) (by decide +kernel)
set_option maxRecDepth 20000 in
theorem gX11_odds_X11_isMaster : GoodIn wsX11_odds (wsV RX11 180 RX11 yX11_isMaster wsX11_isMaster) := goodIn_app (goodIn_of _ (by decide +kernel)) ggX11_odds_X11_isMaster
set_option maxRecDepth 20000 in
theorem ggX11_odds_X3_copyFrom : GoodIn wsX11_odds wsX3_copyFrom := goodIn_r _ [15, 16, 17, 18, 19, 20, 21, 22, 23, 24, 25, 26, 27, 28, 158, 159, 160, 161, 162, 163, 164, 165, 166, 167] (by decide +kernel) (by decide +kernel)
set_option maxRecDepth 20000 in
theorem gX11_odds_X3_copyFrom : GoodIn wsX11_odds (wsV RX11 363 RX3 yX3_copyFrom wsX3_copyFrom) := goodIn_app (goodIn_of _ (by decide +kernel)) ggX11_odds_X3_copyFrom
set_option maxRecDepth 20000 in
theorem ggX11_odds_X3_passDrawn : GoodIn wsX11_odds wsX3_passDrawn := goodIn_r _ [32, 33, 34, 35, 36, 37, 38, 14, 39, 16, 40, 41, 42, 43, 44, 45, 46, 47, 48, 49, 50, 51, 52, 53, 54, 18, 55, 56, 57, 58, 19, 24, 59, 60, 61, 62, 63, 64, 65, 66, 25, 67, 68, 69, 70, 71, 72, 73, 74, 75, 76, 77, 78, 79, 17, 80, 81, 82, 83, 84, 85, 86, 87, 88, 89, 90, 91, 92, 93, 94, 95, 96, 97, 98, 99, 100, 101, 102, 103, 104, 105, 106, 107, 7, 108, 109, 110, 111, 112, 28, 27, 113, 114, 26, 115, 116, 117, 118, 119, 120, 121, 122, 123, 124, 158, 159, 160, 161, 162, 163, 164, 165, 166, 167, 143, 144, 145, 146, 147, 148, 149, 150, 151, 152, 153, 154, 155, 156, 157] (by decide +kernel) (by decide +kernel)
set_option maxRecDepth 20000 in
theorem gX11_odds_X3_passDrawn : GoodIn wsX11_odds (wsV RX11 360 RX3 yX3_passDrawn wsX3_passDrawn) := goodIn_app (goodIn_of _ (by decide +kernel)) ggX11_odds_X3_passDrawn
set_option maxRecDepth 20000 in
theorem ggX11_odds_X3_isOut : GoodIn wsX11_odds wsX3_isOut := goodIn_r _ [79, 17, 158, 159, 160, 161, 162, 163, 164, 165, 166, 167] (by decide +kernel) (by decide +kernel)
set_option maxRecDepth 20000 in
theorem gX11_odds_X3_isOut : GoodIn wsX11_odds (wsV RX11 194 RX3 yX3_isOut wsX3_isOut) := goodIn_app (goodIn_of _ (by decide +kernel)) ggX11_odds_X3_isOut
theorem dX11_odds_0 : decode cX11_odds 0 = .ok (.aload_n 0, 1) := by decide +kernel
theorem dX11_odds_1 : decode cX11_odds 1 = .ok (.iload_n 1, 1) := by decide +kernel
theorem dX11_odds_2 : decode cX11_odds 2 = .ok (.invokevirtual 180, 3) := by decide +kernel
theorem dX11_odds_5 : decode cX11_odds 5 = .ok (.ifCond .eq 14, 3) := by decide +kernel
theorem dX11_odds_8 : decode cX11_odds 8 = .ok (.iload_n 2, 1) := by decide +kernel
theorem dX11_odds_9 : decode cX11_odds 9 = .ok (.iconst 1, 1) := by decide +kernel
theorem dX11_odds_10 : decode cX11_odds 10 = .ok (.if_icmp .lt 9, 3) := by decide +kernel
theorem dX11_odds_13 : decode cX11_odds 13 = .ok (.iload_n 2, 1) := by decide +kernel
theorem dX11_odds_14 : decode cX11_odds 14 = .ok (.bipush 20, 2) := by decide +kernel
theorem dX11_odds_16 : decode cX11_odds 16 = .ok (.if_icmp .le 5, 3) := by decide +kernel
theorem dX11_odds_19 : decode cX11_odds 19 = .ok (.iconst (-1), 1) := by decide +kernel
theorem dX11_odds_20 : decode cX11_odds 20 = .ok (.ireturn, 1) := by decide +kernel
theorem dX11_odds_21 : decode cX11_odds 21 = .ok (.iconst 0, 1) := by decide +kernel
theorem dX11_odds_22 : decode cX11_odds 22 = .ok (.istore 4, 2) := by decide +kernel
theorem dX11_odds_24 : decode cX11_odds 24 = .ok (.iconst 0, 1) := by decide +kernel
theorem dX11_odds_25 : decode cX11_odds 25 = .ok (.istore 5, 2) := by decide +kernel
theorem dX11_odds_27 : decode cX11_odds 27 = .ok (.iload 5, 2) := by decide +kernel
theorem dX11_odds_29 : decode cX11_odds 29 = .ok (.iload_n 2, 1) := by decide +kernel
theorem dX11_odds_30 : decode cX11_odds 30 = .ok (.if_icmp .ge 51, 3) := by decide +kernel
theorem dX11_odds_33 : decode cX11_odds 33 = .ok (.aload_n 0, 1) := by decide +kernel
theorem dX11_odds_34 : decode cX11_odds 34 = .ok (.getfield 52, 3) := by decide +kernel
theorem dX11_odds_37 : decode cX11_odds 37 = .ok (.aload_n 0, 1) := by decide +kernel
theorem dX11_odds_38 : decode cX11_odds 38 = .ok (.getfield 28, 3) := by decide +kernel
theorem dX11_odds_41 : decode cX11_odds 41 = .ok (.getfield 127, 3) := by decide +kernel
theorem dX11_odds_44 : decode cX11_odds 44 = .ok (.invokevirtual 363, 3) := by decide +kernel
theorem dX11_odds_47 : decode cX11_odds 47 = .ok (.aload_n 0, 1) := by decide +kernel
theorem dX11_odds_48 : decode cX11_odds 48 = .ok (.getfield 52, 3) := by decide +kernel
theorem dX11_odds_51 : decode cX11_odds 51 = .ok (.bipush 6, 2) := by decide +kernel
theorem dX11_odds_53 : decode cX11_odds 53 = .ok (.iload_n 3, 1) := by decide +kernel
theorem dX11_odds_54 : decode cX11_odds 54 = .ok (.iload 5, 2) := by decide +kernel
theorem dX11_odds_56 : decode cX11_odds 56 = .ok (.iadd, 1) := by decide +kernel
theorem dX11_odds_57 : decode cX11_odds 57 = .ok (.invokevirtual 360, 3) := by decide +kernel
theorem dX11_odds_60 : decode cX11_odds 60 = .ok (.pop, 1) := by decide +kernel
theorem dX11_odds_61 : decode cX11_odds 61 = .ok (.aload_n 0, 1) := by decide +kernel
theorem dX11_odds_62 : decode cX11_odds 62 = .ok (.getfield 52, 3) := by decide +kernel
theorem dX11_odds_65 : decode cX11_odds 65 = .ok (.iload_n 1, 1) := by decide +kernel
theorem dX11_odds_66 : decode cX11_odds 66 = .ok (.invokevirtual 194, 3) := by decide +kernel
theorem dX11_odds_69 : decode cX11_odds 69 = .ok (.ifCond .eq 6, 3) := by decide +kernel
theorem dX11_odds_72 : decode cX11_odds 72 = .ok (.iinc 4 1, 3) := by decide +kernel
theorem dX11_odds_75 : decode cX11_odds 75 = .ok (.iinc 5 1, 3) := by decide +kernel
theorem dX11_odds_78 : decode cX11_odds 78 = .ok (.goto (-51), 3) := by decide +kernel
theorem dX11_odds_81 : decode cX11_odds 81 = .ok (.iload 4, 2) := by decide +kernel
theorem dX11_odds_83 : decode cX11_odds 83 = .ok (.ireturn, 1) := by decide +kernel
set_option maxRecDepth 20000 in
theorem ggX11_book_X0_read : GoodIn wsX11_book wsX0_read := goodIn_r _ [15, 16, 17, 18, 19, 20, 21, 22, 23, 24, 25, 26, 27, 28, 29, 30, 31, 32, 33, 34, 35, 36, 37, 38, 39, 40, 41, 42, 43, 44, 45, 46, 47, 48, 49, 50, 51, 52, 53, 54, 55, 56, 57, 58, 59, 60, 61, 62, 63, 64, 65, 66, 67, 68, 69, 70, 71, 72, 73, 74, 75, 76, 77, 78, 79, 80, 81, 82, 83, 84, 85, 86, 87, 88, 89, 90, 91, 92, 93, 94, 95, 96, 97, 98, 99, 100, 101, 102, 103, 104, 105, 106, 107, 108, 109, 110, 111, 112, 113, 114, 115, 116, 117, 118, 119, 120, 121, 122, 123, 124, 125, 126, 127, 128, 129, 130, 131, 132, 133, 134, 14, 135, 136, 137, 138, 139, 140, 141, 142, 143, 144, 145, 146, 147, 148, 149, 150, 151, 152, 153, 154, 155, 156, 157, 158, 159, 160, 161, 162, 163, 164, 165, 166, 167, 168, 169, 170, 171, 172, 173, 174, 175, 176, 177, 178, 179, 180, 181, 182, 183, 184, 185, 186, 187, 188, 189, 367, 368, 369, 370, 371, 372, 373, 374, 375, 376, 377, 350, 351, 352, 353, 354, 355, 356, 357, 358, 359, 360, 361, 362, 378, 379, 380, 381, 382, 383, 384, 385, 386, 387, 388, 389, 390, 391, 392, 393, 394] (by decide +kernel) (by decide +kernel)
set_option maxRecDepth 20000 in
theorem gX11_book_X0_read : GoodIn wsX11_book (wsV RX11 365 RX0 yX0_read wsX0_read) := goodIn_app (goodIn_of _ (by decide +kernel)) ggX11_book_X0_read
set_option maxRecDepth 20000 in
theorem ggX11_book_X11_closeText : GoodIn wsX11_book wsX11_closeText := goodIn_r _ [194, 3, 195, 2, 196, 197, 337, 338, 339, 340, 341, 342, 343, 344, 345, 346, 347, 348, 349, 350, 351, 352, 353, 354, 355, 356, 357, 358, 359, 360, 361, 362, 378, 379] (by decide +kernel) (by decide +kernel)
set_option maxRecDepth 20000 in
theorem gX11_book_X11_closeText : GoodIn wsX11_book (wsV RX11 113 RX11 yX11_closeText wsX11_closeText) := goodIn_app (goodIn_of _ (by decide +kernel)) ggX11_book_X11_closeText
set_option maxRecDepth 20000 in
theorem ggX11_book_X3_copyFrom : GoodIn wsX11_book wsX3_copyFrom := goodIn_r _ [202, 203, 204, 205, 206, 207, 208, 209, 210, 211, 212, 213, 214, 215, 395, 396, 397, 398, 399, 400, 401, 402, 403, 404] (by decide +kernel) (by decide +kernel)
set_option maxRecDepth 20000 in
theorem gX11_book_X3_copyFrom : GoodIn wsX11_book (wsV RX11 363 RX3 yX3_copyFrom wsX3_copyFrom) := goodIn_app (goodIn_of _ (by decide +kernel)) ggX11_book_X3_copyFrom
set_option maxRecDepth 20000 in
theorem ggX11_book_X0_judge : GoodIn wsX11_book wsX0_judge := goodIn_r _ [219, 220, 221, 222, 16, 223, 224, 225, 226, 227, 228, 229, 14, 230, 172, 173, 171, 231, 232, 233, 201, 234, 235, 236, 237, 238, 204, 239, 240, 241, 242, 205, 243, 244, 245, 246, 247, 248, 249, 250, 251, 252, 253, 254, 214, 203, 255, 256, 257, 258, 259, 260, 261, 193, 262, 263, 264, 265, 266, 267, 268, 269, 270, 271, 272, 273, 274, 275, 206, 276, 211, 277, 278, 279, 280, 212, 281, 282, 283, 284, 285, 286, 287, 288, 289, 290, 291, 292, 293, 294, 295, 296, 297, 298, 26, 27, 28, 299, 31, 32, 300, 301, 302, 303, 304, 305, 306, 307, 308, 151, 309, 310, 311, 312, 313, 314, 315, 316, 215, 317, 318, 213, 319, 320, 321, 322, 323, 324, 325, 326, 367, 368, 369, 370, 371, 372, 373, 374, 375, 376, 377, 395, 396, 397, 398, 399, 400, 401, 402, 403, 404, 380, 381, 382, 383, 384, 385, 386, 387, 388, 389, 390, 391, 392, 393, 394] (by decide +kernel) (by decide +kernel)
set_option maxRecDepth 20000 in
theorem gX11_book_X0_judge : GoodIn wsX11_book (wsV RX11 367 RX0 yX0_judge wsX0_judge) := goodIn_app (goodIn_of _ (by decide +kernel)) ggX11_book_X0_judge
set_option maxRecDepth 20000 in
theorem ggX11_book_X4_keep : GoodIn wsX11_book wsX4_keep := goodIn_r _ [331, 332, 333, 334, 335, 26, 27, 28, 336, 199, 200, 201, 202, 203, 204, 205, 206, 207, 208, 209, 210, 211, 212, 213, 214, 215, 405, 406, 407, 395, 396, 397, 398, 399, 400, 401, 402, 403, 404] (by decide +kernel) (by decide +kernel)
set_option maxRecDepth 20000 in
theorem gX11_book_X4_keep : GoodIn wsX11_book (wsV RX11 240 RX4 yX4_keep wsX4_keep) := goodIn_app (goodIn_of _ (by decide +kernel)) ggX11_book_X4_keep
theorem dX11_book_0 : decode cX11_book 0 = .ok (.iload_n 1, 1) := by decide +kernel
theorem dX11_book_1 : decode cX11_book 1 = .ok (.ifCond .lt 8, 3) := by decide +kernel
theorem dX11_book_4 : decode cX11_book 4 = .ok (.iload_n 1, 1) := by decide +kernel
theorem dX11_book_5 : decode cX11_book 5 = .ok (.iconst 1, 1) := by decide +kernel
theorem dX11_book_6 : decode cX11_book 6 = .ok (.if_icmp .le 7, 3) := by decide +kernel
theorem dX11_book_9 : decode cX11_book 9 = .ok (.sipush (-1000), 3) := by decide +kernel
theorem dX11_book_12 : decode cX11_book 12 = .ok (.ireturn, 1) := by decide +kernel
theorem dX11_book_13 : decode cX11_book 13 = .ok (.aload_n 0, 1) := by decide +kernel
theorem dX11_book_14 : decode cX11_book 14 = .ok (.getfield 77, 3) := by decide +kernel
theorem dX11_book_17 : decode cX11_book 17 = .ok (.invokevirtual 365, 3) := by decide +kernel
theorem dX11_book_20 : decode cX11_book 20 = .ok (.aload_n 0, 1) := by decide +kernel
theorem dX11_book_21 : decode cX11_book 21 = .ok (.invokevirtual 113, 3) := by decide +kernel
theorem dX11_book_24 : decode cX11_book 24 = .ok (.aload_n 0, 1) := by decide +kernel
theorem dX11_book_25 : decode cX11_book 25 = .ok (.getfield 95, 3) := by decide +kernel
theorem dX11_book_28 : decode cX11_book 28 = .ok (.ifCond .eq 14, 3) := by decide +kernel
theorem dX11_book_31 : decode cX11_book 31 = .ok (.bipush (-2), 2) := by decide +kernel
theorem dX11_book_33 : decode cX11_book 33 = .ok (.aload_n 0, 1) := by decide +kernel
theorem dX11_book_34 : decode cX11_book 34 = .ok (.getfield 21, 3) := by decide +kernel
theorem dX11_book_37 : decode cX11_book 37 = .ok (.getfield 116, 3) := by decide +kernel
theorem dX11_book_40 : decode cX11_book 40 = .ok (.isub, 1) := by decide +kernel
theorem dX11_book_41 : decode cX11_book 41 = .ok (.ireturn, 1) := by decide +kernel
theorem dX11_book_42 : decode cX11_book 42 = .ok (.aload_n 0, 1) := by decide +kernel
theorem dX11_book_43 : decode cX11_book 43 = .ok (.getfield 52, 3) := by decide +kernel
theorem dX11_book_46 : decode cX11_book 46 = .ok (.aload_n 0, 1) := by decide +kernel
theorem dX11_book_47 : decode cX11_book 47 = .ok (.getfield 28, 3) := by decide +kernel
theorem dX11_book_50 : decode cX11_book 50 = .ok (.getfield 127, 3) := by decide +kernel
theorem dX11_book_53 : decode cX11_book 53 = .ok (.invokevirtual 363, 3) := by decide +kernel
theorem dX11_book_56 : decode cX11_book 56 = .ok (.aload_n 0, 1) := by decide +kernel
theorem dX11_book_57 : decode cX11_book 57 = .ok (.getfield 77, 3) := by decide +kernel
theorem dX11_book_60 : decode cX11_book 60 = .ok (.aload_n 0, 1) := by decide +kernel
theorem dX11_book_61 : decode cX11_book 61 = .ok (.getfield 52, 3) := by decide +kernel
theorem dX11_book_64 : decode cX11_book 64 = .ok (.invokevirtual 367, 3) := by decide +kernel
theorem dX11_book_67 : decode cX11_book 67 = .ok (.iload_n 1, 1) := by decide +kernel
theorem dX11_book_68 : decode cX11_book 68 = .ok (.iconst 1, 1) := by decide +kernel
theorem dX11_book_69 : decode cX11_book 69 = .ok (.if_icmp .ne 41, 3) := by decide +kernel
theorem dX11_book_72 : decode cX11_book 72 = .ok (.aload_n 0, 1) := by decide +kernel
theorem dX11_book_73 : decode cX11_book 73 = .ok (.getfield 77, 3) := by decide +kernel
theorem dX11_book_76 : decode cX11_book 76 = .ok (.getfield 370, 3) := by decide +kernel
theorem dX11_book_79 : decode cX11_book 79 = .ok (.ifCond .le 31, 3) := by decide +kernel
theorem dX11_book_82 : decode cX11_book 82 = .ok (.aload_n 0, 1) := by decide +kernel
theorem dX11_book_83 : decode cX11_book 83 = .ok (.getfield 45, 3) := by decide +kernel
theorem dX11_book_86 : decode cX11_book 86 = .ok (.aload_n 0, 1) := by decide +kernel
theorem dX11_book_87 : decode cX11_book 87 = .ok (.getfield 28, 3) := by decide +kernel
theorem dX11_book_90 : decode cX11_book 90 = .ok (.getfield 127, 3) := by decide +kernel
theorem dX11_book_93 : decode cX11_book 93 = .ok (.invokevirtual 240, 3) := by decide +kernel
theorem dX11_book_96 : decode cX11_book 96 = .ok (.aload_n 0, 1) := by decide +kernel
theorem dX11_book_97 : decode cX11_book 97 = .ok (.getfield 28, 3) := by decide +kernel
theorem dX11_book_100 : decode cX11_book 100 = .ok (.getfield 127, 3) := by decide +kernel
theorem dX11_book_103 : decode cX11_book 103 = .ok (.aload_n 0, 1) := by decide +kernel
theorem dX11_book_104 : decode cX11_book 104 = .ok (.getfield 52, 3) := by decide +kernel
theorem dX11_book_107 : decode cX11_book 107 = .ok (.invokevirtual 363, 3) := by decide +kernel
theorem dX11_book_110 : decode cX11_book 110 = .ok (.aload_n 0, 1) := by decide +kernel
theorem dX11_book_111 : decode cX11_book 111 = .ok (.getfield 77, 3) := by decide +kernel
theorem dX11_book_114 : decode cX11_book 114 = .ok (.getfield 373, 3) := by decide +kernel
theorem dX11_book_117 : decode cX11_book 117 = .ok (.ifCond .ne 7, 3) := by decide +kernel
theorem dX11_book_120 : decode cX11_book 120 = .ok (.iconst (-1), 1) := by decide +kernel
theorem dX11_book_121 : decode cX11_book 121 = .ok (.goto 10, 3) := by decide +kernel
theorem dX11_book_124 : decode cX11_book 124 = .ok (.aload_n 0, 1) := by decide +kernel
theorem dX11_book_125 : decode cX11_book 125 = .ok (.getfield 77, 3) := by decide +kernel
theorem dX11_book_128 : decode cX11_book 128 = .ok (.getfield 370, 3) := by decide +kernel
theorem dX11_book_131 : decode cX11_book 131 = .ok (.ireturn, 1) := by decide +kernel
theorem dX11_told_0 : decode cX11_told 0 = .ok (.aload_n 0, 1) := by decide +kernel
theorem dX11_told_1 : decode cX11_told 1 = .ok (.getfield 77, 3) := by decide +kernel
theorem dX11_told_4 : decode cX11_told 4 = .ok (.getfield 376, 3) := by decide +kernel
theorem dX11_told_7 : decode cX11_told 7 = .ok (.ifCond .ne 5, 3) := by decide +kernel
theorem dX11_told_10 : decode cX11_told 10 = .ok (.iconst (-1), 1) := by decide +kernel
theorem dX11_told_11 : decode cX11_told 11 = .ok (.ireturn, 1) := by decide +kernel
theorem dX11_told_12 : decode cX11_told 12 = .ok (.iload_n 1, 1) := by decide +kernel
theorem dX11_told_13 : decode cX11_told 13 = .ok (.tableswitch 63 0 3 #[31, 39, 47, 55], 31) := by decide +kernel
theorem dX11_told_44 : decode cX11_told 44 = .ok (.aload_n 0, 1) := by decide +kernel
theorem dX11_told_45 : decode cX11_told 45 = .ok (.getfield 77, 3) := by decide +kernel
theorem dX11_told_48 : decode cX11_told 48 = .ok (.getfield 373, 3) := by decide +kernel
theorem dX11_told_51 : decode cX11_told 51 = .ok (.ireturn, 1) := by decide +kernel
theorem dX11_told_52 : decode cX11_told 52 = .ok (.aload_n 0, 1) := by decide +kernel
theorem dX11_told_53 : decode cX11_told 53 = .ok (.getfield 77, 3) := by decide +kernel
theorem dX11_told_56 : decode cX11_told 56 = .ok (.getfield 370, 3) := by decide +kernel
theorem dX11_told_59 : decode cX11_told 59 = .ok (.ireturn, 1) := by decide +kernel
theorem dX11_told_60 : decode cX11_told 60 = .ok (.aload_n 0, 1) := by decide +kernel
theorem dX11_told_61 : decode cX11_told 61 = .ok (.getfield 77, 3) := by decide +kernel
theorem dX11_told_64 : decode cX11_told 64 = .ok (.getfield 380, 3) := by decide +kernel
theorem dX11_told_67 : decode cX11_told 67 = .ok (.ireturn, 1) := by decide +kernel
theorem dX11_told_68 : decode cX11_told 68 = .ok (.aload_n 0, 1) := by decide +kernel
theorem dX11_told_69 : decode cX11_told 69 = .ok (.getfield 77, 3) := by decide +kernel
theorem dX11_told_72 : decode cX11_told 72 = .ok (.getfield 383, 3) := by decide +kernel
theorem dX11_told_75 : decode cX11_told 75 = .ok (.ireturn, 1) := by decide +kernel
theorem dX11_told_76 : decode cX11_told 76 = .ok (.iconst (-1), 1) := by decide +kernel
theorem dX11_told_77 : decode cX11_told 77 = .ok (.ireturn, 1) := by decide +kernel
set_option maxRecDepth 20000 in
theorem ggX11_sentence_X6_read : GoodIn wsX11_sentence wsX6_read := goodIn_r _ [12, 13, 14, 15, 16, 17, 18, 19, 20, 21, 22, 23, 24, 25, 26, 27, 28, 29, 30, 31, 32, 33, 34, 35, 36, 37, 38, 39, 40, 41, 42, 43, 44, 45, 46, 47, 48, 49, 50, 51, 52, 53, 54, 55, 56, 57, 58, 59, 60, 61, 62, 63, 64, 65, 66, 67, 68, 69, 70, 71, 72, 73, 74, 75, 76, 77, 78, 79, 80, 81, 82, 83, 84, 85, 86, 87, 88, 89, 90, 91, 92, 93, 94, 95, 96, 97, 98, 99, 100, 101, 102, 103, 104, 105, 106, 107, 108, 109, 110, 111, 112, 113, 114, 115, 116, 117, 118, 119, 120, 121, 122, 123, 124, 125, 126, 127, 128, 129, 130, 131, 132, 133, 134, 11, 135, 136, 137, 138, 139, 140, 141, 142, 143, 144, 145, 146, 147, 148, 149, 150, 151, 152, 153, 154, 155, 156, 157, 158, 159, 160, 161, 162, 163, 164, 165, 166, 167, 168, 169, 170, 171, 172, 173, 174, 175, 176, 177, 178, 179, 180, 181, 182, 183, 184, 185, 186, 187, 188, 189, 190, 191, 192, 193, 194, 195, 196, 197, 198, 199, 246, 247, 248, 249, 250, 251, 252, 229, 230, 231, 232, 233, 234, 235, 236, 237, 238, 239, 240, 241, 253, 254, 255, 256, 257, 258, 259, 260, 261, 262, 263, 264, 265, 266, 267, 268, 269] (by decide +kernel) (by decide +kernel)
set_option maxRecDepth 20000 in
theorem gX11_sentence_X6_read : GoodIn wsX11_sentence (wsV RX11 386 RX6 yX6_read wsX6_read) := goodIn_app (goodIn_of _ (by decide +kernel)) ggX11_sentence_X6_read
set_option maxRecDepth 20000 in
theorem ggX11_sentence_X11_closeText : GoodIn wsX11_sentence wsX11_closeText := goodIn_r _ [204, 3, 205, 2, 206, 207, 216, 217, 218, 219, 220, 221, 222, 223, 224, 225, 226, 227, 228, 229, 230, 231, 232, 233, 234, 235, 236, 237, 238, 239, 240, 241, 253, 254] (by decide +kernel) (by decide +kernel)
set_option maxRecDepth 20000 in
theorem gX11_sentence_X11_closeText : GoodIn wsX11_sentence (wsV RX11 113 RX11 yX11_closeText wsX11_closeText) := goodIn_app (goodIn_of _ (by decide +kernel)) ggX11_sentence_X11_closeText
set_option maxRecDepth 20000 in
theorem ggX11_sentence_X5_copyFrom : GoodIn wsX11_sentence wsX5_copyFrom := goodIn_r _ [211, 21, 148, 212, 213, 214, 215, 250, 251, 252] (by decide +kernel) (by decide +kernel)
set_option maxRecDepth 20000 in
theorem gX11_sentence_X5_copyFrom : GoodIn wsX11_sentence (wsV RX11 389 RX5 yX5_copyFrom wsX5_copyFrom) := goodIn_app (goodIn_of _ (by decide +kernel)) ggX11_sentence_X5_copyFrom
theorem dX11_sentence_0 : decode cX11_sentence 0 = .ok (.aload_n 0, 1) := by decide +kernel
theorem dX11_sentence_1 : decode cX11_sentence 1 = .ok (.getfield 70, 3) := by decide +kernel
theorem dX11_sentence_4 : decode cX11_sentence 4 = .ok (.invokevirtual 386, 3) := by decide +kernel
theorem dX11_sentence_7 : decode cX11_sentence 7 = .ok (.istore_n 1, 1) := by decide +kernel
theorem dX11_sentence_8 : decode cX11_sentence 8 = .ok (.aload_n 0, 1) := by decide +kernel
theorem dX11_sentence_9 : decode cX11_sentence 9 = .ok (.invokevirtual 113, 3) := by decide +kernel
theorem dX11_sentence_12 : decode cX11_sentence 12 = .ok (.aload_n 0, 1) := by decide +kernel
theorem dX11_sentence_13 : decode cX11_sentence 13 = .ok (.getfield 95, 3) := by decide +kernel
theorem dX11_sentence_16 : decode cX11_sentence 16 = .ok (.ifCond .eq 13, 3) := by decide +kernel
theorem dX11_sentence_19 : decode cX11_sentence 19 = .ok (.iconst (-1), 1) := by decide +kernel
theorem dX11_sentence_20 : decode cX11_sentence 20 = .ok (.aload_n 0, 1) := by decide +kernel
theorem dX11_sentence_21 : decode cX11_sentence 21 = .ok (.getfield 21, 3) := by decide +kernel
theorem dX11_sentence_24 : decode cX11_sentence 24 = .ok (.getfield 116, 3) := by decide +kernel
theorem dX11_sentence_27 : decode cX11_sentence 27 = .ok (.isub, 1) := by decide +kernel
theorem dX11_sentence_28 : decode cX11_sentence 28 = .ok (.ireturn, 1) := by decide +kernel
theorem dX11_sentence_29 : decode cX11_sentence 29 = .ok (.aload_n 0, 1) := by decide +kernel
theorem dX11_sentence_30 : decode cX11_sentence 30 = .ok (.getfield 28, 3) := by decide +kernel
theorem dX11_sentence_33 : decode cX11_sentence 33 = .ok (.getfield 133, 3) := by decide +kernel
theorem dX11_sentence_36 : decode cX11_sentence 36 = .ok (.aload_n 0, 1) := by decide +kernel
theorem dX11_sentence_37 : decode cX11_sentence 37 = .ok (.getfield 70, 3) := by decide +kernel
theorem dX11_sentence_40 : decode cX11_sentence 40 = .ok (.getfield 387, 3) := by decide +kernel
theorem dX11_sentence_43 : decode cX11_sentence 43 = .ok (.invokevirtual 389, 3) := by decide +kernel
theorem dX11_sentence_46 : decode cX11_sentence 46 = .ok (.iload_n 1, 1) := by decide +kernel
theorem dX11_sentence_47 : decode cX11_sentence 47 = .ok (.ireturn, 1) := by decide +kernel
set_option maxRecDepth 20000 in
theorem ggX11_said_X5_mastersSaid : GoodIn wsX11_said wsX5_mastersSaid := goodIn_r _ [11, 12, 13, 14, 15, 16, 17, 18, 10, 19, 20, 21, 22, 23, 24, 25, 26, 27, 28, 29, 30, 31, 32, 33, 34, 35, 36, 37, 38, 39, 40, 41, 42, 43, 44, 45, 46, 47, 48, 49, 50, 51, 52, 53, 54, 55, 56, 57, 58, 59, 60, 61, 62, 63, 64, 65, 66, 67, 68, 69, 70, 71, 72, 73, 74, 75, 76, 77, 78, 98, 99, 100, 116, 117, 118, 119, 120, 121, 122, 123, 124, 125, 101, 102, 103, 104, 105, 106, 107, 108, 109, 110, 111, 112, 113, 114, 115] (by decide +kernel) (by decide +kernel)
set_option maxRecDepth 20000 in
theorem gX11_said_X5_mastersSaid : GoodIn wsX11_said (wsV RX11 393 RX5 yX5_mastersSaid wsX5_mastersSaid) := goodIn_app (goodIn_of _ (by decide +kernel)) ggX11_said_X5_mastersSaid
set_option maxRecDepth 20000 in
theorem ggX11_said_J6_bitCount_0f7a4 : GoodIn wsX11_said wsJ6_bitCount_0f7a4 := goodIn_r _ [75, 76, 77, 78] (by decide +kernel) (by decide +kernel)
set_option maxRecDepth 20000 in
theorem gX11_said_J6_bitCount_0f7a4 : GoodIn wsX11_said (va_wsS RX11 396 yJ6_bitCount_0f7a4 wsJ6_bitCount_0f7a4) := goodIn_app (goodIn_of _ (by decide +kernel)) ggX11_said_J6_bitCount_0f7a4
set_option maxRecDepth 20000 in
theorem ggX11_said_X11_hasBit : GoodIn wsX11_said wsX11_hasBit := goodIn_r _ [68] (by decide +kernel) (by decide +kernel)
set_option maxRecDepth 20000 in
theorem gX11_said_X11_hasBit : GoodIn wsX11_said (va_wsS RX11 401 yX11_hasBit wsX11_hasBit) := goodIn_app (goodIn_of _ (by decide +kernel)) ggX11_said_X11_hasBit
theorem dX11_said_0 : decode cX11_said 0 = .ok (.aload_n 0, 1) := by decide +kernel
theorem dX11_said_1 : decode cX11_said 1 = .ok (.getfield 28, 3) := by decide +kernel
theorem dX11_said_4 : decode cX11_said 4 = .ok (.getfield 133, 3) := by decide +kernel
theorem dX11_said_7 : decode cX11_said 7 = .ok (.getfield 392, 3) := by decide +kernel
theorem dX11_said_10 : decode cX11_said 10 = .ok (.ifCond .ne 5, 3) := by decide +kernel
theorem dX11_said_13 : decode cX11_said 13 = .ok (.iconst (-1), 1) := by decide +kernel
theorem dX11_said_14 : decode cX11_said 14 = .ok (.ireturn, 1) := by decide +kernel
theorem dX11_said_15 : decode cX11_said 15 = .ok (.aload_n 0, 1) := by decide +kernel
theorem dX11_said_16 : decode cX11_said 16 = .ok (.getfield 28, 3) := by decide +kernel
theorem dX11_said_19 : decode cX11_said 19 = .ok (.getfield 133, 3) := by decide +kernel
theorem dX11_said_22 : decode cX11_said 22 = .ok (.aload_n 0, 1) := by decide +kernel
theorem dX11_said_23 : decode cX11_said 23 = .ok (.getfield 28, 3) := by decide +kernel
theorem dX11_said_26 : decode cX11_said 26 = .ok (.getfield 127, 3) := by decide +kernel
theorem dX11_said_29 : decode cX11_said 29 = .ok (.invokevirtual 393, 3) := by decide +kernel
theorem dX11_said_32 : decode cX11_said 32 = .ok (.istore_n 2, 1) := by decide +kernel
theorem dX11_said_33 : decode cX11_said 33 = .ok (.iload_n 1, 1) := by decide +kernel
theorem dX11_said_34 : decode cX11_said 34 = .ok (.iconst (-1), 1) := by decide +kernel
theorem dX11_said_35 : decode cX11_said 35 = .ok (.if_icmp .ne 8, 3) := by decide +kernel
theorem dX11_said_38 : decode cX11_said 38 = .ok (.iload_n 2, 1) := by decide +kernel
theorem dX11_said_39 : decode cX11_said 39 = .ok (.invokestatic 396, 3) := by decide +kernel
theorem dX11_said_42 : decode cX11_said 42 = .ok (.ireturn, 1) := by decide +kernel
theorem dX11_said_43 : decode cX11_said 43 = .ok (.iconst 0, 1) := by decide +kernel
theorem dX11_said_44 : decode cX11_said 44 = .ok (.istore_n 3, 1) := by decide +kernel
theorem dX11_said_45 : decode cX11_said 45 = .ok (.iconst 0, 1) := by decide +kernel
theorem dX11_said_46 : decode cX11_said 46 = .ok (.istore 4, 2) := by decide +kernel
theorem dX11_said_48 : decode cX11_said 48 = .ok (.iload 4, 2) := by decide +kernel
theorem dX11_said_50 : decode cX11_said 50 = .ok (.aload_n 0, 1) := by decide +kernel
theorem dX11_said_51 : decode cX11_said 51 = .ok (.getfield 28, 3) := by decide +kernel
theorem dX11_said_54 : decode cX11_said 54 = .ok (.getfield 38, 3) := by decide +kernel
theorem dX11_said_57 : decode cX11_said 57 = .ok (.getfield 319, 3) := by decide +kernel
theorem dX11_said_60 : decode cX11_said 60 = .ok (.if_icmp .ge 29, 3) := by decide +kernel
theorem dX11_said_63 : decode cX11_said 63 = .ok (.iload_n 2, 1) := by decide +kernel
theorem dX11_said_64 : decode cX11_said 64 = .ok (.iload 4, 2) := by decide +kernel
theorem dX11_said_66 : decode cX11_said 66 = .ok (.invokestatic 401, 3) := by decide +kernel
theorem dX11_said_69 : decode cX11_said 69 = .ok (.ifCond .eq 14, 3) := by decide +kernel
theorem dX11_said_72 : decode cX11_said 72 = .ok (.iload_n 3, 1) := by decide +kernel
theorem dX11_said_73 : decode cX11_said 73 = .ok (.iload_n 1, 1) := by decide +kernel
theorem dX11_said_74 : decode cX11_said 74 = .ok (.if_icmp .ne 6, 3) := by decide +kernel
theorem dX11_said_77 : decode cX11_said 77 = .ok (.iload 4, 2) := by decide +kernel
theorem dX11_said_79 : decode cX11_said 79 = .ok (.ireturn, 1) := by decide +kernel
theorem dX11_said_80 : decode cX11_said 80 = .ok (.iinc 3 1, 3) := by decide +kernel
theorem dX11_said_83 : decode cX11_said 83 = .ok (.iinc 4 1, 3) := by decide +kernel
theorem dX11_said_86 : decode cX11_said 86 = .ok (.goto (-38), 3) := by decide +kernel
theorem dX11_said_89 : decode cX11_said 89 = .ok (.iconst (-1), 1) := by decide +kernel
theorem dX11_said_90 : decode cX11_said 90 = .ok (.ireturn, 1) := by decide +kernel
set_option maxRecDepth 20000 in
theorem ggX11_image_X10_copyFrom : GoodIn wsX11_image wsX10_copyFrom := goodIn_r _ [8, 9, 10, 11, 12, 13, 14, 15, 16, 17, 18, 19, 20, 21, 22, 23, 24, 25, 26, 27, 28, 29, 30, 31, 32, 33, 34, 35, 36, 37, 38, 39, 40, 41, 42, 43, 44, 45, 46, 47, 48, 49, 50, 51, 52, 53, 54, 55, 56, 57, 58, 72, 73, 74, 75, 76, 77, 78, 79, 80, 81, 82, 83, 84, 85, 86, 87, 88, 89, 90, 91, 92, 93, 94, 95, 96, 97, 98, 99, 100, 101, 102, 103] (by decide +kernel) (by decide +kernel)
set_option maxRecDepth 20000 in
theorem gX11_image_X10_copyFrom : GoodIn wsX11_image (wsV RX11 405 RX10 yX10_copyFrom wsX10_copyFrom) := goodIn_app (goodIn_of _ (by decide +kernel)) ggX11_image_X10_copyFrom
theorem dX11_image_0 : decode cX11_image 0 = .ok (.iload_n 1, 1) := by decide +kernel
theorem dX11_image_1 : decode cX11_image 1 = .ok (.ifCond .lt 8, 3) := by decide +kernel
theorem dX11_image_4 : decode cX11_image 4 = .ok (.iload_n 1, 1) := by decide +kernel
theorem dX11_image_5 : decode cX11_image 5 = .ok (.iconst 2, 1) := by decide +kernel
theorem dX11_image_6 : decode cX11_image 6 = .ok (.if_icmp .lt 5, 3) := by decide +kernel
theorem dX11_image_9 : decode cX11_image 9 = .ok (.iconst 0, 1) := by decide +kernel
theorem dX11_image_10 : decode cX11_image 10 = .ok (.ireturn, 1) := by decide +kernel
theorem dX11_image_11 : decode cX11_image 11 = .ok (.aload_n 0, 1) := by decide +kernel
theorem dX11_image_12 : decode cX11_image 12 = .ok (.getfield 32, 3) := by decide +kernel
theorem dX11_image_15 : decode cX11_image 15 = .ok (.iload_n 1, 1) := by decide +kernel
theorem dX11_image_16 : decode cX11_image 16 = .ok (.aaload, 1) := by decide +kernel
theorem dX11_image_17 : decode cX11_image 17 = .ok (.aload_n 0, 1) := by decide +kernel
theorem dX11_image_18 : decode cX11_image 18 = .ok (.getfield 28, 3) := by decide +kernel
theorem dX11_image_21 : decode cX11_image 21 = .ok (.invokevirtual 405, 3) := by decide +kernel
theorem dX11_image_24 : decode cX11_image 24 = .ok (.aload_n 0, 1) := by decide +kernel
theorem dX11_image_25 : decode cX11_image 25 = .ok (.getfield 32, 3) := by decide +kernel
theorem dX11_image_28 : decode cX11_image 28 = .ok (.iload_n 1, 1) := by decide +kernel
theorem dX11_image_29 : decode cX11_image 29 = .ok (.aaload, 1) := by decide +kernel
theorem dX11_image_30 : decode cX11_image 30 = .ok (.iconst 1, 1) := by decide +kernel
theorem dX11_image_31 : decode cX11_image 31 = .ok (.putfield 408, 3) := by decide +kernel
theorem dX11_image_34 : decode cX11_image 34 = .ok (.iconst 1, 1) := by decide +kernel
theorem dX11_image_35 : decode cX11_image 35 = .ok (.ireturn, 1) := by decide +kernel
set_option maxRecDepth 20000 in
theorem ggX11_restore_X10_copyFrom : GoodIn wsX11_restore wsX10_copyFrom := goodIn_r _ [9, 10, 11, 12, 13, 14, 15, 16, 17, 18, 19, 20, 21, 22, 23, 24, 25, 26, 27, 28, 29, 30, 31, 32, 33, 34, 35, 36, 37, 38, 39, 40, 41, 42, 43, 44, 45, 46, 47, 48, 49, 50, 51, 52, 53, 54, 55, 56, 57, 58, 59, 79, 80, 81, 82, 83, 84, 85, 86, 87, 88, 89, 90, 91, 92, 93, 94, 95, 96, 97, 98, 99, 100, 101, 102, 103, 104, 105, 106, 107, 108, 109, 110] (by decide +kernel) (by decide +kernel)
set_option maxRecDepth 20000 in
theorem gX11_restore_X10_copyFrom : GoodIn wsX11_restore (wsV RX11 405 RX10 yX10_copyFrom wsX10_copyFrom) := goodIn_app (goodIn_of _ (by decide +kernel)) ggX11_restore_X10_copyFrom
set_option maxRecDepth 20000 in
theorem ggX11_restore_X4_forget : GoodIn wsX11_restore wsX4_forget := goodIn_r _ [64, 65, 111, 112, 113] (by decide +kernel) (by decide +kernel)
set_option maxRecDepth 20000 in
theorem gX11_restore_X4_forget : GoodIn wsX11_restore (wsV RX11 142 RX4 yX4_forget wsX4_forget) := goodIn_app (goodIn_of _ (by decide +kernel)) ggX11_restore_X4_forget
theorem dX11_restore_0 : decode cX11_restore 0 = .ok (.iload_n 1, 1) := by decide +kernel
theorem dX11_restore_1 : decode cX11_restore 1 = .ok (.ifCond .lt 20, 3) := by decide +kernel
theorem dX11_restore_4 : decode cX11_restore 4 = .ok (.iload_n 1, 1) := by decide +kernel
theorem dX11_restore_5 : decode cX11_restore 5 = .ok (.iconst 2, 1) := by decide +kernel
theorem dX11_restore_6 : decode cX11_restore 6 = .ok (.if_icmp .ge 15, 3) := by decide +kernel
theorem dX11_restore_9 : decode cX11_restore 9 = .ok (.aload_n 0, 1) := by decide +kernel
theorem dX11_restore_10 : decode cX11_restore 10 = .ok (.getfield 32, 3) := by decide +kernel
theorem dX11_restore_13 : decode cX11_restore 13 = .ok (.iload_n 1, 1) := by decide +kernel
theorem dX11_restore_14 : decode cX11_restore 14 = .ok (.aaload, 1) := by decide +kernel
theorem dX11_restore_15 : decode cX11_restore 15 = .ok (.getfield 408, 3) := by decide +kernel
theorem dX11_restore_18 : decode cX11_restore 18 = .ok (.ifCond .ne 5, 3) := by decide +kernel
theorem dX11_restore_21 : decode cX11_restore 21 = .ok (.iconst 0, 1) := by decide +kernel
theorem dX11_restore_22 : decode cX11_restore 22 = .ok (.ireturn, 1) := by decide +kernel
theorem dX11_restore_23 : decode cX11_restore 23 = .ok (.aload_n 0, 1) := by decide +kernel
theorem dX11_restore_24 : decode cX11_restore 24 = .ok (.getfield 28, 3) := by decide +kernel
theorem dX11_restore_27 : decode cX11_restore 27 = .ok (.aload_n 0, 1) := by decide +kernel
theorem dX11_restore_28 : decode cX11_restore 28 = .ok (.getfield 32, 3) := by decide +kernel
theorem dX11_restore_31 : decode cX11_restore 31 = .ok (.iload_n 1, 1) := by decide +kernel
theorem dX11_restore_32 : decode cX11_restore 32 = .ok (.aaload, 1) := by decide +kernel
theorem dX11_restore_33 : decode cX11_restore 33 = .ok (.invokevirtual 405, 3) := by decide +kernel
theorem dX11_restore_36 : decode cX11_restore 36 = .ok (.aload_n 0, 1) := by decide +kernel
theorem dX11_restore_37 : decode cX11_restore 37 = .ok (.getfield 45, 3) := by decide +kernel
theorem dX11_restore_40 : decode cX11_restore 40 = .ok (.invokevirtual 142, 3) := by decide +kernel
theorem dX11_restore_43 : decode cX11_restore 43 = .ok (.iconst 1, 1) := by decide +kernel
theorem dX11_restore_44 : decode cX11_restore 44 = .ok (.ireturn, 1) := by decide +kernel
theorem dX11_count_0 : decode cX11_count 0 = .ok (.iload_n 1, 1) := by decide +kernel
theorem dX11_count_1 : decode cX11_count 1 = .ok (.tableswitch 87 0 4 #[35, 46, 57, 68, 79], 35) := by decide +kernel
theorem dX11_count_36 : decode cX11_count 36 = .ok (.aload_n 0, 1) := by decide +kernel
theorem dX11_count_37 : decode cX11_count 37 = .ok (.getfield 28, 3) := by decide +kernel
theorem dX11_count_40 : decode cX11_count 40 = .ok (.getfield 38, 3) := by decide +kernel
theorem dX11_count_43 : decode cX11_count 43 = .ok (.getfield 302, 3) := by decide +kernel
theorem dX11_count_46 : decode cX11_count 46 = .ok (.ireturn, 1) := by decide +kernel
theorem dX11_count_47 : decode cX11_count 47 = .ok (.aload_n 0, 1) := by decide +kernel
theorem dX11_count_48 : decode cX11_count 48 = .ok (.getfield 28, 3) := by decide +kernel
theorem dX11_count_51 : decode cX11_count 51 = .ok (.getfield 38, 3) := by decide +kernel
theorem dX11_count_54 : decode cX11_count 54 = .ok (.getfield 319, 3) := by decide +kernel
theorem dX11_count_57 : decode cX11_count 57 = .ok (.ireturn, 1) := by decide +kernel
theorem dX11_count_58 : decode cX11_count 58 = .ok (.aload_n 0, 1) := by decide +kernel
theorem dX11_count_59 : decode cX11_count 59 = .ok (.getfield 28, 3) := by decide +kernel
theorem dX11_count_62 : decode cX11_count 62 = .ok (.getfield 38, 3) := by decide +kernel
theorem dX11_count_65 : decode cX11_count 65 = .ok (.getfield 411, 3) := by decide +kernel
theorem dX11_count_68 : decode cX11_count 68 = .ok (.ireturn, 1) := by decide +kernel
theorem dX11_count_69 : decode cX11_count 69 = .ok (.aload_n 0, 1) := by decide +kernel
theorem dX11_count_70 : decode cX11_count 70 = .ok (.getfield 28, 3) := by decide +kernel
theorem dX11_count_73 : decode cX11_count 73 = .ok (.getfield 38, 3) := by decide +kernel
theorem dX11_count_76 : decode cX11_count 76 = .ok (.getfield 282, 3) := by decide +kernel
theorem dX11_count_79 : decode cX11_count 79 = .ok (.ireturn, 1) := by decide +kernel
theorem dX11_count_80 : decode cX11_count 80 = .ok (.aload_n 0, 1) := by decide +kernel
theorem dX11_count_81 : decode cX11_count 81 = .ok (.getfield 10, 3) := by decide +kernel
theorem dX11_count_84 : decode cX11_count 84 = .ok (.getfield 102, 3) := by decide +kernel
theorem dX11_count_87 : decode cX11_count 87 = .ok (.ireturn, 1) := by decide +kernel
theorem dX11_count_88 : decode cX11_count 88 = .ok (.iconst (-1), 1) := by decide +kernel
theorem dX11_count_89 : decode cX11_count 89 = .ok (.ireturn, 1) := by decide +kernel
theorem dX11_isClock_0 : decode cX11_isClock 0 = .ok (.iload_n 1, 1) := by decide +kernel
theorem dX11_isClock_1 : decode cX11_isClock 1 = .ok (.ifCond .lt 21, 3) := by decide +kernel
theorem dX11_isClock_4 : decode cX11_isClock 4 = .ok (.iload_n 1, 1) := by decide +kernel
theorem dX11_isClock_5 : decode cX11_isClock 5 = .ok (.aload_n 0, 1) := by decide +kernel
theorem dX11_isClock_6 : decode cX11_isClock 6 = .ok (.getfield 28, 3) := by decide +kernel
theorem dX11_isClock_9 : decode cX11_isClock 9 = .ok (.getfield 38, 3) := by decide +kernel
theorem dX11_isClock_12 : decode cX11_isClock 12 = .ok (.getfield 302, 3) := by decide +kernel
theorem dX11_isClock_15 : decode cX11_isClock 15 = .ok (.if_icmp .ge 7, 3) := by decide +kernel
theorem dX11_isClock_18 : decode cX11_isClock 18 = .ok (.iconst 1, 1) := by decide +kernel
theorem dX11_isClock_19 : decode cX11_isClock 19 = .ok (.goto 4, 3) := by decide +kernel
theorem dX11_isClock_22 : decode cX11_isClock 22 = .ok (.iconst 0, 1) := by decide +kernel
theorem dX11_isClock_23 : decode cX11_isClock 23 = .ok (.ireturn, 1) := by decide +kernel
theorem dX11_isMaster_0 : decode cX11_isMaster 0 = .ok (.iload_n 1, 1) := by decide +kernel
theorem dX11_isMaster_1 : decode cX11_isMaster 1 = .ok (.ifCond .lt 21, 3) := by decide +kernel
theorem dX11_isMaster_4 : decode cX11_isMaster 4 = .ok (.iload_n 1, 1) := by decide +kernel
theorem dX11_isMaster_5 : decode cX11_isMaster 5 = .ok (.aload_n 0, 1) := by decide +kernel
theorem dX11_isMaster_6 : decode cX11_isMaster 6 = .ok (.getfield 28, 3) := by decide +kernel
theorem dX11_isMaster_9 : decode cX11_isMaster 9 = .ok (.getfield 38, 3) := by decide +kernel
theorem dX11_isMaster_12 : decode cX11_isMaster 12 = .ok (.getfield 319, 3) := by decide +kernel
theorem dX11_isMaster_15 : decode cX11_isMaster 15 = .ok (.if_icmp .ge 7, 3) := by decide +kernel
theorem dX11_isMaster_18 : decode cX11_isMaster 18 = .ok (.iconst 1, 1) := by decide +kernel
theorem dX11_isMaster_19 : decode cX11_isMaster 19 = .ok (.goto 4, 3) := by decide +kernel
theorem dX11_isMaster_22 : decode cX11_isMaster 22 = .ok (.iconst 0, 1) := by decide +kernel
theorem dX11_isMaster_23 : decode cX11_isMaster 23 = .ok (.ireturn, 1) := by decide +kernel
theorem dX11_isMeet_0 : decode cX11_isMeet 0 = .ok (.iload_n 1, 1) := by decide +kernel
theorem dX11_isMeet_1 : decode cX11_isMeet 1 = .ok (.ifCond .lt 21, 3) := by decide +kernel
theorem dX11_isMeet_4 : decode cX11_isMeet 4 = .ok (.iload_n 1, 1) := by decide +kernel
theorem dX11_isMeet_5 : decode cX11_isMeet 5 = .ok (.aload_n 0, 1) := by decide +kernel
theorem dX11_isMeet_6 : decode cX11_isMeet 6 = .ok (.getfield 28, 3) := by decide +kernel
theorem dX11_isMeet_9 : decode cX11_isMeet 9 = .ok (.getfield 38, 3) := by decide +kernel
theorem dX11_isMeet_12 : decode cX11_isMeet 12 = .ok (.getfield 411, 3) := by decide +kernel
theorem dX11_isMeet_15 : decode cX11_isMeet 15 = .ok (.if_icmp .ge 7, 3) := by decide +kernel
theorem dX11_isMeet_18 : decode cX11_isMeet 18 = .ok (.iconst 1, 1) := by decide +kernel
theorem dX11_isMeet_19 : decode cX11_isMeet 19 = .ok (.goto 4, 3) := by decide +kernel
theorem dX11_isMeet_22 : decode cX11_isMeet 22 = .ok (.iconst 0, 1) := by decide +kernel
theorem dX11_isMeet_23 : decode cX11_isMeet 23 = .ok (.ireturn, 1) := by decide +kernel
theorem dX11_closeText_0 : decode cX11_closeText 0 = .ok (.aload_n 0, 1) := by decide +kernel
theorem dX11_closeText_1 : decode cX11_closeText 1 = .ok (.aload_n 0, 1) := by decide +kernel
theorem dX11_closeText_2 : decode cX11_closeText 2 = .ok (.getfield 21, 3) := by decide +kernel
theorem dX11_closeText_5 : decode cX11_closeText 5 = .ok (.getfield 414, 3) := by decide +kernel
theorem dX11_closeText_8 : decode cX11_closeText 8 = .ok (.putfield 95, 3) := by decide +kernel
theorem dX11_closeText_11 : decode cX11_closeText 11 = .ok (.aload_n 0, 1) := by decide +kernel
theorem dX11_closeText_12 : decode cX11_closeText 12 = .ok (.getfield 10, 3) := by decide +kernel
theorem dX11_closeText_15 : decode cX11_closeText 15 = .ok (.iconst 0, 1) := by decide +kernel
theorem dX11_closeText_16 : decode cX11_closeText 16 = .ok (.putfield 102, 3) := by decide +kernel
theorem dX11_closeText_19 : decode cX11_closeText 19 = .ok (.return_, 1) := by decide +kernel
set_option maxRecDepth 20000 in
theorem ggX11_foresee_X3_copyFrom : GoodIn wsX11_foresee wsX3_copyFrom := goodIn_r _ [8, 9, 10, 11, 12, 13, 14, 15, 16, 17, 18, 19, 20, 21, 100, 101, 102, 103, 104, 105, 106, 107, 108, 109] (by decide +kernel) (by decide +kernel)
set_option maxRecDepth 20000 in
theorem gX11_foresee_X3_copyFrom : GoodIn wsX11_foresee (wsV RX11 363 RX3 yX3_copyFrom wsX3_copyFrom) := goodIn_app (goodIn_of _ (by decide +kernel)) ggX11_foresee_X3_copyFrom
set_option maxRecDepth 20000 in
theorem ggX11_foresee_X3_pass : GoodIn wsX11_foresee wsX3_pass := goodIn_r _ [25, 26, 27, 28, 29, 9, 30, 31, 32, 33, 34, 35, 7, 36, 37, 38, 39, 40, 41, 42, 43, 44, 45, 46, 47, 48, 49, 50, 51, 52, 53, 54, 55, 56, 21, 20, 57, 58, 19, 59, 17, 60, 61, 62, 63, 64, 65, 10, 66, 67, 68, 69, 18, 12, 70, 71, 72, 73, 74, 11, 75, 76, 77, 78, 79, 80, 81, 82, 100, 101, 102, 103, 104, 105, 106, 107, 108, 109, 110, 111, 112, 113, 114, 115, 116, 117, 118, 119, 120, 121, 122, 123, 124] (by decide +kernel) (by decide +kernel)
set_option maxRecDepth 20000 in
theorem gX11_foresee_X3_pass : GoodIn wsX11_foresee (wsV RX11 266 RX3 yX3_pass wsX3_pass) := goodIn_app (goodIn_of _ (by decide +kernel)) ggX11_foresee_X3_pass
theorem dX11_foresee_0 : decode cX11_foresee 0 = .ok (.aload_n 0, 1) := by decide +kernel
theorem dX11_foresee_1 : decode cX11_foresee 1 = .ok (.getfield 52, 3) := by decide +kernel
theorem dX11_foresee_4 : decode cX11_foresee 4 = .ok (.aload_n 0, 1) := by decide +kernel
theorem dX11_foresee_5 : decode cX11_foresee 5 = .ok (.getfield 28, 3) := by decide +kernel
theorem dX11_foresee_8 : decode cX11_foresee 8 = .ok (.getfield 127, 3) := by decide +kernel
theorem dX11_foresee_11 : decode cX11_foresee 11 = .ok (.invokevirtual 363, 3) := by decide +kernel
theorem dX11_foresee_14 : decode cX11_foresee 14 = .ok (.aload_n 0, 1) := by decide +kernel
theorem dX11_foresee_15 : decode cX11_foresee 15 = .ok (.getfield 52, 3) := by decide +kernel
theorem dX11_foresee_18 : decode cX11_foresee 18 = .ok (.sipush 2000, 3) := by decide +kernel
theorem dX11_foresee_21 : decode cX11_foresee 21 = .ok (.invokevirtual 266, 3) := by decide +kernel
theorem dX11_foresee_24 : decode cX11_foresee 24 = .ok (.pop, 1) := by decide +kernel
theorem dX11_foresee_25 : decode cX11_foresee 25 = .ok (.return_, 1) := by decide +kernel
set_option maxRecDepth 20000 in
theorem ggX11_allWouldCome_X3_copyFrom : GoodIn wsX11_allWouldCome wsX3_copyFrom := goodIn_r _ [9, 10, 11, 12, 13, 14, 15, 16, 17, 18, 19, 20, 21, 22, 105, 106, 107, 108, 109, 110, 111, 112, 113, 114] (by decide +kernel) (by decide +kernel)
set_option maxRecDepth 20000 in
theorem gX11_allWouldCome_X3_copyFrom : GoodIn wsX11_allWouldCome (wsV RX11 363 RX3 yX3_copyFrom wsX3_copyFrom) := goodIn_app (goodIn_of _ (by decide +kernel)) ggX11_allWouldCome_X3_copyFrom
set_option maxRecDepth 20000 in
theorem ggX11_allWouldCome_X3_pass : GoodIn wsX11_allWouldCome wsX3_pass := goodIn_r _ [26, 27, 28, 29, 30, 10, 31, 32, 33, 34, 35, 36, 8, 37, 38, 39, 40, 41, 42, 43, 44, 45, 46, 47, 48, 49, 50, 51, 52, 53, 54, 55, 56, 57, 22, 21, 58, 59, 20, 60, 18, 61, 62, 63, 64, 65, 66, 11, 67, 68, 69, 70, 19, 13, 71, 72, 73, 74, 75, 12, 76, 77, 78, 79, 80, 81, 82, 83, 105, 106, 107, 108, 109, 110, 111, 112, 113, 114, 115, 116, 117, 118, 119, 120, 121, 122, 123, 124, 125, 126, 127, 128, 129] (by decide +kernel) (by decide +kernel)
set_option maxRecDepth 20000 in
theorem gX11_allWouldCome_X3_pass : GoodIn wsX11_allWouldCome (wsV RX11 266 RX3 yX3_pass wsX3_pass) := goodIn_app (goodIn_of _ (by decide +kernel)) ggX11_allWouldCome_X3_pass
set_option maxRecDepth 20000 in
theorem ggX11_allWouldCome_X3_lastComes : GoodIn wsX11_allWouldCome wsX3_lastComes := goodIn_r _ [87, 42, 43, 22, 31, 32, 29, 33, 45, 46, 47, 48, 49, 50, 51, 52, 53, 61, 62, 105, 106, 107, 108, 109, 110, 111, 112, 113, 114, 115, 116, 117, 118, 119, 120, 121, 122, 123, 124, 125, 126, 127, 128, 129] (by decide +kernel) (by decide +kernel)
set_option maxRecDepth 20000 in
theorem gX11_allWouldCome_X3_lastComes : GoodIn wsX11_allWouldCome (wsV RX11 279 RX3 yX3_lastComes wsX3_lastComes) := goodIn_app (goodIn_of _ (by decide +kernel)) ggX11_allWouldCome_X3_lastComes
theorem dX11_allWouldCome_0 : decode cX11_allWouldCome 0 = .ok (.aload_n 0, 1) := by decide +kernel
theorem dX11_allWouldCome_1 : decode cX11_allWouldCome 1 = .ok (.getfield 52, 3) := by decide +kernel
theorem dX11_allWouldCome_4 : decode cX11_allWouldCome 4 = .ok (.aload_n 0, 1) := by decide +kernel
theorem dX11_allWouldCome_5 : decode cX11_allWouldCome 5 = .ok (.getfield 28, 3) := by decide +kernel
theorem dX11_allWouldCome_8 : decode cX11_allWouldCome 8 = .ok (.getfield 127, 3) := by decide +kernel
theorem dX11_allWouldCome_11 : decode cX11_allWouldCome 11 = .ok (.invokevirtual 363, 3) := by decide +kernel
theorem dX11_allWouldCome_14 : decode cX11_allWouldCome 14 = .ok (.aload_n 0, 1) := by decide +kernel
theorem dX11_allWouldCome_15 : decode cX11_allWouldCome 15 = .ok (.getfield 52, 3) := by decide +kernel
theorem dX11_allWouldCome_18 : decode cX11_allWouldCome 18 = .ok (.getfield 213, 3) := by decide +kernel
theorem dX11_allWouldCome_21 : decode cX11_allWouldCome 21 = .ok (.iload_n 1, 1) := by decide +kernel
theorem dX11_allWouldCome_22 : decode cX11_allWouldCome 22 = .ok (.iload_n 2, 1) := by decide +kernel
theorem dX11_allWouldCome_23 : decode cX11_allWouldCome 23 = .ok (.iastore, 1) := by decide +kernel
theorem dX11_allWouldCome_24 : decode cX11_allWouldCome 24 = .ok (.aload_n 0, 1) := by decide +kernel
theorem dX11_allWouldCome_25 : decode cX11_allWouldCome 25 = .ok (.getfield 52, 3) := by decide +kernel
theorem dX11_allWouldCome_28 : decode cX11_allWouldCome 28 = .ok (.iload_n 3, 1) := by decide +kernel
theorem dX11_allWouldCome_29 : decode cX11_allWouldCome 29 = .ok (.iconst 1, 1) := by decide +kernel
theorem dX11_allWouldCome_30 : decode cX11_allWouldCome 30 = .ok (.iadd, 1) := by decide +kernel
theorem dX11_allWouldCome_31 : decode cX11_allWouldCome 31 = .ok (.invokevirtual 266, 3) := by decide +kernel
theorem dX11_allWouldCome_34 : decode cX11_allWouldCome 34 = .ok (.pop, 1) := by decide +kernel
theorem dX11_allWouldCome_35 : decode cX11_allWouldCome 35 = .ok (.aload_n 0, 1) := by decide +kernel
theorem dX11_allWouldCome_36 : decode cX11_allWouldCome 36 = .ok (.getfield 52, 3) := by decide +kernel
theorem dX11_allWouldCome_39 : decode cX11_allWouldCome 39 = .ok (.iload_n 1, 1) := by decide +kernel
theorem dX11_allWouldCome_40 : decode cX11_allWouldCome 40 = .ok (.invokevirtual 279, 3) := by decide +kernel
theorem dX11_allWouldCome_43 : decode cX11_allWouldCome 43 = .ok (.iconst (-1), 1) := by decide +kernel
theorem dX11_allWouldCome_44 : decode cX11_allWouldCome 44 = .ok (.if_icmp .eq 7, 3) := by decide +kernel
theorem dX11_allWouldCome_47 : decode cX11_allWouldCome 47 = .ok (.iconst 1, 1) := by decide +kernel
theorem dX11_allWouldCome_48 : decode cX11_allWouldCome 48 = .ok (.goto 4, 3) := by decide +kernel
theorem dX11_allWouldCome_51 : decode cX11_allWouldCome 51 = .ok (.iconst 0, 1) := by decide +kernel
theorem dX11_allWouldCome_52 : decode cX11_allWouldCome 52 = .ok (.ireturn, 1) := by decide +kernel
set_option maxRecDepth 20000 in
theorem ggX11_spell_J4_append_cf468 : GoodIn wsX11_spell wsJ4_append_cf468 := goodIn_r _ [6, 7, 8, 9, 10, 11, 12, 13, 14, 15, 16, 17, 18, 19, 20, 21, 22, 23, 24, 25, 26, 27, 28, 29, 30, 31, 32, 33, 34, 35, 36, 37, 38, 39, 40, 41, 42, 43, 44, 45, 46, 47, 48, 49, 50, 51, 52, 53, 54, 55, 56, 57, 58, 59, 60, 61, 62, 63, 64, 65, 66, 67, 68, 69, 70, 71, 72, 73, 74, 75, 76, 77, 78, 79, 80, 81, 82, 83, 84, 85, 86, 87, 88, 89, 90, 91, 92, 93, 94, 95, 96, 97, 98, 99, 100, 101, 102, 103, 104, 105, 106, 107, 108, 109, 110, 111, 112, 113, 114, 115, 116, 117, 118, 132, 133, 134, 135] (by decide +kernel) (by decide +kernel)
set_option maxRecDepth 20000 in
theorem gX11_spell_J4_append_cf468 : GoodIn wsX11_spell (wsV RX11 349 RJ4 yJ4_append_cf468 wsJ4_append_cf468) := goodIn_app (goodIn_of _ (by decide +kernel)) ggX11_spell_J4_append_cf468
theorem dX11_spell_0 : decode cX11_spell 0 = .ok (.bipush 48, 2) := by decide +kernel
theorem dX11_spell_2 : decode cX11_spell 2 = .ok (.istore_n 3, 1) := by decide +kernel
theorem dX11_spell_3 : decode cX11_spell 3 = .ok (.iload_n 3, 1) := by decide +kernel
theorem dX11_spell_4 : decode cX11_spell 4 = .ok (.ifCond .lt 35, 3) := by decide +kernel
theorem dX11_spell_7 : decode cX11_spell 7 = .ok (.lload_n 1, 1) := by decide +kernel
theorem dX11_spell_8 : decode cX11_spell 8 = .ok (.iload_n 3, 1) := by decide +kernel
theorem dX11_spell_9 : decode cX11_spell 9 = .ok (.lshr, 1) := by decide +kernel
theorem dX11_spell_10 : decode cX11_spell 10 = .ok (.l2i, 1) := by decide +kernel
theorem dX11_spell_11 : decode cX11_spell 11 = .ok (.sipush 255, 3) := by decide +kernel
theorem dX11_spell_14 : decode cX11_spell 14 = .ok (.iand, 1) := by decide +kernel
theorem dX11_spell_15 : decode cX11_spell 15 = .ok (.istore 4, 2) := by decide +kernel
theorem dX11_spell_17 : decode cX11_spell 17 = .ok (.iload 4, 2) := by decide +kernel
theorem dX11_spell_19 : decode cX11_spell 19 = .ok (.ifCond .eq 14, 3) := by decide +kernel
theorem dX11_spell_22 : decode cX11_spell 22 = .ok (.aload_n 0, 1) := by decide +kernel
theorem dX11_spell_23 : decode cX11_spell 23 = .ok (.getfield 91, 3) := by decide +kernel
theorem dX11_spell_26 : decode cX11_spell 26 = .ok (.iload 4, 2) := by decide +kernel
theorem dX11_spell_28 : decode cX11_spell 28 = .ok (.i2c, 1) := by decide +kernel
theorem dX11_spell_29 : decode cX11_spell 29 = .ok (.invokevirtual 349, 3) := by decide +kernel
theorem dX11_spell_32 : decode cX11_spell 32 = .ok (.pop, 1) := by decide +kernel
theorem dX11_spell_33 : decode cX11_spell 33 = .ok (.iinc 3 (-8), 3) := by decide +kernel
theorem dX11_spell_36 : decode cX11_spell 36 = .ok (.goto (-33), 3) := by decide +kernel
theorem dX11_spell_39 : decode cX11_spell 39 = .ok (.return_, 1) := by decide +kernel
theorem dX11_greatestCommon_0 : decode cX11_greatestCommon 0 = .ok (.iload_n 0, 1) := by decide +kernel
theorem dX11_greatestCommon_1 : decode cX11_greatestCommon 1 = .ok (.istore_n 2, 1) := by decide +kernel
theorem dX11_greatestCommon_2 : decode cX11_greatestCommon 2 = .ok (.iload_n 1, 1) := by decide +kernel
theorem dX11_greatestCommon_3 : decode cX11_greatestCommon 3 = .ok (.istore_n 3, 1) := by decide +kernel
theorem dX11_greatestCommon_4 : decode cX11_greatestCommon 4 = .ok (.iconst 0, 1) := by decide +kernel
theorem dX11_greatestCommon_5 : decode cX11_greatestCommon 5 = .ok (.istore 4, 2) := by decide +kernel
theorem dX11_greatestCommon_7 : decode cX11_greatestCommon 7 = .ok (.iload 4, 2) := by decide +kernel
theorem dX11_greatestCommon_9 : decode cX11_greatestCommon 9 = .ok (.bipush 100, 2) := by decide +kernel
theorem dX11_greatestCommon_11 : decode cX11_greatestCommon 11 = .ok (.if_icmp .ge 23, 3) := by decide +kernel
theorem dX11_greatestCommon_14 : decode cX11_greatestCommon 14 = .ok (.iload_n 3, 1) := by decide +kernel
theorem dX11_greatestCommon_15 : decode cX11_greatestCommon 15 = .ok (.ifCond .eq 19, 3) := by decide +kernel
theorem dX11_greatestCommon_18 : decode cX11_greatestCommon 18 = .ok (.iload_n 2, 1) := by decide +kernel
theorem dX11_greatestCommon_19 : decode cX11_greatestCommon 19 = .ok (.iload_n 3, 1) := by decide +kernel
theorem dX11_greatestCommon_20 : decode cX11_greatestCommon 20 = .ok (.irem, 1) := by decide +kernel
theorem dX11_greatestCommon_21 : decode cX11_greatestCommon 21 = .ok (.istore 5, 2) := by decide +kernel
theorem dX11_greatestCommon_23 : decode cX11_greatestCommon 23 = .ok (.iload_n 3, 1) := by decide +kernel
theorem dX11_greatestCommon_24 : decode cX11_greatestCommon 24 = .ok (.istore_n 2, 1) := by decide +kernel
theorem dX11_greatestCommon_25 : decode cX11_greatestCommon 25 = .ok (.iload 5, 2) := by decide +kernel
theorem dX11_greatestCommon_27 : decode cX11_greatestCommon 27 = .ok (.istore_n 3, 1) := by decide +kernel
theorem dX11_greatestCommon_28 : decode cX11_greatestCommon 28 = .ok (.iinc 4 1, 3) := by decide +kernel
theorem dX11_greatestCommon_31 : decode cX11_greatestCommon 31 = .ok (.goto (-24), 3) := by decide +kernel
theorem dX11_greatestCommon_34 : decode cX11_greatestCommon 34 = .ok (.iload_n 2, 1) := by decide +kernel
theorem dX11_greatestCommon_35 : decode cX11_greatestCommon 35 = .ok (.ireturn, 1) := by decide +kernel
theorem dX11_hasBit_0 : decode cX11_hasBit 0 = .ok (.iload_n 0, 1) := by decide +kernel
theorem dX11_hasBit_1 : decode cX11_hasBit 1 = .ok (.iload_n 1, 1) := by decide +kernel
theorem dX11_hasBit_2 : decode cX11_hasBit 2 = .ok (.ishr, 1) := by decide +kernel
theorem dX11_hasBit_3 : decode cX11_hasBit 3 = .ok (.iconst 1, 1) := by decide +kernel
theorem dX11_hasBit_4 : decode cX11_hasBit 4 = .ok (.iand, 1) := by decide +kernel
theorem dX11_hasBit_5 : decode cX11_hasBit 5 = .ok (.ifCond .eq 7, 3) := by decide +kernel
theorem dX11_hasBit_8 : decode cX11_hasBit 8 = .ok (.iconst 1, 1) := by decide +kernel
theorem dX11_hasBit_9 : decode cX11_hasBit 9 = .ok (.goto 4, 3) := by decide +kernel
theorem dX11_hasBit_12 : decode cX11_hasBit 12 = .ok (.iconst 0, 1) := by decide +kernel
theorem dX11_hasBit_13 : decode cX11_hasBit 13 = .ok (.ireturn, 1) := by decide +kernel
theorem dX11_slot_0 : decode cX11_slot 0 = .ok (.iload_n 0, 1) := by decide +kernel
theorem dX11_slot_1 : decode cX11_slot 1 = .ok (.bipush 6, 2) := by decide +kernel
theorem dX11_slot_3 : decode cX11_slot 3 = .ok (.imul, 1) := by decide +kernel
theorem dX11_slot_4 : decode cX11_slot 4 = .ok (.iload_n 1, 1) := by decide +kernel
theorem dX11_slot_5 : decode cX11_slot 5 = .ok (.iadd, 1) := by decide +kernel
theorem dX11_slot_6 : decode cX11_slot 6 = .ok (.ireturn, 1) := by decide +kernel
theorem dX12_thrown_0 : decode cX12_thrown 0 = .ok (.aload_n 0, 1) := by decide +kernel
theorem dX12_thrown_1 : decode cX12_thrown 1 = .ok (.getfield 1, 3) := by decide +kernel
theorem dX12_thrown_4 : decode cX12_thrown 4 = .ok (.ireturn, 1) := by decide +kernel
theorem dX12_throwsIf_0 : decode cX12_throwsIf 0 = .ok (.aload_n 0, 1) := by decide +kernel
theorem dX12_throwsIf_1 : decode cX12_throwsIf 1 = .ok (.iload_n 1, 1) := by decide +kernel
theorem dX12_throwsIf_2 : decode cX12_throwsIf 2 = .ok (.ifCond .eq 7, 3) := by decide +kernel
theorem dX12_throwsIf_5 : decode cX12_throwsIf 5 = .ok (.iconst 1, 1) := by decide +kernel
theorem dX12_throwsIf_6 : decode cX12_throwsIf 6 = .ok (.goto 4, 3) := by decide +kernel
theorem dX12_throwsIf_9 : decode cX12_throwsIf 9 = .ok (.iconst 0, 1) := by decide +kernel
theorem dX12_throwsIf_10 : decode cX12_throwsIf 10 = .ok (.putfield 1, 3) := by decide +kernel
theorem dX12_throwsIf_13 : decode cX12_throwsIf 13 = .ok (.iload_n 1, 1) := by decide +kernel
theorem dX12_throwsIf_14 : decode cX12_throwsIf 14 = .ok (.ireturn, 1) := by decide +kernel
set_option maxRecDepth 20000 in
theorem ggX12_feed_X12_four : GoodIn wsX12_feed wsX12_four := goodIn_r _ [7, 8, 2, 9, 10, 11, 12, 13, 14, 15, 16, 17, 18, 19, 20, 21, 22, 23, 24, 25, 26, 27, 28, 29, 30, 31, 32, 33, 34, 35, 36, 37, 38, 39, 40, 41, 42, 43, 44, 45, 46, 47, 48, 49, 50, 51, 52, 53, 54] (by decide +kernel) (by decide +kernel)
set_option maxRecDepth 20000 in
theorem gX12_feed_X12_four : GoodIn wsX12_feed (wsV RX12 10 RX12 yX12_four wsX12_four) := goodIn_app (goodIn_of _ (by decide +kernel)) ggX12_feed_X12_four
theorem dX12_feed_0 : decode cX12_feed 0 = .ok (.aload_n 0, 1) := by decide +kernel
theorem dX12_feed_1 : decode cX12_feed 1 = .ok (.iconst 0, 1) := by decide +kernel
theorem dX12_feed_2 : decode cX12_feed 2 = .ok (.putfield 1, 3) := by decide +kernel
theorem dX12_feed_5 : decode cX12_feed 5 = .ok (.aload_n 0, 1) := by decide +kernel
theorem dX12_feed_6 : decode cX12_feed 6 = .ok (.getfield 7, 3) := by decide +kernel
theorem dX12_feed_9 : decode cX12_feed 9 = .ok (.bipush 20, 2) := by decide +kernel
theorem dX12_feed_11 : decode cX12_feed 11 = .ok (.iadd, 1) := by decide +kernel
theorem dX12_feed_12 : decode cX12_feed 12 = .ok (.sipush 940, 3) := by decide +kernel
theorem dX12_feed_15 : decode cX12_feed 15 = .ok (.if_icmp .le 5, 3) := by decide +kernel
theorem dX12_feed_18 : decode cX12_feed 18 = .ok (.iconst (-1), 1) := by decide +kernel
theorem dX12_feed_19 : decode cX12_feed 19 = .ok (.ireturn, 1) := by decide +kernel
theorem dX12_feed_20 : decode cX12_feed 20 = .ok (.aload_n 0, 1) := by decide +kernel
theorem dX12_feed_21 : decode cX12_feed 21 = .ok (.iload_n 1, 1) := by decide +kernel
theorem dX12_feed_22 : decode cX12_feed 22 = .ok (.invokevirtual 10, 3) := by decide +kernel
theorem dX12_feed_25 : decode cX12_feed 25 = .ok (.aload_n 0, 1) := by decide +kernel
theorem dX12_feed_26 : decode cX12_feed 26 = .ok (.iload_n 2, 1) := by decide +kernel
theorem dX12_feed_27 : decode cX12_feed 27 = .ok (.invokevirtual 10, 3) := by decide +kernel
theorem dX12_feed_30 : decode cX12_feed 30 = .ok (.aload_n 0, 1) := by decide +kernel
theorem dX12_feed_31 : decode cX12_feed 31 = .ok (.iload_n 3, 1) := by decide +kernel
theorem dX12_feed_32 : decode cX12_feed 32 = .ok (.invokevirtual 10, 3) := by decide +kernel
theorem dX12_feed_35 : decode cX12_feed 35 = .ok (.aload_n 0, 1) := by decide +kernel
theorem dX12_feed_36 : decode cX12_feed 36 = .ok (.iload 4, 2) := by decide +kernel
theorem dX12_feed_38 : decode cX12_feed 38 = .ok (.invokevirtual 10, 3) := by decide +kernel
theorem dX12_feed_41 : decode cX12_feed 41 = .ok (.aload_n 0, 1) := by decide +kernel
theorem dX12_feed_42 : decode cX12_feed 42 = .ok (.iload 5, 2) := by decide +kernel
theorem dX12_feed_44 : decode cX12_feed 44 = .ok (.invokevirtual 10, 3) := by decide +kernel
theorem dX12_feed_47 : decode cX12_feed 47 = .ok (.aload_n 0, 1) := by decide +kernel
theorem dX12_feed_48 : decode cX12_feed 48 = .ok (.getfield 7, 3) := by decide +kernel
theorem dX12_feed_51 : decode cX12_feed 51 = .ok (.ireturn, 1) := by decide +kernel
theorem dX12_four_0 : decode cX12_four 0 = .ok (.bipush 24, 2) := by decide +kernel
theorem dX12_four_2 : decode cX12_four 2 = .ok (.istore_n 2, 1) := by decide +kernel
theorem dX12_four_3 : decode cX12_four 3 = .ok (.iload_n 2, 1) := by decide +kernel
theorem dX12_four_4 : decode cX12_four 4 = .ok (.ifCond .lt 32, 3) := by decide +kernel
theorem dX12_four_7 : decode cX12_four 7 = .ok (.aload_n 0, 1) := by decide +kernel
theorem dX12_four_8 : decode cX12_four 8 = .ok (.getfield 14, 3) := by decide +kernel
theorem dX12_four_11 : decode cX12_four 11 = .ok (.aload_n 0, 1) := by decide +kernel
theorem dX12_four_12 : decode cX12_four 12 = .ok (.getfield 7, 3) := by decide +kernel
theorem dX12_four_15 : decode cX12_four 15 = .ok (.iload_n 1, 1) := by decide +kernel
theorem dX12_four_16 : decode cX12_four 16 = .ok (.iload_n 2, 1) := by decide +kernel
theorem dX12_four_17 : decode cX12_four 17 = .ok (.ishr, 1) := by decide +kernel
theorem dX12_four_18 : decode cX12_four 18 = .ok (.i2b, 1) := by decide +kernel
theorem dX12_four_19 : decode cX12_four 19 = .ok (.bastore, 1) := by decide +kernel
theorem dX12_four_20 : decode cX12_four 20 = .ok (.aload_n 0, 1) := by decide +kernel
theorem dX12_four_21 : decode cX12_four 21 = .ok (.dup, 1) := by decide +kernel
theorem dX12_four_22 : decode cX12_four 22 = .ok (.getfield 7, 3) := by decide +kernel
theorem dX12_four_25 : decode cX12_four 25 = .ok (.iconst 1, 1) := by decide +kernel
theorem dX12_four_26 : decode cX12_four 26 = .ok (.iadd, 1) := by decide +kernel
theorem dX12_four_27 : decode cX12_four 27 = .ok (.putfield 7, 3) := by decide +kernel
theorem dX12_four_30 : decode cX12_four 30 = .ok (.iinc 2 (-8), 3) := by decide +kernel
theorem dX12_four_33 : decode cX12_four 33 = .ok (.goto (-30), 3) := by decide +kernel
theorem dX12_four_36 : decode cX12_four 36 = .ok (.return_, 1) := by decide +kernel
theorem dX12_end_0 : decode cX12_end 0 = .ok (.aload_n 0, 1) := by decide +kernel
theorem dX12_end_1 : decode cX12_end 1 = .ok (.iconst 0, 1) := by decide +kernel
theorem dX12_end_2 : decode cX12_end 2 = .ok (.putfield 1, 3) := by decide +kernel
theorem dX12_end_5 : decode cX12_end 5 = .ok (.iload_n 1, 1) := by decide +kernel
theorem dX12_end_6 : decode cX12_end 6 = .ok (.ifCond .lt 11, 3) := by decide +kernel
theorem dX12_end_9 : decode cX12_end 9 = .ok (.iload_n 1, 1) := by decide +kernel
theorem dX12_end_10 : decode cX12_end 10 = .ok (.aload_n 0, 1) := by decide +kernel
theorem dX12_end_11 : decode cX12_end 11 = .ok (.getfield 7, 3) := by decide +kernel
theorem dX12_end_14 : decode cX12_end 14 = .ok (.if_icmp .le 5, 3) := by decide +kernel
theorem dX12_end_17 : decode cX12_end 17 = .ok (.iconst 0, 1) := by decide +kernel
theorem dX12_end_18 : decode cX12_end 18 = .ok (.ireturn, 1) := by decide +kernel
theorem dX12_end_19 : decode cX12_end 19 = .ok (.aload_n 0, 1) := by decide +kernel
theorem dX12_end_20 : decode cX12_end 20 = .ok (.iload_n 1, 1) := by decide +kernel
theorem dX12_end_21 : decode cX12_end 21 = .ok (.putfield 7, 3) := by decide +kernel
theorem dX12_end_24 : decode cX12_end 24 = .ok (.iconst 1, 1) := by decide +kernel
theorem dX12_end_25 : decode cX12_end 25 = .ok (.ireturn, 1) := by decide +kernel
theorem dX12_taken_0 : decode cX12_taken 0 = .ok (.aload_n 0, 1) := by decide +kernel
theorem dX12_taken_1 : decode cX12_taken 1 = .ok (.aload_n 0, 1) := by decide +kernel
theorem dX12_taken_2 : decode cX12_taken 2 = .ok (.getfield 7, 3) := by decide +kernel
theorem dX12_taken_5 : decode cX12_taken 5 = .ok (.putfield 18, 3) := by decide +kernel
theorem dX12_taken_8 : decode cX12_taken 8 = .ok (.aload_n 0, 1) := by decide +kernel
theorem dX12_taken_9 : decode cX12_taken 9 = .ok (.iconst 0, 1) := by decide +kernel
theorem dX12_taken_10 : decode cX12_taken 10 = .ok (.putfield 7, 3) := by decide +kernel
theorem dX12_taken_13 : decode cX12_taken 13 = .ok (.aload_n 0, 1) := by decide +kernel
theorem dX12_taken_14 : decode cX12_taken 14 = .ok (.iconst 0, 1) := by decide +kernel
theorem dX12_taken_15 : decode cX12_taken 15 = .ok (.putfield 21, 3) := by decide +kernel
theorem dX12_taken_18 : decode cX12_taken 18 = .ok (.aload_n 0, 1) := by decide +kernel
theorem dX12_taken_19 : decode cX12_taken 19 = .ok (.iload_n 1, 1) := by decide +kernel
theorem dX12_taken_20 : decode cX12_taken 20 = .ok (.putfield 24, 3) := by decide +kernel
theorem dX12_taken_23 : decode cX12_taken 23 = .ok (.return_, 1) := by decide +kernel
theorem dX12_isIn_0 : decode cX12_isIn 0 = .ok (.iload_n 0, 1) := by decide +kernel
theorem dX12_isIn_1 : decode cX12_isIn 1 = .ok (.iload_n 1, 1) := by decide +kernel
theorem dX12_isIn_2 : decode cX12_isIn 2 = .ok (.if_icmp .lt 12, 3) := by decide +kernel
theorem dX12_isIn_5 : decode cX12_isIn 5 = .ok (.iload_n 0, 1) := by decide +kernel
theorem dX12_isIn_6 : decode cX12_isIn 6 = .ok (.iload_n 2, 1) := by decide +kernel
theorem dX12_isIn_7 : decode cX12_isIn 7 = .ok (.if_icmp .gt 7, 3) := by decide +kernel
theorem dX12_isIn_10 : decode cX12_isIn 10 = .ok (.iconst 1, 1) := by decide +kernel
theorem dX12_isIn_11 : decode cX12_isIn 11 = .ok (.goto 4, 3) := by decide +kernel
theorem dX12_isIn_14 : decode cX12_isIn 14 = .ok (.iconst 0, 1) := by decide +kernel
theorem dX12_isIn_15 : decode cX12_isIn 15 = .ok (.ireturn, 1) := by decide +kernel
theorem dX12_bitOf_0 : decode cX12_bitOf 0 = .ok (.iload_n 0, 1) := by decide +kernel
theorem dX12_bitOf_1 : decode cX12_bitOf 1 = .ok (.iload_n 1, 1) := by decide +kernel
theorem dX12_bitOf_2 : decode cX12_bitOf 2 = .ok (.ishr, 1) := by decide +kernel
theorem dX12_bitOf_3 : decode cX12_bitOf 3 = .ok (.iconst 1, 1) := by decide +kernel
theorem dX12_bitOf_4 : decode cX12_bitOf 4 = .ok (.iand, 1) := by decide +kernel
theorem dX12_bitOf_5 : decode cX12_bitOf 5 = .ok (.iconst 1, 1) := by decide +kernel
theorem dX12_bitOf_6 : decode cX12_bitOf 6 = .ok (.if_icmp .ne 7, 3) := by decide +kernel
theorem dX12_bitOf_9 : decode cX12_bitOf 9 = .ok (.iconst 1, 1) := by decide +kernel
theorem dX12_bitOf_10 : decode cX12_bitOf 10 = .ok (.goto 4, 3) := by decide +kernel
theorem dX12_bitOf_13 : decode cX12_bitOf 13 = .ok (.iconst 0, 1) := by decide +kernel
theorem dX12_bitOf_14 : decode cX12_bitOf 14 = .ok (.ireturn, 1) := by decide +kernel
theorem dX12_lesser_0 : decode cX12_lesser 0 = .ok (.iload_n 0, 1) := by decide +kernel
theorem dX12_lesser_1 : decode cX12_lesser 1 = .ok (.iload_n 1, 1) := by decide +kernel
theorem dX12_lesser_2 : decode cX12_lesser 2 = .ok (.if_icmp .ge 7, 3) := by decide +kernel
theorem dX12_lesser_5 : decode cX12_lesser 5 = .ok (.iload_n 0, 1) := by decide +kernel
theorem dX12_lesser_6 : decode cX12_lesser 6 = .ok (.goto 4, 3) := by decide +kernel
theorem dX12_lesser_9 : decode cX12_lesser 9 = .ok (.iload_n 1, 1) := by decide +kernel
theorem dX12_lesser_10 : decode cX12_lesser 10 = .ok (.ireturn, 1) := by decide +kernel
theorem dX12_greater_0 : decode cX12_greater 0 = .ok (.iload_n 0, 1) := by decide +kernel
theorem dX12_greater_1 : decode cX12_greater 1 = .ok (.iload_n 1, 1) := by decide +kernel
theorem dX12_greater_2 : decode cX12_greater 2 = .ok (.if_icmp .le 7, 3) := by decide +kernel
theorem dX12_greater_5 : decode cX12_greater 5 = .ok (.iload_n 0, 1) := by decide +kernel
theorem dX12_greater_6 : decode cX12_greater 6 = .ok (.goto 4, 3) := by decide +kernel
theorem dX12_greater_9 : decode cX12_greater 9 = .ok (.iload_n 1, 1) := by decide +kernel
theorem dX12_greater_10 : decode cX12_greater 10 = .ok (.ireturn, 1) := by decide +kernel
theorem dX12_absolute_0 : decode cX12_absolute 0 = .ok (.iload_n 0, 1) := by decide +kernel
theorem dX12_absolute_1 : decode cX12_absolute 1 = .ok (.ifCond .ge 8, 3) := by decide +kernel
theorem dX12_absolute_4 : decode cX12_absolute 4 = .ok (.iload_n 0, 1) := by decide +kernel
theorem dX12_absolute_5 : decode cX12_absolute 5 = .ok (.ineg, 1) := by decide +kernel
theorem dX12_absolute_6 : decode cX12_absolute 6 = .ok (.goto 4, 3) := by decide +kernel
theorem dX12_absolute_9 : decode cX12_absolute 9 = .ok (.iload_n 0, 1) := by decide +kernel
theorem dX12_absolute_10 : decode cX12_absolute 10 = .ok (.ireturn, 1) := by decide +kernel
theorem dX12_bits_0 : decode cX12_bits 0 = .ok (.iconst 0, 1) := by decide +kernel
theorem dX12_bits_1 : decode cX12_bits 1 = .ok (.istore_n 1, 1) := by decide +kernel
theorem dX12_bits_2 : decode cX12_bits 2 = .ok (.iload_n 0, 1) := by decide +kernel
theorem dX12_bits_3 : decode cX12_bits 3 = .ok (.istore_n 2, 1) := by decide +kernel
theorem dX12_bits_4 : decode cX12_bits 4 = .ok (.iload_n 2, 1) := by decide +kernel
theorem dX12_bits_5 : decode cX12_bits 5 = .ok (.ifCond .eq 15, 3) := by decide +kernel
theorem dX12_bits_8 : decode cX12_bits 8 = .ok (.iinc 1 1, 3) := by decide +kernel
theorem dX12_bits_11 : decode cX12_bits 11 = .ok (.iload_n 2, 1) := by decide +kernel
theorem dX12_bits_12 : decode cX12_bits 12 = .ok (.iload_n 2, 1) := by decide +kernel
theorem dX12_bits_13 : decode cX12_bits 13 = .ok (.iconst 1, 1) := by decide +kernel
theorem dX12_bits_14 : decode cX12_bits 14 = .ok (.isub, 1) := by decide +kernel
theorem dX12_bits_15 : decode cX12_bits 15 = .ok (.iand, 1) := by decide +kernel
theorem dX12_bits_16 : decode cX12_bits 16 = .ok (.istore_n 2, 1) := by decide +kernel
theorem dX12_bits_17 : decode cX12_bits 17 = .ok (.goto (-13), 3) := by decide +kernel
theorem dX12_bits_20 : decode cX12_bits 20 = .ok (.iload_n 1, 1) := by decide +kernel
theorem dX12_bits_21 : decode cX12_bits 21 = .ok (.ireturn, 1) := by decide +kernel
theorem dX12_octet_0 : decode cX12_octet 0 = .ok (.aload_n 0, 1) := by decide +kernel
theorem dX12_octet_1 : decode cX12_octet 1 = .ok (.getfield 14, 3) := by decide +kernel
theorem dX12_octet_4 : decode cX12_octet 4 = .ok (.iload_n 1, 1) := by decide +kernel
theorem dX12_octet_5 : decode cX12_octet 5 = .ok (.baload, 1) := by decide +kernel
theorem dX12_octet_6 : decode cX12_octet 6 = .ok (.sipush 255, 3) := by decide +kernel
theorem dX12_octet_9 : decode cX12_octet 9 = .ok (.iand, 1) := by decide +kernel
theorem dX12_octet_10 : decode cX12_octet 10 = .ok (.ireturn, 1) := by decide +kernel
set_option maxRecDepth 20000 in
theorem ggX12_init_X12_clears : GoodIn wsX12_init wsX12_clears := goodIn_r _ [56, 8, 57, 58, 59, 60, 61, 62, 63, 64, 65, 66, 67, 68, 69, 70, 71, 72, 73, 74, 75, 76, 77, 78, 79, 80, 81, 82, 83, 84, 85, 86, 87, 88, 89, 90, 91, 92, 93, 94, 95, 96, 97, 98, 99, 100, 101, 102] (by decide +kernel) (by decide +kernel)
set_option maxRecDepth 20000 in
theorem gX12_init_X12_clears : GoodIn wsX12_init (wsV RX12 139 RX12 yX12_clears wsX12_clears) := goodIn_app (goodIn_of _ (by decide +kernel)) ggX12_init_X12_clears
theorem dX12_init_0 : decode cX12_init 0 = .ok (.aload_n 0, 1) := by decide +kernel
theorem dX12_init_1 : decode cX12_init 1 = .ok (.invokespecial 27, 3) := by decide +kernel
theorem dX12_init_4 : decode cX12_init 4 = .ok (.aload_n 0, 1) := by decide +kernel
theorem dX12_init_5 : decode cX12_init 5 = .ok (.sipush 940, 3) := by decide +kernel
theorem dX12_init_8 : decode cX12_init 8 = .ok (.newarray .byte, 2) := by decide +kernel
theorem dX12_init_10 : decode cX12_init 10 = .ok (.putfield 14, 3) := by decide +kernel
theorem dX12_init_13 : decode cX12_init 13 = .ok (.aload_n 0, 1) := by decide +kernel
theorem dX12_init_14 : decode cX12_init 14 = .ok (.sipush 334, 3) := by decide +kernel
theorem dX12_init_17 : decode cX12_init 17 = .ok (.newarray .int, 2) := by decide +kernel
theorem dX12_init_19 : decode cX12_init 19 = .ok (.putfield 33, 3) := by decide +kernel
theorem dX12_init_22 : decode cX12_init 22 = .ok (.aload_n 0, 1) := by decide +kernel
theorem dX12_init_23 : decode cX12_init 23 = .ok (.bipush 52, 2) := by decide +kernel
theorem dX12_init_25 : decode cX12_init 25 = .ok (.newarray .int, 2) := by decide +kernel
theorem dX12_init_27 : decode cX12_init 27 = .ok (.putfield 37, 3) := by decide +kernel
theorem dX12_init_30 : decode cX12_init 30 = .ok (.aload_n 0, 1) := by decide +kernel
theorem dX12_init_31 : decode cX12_init 31 = .ok (.sipush 135, 3) := by decide +kernel
theorem dX12_init_34 : decode cX12_init 34 = .ok (.newarray .int, 2) := by decide +kernel
theorem dX12_init_36 : decode cX12_init 36 = .ok (.putfield 40, 3) := by decide +kernel
theorem dX12_init_39 : decode cX12_init 39 = .ok (.aload_n 0, 1) := by decide +kernel
theorem dX12_init_40 : decode cX12_init 40 = .ok (.bipush 36, 2) := by decide +kernel
theorem dX12_init_42 : decode cX12_init 42 = .ok (.newarray .long, 2) := by decide +kernel
theorem dX12_init_44 : decode cX12_init 44 = .ok (.putfield 43, 3) := by decide +kernel
theorem dX12_init_47 : decode cX12_init 47 = .ok (.aload_n 0, 1) := by decide +kernel
theorem dX12_init_48 : decode cX12_init 48 = .ok (.bipush 26, 2) := by decide +kernel
theorem dX12_init_50 : decode cX12_init 50 = .ok (.newarray .long, 2) := by decide +kernel
theorem dX12_init_52 : decode cX12_init 52 = .ok (.putfield 47, 3) := by decide +kernel
theorem dX12_init_55 : decode cX12_init 55 = .ok (.aload_n 0, 1) := by decide +kernel
theorem dX12_init_56 : decode cX12_init 56 = .ok (.sipush 808, 3) := by decide +kernel
theorem dX12_init_59 : decode cX12_init 59 = .ok (.newarray .int, 2) := by decide +kernel
theorem dX12_init_61 : decode cX12_init 61 = .ok (.putfield 50, 3) := by decide +kernel
theorem dX12_init_64 : decode cX12_init 64 = .ok (.aload_n 0, 1) := by decide +kernel
theorem dX12_init_65 : decode cX12_init 65 = .ok (.bipush 101, 2) := by decide +kernel
theorem dX12_init_67 : decode cX12_init 67 = .ok (.newarray .int, 2) := by decide +kernel
theorem dX12_init_69 : decode cX12_init 69 = .ok (.putfield 53, 3) := by decide +kernel
theorem dX12_init_72 : decode cX12_init 72 = .ok (.aload_n 0, 1) := by decide +kernel
theorem dX12_init_73 : decode cX12_init 73 = .ok (.bipush 6, 2) := by decide +kernel
theorem dX12_init_75 : decode cX12_init 75 = .ok (.newarray .int, 2) := by decide +kernel
theorem dX12_init_77 : decode cX12_init 77 = .ok (.putfield 56, 3) := by decide +kernel
theorem dX12_init_80 : decode cX12_init 80 = .ok (.aload_n 0, 1) := by decide +kernel
theorem dX12_init_81 : decode cX12_init 81 = .ok (.sipush 720, 3) := by decide +kernel
theorem dX12_init_84 : decode cX12_init 84 = .ok (.newarray .int, 2) := by decide +kernel
theorem dX12_init_86 : decode cX12_init 86 = .ok (.putfield 59, 3) := by decide +kernel
theorem dX12_init_89 : decode cX12_init 89 = .ok (.aload_n 0, 1) := by decide +kernel
theorem dX12_init_90 : decode cX12_init 90 = .ok (.iconst (-1), 1) := by decide +kernel
theorem dX12_init_91 : decode cX12_init 91 = .ok (.putfield 62, 3) := by decide +kernel
theorem dX12_init_94 : decode cX12_init 94 = .ok (.aload_n 0, 1) := by decide +kernel
theorem dX12_init_95 : decode cX12_init 95 = .ok (.bipush 40, 2) := by decide +kernel
theorem dX12_init_97 : decode cX12_init 97 = .ok (.newarray .byte, 2) := by decide +kernel
theorem dX12_init_99 : decode cX12_init 99 = .ok (.putfield 65, 3) := by decide +kernel
theorem dX12_init_102 : decode cX12_init 102 = .ok (.aload_n 0, 1) := by decide +kernel
theorem dX12_init_103 : decode cX12_init 103 = .ok (.iconst 4, 1) := by decide +kernel
theorem dX12_init_104 : decode cX12_init 104 = .ok (.newarray .int, 2) := by decide +kernel
theorem dX12_init_106 : decode cX12_init 106 = .ok (.putfield 68, 3) := by decide +kernel
theorem dX12_init_109 : decode cX12_init 109 = .ok (.aload_n 0, 1) := by decide +kernel
theorem dX12_init_110 : decode cX12_init 110 = .ok (.bipush 45, 2) := by decide +kernel
theorem dX12_init_112 : decode cX12_init 112 = .ok (.newarray .int, 2) := by decide +kernel
theorem dX12_init_114 : decode cX12_init 114 = .ok (.putfield 71, 3) := by decide +kernel
theorem dX12_init_117 : decode cX12_init 117 = .ok (.aload_n 0, 1) := by decide +kernel
theorem dX12_init_118 : decode cX12_init 118 = .ok (.bipush 45, 2) := by decide +kernel
theorem dX12_init_120 : decode cX12_init 120 = .ok (.newarray .boolean, 2) := by decide +kernel
theorem dX12_init_122 : decode cX12_init 122 = .ok (.putfield 74, 3) := by decide +kernel
theorem dX12_init_125 : decode cX12_init 125 = .ok (.aload_n 0, 1) := by decide +kernel
theorem dX12_init_126 : decode cX12_init 126 = .ok (.sipush 668, 3) := by decide +kernel
theorem dX12_init_129 : decode cX12_init 129 = .ok (.newarray .int, 2) := by decide +kernel
theorem dX12_init_131 : decode cX12_init 131 = .ok (.putfield 78, 3) := by decide +kernel
theorem dX12_init_134 : decode cX12_init 134 = .ok (.aload_n 0, 1) := by decide +kernel
theorem dX12_init_135 : decode cX12_init 135 = .ok (.bipush 36, 2) := by decide +kernel
theorem dX12_init_137 : decode cX12_init 137 = .ok (.newarray .long, 2) := by decide +kernel
theorem dX12_init_139 : decode cX12_init 139 = .ok (.putfield 81, 3) := by decide +kernel
theorem dX12_init_142 : decode cX12_init 142 = .ok (.aload_n 0, 1) := by decide +kernel
theorem dX12_init_143 : decode cX12_init 143 = .ok (.iconst 2, 1) := by decide +kernel
theorem dX12_init_144 : decode cX12_init 144 = .ok (.newarray .boolean, 2) := by decide +kernel
theorem dX12_init_146 : decode cX12_init 146 = .ok (.putfield 84, 3) := by decide +kernel
theorem dX12_init_149 : decode cX12_init 149 = .ok (.aload_n 0, 1) := by decide +kernel
theorem dX12_init_150 : decode cX12_init 150 = .ok (.getfield 47, 3) := by decide +kernel
theorem dX12_init_153 : decode cX12_init 153 = .ok (.iconst 0, 1) := by decide +kernel
theorem dX12_init_154 : decode cX12_init 154 = .ok (.ldc2_w 87, 3) := by decide +kernel
theorem dX12_init_157 : decode cX12_init 157 = .ok (.lastore, 1) := by decide +kernel
theorem dX12_init_158 : decode cX12_init 158 = .ok (.aload_n 0, 1) := by decide +kernel
theorem dX12_init_159 : decode cX12_init 159 = .ok (.getfield 47, 3) := by decide +kernel
theorem dX12_init_162 : decode cX12_init 162 = .ok (.iconst 1, 1) := by decide +kernel
theorem dX12_init_163 : decode cX12_init 163 = .ok (.ldc2_w 89, 3) := by decide +kernel
theorem dX12_init_166 : decode cX12_init 166 = .ok (.lastore, 1) := by decide +kernel
theorem dX12_init_167 : decode cX12_init 167 = .ok (.aload_n 0, 1) := by decide +kernel
theorem dX12_init_168 : decode cX12_init 168 = .ok (.getfield 47, 3) := by decide +kernel
theorem dX12_init_171 : decode cX12_init 171 = .ok (.iconst 2, 1) := by decide +kernel
theorem dX12_init_172 : decode cX12_init 172 = .ok (.ldc2_w 91, 3) := by decide +kernel
theorem dX12_init_175 : decode cX12_init 175 = .ok (.lastore, 1) := by decide +kernel
theorem dX12_init_176 : decode cX12_init 176 = .ok (.aload_n 0, 1) := by decide +kernel
theorem dX12_init_177 : decode cX12_init 177 = .ok (.getfield 47, 3) := by decide +kernel
theorem dX12_init_180 : decode cX12_init 180 = .ok (.iconst 3, 1) := by decide +kernel
theorem dX12_init_181 : decode cX12_init 181 = .ok (.ldc2_w 93, 3) := by decide +kernel
theorem dX12_init_184 : decode cX12_init 184 = .ok (.lastore, 1) := by decide +kernel
theorem dX12_init_185 : decode cX12_init 185 = .ok (.aload_n 0, 1) := by decide +kernel
theorem dX12_init_186 : decode cX12_init 186 = .ok (.getfield 47, 3) := by decide +kernel
theorem dX12_init_189 : decode cX12_init 189 = .ok (.iconst 4, 1) := by decide +kernel
theorem dX12_init_190 : decode cX12_init 190 = .ok (.ldc2_w 95, 3) := by decide +kernel
theorem dX12_init_193 : decode cX12_init 193 = .ok (.lastore, 1) := by decide +kernel
theorem dX12_init_194 : decode cX12_init 194 = .ok (.aload_n 0, 1) := by decide +kernel
theorem dX12_init_195 : decode cX12_init 195 = .ok (.getfield 47, 3) := by decide +kernel
theorem dX12_init_198 : decode cX12_init 198 = .ok (.iconst 5, 1) := by decide +kernel
theorem dX12_init_199 : decode cX12_init 199 = .ok (.ldc2_w 97, 3) := by decide +kernel
theorem dX12_init_202 : decode cX12_init 202 = .ok (.lastore, 1) := by decide +kernel
theorem dX12_init_203 : decode cX12_init 203 = .ok (.aload_n 0, 1) := by decide +kernel
theorem dX12_init_204 : decode cX12_init 204 = .ok (.getfield 47, 3) := by decide +kernel
theorem dX12_init_207 : decode cX12_init 207 = .ok (.bipush 6, 2) := by decide +kernel
theorem dX12_init_209 : decode cX12_init 209 = .ok (.ldc2_w 99, 3) := by decide +kernel
theorem dX12_init_212 : decode cX12_init 212 = .ok (.lastore, 1) := by decide +kernel
theorem dX12_init_213 : decode cX12_init 213 = .ok (.aload_n 0, 1) := by decide +kernel
theorem dX12_init_214 : decode cX12_init 214 = .ok (.getfield 47, 3) := by decide +kernel
theorem dX12_init_217 : decode cX12_init 217 = .ok (.bipush 7, 2) := by decide +kernel
theorem dX12_init_219 : decode cX12_init 219 = .ok (.ldc2_w 101, 3) := by decide +kernel
theorem dX12_init_222 : decode cX12_init 222 = .ok (.lastore, 1) := by decide +kernel
theorem dX12_init_223 : decode cX12_init 223 = .ok (.aload_n 0, 1) := by decide +kernel
theorem dX12_init_224 : decode cX12_init 224 = .ok (.getfield 47, 3) := by decide +kernel
theorem dX12_init_227 : decode cX12_init 227 = .ok (.bipush 8, 2) := by decide +kernel
theorem dX12_init_229 : decode cX12_init 229 = .ok (.ldc2_w 103, 3) := by decide +kernel
theorem dX12_init_232 : decode cX12_init 232 = .ok (.lastore, 1) := by decide +kernel
theorem dX12_init_233 : decode cX12_init 233 = .ok (.aload_n 0, 1) := by decide +kernel
theorem dX12_init_234 : decode cX12_init 234 = .ok (.getfield 47, 3) := by decide +kernel
theorem dX12_init_237 : decode cX12_init 237 = .ok (.bipush 9, 2) := by decide +kernel
theorem dX12_init_239 : decode cX12_init 239 = .ok (.ldc2_w 105, 3) := by decide +kernel
theorem dX12_init_242 : decode cX12_init 242 = .ok (.lastore, 1) := by decide +kernel
theorem dX12_init_243 : decode cX12_init 243 = .ok (.aload_n 0, 1) := by decide +kernel
theorem dX12_init_244 : decode cX12_init 244 = .ok (.getfield 47, 3) := by decide +kernel
theorem dX12_init_247 : decode cX12_init 247 = .ok (.bipush 10, 2) := by decide +kernel
theorem dX12_init_249 : decode cX12_init 249 = .ok (.ldc2_w 107, 3) := by decide +kernel
theorem dX12_init_252 : decode cX12_init 252 = .ok (.lastore, 1) := by decide +kernel
theorem dX12_init_253 : decode cX12_init 253 = .ok (.aload_n 0, 1) := by decide +kernel
theorem dX12_init_254 : decode cX12_init 254 = .ok (.getfield 47, 3) := by decide +kernel
theorem dX12_init_257 : decode cX12_init 257 = .ok (.bipush 11, 2) := by decide +kernel
theorem dX12_init_259 : decode cX12_init 259 = .ok (.ldc2_w 109, 3) := by decide +kernel
theorem dX12_init_262 : decode cX12_init 262 = .ok (.lastore, 1) := by decide +kernel
theorem dX12_init_263 : decode cX12_init 263 = .ok (.aload_n 0, 1) := by decide +kernel
theorem dX12_init_264 : decode cX12_init 264 = .ok (.getfield 47, 3) := by decide +kernel
theorem dX12_init_267 : decode cX12_init 267 = .ok (.bipush 12, 2) := by decide +kernel
theorem dX12_init_269 : decode cX12_init 269 = .ok (.ldc2_w 111, 3) := by decide +kernel
theorem dX12_init_272 : decode cX12_init 272 = .ok (.lastore, 1) := by decide +kernel
theorem dX12_init_273 : decode cX12_init 273 = .ok (.aload_n 0, 1) := by decide +kernel
theorem dX12_init_274 : decode cX12_init 274 = .ok (.getfield 47, 3) := by decide +kernel
theorem dX12_init_277 : decode cX12_init 277 = .ok (.bipush 13, 2) := by decide +kernel
theorem dX12_init_279 : decode cX12_init 279 = .ok (.ldc2_w 113, 3) := by decide +kernel
theorem dX12_init_282 : decode cX12_init 282 = .ok (.lastore, 1) := by decide +kernel
theorem dX12_init_283 : decode cX12_init 283 = .ok (.aload_n 0, 1) := by decide +kernel
theorem dX12_init_284 : decode cX12_init 284 = .ok (.getfield 47, 3) := by decide +kernel
theorem dX12_init_287 : decode cX12_init 287 = .ok (.bipush 14, 2) := by decide +kernel
theorem dX12_init_289 : decode cX12_init 289 = .ok (.ldc2_w 115, 3) := by decide +kernel
theorem dX12_init_292 : decode cX12_init 292 = .ok (.lastore, 1) := by decide +kernel
theorem dX12_init_293 : decode cX12_init 293 = .ok (.aload_n 0, 1) := by decide +kernel
theorem dX12_init_294 : decode cX12_init 294 = .ok (.getfield 47, 3) := by decide +kernel
theorem dX12_init_297 : decode cX12_init 297 = .ok (.bipush 15, 2) := by decide +kernel
theorem dX12_init_299 : decode cX12_init 299 = .ok (.ldc2_w 117, 3) := by decide +kernel
theorem dX12_init_302 : decode cX12_init 302 = .ok (.lastore, 1) := by decide +kernel
theorem dX12_init_303 : decode cX12_init 303 = .ok (.aload_n 0, 1) := by decide +kernel
theorem dX12_init_304 : decode cX12_init 304 = .ok (.getfield 47, 3) := by decide +kernel
theorem dX12_init_307 : decode cX12_init 307 = .ok (.bipush 16, 2) := by decide +kernel
theorem dX12_init_309 : decode cX12_init 309 = .ok (.ldc2_w 119, 3) := by decide +kernel
theorem dX12_init_312 : decode cX12_init 312 = .ok (.lastore, 1) := by decide +kernel
theorem dX12_init_313 : decode cX12_init 313 = .ok (.aload_n 0, 1) := by decide +kernel
theorem dX12_init_314 : decode cX12_init 314 = .ok (.getfield 47, 3) := by decide +kernel
theorem dX12_init_317 : decode cX12_init 317 = .ok (.bipush 17, 2) := by decide +kernel
theorem dX12_init_319 : decode cX12_init 319 = .ok (.ldc2_w 121, 3) := by decide +kernel
theorem dX12_init_322 : decode cX12_init 322 = .ok (.lastore, 1) := by decide +kernel
theorem dX12_init_323 : decode cX12_init 323 = .ok (.aload_n 0, 1) := by decide +kernel
theorem dX12_init_324 : decode cX12_init 324 = .ok (.getfield 47, 3) := by decide +kernel
theorem dX12_init_327 : decode cX12_init 327 = .ok (.bipush 18, 2) := by decide +kernel
theorem dX12_init_329 : decode cX12_init 329 = .ok (.ldc2_w 123, 3) := by decide +kernel
theorem dX12_init_332 : decode cX12_init 332 = .ok (.lastore, 1) := by decide +kernel
theorem dX12_init_333 : decode cX12_init 333 = .ok (.aload_n 0, 1) := by decide +kernel
theorem dX12_init_334 : decode cX12_init 334 = .ok (.getfield 47, 3) := by decide +kernel
theorem dX12_init_337 : decode cX12_init 337 = .ok (.bipush 19, 2) := by decide +kernel
theorem dX12_init_339 : decode cX12_init 339 = .ok (.ldc2_w 125, 3) := by decide +kernel
theorem dX12_init_342 : decode cX12_init 342 = .ok (.lastore, 1) := by decide +kernel
theorem dX12_init_343 : decode cX12_init 343 = .ok (.aload_n 0, 1) := by decide +kernel
theorem dX12_init_344 : decode cX12_init 344 = .ok (.getfield 47, 3) := by decide +kernel
theorem dX12_init_347 : decode cX12_init 347 = .ok (.bipush 20, 2) := by decide +kernel
theorem dX12_init_349 : decode cX12_init 349 = .ok (.ldc2_w 127, 3) := by decide +kernel
theorem dX12_init_352 : decode cX12_init 352 = .ok (.lastore, 1) := by decide +kernel
theorem dX12_init_353 : decode cX12_init 353 = .ok (.aload_n 0, 1) := by decide +kernel
theorem dX12_init_354 : decode cX12_init 354 = .ok (.getfield 47, 3) := by decide +kernel
theorem dX12_init_357 : decode cX12_init 357 = .ok (.bipush 21, 2) := by decide +kernel
theorem dX12_init_359 : decode cX12_init 359 = .ok (.ldc2_w 129, 3) := by decide +kernel
theorem dX12_init_362 : decode cX12_init 362 = .ok (.lastore, 1) := by decide +kernel
theorem dX12_init_363 : decode cX12_init 363 = .ok (.aload_n 0, 1) := by decide +kernel
theorem dX12_init_364 : decode cX12_init 364 = .ok (.getfield 47, 3) := by decide +kernel
theorem dX12_init_367 : decode cX12_init 367 = .ok (.bipush 22, 2) := by decide +kernel
theorem dX12_init_369 : decode cX12_init 369 = .ok (.ldc2_w 131, 3) := by decide +kernel
theorem dX12_init_372 : decode cX12_init 372 = .ok (.lastore, 1) := by decide +kernel
theorem dX12_init_373 : decode cX12_init 373 = .ok (.aload_n 0, 1) := by decide +kernel
theorem dX12_init_374 : decode cX12_init 374 = .ok (.getfield 47, 3) := by decide +kernel
theorem dX12_init_377 : decode cX12_init 377 = .ok (.bipush 23, 2) := by decide +kernel
theorem dX12_init_379 : decode cX12_init 379 = .ok (.ldc2_w 133, 3) := by decide +kernel
theorem dX12_init_382 : decode cX12_init 382 = .ok (.lastore, 1) := by decide +kernel
theorem dX12_init_383 : decode cX12_init 383 = .ok (.aload_n 0, 1) := by decide +kernel
theorem dX12_init_384 : decode cX12_init 384 = .ok (.getfield 47, 3) := by decide +kernel
theorem dX12_init_387 : decode cX12_init 387 = .ok (.bipush 24, 2) := by decide +kernel
theorem dX12_init_389 : decode cX12_init 389 = .ok (.ldc2_w 135, 3) := by decide +kernel
theorem dX12_init_392 : decode cX12_init 392 = .ok (.lastore, 1) := by decide +kernel
theorem dX12_init_393 : decode cX12_init 393 = .ok (.aload_n 0, 1) := by decide +kernel
theorem dX12_init_394 : decode cX12_init 394 = .ok (.getfield 47, 3) := by decide +kernel
theorem dX12_init_397 : decode cX12_init 397 = .ok (.bipush 25, 2) := by decide +kernel
theorem dX12_init_399 : decode cX12_init 399 = .ok (.ldc2_w 137, 3) := by decide +kernel
theorem dX12_init_402 : decode cX12_init 402 = .ok (.lastore, 1) := by decide +kernel
theorem dX12_init_403 : decode cX12_init 403 = .ok (.aload_n 0, 1) := by decide +kernel
theorem dX12_init_404 : decode cX12_init 404 = .ok (.invokevirtual 139, 3) := by decide +kernel
theorem dX12_init_407 : decode cX12_init 407 = .ok (.iconst 0, 1) := by decide +kernel
theorem dX12_init_408 : decode cX12_init 408 = .ok (.istore_n 1, 1) := by decide +kernel
theorem dX12_init_409 : decode cX12_init 409 = .ok (.iload_n 1, 1) := by decide +kernel
theorem dX12_init_410 : decode cX12_init 410 = .ok (.bipush 52, 2) := by decide +kernel
theorem dX12_init_412 : decode cX12_init 412 = .ok (.if_icmp .ge 21, 3) := by decide +kernel
theorem dX12_init_415 : decode cX12_init 415 = .ok (.aload_n 0, 1) := by decide +kernel
theorem dX12_init_416 : decode cX12_init 416 = .ok (.getfield 33, 3) := by decide +kernel
theorem dX12_init_419 : decode cX12_init 419 = .ok (.iload_n 1, 1) := by decide +kernel
theorem dX12_init_420 : decode cX12_init 420 = .ok (.aload_n 0, 1) := by decide +kernel
theorem dX12_init_421 : decode cX12_init 421 = .ok (.getfield 37, 3) := by decide +kernel
theorem dX12_init_424 : decode cX12_init 424 = .ok (.iload_n 1, 1) := by decide +kernel
theorem dX12_init_425 : decode cX12_init 425 = .ok (.iaload, 1) := by decide +kernel
theorem dX12_init_426 : decode cX12_init 426 = .ok (.iastore, 1) := by decide +kernel
theorem dX12_init_427 : decode cX12_init 427 = .ok (.iinc 1 1, 3) := by decide +kernel
theorem dX12_init_430 : decode cX12_init 430 = .ok (.goto (-21), 3) := by decide +kernel
theorem dX12_init_433 : decode cX12_init 433 = .ok (.return_, 1) := by decide +kernel
theorem dX12_clears_0 : decode cX12_clears 0 = .ok (.iconst 0, 1) := by decide +kernel
theorem dX12_clears_1 : decode cX12_clears 1 = .ok (.istore_n 1, 1) := by decide +kernel
theorem dX12_clears_2 : decode cX12_clears 2 = .ok (.iload_n 1, 1) := by decide +kernel
theorem dX12_clears_3 : decode cX12_clears 3 = .ok (.bipush 52, 2) := by decide +kernel
theorem dX12_clears_5 : decode cX12_clears 5 = .ok (.if_icmp .ge 16, 3) := by decide +kernel
theorem dX12_clears_8 : decode cX12_clears 8 = .ok (.aload_n 0, 1) := by decide +kernel
theorem dX12_clears_9 : decode cX12_clears 9 = .ok (.getfield 37, 3) := by decide +kernel
theorem dX12_clears_12 : decode cX12_clears 12 = .ok (.iload_n 1, 1) := by decide +kernel
theorem dX12_clears_13 : decode cX12_clears 13 = .ok (.iconst 0, 1) := by decide +kernel
theorem dX12_clears_14 : decode cX12_clears 14 = .ok (.iastore, 1) := by decide +kernel
theorem dX12_clears_15 : decode cX12_clears 15 = .ok (.iinc 1 1, 3) := by decide +kernel
theorem dX12_clears_18 : decode cX12_clears 18 = .ok (.goto (-16), 3) := by decide +kernel
theorem dX12_clears_21 : decode cX12_clears 21 = .ok (.aload_n 0, 1) := by decide +kernel
theorem dX12_clears_22 : decode cX12_clears 22 = .ok (.getfield 37, 3) := by decide +kernel
theorem dX12_clears_25 : decode cX12_clears 25 = .ok (.iconst 3, 1) := by decide +kernel
theorem dX12_clears_26 : decode cX12_clears 26 = .ok (.bipush 15, 2) := by decide +kernel
theorem dX12_clears_28 : decode cX12_clears 28 = .ok (.iastore, 1) := by decide +kernel
theorem dX12_clears_29 : decode cX12_clears 29 = .ok (.return_, 1) := by decide +kernel
theorem dX12_peek_0 : decode cX12_peek 0 = .ok (.aload_n 0, 1) := by decide +kernel
theorem dX12_peek_1 : decode cX12_peek 1 = .ok (.getfield 21, 3) := by decide +kernel
theorem dX12_peek_4 : decode cX12_peek 4 = .ok (.aload_n 0, 1) := by decide +kernel
theorem dX12_peek_5 : decode cX12_peek 5 = .ok (.getfield 18, 3) := by decide +kernel
theorem dX12_peek_8 : decode cX12_peek 8 = .ok (.if_icmp .ge 19, 3) := by decide +kernel
theorem dX12_peek_11 : decode cX12_peek 11 = .ok (.aload_n 0, 1) := by decide +kernel
theorem dX12_peek_12 : decode cX12_peek 12 = .ok (.getfield 14, 3) := by decide +kernel
theorem dX12_peek_15 : decode cX12_peek 15 = .ok (.aload_n 0, 1) := by decide +kernel
theorem dX12_peek_16 : decode cX12_peek 16 = .ok (.getfield 21, 3) := by decide +kernel
theorem dX12_peek_19 : decode cX12_peek 19 = .ok (.baload, 1) := by decide +kernel
theorem dX12_peek_20 : decode cX12_peek 20 = .ok (.sipush 255, 3) := by decide +kernel
theorem dX12_peek_23 : decode cX12_peek 23 = .ok (.iand, 1) := by decide +kernel
theorem dX12_peek_24 : decode cX12_peek 24 = .ok (.goto 4, 3) := by decide +kernel
theorem dX12_peek_27 : decode cX12_peek 27 = .ok (.iconst (-1), 1) := by decide +kernel
theorem dX12_peek_28 : decode cX12_peek 28 = .ok (.ireturn, 1) := by decide +kernel
theorem dX12_isSmall_0 : decode cX12_isSmall 0 = .ok (.iload_n 0, 1) := by decide +kernel
theorem dX12_isSmall_1 : decode cX12_isSmall 1 = .ok (.bipush 97, 2) := by decide +kernel
theorem dX12_isSmall_3 : decode cX12_isSmall 3 = .ok (.if_icmp .lt 13, 3) := by decide +kernel
theorem dX12_isSmall_6 : decode cX12_isSmall 6 = .ok (.iload_n 0, 1) := by decide +kernel
theorem dX12_isSmall_7 : decode cX12_isSmall 7 = .ok (.bipush 122, 2) := by decide +kernel
theorem dX12_isSmall_9 : decode cX12_isSmall 9 = .ok (.if_icmp .gt 7, 3) := by decide +kernel
theorem dX12_isSmall_12 : decode cX12_isSmall 12 = .ok (.iconst 1, 1) := by decide +kernel
theorem dX12_isSmall_13 : decode cX12_isSmall 13 = .ok (.goto 4, 3) := by decide +kernel
theorem dX12_isSmall_16 : decode cX12_isSmall 16 = .ok (.iconst 0, 1) := by decide +kernel
theorem dX12_isSmall_17 : decode cX12_isSmall 17 = .ok (.ireturn, 1) := by decide +kernel
theorem dX12_isDigit_0 : decode cX12_isDigit 0 = .ok (.iload_n 0, 1) := by decide +kernel
theorem dX12_isDigit_1 : decode cX12_isDigit 1 = .ok (.bipush 48, 2) := by decide +kernel
theorem dX12_isDigit_3 : decode cX12_isDigit 3 = .ok (.if_icmp .lt 13, 3) := by decide +kernel
theorem dX12_isDigit_6 : decode cX12_isDigit 6 = .ok (.iload_n 0, 1) := by decide +kernel
theorem dX12_isDigit_7 : decode cX12_isDigit 7 = .ok (.bipush 57, 2) := by decide +kernel
theorem dX12_isDigit_9 : decode cX12_isDigit 9 = .ok (.if_icmp .gt 7, 3) := by decide +kernel
theorem dX12_isDigit_12 : decode cX12_isDigit 12 = .ok (.iconst 1, 1) := by decide +kernel
theorem dX12_isDigit_13 : decode cX12_isDigit 13 = .ok (.goto 4, 3) := by decide +kernel
theorem dX12_isDigit_16 : decode cX12_isDigit 16 = .ok (.iconst 0, 1) := by decide +kernel
theorem dX12_isDigit_17 : decode cX12_isDigit 17 = .ok (.ireturn, 1) := by decide +kernel
set_option maxRecDepth 20000 in
theorem ggX12_next_X12_peek : GoodIn wsX12_next wsX12_peek := goodIn_r _ [13, 1, 4, 14, 21, 22, 23, 24, 25, 26, 27, 28, 29, 30, 31, 32, 33, 34, 35, 36, 37, 38, 39, 40, 41, 42, 43, 44, 45, 46, 47, 48, 49, 50, 51, 52, 53, 54, 55, 56, 57, 58, 59, 60, 61, 62, 63, 64, 65, 66] (by decide +kernel) (by decide +kernel)
set_option maxRecDepth 20000 in
theorem gX12_next_X12_peek : GoodIn wsX12_next (wsV RX12 142 RX12 yX12_peek wsX12_peek) := goodIn_app (goodIn_of _ (by decide +kernel)) ggX12_next_X12_peek
set_option maxRecDepth 20000 in
theorem ggX12_next_X12_isSmall : GoodIn wsX12_next wsX12_isSmall := goodIn_r _ [17] (by decide +kernel) (by decide +kernel)
set_option maxRecDepth 20000 in
theorem gX12_next_X12_isSmall : GoodIn wsX12_next (va_wsS RX12 155 yX12_isSmall wsX12_isSmall) := goodIn_app (goodIn_of _ (by decide +kernel)) ggX12_next_X12_isSmall
set_option maxRecDepth 20000 in
theorem ggX12_next_X12_isDigit : GoodIn wsX12_next wsX12_isDigit := goodIn_r _ [20] (by decide +kernel) (by decide +kernel)
set_option maxRecDepth 20000 in
theorem gX12_next_X12_isDigit : GoodIn wsX12_next (va_wsS RX12 159 yX12_isDigit wsX12_isDigit) := goodIn_app (goodIn_of _ (by decide +kernel)) ggX12_next_X12_isDigit
theorem dX12_next_0 : decode cX12_next 0 = .ok (.aload_n 0, 1) := by decide +kernel
theorem dX12_next_1 : decode cX12_next 1 = .ok (.invokevirtual 142, 3) := by decide +kernel
theorem dX12_next_4 : decode cX12_next 4 = .ok (.bipush 32, 2) := by decide +kernel
theorem dX12_next_6 : decode cX12_next 6 = .ok (.if_icmp .eq 12, 3) := by decide +kernel
theorem dX12_next_9 : decode cX12_next 9 = .ok (.aload_n 0, 1) := by decide +kernel
theorem dX12_next_10 : decode cX12_next 10 = .ok (.invokevirtual 142, 3) := by decide +kernel
theorem dX12_next_13 : decode cX12_next 13 = .ok (.bipush 10, 2) := by decide +kernel
theorem dX12_next_15 : decode cX12_next 15 = .ok (.if_icmp .ne 16, 3) := by decide +kernel
theorem dX12_next_18 : decode cX12_next 18 = .ok (.aload_n 0, 1) := by decide +kernel
theorem dX12_next_19 : decode cX12_next 19 = .ok (.dup, 1) := by decide +kernel
theorem dX12_next_20 : decode cX12_next 20 = .ok (.getfield 21, 3) := by decide +kernel
theorem dX12_next_23 : decode cX12_next 23 = .ok (.iconst 1, 1) := by decide +kernel
theorem dX12_next_24 : decode cX12_next 24 = .ok (.iadd, 1) := by decide +kernel
theorem dX12_next_25 : decode cX12_next 25 = .ok (.putfield 21, 3) := by decide +kernel
theorem dX12_next_28 : decode cX12_next 28 = .ok (.goto (-28), 3) := by decide +kernel
theorem dX12_next_31 : decode cX12_next 31 = .ok (.aload_n 0, 1) := by decide +kernel
theorem dX12_next_32 : decode cX12_next 32 = .ok (.aload_n 0, 1) := by decide +kernel
theorem dX12_next_33 : decode cX12_next 33 = .ok (.getfield 21, 3) := by decide +kernel
theorem dX12_next_36 : decode cX12_next 36 = .ok (.putfield 146, 3) := by decide +kernel
theorem dX12_next_39 : decode cX12_next 39 = .ok (.aload_n 0, 1) := by decide +kernel
theorem dX12_next_40 : decode cX12_next 40 = .ok (.iconst 0, 1) := by decide +kernel
theorem dX12_next_41 : decode cX12_next 41 = .ok (.putfield 149, 3) := by decide +kernel
theorem dX12_next_44 : decode cX12_next 44 = .ok (.aload_n 0, 1) := by decide +kernel
theorem dX12_next_45 : decode cX12_next 45 = .ok (.getfield 18, 3) := by decide +kernel
theorem dX12_next_48 : decode cX12_next 48 = .ok (.aload_n 0, 1) := by decide +kernel
theorem dX12_next_49 : decode cX12_next 49 = .ok (.getfield 24, 3) := by decide +kernel
theorem dX12_next_52 : decode cX12_next 52 = .ok (.if_icmp .le 28, 3) := by decide +kernel
theorem dX12_next_55 : decode cX12_next 55 = .ok (.aload_n 0, 1) := by decide +kernel
theorem dX12_next_56 : decode cX12_next 56 = .ok (.getfield 21, 3) := by decide +kernel
theorem dX12_next_59 : decode cX12_next 59 = .ok (.aload_n 0, 1) := by decide +kernel
theorem dX12_next_60 : decode cX12_next 60 = .ok (.getfield 24, 3) := by decide +kernel
theorem dX12_next_63 : decode cX12_next 63 = .ok (.if_icmp .lt 17, 3) := by decide +kernel
theorem dX12_next_66 : decode cX12_next 66 = .ok (.aload_n 0, 1) := by decide +kernel
theorem dX12_next_67 : decode cX12_next 67 = .ok (.aload_n 0, 1) := by decide +kernel
theorem dX12_next_68 : decode cX12_next 68 = .ok (.getfield 24, 3) := by decide +kernel
theorem dX12_next_71 : decode cX12_next 71 = .ok (.putfield 146, 3) := by decide +kernel
theorem dX12_next_74 : decode cX12_next 74 = .ok (.aload_n 0, 1) := by decide +kernel
theorem dX12_next_75 : decode cX12_next 75 = .ok (.iconst 4, 1) := by decide +kernel
theorem dX12_next_76 : decode cX12_next 76 = .ok (.putfield 152, 3) := by decide +kernel
theorem dX12_next_79 : decode cX12_next 79 = .ok (.return_, 1) := by decide +kernel
theorem dX12_next_80 : decode cX12_next 80 = .ok (.aload_n 0, 1) := by decide +kernel
theorem dX12_next_81 : decode cX12_next 81 = .ok (.invokevirtual 142, 3) := by decide +kernel
theorem dX12_next_84 : decode cX12_next 84 = .ok (.istore_n 1, 1) := by decide +kernel
theorem dX12_next_85 : decode cX12_next 85 = .ok (.iload_n 1, 1) := by decide +kernel
theorem dX12_next_86 : decode cX12_next 86 = .ok (.ifCond .ge 9, 3) := by decide +kernel
theorem dX12_next_89 : decode cX12_next 89 = .ok (.aload_n 0, 1) := by decide +kernel
theorem dX12_next_90 : decode cX12_next 90 = .ok (.iconst 0, 1) := by decide +kernel
theorem dX12_next_91 : decode cX12_next 91 = .ok (.putfield 152, 3) := by decide +kernel
theorem dX12_next_94 : decode cX12_next 94 = .ok (.return_, 1) := by decide +kernel
theorem dX12_next_95 : decode cX12_next 95 = .ok (.iload_n 1, 1) := by decide +kernel
theorem dX12_next_96 : decode cX12_next 96 = .ok (.invokestatic 155, 3) := by decide +kernel
theorem dX12_next_99 : decode cX12_next 99 = .ok (.ifCond .ne 65, 3) := by decide +kernel
theorem dX12_next_102 : decode cX12_next 102 = .ok (.iload_n 1, 1) := by decide +kernel
theorem dX12_next_103 : decode cX12_next 103 = .ok (.invokestatic 159, 3) := by decide +kernel
theorem dX12_next_106 : decode cX12_next 106 = .ok (.ifCond .ne 58, 3) := by decide +kernel
theorem dX12_next_109 : decode cX12_next 109 = .ok (.aload_n 0, 1) := by decide +kernel
theorem dX12_next_110 : decode cX12_next 110 = .ok (.iload_n 1, 1) := by decide +kernel
theorem dX12_next_111 : decode cX12_next 111 = .ok (.bipush 59, 2) := by decide +kernel
theorem dX12_next_113 : decode cX12_next 113 = .ok (.if_icmp .eq 27, 3) := by decide +kernel
theorem dX12_next_116 : decode cX12_next 116 = .ok (.iload_n 1, 1) := by decide +kernel
theorem dX12_next_117 : decode cX12_next 117 = .ok (.bipush 40, 2) := by decide +kernel
theorem dX12_next_119 : decode cX12_next 119 = .ok (.if_icmp .eq 21, 3) := by decide +kernel
theorem dX12_next_122 : decode cX12_next 122 = .ok (.iload_n 1, 1) := by decide +kernel
theorem dX12_next_123 : decode cX12_next 123 = .ok (.bipush 41, 2) := by decide +kernel
theorem dX12_next_125 : decode cX12_next 125 = .ok (.if_icmp .eq 15, 3) := by decide +kernel
theorem dX12_next_128 : decode cX12_next 128 = .ok (.iload_n 1, 1) := by decide +kernel
theorem dX12_next_129 : decode cX12_next 129 = .ok (.bipush 60, 2) := by decide +kernel
theorem dX12_next_131 : decode cX12_next 131 = .ok (.if_icmp .lt 13, 3) := by decide +kernel
theorem dX12_next_134 : decode cX12_next 134 = .ok (.iload_n 1, 1) := by decide +kernel
theorem dX12_next_135 : decode cX12_next 135 = .ok (.bipush 62, 2) := by decide +kernel
theorem dX12_next_137 : decode cX12_next 137 = .ok (.if_icmp .gt 7, 3) := by decide +kernel
theorem dX12_next_140 : decode cX12_next 140 = .ok (.iconst 3, 1) := by decide +kernel
theorem dX12_next_141 : decode cX12_next 141 = .ok (.goto 4, 3) := by decide +kernel
theorem dX12_next_144 : decode cX12_next 144 = .ok (.iconst 4, 1) := by decide +kernel
theorem dX12_next_145 : decode cX12_next 145 = .ok (.putfield 152, 3) := by decide +kernel
theorem dX12_next_148 : decode cX12_next 148 = .ok (.aload_n 0, 1) := by decide +kernel
theorem dX12_next_149 : decode cX12_next 149 = .ok (.iload_n 1, 1) := by decide +kernel
theorem dX12_next_150 : decode cX12_next 150 = .ok (.putfield 162, 3) := by decide +kernel
theorem dX12_next_153 : decode cX12_next 153 = .ok (.aload_n 0, 1) := by decide +kernel
theorem dX12_next_154 : decode cX12_next 154 = .ok (.dup, 1) := by decide +kernel
theorem dX12_next_155 : decode cX12_next 155 = .ok (.getfield 21, 3) := by decide +kernel
theorem dX12_next_158 : decode cX12_next 158 = .ok (.iconst 1, 1) := by decide +kernel
theorem dX12_next_159 : decode cX12_next 159 = .ok (.iadd, 1) := by decide +kernel
theorem dX12_next_160 : decode cX12_next 160 = .ok (.putfield 21, 3) := by decide +kernel
theorem dX12_next_163 : decode cX12_next 163 = .ok (.return_, 1) := by decide +kernel
theorem dX12_next_164 : decode cX12_next 164 = .ok (.iload_n 1, 1) := by decide +kernel
theorem dX12_next_165 : decode cX12_next 165 = .ok (.invokestatic 155, 3) := by decide +kernel
theorem dX12_next_168 : decode cX12_next 168 = .ok (.istore_n 2, 1) := by decide +kernel
theorem dX12_next_169 : decode cX12_next 169 = .ok (.iconst 1, 1) := by decide +kernel
theorem dX12_next_170 : decode cX12_next 170 = .ok (.istore_n 3, 1) := by decide +kernel
theorem dX12_next_171 : decode cX12_next 171 = .ok (.aload_n 0, 1) := by decide +kernel
theorem dX12_next_172 : decode cX12_next 172 = .ok (.lconst 0, 1) := by decide +kernel
theorem dX12_next_173 : decode cX12_next 173 = .ok (.putfield 165, 3) := by decide +kernel
theorem dX12_next_176 : decode cX12_next 176 = .ok (.aload_n 0, 1) := by decide +kernel
theorem dX12_next_177 : decode cX12_next 177 = .ok (.iconst 0, 1) := by decide +kernel
theorem dX12_next_178 : decode cX12_next 178 = .ok (.putfield 162, 3) := by decide +kernel
theorem dX12_next_181 : decode cX12_next 181 = .ok (.aload_n 0, 1) := by decide +kernel
theorem dX12_next_182 : decode cX12_next 182 = .ok (.invokevirtual 142, 3) := by decide +kernel
theorem dX12_next_185 : decode cX12_next 185 = .ok (.invokestatic 155, 3) := by decide +kernel
theorem dX12_next_188 : decode cX12_next 188 = .ok (.ifCond .ne 13, 3) := by decide +kernel
theorem dX12_next_191 : decode cX12_next 191 = .ok (.aload_n 0, 1) := by decide +kernel
theorem dX12_next_192 : decode cX12_next 192 = .ok (.invokevirtual 142, 3) := by decide +kernel
theorem dX12_next_195 : decode cX12_next 195 = .ok (.invokestatic 159, 3) := by decide +kernel
theorem dX12_next_198 : decode cX12_next 198 = .ok (.ifCond .eq 100, 3) := by decide +kernel
theorem dX12_next_201 : decode cX12_next 201 = .ok (.iload_n 3, 1) := by decide +kernel
theorem dX12_next_202 : decode cX12_next 202 = .ok (.ifCond .eq 18, 3) := by decide +kernel
theorem dX12_next_205 : decode cX12_next 205 = .ok (.aload_n 0, 1) := by decide +kernel
theorem dX12_next_206 : decode cX12_next 206 = .ok (.invokevirtual 142, 3) := by decide +kernel
theorem dX12_next_209 : decode cX12_next 209 = .ok (.invokestatic 155, 3) := by decide +kernel
theorem dX12_next_212 : decode cX12_next 212 = .ok (.iload_n 2, 1) := by decide +kernel
theorem dX12_next_213 : decode cX12_next 213 = .ok (.if_icmp .ne 7, 3) := by decide +kernel
theorem dX12_next_216 : decode cX12_next 216 = .ok (.iconst 1, 1) := by decide +kernel
theorem dX12_next_217 : decode cX12_next 217 = .ok (.goto 4, 3) := by decide +kernel
theorem dX12_next_220 : decode cX12_next 220 = .ok (.iconst 0, 1) := by decide +kernel
theorem dX12_next_221 : decode cX12_next 221 = .ok (.istore_n 3, 1) := by decide +kernel
theorem dX12_next_222 : decode cX12_next 222 = .ok (.aload_n 0, 1) := by decide +kernel
theorem dX12_next_223 : decode cX12_next 223 = .ok (.getfield 149, 3) := by decide +kernel
theorem dX12_next_226 : decode cX12_next 226 = .ok (.bipush 7, 2) := by decide +kernel
theorem dX12_next_228 : decode cX12_next 228 = .ok (.if_icmp .ge 20, 3) := by decide +kernel
theorem dX12_next_231 : decode cX12_next 231 = .ok (.aload_n 0, 1) := by decide +kernel
theorem dX12_next_232 : decode cX12_next 232 = .ok (.aload_n 0, 1) := by decide +kernel
theorem dX12_next_233 : decode cX12_next 233 = .ok (.getfield 165, 3) := by decide +kernel
theorem dX12_next_236 : decode cX12_next 236 = .ok (.bipush 8, 2) := by decide +kernel
theorem dX12_next_238 : decode cX12_next 238 = .ok (.lshl, 1) := by decide +kernel
theorem dX12_next_239 : decode cX12_next 239 = .ok (.aload_n 0, 1) := by decide +kernel
theorem dX12_next_240 : decode cX12_next 240 = .ok (.invokevirtual 142, 3) := by decide +kernel
theorem dX12_next_243 : decode cX12_next 243 = .ok (.i2l, 1) := by decide +kernel
theorem dX12_next_244 : decode cX12_next 244 = .ok (.lor, 1) := by decide +kernel
theorem dX12_next_245 : decode cX12_next 245 = .ok (.putfield 165, 3) := by decide +kernel
theorem dX12_next_248 : decode cX12_next 248 = .ok (.aload_n 0, 1) := by decide +kernel
theorem dX12_next_249 : decode cX12_next 249 = .ok (.getfield 149, 3) := by decide +kernel
theorem dX12_next_252 : decode cX12_next 252 = .ok (.iconst 3, 1) := by decide +kernel
theorem dX12_next_253 : decode cX12_next 253 = .ok (.if_icmp .ge 22, 3) := by decide +kernel
theorem dX12_next_256 : decode cX12_next 256 = .ok (.aload_n 0, 1) := by decide +kernel
theorem dX12_next_257 : decode cX12_next 257 = .ok (.bipush 10, 2) := by decide +kernel
theorem dX12_next_259 : decode cX12_next 259 = .ok (.aload_n 0, 1) := by decide +kernel
theorem dX12_next_260 : decode cX12_next 260 = .ok (.getfield 162, 3) := by decide +kernel
theorem dX12_next_263 : decode cX12_next 263 = .ok (.imul, 1) := by decide +kernel
theorem dX12_next_264 : decode cX12_next 264 = .ok (.aload_n 0, 1) := by decide +kernel
theorem dX12_next_265 : decode cX12_next 265 = .ok (.invokevirtual 142, 3) := by decide +kernel
theorem dX12_next_268 : decode cX12_next 268 = .ok (.iadd, 1) := by decide +kernel
theorem dX12_next_269 : decode cX12_next 269 = .ok (.bipush 48, 2) := by decide +kernel
theorem dX12_next_271 : decode cX12_next 271 = .ok (.isub, 1) := by decide +kernel
theorem dX12_next_272 : decode cX12_next 272 = .ok (.putfield 162, 3) := by decide +kernel
theorem dX12_next_275 : decode cX12_next 275 = .ok (.aload_n 0, 1) := by decide +kernel
theorem dX12_next_276 : decode cX12_next 276 = .ok (.dup, 1) := by decide +kernel
theorem dX12_next_277 : decode cX12_next 277 = .ok (.getfield 149, 3) := by decide +kernel
theorem dX12_next_280 : decode cX12_next 280 = .ok (.iconst 1, 1) := by decide +kernel
theorem dX12_next_281 : decode cX12_next 281 = .ok (.iadd, 1) := by decide +kernel
theorem dX12_next_282 : decode cX12_next 282 = .ok (.putfield 149, 3) := by decide +kernel
theorem dX12_next_285 : decode cX12_next 285 = .ok (.aload_n 0, 1) := by decide +kernel
theorem dX12_next_286 : decode cX12_next 286 = .ok (.dup, 1) := by decide +kernel
theorem dX12_next_287 : decode cX12_next 287 = .ok (.getfield 21, 3) := by decide +kernel
theorem dX12_next_290 : decode cX12_next 290 = .ok (.iconst 1, 1) := by decide +kernel
theorem dX12_next_291 : decode cX12_next 291 = .ok (.iadd, 1) := by decide +kernel
theorem dX12_next_292 : decode cX12_next 292 = .ok (.putfield 21, 3) := by decide +kernel
theorem dX12_next_295 : decode cX12_next 295 = .ok (.goto (-114), 3) := by decide +kernel
theorem dX12_next_298 : decode cX12_next 298 = .ok (.aload_n 0, 1) := by decide +kernel
theorem dX12_next_299 : decode cX12_next 299 = .ok (.iload_n 3, 1) := by decide +kernel
theorem dX12_next_300 : decode cX12_next 300 = .ok (.ifCond .eq 20, 3) := by decide +kernel
theorem dX12_next_303 : decode cX12_next 303 = .ok (.aload_n 0, 1) := by decide +kernel
theorem dX12_next_304 : decode cX12_next 304 = .ok (.getfield 149, 3) := by decide +kernel
theorem dX12_next_307 : decode cX12_next 307 = .ok (.iload_n 2, 1) := by decide +kernel
theorem dX12_next_308 : decode cX12_next 308 = .ok (.ifCond .eq 8, 3) := by decide +kernel
theorem dX12_next_311 : decode cX12_next 311 = .ok (.bipush 7, 2) := by decide +kernel
theorem dX12_next_313 : decode cX12_next 313 = .ok (.goto 4, 3) := by decide +kernel
theorem dX12_next_316 : decode cX12_next 316 = .ok (.iconst 3, 1) := by decide +kernel
theorem dX12_next_317 : decode cX12_next 317 = .ok (.if_icmp .le 7, 3) := by decide +kernel
theorem dX12_next_320 : decode cX12_next 320 = .ok (.iconst 4, 1) := by decide +kernel
theorem dX12_next_321 : decode cX12_next 321 = .ok (.goto 12, 3) := by decide +kernel
theorem dX12_next_324 : decode cX12_next 324 = .ok (.iload_n 2, 1) := by decide +kernel
theorem dX12_next_325 : decode cX12_next 325 = .ok (.ifCond .eq 7, 3) := by decide +kernel
theorem dX12_next_328 : decode cX12_next 328 = .ok (.iconst 1, 1) := by decide +kernel
theorem dX12_next_329 : decode cX12_next 329 = .ok (.goto 4, 3) := by decide +kernel
theorem dX12_next_332 : decode cX12_next 332 = .ok (.iconst 2, 1) := by decide +kernel
theorem dX12_next_333 : decode cX12_next 333 = .ok (.putfield 152, 3) := by decide +kernel
theorem dX12_next_336 : decode cX12_next 336 = .ok (.return_, 1) := by decide +kernel
theorem dX12_bad_0 : decode cX12_bad 0 = .ok (.aload_n 0, 1) := by decide +kernel
theorem dX12_bad_1 : decode cX12_bad 1 = .ok (.iload_n 1, 1) := by decide +kernel
theorem dX12_bad_2 : decode cX12_bad 2 = .ok (.putfield 169, 3) := by decide +kernel
theorem dX12_bad_5 : decode cX12_bad 5 = .ok (.aload_n 0, 1) := by decide +kernel
theorem dX12_bad_6 : decode cX12_bad 6 = .ok (.aload_n 0, 1) := by decide +kernel
theorem dX12_bad_7 : decode cX12_bad 7 = .ok (.getfield 146, 3) := by decide +kernel
theorem dX12_bad_10 : decode cX12_bad 10 = .ok (.putfield 172, 3) := by decide +kernel
theorem dX12_bad_13 : decode cX12_bad 13 = .ok (.iconst 0, 1) := by decide +kernel
theorem dX12_bad_14 : decode cX12_bad 14 = .ok (.ireturn, 1) := by decide +kernel
theorem dX12_isWord_0 : decode cX12_isWord 0 = .ok (.aload_n 0, 1) := by decide +kernel
theorem dX12_isWord_1 : decode cX12_isWord 1 = .ok (.getfield 152, 3) := by decide +kernel
theorem dX12_isWord_4 : decode cX12_isWord 4 = .ok (.iconst 1, 1) := by decide +kernel
theorem dX12_isWord_5 : decode cX12_isWord 5 = .ok (.if_icmp .ne 16, 3) := by decide +kernel
theorem dX12_isWord_8 : decode cX12_isWord 8 = .ok (.aload_n 0, 1) := by decide +kernel
theorem dX12_isWord_9 : decode cX12_isWord 9 = .ok (.getfield 165, 3) := by decide +kernel
theorem dX12_isWord_12 : decode cX12_isWord 12 = .ok (.lload_n 1, 1) := by decide +kernel
theorem dX12_isWord_13 : decode cX12_isWord 13 = .ok (.lcmp, 1) := by decide +kernel
theorem dX12_isWord_14 : decode cX12_isWord 14 = .ok (.ifCond .ne 7, 3) := by decide +kernel
theorem dX12_isWord_17 : decode cX12_isWord 17 = .ok (.iconst 1, 1) := by decide +kernel
theorem dX12_isWord_18 : decode cX12_isWord 18 = .ok (.goto 4, 3) := by decide +kernel
theorem dX12_isWord_21 : decode cX12_isWord 21 = .ok (.iconst 0, 1) := by decide +kernel
theorem dX12_isWord_22 : decode cX12_isWord 22 = .ok (.ireturn, 1) := by decide +kernel
theorem dX12_isSign_0 : decode cX12_isSign 0 = .ok (.aload_n 0, 1) := by decide +kernel
theorem dX12_isSign_1 : decode cX12_isSign 1 = .ok (.getfield 152, 3) := by decide +kernel
theorem dX12_isSign_4 : decode cX12_isSign 4 = .ok (.iconst 3, 1) := by decide +kernel
theorem dX12_isSign_5 : decode cX12_isSign 5 = .ok (.if_icmp .ne 15, 3) := by decide +kernel
theorem dX12_isSign_8 : decode cX12_isSign 8 = .ok (.aload_n 0, 1) := by decide +kernel
theorem dX12_isSign_9 : decode cX12_isSign 9 = .ok (.getfield 162, 3) := by decide +kernel
theorem dX12_isSign_12 : decode cX12_isSign 12 = .ok (.iload_n 1, 1) := by decide +kernel
theorem dX12_isSign_13 : decode cX12_isSign 13 = .ok (.if_icmp .ne 7, 3) := by decide +kernel
theorem dX12_isSign_16 : decode cX12_isSign 16 = .ok (.iconst 1, 1) := by decide +kernel
theorem dX12_isSign_17 : decode cX12_isSign 17 = .ok (.goto 4, 3) := by decide +kernel
theorem dX12_isSign_20 : decode cX12_isSign 20 = .ok (.iconst 0, 1) := by decide +kernel
theorem dX12_isSign_21 : decode cX12_isSign 21 = .ok (.ireturn, 1) := by decide +kernel
set_option maxRecDepth 20000 in
theorem ggX12_sign_X12_isSign : GoodIn wsX12_sign wsX12_isSign := goodIn_r _ [5, 6, 7, 35, 36, 37, 38, 39, 40, 41, 42, 43, 44, 45, 46, 47, 48, 49, 50, 51, 52, 53, 54, 55, 56, 57, 58, 59, 60, 61, 62, 63, 64, 65, 66, 67, 68, 69, 70, 71, 72, 73, 74, 75, 76, 77, 78, 79, 80] (by decide +kernel) (by decide +kernel)
set_option maxRecDepth 20000 in
theorem gX12_sign_X12_isSign : GoodIn wsX12_sign (wsV RX12 175 RX12 yX12_isSign wsX12_isSign) := goodIn_app (goodIn_of _ (by decide +kernel)) ggX12_sign_X12_isSign
set_option maxRecDepth 20000 in
theorem ggX12_sign_X12_bad : GoodIn wsX12_sign wsX12_bad := goodIn_r _ [11, 12, 13, 14, 35, 36, 37, 38, 39, 40, 41, 42, 43, 44, 45, 46, 47, 48, 49, 50, 51, 52, 53, 54, 55, 56, 57, 58, 59, 60, 61, 62, 63, 64, 65, 66, 67, 68, 69, 70, 71, 72, 73, 74, 75, 76, 77, 78, 79, 80] (by decide +kernel) (by decide +kernel)
set_option maxRecDepth 20000 in
theorem gX12_sign_X12_bad : GoodIn wsX12_sign (wsV RX12 178 RX12 yX12_bad wsX12_bad) := goodIn_app (goodIn_of _ (by decide +kernel)) ggX12_sign_X12_bad
set_option maxRecDepth 20000 in
theorem ggX12_sign_X12_next : GoodIn wsX12_sign wsX12_next := goodIn_r _ [18, 19, 13, 20, 21, 22, 6, 7, 23, 24, 25, 26, 4, 27, 28, 29, 30, 31, 32, 33, 34, 35, 36, 37, 38, 39, 40, 41, 42, 43, 44, 45, 46, 47, 48, 49, 50, 51, 52, 53, 54, 55, 56, 57, 58, 59, 60, 61, 62, 63, 64, 65, 66, 67, 68, 69, 70, 71, 72, 73, 74, 75, 76, 77, 78, 79, 80] (by decide +kernel) (by decide +kernel)
set_option maxRecDepth 20000 in
theorem gX12_sign_X12_next : GoodIn wsX12_sign (wsV RX12 181 RX12 yX12_next wsX12_next) := goodIn_app (goodIn_of _ (by decide +kernel)) ggX12_sign_X12_next
theorem dX12_sign_0 : decode cX12_sign 0 = .ok (.aload_n 0, 1) := by decide +kernel
theorem dX12_sign_1 : decode cX12_sign 1 = .ok (.iload_n 1, 1) := by decide +kernel
theorem dX12_sign_2 : decode cX12_sign 2 = .ok (.invokevirtual 175, 3) := by decide +kernel
theorem dX12_sign_5 : decode cX12_sign 5 = .ok (.ifCond .ne 9, 3) := by decide +kernel
theorem dX12_sign_8 : decode cX12_sign 8 = .ok (.aload_n 0, 1) := by decide +kernel
theorem dX12_sign_9 : decode cX12_sign 9 = .ok (.iconst 1, 1) := by decide +kernel
theorem dX12_sign_10 : decode cX12_sign 10 = .ok (.invokevirtual 178, 3) := by decide +kernel
theorem dX12_sign_13 : decode cX12_sign 13 = .ok (.ireturn, 1) := by decide +kernel
theorem dX12_sign_14 : decode cX12_sign 14 = .ok (.aload_n 0, 1) := by decide +kernel
theorem dX12_sign_15 : decode cX12_sign 15 = .ok (.invokevirtual 181, 3) := by decide +kernel
theorem dX12_sign_18 : decode cX12_sign 18 = .ok (.iconst 1, 1) := by decide +kernel
theorem dX12_sign_19 : decode cX12_sign 19 = .ok (.ireturn, 1) := by decide +kernel
theorem dX12_isName_0 : decode cX12_isName 0 = .ok (.aload_n 0, 1) := by decide +kernel
theorem dX12_isName_1 : decode cX12_isName 1 = .ok (.getfield 152, 3) := by decide +kernel
theorem dX12_isName_4 : decode cX12_isName 4 = .ok (.iconst 1, 1) := by decide +kernel
theorem dX12_isName_5 : decode cX12_isName 5 = .ok (.if_icmp .ne 7, 3) := by decide +kernel
theorem dX12_isName_8 : decode cX12_isName 8 = .ok (.iconst 1, 1) := by decide +kernel
theorem dX12_isName_9 : decode cX12_isName 9 = .ok (.goto 4, 3) := by decide +kernel
theorem dX12_isName_12 : decode cX12_isName 12 = .ok (.iconst 0, 1) := by decide +kernel
theorem dX12_isName_13 : decode cX12_isName 13 = .ok (.istore_n 1, 1) := by decide +kernel
theorem dX12_isName_14 : decode cX12_isName 14 = .ok (.iconst 0, 1) := by decide +kernel
theorem dX12_isName_15 : decode cX12_isName 15 = .ok (.istore_n 2, 1) := by decide +kernel
theorem dX12_isName_16 : decode cX12_isName 16 = .ok (.iload_n 2, 1) := by decide +kernel
theorem dX12_isName_17 : decode cX12_isName 17 = .ok (.bipush 26, 2) := by decide +kernel
theorem dX12_isName_19 : decode cX12_isName 19 = .ok (.if_icmp .ge 33, 3) := by decide +kernel
theorem dX12_isName_22 : decode cX12_isName 22 = .ok (.iload_n 1, 1) := by decide +kernel
theorem dX12_isName_23 : decode cX12_isName 23 = .ok (.ifCond .eq 21, 3) := by decide +kernel
theorem dX12_isName_26 : decode cX12_isName 26 = .ok (.aload_n 0, 1) := by decide +kernel
theorem dX12_isName_27 : decode cX12_isName 27 = .ok (.getfield 165, 3) := by decide +kernel
theorem dX12_isName_30 : decode cX12_isName 30 = .ok (.aload_n 0, 1) := by decide +kernel
theorem dX12_isName_31 : decode cX12_isName 31 = .ok (.getfield 47, 3) := by decide +kernel
theorem dX12_isName_34 : decode cX12_isName 34 = .ok (.iload_n 2, 1) := by decide +kernel
theorem dX12_isName_35 : decode cX12_isName 35 = .ok (.laload, 1) := by decide +kernel
theorem dX12_isName_36 : decode cX12_isName 36 = .ok (.lcmp, 1) := by decide +kernel
theorem dX12_isName_37 : decode cX12_isName 37 = .ok (.ifCond .eq 7, 3) := by decide +kernel
theorem dX12_isName_40 : decode cX12_isName 40 = .ok (.iconst 1, 1) := by decide +kernel
theorem dX12_isName_41 : decode cX12_isName 41 = .ok (.goto 4, 3) := by decide +kernel
theorem dX12_isName_44 : decode cX12_isName 44 = .ok (.iconst 0, 1) := by decide +kernel
theorem dX12_isName_45 : decode cX12_isName 45 = .ok (.istore_n 1, 1) := by decide +kernel
theorem dX12_isName_46 : decode cX12_isName 46 = .ok (.iinc 2 1, 3) := by decide +kernel
theorem dX12_isName_49 : decode cX12_isName 49 = .ok (.goto (-33), 3) := by decide +kernel
theorem dX12_isName_52 : decode cX12_isName 52 = .ok (.iload_n 1, 1) := by decide +kernel
theorem dX12_isName_53 : decode cX12_isName 53 = .ok (.ireturn, 1) := by decide +kernel
set_option maxRecDepth 20000 in
theorem ggX12_takes_X12_bad : GoodIn wsX12_takes wsX12_bad := goodIn_r _ [8, 9, 10, 11, 35, 36, 37, 38, 39, 40, 41, 42, 43, 44, 45, 46, 47, 48, 49, 50, 51, 52, 53, 54, 55, 56, 57, 58, 59, 60, 61, 62, 63, 64, 65, 66, 67, 68, 69, 70, 71, 72, 73, 74, 75, 76, 77, 78, 79, 80] (by decide +kernel) (by decide +kernel)
set_option maxRecDepth 20000 in
theorem gX12_takes_X12_bad : GoodIn wsX12_takes (wsV RX12 178 RX12 yX12_bad wsX12_bad) := goodIn_app (goodIn_of _ (by decide +kernel)) ggX12_takes_X12_bad
set_option maxRecDepth 20000 in
theorem ggX12_takes_X12_isIn : GoodIn wsX12_takes wsX12_isIn := goodIn_r _ [14] (by decide +kernel) (by decide +kernel)
set_option maxRecDepth 20000 in
theorem gX12_takes_X12_isIn : GoodIn wsX12_takes (va_wsS RX12 184 yX12_isIn wsX12_isIn) := goodIn_app (goodIn_of _ (by decide +kernel)) ggX12_takes_X12_isIn
set_option maxRecDepth 20000 in
theorem ggX12_takes_X12_next : GoodIn wsX12_takes wsX12_next := goodIn_r _ [18, 19, 10, 20, 21, 22, 1, 2, 23, 24, 25, 26, 7, 27, 28, 29, 30, 31, 32, 33, 34, 35, 36, 37, 38, 39, 40, 41, 42, 43, 44, 45, 46, 47, 48, 49, 50, 51, 52, 53, 54, 55, 56, 57, 58, 59, 60, 61, 62, 63, 64, 65, 66, 67, 68, 69, 70, 71, 72, 73, 74, 75, 76, 77, 78, 79, 80] (by decide +kernel) (by decide +kernel)
set_option maxRecDepth 20000 in
theorem gX12_takes_X12_next : GoodIn wsX12_takes (wsV RX12 181 RX12 yX12_next wsX12_next) := goodIn_app (goodIn_of _ (by decide +kernel)) ggX12_takes_X12_next
theorem dX12_takes_0 : decode cX12_takes 0 = .ok (.aload_n 0, 1) := by decide +kernel
theorem dX12_takes_1 : decode cX12_takes 1 = .ok (.getfield 152, 3) := by decide +kernel
theorem dX12_takes_4 : decode cX12_takes 4 = .ok (.iconst 2, 1) := by decide +kernel
theorem dX12_takes_5 : decode cX12_takes 5 = .ok (.if_icmp .eq 9, 3) := by decide +kernel
theorem dX12_takes_8 : decode cX12_takes 8 = .ok (.aload_n 0, 1) := by decide +kernel
theorem dX12_takes_9 : decode cX12_takes 9 = .ok (.iconst 1, 1) := by decide +kernel
theorem dX12_takes_10 : decode cX12_takes 10 = .ok (.invokevirtual 178, 3) := by decide +kernel
theorem dX12_takes_13 : decode cX12_takes 13 = .ok (.ireturn, 1) := by decide +kernel
theorem dX12_takes_14 : decode cX12_takes 14 = .ok (.aload_n 0, 1) := by decide +kernel
theorem dX12_takes_15 : decode cX12_takes 15 = .ok (.getfield 162, 3) := by decide +kernel
theorem dX12_takes_18 : decode cX12_takes 18 = .ok (.iload_n 1, 1) := by decide +kernel
theorem dX12_takes_19 : decode cX12_takes 19 = .ok (.iload_n 2, 1) := by decide +kernel
theorem dX12_takes_20 : decode cX12_takes 20 = .ok (.invokestatic 184, 3) := by decide +kernel
theorem dX12_takes_23 : decode cX12_takes 23 = .ok (.ifCond .ne 9, 3) := by decide +kernel
theorem dX12_takes_26 : decode cX12_takes 26 = .ok (.aload_n 0, 1) := by decide +kernel
theorem dX12_takes_27 : decode cX12_takes 27 = .ok (.iconst 2, 1) := by decide +kernel
theorem dX12_takes_28 : decode cX12_takes 28 = .ok (.invokevirtual 178, 3) := by decide +kernel
theorem dX12_takes_31 : decode cX12_takes 31 = .ok (.ireturn, 1) := by decide +kernel
theorem dX12_takes_32 : decode cX12_takes 32 = .ok (.aload_n 0, 1) := by decide +kernel
theorem dX12_takes_33 : decode cX12_takes 33 = .ok (.aload_n 0, 1) := by decide +kernel
theorem dX12_takes_34 : decode cX12_takes 34 = .ok (.getfield 162, 3) := by decide +kernel
theorem dX12_takes_37 : decode cX12_takes 37 = .ok (.putfield 188, 3) := by decide +kernel
theorem dX12_takes_40 : decode cX12_takes 40 = .ok (.aload_n 0, 1) := by decide +kernel
theorem dX12_takes_41 : decode cX12_takes 41 = .ok (.invokevirtual 181, 3) := by decide +kernel
theorem dX12_takes_44 : decode cX12_takes 44 = .ok (.iconst 1, 1) := by decide +kernel
theorem dX12_takes_45 : decode cX12_takes 45 = .ok (.ireturn, 1) := by decide +kernel
set_option maxRecDepth 20000 in
theorem ggX12_puts_X12_takes : GoodIn wsX12_puts wsX12_takes := goodIn_r _ [7, 8, 9, 2, 10, 11, 12, 6, 13, 14, 15, 16, 17, 18, 19, 20, 21, 22, 23, 24, 25, 26, 27, 28, 29, 30, 31, 32, 33, 34, 35, 36, 37, 38, 39, 40, 41, 42, 43, 44, 45, 46, 47, 48, 49, 50, 51, 52, 53, 54, 55, 56, 57, 58, 59, 60, 61, 62, 63, 64, 65, 66, 67, 68, 69, 70, 71, 72, 73, 74, 75, 76, 77, 78, 79, 80, 81, 82, 83, 84, 85] (by decide +kernel) (by decide +kernel)
set_option maxRecDepth 20000 in
theorem gX12_puts_X12_takes : GoodIn wsX12_puts (wsV RX12 191 RX12 yX12_takes wsX12_takes) := goodIn_app (goodIn_of _ (by decide +kernel)) ggX12_puts_X12_takes
theorem dX12_puts_0 : decode cX12_puts 0 = .ok (.aload_n 0, 1) := by decide +kernel
theorem dX12_puts_1 : decode cX12_puts 1 = .ok (.iload_n 2, 1) := by decide +kernel
theorem dX12_puts_2 : decode cX12_puts 2 = .ok (.iload_n 3, 1) := by decide +kernel
theorem dX12_puts_3 : decode cX12_puts 3 = .ok (.invokevirtual 191, 3) := by decide +kernel
theorem dX12_puts_6 : decode cX12_puts 6 = .ok (.ifCond .ne 5, 3) := by decide +kernel
theorem dX12_puts_9 : decode cX12_puts 9 = .ok (.iconst 0, 1) := by decide +kernel
theorem dX12_puts_10 : decode cX12_puts 10 = .ok (.ireturn, 1) := by decide +kernel
theorem dX12_puts_11 : decode cX12_puts 11 = .ok (.aload_n 0, 1) := by decide +kernel
theorem dX12_puts_12 : decode cX12_puts 12 = .ok (.getfield 37, 3) := by decide +kernel
theorem dX12_puts_15 : decode cX12_puts 15 = .ok (.iload_n 1, 1) := by decide +kernel
theorem dX12_puts_16 : decode cX12_puts 16 = .ok (.aload_n 0, 1) := by decide +kernel
theorem dX12_puts_17 : decode cX12_puts 17 = .ok (.getfield 188, 3) := by decide +kernel
theorem dX12_puts_20 : decode cX12_puts 20 = .ok (.iastore, 1) := by decide +kernel
theorem dX12_puts_21 : decode cX12_puts 21 = .ok (.iconst 1, 1) := by decide +kernel
theorem dX12_puts_22 : decode cX12_puts 22 = .ok (.ireturn, 1) := by decide +kernel
theorem dX12_seek_0 : decode cX12_seek 0 = .ok (.iconst 0, 1) := by decide +kernel
theorem dX12_seek_1 : decode cX12_seek 1 = .ok (.istore_n 3, 1) := by decide +kernel
theorem dX12_seek_2 : decode cX12_seek 2 = .ok (.iload_n 3, 1) := by decide +kernel
theorem dX12_seek_3 : decode cX12_seek 3 = .ok (.iload_n 2, 1) := by decide +kernel
theorem dX12_seek_4 : decode cX12_seek 4 = .ok (.if_icmp .ge 27, 3) := by decide +kernel
theorem dX12_seek_7 : decode cX12_seek 7 = .ok (.aload_n 0, 1) := by decide +kernel
theorem dX12_seek_8 : decode cX12_seek 8 = .ok (.getfield 43, 3) := by decide +kernel
theorem dX12_seek_11 : decode cX12_seek 11 = .ok (.iload_n 1, 1) := by decide +kernel
theorem dX12_seek_12 : decode cX12_seek 12 = .ok (.iload_n 3, 1) := by decide +kernel
theorem dX12_seek_13 : decode cX12_seek 13 = .ok (.iadd, 1) := by decide +kernel
theorem dX12_seek_14 : decode cX12_seek 14 = .ok (.laload, 1) := by decide +kernel
theorem dX12_seek_15 : decode cX12_seek 15 = .ok (.aload_n 0, 1) := by decide +kernel
theorem dX12_seek_16 : decode cX12_seek 16 = .ok (.getfield 165, 3) := by decide +kernel
theorem dX12_seek_19 : decode cX12_seek 19 = .ok (.lcmp, 1) := by decide +kernel
theorem dX12_seek_20 : decode cX12_seek 20 = .ok (.ifCond .ne 5, 3) := by decide +kernel
theorem dX12_seek_23 : decode cX12_seek 23 = .ok (.iload_n 3, 1) := by decide +kernel
theorem dX12_seek_24 : decode cX12_seek 24 = .ok (.ireturn, 1) := by decide +kernel
theorem dX12_seek_25 : decode cX12_seek 25 = .ok (.iinc 3 1, 3) := by decide +kernel
theorem dX12_seek_28 : decode cX12_seek 28 = .ok (.goto (-26), 3) := by decide +kernel
theorem dX12_seek_31 : decode cX12_seek 31 = .ok (.iconst (-1), 1) := by decide +kernel
theorem dX12_seek_32 : decode cX12_seek 32 = .ok (.ireturn, 1) := by decide +kernel
set_option maxRecDepth 20000 in
theorem ggX12_fresh_X12_isName : GoodIn wsX12_fresh wsX12_isName := goodIn_r _ [8, 9, 3, 10, 42, 43, 44, 45, 46, 47, 48, 49, 50, 51, 52, 53, 54, 55, 56, 57, 58, 59, 60, 61, 62, 63, 64, 65, 66, 67, 68, 69, 70, 71, 72, 73, 74, 75, 76, 77, 78, 79, 80, 81, 82, 83, 84, 85, 86, 87] (by decide +kernel) (by decide +kernel)
set_option maxRecDepth 20000 in
theorem gX12_fresh_X12_isName : GoodIn wsX12_fresh (wsV RX12 195 RX12 yX12_isName wsX12_isName) := goodIn_app (goodIn_of _ (by decide +kernel)) ggX12_fresh_X12_isName
set_option maxRecDepth 20000 in
theorem ggX12_fresh_X12_bad : GoodIn wsX12_fresh wsX12_bad := goodIn_r _ [14, 15, 16, 17, 42, 43, 44, 45, 46, 47, 48, 49, 50, 51, 52, 53, 54, 55, 56, 57, 58, 59, 60, 61, 62, 63, 64, 65, 66, 67, 68, 69, 70, 71, 72, 73, 74, 75, 76, 77, 78, 79, 80, 81, 82, 83, 84, 85, 86, 87] (by decide +kernel) (by decide +kernel)
set_option maxRecDepth 20000 in
theorem gX12_fresh_X12_bad : GoodIn wsX12_fresh (wsV RX12 178 RX12 yX12_bad wsX12_bad) := goodIn_app (goodIn_of _ (by decide +kernel)) ggX12_fresh_X12_bad
set_option maxRecDepth 20000 in
theorem ggX12_fresh_X12_seek : GoodIn wsX12_fresh wsX12_seek := goodIn_r _ [21, 2, 3, 42, 43, 44, 45, 46, 47, 48, 49, 50, 51, 52, 53, 54, 55, 56, 57, 58, 59, 60, 61, 62, 63, 64, 65, 66, 67, 68, 69, 70, 71, 72, 73, 74, 75, 76, 77, 78, 79, 80, 81, 82, 83, 84, 85, 86, 87] (by decide +kernel) (by decide +kernel)
set_option maxRecDepth 20000 in
theorem gX12_fresh_X12_seek : GoodIn wsX12_fresh (wsV RX12 199 RX12 yX12_seek wsX12_seek) := goodIn_app (goodIn_of _ (by decide +kernel)) ggX12_fresh_X12_seek
set_option maxRecDepth 20000 in
theorem ggX12_fresh_X12_next : GoodIn wsX12_fresh wsX12_next := goodIn_r _ [25, 26, 16, 27, 28, 29, 9, 30, 3, 31, 32, 33, 7, 34, 35, 36, 37, 38, 39, 40, 41, 42, 43, 44, 45, 46, 47, 48, 49, 50, 51, 52, 53, 54, 55, 56, 57, 58, 59, 60, 61, 62, 63, 64, 65, 66, 67, 68, 69, 70, 71, 72, 73, 74, 75, 76, 77, 78, 79, 80, 81, 82, 83, 84, 85, 86, 87] (by decide +kernel) (by decide +kernel)
set_option maxRecDepth 20000 in
theorem gX12_fresh_X12_next : GoodIn wsX12_fresh (wsV RX12 181 RX12 yX12_next wsX12_next) := goodIn_app (goodIn_of _ (by decide +kernel)) ggX12_fresh_X12_next
theorem dX12_fresh_0 : decode cX12_fresh 0 = .ok (.aload_n 0, 1) := by decide +kernel
theorem dX12_fresh_1 : decode cX12_fresh 1 = .ok (.invokevirtual 195, 3) := by decide +kernel
theorem dX12_fresh_4 : decode cX12_fresh 4 = .ok (.ifCond .ne 9, 3) := by decide +kernel
theorem dX12_fresh_7 : decode cX12_fresh 7 = .ok (.aload_n 0, 1) := by decide +kernel
theorem dX12_fresh_8 : decode cX12_fresh 8 = .ok (.iconst 1, 1) := by decide +kernel
theorem dX12_fresh_9 : decode cX12_fresh 9 = .ok (.invokevirtual 178, 3) := by decide +kernel
theorem dX12_fresh_12 : decode cX12_fresh 12 = .ok (.ireturn, 1) := by decide +kernel
theorem dX12_fresh_13 : decode cX12_fresh 13 = .ok (.aload_n 0, 1) := by decide +kernel
theorem dX12_fresh_14 : decode cX12_fresh 14 = .ok (.bipush 18, 2) := by decide +kernel
theorem dX12_fresh_16 : decode cX12_fresh 16 = .ok (.aload_n 0, 1) := by decide +kernel
theorem dX12_fresh_17 : decode cX12_fresh 17 = .ok (.getfield 37, 3) := by decide +kernel
theorem dX12_fresh_20 : decode cX12_fresh 20 = .ok (.iconst 0, 1) := by decide +kernel
theorem dX12_fresh_21 : decode cX12_fresh 21 = .ok (.iaload, 1) := by decide +kernel
theorem dX12_fresh_22 : decode cX12_fresh 22 = .ok (.invokevirtual 199, 3) := by decide +kernel
theorem dX12_fresh_25 : decode cX12_fresh 25 = .ok (.ifCond .ge 33, 3) := by decide +kernel
theorem dX12_fresh_28 : decode cX12_fresh 28 = .ok (.aload_n 0, 1) := by decide +kernel
theorem dX12_fresh_29 : decode cX12_fresh 29 = .ok (.bipush 24, 2) := by decide +kernel
theorem dX12_fresh_31 : decode cX12_fresh 31 = .ok (.aload_n 0, 1) := by decide +kernel
theorem dX12_fresh_32 : decode cX12_fresh 32 = .ok (.getfield 37, 3) := by decide +kernel
theorem dX12_fresh_35 : decode cX12_fresh 35 = .ok (.iconst 1, 1) := by decide +kernel
theorem dX12_fresh_36 : decode cX12_fresh 36 = .ok (.iaload, 1) := by decide +kernel
theorem dX12_fresh_37 : decode cX12_fresh 37 = .ok (.invokevirtual 199, 3) := by decide +kernel
theorem dX12_fresh_40 : decode cX12_fresh 40 = .ok (.ifCond .ge 18, 3) := by decide +kernel
theorem dX12_fresh_43 : decode cX12_fresh 43 = .ok (.aload_n 0, 1) := by decide +kernel
theorem dX12_fresh_44 : decode cX12_fresh 44 = .ok (.bipush 30, 2) := by decide +kernel
theorem dX12_fresh_46 : decode cX12_fresh 46 = .ok (.aload_n 0, 1) := by decide +kernel
theorem dX12_fresh_47 : decode cX12_fresh 47 = .ok (.getfield 37, 3) := by decide +kernel
theorem dX12_fresh_50 : decode cX12_fresh 50 = .ok (.iconst 2, 1) := by decide +kernel
theorem dX12_fresh_51 : decode cX12_fresh 51 = .ok (.iaload, 1) := by decide +kernel
theorem dX12_fresh_52 : decode cX12_fresh 52 = .ok (.invokevirtual 199, 3) := by decide +kernel
theorem dX12_fresh_55 : decode cX12_fresh 55 = .ok (.ifCond .lt 9, 3) := by decide +kernel
theorem dX12_fresh_58 : decode cX12_fresh 58 = .ok (.aload_n 0, 1) := by decide +kernel
theorem dX12_fresh_59 : decode cX12_fresh 59 = .ok (.iconst 3, 1) := by decide +kernel
theorem dX12_fresh_60 : decode cX12_fresh 60 = .ok (.invokevirtual 178, 3) := by decide +kernel
theorem dX12_fresh_63 : decode cX12_fresh 63 = .ok (.ireturn, 1) := by decide +kernel
theorem dX12_fresh_64 : decode cX12_fresh 64 = .ok (.aload_n 0, 1) := by decide +kernel
theorem dX12_fresh_65 : decode cX12_fresh 65 = .ok (.getfield 43, 3) := by decide +kernel
theorem dX12_fresh_68 : decode cX12_fresh 68 = .ok (.iload_n 1, 1) := by decide +kernel
theorem dX12_fresh_69 : decode cX12_fresh 69 = .ok (.aload_n 0, 1) := by decide +kernel
theorem dX12_fresh_70 : decode cX12_fresh 70 = .ok (.getfield 165, 3) := by decide +kernel
theorem dX12_fresh_73 : decode cX12_fresh 73 = .ok (.lastore, 1) := by decide +kernel
theorem dX12_fresh_74 : decode cX12_fresh 74 = .ok (.aload_n 0, 1) := by decide +kernel
theorem dX12_fresh_75 : decode cX12_fresh 75 = .ok (.invokevirtual 181, 3) := by decide +kernel
theorem dX12_fresh_78 : decode cX12_fresh 78 = .ok (.iconst 1, 1) := by decide +kernel
theorem dX12_fresh_79 : decode cX12_fresh 79 = .ok (.ireturn, 1) := by decide +kernel
set_option maxRecDepth 20000 in
theorem ggX12_looksAt_X12_isName : GoodIn wsX12_looksAt wsX12_isName := goodIn_r _ [6, 7, 8, 9, 22, 23, 24, 25, 26, 27, 28, 29, 30, 31, 32, 33, 34, 35, 36, 37, 38, 39, 40, 41, 42, 43, 44, 45, 46, 47, 48, 49, 50, 51, 52, 53, 54, 55, 56, 57, 58, 59, 60, 61, 62, 63, 64, 65, 66, 67] (by decide +kernel) (by decide +kernel)
set_option maxRecDepth 20000 in
theorem gX12_looksAt_X12_isName : GoodIn wsX12_looksAt (wsV RX12 195 RX12 yX12_isName wsX12_isName) := goodIn_app (goodIn_of _ (by decide +kernel)) ggX12_looksAt_X12_isName
set_option maxRecDepth 20000 in
theorem ggX12_looksAt_X12_bad : GoodIn wsX12_looksAt wsX12_bad := goodIn_r _ [13, 14, 15, 16, 22, 23, 24, 25, 26, 27, 28, 29, 30, 31, 32, 33, 34, 35, 36, 37, 38, 39, 40, 41, 42, 43, 44, 45, 46, 47, 48, 49, 50, 51, 52, 53, 54, 55, 56, 57, 58, 59, 60, 61, 62, 63, 64, 65, 66, 67] (by decide +kernel) (by decide +kernel)
set_option maxRecDepth 20000 in
theorem gX12_looksAt_X12_bad : GoodIn wsX12_looksAt (wsV RX12 178 RX12 yX12_bad wsX12_bad) := goodIn_app (goodIn_of _ (by decide +kernel)) ggX12_looksAt_X12_bad
set_option maxRecDepth 20000 in
theorem ggX12_looksAt_X12_seek : GoodIn wsX12_looksAt wsX12_seek := goodIn_r _ [20, 21, 8, 22, 23, 24, 25, 26, 27, 28, 29, 30, 31, 32, 33, 34, 35, 36, 37, 38, 39, 40, 41, 42, 43, 44, 45, 46, 47, 48, 49, 50, 51, 52, 53, 54, 55, 56, 57, 58, 59, 60, 61, 62, 63, 64, 65, 66, 67] (by decide +kernel) (by decide +kernel)
set_option maxRecDepth 20000 in
theorem gX12_looksAt_X12_seek : GoodIn wsX12_looksAt (wsV RX12 199 RX12 yX12_seek wsX12_seek) := goodIn_app (goodIn_of _ (by decide +kernel)) ggX12_looksAt_X12_seek
theorem dX12_looksAt_0 : decode cX12_looksAt 0 = .ok (.aload_n 0, 1) := by decide +kernel
theorem dX12_looksAt_1 : decode cX12_looksAt 1 = .ok (.invokevirtual 195, 3) := by decide +kernel
theorem dX12_looksAt_4 : decode cX12_looksAt 4 = .ok (.ifCond .ne 9, 3) := by decide +kernel
theorem dX12_looksAt_7 : decode cX12_looksAt 7 = .ok (.aload_n 0, 1) := by decide +kernel
theorem dX12_looksAt_8 : decode cX12_looksAt 8 = .ok (.iconst 1, 1) := by decide +kernel
theorem dX12_looksAt_9 : decode cX12_looksAt 9 = .ok (.invokevirtual 178, 3) := by decide +kernel
theorem dX12_looksAt_12 : decode cX12_looksAt 12 = .ok (.ireturn, 1) := by decide +kernel
theorem dX12_looksAt_13 : decode cX12_looksAt 13 = .ok (.aload_n 0, 1) := by decide +kernel
theorem dX12_looksAt_14 : decode cX12_looksAt 14 = .ok (.aload_n 0, 1) := by decide +kernel
theorem dX12_looksAt_15 : decode cX12_looksAt 15 = .ok (.iload_n 1, 1) := by decide +kernel
theorem dX12_looksAt_16 : decode cX12_looksAt 16 = .ok (.iload_n 2, 1) := by decide +kernel
theorem dX12_looksAt_17 : decode cX12_looksAt 17 = .ok (.invokevirtual 199, 3) := by decide +kernel
theorem dX12_looksAt_20 : decode cX12_looksAt 20 = .ok (.putfield 188, 3) := by decide +kernel
theorem dX12_looksAt_23 : decode cX12_looksAt 23 = .ok (.aload_n 0, 1) := by decide +kernel
theorem dX12_looksAt_24 : decode cX12_looksAt 24 = .ok (.getfield 188, 3) := by decide +kernel
theorem dX12_looksAt_27 : decode cX12_looksAt 27 = .ok (.ifCond .ge 11, 3) := by decide +kernel
theorem dX12_looksAt_30 : decode cX12_looksAt 30 = .ok (.aload_n 0, 1) := by decide +kernel
theorem dX12_looksAt_31 : decode cX12_looksAt 31 = .ok (.iconst 3, 1) := by decide +kernel
theorem dX12_looksAt_32 : decode cX12_looksAt 32 = .ok (.invokevirtual 178, 3) := by decide +kernel
theorem dX12_looksAt_35 : decode cX12_looksAt 35 = .ok (.ifCond .eq 7, 3) := by decide +kernel
theorem dX12_looksAt_38 : decode cX12_looksAt 38 = .ok (.iconst 1, 1) := by decide +kernel
theorem dX12_looksAt_39 : decode cX12_looksAt 39 = .ok (.goto 4, 3) := by decide +kernel
theorem dX12_looksAt_42 : decode cX12_looksAt 42 = .ok (.iconst 0, 1) := by decide +kernel
theorem dX12_looksAt_43 : decode cX12_looksAt 43 = .ok (.ireturn, 1) := by decide +kernel
set_option maxRecDepth 20000 in
theorem ggX12_takesName_X12_looksAt : GoodIn wsX12_takesName wsX12_looksAt := goodIn_r _ [5, 6, 7, 8, 9, 4, 10, 11, 12, 13, 14, 15, 16, 17, 18, 19, 20, 21, 22, 23, 24, 25, 46, 47, 48, 49, 50, 51, 52, 53, 54, 55, 56, 57, 58, 59, 60, 61, 62, 63, 64, 65, 66, 67, 68, 69, 70, 71, 72, 73, 74, 75, 76, 77, 78, 79, 80, 81, 82, 83, 84, 85, 86, 87, 88, 89, 90, 91] (by decide +kernel) (by decide +kernel)
set_option maxRecDepth 20000 in
theorem gX12_takesName_X12_looksAt : GoodIn wsX12_takesName (wsV RX12 203 RX12 yX12_looksAt wsX12_looksAt) := goodIn_app (goodIn_of _ (by decide +kernel)) ggX12_takesName_X12_looksAt
set_option maxRecDepth 20000 in
theorem ggX12_takesName_X12_next : GoodIn wsX12_takesName wsX12_next := goodIn_r _ [29, 30, 19, 31, 32, 33, 11, 34, 12, 35, 36, 37, 4, 38, 39, 40, 41, 42, 43, 44, 45, 46, 47, 48, 49, 50, 51, 52, 53, 54, 55, 56, 57, 58, 59, 60, 61, 62, 63, 64, 65, 66, 67, 68, 69, 70, 71, 72, 73, 74, 75, 76, 77, 78, 79, 80, 81, 82, 83, 84, 85, 86, 87, 88, 89, 90, 91] (by decide +kernel) (by decide +kernel)
set_option maxRecDepth 20000 in
theorem gX12_takesName_X12_next : GoodIn wsX12_takesName (wsV RX12 181 RX12 yX12_next wsX12_next) := goodIn_app (goodIn_of _ (by decide +kernel)) ggX12_takesName_X12_next
theorem dX12_takesName_0 : decode cX12_takesName 0 = .ok (.aload_n 0, 1) := by decide +kernel
theorem dX12_takesName_1 : decode cX12_takesName 1 = .ok (.iload_n 1, 1) := by decide +kernel
theorem dX12_takesName_2 : decode cX12_takesName 2 = .ok (.iload_n 2, 1) := by decide +kernel
theorem dX12_takesName_3 : decode cX12_takesName 3 = .ok (.invokevirtual 203, 3) := by decide +kernel
theorem dX12_takesName_6 : decode cX12_takesName 6 = .ok (.ifCond .ne 5, 3) := by decide +kernel
theorem dX12_takesName_9 : decode cX12_takesName 9 = .ok (.iconst 0, 1) := by decide +kernel
theorem dX12_takesName_10 : decode cX12_takesName 10 = .ok (.ireturn, 1) := by decide +kernel
theorem dX12_takesName_11 : decode cX12_takesName 11 = .ok (.aload_n 0, 1) := by decide +kernel
theorem dX12_takesName_12 : decode cX12_takesName 12 = .ok (.invokevirtual 181, 3) := by decide +kernel
theorem dX12_takesName_15 : decode cX12_takesName 15 = .ok (.iconst 1, 1) := by decide +kernel
theorem dX12_takesName_16 : decode cX12_takesName 16 = .ok (.ireturn, 1) := by decide +kernel
set_option maxRecDepth 20000 in
theorem ggX12_readLine_X12_isWord : GoodIn wsX12_readLine wsX12_isWord := goodIn_r _ [11, 12, 13, 99, 100, 101, 102, 103, 104, 105, 106, 107, 108, 109, 110, 111, 112, 113, 114, 115, 116, 117, 118, 119, 120, 121, 122, 123, 124, 125, 126, 127, 128, 129, 130, 131, 132, 133, 134, 135, 136, 137, 138, 139, 140, 141, 142, 143, 144] (by decide +kernel) (by decide +kernel)
set_option maxRecDepth 20000 in
theorem gX12_readLine_X12_isWord : GoodIn wsX12_readLine (wsV RX12 206 RX12 yX12_isWord wsX12_isWord) := goodIn_app (goodIn_of _ (by decide +kernel)) ggX12_readLine_X12_isWord
set_option maxRecDepth 20000 in
theorem ggX12_readLine_X12_readClock : GoodIn wsX12_readLine wsX12_readClock := goodIn_r _ [17, 18, 19, 20, 21, 22, 23, 24, 25, 26, 10, 27, 28, 29, 30, 31, 32, 33, 34, 35, 36, 37, 38, 12, 39, 13, 40, 41, 42, 43, 44, 45, 46, 47, 48, 49, 50, 51, 52, 53, 54, 55, 56, 57, 58, 59, 60, 61, 62, 63, 64, 65, 66, 67, 68, 69, 70, 71, 72, 73, 74, 75, 7, 8, 9, 11, 99, 100, 101, 102, 103, 104, 105, 106, 107, 108, 109, 110, 111, 112, 113, 114, 115, 116, 117, 118, 119, 120, 121, 122, 123, 124, 125, 126, 127, 128, 129, 130, 131, 132, 133, 134, 135, 136, 137, 138, 139, 140, 141, 142, 143, 144] (by decide +kernel) (by decide +kernel)
set_option maxRecDepth 20000 in
theorem gX12_readLine_X12_readClock : GoodIn wsX12_readLine (wsV RX12 210 RX12 yX12_readClock wsX12_readClock) := goodIn_app (goodIn_of _ (by decide +kernel)) ggX12_readLine_X12_readClock
set_option maxRecDepth 20000 in
theorem ggX12_readLine_X12_readMaster : GoodIn wsX12_readLine wsX12_readMaster := goodIn_r _ [79, 18, 21, 24, 25, 26, 10, 27, 28, 29, 30, 31, 32, 33, 34, 35, 36, 37, 38, 12, 39, 13, 40, 41, 42, 43, 44, 45, 46, 47, 48, 49, 50, 51, 52, 53, 54, 55, 56, 57, 58, 59, 60, 61, 62, 63, 64, 65, 66, 67, 68, 69, 70, 71, 72, 73, 74, 75, 80, 81, 82, 83, 84, 85, 86, 87, 99, 100, 101, 102, 103, 104, 105, 106, 107, 108, 109, 110, 111, 112, 113, 114, 115, 116, 117, 118, 119, 120, 121, 122, 123, 124, 125, 126, 127, 128, 129, 130, 131, 132, 133, 134, 135, 136, 137, 138, 139, 140, 141, 142, 143, 144] (by decide +kernel) (by decide +kernel)
set_option maxRecDepth 20000 in
theorem gX12_readLine_X12_readMaster : GoodIn wsX12_readLine (wsV RX12 213 RX12 yX12_readMaster wsX12_readMaster) := goodIn_app (goodIn_of _ (by decide +kernel)) ggX12_readLine_X12_readMaster
set_option maxRecDepth 20000 in
theorem ggX12_readLine_X12_readMeet : GoodIn wsX12_readLine wsX12_readMeet := goodIn_r _ [91, 18, 24, 25, 26, 10, 27, 28, 29, 30, 31, 32, 33, 34, 35, 36, 37, 38, 12, 39, 13, 40, 41, 42, 43, 44, 45, 46, 47, 48, 49, 50, 51, 52, 53, 54, 55, 56, 57, 58, 59, 60, 61, 62, 63, 64, 65, 66, 67, 68, 21, 69, 70, 71, 72, 73, 74, 75, 99, 100, 101, 102, 103, 104, 105, 106, 107, 108, 109, 110, 111, 112, 113, 114, 115, 116, 117, 118, 119, 120, 121, 122, 123, 124, 125, 126, 127, 128, 129, 130, 131, 132, 133, 134, 135, 136, 137, 138, 139, 140, 141, 142, 143, 144] (by decide +kernel) (by decide +kernel)
set_option maxRecDepth 20000 in
theorem gX12_readLine_X12_readMeet : GoodIn wsX12_readLine (wsV RX12 216 RX12 yX12_readMeet wsX12_readMeet) := goodIn_app (goodIn_of _ (by decide +kernel)) ggX12_readLine_X12_readMeet
set_option maxRecDepth 20000 in
theorem ggX12_readLine_X12_readComes : GoodIn wsX12_readLine wsX12_readComes := goodIn_r _ [95, 18, 21, 31, 32, 33, 10, 34, 35, 29, 36, 37, 38, 12, 39, 13, 40, 41, 42, 43, 44, 45, 46, 47, 48, 49, 50, 80, 81, 82, 83, 84, 85, 86, 87, 56, 57, 58, 59, 60, 24, 25, 26, 27, 28, 30, 61, 62, 63, 64, 55, 96, 97, 98, 99, 100, 101, 102, 103, 104, 105, 106, 107, 108, 109, 110, 111, 112, 113, 114, 115, 116, 117, 118, 119, 120, 121, 122, 123, 124, 125, 126, 127, 128, 129, 130, 131, 132, 133, 134, 135, 136, 137, 138, 139, 140, 141, 142, 143, 144] (by decide +kernel) (by decide +kernel)
set_option maxRecDepth 20000 in
theorem gX12_readLine_X12_readComes : GoodIn wsX12_readLine (wsV RX12 219 RX12 yX12_readComes wsX12_readComes) := goodIn_app (goodIn_of _ (by decide +kernel)) ggX12_readLine_X12_readComes
set_option maxRecDepth 20000 in
theorem ggX12_readLine_X12_bad : GoodIn wsX12_readLine wsX12_bad := goodIn_r _ [27, 28, 29, 30, 99, 100, 101, 102, 103, 104, 105, 106, 107, 108, 109, 110, 111, 112, 113, 114, 115, 116, 117, 118, 119, 120, 121, 122, 123, 124, 125, 126, 127, 128, 129, 130, 131, 132, 133, 134, 135, 136, 137, 138, 139, 140, 141, 142, 143, 144] (by decide +kernel) (by decide +kernel)
set_option maxRecDepth 20000 in
theorem gX12_readLine_X12_bad : GoodIn wsX12_readLine (wsV RX12 178 RX12 yX12_bad wsX12_bad) := goodIn_app (goodIn_of _ (by decide +kernel)) ggX12_readLine_X12_bad
set_option maxRecDepth 20000 in
theorem ggX12_readLine_X12_next : GoodIn wsX12_readLine wsX12_next := goodIn_r _ [34, 35, 29, 36, 37, 38, 12, 39, 13, 40, 41, 42, 10, 43, 44, 45, 46, 47, 48, 49, 50, 99, 100, 101, 102, 103, 104, 105, 106, 107, 108, 109, 110, 111, 112, 113, 114, 115, 116, 117, 118, 119, 120, 121, 122, 123, 124, 125, 126, 127, 128, 129, 130, 131, 132, 133, 134, 135, 136, 137, 138, 139, 140, 141, 142, 143, 144] (by decide +kernel) (by decide +kernel)
set_option maxRecDepth 20000 in
theorem gX12_readLine_X12_next : GoodIn wsX12_readLine (wsV RX12 181 RX12 yX12_next wsX12_next) := goodIn_app (goodIn_of _ (by decide +kernel)) ggX12_readLine_X12_next
set_option maxRecDepth 20000 in
theorem ggX12_readLine_X12_puts : GoodIn wsX12_readLine wsX12_puts := goodIn_r _ [68, 18, 21, 69, 70, 71, 10, 72, 12, 39, 24, 25, 26, 27, 28, 29, 30, 73, 74, 75, 31, 32, 33, 34, 35, 36, 37, 38, 13, 40, 41, 42, 43, 44, 45, 46, 47, 48, 49, 50, 99, 100, 101, 102, 103, 104, 105, 106, 107, 108, 109, 110, 111, 112, 113, 114, 115, 116, 117, 118, 119, 120, 121, 122, 123, 124, 125, 126, 127, 128, 129, 130, 131, 132, 133, 134, 135, 136, 137, 138, 139, 140, 141, 142, 143, 144] (by decide +kernel) (by decide +kernel)
set_option maxRecDepth 20000 in
theorem gX12_readLine_X12_puts : GoodIn wsX12_readLine (wsV RX12 226 RX12 yX12_puts wsX12_puts) := goodIn_app (goodIn_of _ (by decide +kernel)) ggX12_readLine_X12_puts
theorem dX12_readLine_0 : decode cX12_readLine 0 = .ok (.aload_n 0, 1) := by decide +kernel
theorem dX12_readLine_1 : decode cX12_readLine 1 = .ok (.ldc2_w 87, 3) := by decide +kernel
theorem dX12_readLine_4 : decode cX12_readLine 4 = .ok (.invokevirtual 206, 3) := by decide +kernel
theorem dX12_readLine_7 : decode cX12_readLine 7 = .ok (.ifCond .eq 8, 3) := by decide +kernel
theorem dX12_readLine_10 : decode cX12_readLine 10 = .ok (.aload_n 0, 1) := by decide +kernel
theorem dX12_readLine_11 : decode cX12_readLine 11 = .ok (.invokevirtual 210, 3) := by decide +kernel
theorem dX12_readLine_14 : decode cX12_readLine 14 = .ok (.ireturn, 1) := by decide +kernel
theorem dX12_readLine_15 : decode cX12_readLine 15 = .ok (.aload_n 0, 1) := by decide +kernel
theorem dX12_readLine_16 : decode cX12_readLine 16 = .ok (.ldc2_w 97, 3) := by decide +kernel
theorem dX12_readLine_19 : decode cX12_readLine 19 = .ok (.invokevirtual 206, 3) := by decide +kernel
theorem dX12_readLine_22 : decode cX12_readLine 22 = .ok (.ifCond .eq 8, 3) := by decide +kernel
theorem dX12_readLine_25 : decode cX12_readLine 25 = .ok (.aload_n 0, 1) := by decide +kernel
theorem dX12_readLine_26 : decode cX12_readLine 26 = .ok (.invokevirtual 213, 3) := by decide +kernel
theorem dX12_readLine_29 : decode cX12_readLine 29 = .ok (.ireturn, 1) := by decide +kernel
theorem dX12_readLine_30 : decode cX12_readLine 30 = .ok (.aload_n 0, 1) := by decide +kernel
theorem dX12_readLine_31 : decode cX12_readLine 31 = .ok (.ldc2_w 99, 3) := by decide +kernel
theorem dX12_readLine_34 : decode cX12_readLine 34 = .ok (.invokevirtual 206, 3) := by decide +kernel
theorem dX12_readLine_37 : decode cX12_readLine 37 = .ok (.ifCond .eq 8, 3) := by decide +kernel
theorem dX12_readLine_40 : decode cX12_readLine 40 = .ok (.aload_n 0, 1) := by decide +kernel
theorem dX12_readLine_41 : decode cX12_readLine 41 = .ok (.invokevirtual 216, 3) := by decide +kernel
theorem dX12_readLine_44 : decode cX12_readLine 44 = .ok (.ireturn, 1) := by decide +kernel
theorem dX12_readLine_45 : decode cX12_readLine 45 = .ok (.aload_n 0, 1) := by decide +kernel
theorem dX12_readLine_46 : decode cX12_readLine 46 = .ok (.ldc2_w 101, 3) := by decide +kernel
theorem dX12_readLine_49 : decode cX12_readLine 49 = .ok (.invokevirtual 206, 3) := by decide +kernel
theorem dX12_readLine_52 : decode cX12_readLine 52 = .ok (.ifCond .eq 8, 3) := by decide +kernel
theorem dX12_readLine_55 : decode cX12_readLine 55 = .ok (.aload_n 0, 1) := by decide +kernel
theorem dX12_readLine_56 : decode cX12_readLine 56 = .ok (.invokevirtual 219, 3) := by decide +kernel
theorem dX12_readLine_59 : decode cX12_readLine 59 = .ok (.ireturn, 1) := by decide +kernel
theorem dX12_readLine_60 : decode cX12_readLine 60 = .ok (.aload_n 0, 1) := by decide +kernel
theorem dX12_readLine_61 : decode cX12_readLine 61 = .ok (.ldc2_w 103, 3) := by decide +kernel
theorem dX12_readLine_64 : decode cX12_readLine 64 = .ok (.invokevirtual 206, 3) := by decide +kernel
theorem dX12_readLine_67 : decode cX12_readLine 67 = .ok (.ifCond .ne 9, 3) := by decide +kernel
theorem dX12_readLine_70 : decode cX12_readLine 70 = .ok (.aload_n 0, 1) := by decide +kernel
theorem dX12_readLine_71 : decode cX12_readLine 71 = .ok (.iconst 1, 1) := by decide +kernel
theorem dX12_readLine_72 : decode cX12_readLine 72 = .ok (.invokevirtual 178, 3) := by decide +kernel
theorem dX12_readLine_75 : decode cX12_readLine 75 = .ok (.ireturn, 1) := by decide +kernel
theorem dX12_readLine_76 : decode cX12_readLine 76 = .ok (.aload_n 0, 1) := by decide +kernel
theorem dX12_readLine_77 : decode cX12_readLine 77 = .ok (.getfield 222, 3) := by decide +kernel
theorem dX12_readLine_80 : decode cX12_readLine 80 = .ok (.ifCond .eq 9, 3) := by decide +kernel
theorem dX12_readLine_83 : decode cX12_readLine 83 = .ok (.aload_n 0, 1) := by decide +kernel
theorem dX12_readLine_84 : decode cX12_readLine 84 = .ok (.iconst 3, 1) := by decide +kernel
theorem dX12_readLine_85 : decode cX12_readLine 85 = .ok (.invokevirtual 178, 3) := by decide +kernel
theorem dX12_readLine_88 : decode cX12_readLine 88 = .ok (.ireturn, 1) := by decide +kernel
theorem dX12_readLine_89 : decode cX12_readLine 89 = .ok (.aload_n 0, 1) := by decide +kernel
theorem dX12_readLine_90 : decode cX12_readLine 90 = .ok (.iconst 1, 1) := by decide +kernel
theorem dX12_readLine_91 : decode cX12_readLine 91 = .ok (.putfield 222, 3) := by decide +kernel
theorem dX12_readLine_94 : decode cX12_readLine 94 = .ok (.aload_n 0, 1) := by decide +kernel
theorem dX12_readLine_95 : decode cX12_readLine 95 = .ok (.invokevirtual 181, 3) := by decide +kernel
theorem dX12_readLine_98 : decode cX12_readLine 98 = .ok (.aload_n 0, 1) := by decide +kernel
theorem dX12_readLine_99 : decode cX12_readLine 99 = .ok (.iconst 3, 1) := by decide +kernel
theorem dX12_readLine_100 : decode cX12_readLine 100 = .ok (.iconst 0, 1) := by decide +kernel
theorem dX12_readLine_101 : decode cX12_readLine 101 = .ok (.bipush 99, 2) := by decide +kernel
theorem dX12_readLine_103 : decode cX12_readLine 103 = .ok (.invokevirtual 226, 3) := by decide +kernel
theorem dX12_readLine_106 : decode cX12_readLine 106 = .ok (.ireturn, 1) := by decide +kernel
set_option maxRecDepth 20000 in
theorem ggX12_readClock_X12_bad : GoodIn wsX12_readClock wsX12_bad := goodIn_r _ [11, 12, 13, 14, 66, 67, 68, 69, 70, 71, 72, 73, 74, 75, 76, 77, 78, 79, 80, 81, 82, 83, 84, 85, 86, 87, 88, 89, 90, 91, 92, 93, 94, 95, 96, 97, 98, 99, 100, 101, 102, 103, 104, 105, 106, 107, 108, 109, 110, 111] (by decide +kernel) (by decide +kernel)
set_option maxRecDepth 20000 in
theorem gX12_readClock_X12_bad : GoodIn wsX12_readClock (wsV RX12 178 RX12 yX12_bad wsX12_bad) := goodIn_app (goodIn_of _ (by decide +kernel)) ggX12_readClock_X12_bad
set_option maxRecDepth 20000 in
theorem ggX12_readClock_X12_next : GoodIn wsX12_readClock wsX12_next := goodIn_r _ [18, 19, 13, 20, 21, 22, 23, 24, 25, 26, 27, 28, 10, 29, 30, 31, 32, 33, 34, 35, 36, 66, 67, 68, 69, 70, 71, 72, 73, 74, 75, 76, 77, 78, 79, 80, 81, 82, 83, 84, 85, 86, 87, 88, 89, 90, 91, 92, 93, 94, 95, 96, 97, 98, 99, 100, 101, 102, 103, 104, 105, 106, 107, 108, 109, 110, 111] (by decide +kernel) (by decide +kernel)
set_option maxRecDepth 20000 in
theorem gX12_readClock_X12_next : GoodIn wsX12_readClock (wsV RX12 181 RX12 yX12_next wsX12_next) := goodIn_app (goodIn_of _ (by decide +kernel)) ggX12_readClock_X12_next
set_option maxRecDepth 20000 in
theorem ggX12_readClock_X12_fresh : GoodIn wsX12_readClock wsX12_fresh := goodIn_r _ [40, 1, 41, 25, 42, 43, 44, 10, 45, 23, 46, 7, 8, 9, 11, 12, 13, 14, 47, 48, 49, 50, 15, 16, 17, 18, 19, 20, 21, 22, 24, 26, 27, 28, 29, 30, 31, 32, 33, 34, 35, 36, 66, 67, 68, 69, 70, 71, 72, 73, 74, 75, 76, 77, 78, 79, 80, 81, 82, 83, 84, 85, 86, 87, 88, 89, 90, 91, 92, 93, 94, 95, 96, 97, 98, 99, 100, 101, 102, 103, 104, 105, 106, 107, 108, 109, 110, 111] (by decide +kernel) (by decide +kernel)
set_option maxRecDepth 20000 in
theorem gX12_readClock_X12_fresh : GoodIn wsX12_readClock (wsV RX12 229 RX12 yX12_fresh wsX12_fresh) := goodIn_app (goodIn_of _ (by decide +kernel)) ggX12_readClock_X12_fresh
set_option maxRecDepth 20000 in
theorem ggX12_readClock_X12_puts : GoodIn wsX12_readClock wsX12_puts := goodIn_r _ [54, 1, 4, 55, 56, 57, 10, 58, 23, 24, 7, 8, 9, 11, 12, 13, 14, 59, 60, 61, 15, 16, 17, 18, 19, 20, 21, 22, 25, 26, 27, 28, 29, 30, 31, 32, 33, 34, 35, 36, 66, 67, 68, 69, 70, 71, 72, 73, 74, 75, 76, 77, 78, 79, 80, 81, 82, 83, 84, 85, 86, 87, 88, 89, 90, 91, 92, 93, 94, 95, 96, 97, 98, 99, 100, 101, 102, 103, 104, 105, 106, 107, 108, 109, 110, 111] (by decide +kernel) (by decide +kernel)
set_option maxRecDepth 20000 in
theorem gX12_readClock_X12_puts : GoodIn wsX12_readClock (wsV RX12 226 RX12 yX12_puts wsX12_puts) := goodIn_app (goodIn_of _ (by decide +kernel)) ggX12_readClock_X12_puts
set_option maxRecDepth 20000 in
theorem ggX12_readClock_X12_isWord : GoodIn wsX12_readClock wsX12_isWord := goodIn_r _ [65, 23, 25, 66, 67, 68, 69, 70, 71, 72, 73, 74, 75, 76, 77, 78, 79, 80, 81, 82, 83, 84, 85, 86, 87, 88, 89, 90, 91, 92, 93, 94, 95, 96, 97, 98, 99, 100, 101, 102, 103, 104, 105, 106, 107, 108, 109, 110, 111] (by decide +kernel) (by decide +kernel)
set_option maxRecDepth 20000 in
theorem gX12_readClock_X12_isWord : GoodIn wsX12_readClock (wsV RX12 206 RX12 yX12_isWord wsX12_isWord) := goodIn_app (goodIn_of _ (by decide +kernel)) ggX12_readClock_X12_isWord
set_option maxRecDepth 20000 in
theorem ggX12_readClock_X12_takes : GoodIn wsX12_readClock wsX12_takes := goodIn_r _ [58, 23, 24, 4, 7, 8, 9, 10, 11, 12, 13, 14, 59, 60, 61, 15, 16, 17, 18, 19, 20, 21, 22, 25, 26, 27, 28, 29, 30, 31, 32, 33, 34, 35, 36, 66, 67, 68, 69, 70, 71, 72, 73, 74, 75, 76, 77, 78, 79, 80, 81, 82, 83, 84, 85, 86, 87, 88, 89, 90, 91, 92, 93, 94, 95, 96, 97, 98, 99, 100, 101, 102, 103, 104, 105, 106, 107, 108, 109, 110, 111] (by decide +kernel) (by decide +kernel)
set_option maxRecDepth 20000 in
theorem gX12_readClock_X12_takes : GoodIn wsX12_readClock (wsV RX12 191 RX12 yX12_takes wsX12_takes) := goodIn_app (goodIn_of _ (by decide +kernel)) ggX12_readClock_X12_takes
theorem dX12_readClock_0 : decode cX12_readClock 0 = .ok (.aload_n 0, 1) := by decide +kernel
theorem dX12_readClock_1 : decode cX12_readClock 1 = .ok (.getfield 37, 3) := by decide +kernel
theorem dX12_readClock_4 : decode cX12_readClock 4 = .ok (.iconst 0, 1) := by decide +kernel
theorem dX12_readClock_5 : decode cX12_readClock 5 = .ok (.iaload, 1) := by decide +kernel
theorem dX12_readClock_6 : decode cX12_readClock 6 = .ok (.istore_n 1, 1) := by decide +kernel
theorem dX12_readClock_7 : decode cX12_readClock 7 = .ok (.iload_n 1, 1) := by decide +kernel
theorem dX12_readClock_8 : decode cX12_readClock 8 = .ok (.bipush 6, 2) := by decide +kernel
theorem dX12_readClock_10 : decode cX12_readClock 10 = .ok (.if_icmp .ne 9, 3) := by decide +kernel
theorem dX12_readClock_13 : decode cX12_readClock 13 = .ok (.aload_n 0, 1) := by decide +kernel
theorem dX12_readClock_14 : decode cX12_readClock 14 = .ok (.iconst 4, 1) := by decide +kernel
theorem dX12_readClock_15 : decode cX12_readClock 15 = .ok (.invokevirtual 178, 3) := by decide +kernel
theorem dX12_readClock_18 : decode cX12_readClock 18 = .ok (.ireturn, 1) := by decide +kernel
theorem dX12_readClock_19 : decode cX12_readClock 19 = .ok (.aload_n 0, 1) := by decide +kernel
theorem dX12_readClock_20 : decode cX12_readClock 20 = .ok (.invokevirtual 181, 3) := by decide +kernel
theorem dX12_readClock_23 : decode cX12_readClock 23 = .ok (.aload_n 0, 1) := by decide +kernel
theorem dX12_readClock_24 : decode cX12_readClock 24 = .ok (.bipush 18, 2) := by decide +kernel
theorem dX12_readClock_26 : decode cX12_readClock 26 = .ok (.iload_n 1, 1) := by decide +kernel
theorem dX12_readClock_27 : decode cX12_readClock 27 = .ok (.iadd, 1) := by decide +kernel
theorem dX12_readClock_28 : decode cX12_readClock 28 = .ok (.invokevirtual 229, 3) := by decide +kernel
theorem dX12_readClock_31 : decode cX12_readClock 31 = .ok (.ifCond .eq 16, 3) := by decide +kernel
theorem dX12_readClock_34 : decode cX12_readClock 34 = .ok (.aload_n 0, 1) := by decide +kernel
theorem dX12_readClock_35 : decode cX12_readClock 35 = .ok (.iconst 4, 1) := by decide +kernel
theorem dX12_readClock_36 : decode cX12_readClock 36 = .ok (.iload_n 1, 1) := by decide +kernel
theorem dX12_readClock_37 : decode cX12_readClock 37 = .ok (.iadd, 1) := by decide +kernel
theorem dX12_readClock_38 : decode cX12_readClock 38 = .ok (.iconst 0, 1) := by decide +kernel
theorem dX12_readClock_39 : decode cX12_readClock 39 = .ok (.bipush 30, 2) := by decide +kernel
theorem dX12_readClock_41 : decode cX12_readClock 41 = .ok (.invokevirtual 226, 3) := by decide +kernel
theorem dX12_readClock_44 : decode cX12_readClock 44 = .ok (.ifCond .ne 5, 3) := by decide +kernel
theorem dX12_readClock_47 : decode cX12_readClock 47 = .ok (.iconst 0, 1) := by decide +kernel
theorem dX12_readClock_48 : decode cX12_readClock 48 = .ok (.ireturn, 1) := by decide +kernel
theorem dX12_readClock_49 : decode cX12_readClock 49 = .ok (.aload_n 0, 1) := by decide +kernel
theorem dX12_readClock_50 : decode cX12_readClock 50 = .ok (.ldc2_w 91, 3) := by decide +kernel
theorem dX12_readClock_53 : decode cX12_readClock 53 = .ok (.invokevirtual 206, 3) := by decide +kernel
theorem dX12_readClock_56 : decode cX12_readClock 56 = .ok (.istore_n 2, 1) := by decide +kernel
theorem dX12_readClock_57 : decode cX12_readClock 57 = .ok (.iload_n 2, 1) := by decide +kernel
theorem dX12_readClock_58 : decode cX12_readClock 58 = .ok (.ifCond .ne 13, 3) := by decide +kernel
theorem dX12_readClock_61 : decode cX12_readClock 61 = .ok (.aload_n 0, 1) := by decide +kernel
theorem dX12_readClock_62 : decode cX12_readClock 62 = .ok (.ldc2_w 89, 3) := by decide +kernel
theorem dX12_readClock_65 : decode cX12_readClock 65 = .ok (.invokevirtual 206, 3) := by decide +kernel
theorem dX12_readClock_68 : decode cX12_readClock 68 = .ok (.ifCond .eq 44, 3) := by decide +kernel
theorem dX12_readClock_71 : decode cX12_readClock 71 = .ok (.aload_n 0, 1) := by decide +kernel
theorem dX12_readClock_72 : decode cX12_readClock 72 = .ok (.invokevirtual 181, 3) := by decide +kernel
theorem dX12_readClock_75 : decode cX12_readClock 75 = .ok (.aload_n 0, 1) := by decide +kernel
theorem dX12_readClock_76 : decode cX12_readClock 76 = .ok (.iconst 1, 1) := by decide +kernel
theorem dX12_readClock_77 : decode cX12_readClock 77 = .ok (.bipush 99, 2) := by decide +kernel
theorem dX12_readClock_79 : decode cX12_readClock 79 = .ok (.invokevirtual 191, 3) := by decide +kernel
theorem dX12_readClock_82 : decode cX12_readClock 82 = .ok (.ifCond .ne 5, 3) := by decide +kernel
theorem dX12_readClock_85 : decode cX12_readClock 85 = .ok (.iconst 0, 1) := by decide +kernel
theorem dX12_readClock_86 : decode cX12_readClock 86 = .ok (.ireturn, 1) := by decide +kernel
theorem dX12_readClock_87 : decode cX12_readClock 87 = .ok (.aload_n 0, 1) := by decide +kernel
theorem dX12_readClock_88 : decode cX12_readClock 88 = .ok (.getfield 37, 3) := by decide +kernel
theorem dX12_readClock_91 : decode cX12_readClock 91 = .ok (.bipush 10, 2) := by decide +kernel
theorem dX12_readClock_93 : decode cX12_readClock 93 = .ok (.iload_n 1, 1) := by decide +kernel
theorem dX12_readClock_94 : decode cX12_readClock 94 = .ok (.iadd, 1) := by decide +kernel
theorem dX12_readClock_95 : decode cX12_readClock 95 = .ok (.iload_n 2, 1) := by decide +kernel
theorem dX12_readClock_96 : decode cX12_readClock 96 = .ok (.ifCond .eq 11, 3) := by decide +kernel
theorem dX12_readClock_99 : decode cX12_readClock 99 = .ok (.aload_n 0, 1) := by decide +kernel
theorem dX12_readClock_100 : decode cX12_readClock 100 = .ok (.getfield 188, 3) := by decide +kernel
theorem dX12_readClock_103 : decode cX12_readClock 103 = .ok (.ineg, 1) := by decide +kernel
theorem dX12_readClock_104 : decode cX12_readClock 104 = .ok (.goto 7, 3) := by decide +kernel
theorem dX12_readClock_107 : decode cX12_readClock 107 = .ok (.aload_n 0, 1) := by decide +kernel
theorem dX12_readClock_108 : decode cX12_readClock 108 = .ok (.getfield 188, 3) := by decide +kernel
theorem dX12_readClock_111 : decode cX12_readClock 111 = .ok (.iastore, 1) := by decide +kernel
theorem dX12_readClock_112 : decode cX12_readClock 112 = .ok (.aload_n 0, 1) := by decide +kernel
theorem dX12_readClock_113 : decode cX12_readClock 113 = .ok (.ldc2_w 95, 3) := by decide +kernel
theorem dX12_readClock_116 : decode cX12_readClock 116 = .ok (.invokevirtual 206, 3) := by decide +kernel
theorem dX12_readClock_119 : decode cX12_readClock 119 = .ok (.istore_n 3, 1) := by decide +kernel
theorem dX12_readClock_120 : decode cX12_readClock 120 = .ok (.iload_n 3, 1) := by decide +kernel
theorem dX12_readClock_121 : decode cX12_readClock 121 = .ok (.ifCond .ne 13, 3) := by decide +kernel
theorem dX12_readClock_124 : decode cX12_readClock 124 = .ok (.aload_n 0, 1) := by decide +kernel
theorem dX12_readClock_125 : decode cX12_readClock 125 = .ok (.ldc2_w 93, 3) := by decide +kernel
theorem dX12_readClock_128 : decode cX12_readClock 128 = .ok (.invokevirtual 206, 3) := by decide +kernel
theorem dX12_readClock_131 : decode cX12_readClock 131 = .ok (.ifCond .eq 44, 3) := by decide +kernel
theorem dX12_readClock_134 : decode cX12_readClock 134 = .ok (.aload_n 0, 1) := by decide +kernel
theorem dX12_readClock_135 : decode cX12_readClock 135 = .ok (.invokevirtual 181, 3) := by decide +kernel
theorem dX12_readClock_138 : decode cX12_readClock 138 = .ok (.aload_n 0, 1) := by decide +kernel
theorem dX12_readClock_139 : decode cX12_readClock 139 = .ok (.iconst 1, 1) := by decide +kernel
theorem dX12_readClock_140 : decode cX12_readClock 140 = .ok (.bipush 9, 2) := by decide +kernel
theorem dX12_readClock_142 : decode cX12_readClock 142 = .ok (.invokevirtual 191, 3) := by decide +kernel
theorem dX12_readClock_145 : decode cX12_readClock 145 = .ok (.ifCond .ne 5, 3) := by decide +kernel
theorem dX12_readClock_148 : decode cX12_readClock 148 = .ok (.iconst 0, 1) := by decide +kernel
theorem dX12_readClock_149 : decode cX12_readClock 149 = .ok (.ireturn, 1) := by decide +kernel
theorem dX12_readClock_150 : decode cX12_readClock 150 = .ok (.aload_n 0, 1) := by decide +kernel
theorem dX12_readClock_151 : decode cX12_readClock 151 = .ok (.getfield 37, 3) := by decide +kernel
theorem dX12_readClock_154 : decode cX12_readClock 154 = .ok (.bipush 16, 2) := by decide +kernel
theorem dX12_readClock_156 : decode cX12_readClock 156 = .ok (.iload_n 1, 1) := by decide +kernel
theorem dX12_readClock_157 : decode cX12_readClock 157 = .ok (.iadd, 1) := by decide +kernel
theorem dX12_readClock_158 : decode cX12_readClock 158 = .ok (.iload_n 3, 1) := by decide +kernel
theorem dX12_readClock_159 : decode cX12_readClock 159 = .ok (.ifCond .eq 11, 3) := by decide +kernel
theorem dX12_readClock_162 : decode cX12_readClock 162 = .ok (.aload_n 0, 1) := by decide +kernel
theorem dX12_readClock_163 : decode cX12_readClock 163 = .ok (.getfield 188, 3) := by decide +kernel
theorem dX12_readClock_166 : decode cX12_readClock 166 = .ok (.ineg, 1) := by decide +kernel
theorem dX12_readClock_167 : decode cX12_readClock 167 = .ok (.goto 7, 3) := by decide +kernel
theorem dX12_readClock_170 : decode cX12_readClock 170 = .ok (.aload_n 0, 1) := by decide +kernel
theorem dX12_readClock_171 : decode cX12_readClock 171 = .ok (.getfield 188, 3) := by decide +kernel
theorem dX12_readClock_174 : decode cX12_readClock 174 = .ok (.iastore, 1) := by decide +kernel
theorem dX12_readClock_175 : decode cX12_readClock 175 = .ok (.aload_n 0, 1) := by decide +kernel
theorem dX12_readClock_176 : decode cX12_readClock 176 = .ok (.getfield 37, 3) := by decide +kernel
theorem dX12_readClock_179 : decode cX12_readClock 179 = .ok (.iconst 0, 1) := by decide +kernel
theorem dX12_readClock_180 : decode cX12_readClock 180 = .ok (.dup2, 1) := by decide +kernel
theorem dX12_readClock_181 : decode cX12_readClock 181 = .ok (.iaload, 1) := by decide +kernel
theorem dX12_readClock_182 : decode cX12_readClock 182 = .ok (.iconst 1, 1) := by decide +kernel
theorem dX12_readClock_183 : decode cX12_readClock 183 = .ok (.iadd, 1) := by decide +kernel
theorem dX12_readClock_184 : decode cX12_readClock 184 = .ok (.iastore, 1) := by decide +kernel
theorem dX12_readClock_185 : decode cX12_readClock 185 = .ok (.iconst 1, 1) := by decide +kernel
theorem dX12_readClock_186 : decode cX12_readClock 186 = .ok (.ireturn, 1) := by decide +kernel
set_option maxRecDepth 20000 in
theorem ggX12_readMaster_X12_bad : GoodIn wsX12_readMaster wsX12_bad := goodIn_r _ [7, 8, 9, 10, 66, 67, 68, 69, 70, 71, 72, 73, 74, 75, 76, 77, 78, 79, 80, 81, 82, 83, 84, 85, 86, 87, 88, 89, 90, 91, 92, 93, 94, 95, 96, 97, 98, 99, 100, 101, 102, 103, 104, 105, 106, 107, 108, 109, 110, 111] (by decide +kernel) (by decide +kernel)
set_option maxRecDepth 20000 in
theorem gX12_readMaster_X12_bad : GoodIn wsX12_readMaster (wsV RX12 178 RX12 yX12_bad wsX12_bad) := goodIn_app (goodIn_of _ (by decide +kernel)) ggX12_readMaster_X12_bad
set_option maxRecDepth 20000 in
theorem ggX12_readMaster_X12_next : GoodIn wsX12_readMaster wsX12_next := goodIn_r _ [14, 15, 9, 16, 17, 18, 19, 20, 21, 22, 23, 24, 6, 25, 26, 27, 28, 29, 30, 31, 32, 66, 67, 68, 69, 70, 71, 72, 73, 74, 75, 76, 77, 78, 79, 80, 81, 82, 83, 84, 85, 86, 87, 88, 89, 90, 91, 92, 93, 94, 95, 96, 97, 98, 99, 100, 101, 102, 103, 104, 105, 106, 107, 108, 109, 110, 111] (by decide +kernel) (by decide +kernel)
set_option maxRecDepth 20000 in
theorem gX12_readMaster_X12_next : GoodIn wsX12_readMaster (wsV RX12 181 RX12 yX12_next wsX12_next) := goodIn_app (goodIn_of _ (by decide +kernel)) ggX12_readMaster_X12_next
set_option maxRecDepth 20000 in
theorem ggX12_readMaster_X12_fresh : GoodIn wsX12_readMaster wsX12_fresh := goodIn_r _ [36, 1, 37, 21, 38, 39, 40, 6, 41, 19, 42, 3, 4, 5, 7, 8, 9, 10, 43, 44, 45, 46, 11, 12, 13, 14, 15, 16, 17, 18, 20, 22, 23, 24, 25, 26, 27, 28, 29, 30, 31, 32, 66, 67, 68, 69, 70, 71, 72, 73, 74, 75, 76, 77, 78, 79, 80, 81, 82, 83, 84, 85, 86, 87, 88, 89, 90, 91, 92, 93, 94, 95, 96, 97, 98, 99, 100, 101, 102, 103, 104, 105, 106, 107, 108, 109, 110, 111] (by decide +kernel) (by decide +kernel)
set_option maxRecDepth 20000 in
theorem gX12_readMaster_X12_fresh : GoodIn wsX12_readMaster (wsV RX12 229 RX12 yX12_fresh wsX12_fresh) := goodIn_app (goodIn_of _ (by decide +kernel)) ggX12_readMaster_X12_fresh
set_option maxRecDepth 20000 in
theorem ggX12_readMaster_X12_puts : GoodIn wsX12_readMaster wsX12_puts := goodIn_r _ [50, 1, 2, 51, 52, 53, 6, 54, 19, 20, 3, 4, 5, 7, 8, 9, 10, 55, 56, 57, 11, 12, 13, 14, 15, 16, 17, 18, 21, 22, 23, 24, 25, 26, 27, 28, 29, 30, 31, 32, 66, 67, 68, 69, 70, 71, 72, 73, 74, 75, 76, 77, 78, 79, 80, 81, 82, 83, 84, 85, 86, 87, 88, 89, 90, 91, 92, 93, 94, 95, 96, 97, 98, 99, 100, 101, 102, 103, 104, 105, 106, 107, 108, 109, 110, 111] (by decide +kernel) (by decide +kernel)
set_option maxRecDepth 20000 in
theorem gX12_readMaster_X12_puts : GoodIn wsX12_readMaster (wsV RX12 226 RX12 yX12_puts wsX12_puts) := goodIn_app (goodIn_of _ (by decide +kernel)) ggX12_readMaster_X12_puts
set_option maxRecDepth 20000 in
theorem ggX12_readMaster_X12_takesName : GoodIn wsX12_readMaster wsX12_takesName := goodIn_r _ [61, 62, 63, 64, 6, 65, 2, 38, 39, 40, 41, 19, 21, 42, 3, 4, 5, 7, 8, 9, 10, 43, 44, 45, 46, 37, 11, 12, 13, 14, 15, 16, 17, 18, 20, 22, 23, 24, 25, 26, 27, 28, 29, 30, 31, 32, 66, 67, 68, 69, 70, 71, 72, 73, 74, 75, 76, 77, 78, 79, 80, 81, 82, 83, 84, 85, 86, 87, 88, 89, 90, 91, 92, 93, 94, 95, 96, 97, 98, 99, 100, 101, 102, 103, 104, 105, 106, 107, 108, 109, 110, 111] (by decide +kernel) (by decide +kernel)
set_option maxRecDepth 20000 in
theorem gX12_readMaster_X12_takesName : GoodIn wsX12_readMaster (wsV RX12 232 RX12 yX12_takesName wsX12_takesName) := goodIn_app (goodIn_of _ (by decide +kernel)) ggX12_readMaster_X12_takesName
theorem dX12_readMaster_0 : decode cX12_readMaster 0 = .ok (.aload_n 0, 1) := by decide +kernel
theorem dX12_readMaster_1 : decode cX12_readMaster 1 = .ok (.getfield 37, 3) := by decide +kernel
theorem dX12_readMaster_4 : decode cX12_readMaster 4 = .ok (.iconst 1, 1) := by decide +kernel
theorem dX12_readMaster_5 : decode cX12_readMaster 5 = .ok (.iaload, 1) := by decide +kernel
theorem dX12_readMaster_6 : decode cX12_readMaster 6 = .ok (.istore_n 1, 1) := by decide +kernel
theorem dX12_readMaster_7 : decode cX12_readMaster 7 = .ok (.iload_n 1, 1) := by decide +kernel
theorem dX12_readMaster_8 : decode cX12_readMaster 8 = .ok (.bipush 6, 2) := by decide +kernel
theorem dX12_readMaster_10 : decode cX12_readMaster 10 = .ok (.if_icmp .ne 9, 3) := by decide +kernel
theorem dX12_readMaster_13 : decode cX12_readMaster 13 = .ok (.aload_n 0, 1) := by decide +kernel
theorem dX12_readMaster_14 : decode cX12_readMaster 14 = .ok (.iconst 4, 1) := by decide +kernel
theorem dX12_readMaster_15 : decode cX12_readMaster 15 = .ok (.invokevirtual 178, 3) := by decide +kernel
theorem dX12_readMaster_18 : decode cX12_readMaster 18 = .ok (.ireturn, 1) := by decide +kernel
theorem dX12_readMaster_19 : decode cX12_readMaster 19 = .ok (.aload_n 0, 1) := by decide +kernel
theorem dX12_readMaster_20 : decode cX12_readMaster 20 = .ok (.invokevirtual 181, 3) := by decide +kernel
theorem dX12_readMaster_23 : decode cX12_readMaster 23 = .ok (.aload_n 0, 1) := by decide +kernel
theorem dX12_readMaster_24 : decode cX12_readMaster 24 = .ok (.bipush 24, 2) := by decide +kernel
theorem dX12_readMaster_26 : decode cX12_readMaster 26 = .ok (.iload_n 1, 1) := by decide +kernel
theorem dX12_readMaster_27 : decode cX12_readMaster 27 = .ok (.iadd, 1) := by decide +kernel
theorem dX12_readMaster_28 : decode cX12_readMaster 28 = .ok (.invokevirtual 229, 3) := by decide +kernel
theorem dX12_readMaster_31 : decode cX12_readMaster 31 = .ok (.ifCond .eq 46, 3) := by decide +kernel
theorem dX12_readMaster_34 : decode cX12_readMaster 34 = .ok (.aload_n 0, 1) := by decide +kernel
theorem dX12_readMaster_35 : decode cX12_readMaster 35 = .ok (.bipush 22, 2) := by decide +kernel
theorem dX12_readMaster_37 : decode cX12_readMaster 37 = .ok (.iload_n 1, 1) := by decide +kernel
theorem dX12_readMaster_38 : decode cX12_readMaster 38 = .ok (.iadd, 1) := by decide +kernel
theorem dX12_readMaster_39 : decode cX12_readMaster 39 = .ok (.iconst 0, 1) := by decide +kernel
theorem dX12_readMaster_40 : decode cX12_readMaster 40 = .ok (.bipush 30, 2) := by decide +kernel
theorem dX12_readMaster_42 : decode cX12_readMaster 42 = .ok (.invokevirtual 226, 3) := by decide +kernel
theorem dX12_readMaster_45 : decode cX12_readMaster 45 = .ok (.ifCond .eq 32, 3) := by decide +kernel
theorem dX12_readMaster_48 : decode cX12_readMaster 48 = .ok (.aload_n 0, 1) := by decide +kernel
theorem dX12_readMaster_49 : decode cX12_readMaster 49 = .ok (.bipush 28, 2) := by decide +kernel
theorem dX12_readMaster_51 : decode cX12_readMaster 51 = .ok (.iload_n 1, 1) := by decide +kernel
theorem dX12_readMaster_52 : decode cX12_readMaster 52 = .ok (.iadd, 1) := by decide +kernel
theorem dX12_readMaster_53 : decode cX12_readMaster 53 = .ok (.iconst 1, 1) := by decide +kernel
theorem dX12_readMaster_54 : decode cX12_readMaster 54 = .ok (.bipush 60, 2) := by decide +kernel
theorem dX12_readMaster_56 : decode cX12_readMaster 56 = .ok (.invokevirtual 226, 3) := by decide +kernel
theorem dX12_readMaster_59 : decode cX12_readMaster 59 = .ok (.ifCond .eq 18, 3) := by decide +kernel
theorem dX12_readMaster_62 : decode cX12_readMaster 62 = .ok (.aload_n 0, 1) := by decide +kernel
theorem dX12_readMaster_63 : decode cX12_readMaster 63 = .ok (.bipush 18, 2) := by decide +kernel
theorem dX12_readMaster_65 : decode cX12_readMaster 65 = .ok (.aload_n 0, 1) := by decide +kernel
theorem dX12_readMaster_66 : decode cX12_readMaster 66 = .ok (.getfield 37, 3) := by decide +kernel
theorem dX12_readMaster_69 : decode cX12_readMaster 69 = .ok (.iconst 0, 1) := by decide +kernel
theorem dX12_readMaster_70 : decode cX12_readMaster 70 = .ok (.iaload, 1) := by decide +kernel
theorem dX12_readMaster_71 : decode cX12_readMaster 71 = .ok (.invokevirtual 232, 3) := by decide +kernel
theorem dX12_readMaster_74 : decode cX12_readMaster 74 = .ok (.ifCond .ne 5, 3) := by decide +kernel
theorem dX12_readMaster_77 : decode cX12_readMaster 77 = .ok (.iconst 0, 1) := by decide +kernel
theorem dX12_readMaster_78 : decode cX12_readMaster 78 = .ok (.ireturn, 1) := by decide +kernel
theorem dX12_readMaster_79 : decode cX12_readMaster 79 = .ok (.aload_n 0, 1) := by decide +kernel
theorem dX12_readMaster_80 : decode cX12_readMaster 80 = .ok (.getfield 37, 3) := by decide +kernel
theorem dX12_readMaster_83 : decode cX12_readMaster 83 = .ok (.bipush 34, 2) := by decide +kernel
theorem dX12_readMaster_85 : decode cX12_readMaster 85 = .ok (.iload_n 1, 1) := by decide +kernel
theorem dX12_readMaster_86 : decode cX12_readMaster 86 = .ok (.iadd, 1) := by decide +kernel
theorem dX12_readMaster_87 : decode cX12_readMaster 87 = .ok (.aload_n 0, 1) := by decide +kernel
theorem dX12_readMaster_88 : decode cX12_readMaster 88 = .ok (.getfield 188, 3) := by decide +kernel
theorem dX12_readMaster_91 : decode cX12_readMaster 91 = .ok (.iastore, 1) := by decide +kernel
theorem dX12_readMaster_92 : decode cX12_readMaster 92 = .ok (.aload_n 0, 1) := by decide +kernel
theorem dX12_readMaster_93 : decode cX12_readMaster 93 = .ok (.getfield 37, 3) := by decide +kernel
theorem dX12_readMaster_96 : decode cX12_readMaster 96 = .ok (.iconst 1, 1) := by decide +kernel
theorem dX12_readMaster_97 : decode cX12_readMaster 97 = .ok (.dup2, 1) := by decide +kernel
theorem dX12_readMaster_98 : decode cX12_readMaster 98 = .ok (.iaload, 1) := by decide +kernel
theorem dX12_readMaster_99 : decode cX12_readMaster 99 = .ok (.iconst 1, 1) := by decide +kernel
theorem dX12_readMaster_100 : decode cX12_readMaster 100 = .ok (.iadd, 1) := by decide +kernel
theorem dX12_readMaster_101 : decode cX12_readMaster 101 = .ok (.iastore, 1) := by decide +kernel
theorem dX12_readMaster_102 : decode cX12_readMaster 102 = .ok (.iconst 1, 1) := by decide +kernel
theorem dX12_readMaster_103 : decode cX12_readMaster 103 = .ok (.ireturn, 1) := by decide +kernel
set_option maxRecDepth 20000 in
theorem ggX12_readMeet_X12_bad : GoodIn wsX12_readMeet wsX12_bad := goodIn_r _ [6, 7, 8, 9, 58, 59, 60, 61, 62, 63, 64, 65, 66, 67, 68, 69, 70, 71, 72, 73, 74, 75, 76, 77, 78, 79, 80, 81, 82, 83, 84, 85, 86, 87, 88, 89, 90, 91, 92, 93, 94, 95, 96, 97, 98, 99, 100, 101, 102, 103] (by decide +kernel) (by decide +kernel)
set_option maxRecDepth 20000 in
theorem gX12_readMeet_X12_bad : GoodIn wsX12_readMeet (wsV RX12 178 RX12 yX12_bad wsX12_bad) := goodIn_app (goodIn_of _ (by decide +kernel)) ggX12_readMeet_X12_bad
set_option maxRecDepth 20000 in
theorem ggX12_readMeet_X12_next : GoodIn wsX12_readMeet wsX12_next := goodIn_r _ [13, 14, 8, 15, 16, 17, 18, 19, 20, 21, 22, 23, 5, 24, 25, 26, 27, 28, 29, 30, 31, 58, 59, 60, 61, 62, 63, 64, 65, 66, 67, 68, 69, 70, 71, 72, 73, 74, 75, 76, 77, 78, 79, 80, 81, 82, 83, 84, 85, 86, 87, 88, 89, 90, 91, 92, 93, 94, 95, 96, 97, 98, 99, 100, 101, 102, 103] (by decide +kernel) (by decide +kernel)
set_option maxRecDepth 20000 in
theorem gX12_readMeet_X12_next : GoodIn wsX12_readMeet (wsV RX12 181 RX12 yX12_next wsX12_next) := goodIn_app (goodIn_of _ (by decide +kernel)) ggX12_readMeet_X12_next
set_option maxRecDepth 20000 in
theorem ggX12_readMeet_X12_fresh : GoodIn wsX12_readMeet wsX12_fresh := goodIn_r _ [35, 1, 36, 20, 37, 38, 39, 5, 40, 18, 41, 2, 3, 4, 6, 7, 8, 9, 42, 43, 44, 45, 10, 11, 12, 13, 14, 15, 16, 17, 19, 21, 22, 23, 24, 25, 26, 27, 28, 29, 30, 31, 58, 59, 60, 61, 62, 63, 64, 65, 66, 67, 68, 69, 70, 71, 72, 73, 74, 75, 76, 77, 78, 79, 80, 81, 82, 83, 84, 85, 86, 87, 88, 89, 90, 91, 92, 93, 94, 95, 96, 97, 98, 99, 100, 101, 102, 103] (by decide +kernel) (by decide +kernel)
set_option maxRecDepth 20000 in
theorem gX12_readMeet_X12_fresh : GoodIn wsX12_readMeet (wsV RX12 229 RX12 yX12_fresh wsX12_fresh) := goodIn_app (goodIn_of _ (by decide +kernel)) ggX12_readMeet_X12_fresh
set_option maxRecDepth 20000 in
theorem ggX12_readMeet_X12_puts : GoodIn wsX12_readMeet wsX12_puts := goodIn_r _ [49, 1, 50, 51, 52, 53, 5, 54, 18, 19, 2, 3, 4, 6, 7, 8, 9, 55, 56, 57, 10, 11, 12, 13, 14, 15, 16, 17, 20, 21, 22, 23, 24, 25, 26, 27, 28, 29, 30, 31, 58, 59, 60, 61, 62, 63, 64, 65, 66, 67, 68, 69, 70, 71, 72, 73, 74, 75, 76, 77, 78, 79, 80, 81, 82, 83, 84, 85, 86, 87, 88, 89, 90, 91, 92, 93, 94, 95, 96, 97, 98, 99, 100, 101, 102, 103] (by decide +kernel) (by decide +kernel)
set_option maxRecDepth 20000 in
theorem gX12_readMeet_X12_puts : GoodIn wsX12_readMeet (wsV RX12 226 RX12 yX12_puts wsX12_puts) := goodIn_app (goodIn_of _ (by decide +kernel)) ggX12_readMeet_X12_puts
theorem dX12_readMeet_0 : decode cX12_readMeet 0 = .ok (.aload_n 0, 1) := by decide +kernel
theorem dX12_readMeet_1 : decode cX12_readMeet 1 = .ok (.getfield 37, 3) := by decide +kernel
theorem dX12_readMeet_4 : decode cX12_readMeet 4 = .ok (.iconst 2, 1) := by decide +kernel
theorem dX12_readMeet_5 : decode cX12_readMeet 5 = .ok (.iaload, 1) := by decide +kernel
theorem dX12_readMeet_6 : decode cX12_readMeet 6 = .ok (.istore_n 1, 1) := by decide +kernel
theorem dX12_readMeet_7 : decode cX12_readMeet 7 = .ok (.iload_n 1, 1) := by decide +kernel
theorem dX12_readMeet_8 : decode cX12_readMeet 8 = .ok (.bipush 6, 2) := by decide +kernel
theorem dX12_readMeet_10 : decode cX12_readMeet 10 = .ok (.if_icmp .ne 9, 3) := by decide +kernel
theorem dX12_readMeet_13 : decode cX12_readMeet 13 = .ok (.aload_n 0, 1) := by decide +kernel
theorem dX12_readMeet_14 : decode cX12_readMeet 14 = .ok (.iconst 4, 1) := by decide +kernel
theorem dX12_readMeet_15 : decode cX12_readMeet 15 = .ok (.invokevirtual 178, 3) := by decide +kernel
theorem dX12_readMeet_18 : decode cX12_readMeet 18 = .ok (.ireturn, 1) := by decide +kernel
theorem dX12_readMeet_19 : decode cX12_readMeet 19 = .ok (.aload_n 0, 1) := by decide +kernel
theorem dX12_readMeet_20 : decode cX12_readMeet 20 = .ok (.invokevirtual 181, 3) := by decide +kernel
theorem dX12_readMeet_23 : decode cX12_readMeet 23 = .ok (.aload_n 0, 1) := by decide +kernel
theorem dX12_readMeet_24 : decode cX12_readMeet 24 = .ok (.bipush 30, 2) := by decide +kernel
theorem dX12_readMeet_26 : decode cX12_readMeet 26 = .ok (.iload_n 1, 1) := by decide +kernel
theorem dX12_readMeet_27 : decode cX12_readMeet 27 = .ok (.iadd, 1) := by decide +kernel
theorem dX12_readMeet_28 : decode cX12_readMeet 28 = .ok (.invokevirtual 229, 3) := by decide +kernel
theorem dX12_readMeet_31 : decode cX12_readMeet 31 = .ok (.ifCond .eq 18, 3) := by decide +kernel
theorem dX12_readMeet_34 : decode cX12_readMeet 34 = .ok (.aload_n 0, 1) := by decide +kernel
theorem dX12_readMeet_35 : decode cX12_readMeet 35 = .ok (.bipush 40, 2) := by decide +kernel
theorem dX12_readMeet_37 : decode cX12_readMeet 37 = .ok (.iload_n 1, 1) := by decide +kernel
theorem dX12_readMeet_38 : decode cX12_readMeet 38 = .ok (.iadd, 1) := by decide +kernel
theorem dX12_readMeet_39 : decode cX12_readMeet 39 = .ok (.iconst 0, 1) := by decide +kernel
theorem dX12_readMeet_40 : decode cX12_readMeet 40 = .ok (.sipush 999, 3) := by decide +kernel
theorem dX12_readMeet_43 : decode cX12_readMeet 43 = .ok (.invokevirtual 226, 3) := by decide +kernel
theorem dX12_readMeet_46 : decode cX12_readMeet 46 = .ok (.ifCond .ne 5, 3) := by decide +kernel
theorem dX12_readMeet_49 : decode cX12_readMeet 49 = .ok (.iconst 0, 1) := by decide +kernel
theorem dX12_readMeet_50 : decode cX12_readMeet 50 = .ok (.ireturn, 1) := by decide +kernel
theorem dX12_readMeet_51 : decode cX12_readMeet 51 = .ok (.aload_n 0, 1) := by decide +kernel
theorem dX12_readMeet_52 : decode cX12_readMeet 52 = .ok (.getfield 37, 3) := by decide +kernel
theorem dX12_readMeet_55 : decode cX12_readMeet 55 = .ok (.iconst 2, 1) := by decide +kernel
theorem dX12_readMeet_56 : decode cX12_readMeet 56 = .ok (.dup2, 1) := by decide +kernel
theorem dX12_readMeet_57 : decode cX12_readMeet 57 = .ok (.iaload, 1) := by decide +kernel
theorem dX12_readMeet_58 : decode cX12_readMeet 58 = .ok (.iconst 1, 1) := by decide +kernel
theorem dX12_readMeet_59 : decode cX12_readMeet 59 = .ok (.iadd, 1) := by decide +kernel
theorem dX12_readMeet_60 : decode cX12_readMeet 60 = .ok (.iastore, 1) := by decide +kernel
theorem dX12_readMeet_61 : decode cX12_readMeet 61 = .ok (.iconst 1, 1) := by decide +kernel
theorem dX12_readMeet_62 : decode cX12_readMeet 62 = .ok (.ireturn, 1) := by decide +kernel
set_option maxRecDepth 20000 in
theorem ggX12_readComes_X12_next : GoodIn wsX12_readComes wsX12_next := goodIn_r _ [7, 8, 9, 10, 11, 12, 13, 14, 15, 16, 17, 18, 6, 19, 20, 21, 22, 23, 24, 25, 26, 54, 55, 56, 57, 58, 59, 60, 61, 62, 63, 64, 65, 66, 67, 68, 69, 70, 71, 72, 73, 74, 75, 76, 77, 78, 79, 80, 81, 82, 83, 84, 85, 86, 87, 88, 89, 90, 91, 92, 93, 94, 95, 96, 97, 98, 99] (by decide +kernel) (by decide +kernel)
set_option maxRecDepth 20000 in
theorem gX12_readComes_X12_next : GoodIn wsX12_readComes (wsV RX12 181 RX12 yX12_next wsX12_next) := goodIn_app (goodIn_of _ (by decide +kernel)) ggX12_readComes_X12_next
set_option maxRecDepth 20000 in
theorem ggX12_readComes_X12_takesName : GoodIn wsX12_readComes wsX12_takesName := goodIn_r _ [30, 31, 32, 33, 6, 34, 2, 35, 36, 37, 38, 13, 15, 39, 40, 41, 42, 43, 44, 9, 45, 46, 47, 48, 49, 50, 3, 4, 5, 7, 8, 10, 11, 12, 14, 16, 17, 18, 19, 20, 21, 22, 23, 24, 25, 26, 54, 55, 56, 57, 58, 59, 60, 61, 62, 63, 64, 65, 66, 67, 68, 69, 70, 71, 72, 73, 74, 75, 76, 77, 78, 79, 80, 81, 82, 83, 84, 85, 86, 87, 88, 89, 90, 91, 92, 93, 94, 95, 96, 97, 98, 99] (by decide +kernel) (by decide +kernel)
set_option maxRecDepth 20000 in
theorem gX12_readComes_X12_takesName : GoodIn wsX12_readComes (wsV RX12 232 RX12 yX12_takesName wsX12_takesName) := goodIn_app (goodIn_of _ (by decide +kernel)) ggX12_readComes_X12_takesName
set_option maxRecDepth 20000 in
theorem ggX12_readComes_X12_looksAt : GoodIn wsX12_readComes wsX12_looksAt := goodIn_r _ [34, 2, 35, 36, 37, 6, 38, 13, 15, 39, 40, 41, 42, 43, 44, 9, 45, 46, 47, 48, 49, 50, 54, 55, 56, 57, 58, 59, 60, 61, 62, 63, 64, 65, 66, 67, 68, 69, 70, 71, 72, 73, 74, 75, 76, 77, 78, 79, 80, 81, 82, 83, 84, 85, 86, 87, 88, 89, 90, 91, 92, 93, 94, 95, 96, 97, 98, 99] (by decide +kernel) (by decide +kernel)
set_option maxRecDepth 20000 in
theorem gX12_readComes_X12_looksAt : GoodIn wsX12_readComes (wsV RX12 203 RX12 yX12_looksAt wsX12_looksAt) := goodIn_app (goodIn_of _ (by decide +kernel)) ggX12_readComes_X12_looksAt
set_option maxRecDepth 20000 in
theorem ggX12_readComes_X12_bitOf : GoodIn wsX12_readComes wsX12_bitOf := goodIn_r _ [53] (by decide +kernel) (by decide +kernel)
set_option maxRecDepth 20000 in
theorem gX12_readComes_X12_bitOf : GoodIn wsX12_readComes (va_wsS RX12 235 yX12_bitOf wsX12_bitOf) := goodIn_app (goodIn_of _ (by decide +kernel)) ggX12_readComes_X12_bitOf
set_option maxRecDepth 20000 in
theorem ggX12_readComes_X12_bad : GoodIn wsX12_readComes wsX12_bad := goodIn_r _ [43, 44, 9, 45, 54, 55, 56, 57, 58, 59, 60, 61, 62, 63, 64, 65, 66, 67, 68, 69, 70, 71, 72, 73, 74, 75, 76, 77, 78, 79, 80, 81, 82, 83, 84, 85, 86, 87, 88, 89, 90, 91, 92, 93, 94, 95, 96, 97, 98, 99] (by decide +kernel) (by decide +kernel)
set_option maxRecDepth 20000 in
theorem gX12_readComes_X12_bad : GoodIn wsX12_readComes (wsV RX12 178 RX12 yX12_bad wsX12_bad) := goodIn_app (goodIn_of _ (by decide +kernel)) ggX12_readComes_X12_bad
theorem dX12_readComes_0 : decode cX12_readComes 0 = .ok (.aload_n 0, 1) := by decide +kernel
theorem dX12_readComes_1 : decode cX12_readComes 1 = .ok (.invokevirtual 181, 3) := by decide +kernel
theorem dX12_readComes_4 : decode cX12_readComes 4 = .ok (.aload_n 0, 1) := by decide +kernel
theorem dX12_readComes_5 : decode cX12_readComes 5 = .ok (.bipush 24, 2) := by decide +kernel
theorem dX12_readComes_7 : decode cX12_readComes 7 = .ok (.aload_n 0, 1) := by decide +kernel
theorem dX12_readComes_8 : decode cX12_readComes 8 = .ok (.getfield 37, 3) := by decide +kernel
theorem dX12_readComes_11 : decode cX12_readComes 11 = .ok (.iconst 1, 1) := by decide +kernel
theorem dX12_readComes_12 : decode cX12_readComes 12 = .ok (.iaload, 1) := by decide +kernel
theorem dX12_readComes_13 : decode cX12_readComes 13 = .ok (.invokevirtual 232, 3) := by decide +kernel
theorem dX12_readComes_16 : decode cX12_readComes 16 = .ok (.ifCond .ne 5, 3) := by decide +kernel
theorem dX12_readComes_19 : decode cX12_readComes 19 = .ok (.iconst 0, 1) := by decide +kernel
theorem dX12_readComes_20 : decode cX12_readComes 20 = .ok (.ireturn, 1) := by decide +kernel
theorem dX12_readComes_21 : decode cX12_readComes 21 = .ok (.aload_n 0, 1) := by decide +kernel
theorem dX12_readComes_22 : decode cX12_readComes 22 = .ok (.getfield 188, 3) := by decide +kernel
theorem dX12_readComes_25 : decode cX12_readComes 25 = .ok (.istore_n 1, 1) := by decide +kernel
theorem dX12_readComes_26 : decode cX12_readComes 26 = .ok (.aload_n 0, 1) := by decide +kernel
theorem dX12_readComes_27 : decode cX12_readComes 27 = .ok (.bipush 30, 2) := by decide +kernel
theorem dX12_readComes_29 : decode cX12_readComes 29 = .ok (.aload_n 0, 1) := by decide +kernel
theorem dX12_readComes_30 : decode cX12_readComes 30 = .ok (.getfield 37, 3) := by decide +kernel
theorem dX12_readComes_33 : decode cX12_readComes 33 = .ok (.iconst 2, 1) := by decide +kernel
theorem dX12_readComes_34 : decode cX12_readComes 34 = .ok (.iaload, 1) := by decide +kernel
theorem dX12_readComes_35 : decode cX12_readComes 35 = .ok (.invokevirtual 203, 3) := by decide +kernel
theorem dX12_readComes_38 : decode cX12_readComes 38 = .ok (.ifCond .ne 5, 3) := by decide +kernel
theorem dX12_readComes_41 : decode cX12_readComes 41 = .ok (.iconst 0, 1) := by decide +kernel
theorem dX12_readComes_42 : decode cX12_readComes 42 = .ok (.ireturn, 1) := by decide +kernel
theorem dX12_readComes_43 : decode cX12_readComes 43 = .ok (.aload_n 0, 1) := by decide +kernel
theorem dX12_readComes_44 : decode cX12_readComes 44 = .ok (.getfield 37, 3) := by decide +kernel
theorem dX12_readComes_47 : decode cX12_readComes 47 = .ok (.bipush 46, 2) := by decide +kernel
theorem dX12_readComes_49 : decode cX12_readComes 49 = .ok (.aload_n 0, 1) := by decide +kernel
theorem dX12_readComes_50 : decode cX12_readComes 50 = .ok (.getfield 188, 3) := by decide +kernel
theorem dX12_readComes_53 : decode cX12_readComes 53 = .ok (.iadd, 1) := by decide +kernel
theorem dX12_readComes_54 : decode cX12_readComes 54 = .ok (.iaload, 1) := by decide +kernel
theorem dX12_readComes_55 : decode cX12_readComes 55 = .ok (.iload_n 1, 1) := by decide +kernel
theorem dX12_readComes_56 : decode cX12_readComes 56 = .ok (.invokestatic 235, 3) := by decide +kernel
theorem dX12_readComes_59 : decode cX12_readComes 59 = .ok (.ifCond .eq 9, 3) := by decide +kernel
theorem dX12_readComes_62 : decode cX12_readComes 62 = .ok (.aload_n 0, 1) := by decide +kernel
theorem dX12_readComes_63 : decode cX12_readComes 63 = .ok (.iconst 3, 1) := by decide +kernel
theorem dX12_readComes_64 : decode cX12_readComes 64 = .ok (.invokevirtual 178, 3) := by decide +kernel
theorem dX12_readComes_67 : decode cX12_readComes 67 = .ok (.ireturn, 1) := by decide +kernel
theorem dX12_readComes_68 : decode cX12_readComes 68 = .ok (.aload_n 0, 1) := by decide +kernel
theorem dX12_readComes_69 : decode cX12_readComes 69 = .ok (.getfield 37, 3) := by decide +kernel
theorem dX12_readComes_72 : decode cX12_readComes 72 = .ok (.bipush 46, 2) := by decide +kernel
theorem dX12_readComes_74 : decode cX12_readComes 74 = .ok (.aload_n 0, 1) := by decide +kernel
theorem dX12_readComes_75 : decode cX12_readComes 75 = .ok (.getfield 188, 3) := by decide +kernel
theorem dX12_readComes_78 : decode cX12_readComes 78 = .ok (.iadd, 1) := by decide +kernel
theorem dX12_readComes_79 : decode cX12_readComes 79 = .ok (.dup2, 1) := by decide +kernel
theorem dX12_readComes_80 : decode cX12_readComes 80 = .ok (.iaload, 1) := by decide +kernel
theorem dX12_readComes_81 : decode cX12_readComes 81 = .ok (.iconst 1, 1) := by decide +kernel
theorem dX12_readComes_82 : decode cX12_readComes 82 = .ok (.iload_n 1, 1) := by decide +kernel
theorem dX12_readComes_83 : decode cX12_readComes 83 = .ok (.ishl, 1) := by decide +kernel
theorem dX12_readComes_84 : decode cX12_readComes 84 = .ok (.ior, 1) := by decide +kernel
theorem dX12_readComes_85 : decode cX12_readComes 85 = .ok (.iastore, 1) := by decide +kernel
theorem dX12_readComes_86 : decode cX12_readComes 86 = .ok (.aload_n 0, 1) := by decide +kernel
theorem dX12_readComes_87 : decode cX12_readComes 87 = .ok (.invokevirtual 181, 3) := by decide +kernel
theorem dX12_readComes_90 : decode cX12_readComes 90 = .ok (.iconst 1, 1) := by decide +kernel
theorem dX12_readComes_91 : decode cX12_readComes 91 = .ok (.ireturn, 1) := by decide +kernel
set_option maxRecDepth 20000 in
theorem ggX12_burgh_X12_taken : GoodIn wsX12_burgh wsX12_taken := goodIn_r _ [15, 16, 17, 18, 19, 124, 125, 126, 127, 128, 129, 130, 131, 132, 133, 134, 135, 136, 137, 138, 139, 140, 141, 142, 143, 144, 145, 146, 147, 148, 149, 150, 151, 152, 153, 154, 155, 156, 157, 158, 159, 160, 161, 162, 163, 164, 165, 166, 167, 168, 169] (by decide +kernel) (by decide +kernel)
set_option maxRecDepth 20000 in
theorem gX12_burgh_X12_taken : GoodIn wsX12_burgh (wsV RX12 238 RX12 yX12_taken wsX12_taken) := goodIn_app (goodIn_of _ (by decide +kernel)) ggX12_burgh_X12_taken
set_option maxRecDepth 20000 in
theorem ggX12_burgh_X12_clears : GoodIn wsX12_burgh wsX12_clears := goodIn_r _ [23, 8, 124, 125, 126, 127, 128, 129, 130, 131, 132, 133, 134, 135, 136, 137, 138, 139, 140, 141, 142, 143, 144, 145, 146, 147, 148, 149, 150, 151, 152, 153, 154, 155, 156, 157, 158, 159, 160, 161, 162, 163, 164, 165, 166, 167, 168, 169] (by decide +kernel) (by decide +kernel)
set_option maxRecDepth 20000 in
theorem gX12_burgh_X12_clears : GoodIn wsX12_burgh (wsV RX12 139 RX12 yX12_clears wsX12_clears) := goodIn_app (goodIn_of _ (by decide +kernel)) ggX12_burgh_X12_clears
set_option maxRecDepth 20000 in
theorem ggX12_burgh_X12_next : GoodIn wsX12_burgh wsX12_next := goodIn_r _ [27, 18, 28, 29, 17, 19, 5, 30, 31, 32, 33, 34, 14, 35, 36, 37, 38, 39, 40, 41, 42, 124, 125, 126, 127, 128, 129, 130, 131, 132, 133, 134, 135, 136, 137, 138, 139, 140, 141, 142, 143, 144, 145, 146, 147, 148, 149, 150, 151, 152, 153, 154, 155, 156, 157, 158, 159, 160, 161, 162, 163, 164, 165, 166, 167, 168, 169] (by decide +kernel) (by decide +kernel)
set_option maxRecDepth 20000 in
theorem gX12_burgh_X12_next : GoodIn wsX12_burgh (wsV RX12 181 RX12 yX12_next wsX12_next) := goodIn_app (goodIn_of _ (by decide +kernel)) ggX12_burgh_X12_next
set_option maxRecDepth 20000 in
theorem ggX12_burgh_X12_readLine : GoodIn wsX12_burgh wsX12_readLine := goodIn_r _ [46, 47, 48, 49, 50, 51, 4, 52, 53, 54, 14, 55, 5, 31, 56, 57, 58, 59, 8, 60, 61, 62, 63, 64, 65, 66, 67, 68, 2, 28, 6, 24, 25, 26, 27, 18, 29, 17, 19, 30, 32, 33, 34, 35, 36, 37, 38, 39, 40, 41, 42, 69, 70, 71, 72, 9, 73, 74, 75, 76, 77, 78, 79, 80, 81, 82, 83, 84, 85, 86, 87, 88, 89, 90, 91, 92, 93, 94, 95, 96, 97, 98, 99, 100, 101, 102, 103, 104, 105, 106, 107, 108, 109, 110, 111, 112, 113, 114, 115, 124, 125, 126, 127, 128, 129, 130, 131, 132, 133, 134, 135, 136, 137, 138, 139, 140, 141, 142, 143, 144, 145, 146, 147, 148, 149, 150, 151, 152, 153, 154, 155, 156, 157, 158, 159, 160, 161, 162, 163, 164, 165, 166, 167, 168, 169] (by decide +kernel) (by decide +kernel)
set_option maxRecDepth 20000 in
theorem gX12_burgh_X12_readLine : GoodIn wsX12_burgh (wsV RX12 244 RX12 yX12_readLine wsX12_readLine) := goodIn_app (goodIn_of _ (by decide +kernel)) ggX12_burgh_X12_readLine
set_option maxRecDepth 20000 in
theorem ggX12_burgh_X12_sign : GoodIn wsX12_burgh wsX12_sign := goodIn_r _ [119, 120, 121, 122, 14, 123, 5, 30, 65, 66, 67, 68, 2, 28, 6, 24, 25, 26, 27, 18, 29, 17, 19, 31, 32, 33, 34, 35, 36, 37, 38, 39, 40, 41, 42, 124, 125, 126, 127, 128, 129, 130, 131, 132, 133, 134, 135, 136, 137, 138, 139, 140, 141, 142, 143, 144, 145, 146, 147, 148, 149, 150, 151, 152, 153, 154, 155, 156, 157, 158, 159, 160, 161, 162, 163, 164, 165, 166, 167, 168, 169] (by decide +kernel) (by decide +kernel)
set_option maxRecDepth 20000 in
theorem gX12_burgh_X12_sign : GoodIn wsX12_burgh (wsV RX12 247 RX12 yX12_sign wsX12_sign) := goodIn_app (goodIn_of _ (by decide +kernel)) ggX12_burgh_X12_sign
theorem dX12_burgh_0 : decode cX12_burgh 0 = .ok (.aload_n 0, 1) := by decide +kernel
theorem dX12_burgh_1 : decode cX12_burgh 1 = .ok (.iconst 0, 1) := by decide +kernel
theorem dX12_burgh_2 : decode cX12_burgh 2 = .ok (.putfield 1, 3) := by decide +kernel
theorem dX12_burgh_5 : decode cX12_burgh 5 = .ok (.aload_n 0, 1) := by decide +kernel
theorem dX12_burgh_6 : decode cX12_burgh 6 = .ok (.sipush 900, 3) := by decide +kernel
theorem dX12_burgh_9 : decode cX12_burgh 9 = .ok (.invokevirtual 238, 3) := by decide +kernel
theorem dX12_burgh_12 : decode cX12_burgh 12 = .ok (.aload_n 0, 1) := by decide +kernel
theorem dX12_burgh_13 : decode cX12_burgh 13 = .ok (.iconst 0, 1) := by decide +kernel
theorem dX12_burgh_14 : decode cX12_burgh 14 = .ok (.putfield 169, 3) := by decide +kernel
theorem dX12_burgh_17 : decode cX12_burgh 17 = .ok (.aload_n 0, 1) := by decide +kernel
theorem dX12_burgh_18 : decode cX12_burgh 18 = .ok (.iconst 0, 1) := by decide +kernel
theorem dX12_burgh_19 : decode cX12_burgh 19 = .ok (.putfield 241, 3) := by decide +kernel
theorem dX12_burgh_22 : decode cX12_burgh 22 = .ok (.aload_n 0, 1) := by decide +kernel
theorem dX12_burgh_23 : decode cX12_burgh 23 = .ok (.iconst 0, 1) := by decide +kernel
theorem dX12_burgh_24 : decode cX12_burgh 24 = .ok (.putfield 222, 3) := by decide +kernel
theorem dX12_burgh_27 : decode cX12_burgh 27 = .ok (.aload_n 0, 1) := by decide +kernel
theorem dX12_burgh_28 : decode cX12_burgh 28 = .ok (.invokevirtual 139, 3) := by decide +kernel
theorem dX12_burgh_31 : decode cX12_burgh 31 = .ok (.aload_n 0, 1) := by decide +kernel
theorem dX12_burgh_32 : decode cX12_burgh 32 = .ok (.invokevirtual 181, 3) := by decide +kernel
theorem dX12_burgh_35 : decode cX12_burgh 35 = .ok (.aload_n 0, 1) := by decide +kernel
theorem dX12_burgh_36 : decode cX12_burgh 36 = .ok (.getfield 152, 3) := by decide +kernel
theorem dX12_burgh_39 : decode cX12_burgh 39 = .ok (.ifCond .eq 39, 3) := by decide +kernel
theorem dX12_burgh_42 : decode cX12_burgh 42 = .ok (.aload_n 0, 1) := by decide +kernel
theorem dX12_burgh_43 : decode cX12_burgh 43 = .ok (.invokevirtual 244, 3) := by decide +kernel
theorem dX12_burgh_46 : decode cX12_burgh 46 = .ok (.ifCond .eq 12, 3) := by decide +kernel
theorem dX12_burgh_49 : decode cX12_burgh 49 = .ok (.aload_n 0, 1) := by decide +kernel
theorem dX12_burgh_50 : decode cX12_burgh 50 = .ok (.bipush 59, 2) := by decide +kernel
theorem dX12_burgh_52 : decode cX12_burgh 52 = .ok (.invokevirtual 247, 3) := by decide +kernel
theorem dX12_burgh_55 : decode cX12_burgh 55 = .ok (.ifCond .ne 10, 3) := by decide +kernel
theorem dX12_burgh_58 : decode cX12_burgh 58 = .ok (.iconst (-1), 1) := by decide +kernel
theorem dX12_burgh_59 : decode cX12_burgh 59 = .ok (.aload_n 0, 1) := by decide +kernel
theorem dX12_burgh_60 : decode cX12_burgh 60 = .ok (.getfield 172, 3) := by decide +kernel
theorem dX12_burgh_63 : decode cX12_burgh 63 = .ok (.isub, 1) := by decide +kernel
theorem dX12_burgh_64 : decode cX12_burgh 64 = .ok (.ireturn, 1) := by decide +kernel
theorem dX12_burgh_65 : decode cX12_burgh 65 = .ok (.aload_n 0, 1) := by decide +kernel
theorem dX12_burgh_66 : decode cX12_burgh 66 = .ok (.dup, 1) := by decide +kernel
theorem dX12_burgh_67 : decode cX12_burgh 67 = .ok (.getfield 241, 3) := by decide +kernel
theorem dX12_burgh_70 : decode cX12_burgh 70 = .ok (.iconst 1, 1) := by decide +kernel
theorem dX12_burgh_71 : decode cX12_burgh 71 = .ok (.iadd, 1) := by decide +kernel
theorem dX12_burgh_72 : decode cX12_burgh 72 = .ok (.putfield 241, 3) := by decide +kernel
theorem dX12_burgh_75 : decode cX12_burgh 75 = .ok (.goto (-40), 3) := by decide +kernel
theorem dX12_burgh_78 : decode cX12_burgh 78 = .ok (.iconst 0, 1) := by decide +kernel
theorem dX12_burgh_79 : decode cX12_burgh 79 = .ok (.istore_n 1, 1) := by decide +kernel
theorem dX12_burgh_80 : decode cX12_burgh 80 = .ok (.iload_n 1, 1) := by decide +kernel
theorem dX12_burgh_81 : decode cX12_burgh 81 = .ok (.sipush 334, 3) := by decide +kernel
theorem dX12_burgh_84 : decode cX12_burgh 84 = .ok (.if_icmp .ge 31, 3) := by decide +kernel
theorem dX12_burgh_87 : decode cX12_burgh 87 = .ok (.aload_n 0, 1) := by decide +kernel
theorem dX12_burgh_88 : decode cX12_burgh 88 = .ok (.getfield 33, 3) := by decide +kernel
theorem dX12_burgh_91 : decode cX12_burgh 91 = .ok (.iload_n 1, 1) := by decide +kernel
theorem dX12_burgh_92 : decode cX12_burgh 92 = .ok (.iload_n 1, 1) := by decide +kernel
theorem dX12_burgh_93 : decode cX12_burgh 93 = .ok (.bipush 52, 2) := by decide +kernel
theorem dX12_burgh_95 : decode cX12_burgh 95 = .ok (.if_icmp .ge 12, 3) := by decide +kernel
theorem dX12_burgh_98 : decode cX12_burgh 98 = .ok (.aload_n 0, 1) := by decide +kernel
theorem dX12_burgh_99 : decode cX12_burgh 99 = .ok (.getfield 37, 3) := by decide +kernel
theorem dX12_burgh_102 : decode cX12_burgh 102 = .ok (.iload_n 1, 1) := by decide +kernel
theorem dX12_burgh_103 : decode cX12_burgh 103 = .ok (.iaload, 1) := by decide +kernel
theorem dX12_burgh_104 : decode cX12_burgh 104 = .ok (.goto 4, 3) := by decide +kernel
theorem dX12_burgh_107 : decode cX12_burgh 107 = .ok (.iconst 0, 1) := by decide +kernel
theorem dX12_burgh_108 : decode cX12_burgh 108 = .ok (.iastore, 1) := by decide +kernel
theorem dX12_burgh_109 : decode cX12_burgh 109 = .ok (.iinc 1 1, 3) := by decide +kernel
theorem dX12_burgh_112 : decode cX12_burgh 112 = .ok (.goto (-32), 3) := by decide +kernel
theorem dX12_burgh_115 : decode cX12_burgh 115 = .ok (.iconst 0, 1) := by decide +kernel
theorem dX12_burgh_116 : decode cX12_burgh 116 = .ok (.istore_n 1, 1) := by decide +kernel
theorem dX12_burgh_117 : decode cX12_burgh 117 = .ok (.iload_n 1, 1) := by decide +kernel
theorem dX12_burgh_118 : decode cX12_burgh 118 = .ok (.bipush 18, 2) := by decide +kernel
theorem dX12_burgh_120 : decode cX12_burgh 120 = .ok (.if_icmp .ge 24, 3) := by decide +kernel
theorem dX12_burgh_123 : decode cX12_burgh 123 = .ok (.aload_n 0, 1) := by decide +kernel
theorem dX12_burgh_124 : decode cX12_burgh 124 = .ok (.getfield 43, 3) := by decide +kernel
theorem dX12_burgh_127 : decode cX12_burgh 127 = .ok (.iload_n 1, 1) := by decide +kernel
theorem dX12_burgh_128 : decode cX12_burgh 128 = .ok (.aload_n 0, 1) := by decide +kernel
theorem dX12_burgh_129 : decode cX12_burgh 129 = .ok (.getfield 43, 3) := by decide +kernel
theorem dX12_burgh_132 : decode cX12_burgh 132 = .ok (.bipush 18, 2) := by decide +kernel
theorem dX12_burgh_134 : decode cX12_burgh 134 = .ok (.iload_n 1, 1) := by decide +kernel
theorem dX12_burgh_135 : decode cX12_burgh 135 = .ok (.iadd, 1) := by decide +kernel
theorem dX12_burgh_136 : decode cX12_burgh 136 = .ok (.laload, 1) := by decide +kernel
theorem dX12_burgh_137 : decode cX12_burgh 137 = .ok (.lastore, 1) := by decide +kernel
theorem dX12_burgh_138 : decode cX12_burgh 138 = .ok (.iinc 1 1, 3) := by decide +kernel
theorem dX12_burgh_141 : decode cX12_burgh 141 = .ok (.goto (-24), 3) := by decide +kernel
theorem dX12_burgh_144 : decode cX12_burgh 144 = .ok (.iconst 0, 1) := by decide +kernel
theorem dX12_burgh_145 : decode cX12_burgh 145 = .ok (.istore_n 1, 1) := by decide +kernel
theorem dX12_burgh_146 : decode cX12_burgh 146 = .ok (.iload_n 1, 1) := by decide +kernel
theorem dX12_burgh_147 : decode cX12_burgh 147 = .ok (.bipush 6, 2) := by decide +kernel
theorem dX12_burgh_149 : decode cX12_burgh 149 = .ok (.if_icmp .ge 45, 3) := by decide +kernel
theorem dX12_burgh_152 : decode cX12_burgh 152 = .ok (.aload_n 0, 1) := by decide +kernel
theorem dX12_burgh_153 : decode cX12_burgh 153 = .ok (.getfield 33, 3) := by decide +kernel
theorem dX12_burgh_156 : decode cX12_burgh 156 = .ok (.bipush 57, 2) := by decide +kernel
theorem dX12_burgh_158 : decode cX12_burgh 158 = .ok (.iload_n 1, 1) := by decide +kernel
theorem dX12_burgh_159 : decode cX12_burgh 159 = .ok (.iadd, 1) := by decide +kernel
theorem dX12_burgh_160 : decode cX12_burgh 160 = .ok (.aload_n 0, 1) := by decide +kernel
theorem dX12_burgh_161 : decode cX12_burgh 161 = .ok (.getfield 33, 3) := by decide +kernel
theorem dX12_burgh_164 : decode cX12_burgh 164 = .ok (.bipush 10, 2) := by decide +kernel
theorem dX12_burgh_166 : decode cX12_burgh 166 = .ok (.iload_n 1, 1) := by decide +kernel
theorem dX12_burgh_167 : decode cX12_burgh 167 = .ok (.iadd, 1) := by decide +kernel
theorem dX12_burgh_168 : decode cX12_burgh 168 = .ok (.iaload, 1) := by decide +kernel
theorem dX12_burgh_169 : decode cX12_burgh 169 = .ok (.iastore, 1) := by decide +kernel
theorem dX12_burgh_170 : decode cX12_burgh 170 = .ok (.aload_n 0, 1) := by decide +kernel
theorem dX12_burgh_171 : decode cX12_burgh 171 = .ok (.getfield 33, 3) := by decide +kernel
theorem dX12_burgh_174 : decode cX12_burgh 174 = .ok (.bipush 75, 2) := by decide +kernel
theorem dX12_burgh_176 : decode cX12_burgh 176 = .ok (.iload_n 1, 1) := by decide +kernel
theorem dX12_burgh_177 : decode cX12_burgh 177 = .ok (.iadd, 1) := by decide +kernel
theorem dX12_burgh_178 : decode cX12_burgh 178 = .ok (.aload_n 0, 1) := by decide +kernel
theorem dX12_burgh_179 : decode cX12_burgh 179 = .ok (.getfield 33, 3) := by decide +kernel
theorem dX12_burgh_182 : decode cX12_burgh 182 = .ok (.bipush 40, 2) := by decide +kernel
theorem dX12_burgh_184 : decode cX12_burgh 184 = .ok (.iload_n 1, 1) := by decide +kernel
theorem dX12_burgh_185 : decode cX12_burgh 185 = .ok (.iadd, 1) := by decide +kernel
theorem dX12_burgh_186 : decode cX12_burgh 186 = .ok (.iaload, 1) := by decide +kernel
theorem dX12_burgh_187 : decode cX12_burgh 187 = .ok (.iastore, 1) := by decide +kernel
theorem dX12_burgh_188 : decode cX12_burgh 188 = .ok (.iinc 1 1, 3) := by decide +kernel
theorem dX12_burgh_191 : decode cX12_burgh 191 = .ok (.goto (-45), 3) := by decide +kernel
theorem dX12_burgh_194 : decode cX12_burgh 194 = .ok (.aload_n 0, 1) := by decide +kernel
theorem dX12_burgh_195 : decode cX12_burgh 195 = .ok (.iconst 0, 1) := by decide +kernel
theorem dX12_burgh_196 : decode cX12_burgh 196 = .ok (.putfield 250, 3) := by decide +kernel
theorem dX12_burgh_199 : decode cX12_burgh 199 = .ok (.aload_n 0, 1) := by decide +kernel
theorem dX12_burgh_200 : decode cX12_burgh 200 = .ok (.getfield 241, 3) := by decide +kernel
theorem dX12_burgh_203 : decode cX12_burgh 203 = .ok (.ireturn, 1) := by decide +kernel
theorem dX12_fault_0 : decode cX12_fault 0 = .ok (.aload_n 0, 1) := by decide +kernel
theorem dX12_fault_1 : decode cX12_fault 1 = .ok (.iconst 0, 1) := by decide +kernel
theorem dX12_fault_2 : decode cX12_fault 2 = .ok (.putfield 1, 3) := by decide +kernel
theorem dX12_fault_5 : decode cX12_fault 5 = .ok (.aload_n 0, 1) := by decide +kernel
theorem dX12_fault_6 : decode cX12_fault 6 = .ok (.getfield 169, 3) := by decide +kernel
theorem dX12_fault_9 : decode cX12_fault 9 = .ok (.ireturn, 1) := by decide +kernel
set_option maxRecDepth 20000 in
theorem ggX12_isClock_X12_isIn : GoodIn wsX12_isClock wsX12_isIn := goodIn_r _ [5] (by decide +kernel) (by decide +kernel)
set_option maxRecDepth 20000 in
theorem gX12_isClock_X12_isIn : GoodIn wsX12_isClock (va_wsS RX12 184 yX12_isIn wsX12_isIn) := goodIn_app (goodIn_of _ (by decide +kernel)) ggX12_isClock_X12_isIn
theorem dX12_isClock_0 : decode cX12_isClock 0 = .ok (.iload_n 1, 1) := by decide +kernel
theorem dX12_isClock_1 : decode cX12_isClock 1 = .ok (.iconst 0, 1) := by decide +kernel
theorem dX12_isClock_2 : decode cX12_isClock 2 = .ok (.aload_n 0, 1) := by decide +kernel
theorem dX12_isClock_3 : decode cX12_isClock 3 = .ok (.getfield 33, 3) := by decide +kernel
theorem dX12_isClock_6 : decode cX12_isClock 6 = .ok (.iconst 0, 1) := by decide +kernel
theorem dX12_isClock_7 : decode cX12_isClock 7 = .ok (.iaload, 1) := by decide +kernel
theorem dX12_isClock_8 : decode cX12_isClock 8 = .ok (.iconst 1, 1) := by decide +kernel
theorem dX12_isClock_9 : decode cX12_isClock 9 = .ok (.isub, 1) := by decide +kernel
theorem dX12_isClock_10 : decode cX12_isClock 10 = .ok (.invokestatic 184, 3) := by decide +kernel
theorem dX12_isClock_13 : decode cX12_isClock 13 = .ok (.ireturn, 1) := by decide +kernel
set_option maxRecDepth 20000 in
theorem ggX12_isMaster_X12_isIn : GoodIn wsX12_isMaster wsX12_isIn := goodIn_r _ [5] (by decide +kernel) (by decide +kernel)
set_option maxRecDepth 20000 in
theorem gX12_isMaster_X12_isIn : GoodIn wsX12_isMaster (va_wsS RX12 184 yX12_isIn wsX12_isIn) := goodIn_app (goodIn_of _ (by decide +kernel)) ggX12_isMaster_X12_isIn
theorem dX12_isMaster_0 : decode cX12_isMaster 0 = .ok (.iload_n 1, 1) := by decide +kernel
theorem dX12_isMaster_1 : decode cX12_isMaster 1 = .ok (.iconst 0, 1) := by decide +kernel
theorem dX12_isMaster_2 : decode cX12_isMaster 2 = .ok (.aload_n 0, 1) := by decide +kernel
theorem dX12_isMaster_3 : decode cX12_isMaster 3 = .ok (.getfield 33, 3) := by decide +kernel
theorem dX12_isMaster_6 : decode cX12_isMaster 6 = .ok (.iconst 1, 1) := by decide +kernel
theorem dX12_isMaster_7 : decode cX12_isMaster 7 = .ok (.iaload, 1) := by decide +kernel
theorem dX12_isMaster_8 : decode cX12_isMaster 8 = .ok (.iconst 1, 1) := by decide +kernel
theorem dX12_isMaster_9 : decode cX12_isMaster 9 = .ok (.isub, 1) := by decide +kernel
theorem dX12_isMaster_10 : decode cX12_isMaster 10 = .ok (.invokestatic 184, 3) := by decide +kernel
theorem dX12_isMaster_13 : decode cX12_isMaster 13 = .ok (.ireturn, 1) := by decide +kernel
set_option maxRecDepth 20000 in
theorem ggX12_isMeet_X12_isIn : GoodIn wsX12_isMeet wsX12_isIn := goodIn_r _ [5] (by decide +kernel) (by decide +kernel)
set_option maxRecDepth 20000 in
theorem gX12_isMeet_X12_isIn : GoodIn wsX12_isMeet (va_wsS RX12 184 yX12_isIn wsX12_isIn) := goodIn_app (goodIn_of _ (by decide +kernel)) ggX12_isMeet_X12_isIn
theorem dX12_isMeet_0 : decode cX12_isMeet 0 = .ok (.iload_n 1, 1) := by decide +kernel
theorem dX12_isMeet_1 : decode cX12_isMeet 1 = .ok (.iconst 0, 1) := by decide +kernel
theorem dX12_isMeet_2 : decode cX12_isMeet 2 = .ok (.aload_n 0, 1) := by decide +kernel
theorem dX12_isMeet_3 : decode cX12_isMeet 3 = .ok (.getfield 33, 3) := by decide +kernel
theorem dX12_isMeet_6 : decode cX12_isMeet 6 = .ok (.iconst 2, 1) := by decide +kernel
theorem dX12_isMeet_7 : decode cX12_isMeet 7 = .ok (.iaload, 1) := by decide +kernel
theorem dX12_isMeet_8 : decode cX12_isMeet 8 = .ok (.iconst 1, 1) := by decide +kernel
theorem dX12_isMeet_9 : decode cX12_isMeet 9 = .ok (.isub, 1) := by decide +kernel
theorem dX12_isMeet_10 : decode cX12_isMeet 10 = .ok (.invokestatic 184, 3) := by decide +kernel
theorem dX12_isMeet_13 : decode cX12_isMeet 13 = .ok (.ireturn, 1) := by decide +kernel
set_option maxRecDepth 20000 in
theorem ggX12_isStopped_X12_bitOf : GoodIn wsX12_isStopped wsX12_bitOf := goodIn_r _ [5] (by decide +kernel) (by decide +kernel)
set_option maxRecDepth 20000 in
theorem gX12_isStopped_X12_bitOf : GoodIn wsX12_isStopped (va_wsS RX12 235 yX12_bitOf wsX12_bitOf) := goodIn_app (goodIn_of _ (by decide +kernel)) ggX12_isStopped_X12_bitOf
theorem dX12_isStopped_0 : decode cX12_isStopped 0 = .ok (.aload_n 0, 1) := by decide +kernel
theorem dX12_isStopped_1 : decode cX12_isStopped 1 = .ok (.getfield 33, 3) := by decide +kernel
theorem dX12_isStopped_4 : decode cX12_isStopped 4 = .ok (.bipush 54, 2) := by decide +kernel
theorem dX12_isStopped_6 : decode cX12_isStopped 6 = .ok (.iaload, 1) := by decide +kernel
theorem dX12_isStopped_7 : decode cX12_isStopped 7 = .ok (.iload_n 1, 1) := by decide +kernel
theorem dX12_isStopped_8 : decode cX12_isStopped 8 = .ok (.invokestatic 235, 3) := by decide +kernel
theorem dX12_isStopped_11 : decode cX12_isStopped 11 = .ok (.ireturn, 1) := by decide +kernel
set_option maxRecDepth 20000 in
theorem ggX12_readsAt_X12_isStopped : GoodIn wsX12_readsAt wsX12_isStopped := goodIn_r _ [6, 1, 7, 8, 5, 9, 10, 11, 12, 13, 14, 15, 16, 17, 18, 19, 20, 21, 22, 23, 24, 25, 26, 27, 28, 29, 30, 31, 32, 33, 34, 35, 36, 37, 38, 39, 40, 41, 42, 43, 44, 45, 46, 47, 48, 49, 50, 51, 52, 53, 54, 55] (by decide +kernel) (by decide +kernel)
set_option maxRecDepth 20000 in
theorem gX12_readsAt_X12_isStopped : GoodIn wsX12_readsAt (wsV RX12 253 RX12 yX12_isStopped wsX12_isStopped) := goodIn_app (goodIn_of _ (by decide +kernel)) ggX12_readsAt_X12_isStopped
theorem dX12_readsAt_0 : decode cX12_readsAt 0 = .ok (.aload_n 0, 1) := by decide +kernel
theorem dX12_readsAt_1 : decode cX12_readsAt 1 = .ok (.iload_n 1, 1) := by decide +kernel
theorem dX12_readsAt_2 : decode cX12_readsAt 2 = .ok (.invokevirtual 253, 3) := by decide +kernel
theorem dX12_readsAt_5 : decode cX12_readsAt 5 = .ok (.ifCond .eq 15, 3) := by decide +kernel
theorem dX12_readsAt_8 : decode cX12_readsAt 8 = .ok (.aload_n 0, 1) := by decide +kernel
theorem dX12_readsAt_9 : decode cX12_readsAt 9 = .ok (.getfield 33, 3) := by decide +kernel
theorem dX12_readsAt_12 : decode cX12_readsAt 12 = .ok (.bipush 69, 2) := by decide +kernel
theorem dX12_readsAt_14 : decode cX12_readsAt 14 = .ok (.iload_n 1, 1) := by decide +kernel
theorem dX12_readsAt_15 : decode cX12_readsAt 15 = .ok (.iadd, 1) := by decide +kernel
theorem dX12_readsAt_16 : decode cX12_readsAt 16 = .ok (.iaload, 1) := by decide +kernel
theorem dX12_readsAt_17 : decode cX12_readsAt 17 = .ok (.goto 39, 3) := by decide +kernel
theorem dX12_readsAt_20 : decode cX12_readsAt 20 = .ok (.iload_n 2, 1) := by decide +kernel
theorem dX12_readsAt_21 : decode cX12_readsAt 21 = .ok (.aload_n 0, 1) := by decide +kernel
theorem dX12_readsAt_22 : decode cX12_readsAt 22 = .ok (.getfield 33, 3) := by decide +kernel
theorem dX12_readsAt_25 : decode cX12_readsAt 25 = .ok (.bipush 57, 2) := by decide +kernel
theorem dX12_readsAt_27 : decode cX12_readsAt 27 = .ok (.iload_n 1, 1) := by decide +kernel
theorem dX12_readsAt_28 : decode cX12_readsAt 28 = .ok (.iadd, 1) := by decide +kernel
theorem dX12_readsAt_29 : decode cX12_readsAt 29 = .ok (.iaload, 1) := by decide +kernel
theorem dX12_readsAt_30 : decode cX12_readsAt 30 = .ok (.iadd, 1) := by decide +kernel
theorem dX12_readsAt_31 : decode cX12_readsAt 31 = .ok (.aload_n 0, 1) := by decide +kernel
theorem dX12_readsAt_32 : decode cX12_readsAt 32 = .ok (.getfield 33, 3) := by decide +kernel
theorem dX12_readsAt_35 : decode cX12_readsAt 35 = .ok (.bipush 16, 2) := by decide +kernel
theorem dX12_readsAt_37 : decode cX12_readsAt 37 = .ok (.iload_n 1, 1) := by decide +kernel
theorem dX12_readsAt_38 : decode cX12_readsAt 38 = .ok (.iadd, 1) := by decide +kernel
theorem dX12_readsAt_39 : decode cX12_readsAt 39 = .ok (.iaload, 1) := by decide +kernel
theorem dX12_readsAt_40 : decode cX12_readsAt 40 = .ok (.iload_n 2, 1) := by decide +kernel
theorem dX12_readsAt_41 : decode cX12_readsAt 41 = .ok (.aload_n 0, 1) := by decide +kernel
theorem dX12_readsAt_42 : decode cX12_readsAt 42 = .ok (.getfield 33, 3) := by decide +kernel
theorem dX12_readsAt_45 : decode cX12_readsAt 45 = .ok (.bipush 63, 2) := by decide +kernel
theorem dX12_readsAt_47 : decode cX12_readsAt 47 = .ok (.iload_n 1, 1) := by decide +kernel
theorem dX12_readsAt_48 : decode cX12_readsAt 48 = .ok (.iadd, 1) := by decide +kernel
theorem dX12_readsAt_49 : decode cX12_readsAt 49 = .ok (.iaload, 1) := by decide +kernel
theorem dX12_readsAt_50 : decode cX12_readsAt 50 = .ok (.isub, 1) := by decide +kernel
theorem dX12_readsAt_51 : decode cX12_readsAt 51 = .ok (.bipush 60, 2) := by decide +kernel
theorem dX12_readsAt_53 : decode cX12_readsAt 53 = .ok (.idiv, 1) := by decide +kernel
theorem dX12_readsAt_54 : decode cX12_readsAt 54 = .ok (.imul, 1) := by decide +kernel
theorem dX12_readsAt_55 : decode cX12_readsAt 55 = .ok (.iadd, 1) := by decide +kernel
theorem dX12_readsAt_56 : decode cX12_readsAt 56 = .ok (.ireturn, 1) := by decide +kernel
set_option maxRecDepth 20000 in
theorem ggX12_wrongBy_X12_readsAt : GoodIn wsX12_wrongBy wsX12_readsAt := goodIn_r _ [6, 1, 7, 8, 9, 5, 10, 11, 12, 13, 14, 15, 16, 17, 18, 19, 20, 21, 22, 23, 24, 25, 26, 27, 28, 29, 30, 31, 32, 33, 34, 35, 36, 37, 38, 39, 40, 41, 42, 43, 44, 45, 46, 47, 48, 49, 50, 51, 52, 53, 54, 55, 56, 57, 58, 59] (by decide +kernel) (by decide +kernel)
set_option maxRecDepth 20000 in
theorem gX12_wrongBy_X12_readsAt : GoodIn wsX12_wrongBy (wsV RX12 256 RX12 yX12_readsAt wsX12_readsAt) := goodIn_app (goodIn_of _ (by decide +kernel)) ggX12_wrongBy_X12_readsAt
theorem dX12_wrongBy_0 : decode cX12_wrongBy 0 = .ok (.aload_n 0, 1) := by decide +kernel
theorem dX12_wrongBy_1 : decode cX12_wrongBy 1 = .ok (.iload_n 1, 1) := by decide +kernel
theorem dX12_wrongBy_2 : decode cX12_wrongBy 2 = .ok (.aload_n 0, 1) := by decide +kernel
theorem dX12_wrongBy_3 : decode cX12_wrongBy 3 = .ok (.getfield 33, 3) := by decide +kernel
theorem dX12_wrongBy_6 : decode cX12_wrongBy 6 = .ok (.bipush 52, 2) := by decide +kernel
theorem dX12_wrongBy_8 : decode cX12_wrongBy 8 = .ok (.iaload, 1) := by decide +kernel
theorem dX12_wrongBy_9 : decode cX12_wrongBy 9 = .ok (.invokevirtual 256, 3) := by decide +kernel
theorem dX12_wrongBy_12 : decode cX12_wrongBy 12 = .ok (.aload_n 0, 1) := by decide +kernel
theorem dX12_wrongBy_13 : decode cX12_wrongBy 13 = .ok (.getfield 33, 3) := by decide +kernel
theorem dX12_wrongBy_16 : decode cX12_wrongBy 16 = .ok (.bipush 52, 2) := by decide +kernel
theorem dX12_wrongBy_18 : decode cX12_wrongBy 18 = .ok (.iaload, 1) := by decide +kernel
theorem dX12_wrongBy_19 : decode cX12_wrongBy 19 = .ok (.isub, 1) := by decide +kernel
theorem dX12_wrongBy_20 : decode cX12_wrongBy 20 = .ok (.ireturn, 1) := by decide +kernel
set_option maxRecDepth 20000 in
theorem ggX12_showsAt_X12_readsAt : GoodIn wsX12_showsAt wsX12_readsAt := goodIn_r _ [5, 6, 7, 8, 9, 4, 10, 11, 12, 13, 14, 15, 16, 17, 18, 19, 20, 21, 22, 23, 24, 25, 26, 27, 28, 29, 30, 31, 32, 33, 34, 35, 36, 37, 38, 39, 40, 41, 42, 43, 44, 45, 46, 47, 48, 49, 50, 51, 52, 53, 54, 55, 56, 57, 58, 59] (by decide +kernel) (by decide +kernel)
set_option maxRecDepth 20000 in
theorem gX12_showsAt_X12_readsAt : GoodIn wsX12_showsAt (wsV RX12 256 RX12 yX12_readsAt wsX12_readsAt) := goodIn_app (goodIn_of _ (by decide +kernel)) ggX12_showsAt_X12_readsAt
theorem dX12_showsAt_0 : decode cX12_showsAt 0 = .ok (.aload_n 0, 1) := by decide +kernel
theorem dX12_showsAt_1 : decode cX12_showsAt 1 = .ok (.iload_n 1, 1) := by decide +kernel
theorem dX12_showsAt_2 : decode cX12_showsAt 2 = .ok (.iload_n 2, 1) := by decide +kernel
theorem dX12_showsAt_3 : decode cX12_showsAt 3 = .ok (.invokevirtual 256, 3) := by decide +kernel
theorem dX12_showsAt_6 : decode cX12_showsAt 6 = .ok (.sipush 720, 3) := by decide +kernel
theorem dX12_showsAt_9 : decode cX12_showsAt 9 = .ok (.irem, 1) := by decide +kernel
theorem dX12_showsAt_10 : decode cX12_showsAt 10 = .ok (.istore_n 3, 1) := by decide +kernel
theorem dX12_showsAt_11 : decode cX12_showsAt 11 = .ok (.iload_n 3, 1) := by decide +kernel
theorem dX12_showsAt_12 : decode cX12_showsAt 12 = .ok (.ifCond .ge 11, 3) := by decide +kernel
theorem dX12_showsAt_15 : decode cX12_showsAt 15 = .ok (.iload_n 3, 1) := by decide +kernel
theorem dX12_showsAt_16 : decode cX12_showsAt 16 = .ok (.sipush 720, 3) := by decide +kernel
theorem dX12_showsAt_19 : decode cX12_showsAt 19 = .ok (.iadd, 1) := by decide +kernel
theorem dX12_showsAt_20 : decode cX12_showsAt 20 = .ok (.goto 4, 3) := by decide +kernel
theorem dX12_showsAt_23 : decode cX12_showsAt 23 = .ok (.iload_n 3, 1) := by decide +kernel
theorem dX12_showsAt_24 : decode cX12_showsAt 24 = .ok (.ireturn, 1) := by decide +kernel
set_option maxRecDepth 20000 in
theorem ggX12_isOut_X12_bitOf : GoodIn wsX12_isOut wsX12_bitOf := goodIn_r _ [5] (by decide +kernel) (by decide +kernel)
set_option maxRecDepth 20000 in
theorem gX12_isOut_X12_bitOf : GoodIn wsX12_isOut (va_wsS RX12 235 yX12_bitOf wsX12_bitOf) := goodIn_app (goodIn_of _ (by decide +kernel)) ggX12_isOut_X12_bitOf
theorem dX12_isOut_0 : decode cX12_isOut 0 = .ok (.aload_n 0, 1) := by decide +kernel
theorem dX12_isOut_1 : decode cX12_isOut 1 = .ok (.getfield 33, 3) := by decide +kernel
theorem dX12_isOut_4 : decode cX12_isOut 4 = .ok (.bipush 53, 2) := by decide +kernel
theorem dX12_isOut_6 : decode cX12_isOut 6 = .ok (.iaload, 1) := by decide +kernel
theorem dX12_isOut_7 : decode cX12_isOut 7 = .ok (.iload_n 1, 1) := by decide +kernel
theorem dX12_isOut_8 : decode cX12_isOut 8 = .ok (.invokestatic 235, 3) := by decide +kernel
theorem dX12_isOut_11 : decode cX12_isOut 11 = .ok (.ireturn, 1) := by decide +kernel
set_option maxRecDepth 20000 in
theorem ggX12_isDueTo_X12_bitOf : GoodIn wsX12_isDueTo wsX12_bitOf := goodIn_r _ [5] (by decide +kernel) (by decide +kernel)
set_option maxRecDepth 20000 in
theorem gX12_isDueTo_X12_bitOf : GoodIn wsX12_isDueTo (va_wsS RX12 235 yX12_bitOf wsX12_bitOf) := goodIn_app (goodIn_of _ (by decide +kernel)) ggX12_isDueTo_X12_bitOf
theorem dX12_isDueTo_0 : decode cX12_isDueTo 0 = .ok (.aload_n 0, 1) := by decide +kernel
theorem dX12_isDueTo_1 : decode cX12_isDueTo 1 = .ok (.getfield 33, 3) := by decide +kernel
theorem dX12_isDueTo_4 : decode cX12_isDueTo 4 = .ok (.bipush 46, 2) := by decide +kernel
theorem dX12_isDueTo_6 : decode cX12_isDueTo 6 = .ok (.iload_n 2, 1) := by decide +kernel
theorem dX12_isDueTo_7 : decode cX12_isDueTo 7 = .ok (.iadd, 1) := by decide +kernel
theorem dX12_isDueTo_8 : decode cX12_isDueTo 8 = .ok (.iaload, 1) := by decide +kernel
theorem dX12_isDueTo_9 : decode cX12_isDueTo 9 = .ok (.iload_n 1, 1) := by decide +kernel
theorem dX12_isDueTo_10 : decode cX12_isDueTo 10 = .ok (.invokestatic 235, 3) := by decide +kernel
theorem dX12_isDueTo_13 : decode cX12_isDueTo 13 = .ok (.ireturn, 1) := by decide +kernel
theorem dX12_rowOf_0 : decode cX12_rowOf 0 = .ok (.iconst 0, 1) := by decide +kernel
theorem dX12_rowOf_1 : decode cX12_rowOf 1 = .ok (.istore_n 3, 1) := by decide +kernel
theorem dX12_rowOf_2 : decode cX12_rowOf 2 = .ok (.iconst 0, 1) := by decide +kernel
theorem dX12_rowOf_3 : decode cX12_rowOf 3 = .ok (.istore 4, 2) := by decide +kernel
theorem dX12_rowOf_5 : decode cX12_rowOf 5 = .ok (.iload 4, 2) := by decide +kernel
theorem dX12_rowOf_7 : decode cX12_rowOf 7 = .ok (.aload_n 0, 1) := by decide +kernel
theorem dX12_rowOf_8 : decode cX12_rowOf 8 = .ok (.getfield 33, 3) := by decide +kernel
theorem dX12_rowOf_11 : decode cX12_rowOf 11 = .ok (.iconst 1, 1) := by decide +kernel
theorem dX12_rowOf_12 : decode cX12_rowOf 12 = .ok (.iaload, 1) := by decide +kernel
theorem dX12_rowOf_13 : decode cX12_rowOf 13 = .ok (.if_icmp .ge 37, 3) := by decide +kernel
theorem dX12_rowOf_16 : decode cX12_rowOf 16 = .ok (.iload_n 3, 1) := by decide +kernel
theorem dX12_rowOf_17 : decode cX12_rowOf 17 = .ok (.aload_n 0, 1) := by decide +kernel
theorem dX12_rowOf_18 : decode cX12_rowOf 18 = .ok (.getfield 33, 3) := by decide +kernel
theorem dX12_rowOf_21 : decode cX12_rowOf 21 = .ok (.iload_n 1, 1) := by decide +kernel
theorem dX12_rowOf_22 : decode cX12_rowOf 22 = .ok (.bipush 6, 2) := by decide +kernel
theorem dX12_rowOf_24 : decode cX12_rowOf 24 = .ok (.iload_n 2, 1) := by decide +kernel
theorem dX12_rowOf_25 : decode cX12_rowOf 25 = .ok (.imul, 1) := by decide +kernel
theorem dX12_rowOf_26 : decode cX12_rowOf 26 = .ok (.iadd, 1) := by decide +kernel
theorem dX12_rowOf_27 : decode cX12_rowOf 27 = .ok (.iload 4, 2) := by decide +kernel
theorem dX12_rowOf_29 : decode cX12_rowOf 29 = .ok (.iadd, 1) := by decide +kernel
theorem dX12_rowOf_30 : decode cX12_rowOf 30 = .ok (.iaload, 1) := by decide +kernel
theorem dX12_rowOf_31 : decode cX12_rowOf 31 = .ok (.ifCond .le 10, 3) := by decide +kernel
theorem dX12_rowOf_34 : decode cX12_rowOf 34 = .ok (.iconst 1, 1) := by decide +kernel
theorem dX12_rowOf_35 : decode cX12_rowOf 35 = .ok (.iload 4, 2) := by decide +kernel
theorem dX12_rowOf_37 : decode cX12_rowOf 37 = .ok (.ishl, 1) := by decide +kernel
theorem dX12_rowOf_38 : decode cX12_rowOf 38 = .ok (.goto 4, 3) := by decide +kernel
theorem dX12_rowOf_41 : decode cX12_rowOf 41 = .ok (.iconst 0, 1) := by decide +kernel
theorem dX12_rowOf_42 : decode cX12_rowOf 42 = .ok (.ior, 1) := by decide +kernel
theorem dX12_rowOf_43 : decode cX12_rowOf 43 = .ok (.istore_n 3, 1) := by decide +kernel
theorem dX12_rowOf_44 : decode cX12_rowOf 44 = .ok (.iinc 4 1, 3) := by decide +kernel
theorem dX12_rowOf_47 : decode cX12_rowOf 47 = .ok (.goto (-42), 3) := by decide +kernel
theorem dX12_rowOf_50 : decode cX12_rowOf 50 = .ok (.iload_n 3, 1) := by decide +kernel
theorem dX12_rowOf_51 : decode cX12_rowOf 51 = .ok (.ireturn, 1) := by decide +kernel
theorem dX12_meetsOf_0 : decode cX12_meetsOf 0 = .ok (.iconst 0, 1) := by decide +kernel
theorem dX12_meetsOf_1 : decode cX12_meetsOf 1 = .ok (.istore_n 3, 1) := by decide +kernel
theorem dX12_meetsOf_2 : decode cX12_meetsOf 2 = .ok (.iconst 0, 1) := by decide +kernel
theorem dX12_meetsOf_3 : decode cX12_meetsOf 3 = .ok (.istore 4, 2) := by decide +kernel
theorem dX12_meetsOf_5 : decode cX12_meetsOf 5 = .ok (.iload 4, 2) := by decide +kernel
theorem dX12_meetsOf_7 : decode cX12_meetsOf 7 = .ok (.aload_n 0, 1) := by decide +kernel
theorem dX12_meetsOf_8 : decode cX12_meetsOf 8 = .ok (.getfield 33, 3) := by decide +kernel
theorem dX12_meetsOf_11 : decode cX12_meetsOf 11 = .ok (.iconst 2, 1) := by decide +kernel
theorem dX12_meetsOf_12 : decode cX12_meetsOf 12 = .ok (.iaload, 1) := by decide +kernel
theorem dX12_meetsOf_13 : decode cX12_meetsOf 13 = .ok (.if_icmp .ge 37, 3) := by decide +kernel
theorem dX12_meetsOf_16 : decode cX12_meetsOf 16 = .ok (.iload_n 3, 1) := by decide +kernel
theorem dX12_meetsOf_17 : decode cX12_meetsOf 17 = .ok (.aload_n 0, 1) := by decide +kernel
theorem dX12_meetsOf_18 : decode cX12_meetsOf 18 = .ok (.getfield 33, 3) := by decide +kernel
theorem dX12_meetsOf_21 : decode cX12_meetsOf 21 = .ok (.iload_n 1, 1) := by decide +kernel
theorem dX12_meetsOf_22 : decode cX12_meetsOf 22 = .ok (.bipush 6, 2) := by decide +kernel
theorem dX12_meetsOf_24 : decode cX12_meetsOf 24 = .ok (.iload 4, 2) := by decide +kernel
theorem dX12_meetsOf_26 : decode cX12_meetsOf 26 = .ok (.imul, 1) := by decide +kernel
theorem dX12_meetsOf_27 : decode cX12_meetsOf 27 = .ok (.iadd, 1) := by decide +kernel
theorem dX12_meetsOf_28 : decode cX12_meetsOf 28 = .ok (.iload_n 2, 1) := by decide +kernel
theorem dX12_meetsOf_29 : decode cX12_meetsOf 29 = .ok (.iadd, 1) := by decide +kernel
theorem dX12_meetsOf_30 : decode cX12_meetsOf 30 = .ok (.iaload, 1) := by decide +kernel
theorem dX12_meetsOf_31 : decode cX12_meetsOf 31 = .ok (.ifCond .le 10, 3) := by decide +kernel
theorem dX12_meetsOf_34 : decode cX12_meetsOf 34 = .ok (.iconst 1, 1) := by decide +kernel
theorem dX12_meetsOf_35 : decode cX12_meetsOf 35 = .ok (.iload 4, 2) := by decide +kernel
theorem dX12_meetsOf_37 : decode cX12_meetsOf 37 = .ok (.ishl, 1) := by decide +kernel
theorem dX12_meetsOf_38 : decode cX12_meetsOf 38 = .ok (.goto 4, 3) := by decide +kernel
theorem dX12_meetsOf_41 : decode cX12_meetsOf 41 = .ok (.iconst 0, 1) := by decide +kernel
theorem dX12_meetsOf_42 : decode cX12_meetsOf 42 = .ok (.ior, 1) := by decide +kernel
theorem dX12_meetsOf_43 : decode cX12_meetsOf 43 = .ok (.istore_n 3, 1) := by decide +kernel
theorem dX12_meetsOf_44 : decode cX12_meetsOf 44 = .ok (.iinc 4 1, 3) := by decide +kernel
theorem dX12_meetsOf_47 : decode cX12_meetsOf 47 = .ok (.goto (-42), 3) := by decide +kernel
theorem dX12_meetsOf_50 : decode cX12_meetsOf 50 = .ok (.iload_n 3, 1) := by decide +kernel
theorem dX12_meetsOf_51 : decode cX12_meetsOf 51 = .ok (.ireturn, 1) := by decide +kernel
set_option maxRecDepth 20000 in
theorem ggX12_toCome_X12_isDueTo : GoodIn wsX12_toCome wsX12_isDueTo := goodIn_r _ [6, 1, 7, 8, 5, 9, 10, 11, 12, 13, 14, 15, 16, 17, 18, 19, 20, 21, 22, 23, 24, 25, 26, 27, 28, 29, 30, 31, 32, 33, 34, 35, 36, 37, 38, 39, 40, 41, 42, 43, 44, 45, 46, 47, 48, 49, 50, 51, 52, 53, 54, 55] (by decide +kernel) (by decide +kernel)
set_option maxRecDepth 20000 in
theorem gX12_toCome_X12_isDueTo : GoodIn wsX12_toCome (wsV RX12 259 RX12 yX12_isDueTo wsX12_isDueTo) := goodIn_app (goodIn_of _ (by decide +kernel)) ggX12_toCome_X12_isDueTo
theorem dX12_toCome_0 : decode cX12_toCome 0 = .ok (.iconst 0, 1) := by decide +kernel
theorem dX12_toCome_1 : decode cX12_toCome 1 = .ok (.istore_n 2, 1) := by decide +kernel
theorem dX12_toCome_2 : decode cX12_toCome 2 = .ok (.iconst 0, 1) := by decide +kernel
theorem dX12_toCome_3 : decode cX12_toCome 3 = .ok (.istore_n 3, 1) := by decide +kernel
theorem dX12_toCome_4 : decode cX12_toCome 4 = .ok (.iload_n 3, 1) := by decide +kernel
theorem dX12_toCome_5 : decode cX12_toCome 5 = .ok (.aload_n 0, 1) := by decide +kernel
theorem dX12_toCome_6 : decode cX12_toCome 6 = .ok (.getfield 33, 3) := by decide +kernel
theorem dX12_toCome_9 : decode cX12_toCome 9 = .ok (.iconst 2, 1) := by decide +kernel
theorem dX12_toCome_10 : decode cX12_toCome 10 = .ok (.iaload, 1) := by decide +kernel
theorem dX12_toCome_11 : decode cX12_toCome 11 = .ok (.if_icmp .ge 28, 3) := by decide +kernel
theorem dX12_toCome_14 : decode cX12_toCome 14 = .ok (.iload_n 2, 1) := by decide +kernel
theorem dX12_toCome_15 : decode cX12_toCome 15 = .ok (.aload_n 0, 1) := by decide +kernel
theorem dX12_toCome_16 : decode cX12_toCome 16 = .ok (.iload_n 1, 1) := by decide +kernel
theorem dX12_toCome_17 : decode cX12_toCome 17 = .ok (.iload_n 3, 1) := by decide +kernel
theorem dX12_toCome_18 : decode cX12_toCome 18 = .ok (.invokevirtual 259, 3) := by decide +kernel
theorem dX12_toCome_21 : decode cX12_toCome 21 = .ok (.ifCond .eq 9, 3) := by decide +kernel
theorem dX12_toCome_24 : decode cX12_toCome 24 = .ok (.iconst 1, 1) := by decide +kernel
theorem dX12_toCome_25 : decode cX12_toCome 25 = .ok (.iload_n 3, 1) := by decide +kernel
theorem dX12_toCome_26 : decode cX12_toCome 26 = .ok (.ishl, 1) := by decide +kernel
theorem dX12_toCome_27 : decode cX12_toCome 27 = .ok (.goto 4, 3) := by decide +kernel
theorem dX12_toCome_30 : decode cX12_toCome 30 = .ok (.iconst 0, 1) := by decide +kernel
theorem dX12_toCome_31 : decode cX12_toCome 31 = .ok (.ior, 1) := by decide +kernel
theorem dX12_toCome_32 : decode cX12_toCome 32 = .ok (.istore_n 2, 1) := by decide +kernel
theorem dX12_toCome_33 : decode cX12_toCome 33 = .ok (.iinc 3 1, 3) := by decide +kernel
theorem dX12_toCome_36 : decode cX12_toCome 36 = .ok (.goto (-32), 3) := by decide +kernel
theorem dX12_toCome_39 : decode cX12_toCome 39 = .ok (.iload_n 2, 1) := by decide +kernel
theorem dX12_toCome_40 : decode cX12_toCome 40 = .ok (.ireturn, 1) := by decide +kernel
set_option maxRecDepth 20000 in
theorem ggX12_clock_X12_isClock : GoodIn wsX12_clock wsX12_isClock := goodIn_r _ [7, 2, 8, 9, 6, 10, 26, 27, 28, 29, 30, 31, 32, 33, 34, 35, 36, 37, 38, 39, 40, 41, 42, 43, 44, 45, 46, 47, 48, 49, 50, 51, 52, 53, 54, 55, 56, 57, 58, 59, 60, 61, 62, 63, 64, 65, 66, 67, 68, 69, 70, 71] (by decide +kernel) (by decide +kernel)
set_option maxRecDepth 20000 in
theorem gX12_clock_X12_isClock : GoodIn wsX12_clock (wsV RX12 262 RX12 yX12_isClock wsX12_isClock) := goodIn_app (goodIn_of _ (by decide +kernel)) ggX12_clock_X12_isClock
set_option maxRecDepth 20000 in
theorem ggX12_clock_X12_isStopped : GoodIn wsX12_clock wsX12_isStopped := goodIn_r _ [14, 2, 15, 16, 6, 17, 26, 27, 28, 29, 30, 31, 32, 33, 34, 35, 36, 37, 38, 39, 40, 41, 42, 43, 44, 45, 46, 47, 48, 49, 50, 51, 52, 53, 54, 55, 56, 57, 58, 59, 60, 61, 62, 63, 64, 65, 66, 67, 68, 69, 70, 71] (by decide +kernel) (by decide +kernel)
set_option maxRecDepth 20000 in
theorem gX12_clock_X12_isStopped : GoodIn wsX12_clock (wsV RX12 253 RX12 yX12_isStopped wsX12_isStopped) := goodIn_app (goodIn_of _ (by decide +kernel)) ggX12_clock_X12_isStopped
set_option maxRecDepth 20000 in
theorem ggX12_clock_X12_showsAt : GoodIn wsX12_clock wsX12_showsAt := goodIn_r _ [21, 22, 23, 24, 6, 25, 2, 11, 12, 13, 14, 15, 16, 17, 26, 27, 28, 29, 30, 31, 32, 33, 34, 35, 36, 37, 38, 39, 40, 41, 42, 43, 44, 45, 46, 47, 48, 49, 50, 51, 52, 53, 54, 55, 56, 57, 58, 59, 60, 61, 62, 63, 64, 65, 66, 67, 68, 69, 70, 71] (by decide +kernel) (by decide +kernel)
set_option maxRecDepth 20000 in
theorem gX12_clock_X12_showsAt : GoodIn wsX12_clock (wsV RX12 265 RX12 yX12_showsAt wsX12_showsAt) := goodIn_app (goodIn_of _ (by decide +kernel)) ggX12_clock_X12_showsAt
theorem dX12_clock_0 : decode cX12_clock 0 = .ok (.aload_n 0, 1) := by decide +kernel
theorem dX12_clock_1 : decode cX12_clock 1 = .ok (.iconst 0, 1) := by decide +kernel
theorem dX12_clock_2 : decode cX12_clock 2 = .ok (.putfield 1, 3) := by decide +kernel
theorem dX12_clock_5 : decode cX12_clock 5 = .ok (.aload_n 0, 1) := by decide +kernel
theorem dX12_clock_6 : decode cX12_clock 6 = .ok (.iload_n 1, 1) := by decide +kernel
theorem dX12_clock_7 : decode cX12_clock 7 = .ok (.invokevirtual 262, 3) := by decide +kernel
theorem dX12_clock_10 : decode cX12_clock 10 = .ok (.ifCond .ne 5, 3) := by decide +kernel
theorem dX12_clock_13 : decode cX12_clock 13 = .ok (.iconst (-1), 1) := by decide +kernel
theorem dX12_clock_14 : decode cX12_clock 14 = .ok (.ireturn, 1) := by decide +kernel
theorem dX12_clock_15 : decode cX12_clock 15 = .ok (.iconst 0, 1) := by decide +kernel
theorem dX12_clock_16 : decode cX12_clock 16 = .ok (.istore_n 3, 1) := by decide +kernel
theorem dX12_clock_17 : decode cX12_clock 17 = .ok (.iconst 0, 1) := by decide +kernel
theorem dX12_clock_18 : decode cX12_clock 18 = .ok (.istore 4, 2) := by decide +kernel
theorem dX12_clock_20 : decode cX12_clock 20 = .ok (.iload 4, 2) := by decide +kernel
theorem dX12_clock_22 : decode cX12_clock 22 = .ok (.aload_n 0, 1) := by decide +kernel
theorem dX12_clock_23 : decode cX12_clock 23 = .ok (.getfield 33, 3) := by decide +kernel
theorem dX12_clock_26 : decode cX12_clock 26 = .ok (.iconst 1, 1) := by decide +kernel
theorem dX12_clock_27 : decode cX12_clock 27 = .ok (.iaload, 1) := by decide +kernel
theorem dX12_clock_28 : decode cX12_clock 28 = .ok (.if_icmp .ge 31, 3) := by decide +kernel
theorem dX12_clock_31 : decode cX12_clock 31 = .ok (.iload_n 3, 1) := by decide +kernel
theorem dX12_clock_32 : decode cX12_clock 32 = .ok (.aload_n 0, 1) := by decide +kernel
theorem dX12_clock_33 : decode cX12_clock 33 = .ok (.getfield 33, 3) := by decide +kernel
theorem dX12_clock_36 : decode cX12_clock 36 = .ok (.bipush 34, 2) := by decide +kernel
theorem dX12_clock_38 : decode cX12_clock 38 = .ok (.iload 4, 2) := by decide +kernel
theorem dX12_clock_40 : decode cX12_clock 40 = .ok (.iadd, 1) := by decide +kernel
theorem dX12_clock_41 : decode cX12_clock 41 = .ok (.iaload, 1) := by decide +kernel
theorem dX12_clock_42 : decode cX12_clock 42 = .ok (.iload_n 1, 1) := by decide +kernel
theorem dX12_clock_43 : decode cX12_clock 43 = .ok (.if_icmp .ne 7, 3) := by decide +kernel
theorem dX12_clock_46 : decode cX12_clock 46 = .ok (.iconst 1, 1) := by decide +kernel
theorem dX12_clock_47 : decode cX12_clock 47 = .ok (.goto 4, 3) := by decide +kernel
theorem dX12_clock_50 : decode cX12_clock 50 = .ok (.iconst 0, 1) := by decide +kernel
theorem dX12_clock_51 : decode cX12_clock 51 = .ok (.iadd, 1) := by decide +kernel
theorem dX12_clock_52 : decode cX12_clock 52 = .ok (.istore_n 3, 1) := by decide +kernel
theorem dX12_clock_53 : decode cX12_clock 53 = .ok (.iinc 4 1, 3) := by decide +kernel
theorem dX12_clock_56 : decode cX12_clock 56 = .ok (.goto (-36), 3) := by decide +kernel
theorem dX12_clock_59 : decode cX12_clock 59 = .ok (.iload_n 2, 1) := by decide +kernel
theorem dX12_clock_60 : decode cX12_clock 60 = .ok (.tableswitch 84 0 4 #[36, 45, 55, 69, 82], 36) := by decide +kernel
theorem dX12_clock_96 : decode cX12_clock 96 = .ok (.aload_n 0, 1) := by decide +kernel
theorem dX12_clock_97 : decode cX12_clock 97 = .ok (.getfield 33, 3) := by decide +kernel
theorem dX12_clock_100 : decode cX12_clock 100 = .ok (.iconst 4, 1) := by decide +kernel
theorem dX12_clock_101 : decode cX12_clock 101 = .ok (.iload_n 1, 1) := by decide +kernel
theorem dX12_clock_102 : decode cX12_clock 102 = .ok (.iadd, 1) := by decide +kernel
theorem dX12_clock_103 : decode cX12_clock 103 = .ok (.iaload, 1) := by decide +kernel
theorem dX12_clock_104 : decode cX12_clock 104 = .ok (.ireturn, 1) := by decide +kernel
theorem dX12_clock_105 : decode cX12_clock 105 = .ok (.aload_n 0, 1) := by decide +kernel
theorem dX12_clock_106 : decode cX12_clock 106 = .ok (.getfield 33, 3) := by decide +kernel
theorem dX12_clock_109 : decode cX12_clock 109 = .ok (.bipush 16, 2) := by decide +kernel
theorem dX12_clock_111 : decode cX12_clock 111 = .ok (.iload_n 1, 1) := by decide +kernel
theorem dX12_clock_112 : decode cX12_clock 112 = .ok (.iadd, 1) := by decide +kernel
theorem dX12_clock_113 : decode cX12_clock 113 = .ok (.iaload, 1) := by decide +kernel
theorem dX12_clock_114 : decode cX12_clock 114 = .ok (.ireturn, 1) := by decide +kernel
theorem dX12_clock_115 : decode cX12_clock 115 = .ok (.aload_n 0, 1) := by decide +kernel
theorem dX12_clock_116 : decode cX12_clock 116 = .ok (.iload_n 1, 1) := by decide +kernel
theorem dX12_clock_117 : decode cX12_clock 117 = .ok (.invokevirtual 253, 3) := by decide +kernel
theorem dX12_clock_120 : decode cX12_clock 120 = .ok (.ifCond .eq 7, 3) := by decide +kernel
theorem dX12_clock_123 : decode cX12_clock 123 = .ok (.iconst 1, 1) := by decide +kernel
theorem dX12_clock_124 : decode cX12_clock 124 = .ok (.goto 4, 3) := by decide +kernel
theorem dX12_clock_127 : decode cX12_clock 127 = .ok (.iconst 0, 1) := by decide +kernel
theorem dX12_clock_128 : decode cX12_clock 128 = .ok (.ireturn, 1) := by decide +kernel
theorem dX12_clock_129 : decode cX12_clock 129 = .ok (.aload_n 0, 1) := by decide +kernel
theorem dX12_clock_130 : decode cX12_clock 130 = .ok (.iload_n 1, 1) := by decide +kernel
theorem dX12_clock_131 : decode cX12_clock 131 = .ok (.aload_n 0, 1) := by decide +kernel
theorem dX12_clock_132 : decode cX12_clock 132 = .ok (.getfield 33, 3) := by decide +kernel
theorem dX12_clock_135 : decode cX12_clock 135 = .ok (.bipush 52, 2) := by decide +kernel
theorem dX12_clock_137 : decode cX12_clock 137 = .ok (.iaload, 1) := by decide +kernel
theorem dX12_clock_138 : decode cX12_clock 138 = .ok (.invokevirtual 265, 3) := by decide +kernel
theorem dX12_clock_141 : decode cX12_clock 141 = .ok (.ireturn, 1) := by decide +kernel
theorem dX12_clock_142 : decode cX12_clock 142 = .ok (.iload_n 3, 1) := by decide +kernel
theorem dX12_clock_143 : decode cX12_clock 143 = .ok (.ireturn, 1) := by decide +kernel
theorem dX12_clock_144 : decode cX12_clock 144 = .ok (.iconst (-1), 1) := by decide +kernel
theorem dX12_clock_145 : decode cX12_clock 145 = .ok (.ireturn, 1) := by decide +kernel
set_option maxRecDepth 20000 in
theorem ggX12_wrong_X12_isClock : GoodIn wsX12_wrong wsX12_isClock := goodIn_r _ [5, 6, 7, 8, 4, 9, 30, 31, 32, 33, 34, 35, 36, 37, 38, 39, 40, 41, 42, 43, 44, 45, 46, 47, 48, 49, 50, 51, 52, 53, 54, 55, 56, 57, 58, 59, 60, 61, 62, 63, 64, 65, 66, 67, 68, 69, 70, 71, 72, 73, 74, 75] (by decide +kernel) (by decide +kernel)
set_option maxRecDepth 20000 in
theorem gX12_wrong_X12_isClock : GoodIn wsX12_wrong (wsV RX12 262 RX12 yX12_isClock wsX12_isClock) := goodIn_app (goodIn_of _ (by decide +kernel)) ggX12_wrong_X12_isClock
set_option maxRecDepth 20000 in
theorem ggX12_wrong_X12_throwsIf : GoodIn wsX12_wrong wsX12_throwsIf := goodIn_r _ [13, 14, 30, 31, 32, 33, 34, 35, 36, 37, 38, 39, 40, 41, 42, 43, 44, 45, 46, 47, 48, 49, 50, 51, 52, 53, 54, 55, 56, 57, 58, 59, 60, 61, 62, 63, 64, 65, 66, 67, 68, 69, 70, 71, 72, 73, 74, 75] (by decide +kernel) (by decide +kernel)
set_option maxRecDepth 20000 in
theorem gX12_wrong_X12_throwsIf : GoodIn wsX12_wrong (wsV RX12 268 RX12 yX12_throwsIf wsX12_throwsIf) := goodIn_app (goodIn_of _ (by decide +kernel)) ggX12_wrong_X12_throwsIf
set_option maxRecDepth 20000 in
theorem ggX12_wrong_X12_wrongBy : GoodIn wsX12_wrong wsX12_wrongBy := goodIn_r _ [18, 6, 19, 20, 21, 4, 22, 23, 24, 25, 26, 27, 28, 29, 30, 31, 32, 33, 34, 35, 36, 37, 38, 39, 40, 41, 42, 43, 44, 45, 46, 47, 48, 49, 50, 51, 52, 53, 54, 55, 56, 57, 58, 59, 60, 61, 62, 63, 64, 65, 66, 67, 68, 69, 70, 71, 72, 73, 74, 75] (by decide +kernel) (by decide +kernel)
set_option maxRecDepth 20000 in
theorem gX12_wrong_X12_wrongBy : GoodIn wsX12_wrong (wsV RX12 272 RX12 yX12_wrongBy wsX12_wrongBy) := goodIn_app (goodIn_of _ (by decide +kernel)) ggX12_wrong_X12_wrongBy
theorem dX12_wrong_0 : decode cX12_wrong 0 = .ok (.aload_n 0, 1) := by decide +kernel
theorem dX12_wrong_1 : decode cX12_wrong 1 = .ok (.aload_n 0, 1) := by decide +kernel
theorem dX12_wrong_2 : decode cX12_wrong 2 = .ok (.iload_n 1, 1) := by decide +kernel
theorem dX12_wrong_3 : decode cX12_wrong 3 = .ok (.invokevirtual 262, 3) := by decide +kernel
theorem dX12_wrong_6 : decode cX12_wrong 6 = .ok (.ifCond .ne 7, 3) := by decide +kernel
theorem dX12_wrong_9 : decode cX12_wrong 9 = .ok (.iconst 1, 1) := by decide +kernel
theorem dX12_wrong_10 : decode cX12_wrong 10 = .ok (.goto 4, 3) := by decide +kernel
theorem dX12_wrong_13 : decode cX12_wrong 13 = .ok (.iconst 0, 1) := by decide +kernel
theorem dX12_wrong_14 : decode cX12_wrong 14 = .ok (.invokevirtual 268, 3) := by decide +kernel
theorem dX12_wrong_17 : decode cX12_wrong 17 = .ok (.ifCond .eq 5, 3) := by decide +kernel
theorem dX12_wrong_20 : decode cX12_wrong 20 = .ok (.iconst 0, 1) := by decide +kernel
theorem dX12_wrong_21 : decode cX12_wrong 21 = .ok (.ireturn, 1) := by decide +kernel
theorem dX12_wrong_22 : decode cX12_wrong 22 = .ok (.aload_n 0, 1) := by decide +kernel
theorem dX12_wrong_23 : decode cX12_wrong 23 = .ok (.iload_n 1, 1) := by decide +kernel
theorem dX12_wrong_24 : decode cX12_wrong 24 = .ok (.invokevirtual 272, 3) := by decide +kernel
theorem dX12_wrong_27 : decode cX12_wrong 27 = .ok (.ireturn, 1) := by decide +kernel
set_option maxRecDepth 20000 in
theorem ggX12_master_X12_isMaster : GoodIn wsX12_master wsX12_isMaster := goodIn_r _ [6, 1, 7, 8, 5, 9, 34, 35, 36, 37, 38, 39, 40, 41, 42, 43, 44, 45, 46, 47, 48, 49, 50, 51, 52, 53, 54, 55, 56, 57, 58, 59, 60, 61, 62, 63, 64, 65, 66, 67, 68, 69, 70, 71, 72, 73, 74, 75, 76, 77, 78, 79] (by decide +kernel) (by decide +kernel)
set_option maxRecDepth 20000 in
theorem gX12_master_X12_isMaster : GoodIn wsX12_master (wsV RX12 276 RX12 yX12_isMaster wsX12_isMaster) := goodIn_app (goodIn_of _ (by decide +kernel)) ggX12_master_X12_isMaster
set_option maxRecDepth 20000 in
theorem ggX12_master_X12_isIn : GoodIn wsX12_master wsX12_isIn := goodIn_r _ [9] (by decide +kernel) (by decide +kernel)
set_option maxRecDepth 20000 in
theorem gX12_master_X12_isIn : GoodIn wsX12_master (va_wsS RX12 184 yX12_isIn wsX12_isIn) := goodIn_app (goodIn_of _ (by decide +kernel)) ggX12_master_X12_isIn
set_option maxRecDepth 20000 in
theorem ggX12_master_X12_throwsIf : GoodIn wsX12_master wsX12_throwsIf := goodIn_r _ [13, 14, 34, 35, 36, 37, 38, 39, 40, 41, 42, 43, 44, 45, 46, 47, 48, 49, 50, 51, 52, 53, 54, 55, 56, 57, 58, 59, 60, 61, 62, 63, 64, 65, 66, 67, 68, 69, 70, 71, 72, 73, 74, 75, 76, 77, 78, 79] (by decide +kernel) (by decide +kernel)
set_option maxRecDepth 20000 in
theorem gX12_master_X12_throwsIf : GoodIn wsX12_master (wsV RX12 268 RX12 yX12_throwsIf wsX12_throwsIf) := goodIn_app (goodIn_of _ (by decide +kernel)) ggX12_master_X12_throwsIf
set_option maxRecDepth 20000 in
theorem ggX12_master_X12_isOut : GoodIn wsX12_master wsX12_isOut := goodIn_r _ [18, 1, 19, 20, 5, 21, 34, 35, 36, 37, 38, 39, 40, 41, 42, 43, 44, 45, 46, 47, 48, 49, 50, 51, 52, 53, 54, 55, 56, 57, 58, 59, 60, 61, 62, 63, 64, 65, 66, 67, 68, 69, 70, 71, 72, 73, 74, 75, 76, 77, 78, 79] (by decide +kernel) (by decide +kernel)
set_option maxRecDepth 20000 in
theorem gX12_master_X12_isOut : GoodIn wsX12_master (wsV RX12 279 RX12 yX12_isOut wsX12_isOut) := goodIn_app (goodIn_of _ (by decide +kernel)) ggX12_master_X12_isOut
set_option maxRecDepth 20000 in
theorem ggX12_master_X12_toCome : GoodIn wsX12_master wsX12_toCome := goodIn_r _ [25, 1, 26, 27, 28, 5, 29, 19, 20, 21, 34, 35, 36, 37, 38, 39, 40, 41, 42, 43, 44, 45, 46, 47, 48, 49, 50, 51, 52, 53, 54, 55, 56, 57, 58, 59, 60, 61, 62, 63, 64, 65, 66, 67, 68, 69, 70, 71, 72, 73, 74, 75, 76, 77, 78, 79] (by decide +kernel) (by decide +kernel)
set_option maxRecDepth 20000 in
theorem gX12_master_X12_toCome : GoodIn wsX12_master (wsV RX12 282 RX12 yX12_toCome wsX12_toCome) := goodIn_app (goodIn_of _ (by decide +kernel)) ggX12_master_X12_toCome
set_option maxRecDepth 20000 in
theorem ggX12_master_X12_meetsOf : GoodIn wsX12_master wsX12_meetsOf := goodIn_r _ [33, 1, 34, 35, 36, 37, 38, 39, 40, 41, 42, 43, 44, 45, 46, 47, 48, 49, 50, 51, 52, 53, 54, 55, 56, 57, 58, 59, 60, 61, 62, 63, 64, 65, 66, 67, 68, 69, 70, 71, 72, 73, 74, 75, 76, 77, 78, 79] (by decide +kernel) (by decide +kernel)
set_option maxRecDepth 20000 in
theorem gX12_master_X12_meetsOf : GoodIn wsX12_master (wsV RX12 285 RX12 yX12_meetsOf wsX12_meetsOf) := goodIn_app (goodIn_of _ (by decide +kernel)) ggX12_master_X12_meetsOf
theorem dX12_master_0 : decode cX12_master 0 = .ok (.aload_n 0, 1) := by decide +kernel
theorem dX12_master_1 : decode cX12_master 1 = .ok (.aload_n 0, 1) := by decide +kernel
theorem dX12_master_2 : decode cX12_master 2 = .ok (.iload_n 1, 1) := by decide +kernel
theorem dX12_master_3 : decode cX12_master 3 = .ok (.invokevirtual 276, 3) := by decide +kernel
theorem dX12_master_6 : decode cX12_master 6 = .ok (.ifCond .eq 13, 3) := by decide +kernel
theorem dX12_master_9 : decode cX12_master 9 = .ok (.iload_n 2, 1) := by decide +kernel
theorem dX12_master_10 : decode cX12_master 10 = .ok (.iconst 0, 1) := by decide +kernel
theorem dX12_master_11 : decode cX12_master 11 = .ok (.bipush 6, 2) := by decide +kernel
theorem dX12_master_13 : decode cX12_master 13 = .ok (.invokestatic 184, 3) := by decide +kernel
theorem dX12_master_16 : decode cX12_master 16 = .ok (.ifCond .ne 7, 3) := by decide +kernel
theorem dX12_master_19 : decode cX12_master 19 = .ok (.iconst 1, 1) := by decide +kernel
theorem dX12_master_20 : decode cX12_master 20 = .ok (.goto 4, 3) := by decide +kernel
theorem dX12_master_23 : decode cX12_master 23 = .ok (.iconst 0, 1) := by decide +kernel
theorem dX12_master_24 : decode cX12_master 24 = .ok (.invokevirtual 268, 3) := by decide +kernel
theorem dX12_master_27 : decode cX12_master 27 = .ok (.ifCond .eq 5, 3) := by decide +kernel
theorem dX12_master_30 : decode cX12_master 30 = .ok (.iconst 0, 1) := by decide +kernel
theorem dX12_master_31 : decode cX12_master 31 = .ok (.ireturn, 1) := by decide +kernel
theorem dX12_master_32 : decode cX12_master 32 = .ok (.iload_n 2, 1) := by decide +kernel
theorem dX12_master_33 : decode cX12_master 33 = .ok (.tableswitch 97 0 5 #[39, 49, 59, 69, 83, 89], 39) := by decide +kernel
theorem dX12_master_72 : decode cX12_master 72 = .ok (.aload_n 0, 1) := by decide +kernel
theorem dX12_master_73 : decode cX12_master 73 = .ok (.getfield 33, 3) := by decide +kernel
theorem dX12_master_76 : decode cX12_master 76 = .ok (.bipush 22, 2) := by decide +kernel
theorem dX12_master_78 : decode cX12_master 78 = .ok (.iload_n 1, 1) := by decide +kernel
theorem dX12_master_79 : decode cX12_master 79 = .ok (.iadd, 1) := by decide +kernel
theorem dX12_master_80 : decode cX12_master 80 = .ok (.iaload, 1) := by decide +kernel
theorem dX12_master_81 : decode cX12_master 81 = .ok (.ireturn, 1) := by decide +kernel
theorem dX12_master_82 : decode cX12_master 82 = .ok (.aload_n 0, 1) := by decide +kernel
theorem dX12_master_83 : decode cX12_master 83 = .ok (.getfield 33, 3) := by decide +kernel
theorem dX12_master_86 : decode cX12_master 86 = .ok (.bipush 28, 2) := by decide +kernel
theorem dX12_master_88 : decode cX12_master 88 = .ok (.iload_n 1, 1) := by decide +kernel
theorem dX12_master_89 : decode cX12_master 89 = .ok (.iadd, 1) := by decide +kernel
theorem dX12_master_90 : decode cX12_master 90 = .ok (.iaload, 1) := by decide +kernel
theorem dX12_master_91 : decode cX12_master 91 = .ok (.ireturn, 1) := by decide +kernel
theorem dX12_master_92 : decode cX12_master 92 = .ok (.aload_n 0, 1) := by decide +kernel
theorem dX12_master_93 : decode cX12_master 93 = .ok (.getfield 33, 3) := by decide +kernel
theorem dX12_master_96 : decode cX12_master 96 = .ok (.bipush 34, 2) := by decide +kernel
theorem dX12_master_98 : decode cX12_master 98 = .ok (.iload_n 1, 1) := by decide +kernel
theorem dX12_master_99 : decode cX12_master 99 = .ok (.iadd, 1) := by decide +kernel
theorem dX12_master_100 : decode cX12_master 100 = .ok (.iaload, 1) := by decide +kernel
theorem dX12_master_101 : decode cX12_master 101 = .ok (.ireturn, 1) := by decide +kernel
theorem dX12_master_102 : decode cX12_master 102 = .ok (.aload_n 0, 1) := by decide +kernel
theorem dX12_master_103 : decode cX12_master 103 = .ok (.iload_n 1, 1) := by decide +kernel
theorem dX12_master_104 : decode cX12_master 104 = .ok (.invokevirtual 279, 3) := by decide +kernel
theorem dX12_master_107 : decode cX12_master 107 = .ok (.ifCond .eq 7, 3) := by decide +kernel
theorem dX12_master_110 : decode cX12_master 110 = .ok (.iconst 1, 1) := by decide +kernel
theorem dX12_master_111 : decode cX12_master 111 = .ok (.goto 4, 3) := by decide +kernel
theorem dX12_master_114 : decode cX12_master 114 = .ok (.iconst 0, 1) := by decide +kernel
theorem dX12_master_115 : decode cX12_master 115 = .ok (.ireturn, 1) := by decide +kernel
theorem dX12_master_116 : decode cX12_master 116 = .ok (.aload_n 0, 1) := by decide +kernel
theorem dX12_master_117 : decode cX12_master 117 = .ok (.iload_n 1, 1) := by decide +kernel
theorem dX12_master_118 : decode cX12_master 118 = .ok (.invokevirtual 282, 3) := by decide +kernel
theorem dX12_master_121 : decode cX12_master 121 = .ok (.ireturn, 1) := by decide +kernel
theorem dX12_master_122 : decode cX12_master 122 = .ok (.aload_n 0, 1) := by decide +kernel
theorem dX12_master_123 : decode cX12_master 123 = .ok (.bipush 81, 2) := by decide +kernel
theorem dX12_master_125 : decode cX12_master 125 = .ok (.iload_n 1, 1) := by decide +kernel
theorem dX12_master_126 : decode cX12_master 126 = .ok (.invokevirtual 285, 3) := by decide +kernel
theorem dX12_master_129 : decode cX12_master 129 = .ok (.ireturn, 1) := by decide +kernel
theorem dX12_master_130 : decode cX12_master 130 = .ok (.aload_n 0, 1) := by decide +kernel
theorem dX12_master_131 : decode cX12_master 131 = .ok (.bipush 117, 2) := by decide +kernel
theorem dX12_master_133 : decode cX12_master 133 = .ok (.iload_n 1, 1) := by decide +kernel
theorem dX12_master_134 : decode cX12_master 134 = .ok (.invokevirtual 285, 3) := by decide +kernel
theorem dX12_master_137 : decode cX12_master 137 = .ok (.ireturn, 1) := by decide +kernel
set_option maxRecDepth 20000 in
theorem ggX12_meet_X12_isMeet : GoodIn wsX12_meet wsX12_isMeet := goodIn_r _ [7, 2, 8, 9, 6, 10, 15, 16, 17, 18, 19, 20, 21, 22, 23, 24, 25, 26, 27, 28, 29, 30, 31, 32, 33, 34, 35, 36, 37, 38, 39, 40, 41, 42, 43, 44, 45, 46, 47, 48, 49, 50, 51, 52, 53, 54, 55, 56, 57, 58, 59, 60] (by decide +kernel) (by decide +kernel)
set_option maxRecDepth 20000 in
theorem gX12_meet_X12_isMeet : GoodIn wsX12_meet (wsV RX12 288 RX12 yX12_isMeet wsX12_isMeet) := goodIn_app (goodIn_of _ (by decide +kernel)) ggX12_meet_X12_isMeet
set_option maxRecDepth 20000 in
theorem ggX12_meet_X12_rowOf : GoodIn wsX12_meet wsX12_rowOf := goodIn_r _ [14, 2, 15, 16, 17, 18, 19, 20, 21, 22, 23, 24, 25, 26, 27, 28, 29, 30, 31, 32, 33, 34, 35, 36, 37, 38, 39, 40, 41, 42, 43, 44, 45, 46, 47, 48, 49, 50, 51, 52, 53, 54, 55, 56, 57, 58, 59, 60] (by decide +kernel) (by decide +kernel)
set_option maxRecDepth 20000 in
theorem gX12_meet_X12_rowOf : GoodIn wsX12_meet (wsV RX12 291 RX12 yX12_rowOf wsX12_rowOf) := goodIn_app (goodIn_of _ (by decide +kernel)) ggX12_meet_X12_rowOf
theorem dX12_meet_0 : decode cX12_meet 0 = .ok (.aload_n 0, 1) := by decide +kernel
theorem dX12_meet_1 : decode cX12_meet 1 = .ok (.iconst 0, 1) := by decide +kernel
theorem dX12_meet_2 : decode cX12_meet 2 = .ok (.putfield 1, 3) := by decide +kernel
theorem dX12_meet_5 : decode cX12_meet 5 = .ok (.aload_n 0, 1) := by decide +kernel
theorem dX12_meet_6 : decode cX12_meet 6 = .ok (.iload_n 1, 1) := by decide +kernel
theorem dX12_meet_7 : decode cX12_meet 7 = .ok (.invokevirtual 288, 3) := by decide +kernel
theorem dX12_meet_10 : decode cX12_meet 10 = .ok (.ifCond .ne 5, 3) := by decide +kernel
theorem dX12_meet_13 : decode cX12_meet 13 = .ok (.iconst (-1), 1) := by decide +kernel
theorem dX12_meet_14 : decode cX12_meet 14 = .ok (.ireturn, 1) := by decide +kernel
theorem dX12_meet_15 : decode cX12_meet 15 = .ok (.iload_n 2, 1) := by decide +kernel
theorem dX12_meet_16 : decode cX12_meet 16 = .ok (.ifCond .ne 15, 3) := by decide +kernel
theorem dX12_meet_19 : decode cX12_meet 19 = .ok (.aload_n 0, 1) := by decide +kernel
theorem dX12_meet_20 : decode cX12_meet 20 = .ok (.getfield 33, 3) := by decide +kernel
theorem dX12_meet_23 : decode cX12_meet 23 = .ok (.bipush 75, 2) := by decide +kernel
theorem dX12_meet_25 : decode cX12_meet 25 = .ok (.iload_n 1, 1) := by decide +kernel
theorem dX12_meet_26 : decode cX12_meet 26 = .ok (.iadd, 1) := by decide +kernel
theorem dX12_meet_27 : decode cX12_meet 27 = .ok (.iaload, 1) := by decide +kernel
theorem dX12_meet_28 : decode cX12_meet 28 = .ok (.goto 51, 3) := by decide +kernel
theorem dX12_meet_31 : decode cX12_meet 31 = .ok (.iload_n 2, 1) := by decide +kernel
theorem dX12_meet_32 : decode cX12_meet 32 = .ok (.iconst 1, 1) := by decide +kernel
theorem dX12_meet_33 : decode cX12_meet 33 = .ok (.if_icmp .ne 15, 3) := by decide +kernel
theorem dX12_meet_36 : decode cX12_meet 36 = .ok (.aload_n 0, 1) := by decide +kernel
theorem dX12_meet_37 : decode cX12_meet 37 = .ok (.getfield 33, 3) := by decide +kernel
theorem dX12_meet_40 : decode cX12_meet 40 = .ok (.bipush 46, 2) := by decide +kernel
theorem dX12_meet_42 : decode cX12_meet 42 = .ok (.iload_n 1, 1) := by decide +kernel
theorem dX12_meet_43 : decode cX12_meet 43 = .ok (.iadd, 1) := by decide +kernel
theorem dX12_meet_44 : decode cX12_meet 44 = .ok (.iaload, 1) := by decide +kernel
theorem dX12_meet_45 : decode cX12_meet 45 = .ok (.goto 34, 3) := by decide +kernel
theorem dX12_meet_48 : decode cX12_meet 48 = .ok (.iload_n 2, 1) := by decide +kernel
theorem dX12_meet_49 : decode cX12_meet 49 = .ok (.iconst 2, 1) := by decide +kernel
theorem dX12_meet_50 : decode cX12_meet 50 = .ok (.if_icmp .ne 13, 3) := by decide +kernel
theorem dX12_meet_53 : decode cX12_meet 53 = .ok (.aload_n 0, 1) := by decide +kernel
theorem dX12_meet_54 : decode cX12_meet 54 = .ok (.bipush 81, 2) := by decide +kernel
theorem dX12_meet_56 : decode cX12_meet 56 = .ok (.iload_n 1, 1) := by decide +kernel
theorem dX12_meet_57 : decode cX12_meet 57 = .ok (.invokevirtual 291, 3) := by decide +kernel
theorem dX12_meet_60 : decode cX12_meet 60 = .ok (.goto 19, 3) := by decide +kernel
theorem dX12_meet_63 : decode cX12_meet 63 = .ok (.iload_n 2, 1) := by decide +kernel
theorem dX12_meet_64 : decode cX12_meet 64 = .ok (.iconst 3, 1) := by decide +kernel
theorem dX12_meet_65 : decode cX12_meet 65 = .ok (.if_icmp .ne 13, 3) := by decide +kernel
theorem dX12_meet_68 : decode cX12_meet 68 = .ok (.aload_n 0, 1) := by decide +kernel
theorem dX12_meet_69 : decode cX12_meet 69 = .ok (.bipush 117, 2) := by decide +kernel
theorem dX12_meet_71 : decode cX12_meet 71 = .ok (.iload_n 1, 1) := by decide +kernel
theorem dX12_meet_72 : decode cX12_meet 72 = .ok (.invokevirtual 291, 3) := by decide +kernel
theorem dX12_meet_75 : decode cX12_meet 75 = .ok (.goto 4, 3) := by decide +kernel
theorem dX12_meet_78 : decode cX12_meet 78 = .ok (.iconst (-1), 1) := by decide +kernel
theorem dX12_meet_79 : decode cX12_meet 79 = .ok (.ireturn, 1) := by decide +kernel
set_option maxRecDepth 20000 in
theorem ggX12_now_X12_wrongBy : GoodIn wsX12_now wsX12_wrongBy := goodIn_r _ [7, 2, 8, 9, 10, 6, 11, 12, 13, 14, 15, 16, 17, 18, 19, 20, 21, 22, 23, 24, 25, 26, 27, 28, 29, 30, 31, 32, 33, 34, 35, 36, 37, 38, 39, 40, 41, 42, 43, 44, 45, 46, 47, 48, 49, 50, 51, 52, 53, 54, 55, 56, 57, 58, 59, 60, 61, 62, 63, 64] (by decide +kernel) (by decide +kernel)
set_option maxRecDepth 20000 in
theorem gX12_now_X12_wrongBy : GoodIn wsX12_now (wsV RX12 272 RX12 yX12_wrongBy wsX12_wrongBy) := goodIn_app (goodIn_of _ (by decide +kernel)) ggX12_now_X12_wrongBy
theorem dX12_now_0 : decode cX12_now 0 = .ok (.aload_n 0, 1) := by decide +kernel
theorem dX12_now_1 : decode cX12_now 1 = .ok (.iconst 0, 1) := by decide +kernel
theorem dX12_now_2 : decode cX12_now 2 = .ok (.putfield 1, 3) := by decide +kernel
theorem dX12_now_5 : decode cX12_now 5 = .ok (.iconst 0, 1) := by decide +kernel
theorem dX12_now_6 : decode cX12_now 6 = .ok (.istore_n 2, 1) := by decide +kernel
theorem dX12_now_7 : decode cX12_now 7 = .ok (.iconst 0, 1) := by decide +kernel
theorem dX12_now_8 : decode cX12_now 8 = .ok (.istore_n 3, 1) := by decide +kernel
theorem dX12_now_9 : decode cX12_now 9 = .ok (.iload_n 3, 1) := by decide +kernel
theorem dX12_now_10 : decode cX12_now 10 = .ok (.aload_n 0, 1) := by decide +kernel
theorem dX12_now_11 : decode cX12_now 11 = .ok (.getfield 33, 3) := by decide +kernel
theorem dX12_now_14 : decode cX12_now 14 = .ok (.iconst 0, 1) := by decide +kernel
theorem dX12_now_15 : decode cX12_now 15 = .ok (.iaload, 1) := by decide +kernel
theorem dX12_now_16 : decode cX12_now 16 = .ok (.if_icmp .ge 27, 3) := by decide +kernel
theorem dX12_now_19 : decode cX12_now 19 = .ok (.iload_n 2, 1) := by decide +kernel
theorem dX12_now_20 : decode cX12_now 20 = .ok (.aload_n 0, 1) := by decide +kernel
theorem dX12_now_21 : decode cX12_now 21 = .ok (.iload_n 3, 1) := by decide +kernel
theorem dX12_now_22 : decode cX12_now 22 = .ok (.invokevirtual 272, 3) := by decide +kernel
theorem dX12_now_25 : decode cX12_now 25 = .ok (.ifCond .ne 9, 3) := by decide +kernel
theorem dX12_now_28 : decode cX12_now 28 = .ok (.iconst 1, 1) := by decide +kernel
theorem dX12_now_29 : decode cX12_now 29 = .ok (.iload_n 3, 1) := by decide +kernel
theorem dX12_now_30 : decode cX12_now 30 = .ok (.ishl, 1) := by decide +kernel
theorem dX12_now_31 : decode cX12_now 31 = .ok (.goto 4, 3) := by decide +kernel
theorem dX12_now_34 : decode cX12_now 34 = .ok (.iconst 0, 1) := by decide +kernel
theorem dX12_now_35 : decode cX12_now 35 = .ok (.ior, 1) := by decide +kernel
theorem dX12_now_36 : decode cX12_now 36 = .ok (.istore_n 2, 1) := by decide +kernel
theorem dX12_now_37 : decode cX12_now 37 = .ok (.iinc 3 1, 3) := by decide +kernel
theorem dX12_now_40 : decode cX12_now 40 = .ok (.goto (-31), 3) := by decide +kernel
theorem dX12_now_43 : decode cX12_now 43 = .ok (.iload_n 1, 1) := by decide +kernel
theorem dX12_now_44 : decode cX12_now 44 = .ok (.tableswitch 82 0 5 #[40, 48, 56, 64, 66, 74], 40) := by decide +kernel
theorem dX12_now_84 : decode cX12_now 84 = .ok (.aload_n 0, 1) := by decide +kernel
theorem dX12_now_85 : decode cX12_now 85 = .ok (.getfield 33, 3) := by decide +kernel
theorem dX12_now_88 : decode cX12_now 88 = .ok (.bipush 52, 2) := by decide +kernel
theorem dX12_now_90 : decode cX12_now 90 = .ok (.iaload, 1) := by decide +kernel
theorem dX12_now_91 : decode cX12_now 91 = .ok (.ireturn, 1) := by decide +kernel
theorem dX12_now_92 : decode cX12_now 92 = .ok (.aload_n 0, 1) := by decide +kernel
theorem dX12_now_93 : decode cX12_now 93 = .ok (.getfield 33, 3) := by decide +kernel
theorem dX12_now_96 : decode cX12_now 96 = .ok (.bipush 53, 2) := by decide +kernel
theorem dX12_now_98 : decode cX12_now 98 = .ok (.iaload, 1) := by decide +kernel
theorem dX12_now_99 : decode cX12_now 99 = .ok (.ireturn, 1) := by decide +kernel
theorem dX12_now_100 : decode cX12_now 100 = .ok (.aload_n 0, 1) := by decide +kernel
theorem dX12_now_101 : decode cX12_now 101 = .ok (.getfield 33, 3) := by decide +kernel
theorem dX12_now_104 : decode cX12_now 104 = .ok (.bipush 54, 2) := by decide +kernel
theorem dX12_now_106 : decode cX12_now 106 = .ok (.iaload, 1) := by decide +kernel
theorem dX12_now_107 : decode cX12_now 107 = .ok (.ireturn, 1) := by decide +kernel
theorem dX12_now_108 : decode cX12_now 108 = .ok (.iload_n 2, 1) := by decide +kernel
theorem dX12_now_109 : decode cX12_now 109 = .ok (.ireturn, 1) := by decide +kernel
theorem dX12_now_110 : decode cX12_now 110 = .ok (.aload_n 0, 1) := by decide +kernel
theorem dX12_now_111 : decode cX12_now 111 = .ok (.getfield 33, 3) := by decide +kernel
theorem dX12_now_114 : decode cX12_now 114 = .ok (.bipush 55, 2) := by decide +kernel
theorem dX12_now_116 : decode cX12_now 116 = .ok (.iaload, 1) := by decide +kernel
theorem dX12_now_117 : decode cX12_now 117 = .ok (.ireturn, 1) := by decide +kernel
theorem dX12_now_118 : decode cX12_now 118 = .ok (.aload_n 0, 1) := by decide +kernel
theorem dX12_now_119 : decode cX12_now 119 = .ok (.getfield 33, 3) := by decide +kernel
theorem dX12_now_122 : decode cX12_now 122 = .ok (.bipush 56, 2) := by decide +kernel
theorem dX12_now_124 : decode cX12_now 124 = .ok (.iaload, 1) := by decide +kernel
theorem dX12_now_125 : decode cX12_now 125 = .ok (.ireturn, 1) := by decide +kernel
theorem dX12_now_126 : decode cX12_now 126 = .ok (.iconst (-1), 1) := by decide +kernel
theorem dX12_now_127 : decode cX12_now 127 = .ok (.ireturn, 1) := by decide +kernel
set_option maxRecDepth 20000 in
theorem ggX12_whySet_X12_isOut : GoodIn wsX12_whySet wsX12_isOut := goodIn_r _ [5, 6, 7, 8, 4, 9, 14, 15, 16, 17, 18, 19, 20, 21, 22, 23, 24, 25, 26, 27, 28, 29, 30, 31, 32, 33, 34, 35, 36, 37, 38, 39, 40, 41, 42, 43, 44, 45, 46, 47, 48, 49, 50, 51, 52, 53, 54, 55, 56, 57, 58, 59] (by decide +kernel) (by decide +kernel)
set_option maxRecDepth 20000 in
theorem gX12_whySet_X12_isOut : GoodIn wsX12_whySet (wsV RX12 279 RX12 yX12_isOut wsX12_isOut) := goodIn_app (goodIn_of _ (by decide +kernel)) ggX12_whySet_X12_isOut
set_option maxRecDepth 20000 in
theorem ggX12_whySet_X12_isStopped : GoodIn wsX12_whySet wsX12_isStopped := goodIn_r _ [13, 6, 7, 8, 4, 9, 14, 15, 16, 17, 18, 19, 20, 21, 22, 23, 24, 25, 26, 27, 28, 29, 30, 31, 32, 33, 34, 35, 36, 37, 38, 39, 40, 41, 42, 43, 44, 45, 46, 47, 48, 49, 50, 51, 52, 53, 54, 55, 56, 57, 58, 59] (by decide +kernel) (by decide +kernel)
set_option maxRecDepth 20000 in
theorem gX12_whySet_X12_isStopped : GoodIn wsX12_whySet (wsV RX12 253 RX12 yX12_isStopped wsX12_isStopped) := goodIn_app (goodIn_of _ (by decide +kernel)) ggX12_whySet_X12_isStopped
theorem dX12_whySet_0 : decode cX12_whySet 0 = .ok (.aload_n 0, 1) := by decide +kernel
theorem dX12_whySet_1 : decode cX12_whySet 1 = .ok (.iload_n 1, 1) := by decide +kernel
theorem dX12_whySet_2 : decode cX12_whySet 2 = .ok (.invokevirtual 279, 3) := by decide +kernel
theorem dX12_whySet_5 : decode cX12_whySet 5 = .ok (.ifCond .eq 7, 3) := by decide +kernel
theorem dX12_whySet_8 : decode cX12_whySet 8 = .ok (.iconst 1, 1) := by decide +kernel
theorem dX12_whySet_9 : decode cX12_whySet 9 = .ok (.goto 16, 3) := by decide +kernel
theorem dX12_whySet_12 : decode cX12_whySet 12 = .ok (.aload_n 0, 1) := by decide +kernel
theorem dX12_whySet_13 : decode cX12_whySet 13 = .ok (.iload_n 2, 1) := by decide +kernel
theorem dX12_whySet_14 : decode cX12_whySet 14 = .ok (.invokevirtual 253, 3) := by decide +kernel
theorem dX12_whySet_17 : decode cX12_whySet 17 = .ok (.ifCond .eq 7, 3) := by decide +kernel
theorem dX12_whySet_20 : decode cX12_whySet 20 = .ok (.iconst 2, 1) := by decide +kernel
theorem dX12_whySet_21 : decode cX12_whySet 21 = .ok (.goto 4, 3) := by decide +kernel
theorem dX12_whySet_24 : decode cX12_whySet 24 = .ok (.iconst 0, 1) := by decide +kernel
theorem dX12_whySet_25 : decode cX12_whySet 25 = .ok (.ireturn, 1) := by decide +kernel
theorem dX12_runsFrom_0 : decode cX12_runsFrom 0 = .ok (.aload_n 0, 1) := by decide +kernel
theorem dX12_runsFrom_1 : decode cX12_runsFrom 1 = .ok (.getfield 33, 3) := by decide +kernel
theorem dX12_runsFrom_4 : decode cX12_runsFrom 4 = .ok (.bipush 57, 2) := by decide +kernel
theorem dX12_runsFrom_6 : decode cX12_runsFrom 6 = .ok (.iload_n 1, 1) := by decide +kernel
theorem dX12_runsFrom_7 : decode cX12_runsFrom 7 = .ok (.iadd, 1) := by decide +kernel
theorem dX12_runsFrom_8 : decode cX12_runsFrom 8 = .ok (.iload_n 2, 1) := by decide +kernel
theorem dX12_runsFrom_9 : decode cX12_runsFrom 9 = .ok (.iastore, 1) := by decide +kernel
theorem dX12_runsFrom_10 : decode cX12_runsFrom 10 = .ok (.aload_n 0, 1) := by decide +kernel
theorem dX12_runsFrom_11 : decode cX12_runsFrom 11 = .ok (.getfield 33, 3) := by decide +kernel
theorem dX12_runsFrom_14 : decode cX12_runsFrom 14 = .ok (.bipush 63, 2) := by decide +kernel
theorem dX12_runsFrom_16 : decode cX12_runsFrom 16 = .ok (.iload_n 1, 1) := by decide +kernel
theorem dX12_runsFrom_17 : decode cX12_runsFrom 17 = .ok (.iadd, 1) := by decide +kernel
theorem dX12_runsFrom_18 : decode cX12_runsFrom 18 = .ok (.aload_n 0, 1) := by decide +kernel
theorem dX12_runsFrom_19 : decode cX12_runsFrom 19 = .ok (.getfield 33, 3) := by decide +kernel
theorem dX12_runsFrom_22 : decode cX12_runsFrom 22 = .ok (.bipush 52, 2) := by decide +kernel
theorem dX12_runsFrom_24 : decode cX12_runsFrom 24 = .ok (.iaload, 1) := by decide +kernel
theorem dX12_runsFrom_25 : decode cX12_runsFrom 25 = .ok (.iastore, 1) := by decide +kernel
theorem dX12_runsFrom_26 : decode cX12_runsFrom 26 = .ok (.aload_n 0, 1) := by decide +kernel
theorem dX12_runsFrom_27 : decode cX12_runsFrom 27 = .ok (.getfield 33, 3) := by decide +kernel
theorem dX12_runsFrom_30 : decode cX12_runsFrom 30 = .ok (.bipush 54, 2) := by decide +kernel
theorem dX12_runsFrom_32 : decode cX12_runsFrom 32 = .ok (.dup2, 1) := by decide +kernel
theorem dX12_runsFrom_33 : decode cX12_runsFrom 33 = .ok (.iaload, 1) := by decide +kernel
theorem dX12_runsFrom_34 : decode cX12_runsFrom 34 = .ok (.iconst 1, 1) := by decide +kernel
theorem dX12_runsFrom_35 : decode cX12_runsFrom 35 = .ok (.iload_n 1, 1) := by decide +kernel
theorem dX12_runsFrom_36 : decode cX12_runsFrom 36 = .ok (.ishl, 1) := by decide +kernel
theorem dX12_runsFrom_37 : decode cX12_runsFrom 37 = .ok (.iconst (-1), 1) := by decide +kernel
theorem dX12_runsFrom_38 : decode cX12_runsFrom 38 = .ok (.ixor, 1) := by decide +kernel
theorem dX12_runsFrom_39 : decode cX12_runsFrom 39 = .ok (.iand, 1) := by decide +kernel
theorem dX12_runsFrom_40 : decode cX12_runsFrom 40 = .ok (.iastore, 1) := by decide +kernel
theorem dX12_runsFrom_41 : decode cX12_runsFrom 41 = .ok (.aload_n 0, 1) := by decide +kernel
theorem dX12_runsFrom_42 : decode cX12_runsFrom 42 = .ok (.getfield 33, 3) := by decide +kernel
theorem dX12_runsFrom_45 : decode cX12_runsFrom 45 = .ok (.bipush 69, 2) := by decide +kernel
theorem dX12_runsFrom_47 : decode cX12_runsFrom 47 = .ok (.iload_n 1, 1) := by decide +kernel
theorem dX12_runsFrom_48 : decode cX12_runsFrom 48 = .ok (.iadd, 1) := by decide +kernel
theorem dX12_runsFrom_49 : decode cX12_runsFrom 49 = .ok (.iconst 0, 1) := by decide +kernel
theorem dX12_runsFrom_50 : decode cX12_runsFrom 50 = .ok (.iastore, 1) := by decide +kernel
theorem dX12_runsFrom_51 : decode cX12_runsFrom 51 = .ok (.return_, 1) := by decide +kernel
set_option maxRecDepth 20000 in
theorem ggX12_stops_X12_readsAt : GoodIn wsX12_stops wsX12_readsAt := goodIn_r _ [6, 1, 7, 8, 9, 5, 10, 11, 12, 13, 14, 15, 16, 17, 18, 19, 20, 21, 22, 23, 24, 25, 26, 27, 28, 29, 30, 31, 32, 33, 34, 35, 36, 37, 38, 39, 40, 41, 42, 43, 44, 45, 46, 47, 48, 49, 50, 51, 52, 53, 54, 55, 56, 57, 58, 59] (by decide +kernel) (by decide +kernel)
set_option maxRecDepth 20000 in
theorem gX12_stops_X12_readsAt : GoodIn wsX12_stops (wsV RX12 256 RX12 yX12_readsAt wsX12_readsAt) := goodIn_app (goodIn_of _ (by decide +kernel)) ggX12_stops_X12_readsAt
theorem dX12_stops_0 : decode cX12_stops 0 = .ok (.aload_n 0, 1) := by decide +kernel
theorem dX12_stops_1 : decode cX12_stops 1 = .ok (.getfield 33, 3) := by decide +kernel
theorem dX12_stops_4 : decode cX12_stops 4 = .ok (.bipush 69, 2) := by decide +kernel
theorem dX12_stops_6 : decode cX12_stops 6 = .ok (.iload_n 1, 1) := by decide +kernel
theorem dX12_stops_7 : decode cX12_stops 7 = .ok (.iadd, 1) := by decide +kernel
theorem dX12_stops_8 : decode cX12_stops 8 = .ok (.aload_n 0, 1) := by decide +kernel
theorem dX12_stops_9 : decode cX12_stops 9 = .ok (.iload_n 1, 1) := by decide +kernel
theorem dX12_stops_10 : decode cX12_stops 10 = .ok (.aload_n 0, 1) := by decide +kernel
theorem dX12_stops_11 : decode cX12_stops 11 = .ok (.getfield 33, 3) := by decide +kernel
theorem dX12_stops_14 : decode cX12_stops 14 = .ok (.bipush 52, 2) := by decide +kernel
theorem dX12_stops_16 : decode cX12_stops 16 = .ok (.iaload, 1) := by decide +kernel
theorem dX12_stops_17 : decode cX12_stops 17 = .ok (.invokevirtual 256, 3) := by decide +kernel
theorem dX12_stops_20 : decode cX12_stops 20 = .ok (.iastore, 1) := by decide +kernel
theorem dX12_stops_21 : decode cX12_stops 21 = .ok (.aload_n 0, 1) := by decide +kernel
theorem dX12_stops_22 : decode cX12_stops 22 = .ok (.getfield 33, 3) := by decide +kernel
theorem dX12_stops_25 : decode cX12_stops 25 = .ok (.bipush 54, 2) := by decide +kernel
theorem dX12_stops_27 : decode cX12_stops 27 = .ok (.dup2, 1) := by decide +kernel
theorem dX12_stops_28 : decode cX12_stops 28 = .ok (.iaload, 1) := by decide +kernel
theorem dX12_stops_29 : decode cX12_stops 29 = .ok (.iconst 1, 1) := by decide +kernel
theorem dX12_stops_30 : decode cX12_stops 30 = .ok (.iload_n 1, 1) := by decide +kernel
theorem dX12_stops_31 : decode cX12_stops 31 = .ok (.ishl, 1) := by decide +kernel
theorem dX12_stops_32 : decode cX12_stops 32 = .ok (.ior, 1) := by decide +kernel
theorem dX12_stops_33 : decode cX12_stops 33 = .ok (.iastore, 1) := by decide +kernel
theorem dX12_stops_34 : decode cX12_stops 34 = .ok (.return_, 1) := by decide +kernel
set_option maxRecDepth 20000 in
theorem ggX12_whyMove_X12_rowOf : GoodIn wsX12_whyMove wsX12_rowOf := goodIn_r _ [6, 1, 7, 8, 9, 10, 11, 12, 13, 14, 15, 16, 17, 18, 19, 20, 21, 22, 23, 24, 25, 26, 27, 28, 29, 30, 31, 32, 33, 34, 35, 36, 37, 38, 39, 40, 41, 42, 43, 44, 45, 46, 47, 48, 49, 50, 51, 52] (by decide +kernel) (by decide +kernel)
set_option maxRecDepth 20000 in
theorem gX12_whyMove_X12_rowOf : GoodIn wsX12_whyMove (wsV RX12 291 RX12 yX12_rowOf wsX12_rowOf) := goodIn_app (goodIn_of _ (by decide +kernel)) ggX12_whyMove_X12_rowOf
theorem dX12_whyMove_0 : decode cX12_whyMove 0 = .ok (.aload_n 0, 1) := by decide +kernel
theorem dX12_whyMove_1 : decode cX12_whyMove 1 = .ok (.bipush 81, 2) := by decide +kernel
theorem dX12_whyMove_3 : decode cX12_whyMove 3 = .ok (.iload_n 1, 1) := by decide +kernel
theorem dX12_whyMove_4 : decode cX12_whyMove 4 = .ok (.invokevirtual 291, 3) := by decide +kernel
theorem dX12_whyMove_7 : decode cX12_whyMove 7 = .ok (.ifCond .eq 7, 3) := by decide +kernel
theorem dX12_whyMove_10 : decode cX12_whyMove 10 = .ok (.iconst 1, 1) := by decide +kernel
theorem dX12_whyMove_11 : decode cX12_whyMove 11 = .ok (.goto 19, 3) := by decide +kernel
theorem dX12_whyMove_14 : decode cX12_whyMove 14 = .ok (.iload_n 2, 1) := by decide +kernel
theorem dX12_whyMove_15 : decode cX12_whyMove 15 = .ok (.aload_n 0, 1) := by decide +kernel
theorem dX12_whyMove_16 : decode cX12_whyMove 16 = .ok (.getfield 33, 3) := by decide +kernel
theorem dX12_whyMove_19 : decode cX12_whyMove 19 = .ok (.bipush 52, 2) := by decide +kernel
theorem dX12_whyMove_21 : decode cX12_whyMove 21 = .ok (.iaload, 1) := by decide +kernel
theorem dX12_whyMove_22 : decode cX12_whyMove 22 = .ok (.if_icmp .gt 7, 3) := by decide +kernel
theorem dX12_whyMove_25 : decode cX12_whyMove 25 = .ok (.iconst 2, 1) := by decide +kernel
theorem dX12_whyMove_26 : decode cX12_whyMove 26 = .ok (.goto 4, 3) := by decide +kernel
theorem dX12_whyMove_29 : decode cX12_whyMove 29 = .ok (.iconst 0, 1) := by decide +kernel
theorem dX12_whyMove_30 : decode cX12_whyMove 30 = .ok (.ireturn, 1) := by decide +kernel
set_option maxRecDepth 20000 in
theorem ggX12_goesTo_X12_isOut : GoodIn wsX12_goesTo wsX12_isOut := goodIn_r _ [6, 1, 7, 8, 5, 9, 21, 22, 23, 24, 25, 26, 27, 28, 29, 30, 31, 32, 33, 34, 35, 36, 37, 38, 39, 40, 41, 42, 43, 44, 45, 46, 47, 48, 49, 50, 51, 52, 53, 54, 55, 56, 57, 58, 59, 60, 61, 62, 63, 64, 65, 66] (by decide +kernel) (by decide +kernel)
set_option maxRecDepth 20000 in
theorem gX12_goesTo_X12_isOut : GoodIn wsX12_goesTo (wsV RX12 279 RX12 yX12_isOut wsX12_isOut) := goodIn_app (goodIn_of _ (by decide +kernel)) ggX12_goesTo_X12_isOut
set_option maxRecDepth 20000 in
theorem ggX12_goesTo_X12_readsAt : GoodIn wsX12_goesTo wsX12_readsAt := goodIn_r _ [13, 1, 14, 15, 16, 5, 17, 7, 8, 9, 21, 22, 23, 24, 25, 26, 27, 28, 29, 30, 31, 32, 33, 34, 35, 36, 37, 38, 39, 40, 41, 42, 43, 44, 45, 46, 47, 48, 49, 50, 51, 52, 53, 54, 55, 56, 57, 58, 59, 60, 61, 62, 63, 64, 65, 66] (by decide +kernel) (by decide +kernel)
set_option maxRecDepth 20000 in
theorem gX12_goesTo_X12_readsAt : GoodIn wsX12_goesTo (wsV RX12 256 RX12 yX12_readsAt wsX12_readsAt) := goodIn_app (goodIn_of _ (by decide +kernel)) ggX12_goesTo_X12_readsAt
set_option maxRecDepth 20000 in
theorem ggX12_goesTo_X12_greater : GoodIn wsX12_goesTo wsX12_greater := goodIn_r _ [20] (by decide +kernel) (by decide +kernel)
set_option maxRecDepth 20000 in
theorem gX12_goesTo_X12_greater : GoodIn wsX12_goesTo (va_wsS RX12 294 yX12_greater wsX12_greater) := goodIn_app (goodIn_of _ (by decide +kernel)) ggX12_goesTo_X12_greater
theorem dX12_goesTo_0 : decode cX12_goesTo 0 = .ok (.bipush 6, 2) := by decide +kernel
theorem dX12_goesTo_2 : decode cX12_goesTo 2 = .ok (.iload_n 2, 1) := by decide +kernel
theorem dX12_goesTo_3 : decode cX12_goesTo 3 = .ok (.imul, 1) := by decide +kernel
theorem dX12_goesTo_4 : decode cX12_goesTo 4 = .ok (.iload_n 1, 1) := by decide +kernel
theorem dX12_goesTo_5 : decode cX12_goesTo 5 = .ok (.iadd, 1) := by decide +kernel
theorem dX12_goesTo_6 : decode cX12_goesTo 6 = .ok (.istore_n 3, 1) := by decide +kernel
theorem dX12_goesTo_7 : decode cX12_goesTo 7 = .ok (.aload_n 0, 1) := by decide +kernel
theorem dX12_goesTo_8 : decode cX12_goesTo 8 = .ok (.getfield 33, 3) := by decide +kernel
theorem dX12_goesTo_11 : decode cX12_goesTo 11 = .ok (.bipush 52, 2) := by decide +kernel
theorem dX12_goesTo_13 : decode cX12_goesTo 13 = .ok (.iaload, 1) := by decide +kernel
theorem dX12_goesTo_14 : decode cX12_goesTo 14 = .ok (.istore 4, 2) := by decide +kernel
theorem dX12_goesTo_16 : decode cX12_goesTo 16 = .ok (.aload_n 0, 1) := by decide +kernel
theorem dX12_goesTo_17 : decode cX12_goesTo 17 = .ok (.iload_n 1, 1) := by decide +kernel
theorem dX12_goesTo_18 : decode cX12_goesTo 18 = .ok (.invokevirtual 279, 3) := by decide +kernel
theorem dX12_goesTo_21 : decode cX12_goesTo 21 = .ok (.ifCond .ne 65, 3) := by decide +kernel
theorem dX12_goesTo_24 : decode cX12_goesTo 24 = .ok (.aload_n 0, 1) := by decide +kernel
theorem dX12_goesTo_25 : decode cX12_goesTo 25 = .ok (.getfield 33, 3) := by decide +kernel
theorem dX12_goesTo_28 : decode cX12_goesTo 28 = .ok (.bipush 81, 2) := by decide +kernel
theorem dX12_goesTo_30 : decode cX12_goesTo 30 = .ok (.iload_n 3, 1) := by decide +kernel
theorem dX12_goesTo_31 : decode cX12_goesTo 31 = .ok (.iadd, 1) := by decide +kernel
theorem dX12_goesTo_32 : decode cX12_goesTo 32 = .ok (.iaload, 1) := by decide +kernel
theorem dX12_goesTo_33 : decode cX12_goesTo 33 = .ok (.ifCond .ne 53, 3) := by decide +kernel
theorem dX12_goesTo_36 : decode cX12_goesTo 36 = .ok (.aload_n 0, 1) := by decide +kernel
theorem dX12_goesTo_37 : decode cX12_goesTo 37 = .ok (.aload_n 0, 1) := by decide +kernel
theorem dX12_goesTo_38 : decode cX12_goesTo 38 = .ok (.getfield 33, 3) := by decide +kernel
theorem dX12_goesTo_41 : decode cX12_goesTo 41 = .ok (.bipush 34, 2) := by decide +kernel
theorem dX12_goesTo_43 : decode cX12_goesTo 43 = .ok (.iload_n 1, 1) := by decide +kernel
theorem dX12_goesTo_44 : decode cX12_goesTo 44 = .ok (.iadd, 1) := by decide +kernel
theorem dX12_goesTo_45 : decode cX12_goesTo 45 = .ok (.iaload, 1) := by decide +kernel
