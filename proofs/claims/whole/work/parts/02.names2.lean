theorem dX0_init_0 : decode cX0_init 0 = .ok (.aload_n 0, 1) := by decide +kernel
theorem dX0_init_1 : decode cX0_init 1 = .ok (.invokespecial 3, 3) := by decide +kernel
theorem dX0_init_4 : decode cX0_init 4 = .ok (.aload_n 0, 1) := by decide +kernel
theorem dX0_init_5 : decode cX0_init 5 = .ok (.iconst 0, 1) := by decide +kernel
theorem dX0_init_6 : decode cX0_init 6 = .ok (.putfield 9, 3) := by decide +kernel
theorem dX0_init_9 : decode cX0_init 9 = .ok (.aload_n 0, 1) := by decide +kernel
theorem dX0_init_10 : decode cX0_init 10 = .ok (.bipush 40, 2) := by decide +kernel
theorem dX0_init_12 : decode cX0_init 12 = .ok (.newarray .int, 2) := by decide +kernel
theorem dX0_init_14 : decode cX0_init 14 = .ok (.putfield 15, 3) := by decide +kernel
theorem dX0_init_17 : decode cX0_init 17 = .ok (.aload_n 0, 1) := by decide +kernel
theorem dX0_init_18 : decode cX0_init 18 = .ok (.bipush 40, 2) := by decide +kernel
theorem dX0_init_20 : decode cX0_init 20 = .ok (.newarray .int, 2) := by decide +kernel
theorem dX0_init_22 : decode cX0_init 22 = .ok (.putfield 19, 3) := by decide +kernel
theorem dX0_init_25 : decode cX0_init 25 = .ok (.aload_n 0, 1) := by decide +kernel
theorem dX0_init_26 : decode cX0_init 26 = .ok (.bipush 40, 2) := by decide +kernel
theorem dX0_init_28 : decode cX0_init 28 = .ok (.newarray .int, 2) := by decide +kernel
theorem dX0_init_30 : decode cX0_init 30 = .ok (.putfield 22, 3) := by decide +kernel
theorem dX0_init_33 : decode cX0_init 33 = .ok (.aload_n 0, 1) := by decide +kernel
theorem dX0_init_34 : decode cX0_init 34 = .ok (.iconst 0, 1) := by decide +kernel
theorem dX0_init_35 : decode cX0_init 35 = .ok (.putfield 25, 3) := by decide +kernel
theorem dX0_init_38 : decode cX0_init 38 = .ok (.aload_n 0, 1) := by decide +kernel
theorem dX0_init_39 : decode cX0_init 39 = .ok (.iconst 0, 1) := by decide +kernel
theorem dX0_init_40 : decode cX0_init 40 = .ok (.putfield 29, 3) := by decide +kernel
theorem dX0_init_43 : decode cX0_init 43 = .ok (.aload_n 0, 1) := by decide +kernel
theorem dX0_init_44 : decode cX0_init 44 = .ok (.iconst 0, 1) := by decide +kernel
theorem dX0_init_45 : decode cX0_init 45 = .ok (.putfield 32, 3) := by decide +kernel
theorem dX0_init_48 : decode cX0_init 48 = .ok (.aload_n 0, 1) := by decide +kernel
theorem dX0_init_49 : decode cX0_init 49 = .ok (.iconst 0, 1) := by decide +kernel
theorem dX0_init_50 : decode cX0_init 50 = .ok (.putfield 35, 3) := by decide +kernel
theorem dX0_init_53 : decode cX0_init 53 = .ok (.aload_n 0, 1) := by decide +kernel
theorem dX0_init_54 : decode cX0_init 54 = .ok (.iconst 0, 1) := by decide +kernel
theorem dX0_init_55 : decode cX0_init 55 = .ok (.putfield 38, 3) := by decide +kernel
theorem dX0_init_58 : decode cX0_init 58 = .ok (.aload_n 0, 1) := by decide +kernel
theorem dX0_init_59 : decode cX0_init 59 = .ok (.aload_n 1, 1) := by decide +kernel
theorem dX0_init_60 : decode cX0_init 60 = .ok (.putfield 41, 3) := by decide +kernel
theorem dX0_init_63 : decode cX0_init 63 = .ok (.aload_n 0, 1) := by decide +kernel
theorem dX0_init_64 : decode cX0_init 64 = .ok (.aload_n 2, 1) := by decide +kernel
theorem dX0_init_65 : decode cX0_init 65 = .ok (.putfield 45, 3) := by decide +kernel
theorem dX0_init_68 : decode cX0_init 68 = .ok (.return_, 1) := by decide +kernel
set_option maxRecDepth 20000 in
theorem ggX0_read_X8_open : GoodIn wsX0_read wsX8_open := goodIn_r _ [7, 8, 9, 10, 11, 12, 13, 14, 15, 16, 17, 18, 19, 20, 21, 22, 23, 6, 24, 25, 26, 27, 28, 29, 30, 31, 32, 33, 34, 35, 36, 37, 38, 39, 40, 41, 42, 43, 44, 45, 46, 47, 48, 49, 50, 51, 52, 53, 54, 55, 56, 57, 58, 59, 60, 61, 62, 63, 64, 65, 66, 67, 68, 69, 70, 71, 72, 73, 74, 75, 76, 77, 78, 79, 80, 81, 82, 83, 84, 85, 86, 87, 88, 89, 90, 91, 92, 93, 94, 95, 96, 97, 98, 99, 100, 101, 102, 103, 104, 105, 106, 107, 108, 109, 110, 111, 112, 187, 188, 189, 190, 191, 192, 193, 194, 195, 196, 197, 198, 199, 200, 201] (by decide +kernel) (by decide +kernel)
set_option maxRecDepth 20000 in
theorem gX0_read_X8_open : GoodIn wsX0_read (wsV RX0 49 RX8 yX8_open wsX8_open) := goodIn_app (goodIn_of _ (by decide +kernel)) ggX0_read_X8_open
set_option maxRecDepth 20000 in
theorem ggX0_read_X8_isAtEnd : GoodIn wsX0_read wsX8_isAtEnd := goodIn_r _ [116, 109, 187, 188, 189, 190, 191, 192, 193, 194, 195, 196, 197, 198, 199] (by decide +kernel) (by decide +kernel)
set_option maxRecDepth 20000 in
theorem gX0_read_X8_isAtEnd : GoodIn wsX0_read (wsV RX0 55 RX8 yX8_isAtEnd wsX8_isAtEnd) := goodIn_app (goodIn_of _ (by decide +kernel)) ggX0_read_X8_isAtEnd
set_option maxRecDepth 20000 in
theorem ggX0_read_X0_readLine : GoodIn wsX0_read wsX0_readLine := goodIn_r _ [121, 2, 122, 123, 124, 125, 126, 1, 127, 128, 129, 6, 130, 109, 112, 131, 132, 133, 134, 18, 110, 19, 135, 136, 137, 138, 139, 140, 106, 107, 108, 20, 14, 98, 99, 100, 111, 101, 141, 142, 143, 120, 144, 145, 146, 147, 148, 149, 150, 151, 152, 105, 153, 154, 155, 156, 157, 158, 159, 160, 161, 162, 163, 164, 165, 166, 167, 176, 177, 178, 179, 180, 181, 182, 183, 184, 185, 186, 187, 188, 189, 190, 191, 192, 193, 194, 195, 196, 197, 198, 199, 202, 203, 204, 205, 206, 207, 208, 209, 210, 211, 212, 213, 214, 215, 216] (by decide +kernel) (by decide +kernel)
set_option maxRecDepth 20000 in
theorem gX0_read_X0_readLine : GoodIn wsX0_read (wsV RX0 59 RX0 yX0_readLine wsX0_readLine) := goodIn_app (goodIn_of _ (by decide +kernel)) ggX0_read_X0_readLine
set_option maxRecDepth 20000 in
theorem ggX0_read_X8_takeSymbol : GoodIn wsX0_read wsX8_takeSymbol := goodIn_r _ [171, 172, 173, 174, 6, 175, 109, 111, 131, 132, 133, 134, 18, 110, 19, 105, 106, 107, 108, 20, 14, 98, 99, 100, 101, 112, 187, 188, 189, 190, 191, 192, 193, 194, 195, 196, 197, 198, 199] (by decide +kernel) (by decide +kernel)
set_option maxRecDepth 20000 in
theorem gX0_read_X8_takeSymbol : GoodIn wsX0_read (wsV RX0 62 RX8 yX8_takeSymbol wsX8_takeSymbol) := goodIn_app (goodIn_of _ (by decide +kernel)) ggX0_read_X8_takeSymbol
theorem dX0_read_0 : decode cX0_read 0 = .ok (.aload_n 0, 1) := by decide +kernel
theorem dX0_read_1 : decode cX0_read 1 = .ok (.iconst 0, 1) := by decide +kernel
theorem dX0_read_2 : decode cX0_read 2 = .ok (.putfield 9, 3) := by decide +kernel
theorem dX0_read_5 : decode cX0_read 5 = .ok (.aload_n 0, 1) := by decide +kernel
theorem dX0_read_6 : decode cX0_read 6 = .ok (.getfield 41, 3) := by decide +kernel
theorem dX0_read_9 : decode cX0_read 9 = .ok (.sipush 400, 3) := by decide +kernel
theorem dX0_read_12 : decode cX0_read 12 = .ok (.invokevirtual 49, 3) := by decide +kernel
theorem dX0_read_15 : decode cX0_read 15 = .ok (.aload_n 0, 1) := by decide +kernel
theorem dX0_read_16 : decode cX0_read 16 = .ok (.getfield 9, 3) := by decide +kernel
theorem dX0_read_19 : decode cX0_read 19 = .ok (.bipush 40, 2) := by decide +kernel
theorem dX0_read_21 : decode cX0_read 21 = .ok (.if_icmp .gt 45, 3) := by decide +kernel
theorem dX0_read_24 : decode cX0_read 24 = .ok (.aload_n 0, 1) := by decide +kernel
theorem dX0_read_25 : decode cX0_read 25 = .ok (.getfield 41, 3) := by decide +kernel
theorem dX0_read_28 : decode cX0_read 28 = .ok (.invokevirtual 55, 3) := by decide +kernel
theorem dX0_read_31 : decode cX0_read 31 = .ok (.ifCond .ne 35, 3) := by decide +kernel
theorem dX0_read_34 : decode cX0_read 34 = .ok (.aload_n 0, 1) := by decide +kernel
theorem dX0_read_35 : decode cX0_read 35 = .ok (.invokevirtual 59, 3) := by decide +kernel
theorem dX0_read_38 : decode cX0_read 38 = .ok (.ifCond .eq 28, 3) := by decide +kernel
theorem dX0_read_41 : decode cX0_read 41 = .ok (.aload_n 0, 1) := by decide +kernel
theorem dX0_read_42 : decode cX0_read 42 = .ok (.getfield 41, 3) := by decide +kernel
theorem dX0_read_45 : decode cX0_read 45 = .ok (.bipush 59, 2) := by decide +kernel
theorem dX0_read_47 : decode cX0_read 47 = .ok (.invokevirtual 62, 3) := by decide +kernel
theorem dX0_read_50 : decode cX0_read 50 = .ok (.ifCond .eq 16, 3) := by decide +kernel
theorem dX0_read_53 : decode cX0_read 53 = .ok (.aload_n 0, 1) := by decide +kernel
theorem dX0_read_54 : decode cX0_read 54 = .ok (.dup, 1) := by decide +kernel
theorem dX0_read_55 : decode cX0_read 55 = .ok (.getfield 9, 3) := by decide +kernel
theorem dX0_read_58 : decode cX0_read 58 = .ok (.iconst 1, 1) := by decide +kernel
theorem dX0_read_59 : decode cX0_read 59 = .ok (.iadd, 1) := by decide +kernel
theorem dX0_read_60 : decode cX0_read 60 = .ok (.putfield 9, 3) := by decide +kernel
theorem dX0_read_63 : decode cX0_read 63 = .ok (.goto (-48), 3) := by decide +kernel
theorem dX0_read_66 : decode cX0_read 66 = .ok (.return_, 1) := by decide +kernel
set_option maxRecDepth 20000 in
theorem ggX0_readLine_X8_findName : GoodIn wsX0_readLine wsX8_findName := goodIn_r _ [12, 13, 14, 15, 16, 17, 11, 18, 19, 20, 21, 22, 23, 24, 25, 78, 79, 80, 81, 82, 83, 84, 85, 86, 87, 88, 89, 90] (by decide +kernel) (by decide +kernel)
set_option maxRecDepth 20000 in
theorem gX0_readLine_X8_findName : GoodIn wsX0_readLine (wsV RX0 78 RX8 yX8_findName wsX8_findName) := goodIn_app (goodIn_of _ (by decide +kernel)) ggX0_readLine_X8_findName
set_option maxRecDepth 20000 in
theorem ggX0_readLine_X8_refuse : GoodIn wsX0_readLine wsX8_refuse := goodIn_r _ [18, 19, 20, 21, 78, 79, 80, 81, 82, 83, 84, 85, 86, 87, 88, 89, 90] (by decide +kernel) (by decide +kernel)
set_option maxRecDepth 20000 in
theorem gX0_readLine_X8_refuse : GoodIn wsX0_readLine (wsV RX0 85 RX8 yX8_refuse wsX8_refuse) := goodIn_app (goodIn_of _ (by decide +kernel)) ggX0_readLine_X8_refuse
set_option maxRecDepth 20000 in
theorem ggX0_readLine_X8_advance : GoodIn wsX0_readLine wsX8_advance := goodIn_r _ [30, 31, 32, 33, 13, 34, 20, 35, 36, 37, 14, 78, 79, 80, 81, 82, 83, 84, 85, 86, 87, 88, 89, 90] (by decide +kernel) (by decide +kernel)
set_option maxRecDepth 20000 in
theorem gX0_readLine_X8_advance : GoodIn wsX0_readLine (wsV RX0 88 RX8 yX8_advance wsX8_advance) := goodIn_app (goodIn_of _ (by decide +kernel)) ggX0_readLine_X8_advance
set_option maxRecDepth 20000 in
theorem ggX0_readLine_X0_readAct : GoodIn wsX0_readLine wsX0_readAct := goodIn_r _ [42, 1, 3, 43, 44, 45, 46, 47, 48, 49, 11, 50, 36, 13, 15, 16, 17, 18, 19, 20, 21, 51, 28, 29, 30, 31, 32, 33, 34, 35, 37, 14, 52, 53, 54, 41, 55, 56, 7, 57, 58, 8, 9, 10, 12, 22, 23, 24, 25, 27, 67, 68, 69, 70, 71, 72, 73, 74, 75, 76, 77, 91, 92, 93, 94, 95, 96, 97, 98, 99, 100, 101, 102, 103, 104, 105, 78, 79, 80, 81, 82, 83, 84, 85, 86, 87, 88, 89, 90] (by decide +kernel) (by decide +kernel)
set_option maxRecDepth 20000 in
theorem gX0_readLine_X0_readAct : GoodIn wsX0_readLine (wsV RX0 91 RX0 yX0_readAct wsX0_readAct) := goodIn_app (goodIn_of _ (by decide +kernel)) ggX0_readLine_X0_readAct
set_option maxRecDepth 20000 in
theorem ggX0_readLine_X0_readSets : GoodIn wsX0_readLine wsX0_readSets := goodIn_r _ [62, 1, 3, 45, 46, 63, 64, 65, 11, 66, 13, 36, 26, 16, 17, 18, 19, 20, 21, 27, 28, 29, 30, 31, 32, 33, 34, 35, 37, 14, 8, 9, 10, 12, 15, 22, 23, 24, 25, 52, 53, 54, 41, 55, 56, 7, 57, 58, 67, 68, 69, 70, 71, 72, 73, 74, 75, 76, 77, 91, 92, 93, 94, 95, 96, 97, 98, 99, 100, 101, 102, 103, 104, 105, 78, 79, 80, 81, 82, 83, 84, 85, 86, 87, 88, 89, 90] (by decide +kernel) (by decide +kernel)
set_option maxRecDepth 20000 in
theorem gX0_readLine_X0_readSets : GoodIn wsX0_readLine (wsV RX0 94 RX0 yX0_readSets wsX0_readSets) := goodIn_app (goodIn_of _ (by decide +kernel)) ggX0_readLine_X0_readSets
theorem dX0_readLine_0 : decode cX0_readLine 0 = .ok (.iconst (-1), 1) := by decide +kernel
theorem dX0_readLine_1 : decode cX0_readLine 1 = .ok (.istore_n 1, 1) := by decide +kernel
theorem dX0_readLine_2 : decode cX0_readLine 2 = .ok (.aload_n 0, 1) := by decide +kernel
theorem dX0_readLine_3 : decode cX0_readLine 3 = .ok (.getfield 41, 3) := by decide +kernel
theorem dX0_readLine_6 : decode cX0_readLine 6 = .ok (.getfield 66, 3) := by decide +kernel
theorem dX0_readLine_9 : decode cX0_readLine 9 = .ok (.iconst 2, 1) := by decide +kernel
theorem dX0_readLine_10 : decode cX0_readLine 10 = .ok (.if_icmp .ne 32, 3) := by decide +kernel
theorem dX0_readLine_13 : decode cX0_readLine 13 = .ok (.aload_n 0, 1) := by decide +kernel
theorem dX0_readLine_14 : decode cX0_readLine 14 = .ok (.getfield 41, 3) := by decide +kernel
theorem dX0_readLine_17 : decode cX0_readLine 17 = .ok (.aload_n 0, 1) := by decide +kernel
theorem dX0_readLine_18 : decode cX0_readLine 18 = .ok (.getfield 45, 3) := by decide +kernel
theorem dX0_readLine_21 : decode cX0_readLine 21 = .ok (.getfield 69, 3) := by decide +kernel
theorem dX0_readLine_24 : decode cX0_readLine 24 = .ok (.aload_n 0, 1) := by decide +kernel
theorem dX0_readLine_25 : decode cX0_readLine 25 = .ok (.getfield 45, 3) := by decide +kernel
theorem dX0_readLine_28 : decode cX0_readLine 28 = .ok (.getfield 75, 3) := by decide +kernel
theorem dX0_readLine_31 : decode cX0_readLine 31 = .ok (.invokevirtual 78, 3) := by decide +kernel
theorem dX0_readLine_34 : decode cX0_readLine 34 = .ok (.istore_n 1, 1) := by decide +kernel
theorem dX0_readLine_35 : decode cX0_readLine 35 = .ok (.iload_n 1, 1) := by decide +kernel
theorem dX0_readLine_36 : decode cX0_readLine 36 = .ok (.iconst (-1), 1) := by decide +kernel
theorem dX0_readLine_37 : decode cX0_readLine 37 = .ok (.if_icmp .ne 49, 3) := by decide +kernel
theorem dX0_readLine_40 : decode cX0_readLine 40 = .ok (.iconst 0, 1) := by decide +kernel
theorem dX0_readLine_41 : decode cX0_readLine 41 = .ok (.ireturn, 1) := by decide +kernel
theorem dX0_readLine_42 : decode cX0_readLine 42 = .ok (.aload_n 0, 1) := by decide +kernel
theorem dX0_readLine_43 : decode cX0_readLine 43 = .ok (.getfield 41, 3) := by decide +kernel
theorem dX0_readLine_46 : decode cX0_readLine 46 = .ok (.getfield 66, 3) := by decide +kernel
theorem dX0_readLine_49 : decode cX0_readLine 49 = .ok (.iconst 3, 1) := by decide +kernel
theorem dX0_readLine_50 : decode cX0_readLine 50 = .ok (.if_icmp .ne 27, 3) := by decide +kernel
theorem dX0_readLine_53 : decode cX0_readLine 53 = .ok (.aload_n 0, 1) := by decide +kernel
theorem dX0_readLine_54 : decode cX0_readLine 54 = .ok (.getfield 41, 3) := by decide +kernel
theorem dX0_readLine_57 : decode cX0_readLine 57 = .ok (.getfield 82, 3) := by decide +kernel
theorem dX0_readLine_60 : decode cX0_readLine 60 = .ok (.bipush 10, 2) := by decide +kernel
theorem dX0_readLine_62 : decode cX0_readLine 62 = .ok (.if_icmp .lt 15, 3) := by decide +kernel
theorem dX0_readLine_65 : decode cX0_readLine 65 = .ok (.aload_n 0, 1) := by decide +kernel
theorem dX0_readLine_66 : decode cX0_readLine 66 = .ok (.getfield 41, 3) := by decide +kernel
theorem dX0_readLine_69 : decode cX0_readLine 69 = .ok (.getfield 82, 3) := by decide +kernel
theorem dX0_readLine_72 : decode cX0_readLine 72 = .ok (.bipush 13, 2) := by decide +kernel
theorem dX0_readLine_74 : decode cX0_readLine 74 = .ok (.if_icmp .le 12, 3) := by decide +kernel
theorem dX0_readLine_77 : decode cX0_readLine 77 = .ok (.aload_n 0, 1) := by decide +kernel
theorem dX0_readLine_78 : decode cX0_readLine 78 = .ok (.getfield 41, 3) := by decide +kernel
theorem dX0_readLine_81 : decode cX0_readLine 81 = .ok (.iconst 1, 1) := by decide +kernel
theorem dX0_readLine_82 : decode cX0_readLine 82 = .ok (.invokevirtual 85, 3) := by decide +kernel
theorem dX0_readLine_85 : decode cX0_readLine 85 = .ok (.ireturn, 1) := by decide +kernel
theorem dX0_readLine_86 : decode cX0_readLine 86 = .ok (.aload_n 0, 1) := by decide +kernel
theorem dX0_readLine_87 : decode cX0_readLine 87 = .ok (.getfield 9, 3) := by decide +kernel
theorem dX0_readLine_90 : decode cX0_readLine 90 = .ok (.bipush 40, 2) := by decide +kernel
theorem dX0_readLine_92 : decode cX0_readLine 92 = .ok (.if_icmp .lt 12, 3) := by decide +kernel
theorem dX0_readLine_95 : decode cX0_readLine 95 = .ok (.aload_n 0, 1) := by decide +kernel
theorem dX0_readLine_96 : decode cX0_readLine 96 = .ok (.getfield 41, 3) := by decide +kernel
theorem dX0_readLine_99 : decode cX0_readLine 99 = .ok (.iconst 4, 1) := by decide +kernel
theorem dX0_readLine_100 : decode cX0_readLine 100 = .ok (.invokevirtual 85, 3) := by decide +kernel
theorem dX0_readLine_103 : decode cX0_readLine 103 = .ok (.ireturn, 1) := by decide +kernel
theorem dX0_readLine_104 : decode cX0_readLine 104 = .ok (.aload_n 0, 1) := by decide +kernel
theorem dX0_readLine_105 : decode cX0_readLine 105 = .ok (.getfield 41, 3) := by decide +kernel
theorem dX0_readLine_108 : decode cX0_readLine 108 = .ok (.getfield 82, 3) := by decide +kernel
theorem dX0_readLine_111 : decode cX0_readLine 111 = .ok (.istore_n 2, 1) := by decide +kernel
theorem dX0_readLine_112 : decode cX0_readLine 112 = .ok (.aload_n 0, 1) := by decide +kernel
theorem dX0_readLine_113 : decode cX0_readLine 113 = .ok (.getfield 41, 3) := by decide +kernel
theorem dX0_readLine_116 : decode cX0_readLine 116 = .ok (.invokevirtual 88, 3) := by decide +kernel
theorem dX0_readLine_119 : decode cX0_readLine 119 = .ok (.iload_n 1, 1) := by decide +kernel
theorem dX0_readLine_120 : decode cX0_readLine 120 = .ok (.iconst (-1), 1) := by decide +kernel
theorem dX0_readLine_121 : decode cX0_readLine 121 = .ok (.if_icmp .ne 11, 3) := by decide +kernel
theorem dX0_readLine_124 : decode cX0_readLine 124 = .ok (.aload_n 0, 1) := by decide +kernel
theorem dX0_readLine_125 : decode cX0_readLine 125 = .ok (.iload_n 2, 1) := by decide +kernel
theorem dX0_readLine_126 : decode cX0_readLine 126 = .ok (.invokevirtual 91, 3) := by decide +kernel
theorem dX0_readLine_129 : decode cX0_readLine 129 = .ok (.goto 8, 3) := by decide +kernel
theorem dX0_readLine_132 : decode cX0_readLine 132 = .ok (.aload_n 0, 1) := by decide +kernel
theorem dX0_readLine_133 : decode cX0_readLine 133 = .ok (.iload_n 1, 1) := by decide +kernel
theorem dX0_readLine_134 : decode cX0_readLine 134 = .ok (.invokevirtual 94, 3) := by decide +kernel
theorem dX0_readLine_137 : decode cX0_readLine 137 = .ok (.ireturn, 1) := by decide +kernel
set_option maxRecDepth 20000 in
theorem ggX0_readSets_X8_isKeyword : GoodIn wsX0_readSets wsX8_isKeyword := goodIn_r _ [9, 10, 11, 74, 75, 76, 77, 78, 79, 80, 81, 82, 83, 84, 85, 86] (by decide +kernel) (by decide +kernel)
set_option maxRecDepth 20000 in
theorem gX0_readSets_X8_isKeyword : GoodIn wsX0_readSets (wsV RX0 97 RX8 yX8_isKeyword wsX8_isKeyword) := goodIn_app (goodIn_of _ (by decide +kernel)) ggX0_readSets_X8_isKeyword
set_option maxRecDepth 20000 in
theorem ggX0_readSets_X8_refuse : GoodIn wsX0_readSets wsX8_refuse := goodIn_r _ [15, 16, 17, 18, 74, 75, 76, 77, 78, 79, 80, 81, 82, 83, 84, 85, 86] (by decide +kernel) (by decide +kernel)
set_option maxRecDepth 20000 in
theorem gX0_readSets_X8_refuse : GoodIn wsX0_readSets (wsV RX0 85 RX8 yX8_refuse wsX8_refuse) := goodIn_app (goodIn_of _ (by decide +kernel)) ggX0_readSets_X8_refuse
set_option maxRecDepth 20000 in
theorem ggX0_readSets_X8_advance : GoodIn wsX0_readSets wsX8_advance := goodIn_r _ [22, 23, 24, 25, 10, 26, 17, 27, 11, 28, 29, 74, 75, 76, 77, 78, 79, 80, 81, 82, 83, 84, 85, 86] (by decide +kernel) (by decide +kernel)
set_option maxRecDepth 20000 in
theorem gX0_readSets_X8_advance : GoodIn wsX0_readSets (wsV RX0 88 RX8 yX8_advance wsX8_advance) := goodIn_app (goodIn_of _ (by decide +kernel)) ggX0_readSets_X8_advance
set_option maxRecDepth 20000 in
theorem ggX0_readSets_X8_findName : GoodIn wsX0_readSets wsX8_findName := goodIn_r _ [33, 10, 29, 34, 13, 14, 8, 15, 16, 17, 18, 35, 36, 37, 38, 74, 75, 76, 77, 78, 79, 80, 81, 82, 83, 84, 85, 86] (by decide +kernel) (by decide +kernel)
set_option maxRecDepth 20000 in
theorem gX0_readSets_X8_findName : GoodIn wsX0_readSets (wsV RX0 78 RX8 yX8_findName wsX8_findName) := goodIn_app (goodIn_of _ (by decide +kernel)) ggX0_readSets_X8_findName
set_option maxRecDepth 20000 in
theorem ggX0_readSets_X0_write : GoodIn wsX0_readSets wsX0_write := goodIn_r _ [43, 44, 45, 46, 47, 48, 49, 50, 51, 52, 53, 54, 55, 56, 57, 58] (by decide +kernel) (by decide +kernel)
set_option maxRecDepth 20000 in
theorem gX0_readSets_X0_write : GoodIn wsX0_readSets (wsV RX0 106 RX0 yX0_write wsX0_write) := goodIn_app (goodIn_of _ (by decide +kernel)) ggX0_readSets_X0_write
theorem dX0_readSets_0 : decode cX0_readSets 0 = .ok (.aload_n 0, 1) := by decide +kernel
theorem dX0_readSets_1 : decode cX0_readSets 1 = .ok (.getfield 41, 3) := by decide +kernel
theorem dX0_readSets_4 : decode cX0_readSets 4 = .ok (.bipush 9, 2) := by decide +kernel
theorem dX0_readSets_6 : decode cX0_readSets 6 = .ok (.invokevirtual 97, 3) := by decide +kernel
theorem dX0_readSets_9 : decode cX0_readSets 9 = .ok (.ifCond .ne 12, 3) := by decide +kernel
theorem dX0_readSets_12 : decode cX0_readSets 12 = .ok (.aload_n 0, 1) := by decide +kernel
theorem dX0_readSets_13 : decode cX0_readSets 13 = .ok (.getfield 41, 3) := by decide +kernel
theorem dX0_readSets_16 : decode cX0_readSets 16 = .ok (.iconst 1, 1) := by decide +kernel
theorem dX0_readSets_17 : decode cX0_readSets 17 = .ok (.invokevirtual 85, 3) := by decide +kernel
theorem dX0_readSets_20 : decode cX0_readSets 20 = .ok (.ireturn, 1) := by decide +kernel
theorem dX0_readSets_21 : decode cX0_readSets 21 = .ok (.aload_n 0, 1) := by decide +kernel
theorem dX0_readSets_22 : decode cX0_readSets 22 = .ok (.getfield 41, 3) := by decide +kernel
theorem dX0_readSets_25 : decode cX0_readSets 25 = .ok (.invokevirtual 88, 3) := by decide +kernel
theorem dX0_readSets_28 : decode cX0_readSets 28 = .ok (.aload_n 0, 1) := by decide +kernel
theorem dX0_readSets_29 : decode cX0_readSets 29 = .ok (.getfield 41, 3) := by decide +kernel
theorem dX0_readSets_32 : decode cX0_readSets 32 = .ok (.aload_n 0, 1) := by decide +kernel
theorem dX0_readSets_33 : decode cX0_readSets 33 = .ok (.getfield 45, 3) := by decide +kernel
theorem dX0_readSets_36 : decode cX0_readSets 36 = .ok (.getfield 100, 3) := by decide +kernel
theorem dX0_readSets_39 : decode cX0_readSets 39 = .ok (.aload_n 0, 1) := by decide +kernel
theorem dX0_readSets_40 : decode cX0_readSets 40 = .ok (.getfield 45, 3) := by decide +kernel
theorem dX0_readSets_43 : decode cX0_readSets 43 = .ok (.getfield 103, 3) := by decide +kernel
theorem dX0_readSets_46 : decode cX0_readSets 46 = .ok (.invokevirtual 78, 3) := by decide +kernel
theorem dX0_readSets_49 : decode cX0_readSets 49 = .ok (.istore_n 2, 1) := by decide +kernel
theorem dX0_readSets_50 : decode cX0_readSets 50 = .ok (.aload_n 0, 1) := by decide +kernel
theorem dX0_readSets_51 : decode cX0_readSets 51 = .ok (.getfield 41, 3) := by decide +kernel
theorem dX0_readSets_54 : decode cX0_readSets 54 = .ok (.invokevirtual 88, 3) := by decide +kernel
theorem dX0_readSets_57 : decode cX0_readSets 57 = .ok (.iload_n 2, 1) := by decide +kernel
theorem dX0_readSets_58 : decode cX0_readSets 58 = .ok (.iconst (-1), 1) := by decide +kernel
theorem dX0_readSets_59 : decode cX0_readSets 59 = .ok (.if_icmp .eq 18, 3) := by decide +kernel
theorem dX0_readSets_62 : decode cX0_readSets 62 = .ok (.aload_n 0, 1) := by decide +kernel
theorem dX0_readSets_63 : decode cX0_readSets 63 = .ok (.bipush 9, 2) := by decide +kernel
theorem dX0_readSets_65 : decode cX0_readSets 65 = .ok (.iload_n 1, 1) := by decide +kernel
theorem dX0_readSets_66 : decode cX0_readSets 66 = .ok (.iload_n 2, 1) := by decide +kernel
theorem dX0_readSets_67 : decode cX0_readSets 67 = .ok (.invokevirtual 106, 3) := by decide +kernel
theorem dX0_readSets_70 : decode cX0_readSets 70 = .ok (.ifCond .eq 7, 3) := by decide +kernel
theorem dX0_readSets_73 : decode cX0_readSets 73 = .ok (.iconst 1, 1) := by decide +kernel
theorem dX0_readSets_74 : decode cX0_readSets 74 = .ok (.goto 4, 3) := by decide +kernel
theorem dX0_readSets_77 : decode cX0_readSets 77 = .ok (.iconst 0, 1) := by decide +kernel
theorem dX0_readSets_78 : decode cX0_readSets 78 = .ok (.ireturn, 1) := by decide +kernel
set_option maxRecDepth 20000 in
theorem ggX0_readAct_X8_takeNumber : GoodIn wsX0_readAct wsX8_takeNumber := goodIn_r _ [11, 12, 13, 14, 15, 16, 10, 17, 18, 19, 20, 21, 22, 23, 24, 25, 26, 27, 28, 29, 30, 31, 76, 77, 78, 79, 80, 81, 82, 83, 84, 85, 86, 87, 88] (by decide +kernel) (by decide +kernel)
set_option maxRecDepth 20000 in
theorem gX0_readAct_X8_takeNumber : GoodIn wsX0_readAct (wsV RX0 110 RX8 yX8_takeNumber wsX8_takeNumber) := goodIn_app (goodIn_of _ (by decide +kernel)) ggX0_readAct_X8_takeNumber
set_option maxRecDepth 20000 in
theorem ggX0_readAct_X0_write : GoodIn wsX0_readAct wsX0_write := goodIn_r _ [36, 37, 38, 39, 40, 50, 51, 52, 53, 54, 55, 56, 57, 58, 59, 60] (by decide +kernel) (by decide +kernel)
set_option maxRecDepth 20000 in
theorem gX0_readAct_X0_write : GoodIn wsX0_readAct (wsV RX0 106 RX0 yX0_write wsX0_write) := goodIn_app (goodIn_of _ (by decide +kernel)) ggX0_readAct_X0_write
set_option maxRecDepth 20000 in
theorem ggX0_readAct_X8_findName : GoodIn wsX0_readAct wsX8_findName := goodIn_r _ [44, 13, 31, 14, 15, 16, 10, 17, 18, 19, 20, 45, 46, 47, 48, 76, 77, 78, 79, 80, 81, 82, 83, 84, 85, 86, 87, 88] (by decide +kernel) (by decide +kernel)
set_option maxRecDepth 20000 in
theorem gX0_readAct_X8_findName : GoodIn wsX0_readAct (wsV RX0 78 RX8 yX8_findName wsX8_findName) := goodIn_app (goodIn_of _ (by decide +kernel)) ggX0_readAct_X8_findName
set_option maxRecDepth 20000 in
theorem ggX0_readAct_X8_advance : GoodIn wsX0_readAct wsX8_advance := goodIn_r _ [24, 25, 26, 27, 13, 28, 19, 29, 12, 30, 31, 76, 77, 78, 79, 80, 81, 82, 83, 84, 85, 86, 87, 88] (by decide +kernel) (by decide +kernel)
set_option maxRecDepth 20000 in
theorem gX0_readAct_X8_advance : GoodIn wsX0_readAct (wsV RX0 88 RX8 yX8_advance wsX8_advance) := goodIn_app (goodIn_of _ (by decide +kernel)) ggX0_readAct_X8_advance
theorem dX0_readAct_0 : decode cX0_readAct 0 = .ok (.iload_n 1, 1) := by decide +kernel
theorem dX0_readAct_1 : decode cX0_readAct 1 = .ok (.bipush 13, 2) := by decide +kernel
theorem dX0_readAct_3 : decode cX0_readAct 3 = .ok (.if_icmp .ne 37, 3) := by decide +kernel
theorem dX0_readAct_6 : decode cX0_readAct 6 = .ok (.aload_n 0, 1) := by decide +kernel
theorem dX0_readAct_7 : decode cX0_readAct 7 = .ok (.getfield 41, 3) := by decide +kernel
theorem dX0_readAct_10 : decode cX0_readAct 10 = .ok (.iconst 1, 1) := by decide +kernel
theorem dX0_readAct_11 : decode cX0_readAct 11 = .ok (.sipush 999, 3) := by decide +kernel
theorem dX0_readAct_14 : decode cX0_readAct 14 = .ok (.invokevirtual 110, 3) := by decide +kernel
theorem dX0_readAct_17 : decode cX0_readAct 17 = .ok (.istore_n 2, 1) := by decide +kernel
theorem dX0_readAct_18 : decode cX0_readAct 18 = .ok (.iload_n 2, 1) := by decide +kernel
theorem dX0_readAct_19 : decode cX0_readAct 19 = .ok (.iconst (-1), 1) := by decide +kernel
theorem dX0_readAct_20 : decode cX0_readAct 20 = .ok (.if_icmp .eq 18, 3) := by decide +kernel
theorem dX0_readAct_23 : decode cX0_readAct 23 = .ok (.aload_n 0, 1) := by decide +kernel
theorem dX0_readAct_24 : decode cX0_readAct 24 = .ok (.bipush 13, 2) := by decide +kernel
theorem dX0_readAct_26 : decode cX0_readAct 26 = .ok (.iconst 0, 1) := by decide +kernel
theorem dX0_readAct_27 : decode cX0_readAct 27 = .ok (.iload_n 2, 1) := by decide +kernel
theorem dX0_readAct_28 : decode cX0_readAct 28 = .ok (.invokevirtual 106, 3) := by decide +kernel
theorem dX0_readAct_31 : decode cX0_readAct 31 = .ok (.ifCond .eq 7, 3) := by decide +kernel
theorem dX0_readAct_34 : decode cX0_readAct 34 = .ok (.iconst 1, 1) := by decide +kernel
theorem dX0_readAct_35 : decode cX0_readAct 35 = .ok (.goto 4, 3) := by decide +kernel
theorem dX0_readAct_38 : decode cX0_readAct 38 = .ok (.iconst 0, 1) := by decide +kernel
theorem dX0_readAct_39 : decode cX0_readAct 39 = .ok (.ireturn, 1) := by decide +kernel
theorem dX0_readAct_40 : decode cX0_readAct 40 = .ok (.iload_n 1, 1) := by decide +kernel
theorem dX0_readAct_41 : decode cX0_readAct 41 = .ok (.bipush 12, 2) := by decide +kernel
theorem dX0_readAct_43 : decode cX0_readAct 43 = .ok (.if_icmp .ne 73, 3) := by decide +kernel
theorem dX0_readAct_46 : decode cX0_readAct 46 = .ok (.aload_n 0, 1) := by decide +kernel
theorem dX0_readAct_47 : decode cX0_readAct 47 = .ok (.getfield 41, 3) := by decide +kernel
theorem dX0_readAct_50 : decode cX0_readAct 50 = .ok (.aload_n 0, 1) := by decide +kernel
theorem dX0_readAct_51 : decode cX0_readAct 51 = .ok (.getfield 45, 3) := by decide +kernel
theorem dX0_readAct_54 : decode cX0_readAct 54 = .ok (.getfield 114, 3) := by decide +kernel
theorem dX0_readAct_57 : decode cX0_readAct 57 = .ok (.aload_n 0, 1) := by decide +kernel
theorem dX0_readAct_58 : decode cX0_readAct 58 = .ok (.getfield 45, 3) := by decide +kernel
theorem dX0_readAct_61 : decode cX0_readAct 61 = .ok (.getfield 117, 3) := by decide +kernel
theorem dX0_readAct_64 : decode cX0_readAct 64 = .ok (.invokevirtual 78, 3) := by decide +kernel
theorem dX0_readAct_67 : decode cX0_readAct 67 = .ok (.istore_n 2, 1) := by decide +kernel
theorem dX0_readAct_68 : decode cX0_readAct 68 = .ok (.iload_n 2, 1) := by decide +kernel
theorem dX0_readAct_69 : decode cX0_readAct 69 = .ok (.iconst (-1), 1) := by decide +kernel
theorem dX0_readAct_70 : decode cX0_readAct 70 = .ok (.if_icmp .ne 5, 3) := by decide +kernel
theorem dX0_readAct_73 : decode cX0_readAct 73 = .ok (.iconst 0, 1) := by decide +kernel
theorem dX0_readAct_74 : decode cX0_readAct 74 = .ok (.ireturn, 1) := by decide +kernel
theorem dX0_readAct_75 : decode cX0_readAct 75 = .ok (.aload_n 0, 1) := by decide +kernel
theorem dX0_readAct_76 : decode cX0_readAct 76 = .ok (.getfield 41, 3) := by decide +kernel
theorem dX0_readAct_79 : decode cX0_readAct 79 = .ok (.invokevirtual 88, 3) := by decide +kernel
theorem dX0_readAct_82 : decode cX0_readAct 82 = .ok (.aload_n 0, 1) := by decide +kernel
theorem dX0_readAct_83 : decode cX0_readAct 83 = .ok (.getfield 41, 3) := by decide +kernel
theorem dX0_readAct_86 : decode cX0_readAct 86 = .ok (.iconst 0, 1) := by decide +kernel
theorem dX0_readAct_87 : decode cX0_readAct 87 = .ok (.sipush 999, 3) := by decide +kernel
theorem dX0_readAct_90 : decode cX0_readAct 90 = .ok (.invokevirtual 110, 3) := by decide +kernel
theorem dX0_readAct_93 : decode cX0_readAct 93 = .ok (.istore_n 3, 1) := by decide +kernel
theorem dX0_readAct_94 : decode cX0_readAct 94 = .ok (.iload_n 3, 1) := by decide +kernel
theorem dX0_readAct_95 : decode cX0_readAct 95 = .ok (.iconst (-1), 1) := by decide +kernel
theorem dX0_readAct_96 : decode cX0_readAct 96 = .ok (.if_icmp .eq 18, 3) := by decide +kernel
theorem dX0_readAct_99 : decode cX0_readAct 99 = .ok (.aload_n 0, 1) := by decide +kernel
theorem dX0_readAct_100 : decode cX0_readAct 100 = .ok (.bipush 12, 2) := by decide +kernel
theorem dX0_readAct_102 : decode cX0_readAct 102 = .ok (.iload_n 2, 1) := by decide +kernel
theorem dX0_readAct_103 : decode cX0_readAct 103 = .ok (.iload_n 3, 1) := by decide +kernel
theorem dX0_readAct_104 : decode cX0_readAct 104 = .ok (.invokevirtual 106, 3) := by decide +kernel
theorem dX0_readAct_107 : decode cX0_readAct 107 = .ok (.ifCond .eq 7, 3) := by decide +kernel
theorem dX0_readAct_110 : decode cX0_readAct 110 = .ok (.iconst 1, 1) := by decide +kernel
theorem dX0_readAct_111 : decode cX0_readAct 111 = .ok (.goto 4, 3) := by decide +kernel
theorem dX0_readAct_114 : decode cX0_readAct 114 = .ok (.iconst 0, 1) := by decide +kernel
theorem dX0_readAct_115 : decode cX0_readAct 115 = .ok (.ireturn, 1) := by decide +kernel
theorem dX0_readAct_116 : decode cX0_readAct 116 = .ok (.aload_n 0, 1) := by decide +kernel
theorem dX0_readAct_117 : decode cX0_readAct 117 = .ok (.getfield 41, 3) := by decide +kernel
theorem dX0_readAct_120 : decode cX0_readAct 120 = .ok (.aload_n 0, 1) := by decide +kernel
theorem dX0_readAct_121 : decode cX0_readAct 121 = .ok (.getfield 45, 3) := by decide +kernel
theorem dX0_readAct_124 : decode cX0_readAct 124 = .ok (.getfield 100, 3) := by decide +kernel
theorem dX0_readAct_127 : decode cX0_readAct 127 = .ok (.aload_n 0, 1) := by decide +kernel
theorem dX0_readAct_128 : decode cX0_readAct 128 = .ok (.getfield 45, 3) := by decide +kernel
theorem dX0_readAct_131 : decode cX0_readAct 131 = .ok (.getfield 103, 3) := by decide +kernel
theorem dX0_readAct_134 : decode cX0_readAct 134 = .ok (.invokevirtual 78, 3) := by decide +kernel
theorem dX0_readAct_137 : decode cX0_readAct 137 = .ok (.istore_n 2, 1) := by decide +kernel
theorem dX0_readAct_138 : decode cX0_readAct 138 = .ok (.aload_n 0, 1) := by decide +kernel
theorem dX0_readAct_139 : decode cX0_readAct 139 = .ok (.getfield 41, 3) := by decide +kernel
theorem dX0_readAct_142 : decode cX0_readAct 142 = .ok (.invokevirtual 88, 3) := by decide +kernel
theorem dX0_readAct_145 : decode cX0_readAct 145 = .ok (.iload_n 2, 1) := by decide +kernel
theorem dX0_readAct_146 : decode cX0_readAct 146 = .ok (.iconst (-1), 1) := by decide +kernel
theorem dX0_readAct_147 : decode cX0_readAct 147 = .ok (.if_icmp .eq 17, 3) := by decide +kernel
theorem dX0_readAct_150 : decode cX0_readAct 150 = .ok (.aload_n 0, 1) := by decide +kernel
theorem dX0_readAct_151 : decode cX0_readAct 151 = .ok (.iload_n 1, 1) := by decide +kernel
theorem dX0_readAct_152 : decode cX0_readAct 152 = .ok (.iload_n 2, 1) := by decide +kernel
theorem dX0_readAct_153 : decode cX0_readAct 153 = .ok (.iconst 0, 1) := by decide +kernel
theorem dX0_readAct_154 : decode cX0_readAct 154 = .ok (.invokevirtual 106, 3) := by decide +kernel
theorem dX0_readAct_157 : decode cX0_readAct 157 = .ok (.ifCond .eq 7, 3) := by decide +kernel
theorem dX0_readAct_160 : decode cX0_readAct 160 = .ok (.iconst 1, 1) := by decide +kernel
theorem dX0_readAct_161 : decode cX0_readAct 161 = .ok (.goto 4, 3) := by decide +kernel
theorem dX0_readAct_164 : decode cX0_readAct 164 = .ok (.iconst 0, 1) := by decide +kernel
theorem dX0_readAct_165 : decode cX0_readAct 165 = .ok (.ireturn, 1) := by decide +kernel
theorem dX0_write_0 : decode cX0_write 0 = .ok (.aload_n 0, 1) := by decide +kernel
theorem dX0_write_1 : decode cX0_write 1 = .ok (.getfield 15, 3) := by decide +kernel
theorem dX0_write_4 : decode cX0_write 4 = .ok (.aload_n 0, 1) := by decide +kernel
theorem dX0_write_5 : decode cX0_write 5 = .ok (.getfield 9, 3) := by decide +kernel
theorem dX0_write_8 : decode cX0_write 8 = .ok (.iload_n 1, 1) := by decide +kernel
theorem dX0_write_9 : decode cX0_write 9 = .ok (.iastore, 1) := by decide +kernel
theorem dX0_write_10 : decode cX0_write 10 = .ok (.aload_n 0, 1) := by decide +kernel
theorem dX0_write_11 : decode cX0_write 11 = .ok (.getfield 19, 3) := by decide +kernel
theorem dX0_write_14 : decode cX0_write 14 = .ok (.aload_n 0, 1) := by decide +kernel
theorem dX0_write_15 : decode cX0_write 15 = .ok (.getfield 9, 3) := by decide +kernel
theorem dX0_write_18 : decode cX0_write 18 = .ok (.iload_n 2, 1) := by decide +kernel
theorem dX0_write_19 : decode cX0_write 19 = .ok (.iastore, 1) := by decide +kernel
theorem dX0_write_20 : decode cX0_write 20 = .ok (.aload_n 0, 1) := by decide +kernel
theorem dX0_write_21 : decode cX0_write 21 = .ok (.getfield 22, 3) := by decide +kernel
theorem dX0_write_24 : decode cX0_write 24 = .ok (.aload_n 0, 1) := by decide +kernel
theorem dX0_write_25 : decode cX0_write 25 = .ok (.getfield 9, 3) := by decide +kernel
theorem dX0_write_28 : decode cX0_write 28 = .ok (.iload_n 3, 1) := by decide +kernel
theorem dX0_write_29 : decode cX0_write 29 = .ok (.iastore, 1) := by decide +kernel
theorem dX0_write_30 : decode cX0_write 30 = .ok (.iconst 1, 1) := by decide +kernel
theorem dX0_write_31 : decode cX0_write 31 = .ok (.ireturn, 1) := by decide +kernel
set_option maxRecDepth 20000 in
theorem ggX0_judge_X0_whyNot : GoodIn wsX0_judge wsX0_whyNot := goodIn_r _ [13, 14, 15, 16, 17, 18, 19, 20, 21, 22, 23, 24, 25, 26, 27, 28, 29, 30, 31, 32, 33, 34, 35, 36, 37, 38, 39, 40, 41, 42, 43, 44, 45, 46, 47, 48, 49, 50, 51, 52, 53, 54, 55, 56, 57, 58, 130, 131, 132, 133, 134, 135, 136, 137, 138, 139, 140, 141, 142, 143, 144, 145, 146, 147, 148, 149, 150, 151, 152, 153, 154, 155, 156, 157, 158, 159, 160, 161, 162, 163, 164, 165] (by decide +kernel) (by decide +kernel)
set_option maxRecDepth 20000 in
theorem gX0_judge_X0_whyNot : GoodIn wsX0_judge (wsV RX0 120 RX0 yX0_whyNot wsX0_whyNot) := goodIn_app (goodIn_of _ (by decide +kernel)) ggX0_judge_X0_whyNot
set_option maxRecDepth 20000 in
theorem ggX0_judge_X0_live : GoodIn wsX0_judge wsX0_live := goodIn_r _ [62, 14, 15, 16, 63, 64, 65, 66, 20, 67, 68, 50, 69, 70, 45, 71, 72, 73, 74, 75, 31, 76, 77, 78, 79, 80, 27, 28, 29, 30, 81, 82, 83, 84, 85, 86, 87, 88, 89, 90, 91, 92, 93, 94, 95, 96, 97, 98, 99, 100, 56, 57, 58, 101, 102, 103, 104, 51, 105, 106, 107, 108, 109, 110, 111, 112, 53, 113, 114, 115, 116, 117, 118, 44, 119, 120, 121, 52, 54, 22, 23, 24, 25, 26, 122, 123, 124, 125, 126, 127, 128, 129, 130, 131, 132, 133, 134, 135, 136, 137, 138, 139, 140, 141, 142, 143, 144, 145, 146, 147, 148, 149, 150, 151, 152, 153, 154, 155, 156, 157, 158, 159, 160, 161, 162, 163, 164, 165] (by decide +kernel) (by decide +kernel)
set_option maxRecDepth 20000 in
theorem gX0_judge_X0_live : GoodIn wsX0_judge (wsV RX0 124 RX0 yX0_live wsX0_live) := goodIn_app (goodIn_of _ (by decide +kernel)) ggX0_judge_X0_live
theorem dX0_judge_0 : decode cX0_judge 0 = .ok (.aload_n 0, 1) := by decide +kernel
theorem dX0_judge_1 : decode cX0_judge 1 = .ok (.iconst 1, 1) := by decide +kernel
theorem dX0_judge_2 : decode cX0_judge 2 = .ok (.putfield 25, 3) := by decide +kernel
theorem dX0_judge_5 : decode cX0_judge 5 = .ok (.aload_n 0, 1) := by decide +kernel
theorem dX0_judge_6 : decode cX0_judge 6 = .ok (.iconst 0, 1) := by decide +kernel
theorem dX0_judge_7 : decode cX0_judge 7 = .ok (.putfield 29, 3) := by decide +kernel
theorem dX0_judge_10 : decode cX0_judge 10 = .ok (.aload_n 0, 1) := by decide +kernel
theorem dX0_judge_11 : decode cX0_judge 11 = .ok (.iconst 0, 1) := by decide +kernel
theorem dX0_judge_12 : decode cX0_judge 12 = .ok (.putfield 32, 3) := by decide +kernel
theorem dX0_judge_15 : decode cX0_judge 15 = .ok (.aload_n 0, 1) := by decide +kernel
theorem dX0_judge_16 : decode cX0_judge 16 = .ok (.getfield 32, 3) := by decide +kernel
theorem dX0_judge_19 : decode cX0_judge 19 = .ok (.aload_n 0, 1) := by decide +kernel
theorem dX0_judge_20 : decode cX0_judge 20 = .ok (.getfield 9, 3) := by decide +kernel
theorem dX0_judge_23 : decode cX0_judge 23 = .ok (.if_icmp .ge 52, 3) := by decide +kernel
theorem dX0_judge_26 : decode cX0_judge 26 = .ok (.aload_n 0, 1) := by decide +kernel
theorem dX0_judge_27 : decode cX0_judge 27 = .ok (.getfield 29, 3) := by decide +kernel
theorem dX0_judge_30 : decode cX0_judge 30 = .ok (.ifCond .ne 45, 3) := by decide +kernel
theorem dX0_judge_33 : decode cX0_judge 33 = .ok (.aload_n 0, 1) := by decide +kernel
theorem dX0_judge_34 : decode cX0_judge 34 = .ok (.aload_n 0, 1) := by decide +kernel
theorem dX0_judge_35 : decode cX0_judge 35 = .ok (.aload_n 1, 1) := by decide +kernel
theorem dX0_judge_36 : decode cX0_judge 36 = .ok (.aload_n 0, 1) := by decide +kernel
theorem dX0_judge_37 : decode cX0_judge 37 = .ok (.getfield 32, 3) := by decide +kernel
theorem dX0_judge_40 : decode cX0_judge 40 = .ok (.invokevirtual 120, 3) := by decide +kernel
theorem dX0_judge_43 : decode cX0_judge 43 = .ok (.putfield 29, 3) := by decide +kernel
theorem dX0_judge_46 : decode cX0_judge 46 = .ok (.aload_n 0, 1) := by decide +kernel
theorem dX0_judge_47 : decode cX0_judge 47 = .ok (.getfield 29, 3) := by decide +kernel
theorem dX0_judge_50 : decode cX0_judge 50 = .ok (.ifCond .ne (-35), 3) := by decide +kernel
theorem dX0_judge_53 : decode cX0_judge 53 = .ok (.aload_n 0, 1) := by decide +kernel
theorem dX0_judge_54 : decode cX0_judge 54 = .ok (.aload_n 1, 1) := by decide +kernel
theorem dX0_judge_55 : decode cX0_judge 55 = .ok (.aload_n 0, 1) := by decide +kernel
theorem dX0_judge_56 : decode cX0_judge 56 = .ok (.getfield 32, 3) := by decide +kernel
theorem dX0_judge_59 : decode cX0_judge 59 = .ok (.invokevirtual 124, 3) := by decide +kernel
theorem dX0_judge_62 : decode cX0_judge 62 = .ok (.aload_n 0, 1) := by decide +kernel
theorem dX0_judge_63 : decode cX0_judge 63 = .ok (.dup, 1) := by decide +kernel
theorem dX0_judge_64 : decode cX0_judge 64 = .ok (.getfield 32, 3) := by decide +kernel
theorem dX0_judge_67 : decode cX0_judge 67 = .ok (.iconst 1, 1) := by decide +kernel
theorem dX0_judge_68 : decode cX0_judge 68 = .ok (.iadd, 1) := by decide +kernel
theorem dX0_judge_69 : decode cX0_judge 69 = .ok (.putfield 32, 3) := by decide +kernel
theorem dX0_judge_72 : decode cX0_judge 72 = .ok (.goto (-57), 3) := by decide +kernel
theorem dX0_judge_75 : decode cX0_judge 75 = .ok (.aload_n 0, 1) := by decide +kernel
theorem dX0_judge_76 : decode cX0_judge 76 = .ok (.aload_n 1, 1) := by decide +kernel
theorem dX0_judge_77 : decode cX0_judge 77 = .ok (.getfield 128, 3) := by decide +kernel
theorem dX0_judge_80 : decode cX0_judge 80 = .ok (.putfield 35, 3) := by decide +kernel
theorem dX0_judge_83 : decode cX0_judge 83 = .ok (.aload_n 0, 1) := by decide +kernel
theorem dX0_judge_84 : decode cX0_judge 84 = .ok (.aload_n 1, 1) := by decide +kernel
theorem dX0_judge_85 : decode cX0_judge 85 = .ok (.getfield 133, 3) := by decide +kernel
theorem dX0_judge_88 : decode cX0_judge 88 = .ok (.putfield 38, 3) := by decide +kernel
theorem dX0_judge_91 : decode cX0_judge 91 = .ok (.return_, 1) := by decide +kernel
set_option maxRecDepth 20000 in
theorem ggX0_whyNot_X3_whyNotSet : GoodIn wsX0_whyNot wsX3_whyNotSet := goodIn_r _ [8, 9, 10, 11, 7, 12, 13, 14, 15, 16, 17, 18, 57, 58, 59, 60, 61, 62, 63, 64, 65, 66] (by decide +kernel) (by decide +kernel)
set_option maxRecDepth 20000 in
theorem gX0_whyNot_X3_whyNotSet : GoodIn wsX0_whyNot (wsV RX0 136 RX3 yX3_whyNotSet wsX3_whyNotSet) := goodIn_app (goodIn_of _ (by decide +kernel)) ggX0_whyNot_X3_whyNotSet
set_option maxRecDepth 20000 in
theorem ggX0_whyNot_X3_whyNotStop : GoodIn wsX0_whyNot wsX3_whyNotStop := goodIn_r _ [22, 14, 15, 16, 7, 17, 18, 57, 58, 59, 60, 61, 62, 63, 64, 65, 66] (by decide +kernel) (by decide +kernel)
set_option maxRecDepth 20000 in
theorem gX0_whyNot_X3_whyNotStop : GoodIn wsX0_whyNot (wsV RX0 139 RX3 yX3_whyNotStop wsX3_whyNotStop) := goodIn_app (goodIn_of _ (by decide +kernel)) ggX0_whyNot_X3_whyNotStop
set_option maxRecDepth 20000 in
theorem ggX0_whyNot_X3_whyNotStart : GoodIn wsX0_whyNot wsX3_whyNotStart := goodIn_r _ [26, 14, 15, 16, 7, 17, 18, 57, 58, 59, 60, 61, 62, 63, 64, 65, 66] (by decide +kernel) (by decide +kernel)
set_option maxRecDepth 20000 in
theorem gX0_whyNot_X3_whyNotStart : GoodIn wsX0_whyNot (wsV RX0 143 RX3 yX3_whyNotStart wsX3_whyNotStart) := goodIn_app (goodIn_of _ (by decide +kernel)) ggX0_whyNot_X3_whyNotStart
set_option maxRecDepth 20000 in
theorem ggX0_whyNot_X3_whyNotMove : GoodIn wsX0_whyNot wsX3_whyNotMove := goodIn_r _ [30, 31, 32, 33, 34, 35, 7, 36, 37, 38, 39, 40, 41, 57, 58, 59, 60, 61, 62, 63, 64, 65, 66, 67, 68, 69, 70, 71, 72, 73, 74, 75, 76, 77, 78, 79, 80, 81] (by decide +kernel) (by decide +kernel)
set_option maxRecDepth 20000 in
theorem gX0_whyNot_X3_whyNotMove : GoodIn wsX0_whyNot (wsV RX0 146 RX3 yX3_whyNotMove wsX3_whyNotMove) := goodIn_app (goodIn_of _ (by decide +kernel)) ggX0_whyNot_X3_whyNotMove
set_option maxRecDepth 20000 in
theorem ggX0_whyNot_X3_minutesLeft : GoodIn wsX0_whyNot wsX3_minutesLeft := goodIn_r _ [45, 32, 57, 58, 59, 60, 61, 62, 63, 64, 65, 66] (by decide +kernel) (by decide +kernel)
set_option maxRecDepth 20000 in
theorem gX0_whyNot_X3_minutesLeft : GoodIn wsX0_whyNot (wsV RX0 149 RX3 yX3_minutesLeft wsX3_minutesLeft) := goodIn_app (goodIn_of _ (by decide +kernel)) ggX0_whyNot_X3_minutesLeft
theorem dX0_whyNot_0 : decode cX0_whyNot 0 = .ok (.aload_n 0, 1) := by decide +kernel
theorem dX0_whyNot_1 : decode cX0_whyNot 1 = .ok (.getfield 19, 3) := by decide +kernel
theorem dX0_whyNot_4 : decode cX0_whyNot 4 = .ok (.iload_n 2, 1) := by decide +kernel
theorem dX0_whyNot_5 : decode cX0_whyNot 5 = .ok (.iaload, 1) := by decide +kernel
theorem dX0_whyNot_6 : decode cX0_whyNot 6 = .ok (.istore_n 3, 1) := by decide +kernel
theorem dX0_whyNot_7 : decode cX0_whyNot 7 = .ok (.aload_n 0, 1) := by decide +kernel
theorem dX0_whyNot_8 : decode cX0_whyNot 8 = .ok (.getfield 22, 3) := by decide +kernel
theorem dX0_whyNot_11 : decode cX0_whyNot 11 = .ok (.iload_n 2, 1) := by decide +kernel
theorem dX0_whyNot_12 : decode cX0_whyNot 12 = .ok (.iaload, 1) := by decide +kernel
theorem dX0_whyNot_13 : decode cX0_whyNot 13 = .ok (.istore 4, 2) := by decide +kernel
theorem dX0_whyNot_15 : decode cX0_whyNot 15 = .ok (.aload_n 0, 1) := by decide +kernel
theorem dX0_whyNot_16 : decode cX0_whyNot 16 = .ok (.getfield 15, 3) := by decide +kernel
theorem dX0_whyNot_19 : decode cX0_whyNot 19 = .ok (.iload_n 2, 1) := by decide +kernel
theorem dX0_whyNot_20 : decode cX0_whyNot 20 = .ok (.iaload, 1) := by decide +kernel
theorem dX0_whyNot_21 : decode cX0_whyNot 21 = .ok (.tableswitch 93 9 12 #[31, 39, 54, 69], 31) := by decide +kernel
theorem dX0_whyNot_52 : decode cX0_whyNot 52 = .ok (.aload_n 1, 1) := by decide +kernel
theorem dX0_whyNot_53 : decode cX0_whyNot 53 = .ok (.iload_n 3, 1) := by decide +kernel
theorem dX0_whyNot_54 : decode cX0_whyNot 54 = .ok (.iload 4, 2) := by decide +kernel
theorem dX0_whyNot_56 : decode cX0_whyNot 56 = .ok (.invokevirtual 136, 3) := by decide +kernel
theorem dX0_whyNot_59 : decode cX0_whyNot 59 = .ok (.ireturn, 1) := by decide +kernel
theorem dX0_whyNot_60 : decode cX0_whyNot 60 = .ok (.aload_n 1, 1) := by decide +kernel
theorem dX0_whyNot_61 : decode cX0_whyNot 61 = .ok (.iload_n 3, 1) := by decide +kernel
theorem dX0_whyNot_62 : decode cX0_whyNot 62 = .ok (.invokevirtual 139, 3) := by decide +kernel
theorem dX0_whyNot_65 : decode cX0_whyNot 65 = .ok (.ifCond .ne 7, 3) := by decide +kernel
theorem dX0_whyNot_68 : decode cX0_whyNot 68 = .ok (.iconst 0, 1) := by decide +kernel
theorem dX0_whyNot_69 : decode cX0_whyNot 69 = .ok (.goto 5, 3) := by decide +kernel
theorem dX0_whyNot_72 : decode cX0_whyNot 72 = .ok (.bipush 11, 2) := by decide +kernel
theorem dX0_whyNot_74 : decode cX0_whyNot 74 = .ok (.ireturn, 1) := by decide +kernel
theorem dX0_whyNot_75 : decode cX0_whyNot 75 = .ok (.aload_n 1, 1) := by decide +kernel
theorem dX0_whyNot_76 : decode cX0_whyNot 76 = .ok (.iload_n 3, 1) := by decide +kernel
theorem dX0_whyNot_77 : decode cX0_whyNot 77 = .ok (.invokevirtual 143, 3) := by decide +kernel
theorem dX0_whyNot_80 : decode cX0_whyNot 80 = .ok (.ifCond .ne 7, 3) := by decide +kernel
theorem dX0_whyNot_83 : decode cX0_whyNot 83 = .ok (.iconst 0, 1) := by decide +kernel
theorem dX0_whyNot_84 : decode cX0_whyNot 84 = .ok (.goto 5, 3) := by decide +kernel
theorem dX0_whyNot_87 : decode cX0_whyNot 87 = .ok (.bipush 21, 2) := by decide +kernel
theorem dX0_whyNot_89 : decode cX0_whyNot 89 = .ok (.ireturn, 1) := by decide +kernel
theorem dX0_whyNot_90 : decode cX0_whyNot 90 = .ok (.aload_n 1, 1) := by decide +kernel
theorem dX0_whyNot_91 : decode cX0_whyNot 91 = .ok (.iload_n 3, 1) := by decide +kernel
theorem dX0_whyNot_92 : decode cX0_whyNot 92 = .ok (.iload 4, 2) := by decide +kernel
theorem dX0_whyNot_94 : decode cX0_whyNot 94 = .ok (.invokevirtual 146, 3) := by decide +kernel
theorem dX0_whyNot_97 : decode cX0_whyNot 97 = .ok (.istore 5, 2) := by decide +kernel
theorem dX0_whyNot_99 : decode cX0_whyNot 99 = .ok (.iload 5, 2) := by decide +kernel
theorem dX0_whyNot_101 : decode cX0_whyNot 101 = .ok (.ifCond .ne 7, 3) := by decide +kernel
theorem dX0_whyNot_104 : decode cX0_whyNot 104 = .ok (.iconst 0, 1) := by decide +kernel
theorem dX0_whyNot_105 : decode cX0_whyNot 105 = .ok (.goto 8, 3) := by decide +kernel
theorem dX0_whyNot_108 : decode cX0_whyNot 108 = .ok (.bipush 30, 2) := by decide +kernel
theorem dX0_whyNot_110 : decode cX0_whyNot 110 = .ok (.iload 5, 2) := by decide +kernel
theorem dX0_whyNot_112 : decode cX0_whyNot 112 = .ok (.iadd, 1) := by decide +kernel
theorem dX0_whyNot_113 : decode cX0_whyNot 113 = .ok (.ireturn, 1) := by decide +kernel
theorem dX0_whyNot_114 : decode cX0_whyNot 114 = .ok (.iload 4, 2) := by decide +kernel
theorem dX0_whyNot_116 : decode cX0_whyNot 116 = .ok (.aload_n 1, 1) := by decide +kernel
theorem dX0_whyNot_117 : decode cX0_whyNot 117 = .ok (.invokevirtual 149, 3) := by decide +kernel
theorem dX0_whyNot_120 : decode cX0_whyNot 120 = .ok (.if_icmp .le 8, 3) := by decide +kernel
theorem dX0_whyNot_123 : decode cX0_whyNot 123 = .ok (.bipush 41, 2) := by decide +kernel
theorem dX0_whyNot_125 : decode cX0_whyNot 125 = .ok (.goto 4, 3) := by decide +kernel
theorem dX0_whyNot_128 : decode cX0_whyNot 128 = .ok (.iconst 0, 1) := by decide +kernel
theorem dX0_whyNot_129 : decode cX0_whyNot 129 = .ok (.ireturn, 1) := by decide +kernel
set_option maxRecDepth 20000 in
theorem ggX0_live_X3_adjust : GoodIn wsX0_live wsX3_adjust := goodIn_r _ [9, 10, 11, 12, 13, 14, 103, 104, 105, 106, 107, 108, 109, 110, 111, 112, 113, 114, 115, 116, 117, 118, 119, 120, 121, 122, 123, 124, 125, 126, 127] (by decide +kernel) (by decide +kernel)
set_option maxRecDepth 20000 in
theorem gX0_live_X3_adjust : GoodIn wsX0_live (wsV RX0 153 RX3 yX3_adjust wsX3_adjust) := goodIn_app (goodIn_of _ (by decide +kernel)) ggX0_live_X3_adjust
set_option maxRecDepth 20000 in
theorem ggX0_live_X3_halt : GoodIn wsX0_live wsX3_halt := goodIn_r _ [18, 19, 14, 20, 21, 22, 23, 8, 24, 10, 11, 25, 13, 26, 27, 28, 29, 103, 104, 105, 106, 107, 108, 109, 110, 111, 112, 113, 114, 115, 116, 117, 118, 119, 120, 121, 122, 123, 124, 125, 126, 127] (by decide +kernel) (by decide +kernel)
set_option maxRecDepth 20000 in
theorem gX0_live_X3_halt : GoodIn wsX0_live (wsV RX0 157 RX3 yX3_halt wsX3_halt) := goodIn_app (goodIn_of _ (by decide +kernel)) ggX0_live_X3_halt
set_option maxRecDepth 20000 in
theorem ggX0_live_X3_resume : GoodIn wsX0_live wsX3_resume := goodIn_r _ [33, 10, 13, 14, 20, 34, 35, 36, 8, 37, 21, 22, 23, 24, 19, 11, 25, 26, 27, 28, 29, 103, 104, 105, 106, 107, 108, 109, 110, 111, 112, 113, 114, 115, 116, 117, 118, 119, 120, 121, 122, 123, 124, 125, 126, 127] (by decide +kernel) (by decide +kernel)
set_option maxRecDepth 20000 in
theorem gX0_live_X3_resume : GoodIn wsX0_live (wsV RX0 160 RX3 yX3_resume wsX3_resume) := goodIn_app (goodIn_of _ (by decide +kernel)) ggX0_live_X3_resume
set_option maxRecDepth 20000 in
theorem ggX0_live_X3_pass : GoodIn wsX0_live wsX3_pass := goodIn_r _ [41, 42, 43, 44, 45, 14, 46, 47, 48, 49, 50, 51, 8, 52, 53, 54, 55, 56, 11, 57, 58, 59, 60, 61, 62, 63, 64, 65, 66, 67, 68, 69, 70, 71, 72, 73, 74, 75, 76, 12, 13, 77, 78, 79, 80, 81, 82, 83, 21, 22, 23, 24, 19, 10, 25, 26, 27, 28, 29, 20, 84, 85, 86, 87, 88, 89, 90, 91, 103, 104, 105, 106, 107, 108, 109, 110, 111, 112, 113, 114, 115, 116, 117, 118, 119, 120, 121, 122, 123, 124, 125, 126, 127] (by decide +kernel) (by decide +kernel)
set_option maxRecDepth 20000 in
theorem gX0_live_X3_pass : GoodIn wsX0_live (wsV RX0 166 RX3 yX3_pass wsX3_pass) := goodIn_app (goodIn_of _ (by decide +kernel)) ggX0_live_X3_pass
theorem dX0_live_0 : decode cX0_live 0 = .ok (.aload_n 0, 1) := by decide +kernel
theorem dX0_live_1 : decode cX0_live 1 = .ok (.getfield 19, 3) := by decide +kernel
theorem dX0_live_4 : decode cX0_live 4 = .ok (.iload_n 2, 1) := by decide +kernel
theorem dX0_live_5 : decode cX0_live 5 = .ok (.iaload, 1) := by decide +kernel
theorem dX0_live_6 : decode cX0_live 6 = .ok (.istore_n 3, 1) := by decide +kernel
theorem dX0_live_7 : decode cX0_live 7 = .ok (.aload_n 0, 1) := by decide +kernel
theorem dX0_live_8 : decode cX0_live 8 = .ok (.getfield 22, 3) := by decide +kernel
theorem dX0_live_11 : decode cX0_live 11 = .ok (.iload_n 2, 1) := by decide +kernel
theorem dX0_live_12 : decode cX0_live 12 = .ok (.iaload, 1) := by decide +kernel
theorem dX0_live_13 : decode cX0_live 13 = .ok (.istore 4, 2) := by decide +kernel
theorem dX0_live_15 : decode cX0_live 15 = .ok (.aload_n 0, 1) := by decide +kernel
theorem dX0_live_16 : decode cX0_live 16 = .ok (.getfield 15, 3) := by decide +kernel
theorem dX0_live_19 : decode cX0_live 19 = .ok (.iload_n 2, 1) := by decide +kernel
theorem dX0_live_20 : decode cX0_live 20 = .ok (.iaload, 1) := by decide +kernel
theorem dX0_live_21 : decode cX0_live 21 = .ok (.tableswitch 68 9 12 #[31, 41, 49, 57], 31) := by decide +kernel
theorem dX0_live_52 : decode cX0_live 52 = .ok (.aload_n 1, 1) := by decide +kernel
theorem dX0_live_53 : decode cX0_live 53 = .ok (.iload_n 3, 1) := by decide +kernel
theorem dX0_live_54 : decode cX0_live 54 = .ok (.iload 4, 2) := by decide +kernel
theorem dX0_live_56 : decode cX0_live 56 = .ok (.invokevirtual 153, 3) := by decide +kernel
theorem dX0_live_59 : decode cX0_live 59 = .ok (.goto 37, 3) := by decide +kernel
theorem dX0_live_62 : decode cX0_live 62 = .ok (.aload_n 1, 1) := by decide +kernel
theorem dX0_live_63 : decode cX0_live 63 = .ok (.iload_n 3, 1) := by decide +kernel
theorem dX0_live_64 : decode cX0_live 64 = .ok (.invokevirtual 157, 3) := by decide +kernel
theorem dX0_live_67 : decode cX0_live 67 = .ok (.goto 29, 3) := by decide +kernel
theorem dX0_live_70 : decode cX0_live 70 = .ok (.aload_n 1, 1) := by decide +kernel
theorem dX0_live_71 : decode cX0_live 71 = .ok (.iload_n 3, 1) := by decide +kernel
theorem dX0_live_72 : decode cX0_live 72 = .ok (.invokevirtual 160, 3) := by decide +kernel
theorem dX0_live_75 : decode cX0_live 75 = .ok (.goto 21, 3) := by decide +kernel
theorem dX0_live_78 : decode cX0_live 78 = .ok (.aload_n 1, 1) := by decide +kernel
theorem dX0_live_79 : decode cX0_live 79 = .ok (.getfield 163, 3) := by decide +kernel
theorem dX0_live_82 : decode cX0_live 82 = .ok (.iload_n 3, 1) := by decide +kernel
theorem dX0_live_83 : decode cX0_live 83 = .ok (.iload 4, 2) := by decide +kernel
theorem dX0_live_85 : decode cX0_live 85 = .ok (.iastore, 1) := by decide +kernel
theorem dX0_live_86 : decode cX0_live 86 = .ok (.goto 10, 3) := by decide +kernel
theorem dX0_live_89 : decode cX0_live 89 = .ok (.aload_n 1, 1) := by decide +kernel
theorem dX0_live_90 : decode cX0_live 90 = .ok (.iload 4, 2) := by decide +kernel
theorem dX0_live_92 : decode cX0_live 92 = .ok (.invokevirtual 166, 3) := by decide +kernel
theorem dX0_live_95 : decode cX0_live 95 = .ok (.pop, 1) := by decide +kernel
theorem dX0_live_96 : decode cX0_live 96 = .ok (.return_, 1) := by decide +kernel
theorem dX1_init_0 : decode cX1_init 0 = .ok (.aload_n 0, 1) := by decide +kernel
theorem dX1_init_1 : decode cX1_init 1 = .ok (.invokespecial 3, 3) := by decide +kernel
theorem dX1_init_4 : decode cX1_init 4 = .ok (.aload_n 0, 1) := by decide +kernel
theorem dX1_init_5 : decode cX1_init 5 = .ok (.iconst 0, 1) := by decide +kernel
theorem dX1_init_6 : decode cX1_init 6 = .ok (.putfield 9, 3) := by decide +kernel
theorem dX1_init_9 : decode cX1_init 9 = .ok (.aload_n 0, 1) := by decide +kernel
theorem dX1_init_10 : decode cX1_init 10 = .ok (.iconst 0, 1) := by decide +kernel
theorem dX1_init_11 : decode cX1_init 11 = .ok (.putfield 15, 3) := by decide +kernel
theorem dX1_init_14 : decode cX1_init 14 = .ok (.aload_n 0, 1) := by decide +kernel
theorem dX1_init_15 : decode cX1_init 15 = .ok (.iconst 0, 1) := by decide +kernel
theorem dX1_init_16 : decode cX1_init 16 = .ok (.putfield 18, 3) := by decide +kernel
theorem dX1_init_19 : decode cX1_init 19 = .ok (.aload_n 0, 1) := by decide +kernel
theorem dX1_init_20 : decode cX1_init 20 = .ok (.bipush 15, 2) := by decide +kernel
theorem dX1_init_22 : decode cX1_init 22 = .ok (.putfield 21, 3) := by decide +kernel
theorem dX1_init_25 : decode cX1_init 25 = .ok (.aload_n 0, 1) := by decide +kernel
theorem dX1_init_26 : decode cX1_init 26 = .ok (.bipush 6, 2) := by decide +kernel
theorem dX1_init_28 : decode cX1_init 28 = .ok (.newarray .long, 2) := by decide +kernel
theorem dX1_init_30 : decode cX1_init 30 = .ok (.putfield 24, 3) := by decide +kernel
theorem dX1_init_33 : decode cX1_init 33 = .ok (.aload_n 0, 1) := by decide +kernel
theorem dX1_init_34 : decode cX1_init 34 = .ok (.bipush 6, 2) := by decide +kernel
theorem dX1_init_36 : decode cX1_init 36 = .ok (.newarray .int, 2) := by decide +kernel
theorem dX1_init_38 : decode cX1_init 38 = .ok (.putfield 28, 3) := by decide +kernel
theorem dX1_init_41 : decode cX1_init 41 = .ok (.aload_n 0, 1) := by decide +kernel
theorem dX1_init_42 : decode cX1_init 42 = .ok (.bipush 6, 2) := by decide +kernel
theorem dX1_init_44 : decode cX1_init 44 = .ok (.newarray .int, 2) := by decide +kernel
theorem dX1_init_46 : decode cX1_init 46 = .ok (.putfield 32, 3) := by decide +kernel
theorem dX1_init_49 : decode cX1_init 49 = .ok (.aload_n 0, 1) := by decide +kernel
theorem dX1_init_50 : decode cX1_init 50 = .ok (.bipush 6, 2) := by decide +kernel
theorem dX1_init_52 : decode cX1_init 52 = .ok (.newarray .int, 2) := by decide +kernel
theorem dX1_init_54 : decode cX1_init 54 = .ok (.putfield 35, 3) := by decide +kernel
theorem dX1_init_57 : decode cX1_init 57 = .ok (.aload_n 0, 1) := by decide +kernel
theorem dX1_init_58 : decode cX1_init 58 = .ok (.bipush 6, 2) := by decide +kernel
theorem dX1_init_60 : decode cX1_init 60 = .ok (.newarray .long, 2) := by decide +kernel
theorem dX1_init_62 : decode cX1_init 62 = .ok (.putfield 38, 3) := by decide +kernel
theorem dX1_init_65 : decode cX1_init 65 = .ok (.aload_n 0, 1) := by decide +kernel
theorem dX1_init_66 : decode cX1_init 66 = .ok (.bipush 6, 2) := by decide +kernel
theorem dX1_init_68 : decode cX1_init 68 = .ok (.newarray .int, 2) := by decide +kernel
theorem dX1_init_70 : decode cX1_init 70 = .ok (.putfield 41, 3) := by decide +kernel
theorem dX1_init_73 : decode cX1_init 73 = .ok (.aload_n 0, 1) := by decide +kernel
theorem dX1_init_74 : decode cX1_init 74 = .ok (.bipush 6, 2) := by decide +kernel
theorem dX1_init_76 : decode cX1_init 76 = .ok (.newarray .int, 2) := by decide +kernel
theorem dX1_init_78 : decode cX1_init 78 = .ok (.putfield 44, 3) := by decide +kernel
theorem dX1_init_81 : decode cX1_init 81 = .ok (.aload_n 0, 1) := by decide +kernel
theorem dX1_init_82 : decode cX1_init 82 = .ok (.bipush 6, 2) := by decide +kernel
theorem dX1_init_84 : decode cX1_init 84 = .ok (.newarray .int, 2) := by decide +kernel
theorem dX1_init_86 : decode cX1_init 86 = .ok (.putfield 47, 3) := by decide +kernel
theorem dX1_init_89 : decode cX1_init 89 = .ok (.aload_n 0, 1) := by decide +kernel
theorem dX1_init_90 : decode cX1_init 90 = .ok (.bipush 6, 2) := by decide +kernel
theorem dX1_init_92 : decode cX1_init 92 = .ok (.newarray .int, 2) := by decide +kernel
theorem dX1_init_94 : decode cX1_init 94 = .ok (.putfield 50, 3) := by decide +kernel
theorem dX1_init_97 : decode cX1_init 97 = .ok (.aload_n 0, 1) := by decide +kernel
theorem dX1_init_98 : decode cX1_init 98 = .ok (.bipush 6, 2) := by decide +kernel
theorem dX1_init_100 : decode cX1_init 100 = .ok (.newarray .long, 2) := by decide +kernel
theorem dX1_init_102 : decode cX1_init 102 = .ok (.putfield 53, 3) := by decide +kernel
theorem dX1_init_105 : decode cX1_init 105 = .ok (.aload_n 0, 1) := by decide +kernel
theorem dX1_init_106 : decode cX1_init 106 = .ok (.bipush 6, 2) := by decide +kernel
theorem dX1_init_108 : decode cX1_init 108 = .ok (.newarray .int, 2) := by decide +kernel
theorem dX1_init_110 : decode cX1_init 110 = .ok (.putfield 56, 3) := by decide +kernel
theorem dX1_init_113 : decode cX1_init 113 = .ok (.return_, 1) := by decide +kernel
theorem dX1_clear_0 : decode cX1_clear 0 = .ok (.aload_n 0, 1) := by decide +kernel
theorem dX1_clear_1 : decode cX1_clear 1 = .ok (.iconst 0, 1) := by decide +kernel
theorem dX1_clear_2 : decode cX1_clear 2 = .ok (.putfield 9, 3) := by decide +kernel
theorem dX1_clear_5 : decode cX1_clear 5 = .ok (.aload_n 0, 1) := by decide +kernel
theorem dX1_clear_6 : decode cX1_clear 6 = .ok (.iconst 0, 1) := by decide +kernel
theorem dX1_clear_7 : decode cX1_clear 7 = .ok (.putfield 15, 3) := by decide +kernel
theorem dX1_clear_10 : decode cX1_clear 10 = .ok (.aload_n 0, 1) := by decide +kernel
theorem dX1_clear_11 : decode cX1_clear 11 = .ok (.iconst 0, 1) := by decide +kernel
theorem dX1_clear_12 : decode cX1_clear 12 = .ok (.putfield 18, 3) := by decide +kernel
theorem dX1_clear_15 : decode cX1_clear 15 = .ok (.aload_n 0, 1) := by decide +kernel
theorem dX1_clear_16 : decode cX1_clear 16 = .ok (.bipush 15, 2) := by decide +kernel
theorem dX1_clear_18 : decode cX1_clear 18 = .ok (.putfield 21, 3) := by decide +kernel
theorem dX1_clear_21 : decode cX1_clear 21 = .ok (.return_, 1) := by decide +kernel
theorem dX1_copyFrom_0 : decode cX1_copyFrom 0 = .ok (.aload_n 0, 1) := by decide +kernel
theorem dX1_copyFrom_1 : decode cX1_copyFrom 1 = .ok (.aload_n 1, 1) := by decide +kernel
theorem dX1_copyFrom_2 : decode cX1_copyFrom 2 = .ok (.getfield 9, 3) := by decide +kernel
theorem dX1_copyFrom_5 : decode cX1_copyFrom 5 = .ok (.putfield 9, 3) := by decide +kernel
theorem dX1_copyFrom_8 : decode cX1_copyFrom 8 = .ok (.aload_n 0, 1) := by decide +kernel
theorem dX1_copyFrom_9 : decode cX1_copyFrom 9 = .ok (.aload_n 1, 1) := by decide +kernel
theorem dX1_copyFrom_10 : decode cX1_copyFrom 10 = .ok (.getfield 15, 3) := by decide +kernel
theorem dX1_copyFrom_13 : decode cX1_copyFrom 13 = .ok (.putfield 15, 3) := by decide +kernel
theorem dX1_copyFrom_16 : decode cX1_copyFrom 16 = .ok (.aload_n 0, 1) := by decide +kernel
theorem dX1_copyFrom_17 : decode cX1_copyFrom 17 = .ok (.aload_n 1, 1) := by decide +kernel
theorem dX1_copyFrom_18 : decode cX1_copyFrom 18 = .ok (.getfield 18, 3) := by decide +kernel
theorem dX1_copyFrom_21 : decode cX1_copyFrom 21 = .ok (.putfield 18, 3) := by decide +kernel
theorem dX1_copyFrom_24 : decode cX1_copyFrom 24 = .ok (.aload_n 0, 1) := by decide +kernel
theorem dX1_copyFrom_25 : decode cX1_copyFrom 25 = .ok (.aload_n 1, 1) := by decide +kernel
theorem dX1_copyFrom_26 : decode cX1_copyFrom 26 = .ok (.getfield 21, 3) := by decide +kernel
theorem dX1_copyFrom_29 : decode cX1_copyFrom 29 = .ok (.putfield 21, 3) := by decide +kernel
theorem dX1_copyFrom_32 : decode cX1_copyFrom 32 = .ok (.aload_n 1, 1) := by decide +kernel
theorem dX1_copyFrom_33 : decode cX1_copyFrom 33 = .ok (.getfield 24, 3) := by decide +kernel
theorem dX1_copyFrom_36 : decode cX1_copyFrom 36 = .ok (.iconst 0, 1) := by decide +kernel
theorem dX1_copyFrom_37 : decode cX1_copyFrom 37 = .ok (.aload_n 0, 1) := by decide +kernel
theorem dX1_copyFrom_38 : decode cX1_copyFrom 38 = .ok (.getfield 24, 3) := by decide +kernel
theorem dX1_copyFrom_41 : decode cX1_copyFrom 41 = .ok (.iconst 0, 1) := by decide +kernel
theorem dX1_copyFrom_42 : decode cX1_copyFrom 42 = .ok (.bipush 6, 2) := by decide +kernel
theorem dX1_copyFrom_44 : decode cX1_copyFrom 44 = .ok (.invokestatic 59, 3) := by decide +kernel
theorem dX1_copyFrom_47 : decode cX1_copyFrom 47 = .ok (.aload_n 1, 1) := by decide +kernel
theorem dX1_copyFrom_48 : decode cX1_copyFrom 48 = .ok (.getfield 28, 3) := by decide +kernel
theorem dX1_copyFrom_51 : decode cX1_copyFrom 51 = .ok (.iconst 0, 1) := by decide +kernel
theorem dX1_copyFrom_52 : decode cX1_copyFrom 52 = .ok (.aload_n 0, 1) := by decide +kernel
theorem dX1_copyFrom_53 : decode cX1_copyFrom 53 = .ok (.getfield 28, 3) := by decide +kernel
theorem dX1_copyFrom_56 : decode cX1_copyFrom 56 = .ok (.iconst 0, 1) := by decide +kernel
theorem dX1_copyFrom_57 : decode cX1_copyFrom 57 = .ok (.bipush 6, 2) := by decide +kernel
theorem dX1_copyFrom_59 : decode cX1_copyFrom 59 = .ok (.invokestatic 59, 3) := by decide +kernel
theorem dX1_copyFrom_62 : decode cX1_copyFrom 62 = .ok (.aload_n 1, 1) := by decide +kernel
theorem dX1_copyFrom_63 : decode cX1_copyFrom 63 = .ok (.getfield 32, 3) := by decide +kernel
theorem dX1_copyFrom_66 : decode cX1_copyFrom 66 = .ok (.iconst 0, 1) := by decide +kernel
theorem dX1_copyFrom_67 : decode cX1_copyFrom 67 = .ok (.aload_n 0, 1) := by decide +kernel
theorem dX1_copyFrom_68 : decode cX1_copyFrom 68 = .ok (.getfield 32, 3) := by decide +kernel
theorem dX1_copyFrom_71 : decode cX1_copyFrom 71 = .ok (.iconst 0, 1) := by decide +kernel
theorem dX1_copyFrom_72 : decode cX1_copyFrom 72 = .ok (.bipush 6, 2) := by decide +kernel
theorem dX1_copyFrom_74 : decode cX1_copyFrom 74 = .ok (.invokestatic 59, 3) := by decide +kernel
theorem dX1_copyFrom_77 : decode cX1_copyFrom 77 = .ok (.aload_n 1, 1) := by decide +kernel
theorem dX1_copyFrom_78 : decode cX1_copyFrom 78 = .ok (.getfield 35, 3) := by decide +kernel
theorem dX1_copyFrom_81 : decode cX1_copyFrom 81 = .ok (.iconst 0, 1) := by decide +kernel
theorem dX1_copyFrom_82 : decode cX1_copyFrom 82 = .ok (.aload_n 0, 1) := by decide +kernel
theorem dX1_copyFrom_83 : decode cX1_copyFrom 83 = .ok (.getfield 35, 3) := by decide +kernel
theorem dX1_copyFrom_86 : decode cX1_copyFrom 86 = .ok (.iconst 0, 1) := by decide +kernel
theorem dX1_copyFrom_87 : decode cX1_copyFrom 87 = .ok (.bipush 6, 2) := by decide +kernel
theorem dX1_copyFrom_89 : decode cX1_copyFrom 89 = .ok (.invokestatic 59, 3) := by decide +kernel
theorem dX1_copyFrom_92 : decode cX1_copyFrom 92 = .ok (.aload_n 1, 1) := by decide +kernel
theorem dX1_copyFrom_93 : decode cX1_copyFrom 93 = .ok (.getfield 38, 3) := by decide +kernel
theorem dX1_copyFrom_96 : decode cX1_copyFrom 96 = .ok (.iconst 0, 1) := by decide +kernel
theorem dX1_copyFrom_97 : decode cX1_copyFrom 97 = .ok (.aload_n 0, 1) := by decide +kernel
theorem dX1_copyFrom_98 : decode cX1_copyFrom 98 = .ok (.getfield 38, 3) := by decide +kernel
theorem dX1_copyFrom_101 : decode cX1_copyFrom 101 = .ok (.iconst 0, 1) := by decide +kernel
theorem dX1_copyFrom_102 : decode cX1_copyFrom 102 = .ok (.bipush 6, 2) := by decide +kernel
theorem dX1_copyFrom_104 : decode cX1_copyFrom 104 = .ok (.invokestatic 59, 3) := by decide +kernel
theorem dX1_copyFrom_107 : decode cX1_copyFrom 107 = .ok (.aload_n 1, 1) := by decide +kernel
theorem dX1_copyFrom_108 : decode cX1_copyFrom 108 = .ok (.getfield 41, 3) := by decide +kernel
theorem dX1_copyFrom_111 : decode cX1_copyFrom 111 = .ok (.iconst 0, 1) := by decide +kernel
theorem dX1_copyFrom_112 : decode cX1_copyFrom 112 = .ok (.aload_n 0, 1) := by decide +kernel
theorem dX1_copyFrom_113 : decode cX1_copyFrom 113 = .ok (.getfield 41, 3) := by decide +kernel
theorem dX1_copyFrom_116 : decode cX1_copyFrom 116 = .ok (.iconst 0, 1) := by decide +kernel
theorem dX1_copyFrom_117 : decode cX1_copyFrom 117 = .ok (.bipush 6, 2) := by decide +kernel
theorem dX1_copyFrom_119 : decode cX1_copyFrom 119 = .ok (.invokestatic 59, 3) := by decide +kernel
theorem dX1_copyFrom_122 : decode cX1_copyFrom 122 = .ok (.aload_n 1, 1) := by decide +kernel
theorem dX1_copyFrom_123 : decode cX1_copyFrom 123 = .ok (.getfield 44, 3) := by decide +kernel
theorem dX1_copyFrom_126 : decode cX1_copyFrom 126 = .ok (.iconst 0, 1) := by decide +kernel
theorem dX1_copyFrom_127 : decode cX1_copyFrom 127 = .ok (.aload_n 0, 1) := by decide +kernel
theorem dX1_copyFrom_128 : decode cX1_copyFrom 128 = .ok (.getfield 44, 3) := by decide +kernel
theorem dX1_copyFrom_131 : decode cX1_copyFrom 131 = .ok (.iconst 0, 1) := by decide +kernel
theorem dX1_copyFrom_132 : decode cX1_copyFrom 132 = .ok (.bipush 6, 2) := by decide +kernel
theorem dX1_copyFrom_134 : decode cX1_copyFrom 134 = .ok (.invokestatic 59, 3) := by decide +kernel
theorem dX1_copyFrom_137 : decode cX1_copyFrom 137 = .ok (.aload_n 1, 1) := by decide +kernel
theorem dX1_copyFrom_138 : decode cX1_copyFrom 138 = .ok (.getfield 47, 3) := by decide +kernel
theorem dX1_copyFrom_141 : decode cX1_copyFrom 141 = .ok (.iconst 0, 1) := by decide +kernel
theorem dX1_copyFrom_142 : decode cX1_copyFrom 142 = .ok (.aload_n 0, 1) := by decide +kernel
theorem dX1_copyFrom_143 : decode cX1_copyFrom 143 = .ok (.getfield 47, 3) := by decide +kernel
theorem dX1_copyFrom_146 : decode cX1_copyFrom 146 = .ok (.iconst 0, 1) := by decide +kernel
theorem dX1_copyFrom_147 : decode cX1_copyFrom 147 = .ok (.bipush 6, 2) := by decide +kernel
theorem dX1_copyFrom_149 : decode cX1_copyFrom 149 = .ok (.invokestatic 59, 3) := by decide +kernel
theorem dX1_copyFrom_152 : decode cX1_copyFrom 152 = .ok (.aload_n 1, 1) := by decide +kernel
theorem dX1_copyFrom_153 : decode cX1_copyFrom 153 = .ok (.getfield 50, 3) := by decide +kernel
theorem dX1_copyFrom_156 : decode cX1_copyFrom 156 = .ok (.iconst 0, 1) := by decide +kernel
theorem dX1_copyFrom_157 : decode cX1_copyFrom 157 = .ok (.aload_n 0, 1) := by decide +kernel
theorem dX1_copyFrom_158 : decode cX1_copyFrom 158 = .ok (.getfield 50, 3) := by decide +kernel
theorem dX1_copyFrom_161 : decode cX1_copyFrom 161 = .ok (.iconst 0, 1) := by decide +kernel
theorem dX1_copyFrom_162 : decode cX1_copyFrom 162 = .ok (.bipush 6, 2) := by decide +kernel
theorem dX1_copyFrom_164 : decode cX1_copyFrom 164 = .ok (.invokestatic 59, 3) := by decide +kernel
theorem dX1_copyFrom_167 : decode cX1_copyFrom 167 = .ok (.aload_n 1, 1) := by decide +kernel
theorem dX1_copyFrom_168 : decode cX1_copyFrom 168 = .ok (.getfield 53, 3) := by decide +kernel
theorem dX1_copyFrom_171 : decode cX1_copyFrom 171 = .ok (.iconst 0, 1) := by decide +kernel
theorem dX1_copyFrom_172 : decode cX1_copyFrom 172 = .ok (.aload_n 0, 1) := by decide +kernel
theorem dX1_copyFrom_173 : decode cX1_copyFrom 173 = .ok (.getfield 53, 3) := by decide +kernel
theorem dX1_copyFrom_176 : decode cX1_copyFrom 176 = .ok (.iconst 0, 1) := by decide +kernel
theorem dX1_copyFrom_177 : decode cX1_copyFrom 177 = .ok (.bipush 6, 2) := by decide +kernel
theorem dX1_copyFrom_179 : decode cX1_copyFrom 179 = .ok (.invokestatic 59, 3) := by decide +kernel
theorem dX1_copyFrom_182 : decode cX1_copyFrom 182 = .ok (.aload_n 1, 1) := by decide +kernel
theorem dX1_copyFrom_183 : decode cX1_copyFrom 183 = .ok (.getfield 56, 3) := by decide +kernel
theorem dX1_copyFrom_186 : decode cX1_copyFrom 186 = .ok (.iconst 0, 1) := by decide +kernel
theorem dX1_copyFrom_187 : decode cX1_copyFrom 187 = .ok (.aload_n 0, 1) := by decide +kernel
theorem dX1_copyFrom_188 : decode cX1_copyFrom 188 = .ok (.getfield 56, 3) := by decide +kernel
theorem dX1_copyFrom_191 : decode cX1_copyFrom 191 = .ok (.iconst 0, 1) := by decide +kernel
theorem dX1_copyFrom_192 : decode cX1_copyFrom 192 = .ok (.bipush 6, 2) := by decide +kernel
theorem dX1_copyFrom_194 : decode cX1_copyFrom 194 = .ok (.invokestatic 59, 3) := by decide +kernel
theorem dX1_copyFrom_197 : decode cX1_copyFrom 197 = .ok (.return_, 1) := by decide +kernel
set_option maxRecDepth 20000 in
theorem ggX1_hasName_X1_indexOf : GoodIn wsX1_hasName wsX1_indexOf := goodIn_r _ [10] (by decide +kernel) (by decide +kernel)
set_option maxRecDepth 20000 in
theorem gX1_hasName_X1_indexOf : GoodIn wsX1_hasName (va_wsS RX1 65 yX1_indexOf wsX1_indexOf) := goodIn_app (goodIn_of _ (by decide +kernel)) ggX1_hasName_X1_indexOf
theorem dX1_hasName_0 : decode cX1_hasName 0 = .ok (.aload_n 0, 1) := by decide +kernel
theorem dX1_hasName_1 : decode cX1_hasName 1 = .ok (.getfield 24, 3) := by decide +kernel
theorem dX1_hasName_4 : decode cX1_hasName 4 = .ok (.aload_n 0, 1) := by decide +kernel
theorem dX1_hasName_5 : decode cX1_hasName 5 = .ok (.getfield 9, 3) := by decide +kernel
theorem dX1_hasName_8 : decode cX1_hasName 8 = .ok (.lload_n 1, 1) := by decide +kernel
theorem dX1_hasName_9 : decode cX1_hasName 9 = .ok (.invokestatic 65, 3) := by decide +kernel
theorem dX1_hasName_12 : decode cX1_hasName 12 = .ok (.iconst (-1), 1) := by decide +kernel
theorem dX1_hasName_13 : decode cX1_hasName 13 = .ok (.if_icmp .ne 35, 3) := by decide +kernel
theorem dX1_hasName_16 : decode cX1_hasName 16 = .ok (.aload_n 0, 1) := by decide +kernel
theorem dX1_hasName_17 : decode cX1_hasName 17 = .ok (.getfield 38, 3) := by decide +kernel
theorem dX1_hasName_20 : decode cX1_hasName 20 = .ok (.aload_n 0, 1) := by decide +kernel
theorem dX1_hasName_21 : decode cX1_hasName 21 = .ok (.getfield 15, 3) := by decide +kernel
theorem dX1_hasName_24 : decode cX1_hasName 24 = .ok (.lload_n 1, 1) := by decide +kernel
theorem dX1_hasName_25 : decode cX1_hasName 25 = .ok (.invokestatic 65, 3) := by decide +kernel
theorem dX1_hasName_28 : decode cX1_hasName 28 = .ok (.iconst (-1), 1) := by decide +kernel
theorem dX1_hasName_29 : decode cX1_hasName 29 = .ok (.if_icmp .ne 19, 3) := by decide +kernel
theorem dX1_hasName_32 : decode cX1_hasName 32 = .ok (.aload_n 0, 1) := by decide +kernel
theorem dX1_hasName_33 : decode cX1_hasName 33 = .ok (.getfield 53, 3) := by decide +kernel
theorem dX1_hasName_36 : decode cX1_hasName 36 = .ok (.aload_n 0, 1) := by decide +kernel
theorem dX1_hasName_37 : decode cX1_hasName 37 = .ok (.getfield 18, 3) := by decide +kernel
theorem dX1_hasName_40 : decode cX1_hasName 40 = .ok (.lload_n 1, 1) := by decide +kernel
theorem dX1_hasName_41 : decode cX1_hasName 41 = .ok (.invokestatic 65, 3) := by decide +kernel
theorem dX1_hasName_44 : decode cX1_hasName 44 = .ok (.iconst (-1), 1) := by decide +kernel
theorem dX1_hasName_45 : decode cX1_hasName 45 = .ok (.if_icmp .eq 7, 3) := by decide +kernel
theorem dX1_hasName_48 : decode cX1_hasName 48 = .ok (.iconst 1, 1) := by decide +kernel
theorem dX1_hasName_49 : decode cX1_hasName 49 = .ok (.goto 4, 3) := by decide +kernel
theorem dX1_hasName_52 : decode cX1_hasName 52 = .ok (.iconst 0, 1) := by decide +kernel
theorem dX1_hasName_53 : decode cX1_hasName 53 = .ok (.ireturn, 1) := by decide +kernel
set_option maxRecDepth 20000 in
theorem ggX1_isToCome_X11_hasBit : GoodIn wsX1_isToCome wsX11_hasBit := goodIn_r _ [4] (by decide +kernel) (by decide +kernel)
set_option maxRecDepth 20000 in
theorem gX1_isToCome_X11_hasBit_n69 : GoodIn wsX1_isToCome (wsX11_hasBit) := ggX1_isToCome_X11_hasBit
theorem dX1_isToCome_0 : decode cX1_isToCome 0 = .ok (.aload_n 0, 1) := by decide +kernel
theorem dX1_isToCome_1 : decode cX1_isToCome 1 = .ok (.getfield 50, 3) := by decide +kernel
theorem dX1_isToCome_4 : decode cX1_isToCome 4 = .ok (.iload_n 1, 1) := by decide +kernel
theorem dX1_isToCome_5 : decode cX1_isToCome 5 = .ok (.iaload, 1) := by decide +kernel
theorem dX1_isToCome_6 : decode cX1_isToCome 6 = .ok (.iload_n 2, 1) := by decide +kernel
theorem dX1_isToCome_7 : decode cX1_isToCome 7 = .ok (.invokestatic 69, 3) := by decide +kernel
theorem dX1_isToCome_10 : decode cX1_isToCome 10 = .ok (.ireturn, 1) := by decide +kernel
set_option maxRecDepth 20000 in
theorem ggX1_mastersTo_X1_isToCome : GoodIn wsX1_mastersTo wsX1_isToCome := goodIn_r _ [6, 7, 8, 9, 10, 11, 12, 13, 14, 15, 16, 17, 18, 19, 20, 21, 22, 23, 24, 25] (by decide +kernel) (by decide +kernel)
set_option maxRecDepth 20000 in
theorem gX1_mastersTo_X1_isToCome : GoodIn wsX1_mastersTo (wsV RX1 73 RX1 yX1_isToCome wsX1_isToCome) := goodIn_app (goodIn_of _ (by decide +kernel)) ggX1_mastersTo_X1_isToCome
theorem dX1_mastersTo_0 : decode cX1_mastersTo 0 = .ok (.iconst 0, 1) := by decide +kernel
theorem dX1_mastersTo_1 : decode cX1_mastersTo 1 = .ok (.istore_n 2, 1) := by decide +kernel
theorem dX1_mastersTo_2 : decode cX1_mastersTo 2 = .ok (.iconst 0, 1) := by decide +kernel
theorem dX1_mastersTo_3 : decode cX1_mastersTo 3 = .ok (.istore_n 3, 1) := by decide +kernel
theorem dX1_mastersTo_4 : decode cX1_mastersTo 4 = .ok (.iload_n 3, 1) := by decide +kernel
theorem dX1_mastersTo_5 : decode cX1_mastersTo 5 = .ok (.aload_n 0, 1) := by decide +kernel
theorem dX1_mastersTo_6 : decode cX1_mastersTo 6 = .ok (.getfield 15, 3) := by decide +kernel
theorem dX1_mastersTo_9 : decode cX1_mastersTo 9 = .ok (.if_icmp .ge 24, 3) := by decide +kernel
theorem dX1_mastersTo_12 : decode cX1_mastersTo 12 = .ok (.aload_n 0, 1) := by decide +kernel
theorem dX1_mastersTo_13 : decode cX1_mastersTo 13 = .ok (.iload_n 3, 1) := by decide +kernel
theorem dX1_mastersTo_14 : decode cX1_mastersTo 14 = .ok (.iload_n 1, 1) := by decide +kernel
theorem dX1_mastersTo_15 : decode cX1_mastersTo 15 = .ok (.invokevirtual 73, 3) := by decide +kernel
theorem dX1_mastersTo_18 : decode cX1_mastersTo 18 = .ok (.ifCond .eq 9, 3) := by decide +kernel
theorem dX1_mastersTo_21 : decode cX1_mastersTo 21 = .ok (.iload_n 2, 1) := by decide +kernel
theorem dX1_mastersTo_22 : decode cX1_mastersTo 22 = .ok (.iconst 1, 1) := by decide +kernel
theorem dX1_mastersTo_23 : decode cX1_mastersTo 23 = .ok (.iload_n 3, 1) := by decide +kernel
theorem dX1_mastersTo_24 : decode cX1_mastersTo 24 = .ok (.ishl, 1) := by decide +kernel
theorem dX1_mastersTo_25 : decode cX1_mastersTo 25 = .ok (.ior, 1) := by decide +kernel
theorem dX1_mastersTo_26 : decode cX1_mastersTo 26 = .ok (.istore_n 2, 1) := by decide +kernel
theorem dX1_mastersTo_27 : decode cX1_mastersTo 27 = .ok (.iinc 3 1, 3) := by decide +kernel
theorem dX1_mastersTo_30 : decode cX1_mastersTo 30 = .ok (.goto (-26), 3) := by decide +kernel
theorem dX1_mastersTo_33 : decode cX1_mastersTo 33 = .ok (.iload_n 2, 1) := by decide +kernel
theorem dX1_mastersTo_34 : decode cX1_mastersTo 34 = .ok (.ireturn, 1) := by decide +kernel
theorem dX1_mastersBy_0 : decode cX1_mastersBy 0 = .ok (.iconst 0, 1) := by decide +kernel
theorem dX1_mastersBy_1 : decode cX1_mastersBy 1 = .ok (.istore_n 2, 1) := by decide +kernel
theorem dX1_mastersBy_2 : decode cX1_mastersBy 2 = .ok (.iconst 0, 1) := by decide +kernel
theorem dX1_mastersBy_3 : decode cX1_mastersBy 3 = .ok (.istore_n 3, 1) := by decide +kernel
theorem dX1_mastersBy_4 : decode cX1_mastersBy 4 = .ok (.iload_n 3, 1) := by decide +kernel
theorem dX1_mastersBy_5 : decode cX1_mastersBy 5 = .ok (.aload_n 0, 1) := by decide +kernel
theorem dX1_mastersBy_6 : decode cX1_mastersBy 6 = .ok (.getfield 15, 3) := by decide +kernel
theorem dX1_mastersBy_9 : decode cX1_mastersBy 9 = .ok (.if_icmp .ge 22, 3) := by decide +kernel
theorem dX1_mastersBy_12 : decode cX1_mastersBy 12 = .ok (.aload_n 0, 1) := by decide +kernel
theorem dX1_mastersBy_13 : decode cX1_mastersBy 13 = .ok (.getfield 47, 3) := by decide +kernel
theorem dX1_mastersBy_16 : decode cX1_mastersBy 16 = .ok (.iload_n 3, 1) := by decide +kernel
theorem dX1_mastersBy_17 : decode cX1_mastersBy 17 = .ok (.iaload, 1) := by decide +kernel
theorem dX1_mastersBy_18 : decode cX1_mastersBy 18 = .ok (.iload_n 1, 1) := by decide +kernel
theorem dX1_mastersBy_19 : decode cX1_mastersBy 19 = .ok (.if_icmp .ne 6, 3) := by decide +kernel
theorem dX1_mastersBy_22 : decode cX1_mastersBy 22 = .ok (.iinc 2 1, 3) := by decide +kernel
theorem dX1_mastersBy_25 : decode cX1_mastersBy 25 = .ok (.iinc 3 1, 3) := by decide +kernel
theorem dX1_mastersBy_28 : decode cX1_mastersBy 28 = .ok (.goto (-24), 3) := by decide +kernel
theorem dX1_mastersBy_31 : decode cX1_mastersBy 31 = .ok (.iload_n 2, 1) := by decide +kernel
theorem dX1_mastersBy_32 : decode cX1_mastersBy 32 = .ok (.ireturn, 1) := by decide +kernel
theorem dX1_indexOf_0 : decode cX1_indexOf 0 = .ok (.iconst 0, 1) := by decide +kernel
theorem dX1_indexOf_1 : decode cX1_indexOf 1 = .ok (.istore 4, 2) := by decide +kernel
theorem dX1_indexOf_3 : decode cX1_indexOf 3 = .ok (.iload 4, 2) := by decide +kernel
theorem dX1_indexOf_5 : decode cX1_indexOf 5 = .ok (.iload_n 1, 1) := by decide +kernel
theorem dX1_indexOf_6 : decode cX1_indexOf 6 = .ok (.if_icmp .ge 28, 3) := by decide +kernel
theorem dX1_indexOf_9 : decode cX1_indexOf 9 = .ok (.iload 4, 2) := by decide +kernel
theorem dX1_indexOf_11 : decode cX1_indexOf 11 = .ok (.aload_n 0, 1) := by decide +kernel
theorem dX1_indexOf_12 : decode cX1_indexOf 12 = .ok (.arraylength, 1) := by decide +kernel
theorem dX1_indexOf_13 : decode cX1_indexOf 13 = .ok (.if_icmp .ge 21, 3) := by decide +kernel
theorem dX1_indexOf_16 : decode cX1_indexOf 16 = .ok (.aload_n 0, 1) := by decide +kernel
theorem dX1_indexOf_17 : decode cX1_indexOf 17 = .ok (.iload 4, 2) := by decide +kernel
theorem dX1_indexOf_19 : decode cX1_indexOf 19 = .ok (.laload, 1) := by decide +kernel
theorem dX1_indexOf_20 : decode cX1_indexOf 20 = .ok (.lload_n 2, 1) := by decide +kernel
theorem dX1_indexOf_21 : decode cX1_indexOf 21 = .ok (.lcmp, 1) := by decide +kernel
theorem dX1_indexOf_22 : decode cX1_indexOf 22 = .ok (.ifCond .ne 6, 3) := by decide +kernel
theorem dX1_indexOf_25 : decode cX1_indexOf 25 = .ok (.iload 4, 2) := by decide +kernel
theorem dX1_indexOf_27 : decode cX1_indexOf 27 = .ok (.ireturn, 1) := by decide +kernel
theorem dX1_indexOf_28 : decode cX1_indexOf 28 = .ok (.iinc 4 1, 3) := by decide +kernel
theorem dX1_indexOf_31 : decode cX1_indexOf 31 = .ok (.goto (-28), 3) := by decide +kernel
theorem dX1_indexOf_34 : decode cX1_indexOf 34 = .ok (.iconst (-1), 1) := by decide +kernel
theorem dX1_indexOf_35 : decode cX1_indexOf 35 = .ok (.ireturn, 1) := by decide +kernel
set_option maxRecDepth 20000 in
theorem ggX2_init_X1_init : GoodIn wsX2_init wsX1_init := goodIn_r _ [11, 12, 2, 3, 13, 14, 15, 16, 17, 18, 19, 20, 21, 22, 23, 24, 25, 26, 27, 28, 29, 30, 31, 32, 33, 34, 35, 36, 37, 38, 39, 40, 41, 42, 43, 44] (by decide +kernel) (by decide +kernel)
set_option maxRecDepth 20000 in
theorem gX2_init_X1_init_n11 : GoodIn wsX2_init (wsX1_init) := ggX2_init_X1_init
theorem dX2_init_0 : decode cX2_init 0 = .ok (.aload_n 0, 1) := by decide +kernel
theorem dX2_init_1 : decode cX2_init 1 = .ok (.invokespecial 3, 3) := by decide +kernel
theorem dX2_init_4 : decode cX2_init 4 = .ok (.aload_n 0, 1) := by decide +kernel
theorem dX2_init_5 : decode cX2_init 5 = .ok (.new 9, 3) := by decide +kernel
theorem dX2_init_8 : decode cX2_init 8 = .ok (.dup, 1) := by decide +kernel
theorem dX2_init_9 : decode cX2_init 9 = .ok (.invokespecial 11, 3) := by decide +kernel
theorem dX2_init_12 : decode cX2_init 12 = .ok (.putfield 12, 3) := by decide +kernel
theorem dX2_init_15 : decode cX2_init 15 = .ok (.aload_n 0, 1) := by decide +kernel
theorem dX2_init_16 : decode cX2_init 16 = .ok (.iconst 0, 1) := by decide +kernel
theorem dX2_init_17 : decode cX2_init 17 = .ok (.putfield 18, 3) := by decide +kernel
theorem dX2_init_20 : decode cX2_init 20 = .ok (.aload_n 0, 1) := by decide +kernel
theorem dX2_init_21 : decode cX2_init 21 = .ok (.aload_n 1, 1) := by decide +kernel
theorem dX2_init_22 : decode cX2_init 22 = .ok (.putfield 22, 3) := by decide +kernel
theorem dX2_init_25 : decode cX2_init 25 = .ok (.return_, 1) := by decide +kernel
set_option maxRecDepth 20000 in
theorem ggX2_read_X1_clear : GoodIn wsX2_read wsX1_clear := goodIn_r _ [8, 9, 10, 11, 12, 227, 228, 229, 230, 231, 232, 233, 234, 235, 236, 237, 238, 239, 240, 241] (by decide +kernel) (by decide +kernel)
set_option maxRecDepth 20000 in
theorem gX2_read_X1_clear : GoodIn wsX2_read (wsV RX2 26 RX1 yX1_clear wsX1_clear) := goodIn_app (goodIn_of _ (by decide +kernel)) ggX2_read_X1_clear
set_option maxRecDepth 20000 in
theorem ggX2_read_X8_open : GoodIn wsX2_read wsX8_open := goodIn_r _ [17, 18, 19, 20, 21, 22, 23, 24, 25, 26, 27, 28, 29, 30, 31, 32, 33, 16, 34, 35, 36, 37, 38, 39, 40, 41, 42, 43, 44, 45, 46, 47, 48, 49, 50, 51, 52, 53, 54, 55, 56, 57, 58, 59, 60, 61, 62, 63, 64, 65, 66, 67, 68, 69, 70, 71, 72, 73, 74, 75, 76, 77, 78, 79, 80, 81, 82, 83, 84, 85, 86, 87, 88, 89, 90, 91, 92, 93, 94, 95, 96, 97, 98, 99, 100, 101, 102, 103, 104, 105, 106, 107, 108, 109, 110, 111, 112, 113, 114, 115, 116, 117, 118, 119, 120, 121, 122, 242, 243, 244, 245, 246, 247, 248, 249, 250, 251, 252, 253, 254, 255, 256] (by decide +kernel) (by decide +kernel)
set_option maxRecDepth 20000 in
theorem gX2_read_X8_open : GoodIn wsX2_read (wsV RX2 29 RX8 yX8_open wsX8_open) := goodIn_app (goodIn_of _ (by decide +kernel)) ggX2_read_X8_open
set_option maxRecDepth 20000 in
theorem ggX2_read_X8_isAtEnd : GoodIn wsX2_read wsX8_isAtEnd := goodIn_r _ [126, 119, 242, 243, 244, 245, 246, 247, 248, 249, 250, 251, 252, 253, 254] (by decide +kernel) (by decide +kernel)
set_option maxRecDepth 20000 in
theorem gX2_read_X8_isAtEnd : GoodIn wsX2_read (wsV RX2 35 RX8 yX8_isAtEnd wsX8_isAtEnd) := goodIn_app (goodIn_of _ (by decide +kernel)) ggX2_read_X8_isAtEnd
set_option maxRecDepth 20000 in
theorem ggX2_read_X2_readLine : GoodIn wsX2_read wsX2_readLine := goodIn_r _ [131, 3, 132, 133, 134, 16, 135, 119, 121, 136, 137, 138, 130, 139, 1, 140, 141, 142, 143, 144, 145, 146, 147, 148, 149, 28, 120, 29, 150, 116, 117, 118, 30, 24, 108, 109, 110, 111, 122, 151, 152, 153, 154, 155, 156, 157, 158, 159, 7, 160, 161, 9, 162, 10, 163, 11, 164, 165, 166, 167, 168, 169, 170, 171, 115, 172, 173, 174, 175, 176, 177, 178, 179, 180, 181, 182, 183, 184, 185, 186, 26, 22, 27, 187, 188, 189, 190, 191, 192, 193, 194, 195, 196, 197, 198, 199, 200, 201, 202, 203, 204, 205, 206, 207, 208, 209, 210, 211, 212, 213, 214, 2, 215, 224, 225, 226, 242, 243, 244, 245, 246, 247, 248, 249, 250, 251, 252, 253, 254, 227, 228, 229, 230, 231, 232, 233, 234, 235, 236, 237, 238, 239, 240, 241] (by decide +kernel) (by decide +kernel)
set_option maxRecDepth 20000 in
theorem gX2_read_X2_readLine : GoodIn wsX2_read (wsV RX2 39 RX2 yX2_readLine wsX2_readLine) := goodIn_app (goodIn_of _ (by decide +kernel)) ggX2_read_X2_readLine
set_option maxRecDepth 20000 in
theorem ggX2_read_X8_takeSymbol : GoodIn wsX2_read wsX8_takeSymbol := goodIn_r _ [219, 220, 221, 222, 16, 223, 119, 121, 171, 147, 148, 149, 28, 120, 29, 115, 116, 117, 118, 30, 24, 108, 109, 110, 111, 122, 242, 243, 244, 245, 246, 247, 248, 249, 250, 251, 252, 253, 254] (by decide +kernel) (by decide +kernel)
set_option maxRecDepth 20000 in
theorem gX2_read_X8_takeSymbol : GoodIn wsX2_read (wsV RX2 42 RX8 yX8_takeSymbol wsX8_takeSymbol) := goodIn_app (goodIn_of _ (by decide +kernel)) ggX2_read_X8_takeSymbol
theorem dX2_read_0 : decode cX2_read 0 = .ok (.aload_n 0, 1) := by decide +kernel
theorem dX2_read_1 : decode cX2_read 1 = .ok (.getfield 12, 3) := by decide +kernel
theorem dX2_read_4 : decode cX2_read 4 = .ok (.invokevirtual 26, 3) := by decide +kernel
theorem dX2_read_7 : decode cX2_read 7 = .ok (.aload_n 0, 1) := by decide +kernel
theorem dX2_read_8 : decode cX2_read 8 = .ok (.iconst 0, 1) := by decide +kernel
theorem dX2_read_9 : decode cX2_read 9 = .ok (.putfield 18, 3) := by decide +kernel
theorem dX2_read_12 : decode cX2_read 12 = .ok (.aload_n 0, 1) := by decide +kernel
theorem dX2_read_13 : decode cX2_read 13 = .ok (.getfield 22, 3) := by decide +kernel
theorem dX2_read_16 : decode cX2_read 16 = .ok (.sipush 900, 3) := by decide +kernel
theorem dX2_read_19 : decode cX2_read 19 = .ok (.invokevirtual 29, 3) := by decide +kernel
theorem dX2_read_22 : decode cX2_read 22 = .ok (.iconst 0, 1) := by decide +kernel
theorem dX2_read_23 : decode cX2_read 23 = .ok (.istore_n 1, 1) := by decide +kernel
theorem dX2_read_24 : decode cX2_read 24 = .ok (.iload_n 1, 1) := by decide +kernel
theorem dX2_read_25 : decode cX2_read 25 = .ok (.sipush 900, 3) := by decide +kernel
theorem dX2_read_28 : decode cX2_read 28 = .ok (.if_icmp .ge 38, 3) := by decide +kernel
theorem dX2_read_31 : decode cX2_read 31 = .ok (.aload_n 0, 1) := by decide +kernel
theorem dX2_read_32 : decode cX2_read 32 = .ok (.getfield 22, 3) := by decide +kernel
theorem dX2_read_35 : decode cX2_read 35 = .ok (.invokevirtual 35, 3) := by decide +kernel
theorem dX2_read_38 : decode cX2_read 38 = .ok (.ifCond .ne 28, 3) := by decide +kernel
theorem dX2_read_41 : decode cX2_read 41 = .ok (.aload_n 0, 1) := by decide +kernel
theorem dX2_read_42 : decode cX2_read 42 = .ok (.invokevirtual 39, 3) := by decide +kernel
theorem dX2_read_45 : decode cX2_read 45 = .ok (.ifCond .eq 21, 3) := by decide +kernel
theorem dX2_read_48 : decode cX2_read 48 = .ok (.aload_n 0, 1) := by decide +kernel
theorem dX2_read_49 : decode cX2_read 49 = .ok (.getfield 22, 3) := by decide +kernel
theorem dX2_read_52 : decode cX2_read 52 = .ok (.bipush 59, 2) := by decide +kernel
theorem dX2_read_54 : decode cX2_read 54 = .ok (.invokevirtual 42, 3) := by decide +kernel
theorem dX2_read_57 : decode cX2_read 57 = .ok (.ifCond .eq 9, 3) := by decide +kernel
theorem dX2_read_60 : decode cX2_read 60 = .ok (.iinc 1 1, 3) := by decide +kernel
theorem dX2_read_63 : decode cX2_read 63 = .ok (.goto (-39), 3) := by decide +kernel
theorem dX2_read_66 : decode cX2_read 66 = .ok (.iload_n 1, 1) := by decide +kernel
theorem dX2_read_67 : decode cX2_read 67 = .ok (.ireturn, 1) := by decide +kernel
set_option maxRecDepth 20000 in
theorem ggX2_readLine_X8_isKeyword : GoodIn wsX2_readLine wsX8_isKeyword := goodIn_r _ [6, 7, 8, 116, 117, 118, 119, 120, 121, 122, 123, 124, 125, 126, 127, 128] (by decide +kernel) (by decide +kernel)
set_option maxRecDepth 20000 in
theorem gX2_readLine_X8_isKeyword : GoodIn wsX2_readLine (wsV RX2 46 RX8 yX8_isKeyword wsX8_isKeyword) := goodIn_app (goodIn_of _ (by decide +kernel)) ggX2_readLine_X8_isKeyword
set_option maxRecDepth 20000 in
theorem ggX2_readLine_X2_readClock : GoodIn wsX2_readLine wsX2_readClock := goodIn_r _ [13, 14, 15, 1, 16, 17, 18, 19, 20, 21, 22, 23, 5, 24, 25, 26, 27, 28, 29, 30, 31, 32, 33, 34, 7, 35, 36, 8, 37, 38, 39, 40, 41, 12, 42, 43, 44, 45, 46, 47, 48, 49, 50, 51, 52, 53, 54, 55, 56, 57, 58, 59, 60, 61, 62, 63, 64, 65, 66, 67, 68, 2, 3, 4, 6, 113, 114, 115, 129, 130, 131, 132, 133, 134, 135, 136, 137, 138, 139, 140, 141, 142, 143, 116, 117, 118, 119, 120, 121, 122, 123, 124, 125, 126, 127, 128] (by decide +kernel) (by decide +kernel)
set_option maxRecDepth 20000 in
theorem gX2_readLine_X2_readClock : GoodIn wsX2_readLine (wsV RX2 49 RX2 yX2_readClock wsX2_readClock) := goodIn_app (goodIn_of _ (by decide +kernel)) ggX2_readLine_X2_readClock
set_option maxRecDepth 20000 in
theorem ggX2_readLine_X2_readMaster : GoodIn wsX2_readLine wsX2_readMaster := goodIn_r _ [72, 14, 73, 1, 74, 75, 76, 77, 16, 15, 78, 79, 80, 81, 82, 21, 22, 23, 5, 24, 25, 26, 27, 28, 29, 30, 31, 32, 33, 34, 7, 35, 36, 8, 37, 38, 39, 40, 41, 12, 42, 43, 44, 45, 46, 47, 48, 49, 50, 51, 52, 53, 54, 55, 56, 57, 58, 59, 60, 61, 62, 63, 64, 83, 84, 85, 86, 87, 113, 114, 115, 129, 130, 131, 132, 133, 134, 135, 136, 137, 138, 139, 140, 141, 142, 143, 116, 117, 118, 119, 120, 121, 122, 123, 124, 125, 126, 127, 128] (by decide +kernel) (by decide +kernel)
set_option maxRecDepth 20000 in
theorem gX2_readLine_X2_readMaster : GoodIn wsX2_readLine (wsV RX2 52 RX2 yX2_readMaster wsX2_readMaster) := goodIn_app (goodIn_of _ (by decide +kernel)) ggX2_readLine_X2_readMaster
set_option maxRecDepth 20000 in
theorem ggX2_readLine_X2_readMeet : GoodIn wsX2_readLine wsX2_readMeet := goodIn_r _ [91, 14, 92, 1, 93, 94, 20, 21, 22, 23, 5, 24, 25, 26, 27, 28, 29, 30, 31, 32, 33, 34, 7, 35, 36, 8, 37, 38, 39, 40, 41, 12, 42, 43, 44, 45, 46, 47, 48, 49, 50, 51, 52, 53, 54, 55, 56, 57, 58, 59, 60, 61, 62, 63, 64, 113, 114, 115, 129, 130, 131, 132, 133, 134, 135, 136, 137, 138, 139, 140, 141, 142, 143, 116, 117, 118, 119, 120, 121, 122, 123, 124, 125, 126, 127, 128] (by decide +kernel) (by decide +kernel)
set_option maxRecDepth 20000 in
theorem gX2_readLine_X2_readMeet : GoodIn wsX2_readLine (wsV RX2 55 RX2 yX2_readMeet wsX2_readMeet) := goodIn_app (goodIn_of _ (by decide +kernel)) ggX2_readLine_X2_readMeet
set_option maxRecDepth 20000 in
theorem ggX2_readLine_X2_readComes : GoodIn wsX2_readLine wsX2_readComes := goodIn_r _ [98, 1, 14, 74, 73, 93, 92, 77, 28, 29, 30, 5, 31, 32, 33, 34, 7, 35, 26, 36, 8, 37, 38, 83, 84, 85, 86, 63, 22, 23, 24, 25, 27, 87, 57, 48, 58, 99, 100, 101, 102, 103, 104, 105, 106, 21, 113, 114, 115, 129, 130, 131, 132, 133, 134, 135, 136, 137, 138, 139, 140, 141, 142, 143, 116, 117, 118, 119, 120, 121, 122, 123, 124, 125, 126, 127, 128] (by decide +kernel) (by decide +kernel)
set_option maxRecDepth 20000 in
theorem gX2_readLine_X2_readComes : GoodIn wsX2_readLine (wsV RX2 58 RX2 yX2_readComes wsX2_readComes) := goodIn_app (goodIn_of _ (by decide +kernel)) ggX2_readLine_X2_readComes
set_option maxRecDepth 20000 in
theorem ggX2_readLine_X2_readWait : GoodIn wsX2_readLine wsX2_readWait := goodIn_r _ [110, 1, 111, 14, 112, 20, 2, 3, 4, 5, 6, 7, 8, 21, 22, 23, 24, 25, 26, 27, 28, 29, 30, 31, 32, 33, 34, 35, 36, 37, 38, 59, 60, 61, 62, 63, 64, 113, 114, 115, 129, 130, 131, 132, 133, 134, 135, 136, 137, 138, 139, 140, 141, 142, 143, 116, 117, 118, 119, 120, 121, 122, 123, 124, 125, 126, 127, 128] (by decide +kernel) (by decide +kernel)
set_option maxRecDepth 20000 in
theorem gX2_readLine_X2_readWait : GoodIn wsX2_readLine (wsV RX2 61 RX2 yX2_readWait wsX2_readWait) := goodIn_app (goodIn_of _ (by decide +kernel)) ggX2_readLine_X2_readWait
theorem dX2_readLine_0 : decode cX2_readLine 0 = .ok (.aload_n 0, 1) := by decide +kernel
theorem dX2_readLine_1 : decode cX2_readLine 1 = .ok (.getfield 22, 3) := by decide +kernel
theorem dX2_readLine_4 : decode cX2_readLine 4 = .ok (.iconst 0, 1) := by decide +kernel
theorem dX2_readLine_5 : decode cX2_readLine 5 = .ok (.invokevirtual 46, 3) := by decide +kernel
theorem dX2_readLine_8 : decode cX2_readLine 8 = .ok (.ifCond .eq 8, 3) := by decide +kernel
theorem dX2_readLine_11 : decode cX2_readLine 11 = .ok (.aload_n 0, 1) := by decide +kernel
theorem dX2_readLine_12 : decode cX2_readLine 12 = .ok (.invokevirtual 49, 3) := by decide +kernel
theorem dX2_readLine_15 : decode cX2_readLine 15 = .ok (.ireturn, 1) := by decide +kernel
theorem dX2_readLine_16 : decode cX2_readLine 16 = .ok (.aload_n 0, 1) := by decide +kernel
theorem dX2_readLine_17 : decode cX2_readLine 17 = .ok (.getfield 22, 3) := by decide +kernel
theorem dX2_readLine_20 : decode cX2_readLine 20 = .ok (.iconst 1, 1) := by decide +kernel
theorem dX2_readLine_21 : decode cX2_readLine 21 = .ok (.invokevirtual 46, 3) := by decide +kernel
theorem dX2_readLine_24 : decode cX2_readLine 24 = .ok (.ifCond .eq 8, 3) := by decide +kernel
theorem dX2_readLine_27 : decode cX2_readLine 27 = .ok (.aload_n 0, 1) := by decide +kernel
theorem dX2_readLine_28 : decode cX2_readLine 28 = .ok (.invokevirtual 52, 3) := by decide +kernel
theorem dX2_readLine_31 : decode cX2_readLine 31 = .ok (.ireturn, 1) := by decide +kernel
theorem dX2_readLine_32 : decode cX2_readLine 32 = .ok (.aload_n 0, 1) := by decide +kernel
theorem dX2_readLine_33 : decode cX2_readLine 33 = .ok (.getfield 22, 3) := by decide +kernel
theorem dX2_readLine_36 : decode cX2_readLine 36 = .ok (.iconst 2, 1) := by decide +kernel
theorem dX2_readLine_37 : decode cX2_readLine 37 = .ok (.invokevirtual 46, 3) := by decide +kernel
theorem dX2_readLine_40 : decode cX2_readLine 40 = .ok (.ifCond .eq 8, 3) := by decide +kernel
theorem dX2_readLine_43 : decode cX2_readLine 43 = .ok (.aload_n 0, 1) := by decide +kernel
theorem dX2_readLine_44 : decode cX2_readLine 44 = .ok (.invokevirtual 55, 3) := by decide +kernel
theorem dX2_readLine_47 : decode cX2_readLine 47 = .ok (.ireturn, 1) := by decide +kernel
theorem dX2_readLine_48 : decode cX2_readLine 48 = .ok (.aload_n 0, 1) := by decide +kernel
theorem dX2_readLine_49 : decode cX2_readLine 49 = .ok (.getfield 22, 3) := by decide +kernel
theorem dX2_readLine_52 : decode cX2_readLine 52 = .ok (.iconst 3, 1) := by decide +kernel
theorem dX2_readLine_53 : decode cX2_readLine 53 = .ok (.invokevirtual 46, 3) := by decide +kernel
theorem dX2_readLine_56 : decode cX2_readLine 56 = .ok (.ifCond .eq 8, 3) := by decide +kernel
theorem dX2_readLine_59 : decode cX2_readLine 59 = .ok (.aload_n 0, 1) := by decide +kernel
theorem dX2_readLine_60 : decode cX2_readLine 60 = .ok (.invokevirtual 58, 3) := by decide +kernel
theorem dX2_readLine_63 : decode cX2_readLine 63 = .ok (.ireturn, 1) := by decide +kernel
theorem dX2_readLine_64 : decode cX2_readLine 64 = .ok (.aload_n 0, 1) := by decide +kernel
theorem dX2_readLine_65 : decode cX2_readLine 65 = .ok (.invokevirtual 61, 3) := by decide +kernel
theorem dX2_readLine_68 : decode cX2_readLine 68 = .ok (.ireturn, 1) := by decide +kernel
set_option maxRecDepth 20000 in
theorem ggX2_readClock_X8_refuse : GoodIn wsX2_readClock wsX8_refuse := goodIn_r _ [13, 14, 15, 16, 83, 84, 85, 86, 87, 88, 89, 90, 91, 92, 93, 94, 95] (by decide +kernel) (by decide +kernel)
set_option maxRecDepth 20000 in
theorem gX2_readClock_X8_refuse : GoodIn wsX2_readClock (wsV RX2 68 RX8 yX8_refuse wsX8_refuse) := goodIn_app (goodIn_of _ (by decide +kernel)) ggX2_readClock_X8_refuse
set_option maxRecDepth 20000 in
theorem ggX2_readClock_X8_advance : GoodIn wsX2_readClock wsX8_advance := goodIn_r _ [20, 21, 22, 23, 24, 25, 15, 26, 27, 28, 29, 83, 84, 85, 86, 87, 88, 89, 90, 91, 92, 93, 94, 95] (by decide +kernel) (by decide +kernel)
set_option maxRecDepth 20000 in
theorem gX2_readClock_X8_advance : GoodIn wsX2_readClock (wsV RX2 71 RX8 yX8_advance wsX8_advance) := goodIn_app (goodIn_of _ (by decide +kernel)) ggX2_readClock_X8_advance
set_option maxRecDepth 20000 in
theorem ggX2_readClock_X2_takeNewName : GoodIn wsX2_readClock wsX2_takeNewName := goodIn_r _ [34, 3, 35, 1, 36, 9, 10, 11, 12, 13, 14, 15, 16, 37, 38, 39, 40, 41, 42, 43, 44, 45, 46, 47, 48, 49, 50, 17, 18, 19, 20, 21, 22, 23, 24, 25, 26, 27, 28, 29, 65, 66, 67, 83, 84, 85, 86, 87, 88, 89, 90, 91, 92, 93, 94, 95, 68, 69, 70, 71, 72, 73, 74, 75, 76, 77, 78, 79, 80, 81, 82] (by decide +kernel) (by decide +kernel)
set_option maxRecDepth 20000 in
theorem gX2_readClock_X2_takeNewName : GoodIn wsX2_readClock (wsV RX2 78 RX2 yX2_takeNewName wsX2_takeNewName) := goodIn_app (goodIn_of _ (by decide +kernel)) ggX2_readClock_X2_takeNewName
set_option maxRecDepth 20000 in
theorem ggX2_readClock_X8_takeNumber : GoodIn wsX2_readClock wsX8_takeNumber := goodIn_r _ [54, 27, 24, 55, 10, 11, 12, 13, 14, 15, 16, 56, 18, 19, 20, 21, 22, 23, 25, 26, 28, 29, 83, 84, 85, 86, 87, 88, 89, 90, 91, 92, 93, 94, 95] (by decide +kernel) (by decide +kernel)
set_option maxRecDepth 20000 in
theorem gX2_readClock_X8_takeNumber : GoodIn wsX2_readClock (wsV RX2 82 RX8 yX8_takeNumber wsX8_takeNumber) := goodIn_app (goodIn_of _ (by decide +kernel)) ggX2_readClock_X8_takeNumber
set_option maxRecDepth 20000 in
theorem ggX2_readClock_X2_readTurn : GoodIn wsX2_readClock wsX2_readTurn := goodIn_r _ [60, 3, 61, 62, 63, 12, 64, 24, 27, 17, 18, 19, 20, 21, 22, 23, 25, 15, 26, 28, 29, 51, 52, 53, 54, 55, 10, 11, 13, 14, 16, 56, 65, 66, 67, 83, 84, 85, 86, 87, 88, 89, 90, 91, 92, 93, 94, 95] (by decide +kernel) (by decide +kernel)
set_option maxRecDepth 20000 in
theorem gX2_readClock_X2_readTurn : GoodIn wsX2_readClock (wsV RX2 93 RX2 yX2_readTurn wsX2_readTurn) := goodIn_app (goodIn_of _ (by decide +kernel)) ggX2_readClock_X2_readTurn
theorem dX2_readClock_0 : decode cX2_readClock 0 = .ok (.aload_n 0, 1) := by decide +kernel
theorem dX2_readClock_1 : decode cX2_readClock 1 = .ok (.getfield 12, 3) := by decide +kernel
theorem dX2_readClock_4 : decode cX2_readClock 4 = .ok (.getfield 64, 3) := by decide +kernel
theorem dX2_readClock_7 : decode cX2_readClock 7 = .ok (.istore_n 1, 1) := by decide +kernel
theorem dX2_readClock_8 : decode cX2_readClock 8 = .ok (.iload_n 1, 1) := by decide +kernel
theorem dX2_readClock_9 : decode cX2_readClock 9 = .ok (.bipush 6, 2) := by decide +kernel
theorem dX2_readClock_11 : decode cX2_readClock 11 = .ok (.if_icmp .lt 12, 3) := by decide +kernel
theorem dX2_readClock_14 : decode cX2_readClock 14 = .ok (.aload_n 0, 1) := by decide +kernel
theorem dX2_readClock_15 : decode cX2_readClock 15 = .ok (.getfield 22, 3) := by decide +kernel
theorem dX2_readClock_18 : decode cX2_readClock 18 = .ok (.iconst 4, 1) := by decide +kernel
theorem dX2_readClock_19 : decode cX2_readClock 19 = .ok (.invokevirtual 68, 3) := by decide +kernel
theorem dX2_readClock_22 : decode cX2_readClock 22 = .ok (.ireturn, 1) := by decide +kernel
theorem dX2_readClock_23 : decode cX2_readClock 23 = .ok (.aload_n 0, 1) := by decide +kernel
theorem dX2_readClock_24 : decode cX2_readClock 24 = .ok (.getfield 22, 3) := by decide +kernel
theorem dX2_readClock_27 : decode cX2_readClock 27 = .ok (.invokevirtual 71, 3) := by decide +kernel
theorem dX2_readClock_30 : decode cX2_readClock 30 = .ok (.aload_n 0, 1) := by decide +kernel
theorem dX2_readClock_31 : decode cX2_readClock 31 = .ok (.aload_n 0, 1) := by decide +kernel
theorem dX2_readClock_32 : decode cX2_readClock 32 = .ok (.getfield 12, 3) := by decide +kernel
theorem dX2_readClock_35 : decode cX2_readClock 35 = .ok (.getfield 74, 3) := by decide +kernel
theorem dX2_readClock_38 : decode cX2_readClock 38 = .ok (.iload_n 1, 1) := by decide +kernel
theorem dX2_readClock_39 : decode cX2_readClock 39 = .ok (.invokevirtual 78, 3) := by decide +kernel
theorem dX2_readClock_42 : decode cX2_readClock 42 = .ok (.ifCond .ne 5, 3) := by decide +kernel
theorem dX2_readClock_45 : decode cX2_readClock 45 = .ok (.iconst 0, 1) := by decide +kernel
theorem dX2_readClock_46 : decode cX2_readClock 46 = .ok (.ireturn, 1) := by decide +kernel
theorem dX2_readClock_47 : decode cX2_readClock 47 = .ok (.aload_n 0, 1) := by decide +kernel
theorem dX2_readClock_48 : decode cX2_readClock 48 = .ok (.getfield 22, 3) := by decide +kernel
theorem dX2_readClock_51 : decode cX2_readClock 51 = .ok (.iconst 0, 1) := by decide +kernel
theorem dX2_readClock_52 : decode cX2_readClock 52 = .ok (.bipush 30, 2) := by decide +kernel
theorem dX2_readClock_54 : decode cX2_readClock 54 = .ok (.invokevirtual 82, 3) := by decide +kernel
theorem dX2_readClock_57 : decode cX2_readClock 57 = .ok (.istore_n 2, 1) := by decide +kernel
theorem dX2_readClock_58 : decode cX2_readClock 58 = .ok (.iload_n 2, 1) := by decide +kernel
theorem dX2_readClock_59 : decode cX2_readClock 59 = .ok (.iconst (-1), 1) := by decide +kernel
theorem dX2_readClock_60 : decode cX2_readClock 60 = .ok (.if_icmp .ne 5, 3) := by decide +kernel
theorem dX2_readClock_63 : decode cX2_readClock 63 = .ok (.iconst 0, 1) := by decide +kernel
theorem dX2_readClock_64 : decode cX2_readClock 64 = .ok (.ireturn, 1) := by decide +kernel
theorem dX2_readClock_65 : decode cX2_readClock 65 = .ok (.aload_n 0, 1) := by decide +kernel
theorem dX2_readClock_66 : decode cX2_readClock 66 = .ok (.getfield 12, 3) := by decide +kernel
theorem dX2_readClock_69 : decode cX2_readClock 69 = .ok (.getfield 86, 3) := by decide +kernel
theorem dX2_readClock_72 : decode cX2_readClock 72 = .ok (.iload_n 1, 1) := by decide +kernel
theorem dX2_readClock_73 : decode cX2_readClock 73 = .ok (.iload_n 2, 1) := by decide +kernel
theorem dX2_readClock_74 : decode cX2_readClock 74 = .ok (.iastore, 1) := by decide +kernel
theorem dX2_readClock_75 : decode cX2_readClock 75 = .ok (.aload_n 0, 1) := by decide +kernel
theorem dX2_readClock_76 : decode cX2_readClock 76 = .ok (.getfield 12, 3) := by decide +kernel
theorem dX2_readClock_79 : decode cX2_readClock 79 = .ok (.getfield 90, 3) := by decide +kernel
theorem dX2_readClock_82 : decode cX2_readClock 82 = .ok (.iload_n 1, 1) := by decide +kernel
theorem dX2_readClock_83 : decode cX2_readClock 83 = .ok (.aload_n 0, 1) := by decide +kernel
theorem dX2_readClock_84 : decode cX2_readClock 84 = .ok (.iconst 5, 1) := by decide +kernel
theorem dX2_readClock_85 : decode cX2_readClock 85 = .ok (.bipush 6, 2) := by decide +kernel
theorem dX2_readClock_87 : decode cX2_readClock 87 = .ok (.bipush 99, 2) := by decide +kernel
theorem dX2_readClock_89 : decode cX2_readClock 89 = .ok (.invokevirtual 93, 3) := by decide +kernel
theorem dX2_readClock_92 : decode cX2_readClock 92 = .ok (.iastore, 1) := by decide +kernel
theorem dX2_readClock_93 : decode cX2_readClock 93 = .ok (.aload_n 0, 1) := by decide +kernel
theorem dX2_readClock_94 : decode cX2_readClock 94 = .ok (.getfield 12, 3) := by decide +kernel
theorem dX2_readClock_97 : decode cX2_readClock 97 = .ok (.getfield 97, 3) := by decide +kernel
theorem dX2_readClock_100 : decode cX2_readClock 100 = .ok (.iload_n 1, 1) := by decide +kernel
theorem dX2_readClock_101 : decode cX2_readClock 101 = .ok (.aload_n 0, 1) := by decide +kernel
theorem dX2_readClock_102 : decode cX2_readClock 102 = .ok (.getfield 22, 3) := by decide +kernel
theorem dX2_readClock_105 : decode cX2_readClock 105 = .ok (.getfield 100, 3) := by decide +kernel
theorem dX2_readClock_108 : decode cX2_readClock 108 = .ok (.ifCond .ne 16, 3) := by decide +kernel
theorem dX2_readClock_111 : decode cX2_readClock 111 = .ok (.aload_n 0, 1) := by decide +kernel
theorem dX2_readClock_112 : decode cX2_readClock 112 = .ok (.bipush 7, 2) := by decide +kernel
theorem dX2_readClock_114 : decode cX2_readClock 114 = .ok (.bipush 8, 2) := by decide +kernel
theorem dX2_readClock_116 : decode cX2_readClock 116 = .ok (.bipush 9, 2) := by decide +kernel
theorem dX2_readClock_118 : decode cX2_readClock 118 = .ok (.invokevirtual 93, 3) := by decide +kernel
theorem dX2_readClock_121 : decode cX2_readClock 121 = .ok (.goto 4, 3) := by decide +kernel
theorem dX2_readClock_124 : decode cX2_readClock 124 = .ok (.iconst 0, 1) := by decide +kernel
theorem dX2_readClock_125 : decode cX2_readClock 125 = .ok (.iastore, 1) := by decide +kernel
theorem dX2_readClock_126 : decode cX2_readClock 126 = .ok (.aload_n 0, 1) := by decide +kernel
theorem dX2_readClock_127 : decode cX2_readClock 127 = .ok (.getfield 12, 3) := by decide +kernel
theorem dX2_readClock_130 : decode cX2_readClock 130 = .ok (.iload_n 1, 1) := by decide +kernel
theorem dX2_readClock_131 : decode cX2_readClock 131 = .ok (.iconst 1, 1) := by decide +kernel
theorem dX2_readClock_132 : decode cX2_readClock 132 = .ok (.iadd, 1) := by decide +kernel
theorem dX2_readClock_133 : decode cX2_readClock 133 = .ok (.putfield 64, 3) := by decide +kernel
theorem dX2_readClock_136 : decode cX2_readClock 136 = .ok (.aload_n 0, 1) := by decide +kernel
theorem dX2_readClock_137 : decode cX2_readClock 137 = .ok (.getfield 22, 3) := by decide +kernel
theorem dX2_readClock_140 : decode cX2_readClock 140 = .ok (.getfield 100, 3) := by decide +kernel
theorem dX2_readClock_143 : decode cX2_readClock 143 = .ok (.ifCond .ne 7, 3) := by decide +kernel
theorem dX2_readClock_146 : decode cX2_readClock 146 = .ok (.iconst 1, 1) := by decide +kernel
theorem dX2_readClock_147 : decode cX2_readClock 147 = .ok (.goto 4, 3) := by decide +kernel
theorem dX2_readClock_150 : decode cX2_readClock 150 = .ok (.iconst 0, 1) := by decide +kernel
theorem dX2_readClock_151 : decode cX2_readClock 151 = .ok (.ireturn, 1) := by decide +kernel
set_option maxRecDepth 20000 in
theorem ggX2_readTurn_X8_isKeyword : GoodIn wsX2_readTurn wsX8_isKeyword := goodIn_r _ [6, 7, 8, 35, 36, 37, 38, 39, 40, 41, 42, 43, 44, 45, 46, 47] (by decide +kernel) (by decide +kernel)
set_option maxRecDepth 20000 in
theorem gX2_readTurn_X8_isKeyword : GoodIn wsX2_readTurn (wsV RX2 46 RX8 yX8_isKeyword wsX8_isKeyword) := goodIn_app (goodIn_of _ (by decide +kernel)) ggX2_readTurn_X8_isKeyword
set_option maxRecDepth 20000 in
theorem ggX2_readTurn_X8_advance : GoodIn wsX2_readTurn wsX8_advance := goodIn_r _ [12, 13, 14, 15, 7, 16, 17, 18, 8, 19, 20, 35, 36, 37, 38, 39, 40, 41, 42, 43, 44, 45, 46, 47] (by decide +kernel) (by decide +kernel)
set_option maxRecDepth 20000 in
theorem gX2_readTurn_X8_advance : GoodIn wsX2_readTurn (wsV RX2 71 RX8 yX8_advance wsX8_advance) := goodIn_app (goodIn_of _ (by decide +kernel)) ggX2_readTurn_X8_advance
set_option maxRecDepth 20000 in
theorem ggX2_readTurn_X8_takeNumber : GoodIn wsX2_readTurn wsX8_takeNumber := goodIn_r _ [24, 8, 7, 25, 26, 27, 5, 28, 29, 17, 30, 31, 10, 11, 12, 13, 14, 15, 16, 18, 19, 20, 35, 36, 37, 38, 39, 40, 41, 42, 43, 44, 45, 46, 47] (by decide +kernel) (by decide +kernel)
set_option maxRecDepth 20000 in
theorem gX2_readTurn_X8_takeNumber : GoodIn wsX2_readTurn (wsV RX2 82 RX8 yX8_takeNumber wsX8_takeNumber) := goodIn_app (goodIn_of _ (by decide +kernel)) ggX2_readTurn_X8_takeNumber
theorem dX2_readTurn_0 : decode cX2_readTurn 0 = .ok (.aload_n 0, 1) := by decide +kernel
theorem dX2_readTurn_1 : decode cX2_readTurn 1 = .ok (.getfield 22, 3) := by decide +kernel
theorem dX2_readTurn_4 : decode cX2_readTurn 4 = .ok (.iload_n 1, 1) := by decide +kernel
theorem dX2_readTurn_5 : decode cX2_readTurn 5 = .ok (.invokevirtual 46, 3) := by decide +kernel
theorem dX2_readTurn_8 : decode cX2_readTurn 8 = .ok (.istore 4, 2) := by decide +kernel
theorem dX2_readTurn_10 : decode cX2_readTurn 10 = .ok (.iload 4, 2) := by decide +kernel
theorem dX2_readTurn_12 : decode cX2_readTurn 12 = .ok (.ifCond .ne 16, 3) := by decide +kernel
theorem dX2_readTurn_15 : decode cX2_readTurn 15 = .ok (.aload_n 0, 1) := by decide +kernel
theorem dX2_readTurn_16 : decode cX2_readTurn 16 = .ok (.getfield 22, 3) := by decide +kernel
theorem dX2_readTurn_19 : decode cX2_readTurn 19 = .ok (.iload_n 2, 1) := by decide +kernel
theorem dX2_readTurn_20 : decode cX2_readTurn 20 = .ok (.invokevirtual 46, 3) := by decide +kernel
theorem dX2_readTurn_23 : decode cX2_readTurn 23 = .ok (.ifCond .ne 5, 3) := by decide +kernel
theorem dX2_readTurn_26 : decode cX2_readTurn 26 = .ok (.iconst 0, 1) := by decide +kernel
theorem dX2_readTurn_27 : decode cX2_readTurn 27 = .ok (.ireturn, 1) := by decide +kernel
theorem dX2_readTurn_28 : decode cX2_readTurn 28 = .ok (.aload_n 0, 1) := by decide +kernel
theorem dX2_readTurn_29 : decode cX2_readTurn 29 = .ok (.getfield 22, 3) := by decide +kernel
theorem dX2_readTurn_32 : decode cX2_readTurn 32 = .ok (.invokevirtual 71, 3) := by decide +kernel
theorem dX2_readTurn_35 : decode cX2_readTurn 35 = .ok (.aload_n 0, 1) := by decide +kernel
theorem dX2_readTurn_36 : decode cX2_readTurn 36 = .ok (.getfield 22, 3) := by decide +kernel
theorem dX2_readTurn_39 : decode cX2_readTurn 39 = .ok (.iconst 1, 1) := by decide +kernel
theorem dX2_readTurn_40 : decode cX2_readTurn 40 = .ok (.iload_n 3, 1) := by decide +kernel
theorem dX2_readTurn_41 : decode cX2_readTurn 41 = .ok (.invokevirtual 82, 3) := by decide +kernel
theorem dX2_readTurn_44 : decode cX2_readTurn 44 = .ok (.istore 5, 2) := by decide +kernel
theorem dX2_readTurn_46 : decode cX2_readTurn 46 = .ok (.iload 4, 2) := by decide +kernel
theorem dX2_readTurn_48 : decode cX2_readTurn 48 = .ok (.ifCond .eq 8, 3) := by decide +kernel
theorem dX2_readTurn_51 : decode cX2_readTurn 51 = .ok (.iload 5, 2) := by decide +kernel
theorem dX2_readTurn_53 : decode cX2_readTurn 53 = .ok (.goto 6, 3) := by decide +kernel
theorem dX2_readTurn_56 : decode cX2_readTurn 56 = .ok (.iload 5, 2) := by decide +kernel
theorem dX2_readTurn_58 : decode cX2_readTurn 58 = .ok (.ineg, 1) := by decide +kernel
theorem dX2_readTurn_59 : decode cX2_readTurn 59 = .ok (.ireturn, 1) := by decide +kernel
set_option maxRecDepth 20000 in
theorem ggX2_readMaster_X8_refuse : GoodIn wsX2_readMaster wsX8_refuse := goodIn_r _ [19, 20, 21, 22, 86, 87, 88, 89, 90, 91, 92, 93, 94, 95, 96, 97, 98] (by decide +kernel) (by decide +kernel)
set_option maxRecDepth 20000 in
theorem gX2_readMaster_X8_refuse : GoodIn wsX2_readMaster (wsV RX2 68 RX8 yX8_refuse wsX8_refuse) := goodIn_app (goodIn_of _ (by decide +kernel)) ggX2_readMaster_X8_refuse
set_option maxRecDepth 20000 in
theorem ggX2_readMaster_X8_advance : GoodIn wsX2_readMaster wsX8_advance := goodIn_r _ [26, 27, 28, 29, 30, 31, 21, 32, 33, 34, 35, 86, 87, 88, 89, 90, 91, 92, 93, 94, 95, 96, 97, 98] (by decide +kernel) (by decide +kernel)
set_option maxRecDepth 20000 in
theorem gX2_readMaster_X8_advance : GoodIn wsX2_readMaster (wsV RX2 71 RX8 yX8_advance wsX8_advance) := goodIn_app (goodIn_of _ (by decide +kernel)) ggX2_readMaster_X8_advance
set_option maxRecDepth 20000 in
theorem ggX2_readMaster_X2_takeNewName : GoodIn wsX2_readMaster wsX2_takeNewName := goodIn_r _ [40, 3, 41, 1, 42, 15, 16, 17, 18, 19, 20, 21, 22, 43, 44, 45, 46, 47, 48, 49, 50, 51, 52, 53, 54, 55, 56, 23, 24, 25, 26, 27, 28, 29, 30, 31, 32, 33, 34, 35, 68, 69, 70, 86, 87, 88, 89, 90, 91, 92, 93, 94, 95, 96, 97, 98, 71, 72, 73, 74, 75, 76, 77, 78, 79, 80, 81, 82, 83, 84, 85] (by decide +kernel) (by decide +kernel)
set_option maxRecDepth 20000 in
theorem gX2_readMaster_X2_takeNewName : GoodIn wsX2_readMaster (wsV RX2 78 RX2 yX2_takeNewName wsX2_takeNewName) := goodIn_app (goodIn_of _ (by decide +kernel)) ggX2_readMaster_X2_takeNewName
set_option maxRecDepth 20000 in
theorem ggX2_readMaster_X8_takeNumber : GoodIn wsX2_readMaster wsX8_takeNumber := goodIn_r _ [60, 33, 30, 61, 16, 17, 18, 19, 20, 21, 22, 62, 24, 25, 26, 27, 28, 29, 31, 32, 34, 35, 86, 87, 88, 89, 90, 91, 92, 93, 94, 95, 96, 97, 98] (by decide +kernel) (by decide +kernel)
set_option maxRecDepth 20000 in
theorem gX2_readMaster_X8_takeNumber : GoodIn wsX2_readMaster (wsV RX2 82 RX8 yX8_takeNumber wsX8_takeNumber) := goodIn_app (goodIn_of _ (by decide +kernel)) ggX2_readMaster_X8_takeNumber
set_option maxRecDepth 20000 in
theorem ggX2_readMaster_X8_findName : GoodIn wsX2_readMaster wsX8_findName := goodIn_r _ [66, 30, 35, 61, 16, 17, 18, 19, 20, 21, 22, 67, 55, 46, 56, 86, 87, 88, 89, 90, 91, 92, 93, 94, 95, 96, 97, 98] (by decide +kernel) (by decide +kernel)
set_option maxRecDepth 20000 in
theorem gX2_readMaster_X8_findName : GoodIn wsX2_readMaster (wsV RX2 118 RX8 yX8_findName wsX8_findName) := goodIn_app (goodIn_of _ (by decide +kernel)) ggX2_readMaster_X8_findName
theorem dX2_readMaster_0 : decode cX2_readMaster 0 = .ok (.aload_n 0, 1) := by decide +kernel
theorem dX2_readMaster_1 : decode cX2_readMaster 1 = .ok (.getfield 12, 3) := by decide +kernel
theorem dX2_readMaster_4 : decode cX2_readMaster 4 = .ok (.getfield 103, 3) := by decide +kernel
theorem dX2_readMaster_7 : decode cX2_readMaster 7 = .ok (.istore_n 1, 1) := by decide +kernel
theorem dX2_readMaster_8 : decode cX2_readMaster 8 = .ok (.iload_n 1, 1) := by decide +kernel
theorem dX2_readMaster_9 : decode cX2_readMaster 9 = .ok (.bipush 6, 2) := by decide +kernel
theorem dX2_readMaster_11 : decode cX2_readMaster 11 = .ok (.if_icmp .lt 12, 3) := by decide +kernel
theorem dX2_readMaster_14 : decode cX2_readMaster 14 = .ok (.aload_n 0, 1) := by decide +kernel
theorem dX2_readMaster_15 : decode cX2_readMaster 15 = .ok (.getfield 22, 3) := by decide +kernel
theorem dX2_readMaster_18 : decode cX2_readMaster 18 = .ok (.iconst 4, 1) := by decide +kernel
theorem dX2_readMaster_19 : decode cX2_readMaster 19 = .ok (.invokevirtual 68, 3) := by decide +kernel
theorem dX2_readMaster_22 : decode cX2_readMaster 22 = .ok (.ireturn, 1) := by decide +kernel
theorem dX2_readMaster_23 : decode cX2_readMaster 23 = .ok (.aload_n 0, 1) := by decide +kernel
theorem dX2_readMaster_24 : decode cX2_readMaster 24 = .ok (.getfield 22, 3) := by decide +kernel
theorem dX2_readMaster_27 : decode cX2_readMaster 27 = .ok (.invokevirtual 71, 3) := by decide +kernel
theorem dX2_readMaster_30 : decode cX2_readMaster 30 = .ok (.aload_n 0, 1) := by decide +kernel
theorem dX2_readMaster_31 : decode cX2_readMaster 31 = .ok (.aload_n 0, 1) := by decide +kernel
theorem dX2_readMaster_32 : decode cX2_readMaster 32 = .ok (.getfield 12, 3) := by decide +kernel
theorem dX2_readMaster_35 : decode cX2_readMaster 35 = .ok (.getfield 106, 3) := by decide +kernel
theorem dX2_readMaster_38 : decode cX2_readMaster 38 = .ok (.iload_n 1, 1) := by decide +kernel
theorem dX2_readMaster_39 : decode cX2_readMaster 39 = .ok (.invokevirtual 78, 3) := by decide +kernel
theorem dX2_readMaster_42 : decode cX2_readMaster 42 = .ok (.ifCond .ne 5, 3) := by decide +kernel
theorem dX2_readMaster_45 : decode cX2_readMaster 45 = .ok (.iconst 0, 1) := by decide +kernel
theorem dX2_readMaster_46 : decode cX2_readMaster 46 = .ok (.ireturn, 1) := by decide +kernel
theorem dX2_readMaster_47 : decode cX2_readMaster 47 = .ok (.aload_n 0, 1) := by decide +kernel
theorem dX2_readMaster_48 : decode cX2_readMaster 48 = .ok (.getfield 22, 3) := by decide +kernel
theorem dX2_readMaster_51 : decode cX2_readMaster 51 = .ok (.iconst 0, 1) := by decide +kernel
theorem dX2_readMaster_52 : decode cX2_readMaster 52 = .ok (.bipush 30, 2) := by decide +kernel
theorem dX2_readMaster_54 : decode cX2_readMaster 54 = .ok (.invokevirtual 82, 3) := by decide +kernel
theorem dX2_readMaster_57 : decode cX2_readMaster 57 = .ok (.istore_n 2, 1) := by decide +kernel
theorem dX2_readMaster_58 : decode cX2_readMaster 58 = .ok (.iload_n 2, 1) := by decide +kernel
theorem dX2_readMaster_59 : decode cX2_readMaster 59 = .ok (.iconst (-1), 1) := by decide +kernel
theorem dX2_readMaster_60 : decode cX2_readMaster 60 = .ok (.if_icmp .ne 5, 3) := by decide +kernel
theorem dX2_readMaster_63 : decode cX2_readMaster 63 = .ok (.iconst 0, 1) := by decide +kernel
theorem dX2_readMaster_64 : decode cX2_readMaster 64 = .ok (.ireturn, 1) := by decide +kernel
theorem dX2_readMaster_65 : decode cX2_readMaster 65 = .ok (.aload_n 0, 1) := by decide +kernel
theorem dX2_readMaster_66 : decode cX2_readMaster 66 = .ok (.getfield 22, 3) := by decide +kernel
theorem dX2_readMaster_69 : decode cX2_readMaster 69 = .ok (.iconst 1, 1) := by decide +kernel
theorem dX2_readMaster_70 : decode cX2_readMaster 70 = .ok (.bipush 60, 2) := by decide +kernel
theorem dX2_readMaster_72 : decode cX2_readMaster 72 = .ok (.invokevirtual 82, 3) := by decide +kernel
theorem dX2_readMaster_75 : decode cX2_readMaster 75 = .ok (.istore_n 3, 1) := by decide +kernel
theorem dX2_readMaster_76 : decode cX2_readMaster 76 = .ok (.iload_n 3, 1) := by decide +kernel
theorem dX2_readMaster_77 : decode cX2_readMaster 77 = .ok (.iconst (-1), 1) := by decide +kernel
theorem dX2_readMaster_78 : decode cX2_readMaster 78 = .ok (.if_icmp .ne 5, 3) := by decide +kernel
theorem dX2_readMaster_81 : decode cX2_readMaster 81 = .ok (.iconst 0, 1) := by decide +kernel
theorem dX2_readMaster_82 : decode cX2_readMaster 82 = .ok (.ireturn, 1) := by decide +kernel
theorem dX2_readMaster_83 : decode cX2_readMaster 83 = .ok (.aload_n 0, 1) := by decide +kernel
theorem dX2_readMaster_84 : decode cX2_readMaster 84 = .ok (.getfield 12, 3) := by decide +kernel
theorem dX2_readMaster_87 : decode cX2_readMaster 87 = .ok (.getfield 109, 3) := by decide +kernel
theorem dX2_readMaster_90 : decode cX2_readMaster 90 = .ok (.iload_n 1, 1) := by decide +kernel
theorem dX2_readMaster_91 : decode cX2_readMaster 91 = .ok (.iload_n 2, 1) := by decide +kernel
theorem dX2_readMaster_92 : decode cX2_readMaster 92 = .ok (.iastore, 1) := by decide +kernel
theorem dX2_readMaster_93 : decode cX2_readMaster 93 = .ok (.aload_n 0, 1) := by decide +kernel
theorem dX2_readMaster_94 : decode cX2_readMaster 94 = .ok (.getfield 12, 3) := by decide +kernel
theorem dX2_readMaster_97 : decode cX2_readMaster 97 = .ok (.getfield 112, 3) := by decide +kernel
theorem dX2_readMaster_100 : decode cX2_readMaster 100 = .ok (.iload_n 1, 1) := by decide +kernel
theorem dX2_readMaster_101 : decode cX2_readMaster 101 = .ok (.iload_n 3, 1) := by decide +kernel
theorem dX2_readMaster_102 : decode cX2_readMaster 102 = .ok (.iastore, 1) := by decide +kernel
theorem dX2_readMaster_103 : decode cX2_readMaster 103 = .ok (.aload_n 0, 1) := by decide +kernel
theorem dX2_readMaster_104 : decode cX2_readMaster 104 = .ok (.getfield 12, 3) := by decide +kernel
theorem dX2_readMaster_107 : decode cX2_readMaster 107 = .ok (.getfield 115, 3) := by decide +kernel
theorem dX2_readMaster_110 : decode cX2_readMaster 110 = .ok (.iload_n 1, 1) := by decide +kernel
theorem dX2_readMaster_111 : decode cX2_readMaster 111 = .ok (.iconst 0, 1) := by decide +kernel
theorem dX2_readMaster_112 : decode cX2_readMaster 112 = .ok (.iastore, 1) := by decide +kernel
theorem dX2_readMaster_113 : decode cX2_readMaster 113 = .ok (.aload_n 0, 1) := by decide +kernel
theorem dX2_readMaster_114 : decode cX2_readMaster 114 = .ok (.getfield 12, 3) := by decide +kernel
theorem dX2_readMaster_117 : decode cX2_readMaster 117 = .ok (.iload_n 1, 1) := by decide +kernel
theorem dX2_readMaster_118 : decode cX2_readMaster 118 = .ok (.iconst 1, 1) := by decide +kernel
theorem dX2_readMaster_119 : decode cX2_readMaster 119 = .ok (.iadd, 1) := by decide +kernel
theorem dX2_readMaster_120 : decode cX2_readMaster 120 = .ok (.putfield 103, 3) := by decide +kernel
theorem dX2_readMaster_123 : decode cX2_readMaster 123 = .ok (.aload_n 0, 1) := by decide +kernel
theorem dX2_readMaster_124 : decode cX2_readMaster 124 = .ok (.getfield 22, 3) := by decide +kernel
theorem dX2_readMaster_127 : decode cX2_readMaster 127 = .ok (.aload_n 0, 1) := by decide +kernel
theorem dX2_readMaster_128 : decode cX2_readMaster 128 = .ok (.getfield 12, 3) := by decide +kernel
theorem dX2_readMaster_131 : decode cX2_readMaster 131 = .ok (.getfield 74, 3) := by decide +kernel
theorem dX2_readMaster_134 : decode cX2_readMaster 134 = .ok (.aload_n 0, 1) := by decide +kernel
theorem dX2_readMaster_135 : decode cX2_readMaster 135 = .ok (.getfield 12, 3) := by decide +kernel
theorem dX2_readMaster_138 : decode cX2_readMaster 138 = .ok (.getfield 64, 3) := by decide +kernel
theorem dX2_readMaster_141 : decode cX2_readMaster 141 = .ok (.invokevirtual 118, 3) := by decide +kernel
theorem dX2_readMaster_144 : decode cX2_readMaster 144 = .ok (.istore 4, 2) := by decide +kernel
theorem dX2_readMaster_146 : decode cX2_readMaster 146 = .ok (.aload_n 0, 1) := by decide +kernel
theorem dX2_readMaster_147 : decode cX2_readMaster 147 = .ok (.getfield 22, 3) := by decide +kernel
theorem dX2_readMaster_150 : decode cX2_readMaster 150 = .ok (.invokevirtual 71, 3) := by decide +kernel
theorem dX2_readMaster_153 : decode cX2_readMaster 153 = .ok (.aload_n 0, 1) := by decide +kernel
theorem dX2_readMaster_154 : decode cX2_readMaster 154 = .ok (.getfield 12, 3) := by decide +kernel
theorem dX2_readMaster_157 : decode cX2_readMaster 157 = .ok (.getfield 122, 3) := by decide +kernel
theorem dX2_readMaster_160 : decode cX2_readMaster 160 = .ok (.iload_n 1, 1) := by decide +kernel
theorem dX2_readMaster_161 : decode cX2_readMaster 161 = .ok (.iload 4, 2) := by decide +kernel
theorem dX2_readMaster_163 : decode cX2_readMaster 163 = .ok (.iconst 0, 1) := by decide +kernel
theorem dX2_readMaster_164 : decode cX2_readMaster 164 = .ok (.invokestatic 125, 3) := by decide +kernel
theorem dX2_readMaster_167 : decode cX2_readMaster 167 = .ok (.iastore, 1) := by decide +kernel
theorem dX2_readMaster_168 : decode cX2_readMaster 168 = .ok (.iload 4, 2) := by decide +kernel
theorem dX2_readMaster_170 : decode cX2_readMaster 170 = .ok (.iconst (-1), 1) := by decide +kernel
theorem dX2_readMaster_171 : decode cX2_readMaster 171 = .ok (.if_icmp .eq 7, 3) := by decide +kernel
theorem dX2_readMaster_174 : decode cX2_readMaster 174 = .ok (.iconst 1, 1) := by decide +kernel
theorem dX2_readMaster_175 : decode cX2_readMaster 175 = .ok (.goto 4, 3) := by decide +kernel
theorem dX2_readMaster_178 : decode cX2_readMaster 178 = .ok (.iconst 0, 1) := by decide +kernel
theorem dX2_readMaster_179 : decode cX2_readMaster 179 = .ok (.ireturn, 1) := by decide +kernel
set_option maxRecDepth 20000 in
theorem ggX2_readMeet_X8_refuse : GoodIn wsX2_readMeet wsX8_refuse := goodIn_r _ [11, 12, 13, 14, 73, 74, 75, 76, 77, 78, 79, 80, 81, 82, 83, 84, 85] (by decide +kernel) (by decide +kernel)
set_option maxRecDepth 20000 in
theorem gX2_readMeet_X8_refuse : GoodIn wsX2_readMeet (wsV RX2 68 RX8 yX8_refuse wsX8_refuse) := goodIn_app (goodIn_of _ (by decide +kernel)) ggX2_readMeet_X8_refuse
set_option maxRecDepth 20000 in
theorem ggX2_readMeet_X8_advance : GoodIn wsX2_readMeet wsX8_advance := goodIn_r _ [18, 19, 20, 21, 22, 23, 13, 24, 25, 26, 27, 73, 74, 75, 76, 77, 78, 79, 80, 81, 82, 83, 84, 85] (by decide +kernel) (by decide +kernel)
set_option maxRecDepth 20000 in
theorem gX2_readMeet_X8_advance : GoodIn wsX2_readMeet (wsV RX2 71 RX8 yX8_advance wsX8_advance) := goodIn_app (goodIn_of _ (by decide +kernel)) ggX2_readMeet_X8_advance
set_option maxRecDepth 20000 in
theorem ggX2_readMeet_X2_takeNewName : GoodIn wsX2_readMeet wsX2_takeNewName := goodIn_r _ [32, 3, 33, 1, 34, 7, 8, 9, 10, 11, 12, 13, 14, 35, 36, 37, 38, 39, 40, 41, 42, 43, 44, 45, 46, 47, 48, 15, 16, 17, 18, 19, 20, 21, 22, 23, 24, 25, 26, 27, 55, 56, 57, 73, 74, 75, 76, 77, 78, 79, 80, 81, 82, 83, 84, 85, 58, 59, 60, 61, 62, 63, 64, 65, 66, 67, 68, 69, 70, 71, 72] (by decide +kernel) (by decide +kernel)
set_option maxRecDepth 20000 in
theorem gX2_readMeet_X2_takeNewName : GoodIn wsX2_readMeet (wsV RX2 78 RX2 yX2_takeNewName wsX2_takeNewName) := goodIn_app (goodIn_of _ (by decide +kernel)) ggX2_readMeet_X2_takeNewName
set_option maxRecDepth 20000 in
theorem ggX2_readMeet_X8_takeNumber : GoodIn wsX2_readMeet wsX8_takeNumber := goodIn_r _ [52, 25, 22, 53, 8, 9, 10, 11, 12, 13, 14, 54, 16, 17, 18, 19, 20, 21, 23, 24, 26, 27, 73, 74, 75, 76, 77, 78, 79, 80, 81, 82, 83, 84, 85] (by decide +kernel) (by decide +kernel)
set_option maxRecDepth 20000 in
theorem gX2_readMeet_X8_takeNumber : GoodIn wsX2_readMeet (wsV RX2 82 RX8 yX8_takeNumber wsX8_takeNumber) := goodIn_app (goodIn_of _ (by decide +kernel)) ggX2_readMeet_X8_takeNumber
theorem dX2_readMeet_0 : decode cX2_readMeet 0 = .ok (.aload_n 0, 1) := by decide +kernel
theorem dX2_readMeet_1 : decode cX2_readMeet 1 = .ok (.getfield 12, 3) := by decide +kernel
theorem dX2_readMeet_4 : decode cX2_readMeet 4 = .ok (.getfield 130, 3) := by decide +kernel
theorem dX2_readMeet_7 : decode cX2_readMeet 7 = .ok (.istore_n 1, 1) := by decide +kernel
theorem dX2_readMeet_8 : decode cX2_readMeet 8 = .ok (.iload_n 1, 1) := by decide +kernel
theorem dX2_readMeet_9 : decode cX2_readMeet 9 = .ok (.bipush 6, 2) := by decide +kernel
theorem dX2_readMeet_11 : decode cX2_readMeet 11 = .ok (.if_icmp .lt 12, 3) := by decide +kernel
theorem dX2_readMeet_14 : decode cX2_readMeet 14 = .ok (.aload_n 0, 1) := by decide +kernel
theorem dX2_readMeet_15 : decode cX2_readMeet 15 = .ok (.getfield 22, 3) := by decide +kernel
theorem dX2_readMeet_18 : decode cX2_readMeet 18 = .ok (.iconst 4, 1) := by decide +kernel
theorem dX2_readMeet_19 : decode cX2_readMeet 19 = .ok (.invokevirtual 68, 3) := by decide +kernel
theorem dX2_readMeet_22 : decode cX2_readMeet 22 = .ok (.ireturn, 1) := by decide +kernel
theorem dX2_readMeet_23 : decode cX2_readMeet 23 = .ok (.aload_n 0, 1) := by decide +kernel
theorem dX2_readMeet_24 : decode cX2_readMeet 24 = .ok (.getfield 22, 3) := by decide +kernel
theorem dX2_readMeet_27 : decode cX2_readMeet 27 = .ok (.invokevirtual 71, 3) := by decide +kernel
theorem dX2_readMeet_30 : decode cX2_readMeet 30 = .ok (.aload_n 0, 1) := by decide +kernel
theorem dX2_readMeet_31 : decode cX2_readMeet 31 = .ok (.aload_n 0, 1) := by decide +kernel
theorem dX2_readMeet_32 : decode cX2_readMeet 32 = .ok (.getfield 12, 3) := by decide +kernel
theorem dX2_readMeet_35 : decode cX2_readMeet 35 = .ok (.getfield 133, 3) := by decide +kernel
theorem dX2_readMeet_38 : decode cX2_readMeet 38 = .ok (.iload_n 1, 1) := by decide +kernel
theorem dX2_readMeet_39 : decode cX2_readMeet 39 = .ok (.invokevirtual 78, 3) := by decide +kernel
theorem dX2_readMeet_42 : decode cX2_readMeet 42 = .ok (.ifCond .ne 5, 3) := by decide +kernel
theorem dX2_readMeet_45 : decode cX2_readMeet 45 = .ok (.iconst 0, 1) := by decide +kernel
theorem dX2_readMeet_46 : decode cX2_readMeet 46 = .ok (.ireturn, 1) := by decide +kernel
theorem dX2_readMeet_47 : decode cX2_readMeet 47 = .ok (.aload_n 0, 1) := by decide +kernel
theorem dX2_readMeet_48 : decode cX2_readMeet 48 = .ok (.getfield 12, 3) := by decide +kernel
theorem dX2_readMeet_51 : decode cX2_readMeet 51 = .ok (.getfield 136, 3) := by decide +kernel
theorem dX2_readMeet_54 : decode cX2_readMeet 54 = .ok (.iload_n 1, 1) := by decide +kernel
theorem dX2_readMeet_55 : decode cX2_readMeet 55 = .ok (.aload_n 0, 1) := by decide +kernel
theorem dX2_readMeet_56 : decode cX2_readMeet 56 = .ok (.getfield 22, 3) := by decide +kernel
theorem dX2_readMeet_59 : decode cX2_readMeet 59 = .ok (.iconst 0, 1) := by decide +kernel
theorem dX2_readMeet_60 : decode cX2_readMeet 60 = .ok (.sipush 999, 3) := by decide +kernel
theorem dX2_readMeet_63 : decode cX2_readMeet 63 = .ok (.invokevirtual 82, 3) := by decide +kernel
theorem dX2_readMeet_66 : decode cX2_readMeet 66 = .ok (.iastore, 1) := by decide +kernel
theorem dX2_readMeet_67 : decode cX2_readMeet 67 = .ok (.aload_n 0, 1) := by decide +kernel
theorem dX2_readMeet_68 : decode cX2_readMeet 68 = .ok (.getfield 12, 3) := by decide +kernel
theorem dX2_readMeet_71 : decode cX2_readMeet 71 = .ok (.iload_n 1, 1) := by decide +kernel
theorem dX2_readMeet_72 : decode cX2_readMeet 72 = .ok (.iconst 1, 1) := by decide +kernel
theorem dX2_readMeet_73 : decode cX2_readMeet 73 = .ok (.iadd, 1) := by decide +kernel
theorem dX2_readMeet_74 : decode cX2_readMeet 74 = .ok (.putfield 130, 3) := by decide +kernel
theorem dX2_readMeet_77 : decode cX2_readMeet 77 = .ok (.aload_n 0, 1) := by decide +kernel
theorem dX2_readMeet_78 : decode cX2_readMeet 78 = .ok (.getfield 22, 3) := by decide +kernel
theorem dX2_readMeet_81 : decode cX2_readMeet 81 = .ok (.getfield 100, 3) := by decide +kernel
theorem dX2_readMeet_84 : decode cX2_readMeet 84 = .ok (.ifCond .ne 7, 3) := by decide +kernel
theorem dX2_readMeet_87 : decode cX2_readMeet 87 = .ok (.iconst 1, 1) := by decide +kernel
theorem dX2_readMeet_88 : decode cX2_readMeet 88 = .ok (.goto 4, 3) := by decide +kernel
theorem dX2_readMeet_91 : decode cX2_readMeet 91 = .ok (.iconst 0, 1) := by decide +kernel
theorem dX2_readMeet_92 : decode cX2_readMeet 92 = .ok (.ireturn, 1) := by decide +kernel
set_option maxRecDepth 20000 in
theorem ggX2_readComes_X8_advance : GoodIn wsX2_readComes wsX8_advance := goodIn_r _ [12, 13, 14, 15, 16, 17, 18, 19, 20, 21, 22, 64, 65, 66, 67, 68, 69, 70, 71, 72, 73, 74, 75, 76] (by decide +kernel) (by decide +kernel)
set_option maxRecDepth 20000 in
theorem gX2_readComes_X8_advance : GoodIn wsX2_readComes (wsV RX2 71 RX8 yX8_advance wsX8_advance) := goodIn_app (goodIn_of _ (by decide +kernel)) ggX2_readComes_X8_advance
set_option maxRecDepth 20000 in
theorem ggX2_readComes_X8_findName : GoodIn wsX2_readComes wsX8_findName := goodIn_r _ [26, 16, 22, 27, 28, 29, 11, 30, 31, 18, 32, 33, 34, 35, 36, 64, 65, 66, 67, 68, 69, 70, 71, 72, 73, 74, 75, 76] (by decide +kernel) (by decide +kernel)
set_option maxRecDepth 20000 in
theorem gX2_readComes_X8_findName : GoodIn wsX2_readComes (wsV RX2 118 RX8 yX8_findName wsX8_findName) := goodIn_app (goodIn_of _ (by decide +kernel)) ggX2_readComes_X8_findName
set_option maxRecDepth 20000 in
theorem ggX2_readComes_X1_isToCome : GoodIn wsX2_readComes wsX1_isToCome := goodIn_r _ [40, 41, 42, 43, 44, 49, 50, 51, 52, 53, 54, 55, 56, 57, 58, 59, 60, 61, 62, 63] (by decide +kernel) (by decide +kernel)
set_option maxRecDepth 20000 in
theorem gX2_readComes_X1_isToCome : GoodIn wsX2_readComes (wsV RX2 139 RX1 yX1_isToCome wsX1_isToCome) := goodIn_app (goodIn_of _ (by decide +kernel)) ggX2_readComes_X1_isToCome
set_option maxRecDepth 20000 in
theorem ggX2_readComes_X8_refuse : GoodIn wsX2_readComes wsX8_refuse := goodIn_r _ [30, 31, 18, 32, 64, 65, 66, 67, 68, 69, 70, 71, 72, 73, 74, 75, 76] (by decide +kernel) (by decide +kernel)
set_option maxRecDepth 20000 in
theorem gX2_readComes_X8_refuse : GoodIn wsX2_readComes (wsV RX2 68 RX8 yX8_refuse wsX8_refuse) := goodIn_app (goodIn_of _ (by decide +kernel)) ggX2_readComes_X8_refuse
theorem dX2_readComes_0 : decode cX2_readComes 0 = .ok (.aload_n 0, 1) := by decide +kernel
theorem dX2_readComes_1 : decode cX2_readComes 1 = .ok (.getfield 22, 3) := by decide +kernel
theorem dX2_readComes_4 : decode cX2_readComes 4 = .ok (.invokevirtual 71, 3) := by decide +kernel
theorem dX2_readComes_7 : decode cX2_readComes 7 = .ok (.aload_n 0, 1) := by decide +kernel
theorem dX2_readComes_8 : decode cX2_readComes 8 = .ok (.getfield 22, 3) := by decide +kernel
theorem dX2_readComes_11 : decode cX2_readComes 11 = .ok (.aload_n 0, 1) := by decide +kernel
theorem dX2_readComes_12 : decode cX2_readComes 12 = .ok (.getfield 12, 3) := by decide +kernel
theorem dX2_readComes_15 : decode cX2_readComes 15 = .ok (.getfield 106, 3) := by decide +kernel
theorem dX2_readComes_18 : decode cX2_readComes 18 = .ok (.aload_n 0, 1) := by decide +kernel
theorem dX2_readComes_19 : decode cX2_readComes 19 = .ok (.getfield 12, 3) := by decide +kernel
theorem dX2_readComes_22 : decode cX2_readComes 22 = .ok (.getfield 103, 3) := by decide +kernel
theorem dX2_readComes_25 : decode cX2_readComes 25 = .ok (.invokevirtual 118, 3) := by decide +kernel
theorem dX2_readComes_28 : decode cX2_readComes 28 = .ok (.istore_n 1, 1) := by decide +kernel
theorem dX2_readComes_29 : decode cX2_readComes 29 = .ok (.iload_n 1, 1) := by decide +kernel
theorem dX2_readComes_30 : decode cX2_readComes 30 = .ok (.iconst (-1), 1) := by decide +kernel
theorem dX2_readComes_31 : decode cX2_readComes 31 = .ok (.if_icmp .ne 5, 3) := by decide +kernel
theorem dX2_readComes_34 : decode cX2_readComes 34 = .ok (.iconst 0, 1) := by decide +kernel
theorem dX2_readComes_35 : decode cX2_readComes 35 = .ok (.ireturn, 1) := by decide +kernel
theorem dX2_readComes_36 : decode cX2_readComes 36 = .ok (.aload_n 0, 1) := by decide +kernel
theorem dX2_readComes_37 : decode cX2_readComes 37 = .ok (.getfield 22, 3) := by decide +kernel
theorem dX2_readComes_40 : decode cX2_readComes 40 = .ok (.invokevirtual 71, 3) := by decide +kernel
theorem dX2_readComes_43 : decode cX2_readComes 43 = .ok (.aload_n 0, 1) := by decide +kernel
theorem dX2_readComes_44 : decode cX2_readComes 44 = .ok (.getfield 22, 3) := by decide +kernel
theorem dX2_readComes_47 : decode cX2_readComes 47 = .ok (.aload_n 0, 1) := by decide +kernel
theorem dX2_readComes_48 : decode cX2_readComes 48 = .ok (.getfield 12, 3) := by decide +kernel
theorem dX2_readComes_51 : decode cX2_readComes 51 = .ok (.getfield 133, 3) := by decide +kernel
theorem dX2_readComes_54 : decode cX2_readComes 54 = .ok (.aload_n 0, 1) := by decide +kernel
theorem dX2_readComes_55 : decode cX2_readComes 55 = .ok (.getfield 12, 3) := by decide +kernel
theorem dX2_readComes_58 : decode cX2_readComes 58 = .ok (.getfield 130, 3) := by decide +kernel
theorem dX2_readComes_61 : decode cX2_readComes 61 = .ok (.invokevirtual 118, 3) := by decide +kernel
theorem dX2_readComes_64 : decode cX2_readComes 64 = .ok (.istore_n 2, 1) := by decide +kernel
theorem dX2_readComes_65 : decode cX2_readComes 65 = .ok (.iload_n 2, 1) := by decide +kernel
theorem dX2_readComes_66 : decode cX2_readComes 66 = .ok (.iconst (-1), 1) := by decide +kernel
theorem dX2_readComes_67 : decode cX2_readComes 67 = .ok (.if_icmp .ne 5, 3) := by decide +kernel
theorem dX2_readComes_70 : decode cX2_readComes 70 = .ok (.iconst 0, 1) := by decide +kernel
theorem dX2_readComes_71 : decode cX2_readComes 71 = .ok (.ireturn, 1) := by decide +kernel
theorem dX2_readComes_72 : decode cX2_readComes 72 = .ok (.aload_n 0, 1) := by decide +kernel
theorem dX2_readComes_73 : decode cX2_readComes 73 = .ok (.getfield 12, 3) := by decide +kernel
theorem dX2_readComes_76 : decode cX2_readComes 76 = .ok (.iload_n 1, 1) := by decide +kernel
theorem dX2_readComes_77 : decode cX2_readComes 77 = .ok (.iload_n 2, 1) := by decide +kernel
theorem dX2_readComes_78 : decode cX2_readComes 78 = .ok (.invokevirtual 139, 3) := by decide +kernel
theorem dX2_readComes_81 : decode cX2_readComes 81 = .ok (.ifCond .eq 12, 3) := by decide +kernel
theorem dX2_readComes_84 : decode cX2_readComes 84 = .ok (.aload_n 0, 1) := by decide +kernel
theorem dX2_readComes_85 : decode cX2_readComes 85 = .ok (.getfield 22, 3) := by decide +kernel
theorem dX2_readComes_88 : decode cX2_readComes 88 = .ok (.iconst 3, 1) := by decide +kernel
theorem dX2_readComes_89 : decode cX2_readComes 89 = .ok (.invokevirtual 68, 3) := by decide +kernel
theorem dX2_readComes_92 : decode cX2_readComes 92 = .ok (.ireturn, 1) := by decide +kernel
theorem dX2_readComes_93 : decode cX2_readComes 93 = .ok (.aload_n 0, 1) := by decide +kernel
theorem dX2_readComes_94 : decode cX2_readComes 94 = .ok (.getfield 12, 3) := by decide +kernel
theorem dX2_readComes_97 : decode cX2_readComes 97 = .ok (.getfield 115, 3) := by decide +kernel
theorem dX2_readComes_100 : decode cX2_readComes 100 = .ok (.iload_n 1, 1) := by decide +kernel
theorem dX2_readComes_101 : decode cX2_readComes 101 = .ok (.dup2, 1) := by decide +kernel
theorem dX2_readComes_102 : decode cX2_readComes 102 = .ok (.iaload, 1) := by decide +kernel
theorem dX2_readComes_103 : decode cX2_readComes 103 = .ok (.iconst 1, 1) := by decide +kernel
theorem dX2_readComes_104 : decode cX2_readComes 104 = .ok (.iload_n 2, 1) := by decide +kernel
theorem dX2_readComes_105 : decode cX2_readComes 105 = .ok (.ishl, 1) := by decide +kernel
theorem dX2_readComes_106 : decode cX2_readComes 106 = .ok (.ior, 1) := by decide +kernel
theorem dX2_readComes_107 : decode cX2_readComes 107 = .ok (.iastore, 1) := by decide +kernel
theorem dX2_readComes_108 : decode cX2_readComes 108 = .ok (.aload_n 0, 1) := by decide +kernel
theorem dX2_readComes_109 : decode cX2_readComes 109 = .ok (.getfield 22, 3) := by decide +kernel
theorem dX2_readComes_112 : decode cX2_readComes 112 = .ok (.invokevirtual 71, 3) := by decide +kernel
theorem dX2_readComes_115 : decode cX2_readComes 115 = .ok (.iconst 1, 1) := by decide +kernel
theorem dX2_readComes_116 : decode cX2_readComes 116 = .ok (.ireturn, 1) := by decide +kernel
set_option maxRecDepth 20000 in
theorem ggX2_readWait_X8_isKeyword : GoodIn wsX2_readWait wsX8_isKeyword := goodIn_r _ [10, 11, 12, 55, 56, 57, 58, 59, 60, 61, 62, 63, 64, 65, 66, 67] (by decide +kernel) (by decide +kernel)
set_option maxRecDepth 20000 in
theorem gX2_readWait_X8_isKeyword : GoodIn wsX2_readWait (wsV RX2 46 RX8 yX8_isKeyword wsX8_isKeyword) := goodIn_app (goodIn_of _ (by decide +kernel)) ggX2_readWait_X8_isKeyword
set_option maxRecDepth 20000 in
theorem ggX2_readWait_X8_refuse : GoodIn wsX2_readWait wsX8_refuse := goodIn_r _ [16, 17, 18, 19, 55, 56, 57, 58, 59, 60, 61, 62, 63, 64, 65, 66, 67] (by decide +kernel) (by decide +kernel)
set_option maxRecDepth 20000 in
theorem gX2_readWait_X8_refuse : GoodIn wsX2_readWait (wsV RX2 68 RX8 yX8_refuse wsX8_refuse) := goodIn_app (goodIn_of _ (by decide +kernel)) ggX2_readWait_X8_refuse
set_option maxRecDepth 20000 in
theorem ggX2_readWait_X8_advance : GoodIn wsX2_readWait wsX8_advance := goodIn_r _ [23, 24, 25, 26, 11, 27, 18, 28, 12, 29, 30, 55, 56, 57, 58, 59, 60, 61, 62, 63, 64, 65, 66, 67] (by decide +kernel) (by decide +kernel)
set_option maxRecDepth 20000 in
theorem gX2_readWait_X8_advance : GoodIn wsX2_readWait (wsV RX2 71 RX8 yX8_advance wsX8_advance) := goodIn_app (goodIn_of _ (by decide +kernel)) ggX2_readWait_X8_advance
set_option maxRecDepth 20000 in
theorem ggX2_readWait_X8_takeNumber : GoodIn wsX2_readWait wsX8_takeNumber := goodIn_r _ [34, 12, 11, 35, 14, 15, 9, 16, 17, 18, 19, 36, 21, 22, 23, 24, 25, 26, 27, 28, 29, 30, 55, 56, 57, 58, 59, 60, 61, 62, 63, 64, 65, 66, 67] (by decide +kernel) (by decide +kernel)
set_option maxRecDepth 20000 in
theorem gX2_readWait_X8_takeNumber : GoodIn wsX2_readWait (wsV RX2 82 RX8 yX8_takeNumber wsX8_takeNumber) := goodIn_app (goodIn_of _ (by decide +kernel)) ggX2_readWait_X8_takeNumber
theorem dX2_readWait_0 : decode cX2_readWait 0 = .ok (.aload_n 0, 1) := by decide +kernel
theorem dX2_readWait_1 : decode cX2_readWait 1 = .ok (.getfield 22, 3) := by decide +kernel
theorem dX2_readWait_4 : decode cX2_readWait 4 = .ok (.iconst 4, 1) := by decide +kernel
theorem dX2_readWait_5 : decode cX2_readWait 5 = .ok (.invokevirtual 46, 3) := by decide +kernel
theorem dX2_readWait_8 : decode cX2_readWait 8 = .ok (.ifCond .ne 12, 3) := by decide +kernel
theorem dX2_readWait_11 : decode cX2_readWait 11 = .ok (.aload_n 0, 1) := by decide +kernel
theorem dX2_readWait_12 : decode cX2_readWait 12 = .ok (.getfield 22, 3) := by decide +kernel
theorem dX2_readWait_15 : decode cX2_readWait 15 = .ok (.iconst 1, 1) := by decide +kernel
theorem dX2_readWait_16 : decode cX2_readWait 16 = .ok (.invokevirtual 68, 3) := by decide +kernel
theorem dX2_readWait_19 : decode cX2_readWait 19 = .ok (.ireturn, 1) := by decide +kernel
theorem dX2_readWait_20 : decode cX2_readWait 20 = .ok (.aload_n 0, 1) := by decide +kernel
theorem dX2_readWait_21 : decode cX2_readWait 21 = .ok (.getfield 18, 3) := by decide +kernel
theorem dX2_readWait_24 : decode cX2_readWait 24 = .ok (.ifCond .eq 12, 3) := by decide +kernel
theorem dX2_readWait_27 : decode cX2_readWait 27 = .ok (.aload_n 0, 1) := by decide +kernel
theorem dX2_readWait_28 : decode cX2_readWait 28 = .ok (.getfield 22, 3) := by decide +kernel
theorem dX2_readWait_31 : decode cX2_readWait 31 = .ok (.iconst 3, 1) := by decide +kernel
theorem dX2_readWait_32 : decode cX2_readWait 32 = .ok (.invokevirtual 68, 3) := by decide +kernel
theorem dX2_readWait_35 : decode cX2_readWait 35 = .ok (.ireturn, 1) := by decide +kernel
theorem dX2_readWait_36 : decode cX2_readWait 36 = .ok (.aload_n 0, 1) := by decide +kernel
theorem dX2_readWait_37 : decode cX2_readWait 37 = .ok (.iconst 1, 1) := by decide +kernel
theorem dX2_readWait_38 : decode cX2_readWait 38 = .ok (.putfield 18, 3) := by decide +kernel
theorem dX2_readWait_41 : decode cX2_readWait 41 = .ok (.aload_n 0, 1) := by decide +kernel
theorem dX2_readWait_42 : decode cX2_readWait 42 = .ok (.getfield 22, 3) := by decide +kernel
theorem dX2_readWait_45 : decode cX2_readWait 45 = .ok (.invokevirtual 71, 3) := by decide +kernel
theorem dX2_readWait_48 : decode cX2_readWait 48 = .ok (.aload_n 0, 1) := by decide +kernel
theorem dX2_readWait_49 : decode cX2_readWait 49 = .ok (.getfield 12, 3) := by decide +kernel
theorem dX2_readWait_52 : decode cX2_readWait 52 = .ok (.aload_n 0, 1) := by decide +kernel
theorem dX2_readWait_53 : decode cX2_readWait 53 = .ok (.getfield 22, 3) := by decide +kernel
theorem dX2_readWait_56 : decode cX2_readWait 56 = .ok (.iconst 0, 1) := by decide +kernel
theorem dX2_readWait_57 : decode cX2_readWait 57 = .ok (.bipush 99, 2) := by decide +kernel
theorem dX2_readWait_59 : decode cX2_readWait 59 = .ok (.invokevirtual 82, 3) := by decide +kernel
theorem dX2_readWait_62 : decode cX2_readWait 62 = .ok (.putfield 143, 3) := by decide +kernel
theorem dX2_readWait_65 : decode cX2_readWait 65 = .ok (.aload_n 0, 1) := by decide +kernel
theorem dX2_readWait_66 : decode cX2_readWait 66 = .ok (.getfield 22, 3) := by decide +kernel
theorem dX2_readWait_69 : decode cX2_readWait 69 = .ok (.getfield 100, 3) := by decide +kernel
theorem dX2_readWait_72 : decode cX2_readWait 72 = .ok (.ifCond .ne 7, 3) := by decide +kernel
theorem dX2_readWait_75 : decode cX2_readWait 75 = .ok (.iconst 1, 1) := by decide +kernel
theorem dX2_readWait_76 : decode cX2_readWait 76 = .ok (.goto 4, 3) := by decide +kernel
theorem dX2_readWait_79 : decode cX2_readWait 79 = .ok (.iconst 0, 1) := by decide +kernel
theorem dX2_readWait_80 : decode cX2_readWait 80 = .ok (.ireturn, 1) := by decide +kernel
set_option maxRecDepth 20000 in
theorem ggX2_takeNewName_X8_refuse : GoodIn wsX2_takeNewName wsX8_refuse := goodIn_r _ [9, 10, 11, 12, 43, 44, 45, 46, 47, 48, 49, 50, 51, 52, 53, 54, 55] (by decide +kernel) (by decide +kernel)
set_option maxRecDepth 20000 in
theorem gX2_takeNewName_X8_refuse : GoodIn wsX2_takeNewName (wsV RX2 68 RX8 yX8_refuse wsX8_refuse) := goodIn_app (goodIn_of _ (by decide +kernel)) ggX2_takeNewName_X8_refuse
set_option maxRecDepth 20000 in
theorem ggX2_takeNewName_X1_hasName : GoodIn wsX2_takeNewName wsX1_hasName := goodIn_r _ [17, 18, 19, 20, 21, 22, 23, 24, 25, 16, 26, 56, 57, 58, 59, 60, 61, 62, 63, 64, 65, 66, 67, 68, 69, 70] (by decide +kernel) (by decide +kernel)
set_option maxRecDepth 20000 in
theorem gX2_takeNewName_X1_hasName : GoodIn wsX2_takeNewName (wsV RX2 153 RX1 yX1_hasName wsX1_hasName) := goodIn_app (goodIn_of _ (by decide +kernel)) ggX2_takeNewName_X1_hasName
set_option maxRecDepth 20000 in
theorem ggX2_takeNewName_X8_advance : GoodIn wsX2_takeNewName wsX8_advance := goodIn_r _ [30, 31, 32, 33, 34, 35, 11, 36, 37, 38, 39, 43, 44, 45, 46, 47, 48, 49, 50, 51, 52, 53, 54, 55] (by decide +kernel) (by decide +kernel)
set_option maxRecDepth 20000 in
theorem gX2_takeNewName_X8_advance : GoodIn wsX2_takeNewName (wsV RX2 71 RX8 yX8_advance wsX8_advance) := goodIn_app (goodIn_of _ (by decide +kernel)) ggX2_takeNewName_X8_advance
theorem dX2_takeNewName_0 : decode cX2_takeNewName 0 = .ok (.aload_n 0, 1) := by decide +kernel
theorem dX2_takeNewName_1 : decode cX2_takeNewName 1 = .ok (.getfield 22, 3) := by decide +kernel
theorem dX2_takeNewName_4 : decode cX2_takeNewName 4 = .ok (.getfield 146, 3) := by decide +kernel
theorem dX2_takeNewName_7 : decode cX2_takeNewName 7 = .ok (.iconst 2, 1) := by decide +kernel
theorem dX2_takeNewName_8 : decode cX2_takeNewName 8 = .ok (.if_icmp .eq 12, 3) := by decide +kernel
theorem dX2_takeNewName_11 : decode cX2_takeNewName 11 = .ok (.aload_n 0, 1) := by decide +kernel
theorem dX2_takeNewName_12 : decode cX2_takeNewName 12 = .ok (.getfield 22, 3) := by decide +kernel
theorem dX2_takeNewName_15 : decode cX2_takeNewName 15 = .ok (.iconst 1, 1) := by decide +kernel
theorem dX2_takeNewName_16 : decode cX2_takeNewName 16 = .ok (.invokevirtual 68, 3) := by decide +kernel
theorem dX2_takeNewName_19 : decode cX2_takeNewName 19 = .ok (.ireturn, 1) := by decide +kernel
theorem dX2_takeNewName_20 : decode cX2_takeNewName 20 = .ok (.aload_n 0, 1) := by decide +kernel
theorem dX2_takeNewName_21 : decode cX2_takeNewName 21 = .ok (.getfield 12, 3) := by decide +kernel
theorem dX2_takeNewName_24 : decode cX2_takeNewName 24 = .ok (.aload_n 0, 1) := by decide +kernel
theorem dX2_takeNewName_25 : decode cX2_takeNewName 25 = .ok (.getfield 22, 3) := by decide +kernel
theorem dX2_takeNewName_28 : decode cX2_takeNewName 28 = .ok (.getfield 149, 3) := by decide +kernel
theorem dX2_takeNewName_31 : decode cX2_takeNewName 31 = .ok (.invokevirtual 153, 3) := by decide +kernel
theorem dX2_takeNewName_34 : decode cX2_takeNewName 34 = .ok (.ifCond .eq 12, 3) := by decide +kernel
theorem dX2_takeNewName_37 : decode cX2_takeNewName 37 = .ok (.aload_n 0, 1) := by decide +kernel
theorem dX2_takeNewName_38 : decode cX2_takeNewName 38 = .ok (.getfield 22, 3) := by decide +kernel
theorem dX2_takeNewName_41 : decode cX2_takeNewName 41 = .ok (.iconst 3, 1) := by decide +kernel
theorem dX2_takeNewName_42 : decode cX2_takeNewName 42 = .ok (.invokevirtual 68, 3) := by decide +kernel
theorem dX2_takeNewName_45 : decode cX2_takeNewName 45 = .ok (.ireturn, 1) := by decide +kernel
theorem dX2_takeNewName_46 : decode cX2_takeNewName 46 = .ok (.aload_n 1, 1) := by decide +kernel
theorem dX2_takeNewName_47 : decode cX2_takeNewName 47 = .ok (.iload_n 2, 1) := by decide +kernel
theorem dX2_takeNewName_48 : decode cX2_takeNewName 48 = .ok (.aload_n 0, 1) := by decide +kernel
theorem dX2_takeNewName_49 : decode cX2_takeNewName 49 = .ok (.getfield 22, 3) := by decide +kernel
theorem dX2_takeNewName_52 : decode cX2_takeNewName 52 = .ok (.getfield 149, 3) := by decide +kernel
theorem dX2_takeNewName_55 : decode cX2_takeNewName 55 = .ok (.lastore, 1) := by decide +kernel
theorem dX2_takeNewName_56 : decode cX2_takeNewName 56 = .ok (.aload_n 0, 1) := by decide +kernel
theorem dX2_takeNewName_57 : decode cX2_takeNewName 57 = .ok (.getfield 22, 3) := by decide +kernel
theorem dX2_takeNewName_60 : decode cX2_takeNewName 60 = .ok (.invokevirtual 71, 3) := by decide +kernel
theorem dX2_takeNewName_63 : decode cX2_takeNewName 63 = .ok (.iconst 1, 1) := by decide +kernel
theorem dX2_takeNewName_64 : decode cX2_takeNewName 64 = .ok (.ireturn, 1) := by decide +kernel
set_option maxRecDepth 20000 in
theorem ggX3_init_J7_fill_53178 : GoodIn wsX3_init wsJ7_fill_53178 := goodIn_r _ [18] (by decide +kernel) (by decide +kernel)
set_option maxRecDepth 20000 in
theorem gX3_init_J7_fill_53178 : GoodIn wsX3_init (va_wsS RX3 44 yJ7_fill_53178 wsJ7_fill_53178) := goodIn_app (goodIn_of _ (by decide +kernel)) ggX3_init_J7_fill_53178
theorem dX3_init_0 : decode cX3_init 0 = .ok (.aload_n 0, 1) := by decide +kernel
theorem dX3_init_1 : decode cX3_init 1 = .ok (.invokespecial 3, 3) := by decide +kernel
theorem dX3_init_4 : decode cX3_init 4 = .ok (.aload_n 0, 1) := by decide +kernel
theorem dX3_init_5 : decode cX3_init 5 = .ok (.iconst 0, 1) := by decide +kernel
theorem dX3_init_6 : decode cX3_init 6 = .ok (.putfield 9, 3) := by decide +kernel
theorem dX3_init_9 : decode cX3_init 9 = .ok (.aload_n 0, 1) := by decide +kernel
theorem dX3_init_10 : decode cX3_init 10 = .ok (.iconst 0, 1) := by decide +kernel
theorem dX3_init_11 : decode cX3_init 11 = .ok (.putfield 15, 3) := by decide +kernel
theorem dX3_init_14 : decode cX3_init 14 = .ok (.aload_n 0, 1) := by decide +kernel
theorem dX3_init_15 : decode cX3_init 15 = .ok (.iconst 0, 1) := by decide +kernel
theorem dX3_init_16 : decode cX3_init 16 = .ok (.putfield 18, 3) := by decide +kernel
theorem dX3_init_19 : decode cX3_init 19 = .ok (.aload_n 0, 1) := by decide +kernel
theorem dX3_init_20 : decode cX3_init 20 = .ok (.bipush 6, 2) := by decide +kernel
theorem dX3_init_22 : decode cX3_init 22 = .ok (.newarray .int, 2) := by decide +kernel
theorem dX3_init_24 : decode cX3_init 24 = .ok (.putfield 21, 3) := by decide +kernel
theorem dX3_init_27 : decode cX3_init 27 = .ok (.aload_n 0, 1) := by decide +kernel
theorem dX3_init_28 : decode cX3_init 28 = .ok (.bipush 6, 2) := by decide +kernel
theorem dX3_init_30 : decode cX3_init 30 = .ok (.newarray .int, 2) := by decide +kernel
theorem dX3_init_32 : decode cX3_init 32 = .ok (.putfield 25, 3) := by decide +kernel
theorem dX3_init_35 : decode cX3_init 35 = .ok (.aload_n 0, 1) := by decide +kernel
theorem dX3_init_36 : decode cX3_init 36 = .ok (.bipush 6, 2) := by decide +kernel
theorem dX3_init_38 : decode cX3_init 38 = .ok (.newarray .int, 2) := by decide +kernel
theorem dX3_init_40 : decode cX3_init 40 = .ok (.putfield 28, 3) := by decide +kernel
theorem dX3_init_43 : decode cX3_init 43 = .ok (.aload_n 0, 1) := by decide +kernel
theorem dX3_init_44 : decode cX3_init 44 = .ok (.bipush 6, 2) := by decide +kernel
theorem dX3_init_46 : decode cX3_init 46 = .ok (.newarray .int, 2) := by decide +kernel
theorem dX3_init_48 : decode cX3_init 48 = .ok (.putfield 31, 3) := by decide +kernel
theorem dX3_init_51 : decode cX3_init 51 = .ok (.aload_n 0, 1) := by decide +kernel
theorem dX3_init_52 : decode cX3_init 52 = .ok (.bipush 36, 2) := by decide +kernel
theorem dX3_init_54 : decode cX3_init 54 = .ok (.newarray .int, 2) := by decide +kernel
theorem dX3_init_56 : decode cX3_init 56 = .ok (.putfield 34, 3) := by decide +kernel
theorem dX3_init_59 : decode cX3_init 59 = .ok (.aload_n 0, 1) := by decide +kernel
theorem dX3_init_60 : decode cX3_init 60 = .ok (.bipush 36, 2) := by decide +kernel
theorem dX3_init_62 : decode cX3_init 62 = .ok (.newarray .int, 2) := by decide +kernel
theorem dX3_init_64 : decode cX3_init 64 = .ok (.putfield 37, 3) := by decide +kernel
theorem dX3_init_67 : decode cX3_init 67 = .ok (.aload_n 0, 1) := by decide +kernel
theorem dX3_init_68 : decode cX3_init 68 = .ok (.aload_n 1, 1) := by decide +kernel
theorem dX3_init_69 : decode cX3_init 69 = .ok (.putfield 40, 3) := by decide +kernel
theorem dX3_init_72 : decode cX3_init 72 = .ok (.aload_n 0, 1) := by decide +kernel
theorem dX3_init_73 : decode cX3_init 73 = .ok (.getfield 34, 3) := by decide +kernel
theorem dX3_init_76 : decode cX3_init 76 = .ok (.iconst (-1), 1) := by decide +kernel
theorem dX3_init_77 : decode cX3_init 77 = .ok (.invokestatic 44, 3) := by decide +kernel
theorem dX3_init_80 : decode cX3_init 80 = .ok (.aload_n 0, 1) := by decide +kernel
theorem dX3_init_81 : decode cX3_init 81 = .ok (.getfield 37, 3) := by decide +kernel
theorem dX3_init_84 : decode cX3_init 84 = .ok (.iconst (-1), 1) := by decide +kernel
theorem dX3_init_85 : decode cX3_init 85 = .ok (.invokestatic 44, 3) := by decide +kernel
theorem dX3_init_88 : decode cX3_init 88 = .ok (.return_, 1) := by decide +kernel
set_option maxRecDepth 20000 in
theorem ggX3_begin_J7_fill_53178 : GoodIn wsX3_begin wsJ7_fill_53178 := goodIn_r _ [20] (by decide +kernel) (by decide +kernel)
set_option maxRecDepth 20000 in
theorem gX3_begin_J7_fill_53178 : GoodIn wsX3_begin (va_wsS RX3 44 yJ7_fill_53178 wsJ7_fill_53178) := goodIn_app (goodIn_of _ (by decide +kernel)) ggX3_begin_J7_fill_53178
theorem dX3_begin_0 : decode cX3_begin 0 = .ok (.aload_n 0, 1) := by decide +kernel
theorem dX3_begin_1 : decode cX3_begin 1 = .ok (.iconst 0, 1) := by decide +kernel
theorem dX3_begin_2 : decode cX3_begin 2 = .ok (.putfield 9, 3) := by decide +kernel
theorem dX3_begin_5 : decode cX3_begin 5 = .ok (.aload_n 0, 1) := by decide +kernel
theorem dX3_begin_6 : decode cX3_begin 6 = .ok (.iconst 0, 1) := by decide +kernel
theorem dX3_begin_7 : decode cX3_begin 7 = .ok (.putfield 15, 3) := by decide +kernel
theorem dX3_begin_10 : decode cX3_begin 10 = .ok (.aload_n 0, 1) := by decide +kernel
theorem dX3_begin_11 : decode cX3_begin 11 = .ok (.iconst 0, 1) := by decide +kernel
theorem dX3_begin_12 : decode cX3_begin 12 = .ok (.putfield 18, 3) := by decide +kernel
theorem dX3_begin_15 : decode cX3_begin 15 = .ok (.aload_n 0, 1) := by decide +kernel
theorem dX3_begin_16 : decode cX3_begin 16 = .ok (.getfield 40, 3) := by decide +kernel
theorem dX3_begin_19 : decode cX3_begin 19 = .ok (.getfield 50, 3) := by decide +kernel
theorem dX3_begin_22 : decode cX3_begin 22 = .ok (.iconst 0, 1) := by decide +kernel
theorem dX3_begin_23 : decode cX3_begin 23 = .ok (.aload_n 0, 1) := by decide +kernel
theorem dX3_begin_24 : decode cX3_begin 24 = .ok (.getfield 21, 3) := by decide +kernel
theorem dX3_begin_27 : decode cX3_begin 27 = .ok (.iconst 0, 1) := by decide +kernel
theorem dX3_begin_28 : decode cX3_begin 28 = .ok (.bipush 6, 2) := by decide +kernel
theorem dX3_begin_30 : decode cX3_begin 30 = .ok (.invokestatic 55, 3) := by decide +kernel
theorem dX3_begin_33 : decode cX3_begin 33 = .ok (.aload_n 0, 1) := by decide +kernel
theorem dX3_begin_34 : decode cX3_begin 34 = .ok (.getfield 25, 3) := by decide +kernel
theorem dX3_begin_37 : decode cX3_begin 37 = .ok (.iconst 0, 1) := by decide +kernel
theorem dX3_begin_38 : decode cX3_begin 38 = .ok (.invokestatic 44, 3) := by decide +kernel
theorem dX3_begin_41 : decode cX3_begin 41 = .ok (.aload_n 0, 1) := by decide +kernel
theorem dX3_begin_42 : decode cX3_begin 42 = .ok (.getfield 28, 3) := by decide +kernel
theorem dX3_begin_45 : decode cX3_begin 45 = .ok (.iconst 0, 1) := by decide +kernel
theorem dX3_begin_46 : decode cX3_begin 46 = .ok (.invokestatic 44, 3) := by decide +kernel
theorem dX3_begin_49 : decode cX3_begin 49 = .ok (.aload_n 0, 1) := by decide +kernel
theorem dX3_begin_50 : decode cX3_begin 50 = .ok (.getfield 40, 3) := by decide +kernel
theorem dX3_begin_53 : decode cX3_begin 53 = .ok (.getfield 61, 3) := by decide +kernel
theorem dX3_begin_56 : decode cX3_begin 56 = .ok (.iconst 0, 1) := by decide +kernel
theorem dX3_begin_57 : decode cX3_begin 57 = .ok (.aload_n 0, 1) := by decide +kernel
theorem dX3_begin_58 : decode cX3_begin 58 = .ok (.getfield 31, 3) := by decide +kernel
theorem dX3_begin_61 : decode cX3_begin 61 = .ok (.iconst 0, 1) := by decide +kernel
theorem dX3_begin_62 : decode cX3_begin 62 = .ok (.bipush 6, 2) := by decide +kernel
theorem dX3_begin_64 : decode cX3_begin 64 = .ok (.invokestatic 55, 3) := by decide +kernel
theorem dX3_begin_67 : decode cX3_begin 67 = .ok (.aload_n 0, 1) := by decide +kernel
theorem dX3_begin_68 : decode cX3_begin 68 = .ok (.getfield 34, 3) := by decide +kernel
theorem dX3_begin_71 : decode cX3_begin 71 = .ok (.iconst (-1), 1) := by decide +kernel
theorem dX3_begin_72 : decode cX3_begin 72 = .ok (.invokestatic 44, 3) := by decide +kernel
theorem dX3_begin_75 : decode cX3_begin 75 = .ok (.aload_n 0, 1) := by decide +kernel
theorem dX3_begin_76 : decode cX3_begin 76 = .ok (.getfield 37, 3) := by decide +kernel
theorem dX3_begin_79 : decode cX3_begin 79 = .ok (.iconst (-1), 1) := by decide +kernel
theorem dX3_begin_80 : decode cX3_begin 80 = .ok (.invokestatic 44, 3) := by decide +kernel
theorem dX3_begin_83 : decode cX3_begin 83 = .ok (.return_, 1) := by decide +kernel
theorem dX3_copyFrom_0 : decode cX3_copyFrom 0 = .ok (.aload_n 0, 1) := by decide +kernel
theorem dX3_copyFrom_1 : decode cX3_copyFrom 1 = .ok (.aload_n 1, 1) := by decide +kernel
theorem dX3_copyFrom_2 : decode cX3_copyFrom 2 = .ok (.getfield 9, 3) := by decide +kernel
theorem dX3_copyFrom_5 : decode cX3_copyFrom 5 = .ok (.putfield 9, 3) := by decide +kernel
theorem dX3_copyFrom_8 : decode cX3_copyFrom 8 = .ok (.aload_n 0, 1) := by decide +kernel
theorem dX3_copyFrom_9 : decode cX3_copyFrom 9 = .ok (.aload_n 1, 1) := by decide +kernel
theorem dX3_copyFrom_10 : decode cX3_copyFrom 10 = .ok (.getfield 15, 3) := by decide +kernel
theorem dX3_copyFrom_13 : decode cX3_copyFrom 13 = .ok (.putfield 15, 3) := by decide +kernel
theorem dX3_copyFrom_16 : decode cX3_copyFrom 16 = .ok (.aload_n 0, 1) := by decide +kernel
theorem dX3_copyFrom_17 : decode cX3_copyFrom 17 = .ok (.aload_n 1, 1) := by decide +kernel
theorem dX3_copyFrom_18 : decode cX3_copyFrom 18 = .ok (.getfield 18, 3) := by decide +kernel
theorem dX3_copyFrom_21 : decode cX3_copyFrom 21 = .ok (.putfield 18, 3) := by decide +kernel
theorem dX3_copyFrom_24 : decode cX3_copyFrom 24 = .ok (.aload_n 1, 1) := by decide +kernel
theorem dX3_copyFrom_25 : decode cX3_copyFrom 25 = .ok (.getfield 21, 3) := by decide +kernel
theorem dX3_copyFrom_28 : decode cX3_copyFrom 28 = .ok (.iconst 0, 1) := by decide +kernel
theorem dX3_copyFrom_29 : decode cX3_copyFrom 29 = .ok (.aload_n 0, 1) := by decide +kernel
theorem dX3_copyFrom_30 : decode cX3_copyFrom 30 = .ok (.getfield 21, 3) := by decide +kernel
theorem dX3_copyFrom_33 : decode cX3_copyFrom 33 = .ok (.iconst 0, 1) := by decide +kernel
theorem dX3_copyFrom_34 : decode cX3_copyFrom 34 = .ok (.bipush 6, 2) := by decide +kernel
theorem dX3_copyFrom_36 : decode cX3_copyFrom 36 = .ok (.invokestatic 55, 3) := by decide +kernel
theorem dX3_copyFrom_39 : decode cX3_copyFrom 39 = .ok (.aload_n 1, 1) := by decide +kernel
theorem dX3_copyFrom_40 : decode cX3_copyFrom 40 = .ok (.getfield 25, 3) := by decide +kernel
theorem dX3_copyFrom_43 : decode cX3_copyFrom 43 = .ok (.iconst 0, 1) := by decide +kernel
theorem dX3_copyFrom_44 : decode cX3_copyFrom 44 = .ok (.aload_n 0, 1) := by decide +kernel
theorem dX3_copyFrom_45 : decode cX3_copyFrom 45 = .ok (.getfield 25, 3) := by decide +kernel
theorem dX3_copyFrom_48 : decode cX3_copyFrom 48 = .ok (.iconst 0, 1) := by decide +kernel
theorem dX3_copyFrom_49 : decode cX3_copyFrom 49 = .ok (.bipush 6, 2) := by decide +kernel
theorem dX3_copyFrom_51 : decode cX3_copyFrom 51 = .ok (.invokestatic 55, 3) := by decide +kernel
theorem dX3_copyFrom_54 : decode cX3_copyFrom 54 = .ok (.aload_n 1, 1) := by decide +kernel
theorem dX3_copyFrom_55 : decode cX3_copyFrom 55 = .ok (.getfield 28, 3) := by decide +kernel
theorem dX3_copyFrom_58 : decode cX3_copyFrom 58 = .ok (.iconst 0, 1) := by decide +kernel
theorem dX3_copyFrom_59 : decode cX3_copyFrom 59 = .ok (.aload_n 0, 1) := by decide +kernel
theorem dX3_copyFrom_60 : decode cX3_copyFrom 60 = .ok (.getfield 28, 3) := by decide +kernel
theorem dX3_copyFrom_63 : decode cX3_copyFrom 63 = .ok (.iconst 0, 1) := by decide +kernel
theorem dX3_copyFrom_64 : decode cX3_copyFrom 64 = .ok (.bipush 6, 2) := by decide +kernel
theorem dX3_copyFrom_66 : decode cX3_copyFrom 66 = .ok (.invokestatic 55, 3) := by decide +kernel
theorem dX3_copyFrom_69 : decode cX3_copyFrom 69 = .ok (.aload_n 1, 1) := by decide +kernel
theorem dX3_copyFrom_70 : decode cX3_copyFrom 70 = .ok (.getfield 31, 3) := by decide +kernel
theorem dX3_copyFrom_73 : decode cX3_copyFrom 73 = .ok (.iconst 0, 1) := by decide +kernel
theorem dX3_copyFrom_74 : decode cX3_copyFrom 74 = .ok (.aload_n 0, 1) := by decide +kernel
theorem dX3_copyFrom_75 : decode cX3_copyFrom 75 = .ok (.getfield 31, 3) := by decide +kernel
theorem dX3_copyFrom_78 : decode cX3_copyFrom 78 = .ok (.iconst 0, 1) := by decide +kernel
theorem dX3_copyFrom_79 : decode cX3_copyFrom 79 = .ok (.bipush 6, 2) := by decide +kernel
theorem dX3_copyFrom_81 : decode cX3_copyFrom 81 = .ok (.invokestatic 55, 3) := by decide +kernel
theorem dX3_copyFrom_84 : decode cX3_copyFrom 84 = .ok (.aload_n 1, 1) := by decide +kernel
theorem dX3_copyFrom_85 : decode cX3_copyFrom 85 = .ok (.getfield 34, 3) := by decide +kernel
theorem dX3_copyFrom_88 : decode cX3_copyFrom 88 = .ok (.iconst 0, 1) := by decide +kernel
theorem dX3_copyFrom_89 : decode cX3_copyFrom 89 = .ok (.aload_n 0, 1) := by decide +kernel
theorem dX3_copyFrom_90 : decode cX3_copyFrom 90 = .ok (.getfield 34, 3) := by decide +kernel
theorem dX3_copyFrom_93 : decode cX3_copyFrom 93 = .ok (.iconst 0, 1) := by decide +kernel
theorem dX3_copyFrom_94 : decode cX3_copyFrom 94 = .ok (.bipush 36, 2) := by decide +kernel
theorem dX3_copyFrom_96 : decode cX3_copyFrom 96 = .ok (.invokestatic 55, 3) := by decide +kernel
theorem dX3_copyFrom_99 : decode cX3_copyFrom 99 = .ok (.aload_n 1, 1) := by decide +kernel
theorem dX3_copyFrom_100 : decode cX3_copyFrom 100 = .ok (.getfield 37, 3) := by decide +kernel
theorem dX3_copyFrom_103 : decode cX3_copyFrom 103 = .ok (.iconst 0, 1) := by decide +kernel
theorem dX3_copyFrom_104 : decode cX3_copyFrom 104 = .ok (.aload_n 0, 1) := by decide +kernel
theorem dX3_copyFrom_105 : decode cX3_copyFrom 105 = .ok (.getfield 37, 3) := by decide +kernel
theorem dX3_copyFrom_108 : decode cX3_copyFrom 108 = .ok (.iconst 0, 1) := by decide +kernel
theorem dX3_copyFrom_109 : decode cX3_copyFrom 109 = .ok (.bipush 36, 2) := by decide +kernel
theorem dX3_copyFrom_111 : decode cX3_copyFrom 111 = .ok (.invokestatic 55, 3) := by decide +kernel
theorem dX3_copyFrom_114 : decode cX3_copyFrom 114 = .ok (.return_, 1) := by decide +kernel
theorem dX3_isStopped_0 : decode cX3_isStopped 0 = .ok (.aload_n 0, 1) := by decide +kernel
theorem dX3_isStopped_1 : decode cX3_isStopped 1 = .ok (.getfield 18, 3) := by decide +kernel
theorem dX3_isStopped_4 : decode cX3_isStopped 4 = .ok (.iload_n 1, 1) := by decide +kernel
theorem dX3_isStopped_5 : decode cX3_isStopped 5 = .ok (.ishr, 1) := by decide +kernel
theorem dX3_isStopped_6 : decode cX3_isStopped 6 = .ok (.iconst 1, 1) := by decide +kernel
theorem dX3_isStopped_7 : decode cX3_isStopped 7 = .ok (.iand, 1) := by decide +kernel
theorem dX3_isStopped_8 : decode cX3_isStopped 8 = .ok (.ifCond .eq 7, 3) := by decide +kernel
theorem dX3_isStopped_11 : decode cX3_isStopped 11 = .ok (.iconst 1, 1) := by decide +kernel
theorem dX3_isStopped_12 : decode cX3_isStopped 12 = .ok (.goto 4, 3) := by decide +kernel
theorem dX3_isStopped_15 : decode cX3_isStopped 15 = .ok (.iconst 0, 1) := by decide +kernel
theorem dX3_isStopped_16 : decode cX3_isStopped 16 = .ok (.ireturn, 1) := by decide +kernel
theorem dX3_isOut_0 : decode cX3_isOut 0 = .ok (.aload_n 0, 1) := by decide +kernel
theorem dX3_isOut_1 : decode cX3_isOut 1 = .ok (.getfield 15, 3) := by decide +kernel
theorem dX3_isOut_4 : decode cX3_isOut 4 = .ok (.iload_n 1, 1) := by decide +kernel
theorem dX3_isOut_5 : decode cX3_isOut 5 = .ok (.ishr, 1) := by decide +kernel
theorem dX3_isOut_6 : decode cX3_isOut 6 = .ok (.iconst 1, 1) := by decide +kernel
theorem dX3_isOut_7 : decode cX3_isOut 7 = .ok (.iand, 1) := by decide +kernel
theorem dX3_isOut_8 : decode cX3_isOut 8 = .ok (.ifCond .eq 7, 3) := by decide +kernel
theorem dX3_isOut_11 : decode cX3_isOut 11 = .ok (.iconst 1, 1) := by decide +kernel
theorem dX3_isOut_12 : decode cX3_isOut 12 = .ok (.goto 4, 3) := by decide +kernel
theorem dX3_isOut_15 : decode cX3_isOut 15 = .ok (.iconst 0, 1) := by decide +kernel
theorem dX3_isOut_16 : decode cX3_isOut 16 = .ok (.ireturn, 1) := by decide +kernel
theorem dX3_minutesLeft_0 : decode cX3_minutesLeft 0 = .ok (.sipush 2000, 3) := by decide +kernel
theorem dX3_minutesLeft_3 : decode cX3_minutesLeft 3 = .ok (.aload_n 0, 1) := by decide +kernel
theorem dX3_minutesLeft_4 : decode cX3_minutesLeft 4 = .ok (.getfield 9, 3) := by decide +kernel
theorem dX3_minutesLeft_7 : decode cX3_minutesLeft 7 = .ok (.isub, 1) := by decide +kernel
theorem dX3_minutesLeft_8 : decode cX3_minutesLeft 8 = .ok (.ireturn, 1) := by decide +kernel
set_option maxRecDepth 20000 in
theorem ggX3_reads_X3_isStopped : GoodIn wsX3_reads wsX3_isStopped := goodIn_r _ [10, 11, 12, 13, 14, 15, 16, 17, 18, 19, 20, 21] (by decide +kernel) (by decide +kernel)
set_option maxRecDepth 20000 in
theorem gX3_reads_X3_isStopped : GoodIn wsX3_reads (wsV RX3 64 RX3 yX3_isStopped wsX3_isStopped) := goodIn_app (goodIn_of _ (by decide +kernel)) ggX3_reads_X3_isStopped
theorem dX3_reads_0 : decode cX3_reads 0 = .ok (.aload_n 0, 1) := by decide +kernel
theorem dX3_reads_1 : decode cX3_reads 1 = .ok (.iload_n 1, 1) := by decide +kernel
theorem dX3_reads_2 : decode cX3_reads 2 = .ok (.invokevirtual 64, 3) := by decide +kernel
theorem dX3_reads_5 : decode cX3_reads 5 = .ok (.ifCond .eq 10, 3) := by decide +kernel
theorem dX3_reads_8 : decode cX3_reads 8 = .ok (.aload_n 0, 1) := by decide +kernel
theorem dX3_reads_9 : decode cX3_reads 9 = .ok (.getfield 28, 3) := by decide +kernel
theorem dX3_reads_12 : decode cX3_reads 12 = .ok (.iload_n 1, 1) := by decide +kernel
theorem dX3_reads_13 : decode cX3_reads 13 = .ok (.iaload, 1) := by decide +kernel
theorem dX3_reads_14 : decode cX3_reads 14 = .ok (.ireturn, 1) := by decide +kernel
theorem dX3_reads_15 : decode cX3_reads 15 = .ok (.iload_n 2, 1) := by decide +kernel
theorem dX3_reads_16 : decode cX3_reads 16 = .ok (.aload_n 0, 1) := by decide +kernel
theorem dX3_reads_17 : decode cX3_reads 17 = .ok (.getfield 21, 3) := by decide +kernel
theorem dX3_reads_20 : decode cX3_reads 20 = .ok (.iload_n 1, 1) := by decide +kernel
theorem dX3_reads_21 : decode cX3_reads 21 = .ok (.iaload, 1) := by decide +kernel
theorem dX3_reads_22 : decode cX3_reads 22 = .ok (.iadd, 1) := by decide +kernel
theorem dX3_reads_23 : decode cX3_reads 23 = .ok (.aload_n 0, 1) := by decide +kernel
theorem dX3_reads_24 : decode cX3_reads 24 = .ok (.getfield 40, 3) := by decide +kernel
theorem dX3_reads_27 : decode cX3_reads 27 = .ok (.getfield 68, 3) := by decide +kernel
theorem dX3_reads_30 : decode cX3_reads 30 = .ok (.iload_n 1, 1) := by decide +kernel
theorem dX3_reads_31 : decode cX3_reads 31 = .ok (.iaload, 1) := by decide +kernel
theorem dX3_reads_32 : decode cX3_reads 32 = .ok (.iload_n 2, 1) := by decide +kernel
theorem dX3_reads_33 : decode cX3_reads 33 = .ok (.aload_n 0, 1) := by decide +kernel
theorem dX3_reads_34 : decode cX3_reads 34 = .ok (.getfield 25, 3) := by decide +kernel
theorem dX3_reads_37 : decode cX3_reads 37 = .ok (.iload_n 1, 1) := by decide +kernel
theorem dX3_reads_38 : decode cX3_reads 38 = .ok (.iaload, 1) := by decide +kernel
theorem dX3_reads_39 : decode cX3_reads 39 = .ok (.isub, 1) := by decide +kernel
theorem dX3_reads_40 : decode cX3_reads 40 = .ok (.bipush 60, 2) := by decide +kernel
theorem dX3_reads_42 : decode cX3_reads 42 = .ok (.idiv, 1) := by decide +kernel
theorem dX3_reads_43 : decode cX3_reads 43 = .ok (.imul, 1) := by decide +kernel
theorem dX3_reads_44 : decode cX3_reads 44 = .ok (.iadd, 1) := by decide +kernel
theorem dX3_reads_45 : decode cX3_reads 45 = .ok (.ireturn, 1) := by decide +kernel
set_option maxRecDepth 20000 in
theorem ggX3_shows_X3_reads : GoodIn wsX3_shows wsX3_reads := goodIn_r _ [5, 6, 7, 8, 9, 10, 11, 12, 13, 4, 14, 15, 20, 21, 22, 23, 24, 25, 26, 27, 28, 29, 30, 31, 32, 33, 34, 35, 36, 37, 38, 39, 40, 41, 42, 43, 44] (by decide +kernel) (by decide +kernel)
set_option maxRecDepth 20000 in
theorem gX3_shows_X3_reads : GoodIn wsX3_shows (wsV RX3 71 RX3 yX3_reads wsX3_reads) := goodIn_app (goodIn_of _ (by decide +kernel)) ggX3_shows_X3_reads
set_option maxRecDepth 20000 in
theorem ggX3_shows_J9_floorMod_7cf53 : GoodIn wsX3_shows wsJ9_floorMod_7cf53 := goodIn_r _ [19] (by decide +kernel) (by decide +kernel)
set_option maxRecDepth 20000 in
theorem gX3_shows_J9_floorMod_7cf53 : GoodIn wsX3_shows (va_wsS RX3 75 yJ9_floorMod_7cf53 wsJ9_floorMod_7cf53) := goodIn_app (goodIn_of _ (by decide +kernel)) ggX3_shows_J9_floorMod_7cf53
theorem dX3_shows_0 : decode cX3_shows 0 = .ok (.aload_n 0, 1) := by decide +kernel
theorem dX3_shows_1 : decode cX3_shows 1 = .ok (.iload_n 1, 1) := by decide +kernel
theorem dX3_shows_2 : decode cX3_shows 2 = .ok (.iload_n 2, 1) := by decide +kernel
theorem dX3_shows_3 : decode cX3_shows 3 = .ok (.invokevirtual 71, 3) := by decide +kernel
theorem dX3_shows_6 : decode cX3_shows 6 = .ok (.sipush 720, 3) := by decide +kernel
theorem dX3_shows_9 : decode cX3_shows 9 = .ok (.invokestatic 75, 3) := by decide +kernel
theorem dX3_shows_12 : decode cX3_shows 12 = .ok (.ireturn, 1) := by decide +kernel
set_option maxRecDepth 20000 in
theorem ggX3_wrongBy_X3_reads : GoodIn wsX3_wrongBy wsX3_reads := goodIn_r _ [6, 7, 8, 9, 10, 11, 12, 13, 14, 5, 15, 16, 17, 18, 19, 20, 21, 22, 23, 24, 25, 26, 27, 28, 29, 30, 31, 32, 33, 34, 35, 36, 37, 38, 39, 40, 41] (by decide +kernel) (by decide +kernel)
set_option maxRecDepth 20000 in
theorem gX3_wrongBy_X3_reads : GoodIn wsX3_wrongBy (wsV RX3 71 RX3 yX3_reads wsX3_reads) := goodIn_app (goodIn_of _ (by decide +kernel)) ggX3_wrongBy_X3_reads
theorem dX3_wrongBy_0 : decode cX3_wrongBy 0 = .ok (.aload_n 0, 1) := by decide +kernel
theorem dX3_wrongBy_1 : decode cX3_wrongBy 1 = .ok (.iload_n 1, 1) := by decide +kernel
theorem dX3_wrongBy_2 : decode cX3_wrongBy 2 = .ok (.aload_n 0, 1) := by decide +kernel
theorem dX3_wrongBy_3 : decode cX3_wrongBy 3 = .ok (.getfield 9, 3) := by decide +kernel
theorem dX3_wrongBy_6 : decode cX3_wrongBy 6 = .ok (.invokevirtual 71, 3) := by decide +kernel
theorem dX3_wrongBy_9 : decode cX3_wrongBy 9 = .ok (.aload_n 0, 1) := by decide +kernel
theorem dX3_wrongBy_10 : decode cX3_wrongBy 10 = .ok (.getfield 9, 3) := by decide +kernel
theorem dX3_wrongBy_13 : decode cX3_wrongBy 13 = .ok (.isub, 1) := by decide +kernel
theorem dX3_wrongBy_14 : decode cX3_wrongBy 14 = .ok (.ireturn, 1) := by decide +kernel
set_option maxRecDepth 20000 in
theorem ggX3_rightClocks_X3_wrongBy : GoodIn wsX3_rightClocks wsX3_wrongBy := goodIn_r _ [7, 8, 9, 10, 11, 6, 12, 13, 14, 1, 15, 16, 17, 18, 19, 20, 21, 22, 23, 24, 25, 26, 27, 28, 29, 30, 31, 32, 33, 34, 35, 36, 37, 38, 39, 40, 41, 42, 43, 44, 45, 46] (by decide +kernel) (by decide +kernel)
set_option maxRecDepth 20000 in
theorem gX3_rightClocks_X3_wrongBy : GoodIn wsX3_rightClocks (wsV RX3 83 RX3 yX3_wrongBy wsX3_wrongBy) := goodIn_app (goodIn_of _ (by decide +kernel)) ggX3_rightClocks_X3_wrongBy
theorem dX3_rightClocks_0 : decode cX3_rightClocks 0 = .ok (.iconst 0, 1) := by decide +kernel
theorem dX3_rightClocks_1 : decode cX3_rightClocks 1 = .ok (.istore_n 1, 1) := by decide +kernel
theorem dX3_rightClocks_2 : decode cX3_rightClocks 2 = .ok (.iconst 0, 1) := by decide +kernel
theorem dX3_rightClocks_3 : decode cX3_rightClocks 3 = .ok (.istore_n 2, 1) := by decide +kernel
theorem dX3_rightClocks_4 : decode cX3_rightClocks 4 = .ok (.iload_n 2, 1) := by decide +kernel
theorem dX3_rightClocks_5 : decode cX3_rightClocks 5 = .ok (.aload_n 0, 1) := by decide +kernel
theorem dX3_rightClocks_6 : decode cX3_rightClocks 6 = .ok (.getfield 40, 3) := by decide +kernel
theorem dX3_rightClocks_9 : decode cX3_rightClocks 9 = .ok (.getfield 80, 3) := by decide +kernel
theorem dX3_rightClocks_12 : decode cX3_rightClocks 12 = .ok (.if_icmp .ge 23, 3) := by decide +kernel
theorem dX3_rightClocks_15 : decode cX3_rightClocks 15 = .ok (.aload_n 0, 1) := by decide +kernel
theorem dX3_rightClocks_16 : decode cX3_rightClocks 16 = .ok (.iload_n 2, 1) := by decide +kernel
theorem dX3_rightClocks_17 : decode cX3_rightClocks 17 = .ok (.invokevirtual 83, 3) := by decide +kernel
theorem dX3_rightClocks_20 : decode cX3_rightClocks 20 = .ok (.ifCond .ne 9, 3) := by decide +kernel
theorem dX3_rightClocks_23 : decode cX3_rightClocks 23 = .ok (.iload_n 1, 1) := by decide +kernel
theorem dX3_rightClocks_24 : decode cX3_rightClocks 24 = .ok (.iconst 1, 1) := by decide +kernel
theorem dX3_rightClocks_25 : decode cX3_rightClocks 25 = .ok (.iload_n 2, 1) := by decide +kernel
theorem dX3_rightClocks_26 : decode cX3_rightClocks 26 = .ok (.ishl, 1) := by decide +kernel
theorem dX3_rightClocks_27 : decode cX3_rightClocks 27 = .ok (.ior, 1) := by decide +kernel
theorem dX3_rightClocks_28 : decode cX3_rightClocks 28 = .ok (.istore_n 1, 1) := by decide +kernel
theorem dX3_rightClocks_29 : decode cX3_rightClocks 29 = .ok (.iinc 2 1, 3) := by decide +kernel
theorem dX3_rightClocks_32 : decode cX3_rightClocks 32 = .ok (.goto (-28), 3) := by decide +kernel
theorem dX3_rightClocks_35 : decode cX3_rightClocks 35 = .ok (.iload_n 1, 1) := by decide +kernel
theorem dX3_rightClocks_36 : decode cX3_rightClocks 36 = .ok (.ireturn, 1) := by decide +kernel
set_option maxRecDepth 20000 in
theorem ggX3_showAlike_X3_shows : GoodIn wsX3_showAlike wsX3_shows := goodIn_r _ [7, 8, 9, 10, 6, 11, 12, 13, 1, 14, 15, 16, 17, 18, 19, 20, 21, 22, 23, 24, 25, 26, 27, 28, 29, 30, 31, 32, 33, 34, 35, 36, 37, 38, 39, 40, 41, 42, 43, 44, 45, 46, 47, 48, 49] (by decide +kernel) (by decide +kernel)
set_option maxRecDepth 20000 in
theorem gX3_showAlike_X3_shows : GoodIn wsX3_showAlike (wsV RX3 87 RX3 yX3_shows wsX3_shows) := goodIn_app (goodIn_of _ (by decide +kernel)) ggX3_showAlike_X3_shows
theorem dX3_showAlike_0 : decode cX3_showAlike 0 = .ok (.iconst 1, 1) := by decide +kernel
theorem dX3_showAlike_1 : decode cX3_showAlike 1 = .ok (.istore_n 2, 1) := by decide +kernel
theorem dX3_showAlike_2 : decode cX3_showAlike 2 = .ok (.iload_n 2, 1) := by decide +kernel
theorem dX3_showAlike_3 : decode cX3_showAlike 3 = .ok (.aload_n 0, 1) := by decide +kernel
theorem dX3_showAlike_4 : decode cX3_showAlike 4 = .ok (.getfield 40, 3) := by decide +kernel
theorem dX3_showAlike_7 : decode cX3_showAlike 7 = .ok (.getfield 80, 3) := by decide +kernel
theorem dX3_showAlike_10 : decode cX3_showAlike 10 = .ok (.if_icmp .ge 26, 3) := by decide +kernel
theorem dX3_showAlike_13 : decode cX3_showAlike 13 = .ok (.aload_n 0, 1) := by decide +kernel
theorem dX3_showAlike_14 : decode cX3_showAlike 14 = .ok (.iload_n 2, 1) := by decide +kernel
theorem dX3_showAlike_15 : decode cX3_showAlike 15 = .ok (.iload_n 1, 1) := by decide +kernel
theorem dX3_showAlike_16 : decode cX3_showAlike 16 = .ok (.invokevirtual 87, 3) := by decide +kernel
theorem dX3_showAlike_19 : decode cX3_showAlike 19 = .ok (.aload_n 0, 1) := by decide +kernel
theorem dX3_showAlike_20 : decode cX3_showAlike 20 = .ok (.iconst 0, 1) := by decide +kernel
theorem dX3_showAlike_21 : decode cX3_showAlike 21 = .ok (.iload_n 1, 1) := by decide +kernel
theorem dX3_showAlike_22 : decode cX3_showAlike 22 = .ok (.invokevirtual 87, 3) := by decide +kernel
theorem dX3_showAlike_25 : decode cX3_showAlike 25 = .ok (.if_icmp .eq 5, 3) := by decide +kernel
theorem dX3_showAlike_28 : decode cX3_showAlike 28 = .ok (.iconst 0, 1) := by decide +kernel
theorem dX3_showAlike_29 : decode cX3_showAlike 29 = .ok (.ireturn, 1) := by decide +kernel
theorem dX3_showAlike_30 : decode cX3_showAlike 30 = .ok (.iinc 2 1, 3) := by decide +kernel
theorem dX3_showAlike_33 : decode cX3_showAlike 33 = .ok (.goto (-31), 3) := by decide +kernel
theorem dX3_showAlike_36 : decode cX3_showAlike 36 = .ok (.iconst 1, 1) := by decide +kernel
theorem dX3_showAlike_37 : decode cX3_showAlike 37 = .ok (.ireturn, 1) := by decide +kernel
set_option maxRecDepth 20000 in
theorem ggX3_whyNotSet_X3_isOut : GoodIn wsX3_whyNotSet wsX3_isOut := goodIn_r _ [5, 6, 12, 13, 14, 15, 16, 17, 18, 19, 20, 21] (by decide +kernel) (by decide +kernel)
set_option maxRecDepth 20000 in
theorem gX3_whyNotSet_X3_isOut : GoodIn wsX3_whyNotSet (wsV RX3 90 RX3 yX3_isOut wsX3_isOut) := goodIn_app (goodIn_of _ (by decide +kernel)) ggX3_whyNotSet_X3_isOut
set_option maxRecDepth 20000 in
theorem ggX3_whyNotSet_X3_isStopped : GoodIn wsX3_whyNotSet wsX3_isStopped := goodIn_r _ [10, 11, 12, 13, 14, 15, 16, 17, 18, 19, 20, 21] (by decide +kernel) (by decide +kernel)
set_option maxRecDepth 20000 in
theorem gX3_whyNotSet_X3_isStopped : GoodIn wsX3_whyNotSet (wsV RX3 64 RX3 yX3_isStopped wsX3_isStopped) := goodIn_app (goodIn_of _ (by decide +kernel)) ggX3_whyNotSet_X3_isStopped
theorem dX3_whyNotSet_0 : decode cX3_whyNotSet 0 = .ok (.aload_n 0, 1) := by decide +kernel
theorem dX3_whyNotSet_1 : decode cX3_whyNotSet 1 = .ok (.iload_n 1, 1) := by decide +kernel
theorem dX3_whyNotSet_2 : decode cX3_whyNotSet 2 = .ok (.invokevirtual 90, 3) := by decide +kernel
theorem dX3_whyNotSet_5 : decode cX3_whyNotSet 5 = .ok (.ifCond .eq 5, 3) := by decide +kernel
theorem dX3_whyNotSet_8 : decode cX3_whyNotSet 8 = .ok (.iconst 1, 1) := by decide +kernel
theorem dX3_whyNotSet_9 : decode cX3_whyNotSet 9 = .ok (.ireturn, 1) := by decide +kernel
theorem dX3_whyNotSet_10 : decode cX3_whyNotSet 10 = .ok (.aload_n 0, 1) := by decide +kernel
theorem dX3_whyNotSet_11 : decode cX3_whyNotSet 11 = .ok (.iload_n 2, 1) := by decide +kernel
theorem dX3_whyNotSet_12 : decode cX3_whyNotSet 12 = .ok (.invokevirtual 64, 3) := by decide +kernel
theorem dX3_whyNotSet_15 : decode cX3_whyNotSet 15 = .ok (.ifCond .eq 7, 3) := by decide +kernel
theorem dX3_whyNotSet_18 : decode cX3_whyNotSet 18 = .ok (.iconst 2, 1) := by decide +kernel
theorem dX3_whyNotSet_19 : decode cX3_whyNotSet 19 = .ok (.goto 4, 3) := by decide +kernel
theorem dX3_whyNotSet_22 : decode cX3_whyNotSet 22 = .ok (.iconst 0, 1) := by decide +kernel
theorem dX3_whyNotSet_23 : decode cX3_whyNotSet 23 = .ok (.ireturn, 1) := by decide +kernel
theorem dX3_adjust_0 : decode cX3_adjust 0 = .ok (.aload_n 0, 1) := by decide +kernel
theorem dX3_adjust_1 : decode cX3_adjust 1 = .ok (.getfield 21, 3) := by decide +kernel
theorem dX3_adjust_4 : decode cX3_adjust 4 = .ok (.iload_n 2, 1) := by decide +kernel
theorem dX3_adjust_5 : decode cX3_adjust 5 = .ok (.aload_n 0, 1) := by decide +kernel
theorem dX3_adjust_6 : decode cX3_adjust 6 = .ok (.getfield 40, 3) := by decide +kernel
theorem dX3_adjust_9 : decode cX3_adjust 9 = .ok (.getfield 93, 3) := by decide +kernel
theorem dX3_adjust_12 : decode cX3_adjust 12 = .ok (.iload_n 1, 1) := by decide +kernel
theorem dX3_adjust_13 : decode cX3_adjust 13 = .ok (.iaload, 1) := by decide +kernel
theorem dX3_adjust_14 : decode cX3_adjust 14 = .ok (.ineg, 1) := by decide +kernel
theorem dX3_adjust_15 : decode cX3_adjust 15 = .ok (.iastore, 1) := by decide +kernel
theorem dX3_adjust_16 : decode cX3_adjust 16 = .ok (.aload_n 0, 1) := by decide +kernel
theorem dX3_adjust_17 : decode cX3_adjust 17 = .ok (.getfield 25, 3) := by decide +kernel
theorem dX3_adjust_20 : decode cX3_adjust 20 = .ok (.iload_n 2, 1) := by decide +kernel
theorem dX3_adjust_21 : decode cX3_adjust 21 = .ok (.aload_n 0, 1) := by decide +kernel
theorem dX3_adjust_22 : decode cX3_adjust 22 = .ok (.getfield 9, 3) := by decide +kernel
theorem dX3_adjust_25 : decode cX3_adjust 25 = .ok (.iastore, 1) := by decide +kernel
theorem dX3_adjust_26 : decode cX3_adjust 26 = .ok (.return_, 1) := by decide +kernel
set_option maxRecDepth 20000 in
theorem ggX3_whyNotStop_X3_isStopped : GoodIn wsX3_whyNotStop wsX3_isStopped := goodIn_r _ [5, 6, 7, 8, 9, 10, 11, 12, 13, 14, 15, 16] (by decide +kernel) (by decide +kernel)
set_option maxRecDepth 20000 in
theorem gX3_whyNotStop_X3_isStopped : GoodIn wsX3_whyNotStop (wsV RX3 64 RX3 yX3_isStopped wsX3_isStopped) := goodIn_app (goodIn_of _ (by decide +kernel)) ggX3_whyNotStop_X3_isStopped
theorem dX3_whyNotStop_0 : decode cX3_whyNotStop 0 = .ok (.aload_n 0, 1) := by decide +kernel
theorem dX3_whyNotStop_1 : decode cX3_whyNotStop 1 = .ok (.iload_n 1, 1) := by decide +kernel
theorem dX3_whyNotStop_2 : decode cX3_whyNotStop 2 = .ok (.invokevirtual 64, 3) := by decide +kernel
theorem dX3_whyNotStop_5 : decode cX3_whyNotStop 5 = .ok (.ifCond .eq 7, 3) := by decide +kernel
theorem dX3_whyNotStop_8 : decode cX3_whyNotStop 8 = .ok (.iconst 1, 1) := by decide +kernel
theorem dX3_whyNotStop_9 : decode cX3_whyNotStop 9 = .ok (.goto 4, 3) := by decide +kernel
theorem dX3_whyNotStop_12 : decode cX3_whyNotStop 12 = .ok (.iconst 0, 1) := by decide +kernel
theorem dX3_whyNotStop_13 : decode cX3_whyNotStop 13 = .ok (.ireturn, 1) := by decide +kernel
set_option maxRecDepth 20000 in
theorem ggX3_halt_X3_reads : GoodIn wsX3_halt wsX3_reads := goodIn_r _ [8, 1, 9, 10, 11, 12, 13, 14, 15, 7, 16, 3, 17, 18, 19, 20, 21, 22, 23, 24, 25, 26, 27, 28, 29, 30, 31, 32, 33, 34, 35, 36, 37, 38, 39, 40, 41] (by decide +kernel) (by decide +kernel)
set_option maxRecDepth 20000 in
theorem gX3_halt_X3_reads : GoodIn wsX3_halt (wsV RX3 71 RX3 yX3_reads wsX3_reads) := goodIn_app (goodIn_of _ (by decide +kernel)) ggX3_halt_X3_reads
theorem dX3_halt_0 : decode cX3_halt 0 = .ok (.aload_n 0, 1) := by decide +kernel
theorem dX3_halt_1 : decode cX3_halt 1 = .ok (.getfield 28, 3) := by decide +kernel
theorem dX3_halt_4 : decode cX3_halt 4 = .ok (.iload_n 1, 1) := by decide +kernel
theorem dX3_halt_5 : decode cX3_halt 5 = .ok (.aload_n 0, 1) := by decide +kernel
theorem dX3_halt_6 : decode cX3_halt 6 = .ok (.iload_n 1, 1) := by decide +kernel
theorem dX3_halt_7 : decode cX3_halt 7 = .ok (.aload_n 0, 1) := by decide +kernel
theorem dX3_halt_8 : decode cX3_halt 8 = .ok (.getfield 9, 3) := by decide +kernel
theorem dX3_halt_11 : decode cX3_halt 11 = .ok (.invokevirtual 71, 3) := by decide +kernel
theorem dX3_halt_14 : decode cX3_halt 14 = .ok (.iastore, 1) := by decide +kernel
theorem dX3_halt_15 : decode cX3_halt 15 = .ok (.aload_n 0, 1) := by decide +kernel
theorem dX3_halt_16 : decode cX3_halt 16 = .ok (.dup, 1) := by decide +kernel
theorem dX3_halt_17 : decode cX3_halt 17 = .ok (.getfield 18, 3) := by decide +kernel
theorem dX3_halt_20 : decode cX3_halt 20 = .ok (.iconst 1, 1) := by decide +kernel
theorem dX3_halt_21 : decode cX3_halt 21 = .ok (.iload_n 1, 1) := by decide +kernel
theorem dX3_halt_22 : decode cX3_halt 22 = .ok (.ishl, 1) := by decide +kernel
theorem dX3_halt_23 : decode cX3_halt 23 = .ok (.ior, 1) := by decide +kernel
theorem dX3_halt_24 : decode cX3_halt 24 = .ok (.putfield 18, 3) := by decide +kernel
theorem dX3_halt_27 : decode cX3_halt 27 = .ok (.return_, 1) := by decide +kernel
set_option maxRecDepth 20000 in
theorem ggX3_whyNotStart_X3_isStopped : GoodIn wsX3_whyNotStart wsX3_isStopped := goodIn_r _ [5, 6, 7, 8, 9, 10, 11, 12, 13, 14, 15, 16] (by decide +kernel) (by decide +kernel)
set_option maxRecDepth 20000 in
theorem gX3_whyNotStart_X3_isStopped : GoodIn wsX3_whyNotStart (wsV RX3 64 RX3 yX3_isStopped wsX3_isStopped) := goodIn_app (goodIn_of _ (by decide +kernel)) ggX3_whyNotStart_X3_isStopped
theorem dX3_whyNotStart_0 : decode cX3_whyNotStart 0 = .ok (.aload_n 0, 1) := by decide +kernel
theorem dX3_whyNotStart_1 : decode cX3_whyNotStart 1 = .ok (.iload_n 1, 1) := by decide +kernel
theorem dX3_whyNotStart_2 : decode cX3_whyNotStart 2 = .ok (.invokevirtual 64, 3) := by decide +kernel
theorem dX3_whyNotStart_5 : decode cX3_whyNotStart 5 = .ok (.ifCond .eq 7, 3) := by decide +kernel
theorem dX3_whyNotStart_8 : decode cX3_whyNotStart 8 = .ok (.iconst 0, 1) := by decide +kernel
theorem dX3_whyNotStart_9 : decode cX3_whyNotStart 9 = .ok (.goto 4, 3) := by decide +kernel
theorem dX3_whyNotStart_12 : decode cX3_whyNotStart 12 = .ok (.iconst 1, 1) := by decide +kernel
theorem dX3_whyNotStart_13 : decode cX3_whyNotStart 13 = .ok (.ireturn, 1) := by decide +kernel
set_option maxRecDepth 20000 in
theorem ggX3_resume_X3_wrongBy : GoodIn wsX3_resume wsX3_wrongBy := goodIn_r _ [9, 3, 10, 11, 12, 8, 13, 14, 1, 15, 16, 2, 17, 18, 19, 20, 4, 21, 22, 23, 24, 25, 26, 27, 28, 29, 30, 31, 32, 33, 34, 35, 36, 37, 38, 39, 40, 41, 42, 43, 44, 45] (by decide +kernel) (by decide +kernel)
set_option maxRecDepth 20000 in
theorem gX3_resume_X3_wrongBy : GoodIn wsX3_resume (wsV RX3 83 RX3 yX3_wrongBy wsX3_wrongBy) := goodIn_app (goodIn_of _ (by decide +kernel)) ggX3_resume_X3_wrongBy
theorem dX3_resume_0 : decode cX3_resume 0 = .ok (.aload_n 0, 1) := by decide +kernel
theorem dX3_resume_1 : decode cX3_resume 1 = .ok (.getfield 21, 3) := by decide +kernel
theorem dX3_resume_4 : decode cX3_resume 4 = .ok (.iload_n 1, 1) := by decide +kernel
theorem dX3_resume_5 : decode cX3_resume 5 = .ok (.aload_n 0, 1) := by decide +kernel
theorem dX3_resume_6 : decode cX3_resume 6 = .ok (.iload_n 1, 1) := by decide +kernel
theorem dX3_resume_7 : decode cX3_resume 7 = .ok (.invokevirtual 83, 3) := by decide +kernel
theorem dX3_resume_10 : decode cX3_resume 10 = .ok (.iastore, 1) := by decide +kernel
theorem dX3_resume_11 : decode cX3_resume 11 = .ok (.aload_n 0, 1) := by decide +kernel
theorem dX3_resume_12 : decode cX3_resume 12 = .ok (.getfield 25, 3) := by decide +kernel
theorem dX3_resume_15 : decode cX3_resume 15 = .ok (.iload_n 1, 1) := by decide +kernel
theorem dX3_resume_16 : decode cX3_resume 16 = .ok (.aload_n 0, 1) := by decide +kernel
theorem dX3_resume_17 : decode cX3_resume 17 = .ok (.getfield 9, 3) := by decide +kernel
theorem dX3_resume_20 : decode cX3_resume 20 = .ok (.iastore, 1) := by decide +kernel
theorem dX3_resume_21 : decode cX3_resume 21 = .ok (.aload_n 0, 1) := by decide +kernel
theorem dX3_resume_22 : decode cX3_resume 22 = .ok (.dup, 1) := by decide +kernel
theorem dX3_resume_23 : decode cX3_resume 23 = .ok (.getfield 18, 3) := by decide +kernel
theorem dX3_resume_26 : decode cX3_resume 26 = .ok (.iconst 1, 1) := by decide +kernel
theorem dX3_resume_27 : decode cX3_resume 27 = .ok (.iload_n 1, 1) := by decide +kernel
theorem dX3_resume_28 : decode cX3_resume 28 = .ok (.ishl, 1) := by decide +kernel
theorem dX3_resume_29 : decode cX3_resume 29 = .ok (.iconst (-1), 1) := by decide +kernel
theorem dX3_resume_30 : decode cX3_resume 30 = .ok (.ixor, 1) := by decide +kernel
theorem dX3_resume_31 : decode cX3_resume 31 = .ok (.iand, 1) := by decide +kernel
theorem dX3_resume_32 : decode cX3_resume 32 = .ok (.putfield 18, 3) := by decide +kernel
theorem dX3_resume_35 : decode cX3_resume 35 = .ok (.return_, 1) := by decide +kernel
set_option maxRecDepth 20000 in
theorem ggX3_whyNotMove_X3_mastersIn : GoodIn wsX3_whyNotMove wsX3_mastersIn := goodIn_r _ [7, 8, 9, 10, 11, 12, 13, 14, 15, 16, 17, 18, 19, 20, 21, 22, 23, 24, 25, 26, 27, 28, 29, 30, 31, 32, 33, 34, 35, 36, 37] (by decide +kernel) (by decide +kernel)
set_option maxRecDepth 20000 in
theorem gX3_whyNotMove_X3_mastersIn : GoodIn wsX3_whyNotMove (wsV RX3 96 RX3 yX3_mastersIn wsX3_mastersIn) := goodIn_app (goodIn_of _ (by decide +kernel)) ggX3_whyNotMove_X3_mastersIn
theorem dX3_whyNotMove_0 : decode cX3_whyNotMove 0 = .ok (.aload_n 0, 1) := by decide +kernel
theorem dX3_whyNotMove_1 : decode cX3_whyNotMove 1 = .ok (.aload_n 0, 1) := by decide +kernel
theorem dX3_whyNotMove_2 : decode cX3_whyNotMove 2 = .ok (.getfield 34, 3) := by decide +kernel
theorem dX3_whyNotMove_5 : decode cX3_whyNotMove 5 = .ok (.iload_n 1, 1) := by decide +kernel
theorem dX3_whyNotMove_6 : decode cX3_whyNotMove 6 = .ok (.invokevirtual 96, 3) := by decide +kernel
theorem dX3_whyNotMove_9 : decode cX3_whyNotMove 9 = .ok (.ifCond .eq 5, 3) := by decide +kernel
theorem dX3_whyNotMove_12 : decode cX3_whyNotMove 12 = .ok (.iconst 1, 1) := by decide +kernel
theorem dX3_whyNotMove_13 : decode cX3_whyNotMove 13 = .ok (.ireturn, 1) := by decide +kernel
theorem dX3_whyNotMove_14 : decode cX3_whyNotMove 14 = .ok (.iload_n 2, 1) := by decide +kernel
theorem dX3_whyNotMove_15 : decode cX3_whyNotMove 15 = .ok (.aload_n 0, 1) := by decide +kernel
theorem dX3_whyNotMove_16 : decode cX3_whyNotMove 16 = .ok (.getfield 9, 3) := by decide +kernel
theorem dX3_whyNotMove_19 : decode cX3_whyNotMove 19 = .ok (.if_icmp .gt 7, 3) := by decide +kernel
theorem dX3_whyNotMove_22 : decode cX3_whyNotMove 22 = .ok (.iconst 2, 1) := by decide +kernel
theorem dX3_whyNotMove_23 : decode cX3_whyNotMove 23 = .ok (.goto 4, 3) := by decide +kernel
theorem dX3_whyNotMove_26 : decode cX3_whyNotMove 26 = .ok (.iconst 0, 1) := by decide +kernel
theorem dX3_whyNotMove_27 : decode cX3_whyNotMove 27 = .ok (.ireturn, 1) := by decide +kernel
set_option maxRecDepth 20000 in
theorem ggX3_pass_X3_minutesLeft : GoodIn wsX3_pass wsX3_minutesLeft := goodIn_r _ [13, 5, 68, 69, 70, 71, 72, 73, 74, 75, 76, 77] (by decide +kernel) (by decide +kernel)
set_option maxRecDepth 20000 in
theorem gX3_pass_X3_minutesLeft : GoodIn wsX3_pass (wsV RX3 100 RX3 yX3_minutesLeft wsX3_minutesLeft) := goodIn_app (goodIn_of _ (by decide +kernel)) ggX3_pass_X3_minutesLeft
set_option maxRecDepth 20000 in
theorem ggX3_pass_X3_quietFrom : GoodIn wsX3_pass wsX3_quietFrom := goodIn_r _ [17, 18, 19, 20, 1, 2, 3, 4, 21, 22, 23, 24, 25, 26, 27, 28, 29, 30, 31, 32, 12, 33, 34, 35, 36, 6, 7, 8, 37, 38, 39, 40, 41, 42, 43, 44, 45, 46, 47, 48, 49, 50, 51, 52, 53, 54, 55, 56, 57, 58, 59, 68, 69, 70, 71, 72, 73, 74, 75, 76, 77, 78, 79, 80, 81, 82, 83, 84, 85, 86, 87, 88, 89, 90, 91, 92] (by decide +kernel) (by decide +kernel)
set_option maxRecDepth 20000 in
theorem gX3_pass_X3_quietFrom : GoodIn wsX3_pass (wsV RX3 107 RX3 yX3_quietFrom wsX3_quietFrom) := goodIn_app (goodIn_of _ (by decide +kernel)) ggX3_pass_X3_quietFrom
set_option maxRecDepth 20000 in
theorem ggX3_pass_X3_goThrough : GoodIn wsX3_pass wsX3_goThrough := goodIn_r _ [63, 18, 20, 19, 21, 22, 23, 24, 25, 26, 27, 28, 29, 64, 65, 66, 12, 67, 35, 37, 38, 39, 36, 34, 47, 41, 42, 43, 44, 45, 46, 48, 49, 50, 51, 52, 53, 54, 40, 55, 56, 57, 58, 59, 68, 69, 70, 71, 72, 73, 74, 75, 76, 77, 78, 79, 80, 81, 82, 83, 84, 85, 86, 87, 88, 89, 90, 91, 92] (by decide +kernel) (by decide +kernel)
set_option maxRecDepth 20000 in
theorem gX3_pass_X3_goThrough : GoodIn wsX3_pass (wsV RX3 113 RX3 yX3_goThrough wsX3_goThrough) := goodIn_app (goodIn_of _ (by decide +kernel)) ggX3_pass_X3_goThrough
theorem dX3_pass_0 : decode cX3_pass 0 = .ok (.iload_n 1, 1) := by decide +kernel
theorem dX3_pass_1 : decode cX3_pass 1 = .ok (.aload_n 0, 1) := by decide +kernel
theorem dX3_pass_2 : decode cX3_pass 2 = .ok (.invokevirtual 100, 3) := by decide +kernel
theorem dX3_pass_5 : decode cX3_pass 5 = .ok (.invokestatic 104, 3) := by decide +kernel
theorem dX3_pass_8 : decode cX3_pass 8 = .ok (.istore_n 2, 1) := by decide +kernel
theorem dX3_pass_9 : decode cX3_pass 9 = .ok (.aload_n 0, 1) := by decide +kernel
theorem dX3_pass_10 : decode cX3_pass 10 = .ok (.getfield 9, 3) := by decide +kernel
theorem dX3_pass_13 : decode cX3_pass 13 = .ok (.iload_n 2, 1) := by decide +kernel
theorem dX3_pass_14 : decode cX3_pass 14 = .ok (.iadd, 1) := by decide +kernel
theorem dX3_pass_15 : decode cX3_pass 15 = .ok (.istore_n 3, 1) := by decide +kernel
theorem dX3_pass_16 : decode cX3_pass 16 = .ok (.aload_n 0, 1) := by decide +kernel
theorem dX3_pass_17 : decode cX3_pass 17 = .ok (.getfield 9, 3) := by decide +kernel
theorem dX3_pass_20 : decode cX3_pass 20 = .ok (.istore 4, 2) := by decide +kernel
theorem dX3_pass_22 : decode cX3_pass 22 = .ok (.iload 4, 2) := by decide +kernel
theorem dX3_pass_24 : decode cX3_pass 24 = .ok (.iload_n 3, 1) := by decide +kernel
theorem dX3_pass_25 : decode cX3_pass 25 = .ok (.if_icmp .ge 36, 3) := by decide +kernel
theorem dX3_pass_28 : decode cX3_pass 28 = .ok (.iload 4, 2) := by decide +kernel
theorem dX3_pass_30 : decode cX3_pass 30 = .ok (.iconst 0, 1) := by decide +kernel
theorem dX3_pass_31 : decode cX3_pass 31 = .ok (.aload_n 0, 1) := by decide +kernel
theorem dX3_pass_32 : decode cX3_pass 32 = .ok (.iload 4, 2) := by decide +kernel
theorem dX3_pass_34 : decode cX3_pass 34 = .ok (.invokevirtual 107, 3) := by decide +kernel
theorem dX3_pass_37 : decode cX3_pass 37 = .ok (.invokestatic 110, 3) := by decide +kernel
theorem dX3_pass_40 : decode cX3_pass 40 = .ok (.iadd, 1) := by decide +kernel
theorem dX3_pass_41 : decode cX3_pass 41 = .ok (.istore 4, 2) := by decide +kernel
theorem dX3_pass_43 : decode cX3_pass 43 = .ok (.iload 4, 2) := by decide +kernel
theorem dX3_pass_45 : decode cX3_pass 45 = .ok (.iload_n 3, 1) := by decide +kernel
theorem dX3_pass_46 : decode cX3_pass 46 = .ok (.if_icmp .ge 9, 3) := by decide +kernel
theorem dX3_pass_49 : decode cX3_pass 49 = .ok (.aload_n 0, 1) := by decide +kernel
theorem dX3_pass_50 : decode cX3_pass 50 = .ok (.iload 4, 2) := by decide +kernel
theorem dX3_pass_52 : decode cX3_pass 52 = .ok (.invokevirtual 113, 3) := by decide +kernel
theorem dX3_pass_55 : decode cX3_pass 55 = .ok (.iinc 4 1, 3) := by decide +kernel
theorem dX3_pass_58 : decode cX3_pass 58 = .ok (.goto (-36), 3) := by decide +kernel
theorem dX3_pass_61 : decode cX3_pass 61 = .ok (.aload_n 0, 1) := by decide +kernel
theorem dX3_pass_62 : decode cX3_pass 62 = .ok (.iload_n 3, 1) := by decide +kernel
theorem dX3_pass_63 : decode cX3_pass 63 = .ok (.putfield 9, 3) := by decide +kernel
theorem dX3_pass_66 : decode cX3_pass 66 = .ok (.iload_n 2, 1) := by decide +kernel
theorem dX3_pass_67 : decode cX3_pass 67 = .ok (.ireturn, 1) := by decide +kernel
set_option maxRecDepth 20000 in
theorem ggX3_quietFrom_X1_isToCome : GoodIn wsX3_quietFrom wsX1_isToCome := goodIn_r _ [12, 13, 14, 15, 16, 61, 62, 63, 64, 65, 66, 67, 68, 69, 70, 71, 72, 73, 74, 75] (by decide +kernel) (by decide +kernel)
set_option maxRecDepth 20000 in
theorem gX3_quietFrom_X1_isToCome : GoodIn wsX3_quietFrom (wsV RX3 123 RX1 yX1_isToCome wsX1_isToCome) := goodIn_app (goodIn_of _ (by decide +kernel)) ggX3_quietFrom_X1_isToCome
set_option maxRecDepth 20000 in
theorem ggX3_quietFrom_X3_quietOf : GoodIn wsX3_quietFrom wsX3_quietOf := goodIn_r _ [21, 22, 23, 1, 24, 25, 26, 6, 27, 28, 29, 30, 31, 4, 5, 7, 32, 15, 33, 34, 35, 36, 20, 37, 38, 39, 40, 41, 42, 43, 44, 45, 46, 47, 48, 49, 50, 51, 52, 53, 54, 55, 56, 57, 58, 59, 60, 61, 62, 63, 64, 65, 66, 67, 68, 69, 70, 71, 72, 73, 74, 75] (by decide +kernel) (by decide +kernel)
set_option maxRecDepth 20000 in
theorem gX3_quietFrom_X3_quietOf : GoodIn wsX3_quietFrom (wsV RX3 127 RX3 yX3_quietOf wsX3_quietOf) := goodIn_app (goodIn_of _ (by decide +kernel)) ggX3_quietFrom_X3_quietOf
theorem dX3_quietFrom_0 : decode cX3_quietFrom 0 = .ok (.sipush 2000, 3) := by decide +kernel
theorem dX3_quietFrom_3 : decode cX3_quietFrom 3 = .ok (.istore_n 2, 1) := by decide +kernel
theorem dX3_quietFrom_4 : decode cX3_quietFrom 4 = .ok (.iconst 0, 1) := by decide +kernel
theorem dX3_quietFrom_5 : decode cX3_quietFrom 5 = .ok (.istore_n 3, 1) := by decide +kernel
theorem dX3_quietFrom_6 : decode cX3_quietFrom 6 = .ok (.iload_n 3, 1) := by decide +kernel
theorem dX3_quietFrom_7 : decode cX3_quietFrom 7 = .ok (.aload_n 0, 1) := by decide +kernel
theorem dX3_quietFrom_8 : decode cX3_quietFrom 8 = .ok (.getfield 40, 3) := by decide +kernel
theorem dX3_quietFrom_11 : decode cX3_quietFrom 11 = .ok (.getfield 117, 3) := by decide +kernel
theorem dX3_quietFrom_14 : decode cX3_quietFrom 14 = .ok (.if_icmp .ge 56, 3) := by decide +kernel
theorem dX3_quietFrom_17 : decode cX3_quietFrom 17 = .ok (.iconst 0, 1) := by decide +kernel
theorem dX3_quietFrom_18 : decode cX3_quietFrom 18 = .ok (.istore 4, 2) := by decide +kernel
theorem dX3_quietFrom_20 : decode cX3_quietFrom 20 = .ok (.iload 4, 2) := by decide +kernel
theorem dX3_quietFrom_22 : decode cX3_quietFrom 22 = .ok (.aload_n 0, 1) := by decide +kernel
theorem dX3_quietFrom_23 : decode cX3_quietFrom 23 = .ok (.getfield 40, 3) := by decide +kernel
theorem dX3_quietFrom_26 : decode cX3_quietFrom 26 = .ok (.getfield 120, 3) := by decide +kernel
theorem dX3_quietFrom_29 : decode cX3_quietFrom 29 = .ok (.if_icmp .ge 35, 3) := by decide +kernel
theorem dX3_quietFrom_32 : decode cX3_quietFrom 32 = .ok (.aload_n 0, 1) := by decide +kernel
theorem dX3_quietFrom_33 : decode cX3_quietFrom 33 = .ok (.getfield 40, 3) := by decide +kernel
theorem dX3_quietFrom_36 : decode cX3_quietFrom 36 = .ok (.iload_n 3, 1) := by decide +kernel
theorem dX3_quietFrom_37 : decode cX3_quietFrom 37 = .ok (.iload 4, 2) := by decide +kernel
theorem dX3_quietFrom_39 : decode cX3_quietFrom 39 = .ok (.invokevirtual 123, 3) := by decide +kernel
theorem dX3_quietFrom_42 : decode cX3_quietFrom 42 = .ok (.ifCond .eq 16, 3) := by decide +kernel
theorem dX3_quietFrom_45 : decode cX3_quietFrom 45 = .ok (.iload_n 2, 1) := by decide +kernel
theorem dX3_quietFrom_46 : decode cX3_quietFrom 46 = .ok (.aload_n 0, 1) := by decide +kernel
theorem dX3_quietFrom_47 : decode cX3_quietFrom 47 = .ok (.iload_n 3, 1) := by decide +kernel
theorem dX3_quietFrom_48 : decode cX3_quietFrom 48 = .ok (.iload 4, 2) := by decide +kernel
theorem dX3_quietFrom_50 : decode cX3_quietFrom 50 = .ok (.iload_n 1, 1) := by decide +kernel
theorem dX3_quietFrom_51 : decode cX3_quietFrom 51 = .ok (.invokevirtual 127, 3) := by decide +kernel
theorem dX3_quietFrom_54 : decode cX3_quietFrom 54 = .ok (.invokestatic 104, 3) := by decide +kernel
theorem dX3_quietFrom_57 : decode cX3_quietFrom 57 = .ok (.istore_n 2, 1) := by decide +kernel
theorem dX3_quietFrom_58 : decode cX3_quietFrom 58 = .ok (.iinc 4 1, 3) := by decide +kernel
theorem dX3_quietFrom_61 : decode cX3_quietFrom 61 = .ok (.goto (-41), 3) := by decide +kernel
theorem dX3_quietFrom_64 : decode cX3_quietFrom 64 = .ok (.iinc 3 1, 3) := by decide +kernel
theorem dX3_quietFrom_67 : decode cX3_quietFrom 67 = .ok (.goto (-61), 3) := by decide +kernel
theorem dX3_quietFrom_70 : decode cX3_quietFrom 70 = .ok (.iload_n 2, 1) := by decide +kernel
theorem dX3_quietFrom_71 : decode cX3_quietFrom 71 = .ok (.ireturn, 1) := by decide +kernel
set_option maxRecDepth 20000 in
theorem ggX3_quietOf_X11_slot : GoodIn wsX3_quietOf wsX11_slot := goodIn_r _ [18] (by decide +kernel) (by decide +kernel)
set_option maxRecDepth 20000 in
theorem gX3_quietOf_X11_slot_n131 : GoodIn wsX3_quietOf (wsX11_slot) := ggX3_quietOf_X11_slot
set_option maxRecDepth 20000 in
theorem ggX3_quietOf_X3_isOut : GoodIn wsX3_quietOf wsX3_isOut := goodIn_r _ [23, 24, 37, 38, 39, 40, 41, 42, 43, 44, 45, 46] (by decide +kernel) (by decide +kernel)
set_option maxRecDepth 20000 in
theorem gX3_quietOf_X3_isOut : GoodIn wsX3_quietOf (wsV RX3 90 RX3 yX3_isOut wsX3_isOut) := goodIn_app (goodIn_of _ (by decide +kernel)) ggX3_quietOf_X3_isOut
set_option maxRecDepth 20000 in
theorem ggX3_quietOf_X3_reads : GoodIn wsX3_quietOf wsX3_reads := goodIn_r _ [28, 29, 30, 3, 31, 12, 32, 33, 34, 22, 35, 36, 37, 38, 39, 40, 41, 42, 43, 44, 45, 46, 47, 48, 49, 50, 51, 52, 53, 54, 55, 56, 57, 58, 59, 60, 61] (by decide +kernel) (by decide +kernel)
set_option maxRecDepth 20000 in
theorem gX3_quietOf_X3_reads : GoodIn wsX3_quietOf (wsV RX3 71 RX3 yX3_reads wsX3_reads) := goodIn_app (goodIn_of _ (by decide +kernel)) ggX3_quietOf_X3_reads
set_option maxRecDepth 20000 in
theorem ggX3_quietOf_X3_isStopped : GoodIn wsX3_quietOf wsX3_isStopped := goodIn_r _ [35, 36, 37, 38, 39, 40, 41, 42, 43, 44, 45, 46] (by decide +kernel) (by decide +kernel)
set_option maxRecDepth 20000 in
theorem gX3_quietOf_X3_isStopped : GoodIn wsX3_quietOf (wsV RX3 64 RX3 yX3_isStopped wsX3_isStopped) := goodIn_app (goodIn_of _ (by decide +kernel)) ggX3_quietOf_X3_isStopped
theorem dX3_quietOf_0 : decode cX3_quietOf 0 = .ok (.iload_n 1, 1) := by decide +kernel
theorem dX3_quietOf_1 : decode cX3_quietOf 1 = .ok (.iload_n 2, 1) := by decide +kernel
theorem dX3_quietOf_2 : decode cX3_quietOf 2 = .ok (.invokestatic 131, 3) := by decide +kernel
theorem dX3_quietOf_5 : decode cX3_quietOf 5 = .ok (.istore 4, 2) := by decide +kernel
theorem dX3_quietOf_7 : decode cX3_quietOf 7 = .ok (.aload_n 0, 1) := by decide +kernel
theorem dX3_quietOf_8 : decode cX3_quietOf 8 = .ok (.getfield 37, 3) := by decide +kernel
theorem dX3_quietOf_11 : decode cX3_quietOf 11 = .ok (.iload 4, 2) := by decide +kernel
theorem dX3_quietOf_13 : decode cX3_quietOf 13 = .ok (.iaload, 1) := by decide +kernel
theorem dX3_quietOf_14 : decode cX3_quietOf 14 = .ok (.iconst (-1), 1) := by decide +kernel
theorem dX3_quietOf_15 : decode cX3_quietOf 15 = .ok (.if_icmp .eq 7, 3) := by decide +kernel
theorem dX3_quietOf_18 : decode cX3_quietOf 18 = .ok (.sipush 2000, 3) := by decide +kernel
theorem dX3_quietOf_21 : decode cX3_quietOf 21 = .ok (.ireturn, 1) := by decide +kernel
theorem dX3_quietOf_22 : decode cX3_quietOf 22 = .ok (.aload_n 0, 1) := by decide +kernel
theorem dX3_quietOf_23 : decode cX3_quietOf 23 = .ok (.getfield 34, 3) := by decide +kernel
theorem dX3_quietOf_26 : decode cX3_quietOf 26 = .ok (.iload 4, 2) := by decide +kernel
theorem dX3_quietOf_28 : decode cX3_quietOf 28 = .ok (.iaload, 1) := by decide +kernel
theorem dX3_quietOf_29 : decode cX3_quietOf 29 = .ok (.iconst (-1), 1) := by decide +kernel
theorem dX3_quietOf_30 : decode cX3_quietOf 30 = .ok (.if_icmp .eq 27, 3) := by decide +kernel
theorem dX3_quietOf_33 : decode cX3_quietOf 33 = .ok (.iconst 0, 1) := by decide +kernel
theorem dX3_quietOf_34 : decode cX3_quietOf 34 = .ok (.aload_n 0, 1) := by decide +kernel
theorem dX3_quietOf_35 : decode cX3_quietOf 35 = .ok (.getfield 34, 3) := by decide +kernel
theorem dX3_quietOf_38 : decode cX3_quietOf 38 = .ok (.iload 4, 2) := by decide +kernel
theorem dX3_quietOf_40 : decode cX3_quietOf 40 = .ok (.iaload, 1) := by decide +kernel
theorem dX3_quietOf_41 : decode cX3_quietOf 41 = .ok (.aload_n 0, 1) := by decide +kernel
theorem dX3_quietOf_42 : decode cX3_quietOf 42 = .ok (.getfield 40, 3) := by decide +kernel
theorem dX3_quietOf_45 : decode cX3_quietOf 45 = .ok (.getfield 134, 3) := by decide +kernel
theorem dX3_quietOf_48 : decode cX3_quietOf 48 = .ok (.iload_n 1, 1) := by decide +kernel
theorem dX3_quietOf_49 : decode cX3_quietOf 49 = .ok (.iaload, 1) := by decide +kernel
theorem dX3_quietOf_50 : decode cX3_quietOf 50 = .ok (.iadd, 1) := by decide +kernel
theorem dX3_quietOf_51 : decode cX3_quietOf 51 = .ok (.iload_n 3, 1) := by decide +kernel
theorem dX3_quietOf_52 : decode cX3_quietOf 52 = .ok (.isub, 1) := by decide +kernel
theorem dX3_quietOf_53 : decode cX3_quietOf 53 = .ok (.invokestatic 110, 3) := by decide +kernel
theorem dX3_quietOf_56 : decode cX3_quietOf 56 = .ok (.ireturn, 1) := by decide +kernel
theorem dX3_quietOf_57 : decode cX3_quietOf 57 = .ok (.aload_n 0, 1) := by decide +kernel
theorem dX3_quietOf_58 : decode cX3_quietOf 58 = .ok (.iload_n 1, 1) := by decide +kernel
theorem dX3_quietOf_59 : decode cX3_quietOf 59 = .ok (.invokevirtual 90, 3) := by decide +kernel
theorem dX3_quietOf_62 : decode cX3_quietOf 62 = .ok (.ifCond .eq 7, 3) := by decide +kernel
theorem dX3_quietOf_65 : decode cX3_quietOf 65 = .ok (.sipush 2000, 3) := by decide +kernel
theorem dX3_quietOf_68 : decode cX3_quietOf 68 = .ok (.ireturn, 1) := by decide +kernel
theorem dX3_quietOf_69 : decode cX3_quietOf 69 = .ok (.aload_n 0, 1) := by decide +kernel
theorem dX3_quietOf_70 : decode cX3_quietOf 70 = .ok (.getfield 40, 3) := by decide +kernel
theorem dX3_quietOf_73 : decode cX3_quietOf 73 = .ok (.getfield 137, 3) := by decide +kernel
theorem dX3_quietOf_76 : decode cX3_quietOf 76 = .ok (.iload_n 1, 1) := by decide +kernel
theorem dX3_quietOf_77 : decode cX3_quietOf 77 = .ok (.iaload, 1) := by decide +kernel
theorem dX3_quietOf_78 : decode cX3_quietOf 78 = .ok (.istore 5, 2) := by decide +kernel
theorem dX3_quietOf_80 : decode cX3_quietOf 80 = .ok (.aload_n 0, 1) := by decide +kernel
theorem dX3_quietOf_81 : decode cX3_quietOf 81 = .ok (.getfield 31, 3) := by decide +kernel
theorem dX3_quietOf_84 : decode cX3_quietOf 84 = .ok (.iload_n 2, 1) := by decide +kernel
theorem dX3_quietOf_85 : decode cX3_quietOf 85 = .ok (.iaload, 1) := by decide +kernel
theorem dX3_quietOf_86 : decode cX3_quietOf 86 = .ok (.aload_n 0, 1) := by decide +kernel
theorem dX3_quietOf_87 : decode cX3_quietOf 87 = .ok (.getfield 40, 3) := by decide +kernel
theorem dX3_quietOf_90 : decode cX3_quietOf 90 = .ok (.getfield 93, 3) := by decide +kernel
theorem dX3_quietOf_93 : decode cX3_quietOf 93 = .ok (.iload_n 1, 1) := by decide +kernel
theorem dX3_quietOf_94 : decode cX3_quietOf 94 = .ok (.iaload, 1) := by decide +kernel
theorem dX3_quietOf_95 : decode cX3_quietOf 95 = .ok (.iadd, 1) := by decide +kernel
theorem dX3_quietOf_96 : decode cX3_quietOf 96 = .ok (.aload_n 0, 1) := by decide +kernel
theorem dX3_quietOf_97 : decode cX3_quietOf 97 = .ok (.iload 5, 2) := by decide +kernel
theorem dX3_quietOf_99 : decode cX3_quietOf 99 = .ok (.iload_n 3, 1) := by decide +kernel
theorem dX3_quietOf_100 : decode cX3_quietOf 100 = .ok (.invokevirtual 71, 3) := by decide +kernel
theorem dX3_quietOf_103 : decode cX3_quietOf 103 = .ok (.isub, 1) := by decide +kernel
theorem dX3_quietOf_104 : decode cX3_quietOf 104 = .ok (.istore 6, 2) := by decide +kernel
theorem dX3_quietOf_106 : decode cX3_quietOf 106 = .ok (.iload 6, 2) := by decide +kernel
theorem dX3_quietOf_108 : decode cX3_quietOf 108 = .ok (.ifCond .gt 5, 3) := by decide +kernel
theorem dX3_quietOf_111 : decode cX3_quietOf 111 = .ok (.iconst 0, 1) := by decide +kernel
theorem dX3_quietOf_112 : decode cX3_quietOf 112 = .ok (.ireturn, 1) := by decide +kernel
theorem dX3_quietOf_113 : decode cX3_quietOf 113 = .ok (.aload_n 0, 1) := by decide +kernel
theorem dX3_quietOf_114 : decode cX3_quietOf 114 = .ok (.iload 5, 2) := by decide +kernel
theorem dX3_quietOf_116 : decode cX3_quietOf 116 = .ok (.invokevirtual 64, 3) := by decide +kernel
theorem dX3_quietOf_119 : decode cX3_quietOf 119 = .ok (.ifCond .eq 9, 3) := by decide +kernel
theorem dX3_quietOf_122 : decode cX3_quietOf 122 = .ok (.sipush 2000, 3) := by decide +kernel
theorem dX3_quietOf_125 : decode cX3_quietOf 125 = .ok (.goto 23, 3) := by decide +kernel
theorem dX3_quietOf_128 : decode cX3_quietOf 128 = .ok (.iload 6, 2) := by decide +kernel
theorem dX3_quietOf_130 : decode cX3_quietOf 130 = .ok (.bipush 60, 2) := by decide +kernel
theorem dX3_quietOf_132 : decode cX3_quietOf 132 = .ok (.iload_n 3, 1) := by decide +kernel
theorem dX3_quietOf_133 : decode cX3_quietOf 133 = .ok (.aload_n 0, 1) := by decide +kernel
theorem dX3_quietOf_134 : decode cX3_quietOf 134 = .ok (.getfield 25, 3) := by decide +kernel
theorem dX3_quietOf_137 : decode cX3_quietOf 137 = .ok (.iload 5, 2) := by decide +kernel
theorem dX3_quietOf_139 : decode cX3_quietOf 139 = .ok (.iaload, 1) := by decide +kernel
theorem dX3_quietOf_140 : decode cX3_quietOf 140 = .ok (.isub, 1) := by decide +kernel
theorem dX3_quietOf_141 : decode cX3_quietOf 141 = .ok (.bipush 60, 2) := by decide +kernel
theorem dX3_quietOf_143 : decode cX3_quietOf 143 = .ok (.irem, 1) := by decide +kernel
theorem dX3_quietOf_144 : decode cX3_quietOf 144 = .ok (.isub, 1) := by decide +kernel
theorem dX3_quietOf_145 : decode cX3_quietOf 145 = .ok (.invokestatic 104, 3) := by decide +kernel
theorem dX3_quietOf_148 : decode cX3_quietOf 148 = .ok (.ireturn, 1) := by decide +kernel
set_option maxRecDepth 20000 in
theorem ggX3_goThrough_X1_isToCome : GoodIn wsX3_goThrough wsX1_isToCome := goodIn_r _ [8, 9, 10, 11, 12, 54, 55, 56, 57, 58, 59, 60, 61, 62, 63, 64, 65, 66, 67, 68] (by decide +kernel) (by decide +kernel)
set_option maxRecDepth 20000 in
theorem gX3_goThrough_X1_isToCome : GoodIn wsX3_goThrough (wsV RX3 123 RX1 yX1_isToCome wsX1_isToCome) := goodIn_app (goodIn_of _ (by decide +kernel)) ggX3_goThrough_X1_isToCome
set_option maxRecDepth 20000 in
theorem ggX3_goThrough_X3_go : GoodIn wsX3_goThrough wsX3_go := goodIn_r _ [17, 18, 1, 19, 20, 21, 22, 23, 24, 25, 11, 26, 27, 28, 29, 16, 30, 31, 32, 33, 34, 35, 36, 37, 38, 39, 40, 41, 42, 43, 44, 45, 46, 47, 48, 49, 50, 51, 52, 53, 54, 55, 56, 57, 58, 59, 60, 61, 62, 63, 64, 65, 66, 67, 68] (by decide +kernel) (by decide +kernel)
set_option maxRecDepth 20000 in
theorem gX3_goThrough_X3_go : GoodIn wsX3_goThrough (wsV RX3 140 RX3 yX3_go wsX3_go) := goodIn_app (goodIn_of _ (by decide +kernel)) ggX3_goThrough_X3_go
theorem dX3_goThrough_0 : decode cX3_goThrough 0 = .ok (.iconst 0, 1) := by decide +kernel
theorem dX3_goThrough_1 : decode cX3_goThrough 1 = .ok (.istore_n 2, 1) := by decide +kernel
theorem dX3_goThrough_2 : decode cX3_goThrough 2 = .ok (.iload_n 2, 1) := by decide +kernel
theorem dX3_goThrough_3 : decode cX3_goThrough 3 = .ok (.aload_n 0, 1) := by decide +kernel
theorem dX3_goThrough_4 : decode cX3_goThrough 4 = .ok (.getfield 40, 3) := by decide +kernel
theorem dX3_goThrough_7 : decode cX3_goThrough 7 = .ok (.getfield 120, 3) := by decide +kernel
theorem dX3_goThrough_10 : decode cX3_goThrough 10 = .ok (.if_icmp .ge 47, 3) := by decide +kernel
theorem dX3_goThrough_13 : decode cX3_goThrough 13 = .ok (.iconst 0, 1) := by decide +kernel
theorem dX3_goThrough_14 : decode cX3_goThrough 14 = .ok (.istore_n 3, 1) := by decide +kernel
theorem dX3_goThrough_15 : decode cX3_goThrough 15 = .ok (.iload_n 3, 1) := by decide +kernel
theorem dX3_goThrough_16 : decode cX3_goThrough 16 = .ok (.aload_n 0, 1) := by decide +kernel
theorem dX3_goThrough_17 : decode cX3_goThrough 17 = .ok (.getfield 40, 3) := by decide +kernel
theorem dX3_goThrough_20 : decode cX3_goThrough 20 = .ok (.getfield 117, 3) := by decide +kernel
theorem dX3_goThrough_23 : decode cX3_goThrough 23 = .ok (.if_icmp .ge 28, 3) := by decide +kernel
theorem dX3_goThrough_26 : decode cX3_goThrough 26 = .ok (.aload_n 0, 1) := by decide +kernel
theorem dX3_goThrough_27 : decode cX3_goThrough 27 = .ok (.getfield 40, 3) := by decide +kernel
theorem dX3_goThrough_30 : decode cX3_goThrough 30 = .ok (.iload_n 3, 1) := by decide +kernel
theorem dX3_goThrough_31 : decode cX3_goThrough 31 = .ok (.iload_n 2, 1) := by decide +kernel
theorem dX3_goThrough_32 : decode cX3_goThrough 32 = .ok (.invokevirtual 123, 3) := by decide +kernel
theorem dX3_goThrough_35 : decode cX3_goThrough 35 = .ok (.ifCond .eq 10, 3) := by decide +kernel
theorem dX3_goThrough_38 : decode cX3_goThrough 38 = .ok (.aload_n 0, 1) := by decide +kernel
theorem dX3_goThrough_39 : decode cX3_goThrough 39 = .ok (.iload_n 3, 1) := by decide +kernel
theorem dX3_goThrough_40 : decode cX3_goThrough 40 = .ok (.iload_n 2, 1) := by decide +kernel
theorem dX3_goThrough_41 : decode cX3_goThrough 41 = .ok (.iload_n 1, 1) := by decide +kernel
theorem dX3_goThrough_42 : decode cX3_goThrough 42 = .ok (.invokevirtual 140, 3) := by decide +kernel
theorem dX3_goThrough_45 : decode cX3_goThrough 45 = .ok (.iinc 3 1, 3) := by decide +kernel
theorem dX3_goThrough_48 : decode cX3_goThrough 48 = .ok (.goto (-33), 3) := by decide +kernel
theorem dX3_goThrough_51 : decode cX3_goThrough 51 = .ok (.iinc 2 1, 3) := by decide +kernel
theorem dX3_goThrough_54 : decode cX3_goThrough 54 = .ok (.goto (-52), 3) := by decide +kernel
theorem dX3_goThrough_57 : decode cX3_goThrough 57 = .ok (.return_, 1) := by decide +kernel
set_option maxRecDepth 20000 in
theorem ggX3_go_X11_slot : GoodIn wsX3_go wsX11_slot := goodIn_r _ [11] (by decide +kernel) (by decide +kernel)
set_option maxRecDepth 20000 in
theorem gX3_go_X11_slot_n131 : GoodIn wsX3_go (wsX11_slot) := ggX3_go_X11_slot
set_option maxRecDepth 20000 in
theorem ggX3_go_X3_isOut : GoodIn wsX3_go wsX3_isOut := goodIn_r _ [16, 8, 30, 31, 32, 33, 34, 35, 36, 37, 38, 39] (by decide +kernel) (by decide +kernel)
set_option maxRecDepth 20000 in
theorem gX3_go_X3_isOut : GoodIn wsX3_go (wsV RX3 90 RX3 yX3_isOut wsX3_isOut) := goodIn_app (goodIn_of _ (by decide +kernel)) ggX3_go_X3_isOut
set_option maxRecDepth 20000 in
theorem ggX3_go_X3_reads : GoodIn wsX3_go wsX3_reads := goodIn_r _ [20, 21, 22, 2, 23, 24, 25, 26, 27, 15, 28, 29, 30, 31, 32, 33, 34, 35, 36, 37, 38, 39, 40, 41, 42, 43, 44, 45, 46, 47, 48, 49, 50, 51, 52, 53, 54] (by decide +kernel) (by decide +kernel)
set_option maxRecDepth 20000 in
theorem gX3_go_X3_reads : GoodIn wsX3_go (wsV RX3 71 RX3 yX3_reads wsX3_reads) := goodIn_app (goodIn_of _ (by decide +kernel)) ggX3_go_X3_reads
theorem dX3_go_0 : decode cX3_go 0 = .ok (.iload_n 1, 1) := by decide +kernel
theorem dX3_go_1 : decode cX3_go 1 = .ok (.iload_n 2, 1) := by decide +kernel
theorem dX3_go_2 : decode cX3_go 2 = .ok (.invokestatic 131, 3) := by decide +kernel
theorem dX3_go_5 : decode cX3_go 5 = .ok (.istore 4, 2) := by decide +kernel
theorem dX3_go_7 : decode cX3_go 7 = .ok (.aload_n 0, 1) := by decide +kernel
theorem dX3_go_8 : decode cX3_go 8 = .ok (.iload_n 1, 1) := by decide +kernel
theorem dX3_go_9 : decode cX3_go 9 = .ok (.invokevirtual 90, 3) := by decide +kernel
theorem dX3_go_12 : decode cX3_go 12 = .ok (.ifCond .ne 55, 3) := by decide +kernel
theorem dX3_go_15 : decode cX3_go 15 = .ok (.aload_n 0, 1) := by decide +kernel
theorem dX3_go_16 : decode cX3_go 16 = .ok (.getfield 34, 3) := by decide +kernel
theorem dX3_go_19 : decode cX3_go 19 = .ok (.iload 4, 2) := by decide +kernel
theorem dX3_go_21 : decode cX3_go 21 = .ok (.iaload, 1) := by decide +kernel
theorem dX3_go_22 : decode cX3_go 22 = .ok (.iconst (-1), 1) := by decide +kernel
theorem dX3_go_23 : decode cX3_go 23 = .ok (.if_icmp .ne 44, 3) := by decide +kernel
theorem dX3_go_26 : decode cX3_go 26 = .ok (.aload_n 0, 1) := by decide +kernel
theorem dX3_go_27 : decode cX3_go 27 = .ok (.aload_n 0, 1) := by decide +kernel
theorem dX3_go_28 : decode cX3_go 28 = .ok (.getfield 40, 3) := by decide +kernel
theorem dX3_go_31 : decode cX3_go 31 = .ok (.getfield 137, 3) := by decide +kernel
theorem dX3_go_34 : decode cX3_go 34 = .ok (.iload_n 1, 1) := by decide +kernel
theorem dX3_go_35 : decode cX3_go 35 = .ok (.iaload, 1) := by decide +kernel
theorem dX3_go_36 : decode cX3_go 36 = .ok (.iload_n 3, 1) := by decide +kernel
theorem dX3_go_37 : decode cX3_go 37 = .ok (.invokevirtual 71, 3) := by decide +kernel
theorem dX3_go_40 : decode cX3_go 40 = .ok (.aload_n 0, 1) := by decide +kernel
theorem dX3_go_41 : decode cX3_go 41 = .ok (.getfield 31, 3) := by decide +kernel
theorem dX3_go_44 : decode cX3_go 44 = .ok (.iload_n 2, 1) := by decide +kernel
theorem dX3_go_45 : decode cX3_go 45 = .ok (.iaload, 1) := by decide +kernel
theorem dX3_go_46 : decode cX3_go 46 = .ok (.aload_n 0, 1) := by decide +kernel
theorem dX3_go_47 : decode cX3_go 47 = .ok (.getfield 40, 3) := by decide +kernel
theorem dX3_go_50 : decode cX3_go 50 = .ok (.getfield 93, 3) := by decide +kernel
theorem dX3_go_53 : decode cX3_go 53 = .ok (.iload_n 1, 1) := by decide +kernel
theorem dX3_go_54 : decode cX3_go 54 = .ok (.iaload, 1) := by decide +kernel
theorem dX3_go_55 : decode cX3_go 55 = .ok (.iadd, 1) := by decide +kernel
theorem dX3_go_56 : decode cX3_go 56 = .ok (.if_icmp .lt 11, 3) := by decide +kernel
theorem dX3_go_59 : decode cX3_go 59 = .ok (.aload_n 0, 1) := by decide +kernel
theorem dX3_go_60 : decode cX3_go 60 = .ok (.getfield 34, 3) := by decide +kernel
theorem dX3_go_63 : decode cX3_go 63 = .ok (.iload 4, 2) := by decide +kernel
theorem dX3_go_65 : decode cX3_go 65 = .ok (.iload_n 3, 1) := by decide +kernel
theorem dX3_go_66 : decode cX3_go 66 = .ok (.iastore, 1) := by decide +kernel
theorem dX3_go_67 : decode cX3_go 67 = .ok (.aload_n 0, 1) := by decide +kernel
theorem dX3_go_68 : decode cX3_go 68 = .ok (.getfield 34, 3) := by decide +kernel
theorem dX3_go_71 : decode cX3_go 71 = .ok (.iload 4, 2) := by decide +kernel
theorem dX3_go_73 : decode cX3_go 73 = .ok (.iaload, 1) := by decide +kernel
theorem dX3_go_74 : decode cX3_go 74 = .ok (.iconst (-1), 1) := by decide +kernel
theorem dX3_go_75 : decode cX3_go 75 = .ok (.if_icmp .eq 54, 3) := by decide +kernel
theorem dX3_go_78 : decode cX3_go 78 = .ok (.aload_n 0, 1) := by decide +kernel
theorem dX3_go_79 : decode cX3_go 79 = .ok (.getfield 34, 3) := by decide +kernel
theorem dX3_go_82 : decode cX3_go 82 = .ok (.iload 4, 2) := by decide +kernel
theorem dX3_go_84 : decode cX3_go 84 = .ok (.iaload, 1) := by decide +kernel
theorem dX3_go_85 : decode cX3_go 85 = .ok (.aload_n 0, 1) := by decide +kernel
theorem dX3_go_86 : decode cX3_go 86 = .ok (.getfield 40, 3) := by decide +kernel
theorem dX3_go_89 : decode cX3_go 89 = .ok (.getfield 134, 3) := by decide +kernel
theorem dX3_go_92 : decode cX3_go 92 = .ok (.iload_n 1, 1) := by decide +kernel
theorem dX3_go_93 : decode cX3_go 93 = .ok (.iaload, 1) := by decide +kernel
theorem dX3_go_94 : decode cX3_go 94 = .ok (.iadd, 1) := by decide +kernel
theorem dX3_go_95 : decode cX3_go 95 = .ok (.iload_n 3, 1) := by decide +kernel
theorem dX3_go_96 : decode cX3_go 96 = .ok (.if_icmp .ne 33, 3) := by decide +kernel
theorem dX3_go_99 : decode cX3_go 99 = .ok (.aload_n 0, 1) := by decide +kernel
theorem dX3_go_100 : decode cX3_go 100 = .ok (.getfield 37, 3) := by decide +kernel
theorem dX3_go_103 : decode cX3_go 103 = .ok (.iload 4, 2) := by decide +kernel
theorem dX3_go_105 : decode cX3_go 105 = .ok (.iload_n 3, 1) := by decide +kernel
theorem dX3_go_106 : decode cX3_go 106 = .ok (.iastore, 1) := by decide +kernel
theorem dX3_go_107 : decode cX3_go 107 = .ok (.iload_n 3, 1) := by decide +kernel
theorem dX3_go_108 : decode cX3_go 108 = .ok (.aload_n 0, 1) := by decide +kernel
theorem dX3_go_109 : decode cX3_go 109 = .ok (.getfield 31, 3) := by decide +kernel
theorem dX3_go_112 : decode cX3_go 112 = .ok (.iload_n 2, 1) := by decide +kernel
theorem dX3_go_113 : decode cX3_go 113 = .ok (.iaload, 1) := by decide +kernel
theorem dX3_go_114 : decode cX3_go 114 = .ok (.if_icmp .gt 15, 3) := by decide +kernel
theorem dX3_go_117 : decode cX3_go 117 = .ok (.aload_n 0, 1) := by decide +kernel
theorem dX3_go_118 : decode cX3_go 118 = .ok (.dup, 1) := by decide +kernel
theorem dX3_go_119 : decode cX3_go 119 = .ok (.getfield 15, 3) := by decide +kernel
theorem dX3_go_122 : decode cX3_go 122 = .ok (.iconst 1, 1) := by decide +kernel
theorem dX3_go_123 : decode cX3_go 123 = .ok (.iload_n 1, 1) := by decide +kernel
theorem dX3_go_124 : decode cX3_go 124 = .ok (.ishl, 1) := by decide +kernel
theorem dX3_go_125 : decode cX3_go 125 = .ok (.ior, 1) := by decide +kernel
theorem dX3_go_126 : decode cX3_go 126 = .ok (.putfield 15, 3) := by decide +kernel
theorem dX3_go_129 : decode cX3_go 129 = .ok (.return_, 1) := by decide +kernel
set_option maxRecDepth 20000 in
theorem ggX3_passDrawn_X3_minutesLeft : GoodIn wsX3_passDrawn wsX3_minutesLeft := goodIn_r _ [8, 9, 104, 105, 106, 107, 108, 109, 110, 111, 112, 113] (by decide +kernel) (by decide +kernel)
set_option maxRecDepth 20000 in
theorem gX3_passDrawn_X3_minutesLeft : GoodIn wsX3_passDrawn (wsV RX3 100 RX3 yX3_minutesLeft wsX3_minutesLeft) := goodIn_app (goodIn_of _ (by decide +kernel)) ggX3_passDrawn_X3_minutesLeft
set_option maxRecDepth 20000 in
theorem ggX3_passDrawn_X3_nextSeed : GoodIn wsX3_passDrawn wsX3_nextSeed := goodIn_r _ [12, 13] (by decide +kernel) (by decide +kernel)
set_option maxRecDepth 20000 in
theorem gX3_passDrawn_X3_nextSeed : GoodIn wsX3_passDrawn (va_wsS RX3 144 yX3_nextSeed wsX3_nextSeed) := goodIn_app (goodIn_of _ (by decide +kernel)) ggX3_passDrawn_X3_nextSeed
set_option maxRecDepth 20000 in
theorem ggX3_passDrawn_X3_drawOf : GoodIn wsX3_passDrawn wsX3_drawOf := goodIn_r _ [16] (by decide +kernel) (by decide +kernel)
set_option maxRecDepth 20000 in
theorem gX3_passDrawn_X3_drawOf : GoodIn wsX3_passDrawn (va_wsS RX3 147 yX3_drawOf wsX3_drawOf) := goodIn_app (goodIn_of _ (by decide +kernel)) ggX3_passDrawn_X3_drawOf
set_option maxRecDepth 20000 in
theorem ggX3_passDrawn_X3_toggle : GoodIn wsX3_passDrawn wsX3_toggle := goodIn_r _ [20, 21, 22, 23, 7, 24, 25, 26, 27, 28, 29, 30, 31, 9, 32, 33, 34, 35, 36, 37, 38, 39, 40, 1, 41, 42, 43, 44, 45, 104, 105, 106, 107, 108, 109, 110, 111, 112, 113, 114, 115, 116, 117, 118, 119, 120, 121, 122, 123, 124, 125, 126, 127, 128] (by decide +kernel) (by decide +kernel)
set_option maxRecDepth 20000 in
theorem gX3_passDrawn_X3_toggle : GoodIn wsX3_passDrawn (wsV RX3 150 RX3 yX3_toggle wsX3_toggle) := goodIn_app (goodIn_of _ (by decide +kernel)) ggX3_passDrawn_X3_toggle
set_option maxRecDepth 20000 in
theorem ggX3_passDrawn_X3_whyNotSet : GoodIn wsX3_passDrawn wsX3_whyNotSet := goodIn_r _ [49, 50, 51, 52, 7, 53, 54, 21, 22, 23, 24, 25, 104, 105, 106, 107, 108, 109, 110, 111, 112, 113] (by decide +kernel) (by decide +kernel)
set_option maxRecDepth 20000 in
theorem gX3_passDrawn_X3_whyNotSet : GoodIn wsX3_passDrawn (wsV RX3 153 RX3 yX3_whyNotSet wsX3_whyNotSet) := goodIn_app (goodIn_of _ (by decide +kernel)) ggX3_passDrawn_X3_whyNotSet
set_option maxRecDepth 20000 in
theorem ggX3_passDrawn_X3_adjust : GoodIn wsX3_passDrawn wsX3_adjust := goodIn_r _ [58, 30, 1, 59, 31, 9, 104, 105, 106, 107, 108, 109, 110, 111, 112, 113, 114, 115, 116, 117, 118, 119, 120, 121, 122, 123, 124, 125, 126, 127, 128] (by decide +kernel) (by decide +kernel)
set_option maxRecDepth 20000 in
theorem gX3_passDrawn_X3_adjust : GoodIn wsX3_passDrawn (wsV RX3 156 RX3 yX3_adjust wsX3_adjust) := goodIn_app (goodIn_of _ (by decide +kernel)) ggX3_passDrawn_X3_adjust
set_option maxRecDepth 20000 in
theorem ggX3_passDrawn_X3_pass : GoodIn wsX3_passDrawn wsX3_pass := goodIn_r _ [63, 64, 65, 66, 67, 9, 68, 69, 70, 4, 5, 6, 7, 8, 71, 72, 73, 74, 1, 3, 75, 76, 77, 78, 79, 80, 81, 82, 83, 84, 85, 86, 87, 88, 89, 90, 91, 92, 93, 59, 31, 94, 95, 50, 51, 52, 53, 54, 36, 37, 38, 39, 40, 30, 41, 21, 22, 23, 24, 25, 96, 97, 98, 99, 100, 101, 102, 103, 104, 105, 106, 107, 108, 109, 110, 111, 112, 113, 114, 115, 116, 117, 118, 119, 120, 121, 122, 123, 124, 125, 126, 127, 128] (by decide +kernel) (by decide +kernel)
set_option maxRecDepth 20000 in
theorem gX3_passDrawn_X3_pass : GoodIn wsX3_passDrawn (wsV RX3 160 RX3 yX3_pass wsX3_pass) := goodIn_app (goodIn_of _ (by decide +kernel)) ggX3_passDrawn_X3_pass
theorem dX3_passDrawn_0 : decode cX3_passDrawn 0 = .ok (.iconst 0, 1) := by decide +kernel
theorem dX3_passDrawn_1 : decode cX3_passDrawn 1 = .ok (.istore_n 3, 1) := by decide +kernel
theorem dX3_passDrawn_2 : decode cX3_passDrawn 2 = .ok (.iload_n 2, 1) := by decide +kernel
theorem dX3_passDrawn_3 : decode cX3_passDrawn 3 = .ok (.istore 4, 2) := by decide +kernel
theorem dX3_passDrawn_5 : decode cX3_passDrawn 5 = .ok (.iconst 0, 1) := by decide +kernel
theorem dX3_passDrawn_6 : decode cX3_passDrawn 6 = .ok (.istore 5, 2) := by decide +kernel
theorem dX3_passDrawn_8 : decode cX3_passDrawn 8 = .ok (.iload 5, 2) := by decide +kernel
theorem dX3_passDrawn_10 : decode cX3_passDrawn 10 = .ok (.iload_n 1, 1) := by decide +kernel
theorem dX3_passDrawn_11 : decode cX3_passDrawn 11 = .ok (.if_icmp .ge 168, 3) := by decide +kernel
theorem dX3_passDrawn_14 : decode cX3_passDrawn 14 = .ok (.aload_n 0, 1) := by decide +kernel
theorem dX3_passDrawn_15 : decode cX3_passDrawn 15 = .ok (.invokevirtual 100, 3) := by decide +kernel
theorem dX3_passDrawn_18 : decode cX3_passDrawn 18 = .ok (.ifCond .le 161, 3) := by decide +kernel
theorem dX3_passDrawn_21 : decode cX3_passDrawn 21 = .ok (.iload 4, 2) := by decide +kernel
theorem dX3_passDrawn_23 : decode cX3_passDrawn 23 = .ok (.invokestatic 144, 3) := by decide +kernel
theorem dX3_passDrawn_26 : decode cX3_passDrawn 26 = .ok (.istore 4, 2) := by decide +kernel
theorem dX3_passDrawn_28 : decode cX3_passDrawn 28 = .ok (.iload 4, 2) := by decide +kernel
theorem dX3_passDrawn_30 : decode cX3_passDrawn 30 = .ok (.iconst 4, 1) := by decide +kernel
theorem dX3_passDrawn_31 : decode cX3_passDrawn 31 = .ok (.invokestatic 147, 3) := by decide +kernel
theorem dX3_passDrawn_34 : decode cX3_passDrawn 34 = .ok (.istore 6, 2) := by decide +kernel
theorem dX3_passDrawn_36 : decode cX3_passDrawn 36 = .ok (.iload 6, 2) := by decide +kernel
theorem dX3_passDrawn_38 : decode cX3_passDrawn 38 = .ok (.ifCond .ne 39, 3) := by decide +kernel
theorem dX3_passDrawn_41 : decode cX3_passDrawn 41 = .ok (.aload_n 0, 1) := by decide +kernel
theorem dX3_passDrawn_42 : decode cX3_passDrawn 42 = .ok (.getfield 40, 3) := by decide +kernel
theorem dX3_passDrawn_45 : decode cX3_passDrawn 45 = .ok (.getfield 80, 3) := by decide +kernel
theorem dX3_passDrawn_48 : decode cX3_passDrawn 48 = .ok (.ifCond .le 29, 3) := by decide +kernel
theorem dX3_passDrawn_51 : decode cX3_passDrawn 51 = .ok (.iload 4, 2) := by decide +kernel
theorem dX3_passDrawn_53 : decode cX3_passDrawn 53 = .ok (.invokestatic 144, 3) := by decide +kernel
theorem dX3_passDrawn_56 : decode cX3_passDrawn 56 = .ok (.istore 4, 2) := by decide +kernel
theorem dX3_passDrawn_58 : decode cX3_passDrawn 58 = .ok (.aload_n 0, 1) := by decide +kernel
theorem dX3_passDrawn_59 : decode cX3_passDrawn 59 = .ok (.iload 4, 2) := by decide +kernel
theorem dX3_passDrawn_61 : decode cX3_passDrawn 61 = .ok (.aload_n 0, 1) := by decide +kernel
theorem dX3_passDrawn_62 : decode cX3_passDrawn 62 = .ok (.getfield 40, 3) := by decide +kernel
theorem dX3_passDrawn_65 : decode cX3_passDrawn 65 = .ok (.getfield 80, 3) := by decide +kernel
theorem dX3_passDrawn_68 : decode cX3_passDrawn 68 = .ok (.invokestatic 147, 3) := by decide +kernel
theorem dX3_passDrawn_71 : decode cX3_passDrawn 71 = .ok (.invokevirtual 150, 3) := by decide +kernel
theorem dX3_passDrawn_74 : decode cX3_passDrawn 74 = .ok (.goto 90, 3) := by decide +kernel
theorem dX3_passDrawn_77 : decode cX3_passDrawn 77 = .ok (.iload 6, 2) := by decide +kernel
theorem dX3_passDrawn_79 : decode cX3_passDrawn 79 = .ok (.iconst 1, 1) := by decide +kernel
theorem dX3_passDrawn_80 : decode cX3_passDrawn 80 = .ok (.if_icmp .ne 84, 3) := by decide +kernel
theorem dX3_passDrawn_83 : decode cX3_passDrawn 83 = .ok (.aload_n 0, 1) := by decide +kernel
theorem dX3_passDrawn_84 : decode cX3_passDrawn 84 = .ok (.getfield 40, 3) := by decide +kernel
theorem dX3_passDrawn_87 : decode cX3_passDrawn 87 = .ok (.getfield 80, 3) := by decide +kernel
theorem dX3_passDrawn_90 : decode cX3_passDrawn 90 = .ok (.ifCond .le 74, 3) := by decide +kernel
theorem dX3_passDrawn_93 : decode cX3_passDrawn 93 = .ok (.aload_n 0, 1) := by decide +kernel
theorem dX3_passDrawn_94 : decode cX3_passDrawn 94 = .ok (.getfield 40, 3) := by decide +kernel
theorem dX3_passDrawn_97 : decode cX3_passDrawn 97 = .ok (.getfield 117, 3) := by decide +kernel
theorem dX3_passDrawn_100 : decode cX3_passDrawn 100 = .ok (.ifCond .le 64, 3) := by decide +kernel
theorem dX3_passDrawn_103 : decode cX3_passDrawn 103 = .ok (.iload 4, 2) := by decide +kernel
theorem dX3_passDrawn_105 : decode cX3_passDrawn 105 = .ok (.invokestatic 144, 3) := by decide +kernel
theorem dX3_passDrawn_108 : decode cX3_passDrawn 108 = .ok (.istore 4, 2) := by decide +kernel
theorem dX3_passDrawn_110 : decode cX3_passDrawn 110 = .ok (.iload 4, 2) := by decide +kernel
theorem dX3_passDrawn_112 : decode cX3_passDrawn 112 = .ok (.aload_n 0, 1) := by decide +kernel
theorem dX3_passDrawn_113 : decode cX3_passDrawn 113 = .ok (.getfield 40, 3) := by decide +kernel
theorem dX3_passDrawn_116 : decode cX3_passDrawn 116 = .ok (.getfield 117, 3) := by decide +kernel
theorem dX3_passDrawn_119 : decode cX3_passDrawn 119 = .ok (.invokestatic 147, 3) := by decide +kernel
theorem dX3_passDrawn_122 : decode cX3_passDrawn 122 = .ok (.istore 7, 2) := by decide +kernel
theorem dX3_passDrawn_124 : decode cX3_passDrawn 124 = .ok (.iload 4, 2) := by decide +kernel
theorem dX3_passDrawn_126 : decode cX3_passDrawn 126 = .ok (.invokestatic 144, 3) := by decide +kernel
theorem dX3_passDrawn_129 : decode cX3_passDrawn 129 = .ok (.istore 4, 2) := by decide +kernel
theorem dX3_passDrawn_131 : decode cX3_passDrawn 131 = .ok (.iload 4, 2) := by decide +kernel
theorem dX3_passDrawn_133 : decode cX3_passDrawn 133 = .ok (.aload_n 0, 1) := by decide +kernel
theorem dX3_passDrawn_134 : decode cX3_passDrawn 134 = .ok (.getfield 40, 3) := by decide +kernel
theorem dX3_passDrawn_137 : decode cX3_passDrawn 137 = .ok (.getfield 80, 3) := by decide +kernel
theorem dX3_passDrawn_140 : decode cX3_passDrawn 140 = .ok (.invokestatic 147, 3) := by decide +kernel
theorem dX3_passDrawn_143 : decode cX3_passDrawn 143 = .ok (.istore 8, 2) := by decide +kernel
theorem dX3_passDrawn_145 : decode cX3_passDrawn 145 = .ok (.aload_n 0, 1) := by decide +kernel
theorem dX3_passDrawn_146 : decode cX3_passDrawn 146 = .ok (.iload 7, 2) := by decide +kernel
theorem dX3_passDrawn_148 : decode cX3_passDrawn 148 = .ok (.iload 8, 2) := by decide +kernel
theorem dX3_passDrawn_150 : decode cX3_passDrawn 150 = .ok (.invokevirtual 153, 3) := by decide +kernel
theorem dX3_passDrawn_153 : decode cX3_passDrawn 153 = .ok (.ifCond .ne 11, 3) := by decide +kernel
theorem dX3_passDrawn_156 : decode cX3_passDrawn 156 = .ok (.aload_n 0, 1) := by decide +kernel
theorem dX3_passDrawn_157 : decode cX3_passDrawn 157 = .ok (.iload 7, 2) := by decide +kernel
theorem dX3_passDrawn_159 : decode cX3_passDrawn 159 = .ok (.iload 8, 2) := by decide +kernel
theorem dX3_passDrawn_161 : decode cX3_passDrawn 161 = .ok (.invokevirtual 156, 3) := by decide +kernel
theorem dX3_passDrawn_164 : decode cX3_passDrawn 164 = .ok (.iload_n 3, 1) := by decide +kernel
theorem dX3_passDrawn_165 : decode cX3_passDrawn 165 = .ok (.aload_n 0, 1) := by decide +kernel
theorem dX3_passDrawn_166 : decode cX3_passDrawn 166 = .ok (.bipush 60, 2) := by decide +kernel
theorem dX3_passDrawn_168 : decode cX3_passDrawn 168 = .ok (.invokevirtual 160, 3) := by decide +kernel
theorem dX3_passDrawn_171 : decode cX3_passDrawn 171 = .ok (.iadd, 1) := by decide +kernel
theorem dX3_passDrawn_172 : decode cX3_passDrawn 172 = .ok (.istore_n 3, 1) := by decide +kernel
theorem dX3_passDrawn_173 : decode cX3_passDrawn 173 = .ok (.iinc 5 1, 3) := by decide +kernel
theorem dX3_passDrawn_176 : decode cX3_passDrawn 176 = .ok (.goto (-168), 3) := by decide +kernel
theorem dX3_passDrawn_179 : decode cX3_passDrawn 179 = .ok (.iload_n 3, 1) := by decide +kernel
theorem dX3_passDrawn_180 : decode cX3_passDrawn 180 = .ok (.ireturn, 1) := by decide +kernel
set_option maxRecDepth 20000 in
theorem ggX3_toggle_X3_isStopped : GoodIn wsX3_toggle wsX3_isStopped := goodIn_r _ [5, 6, 29, 30, 31, 32, 33, 34, 35, 36, 37, 38] (by decide +kernel) (by decide +kernel)
set_option maxRecDepth 20000 in
theorem gX3_toggle_X3_isStopped : GoodIn wsX3_toggle (wsV RX3 64 RX3 yX3_isStopped wsX3_isStopped) := goodIn_app (goodIn_of _ (by decide +kernel)) ggX3_toggle_X3_isStopped
set_option maxRecDepth 20000 in
theorem ggX3_toggle_X3_resume : GoodIn wsX3_toggle wsX3_resume := goodIn_r _ [10, 11, 12, 13, 6, 14, 15, 16, 4, 17, 18, 19, 20, 21, 22, 23, 24, 1, 2, 3, 5, 29, 30, 31, 32, 33, 34, 35, 36, 37, 38, 39, 40, 41, 42, 43, 44, 45, 46, 47, 48, 49, 50, 51, 52, 53] (by decide +kernel) (by decide +kernel)
set_option maxRecDepth 20000 in
theorem gX3_toggle_X3_resume : GoodIn wsX3_toggle (wsV RX3 163 RX3 yX3_resume wsX3_resume) := goodIn_app (goodIn_of _ (by decide +kernel)) ggX3_toggle_X3_resume
set_option maxRecDepth 20000 in
theorem ggX3_toggle_X3_halt : GoodIn wsX3_toggle wsX3_halt := goodIn_r _ [28, 22, 13, 6, 18, 19, 20, 4, 21, 11, 23, 24, 12, 1, 2, 3, 5, 29, 30, 31, 32, 33, 34, 35, 36, 37, 38, 39, 40, 41, 42, 43, 44, 45, 46, 47, 48, 49, 50, 51, 52, 53] (by decide +kernel) (by decide +kernel)
set_option maxRecDepth 20000 in
theorem gX3_toggle_X3_halt : GoodIn wsX3_toggle (wsV RX3 166 RX3 yX3_halt wsX3_halt) := goodIn_app (goodIn_of _ (by decide +kernel)) ggX3_toggle_X3_halt
theorem dX3_toggle_0 : decode cX3_toggle 0 = .ok (.aload_n 0, 1) := by decide +kernel
theorem dX3_toggle_1 : decode cX3_toggle 1 = .ok (.iload_n 1, 1) := by decide +kernel
theorem dX3_toggle_2 : decode cX3_toggle 2 = .ok (.invokevirtual 64, 3) := by decide +kernel
theorem dX3_toggle_5 : decode cX3_toggle 5 = .ok (.ifCond .eq 11, 3) := by decide +kernel
theorem dX3_toggle_8 : decode cX3_toggle 8 = .ok (.aload_n 0, 1) := by decide +kernel
theorem dX3_toggle_9 : decode cX3_toggle 9 = .ok (.iload_n 1, 1) := by decide +kernel
theorem dX3_toggle_10 : decode cX3_toggle 10 = .ok (.invokevirtual 163, 3) := by decide +kernel
theorem dX3_toggle_13 : decode cX3_toggle 13 = .ok (.goto 8, 3) := by decide +kernel
theorem dX3_toggle_16 : decode cX3_toggle 16 = .ok (.aload_n 0, 1) := by decide +kernel
theorem dX3_toggle_17 : decode cX3_toggle 17 = .ok (.iload_n 1, 1) := by decide +kernel
theorem dX3_toggle_18 : decode cX3_toggle 18 = .ok (.invokevirtual 166, 3) := by decide +kernel
theorem dX3_toggle_21 : decode cX3_toggle 21 = .ok (.return_, 1) := by decide +kernel
theorem dX3_nextSeed_0 : decode cX3_nextSeed 0 = .ok (.iload_n 0, 1) := by decide +kernel
theorem dX3_nextSeed_1 : decode cX3_nextSeed 1 = .ok (.ldc 169, 2) := by decide +kernel
theorem dX3_nextSeed_3 : decode cX3_nextSeed 3 = .ok (.imul, 1) := by decide +kernel
theorem dX3_nextSeed_4 : decode cX3_nextSeed 4 = .ok (.sipush 12345, 3) := by decide +kernel
theorem dX3_nextSeed_7 : decode cX3_nextSeed 7 = .ok (.iadd, 1) := by decide +kernel
theorem dX3_nextSeed_8 : decode cX3_nextSeed 8 = .ok (.ireturn, 1) := by decide +kernel
theorem dX3_drawOf_0 : decode cX3_drawOf 0 = .ok (.iload_n 1, 1) := by decide +kernel
theorem dX3_drawOf_1 : decode cX3_drawOf 1 = .ok (.ifCond .le 12, 3) := by decide +kernel
theorem dX3_drawOf_4 : decode cX3_drawOf 4 = .ok (.iload_n 0, 1) := by decide +kernel
theorem dX3_drawOf_5 : decode cX3_drawOf 5 = .ok (.bipush 8, 2) := by decide +kernel
theorem dX3_drawOf_7 : decode cX3_drawOf 7 = .ok (.iushr, 1) := by decide +kernel
theorem dX3_drawOf_8 : decode cX3_drawOf 8 = .ok (.iload_n 1, 1) := by decide +kernel
theorem dX3_drawOf_9 : decode cX3_drawOf 9 = .ok (.irem, 1) := by decide +kernel
theorem dX3_drawOf_10 : decode cX3_drawOf 10 = .ok (.goto 4, 3) := by decide +kernel
theorem dX3_drawOf_13 : decode cX3_drawOf 13 = .ok (.iconst 0, 1) := by decide +kernel
theorem dX3_drawOf_14 : decode cX3_drawOf 14 = .ok (.ireturn, 1) := by decide +kernel
set_option maxRecDepth 20000 in
theorem ggX3_mastersIn_X11_slot : GoodIn wsX3_mastersIn wsX11_slot := goodIn_r _ [5] (by decide +kernel) (by decide +kernel)
set_option maxRecDepth 20000 in
theorem gX3_mastersIn_X11_slot_n131 : GoodIn wsX3_mastersIn (wsX11_slot) := ggX3_mastersIn_X11_slot
theorem dX3_mastersIn_0 : decode cX3_mastersIn 0 = .ok (.iconst 0, 1) := by decide +kernel
theorem dX3_mastersIn_1 : decode cX3_mastersIn 1 = .ok (.istore_n 3, 1) := by decide +kernel
theorem dX3_mastersIn_2 : decode cX3_mastersIn 2 = .ok (.iconst 0, 1) := by decide +kernel
theorem dX3_mastersIn_3 : decode cX3_mastersIn 3 = .ok (.istore 4, 2) := by decide +kernel
theorem dX3_mastersIn_5 : decode cX3_mastersIn 5 = .ok (.iload 4, 2) := by decide +kernel
theorem dX3_mastersIn_7 : decode cX3_mastersIn 7 = .ok (.aload_n 0, 1) := by decide +kernel
theorem dX3_mastersIn_8 : decode cX3_mastersIn 8 = .ok (.getfield 40, 3) := by decide +kernel
theorem dX3_mastersIn_11 : decode cX3_mastersIn 11 = .ok (.getfield 117, 3) := by decide +kernel
theorem dX3_mastersIn_14 : decode cX3_mastersIn 14 = .ok (.if_icmp .ge 28, 3) := by decide +kernel
theorem dX3_mastersIn_17 : decode cX3_mastersIn 17 = .ok (.aload_n 1, 1) := by decide +kernel
theorem dX3_mastersIn_18 : decode cX3_mastersIn 18 = .ok (.iload 4, 2) := by decide +kernel
theorem dX3_mastersIn_20 : decode cX3_mastersIn 20 = .ok (.iload_n 2, 1) := by decide +kernel
theorem dX3_mastersIn_21 : decode cX3_mastersIn 21 = .ok (.invokestatic 131, 3) := by decide +kernel
theorem dX3_mastersIn_24 : decode cX3_mastersIn 24 = .ok (.iaload, 1) := by decide +kernel
theorem dX3_mastersIn_25 : decode cX3_mastersIn 25 = .ok (.iconst (-1), 1) := by decide +kernel
theorem dX3_mastersIn_26 : decode cX3_mastersIn 26 = .ok (.if_icmp .eq 10, 3) := by decide +kernel
theorem dX3_mastersIn_29 : decode cX3_mastersIn 29 = .ok (.iload_n 3, 1) := by decide +kernel
theorem dX3_mastersIn_30 : decode cX3_mastersIn 30 = .ok (.iconst 1, 1) := by decide +kernel
theorem dX3_mastersIn_31 : decode cX3_mastersIn 31 = .ok (.iload 4, 2) := by decide +kernel
theorem dX3_mastersIn_33 : decode cX3_mastersIn 33 = .ok (.ishl, 1) := by decide +kernel
theorem dX3_mastersIn_34 : decode cX3_mastersIn 34 = .ok (.ior, 1) := by decide +kernel
theorem dX3_mastersIn_35 : decode cX3_mastersIn 35 = .ok (.istore_n 3, 1) := by decide +kernel
theorem dX3_mastersIn_36 : decode cX3_mastersIn 36 = .ok (.iinc 4 1, 3) := by decide +kernel
theorem dX3_mastersIn_39 : decode cX3_mastersIn 39 = .ok (.goto (-34), 3) := by decide +kernel
theorem dX3_mastersIn_42 : decode cX3_mastersIn 42 = .ok (.iload_n 3, 1) := by decide +kernel
theorem dX3_mastersIn_43 : decode cX3_mastersIn 43 = .ok (.ireturn, 1) := by decide +kernel
set_option maxRecDepth 20000 in
theorem ggX3_meetsIn_X11_slot : GoodIn wsX3_meetsIn wsX11_slot := goodIn_r _ [5] (by decide +kernel) (by decide +kernel)
set_option maxRecDepth 20000 in
theorem gX3_meetsIn_X11_slot_n131 : GoodIn wsX3_meetsIn (wsX11_slot) := ggX3_meetsIn_X11_slot
theorem dX3_meetsIn_0 : decode cX3_meetsIn 0 = .ok (.iconst 0, 1) := by decide +kernel
theorem dX3_meetsIn_1 : decode cX3_meetsIn 1 = .ok (.istore_n 3, 1) := by decide +kernel
theorem dX3_meetsIn_2 : decode cX3_meetsIn 2 = .ok (.iconst 0, 1) := by decide +kernel
theorem dX3_meetsIn_3 : decode cX3_meetsIn 3 = .ok (.istore 4, 2) := by decide +kernel
theorem dX3_meetsIn_5 : decode cX3_meetsIn 5 = .ok (.iload 4, 2) := by decide +kernel
theorem dX3_meetsIn_7 : decode cX3_meetsIn 7 = .ok (.aload_n 0, 1) := by decide +kernel
theorem dX3_meetsIn_8 : decode cX3_meetsIn 8 = .ok (.getfield 40, 3) := by decide +kernel
theorem dX3_meetsIn_11 : decode cX3_meetsIn 11 = .ok (.getfield 120, 3) := by decide +kernel
theorem dX3_meetsIn_14 : decode cX3_meetsIn 14 = .ok (.if_icmp .ge 28, 3) := by decide +kernel
theorem dX3_meetsIn_17 : decode cX3_meetsIn 17 = .ok (.aload_n 1, 1) := by decide +kernel
theorem dX3_meetsIn_18 : decode cX3_meetsIn 18 = .ok (.iload_n 2, 1) := by decide +kernel
theorem dX3_meetsIn_19 : decode cX3_meetsIn 19 = .ok (.iload 4, 2) := by decide +kernel
theorem dX3_meetsIn_21 : decode cX3_meetsIn 21 = .ok (.invokestatic 131, 3) := by decide +kernel
theorem dX3_meetsIn_24 : decode cX3_meetsIn 24 = .ok (.iaload, 1) := by decide +kernel
theorem dX3_meetsIn_25 : decode cX3_meetsIn 25 = .ok (.iconst (-1), 1) := by decide +kernel
theorem dX3_meetsIn_26 : decode cX3_meetsIn 26 = .ok (.if_icmp .eq 10, 3) := by decide +kernel
theorem dX3_meetsIn_29 : decode cX3_meetsIn 29 = .ok (.iload_n 3, 1) := by decide +kernel
theorem dX3_meetsIn_30 : decode cX3_meetsIn 30 = .ok (.iconst 1, 1) := by decide +kernel
theorem dX3_meetsIn_31 : decode cX3_meetsIn 31 = .ok (.iload 4, 2) := by decide +kernel
theorem dX3_meetsIn_33 : decode cX3_meetsIn 33 = .ok (.ishl, 1) := by decide +kernel
theorem dX3_meetsIn_34 : decode cX3_meetsIn 34 = .ok (.ior, 1) := by decide +kernel
theorem dX3_meetsIn_35 : decode cX3_meetsIn 35 = .ok (.istore_n 3, 1) := by decide +kernel
theorem dX3_meetsIn_36 : decode cX3_meetsIn 36 = .ok (.iinc 4 1, 3) := by decide +kernel
theorem dX3_meetsIn_39 : decode cX3_meetsIn 39 = .ok (.goto (-34), 3) := by decide +kernel
theorem dX3_meetsIn_42 : decode cX3_meetsIn 42 = .ok (.iload_n 3, 1) := by decide +kernel
theorem dX3_meetsIn_43 : decode cX3_meetsIn 43 = .ok (.ireturn, 1) := by decide +kernel
set_option maxRecDepth 20000 in
theorem ggX3_cameBy_X11_slot : GoodIn wsX3_cameBy wsX11_slot := goodIn_r _ [6] (by decide +kernel) (by decide +kernel)
set_option maxRecDepth 20000 in
theorem gX3_cameBy_X11_slot_n131 : GoodIn wsX3_cameBy (wsX11_slot) := ggX3_cameBy_X11_slot
theorem dX3_cameBy_0 : decode cX3_cameBy 0 = .ok (.iconst 0, 1) := by decide +kernel
theorem dX3_cameBy_1 : decode cX3_cameBy 1 = .ok (.istore_n 3, 1) := by decide +kernel
theorem dX3_cameBy_2 : decode cX3_cameBy 2 = .ok (.iconst 0, 1) := by decide +kernel
theorem dX3_cameBy_3 : decode cX3_cameBy 3 = .ok (.istore 4, 2) := by decide +kernel
theorem dX3_cameBy_5 : decode cX3_cameBy 5 = .ok (.iload 4, 2) := by decide +kernel
theorem dX3_cameBy_7 : decode cX3_cameBy 7 = .ok (.aload_n 0, 1) := by decide +kernel
theorem dX3_cameBy_8 : decode cX3_cameBy 8 = .ok (.getfield 40, 3) := by decide +kernel
theorem dX3_cameBy_11 : decode cX3_cameBy 11 = .ok (.getfield 117, 3) := by decide +kernel
theorem dX3_cameBy_14 : decode cX3_cameBy 14 = .ok (.if_icmp .ge 41, 3) := by decide +kernel
theorem dX3_cameBy_17 : decode cX3_cameBy 17 = .ok (.aload_n 0, 1) := by decide +kernel
theorem dX3_cameBy_18 : decode cX3_cameBy 18 = .ok (.getfield 37, 3) := by decide +kernel
theorem dX3_cameBy_21 : decode cX3_cameBy 21 = .ok (.iload 4, 2) := by decide +kernel
theorem dX3_cameBy_23 : decode cX3_cameBy 23 = .ok (.iload_n 1, 1) := by decide +kernel
theorem dX3_cameBy_24 : decode cX3_cameBy 24 = .ok (.invokestatic 131, 3) := by decide +kernel
theorem dX3_cameBy_27 : decode cX3_cameBy 27 = .ok (.iaload, 1) := by decide +kernel
theorem dX3_cameBy_28 : decode cX3_cameBy 28 = .ok (.istore 5, 2) := by decide +kernel
theorem dX3_cameBy_30 : decode cX3_cameBy 30 = .ok (.iload 5, 2) := by decide +kernel
theorem dX3_cameBy_32 : decode cX3_cameBy 32 = .ok (.iconst (-1), 1) := by decide +kernel
theorem dX3_cameBy_33 : decode cX3_cameBy 33 = .ok (.if_icmp .eq 16, 3) := by decide +kernel
theorem dX3_cameBy_36 : decode cX3_cameBy 36 = .ok (.iload 5, 2) := by decide +kernel
theorem dX3_cameBy_38 : decode cX3_cameBy 38 = .ok (.iload_n 2, 1) := by decide +kernel
theorem dX3_cameBy_39 : decode cX3_cameBy 39 = .ok (.if_icmp .gt 10, 3) := by decide +kernel
theorem dX3_cameBy_42 : decode cX3_cameBy 42 = .ok (.iload_n 3, 1) := by decide +kernel
theorem dX3_cameBy_43 : decode cX3_cameBy 43 = .ok (.iconst 1, 1) := by decide +kernel
theorem dX3_cameBy_44 : decode cX3_cameBy 44 = .ok (.iload 4, 2) := by decide +kernel
theorem dX3_cameBy_46 : decode cX3_cameBy 46 = .ok (.ishl, 1) := by decide +kernel
theorem dX3_cameBy_47 : decode cX3_cameBy 47 = .ok (.ior, 1) := by decide +kernel
theorem dX3_cameBy_48 : decode cX3_cameBy 48 = .ok (.istore_n 3, 1) := by decide +kernel
theorem dX3_cameBy_49 : decode cX3_cameBy 49 = .ok (.iinc 4 1, 3) := by decide +kernel
theorem dX3_cameBy_52 : decode cX3_cameBy 52 = .ok (.goto (-47), 3) := by decide +kernel
theorem dX3_cameBy_55 : decode cX3_cameBy 55 = .ok (.iload_n 3, 1) := by decide +kernel
theorem dX3_cameBy_56 : decode cX3_cameBy 56 = .ok (.ireturn, 1) := by decide +kernel
set_option maxRecDepth 20000 in
theorem ggX3_lastComes_X1_isToCome : GoodIn wsX3_lastComes wsX1_isToCome := goodIn_r _ [12, 13, 14, 15, 16, 29, 30, 31, 32, 33, 34, 35, 36, 37, 38, 39, 40, 41, 42, 43] (by decide +kernel) (by decide +kernel)
set_option maxRecDepth 20000 in
theorem gX3_lastComes_X1_isToCome : GoodIn wsX3_lastComes (wsV RX3 123 RX1 yX1_isToCome wsX1_isToCome) := goodIn_app (goodIn_of _ (by decide +kernel)) ggX3_lastComes_X1_isToCome
set_option maxRecDepth 20000 in
theorem ggX3_lastComes_X11_slot : GoodIn wsX3_lastComes wsX11_slot := goodIn_r _ [18] (by decide +kernel) (by decide +kernel)
set_option maxRecDepth 20000 in
theorem gX3_lastComes_X11_slot_n131 : GoodIn wsX3_lastComes (wsX11_slot) := ggX3_lastComes_X11_slot
theorem dX3_lastComes_0 : decode cX3_lastComes 0 = .ok (.iconst (-1), 1) := by decide +kernel
theorem dX3_lastComes_1 : decode cX3_lastComes 1 = .ok (.istore_n 2, 1) := by decide +kernel
theorem dX3_lastComes_2 : decode cX3_lastComes 2 = .ok (.iconst 0, 1) := by decide +kernel
theorem dX3_lastComes_3 : decode cX3_lastComes 3 = .ok (.istore_n 3, 1) := by decide +kernel
theorem dX3_lastComes_4 : decode cX3_lastComes 4 = .ok (.iload_n 3, 1) := by decide +kernel
theorem dX3_lastComes_5 : decode cX3_lastComes 5 = .ok (.aload_n 0, 1) := by decide +kernel
theorem dX3_lastComes_6 : decode cX3_lastComes 6 = .ok (.getfield 40, 3) := by decide +kernel
theorem dX3_lastComes_9 : decode cX3_lastComes 9 = .ok (.getfield 117, 3) := by decide +kernel
theorem dX3_lastComes_12 : decode cX3_lastComes 12 = .ok (.if_icmp .ge 48, 3) := by decide +kernel
theorem dX3_lastComes_15 : decode cX3_lastComes 15 = .ok (.aload_n 0, 1) := by decide +kernel
theorem dX3_lastComes_16 : decode cX3_lastComes 16 = .ok (.getfield 40, 3) := by decide +kernel
theorem dX3_lastComes_19 : decode cX3_lastComes 19 = .ok (.iload_n 3, 1) := by decide +kernel
theorem dX3_lastComes_20 : decode cX3_lastComes 20 = .ok (.iload_n 1, 1) := by decide +kernel
theorem dX3_lastComes_21 : decode cX3_lastComes 21 = .ok (.invokevirtual 123, 3) := by decide +kernel
theorem dX3_lastComes_24 : decode cX3_lastComes 24 = .ok (.ifCond .eq 30, 3) := by decide +kernel
theorem dX3_lastComes_27 : decode cX3_lastComes 27 = .ok (.aload_n 0, 1) := by decide +kernel
theorem dX3_lastComes_28 : decode cX3_lastComes 28 = .ok (.getfield 37, 3) := by decide +kernel
theorem dX3_lastComes_31 : decode cX3_lastComes 31 = .ok (.iload_n 3, 1) := by decide +kernel
theorem dX3_lastComes_32 : decode cX3_lastComes 32 = .ok (.iload_n 1, 1) := by decide +kernel
theorem dX3_lastComes_33 : decode cX3_lastComes 33 = .ok (.invokestatic 131, 3) := by decide +kernel
theorem dX3_lastComes_36 : decode cX3_lastComes 36 = .ok (.iaload, 1) := by decide +kernel
theorem dX3_lastComes_37 : decode cX3_lastComes 37 = .ok (.istore 4, 2) := by decide +kernel
theorem dX3_lastComes_39 : decode cX3_lastComes 39 = .ok (.iload 4, 2) := by decide +kernel
theorem dX3_lastComes_41 : decode cX3_lastComes 41 = .ok (.iconst (-1), 1) := by decide +kernel
theorem dX3_lastComes_42 : decode cX3_lastComes 42 = .ok (.if_icmp .ne 5, 3) := by decide +kernel
theorem dX3_lastComes_45 : decode cX3_lastComes 45 = .ok (.iconst (-1), 1) := by decide +kernel
theorem dX3_lastComes_46 : decode cX3_lastComes 46 = .ok (.ireturn, 1) := by decide +kernel
theorem dX3_lastComes_47 : decode cX3_lastComes 47 = .ok (.iload_n 2, 1) := by decide +kernel
theorem dX3_lastComes_48 : decode cX3_lastComes 48 = .ok (.iload 4, 2) := by decide +kernel
theorem dX3_lastComes_50 : decode cX3_lastComes 50 = .ok (.invokestatic 110, 3) := by decide +kernel
theorem dX3_lastComes_53 : decode cX3_lastComes 53 = .ok (.istore_n 2, 1) := by decide +kernel
theorem dX3_lastComes_54 : decode cX3_lastComes 54 = .ok (.iinc 3 1, 3) := by decide +kernel
theorem dX3_lastComes_57 : decode cX3_lastComes 57 = .ok (.goto (-53), 3) := by decide +kernel
theorem dX3_lastComes_60 : decode cX3_lastComes 60 = .ok (.iload_n 2, 1) := by decide +kernel
theorem dX3_lastComes_61 : decode cX3_lastComes 61 = .ok (.ireturn, 1) := by decide +kernel
set_option maxRecDepth 20000 in
theorem ggX3_howOftenCame_X3_mastersIn : GoodIn wsX3_howOftenCame wsX3_mastersIn := goodIn_r _ [8, 1, 9, 10, 11, 12, 20, 21, 22, 23, 24, 25, 26, 27, 28, 29, 30, 31, 32, 33, 34, 35, 36, 37, 38, 39, 40, 41, 42, 43, 44] (by decide +kernel) (by decide +kernel)
set_option maxRecDepth 20000 in
theorem gX3_howOftenCame_X3_mastersIn : GoodIn wsX3_howOftenCame (wsV RX3 96 RX3 yX3_mastersIn wsX3_mastersIn) := goodIn_app (goodIn_of _ (by decide +kernel)) ggX3_howOftenCame_X3_mastersIn
set_option maxRecDepth 20000 in
theorem ggX3_howOftenCame_J6_bitCount_0f7a4 : GoodIn wsX3_howOftenCame wsJ6_bitCount_0f7a4 := goodIn_r _ [16, 17, 18, 19] (by decide +kernel) (by decide +kernel)
set_option maxRecDepth 20000 in
theorem gX3_howOftenCame_J6_bitCount_0f7a4 : GoodIn wsX3_howOftenCame (va_wsS RX3 170 yJ6_bitCount_0f7a4 wsJ6_bitCount_0f7a4) := goodIn_app (goodIn_of _ (by decide +kernel)) ggX3_howOftenCame_J6_bitCount_0f7a4
theorem dX3_howOftenCame_0 : decode cX3_howOftenCame 0 = .ok (.iconst 0, 1) := by decide +kernel
theorem dX3_howOftenCame_1 : decode cX3_howOftenCame 1 = .ok (.istore_n 1, 1) := by decide +kernel
theorem dX3_howOftenCame_2 : decode cX3_howOftenCame 2 = .ok (.iconst 0, 1) := by decide +kernel
theorem dX3_howOftenCame_3 : decode cX3_howOftenCame 3 = .ok (.istore_n 2, 1) := by decide +kernel
theorem dX3_howOftenCame_4 : decode cX3_howOftenCame 4 = .ok (.iload_n 2, 1) := by decide +kernel
theorem dX3_howOftenCame_5 : decode cX3_howOftenCame 5 = .ok (.aload_n 0, 1) := by decide +kernel
theorem dX3_howOftenCame_6 : decode cX3_howOftenCame 6 = .ok (.getfield 40, 3) := by decide +kernel
theorem dX3_howOftenCame_9 : decode cX3_howOftenCame 9 = .ok (.getfield 120, 3) := by decide +kernel
theorem dX3_howOftenCame_12 : decode cX3_howOftenCame 12 = .ok (.if_icmp .ge 24, 3) := by decide +kernel
theorem dX3_howOftenCame_15 : decode cX3_howOftenCame 15 = .ok (.iload_n 1, 1) := by decide +kernel
theorem dX3_howOftenCame_16 : decode cX3_howOftenCame 16 = .ok (.aload_n 0, 1) := by decide +kernel
theorem dX3_howOftenCame_17 : decode cX3_howOftenCame 17 = .ok (.aload_n 0, 1) := by decide +kernel
theorem dX3_howOftenCame_18 : decode cX3_howOftenCame 18 = .ok (.getfield 37, 3) := by decide +kernel
theorem dX3_howOftenCame_21 : decode cX3_howOftenCame 21 = .ok (.iload_n 2, 1) := by decide +kernel
theorem dX3_howOftenCame_22 : decode cX3_howOftenCame 22 = .ok (.invokevirtual 96, 3) := by decide +kernel
theorem dX3_howOftenCame_25 : decode cX3_howOftenCame 25 = .ok (.invokestatic 170, 3) := by decide +kernel
theorem dX3_howOftenCame_28 : decode cX3_howOftenCame 28 = .ok (.iadd, 1) := by decide +kernel
theorem dX3_howOftenCame_29 : decode cX3_howOftenCame 29 = .ok (.istore_n 1, 1) := by decide +kernel
theorem dX3_howOftenCame_30 : decode cX3_howOftenCame 30 = .ok (.iinc 2 1, 3) := by decide +kernel
theorem dX3_howOftenCame_33 : decode cX3_howOftenCame 33 = .ok (.goto (-29), 3) := by decide +kernel
theorem dX3_howOftenCame_36 : decode cX3_howOftenCame 36 = .ok (.iload_n 1, 1) := by decide +kernel
theorem dX3_howOftenCame_37 : decode cX3_howOftenCame 37 = .ok (.ireturn, 1) := by decide +kernel
set_option maxRecDepth 20000 in
theorem ggX3_minutesBehind_X3_behindDue : GoodIn wsX3_minutesBehind wsX3_behindDue := goodIn_r _ [8, 9, 10, 11, 12, 13, 14, 15, 16, 17, 18, 19, 20, 21, 22, 23, 24, 25, 26, 27] (by decide +kernel) (by decide +kernel)
set_option maxRecDepth 20000 in
theorem gX3_minutesBehind_X3_behindDue : GoodIn wsX3_minutesBehind (wsV RX3 175 RX3 yX3_behindDue wsX3_behindDue) := goodIn_app (goodIn_of _ (by decide +kernel)) ggX3_minutesBehind_X3_behindDue
theorem dX3_minutesBehind_0 : decode cX3_minutesBehind 0 = .ok (.iconst 0, 1) := by decide +kernel
theorem dX3_minutesBehind_1 : decode cX3_minutesBehind 1 = .ok (.istore_n 1, 1) := by decide +kernel
theorem dX3_minutesBehind_2 : decode cX3_minutesBehind 2 = .ok (.iconst 0, 1) := by decide +kernel
theorem dX3_minutesBehind_3 : decode cX3_minutesBehind 3 = .ok (.istore_n 2, 1) := by decide +kernel
theorem dX3_minutesBehind_4 : decode cX3_minutesBehind 4 = .ok (.iload_n 2, 1) := by decide +kernel
theorem dX3_minutesBehind_5 : decode cX3_minutesBehind 5 = .ok (.aload_n 0, 1) := by decide +kernel
theorem dX3_minutesBehind_6 : decode cX3_minutesBehind 6 = .ok (.getfield 40, 3) := by decide +kernel
theorem dX3_minutesBehind_9 : decode cX3_minutesBehind 9 = .ok (.getfield 117, 3) := by decide +kernel
theorem dX3_minutesBehind_12 : decode cX3_minutesBehind 12 = .ok (.if_icmp .ge 37, 3) := by decide +kernel
theorem dX3_minutesBehind_15 : decode cX3_minutesBehind 15 = .ok (.iconst 0, 1) := by decide +kernel
theorem dX3_minutesBehind_16 : decode cX3_minutesBehind 16 = .ok (.istore_n 3, 1) := by decide +kernel
theorem dX3_minutesBehind_17 : decode cX3_minutesBehind 17 = .ok (.iload_n 3, 1) := by decide +kernel
theorem dX3_minutesBehind_18 : decode cX3_minutesBehind 18 = .ok (.aload_n 0, 1) := by decide +kernel
theorem dX3_minutesBehind_19 : decode cX3_minutesBehind 19 = .ok (.getfield 40, 3) := by decide +kernel
theorem dX3_minutesBehind_22 : decode cX3_minutesBehind 22 = .ok (.getfield 120, 3) := by decide +kernel
theorem dX3_minutesBehind_25 : decode cX3_minutesBehind 25 = .ok (.if_icmp .ge 18, 3) := by decide +kernel
theorem dX3_minutesBehind_28 : decode cX3_minutesBehind 28 = .ok (.iload_n 1, 1) := by decide +kernel
theorem dX3_minutesBehind_29 : decode cX3_minutesBehind 29 = .ok (.aload_n 0, 1) := by decide +kernel
theorem dX3_minutesBehind_30 : decode cX3_minutesBehind 30 = .ok (.iload_n 2, 1) := by decide +kernel
theorem dX3_minutesBehind_31 : decode cX3_minutesBehind 31 = .ok (.iload_n 3, 1) := by decide +kernel
theorem dX3_minutesBehind_32 : decode cX3_minutesBehind 32 = .ok (.invokevirtual 175, 3) := by decide +kernel
theorem dX3_minutesBehind_35 : decode cX3_minutesBehind 35 = .ok (.iadd, 1) := by decide +kernel
theorem dX3_minutesBehind_36 : decode cX3_minutesBehind 36 = .ok (.istore_n 1, 1) := by decide +kernel
theorem dX3_minutesBehind_37 : decode cX3_minutesBehind 37 = .ok (.iinc 3 1, 3) := by decide +kernel
theorem dX3_minutesBehind_40 : decode cX3_minutesBehind 40 = .ok (.goto (-23), 3) := by decide +kernel
theorem dX3_minutesBehind_43 : decode cX3_minutesBehind 43 = .ok (.iinc 2 1, 3) := by decide +kernel
theorem dX3_minutesBehind_46 : decode cX3_minutesBehind 46 = .ok (.goto (-42), 3) := by decide +kernel
theorem dX3_minutesBehind_49 : decode cX3_minutesBehind 49 = .ok (.iload_n 1, 1) := by decide +kernel
theorem dX3_minutesBehind_50 : decode cX3_minutesBehind 50 = .ok (.ireturn, 1) := by decide +kernel
set_option maxRecDepth 20000 in
theorem ggX3_mostBehind_X3_behindDue : GoodIn wsX3_mostBehind wsX3_behindDue := goodIn_r _ [11, 12, 13, 3, 4, 5, 6, 14, 15, 16, 17, 18, 19, 20, 21, 22, 23, 24, 25, 26] (by decide +kernel) (by decide +kernel)
set_option maxRecDepth 20000 in
theorem gX3_mostBehind_X3_behindDue : GoodIn wsX3_mostBehind (wsV RX3 175 RX3 yX3_behindDue wsX3_behindDue) := goodIn_app (goodIn_of _ (by decide +kernel)) ggX3_mostBehind_X3_behindDue
theorem dX3_mostBehind_0 : decode cX3_mostBehind 0 = .ok (.iconst 0, 1) := by decide +kernel
theorem dX3_mostBehind_1 : decode cX3_mostBehind 1 = .ok (.istore_n 2, 1) := by decide +kernel
theorem dX3_mostBehind_2 : decode cX3_mostBehind 2 = .ok (.iconst 0, 1) := by decide +kernel
theorem dX3_mostBehind_3 : decode cX3_mostBehind 3 = .ok (.istore_n 3, 1) := by decide +kernel
theorem dX3_mostBehind_4 : decode cX3_mostBehind 4 = .ok (.iload_n 3, 1) := by decide +kernel
theorem dX3_mostBehind_5 : decode cX3_mostBehind 5 = .ok (.aload_n 0, 1) := by decide +kernel
theorem dX3_mostBehind_6 : decode cX3_mostBehind 6 = .ok (.getfield 40, 3) := by decide +kernel
theorem dX3_mostBehind_9 : decode cX3_mostBehind 9 = .ok (.getfield 120, 3) := by decide +kernel
theorem dX3_mostBehind_12 : decode cX3_mostBehind 12 = .ok (.if_icmp .ge 20, 3) := by decide +kernel
theorem dX3_mostBehind_15 : decode cX3_mostBehind 15 = .ok (.iload_n 2, 1) := by decide +kernel
theorem dX3_mostBehind_16 : decode cX3_mostBehind 16 = .ok (.aload_n 0, 1) := by decide +kernel
theorem dX3_mostBehind_17 : decode cX3_mostBehind 17 = .ok (.iload_n 1, 1) := by decide +kernel
theorem dX3_mostBehind_18 : decode cX3_mostBehind 18 = .ok (.iload_n 3, 1) := by decide +kernel
theorem dX3_mostBehind_19 : decode cX3_mostBehind 19 = .ok (.invokevirtual 175, 3) := by decide +kernel
theorem dX3_mostBehind_22 : decode cX3_mostBehind 22 = .ok (.invokestatic 110, 3) := by decide +kernel
theorem dX3_mostBehind_25 : decode cX3_mostBehind 25 = .ok (.istore_n 2, 1) := by decide +kernel
theorem dX3_mostBehind_26 : decode cX3_mostBehind 26 = .ok (.iinc 3 1, 3) := by decide +kernel
theorem dX3_mostBehind_29 : decode cX3_mostBehind 29 = .ok (.goto (-25), 3) := by decide +kernel
theorem dX3_mostBehind_32 : decode cX3_mostBehind 32 = .ok (.iload_n 2, 1) := by decide +kernel
theorem dX3_mostBehind_33 : decode cX3_mostBehind 33 = .ok (.ireturn, 1) := by decide +kernel
set_option maxRecDepth 20000 in
theorem ggX3_behindDue_X11_slot : GoodIn wsX3_behindDue wsX11_slot := goodIn_r _ [9] (by decide +kernel) (by decide +kernel)
set_option maxRecDepth 20000 in
theorem gX3_behindDue_X11_slot_n131 : GoodIn wsX3_behindDue (wsX11_slot) := ggX3_behindDue_X11_slot
theorem dX3_behindDue_0 : decode cX3_behindDue 0 = .ok (.aload_n 0, 1) := by decide +kernel
theorem dX3_behindDue_1 : decode cX3_behindDue 1 = .ok (.getfield 37, 3) := by decide +kernel
theorem dX3_behindDue_4 : decode cX3_behindDue 4 = .ok (.iload_n 1, 1) := by decide +kernel
theorem dX3_behindDue_5 : decode cX3_behindDue 5 = .ok (.iload_n 2, 1) := by decide +kernel
theorem dX3_behindDue_6 : decode cX3_behindDue 6 = .ok (.invokestatic 131, 3) := by decide +kernel
theorem dX3_behindDue_9 : decode cX3_behindDue 9 = .ok (.iaload, 1) := by decide +kernel
theorem dX3_behindDue_10 : decode cX3_behindDue 10 = .ok (.istore_n 3, 1) := by decide +kernel
theorem dX3_behindDue_11 : decode cX3_behindDue 11 = .ok (.iload_n 3, 1) := by decide +kernel
theorem dX3_behindDue_12 : decode cX3_behindDue 12 = .ok (.iconst (-1), 1) := by decide +kernel
theorem dX3_behindDue_13 : decode cX3_behindDue 13 = .ok (.if_icmp .ne 7, 3) := by decide +kernel
theorem dX3_behindDue_16 : decode cX3_behindDue 16 = .ok (.iconst 0, 1) := by decide +kernel
theorem dX3_behindDue_17 : decode cX3_behindDue 17 = .ok (.goto 15, 3) := by decide +kernel
theorem dX3_behindDue_20 : decode cX3_behindDue 20 = .ok (.iconst 0, 1) := by decide +kernel
theorem dX3_behindDue_21 : decode cX3_behindDue 21 = .ok (.iload_n 3, 1) := by decide +kernel
theorem dX3_behindDue_22 : decode cX3_behindDue 22 = .ok (.aload_n 0, 1) := by decide +kernel
theorem dX3_behindDue_23 : decode cX3_behindDue 23 = .ok (.getfield 31, 3) := by decide +kernel
theorem dX3_behindDue_26 : decode cX3_behindDue 26 = .ok (.iload_n 2, 1) := by decide +kernel
theorem dX3_behindDue_27 : decode cX3_behindDue 27 = .ok (.iaload, 1) := by decide +kernel
theorem dX3_behindDue_28 : decode cX3_behindDue 28 = .ok (.isub, 1) := by decide +kernel
theorem dX3_behindDue_29 : decode cX3_behindDue 29 = .ok (.invokestatic 110, 3) := by decide +kernel
theorem dX3_behindDue_32 : decode cX3_behindDue 32 = .ok (.ireturn, 1) := by decide +kernel
set_option maxRecDepth 20000 in
theorem ggX4_init_X3_init : GoodIn wsX4_init wsX3_init := goodIn_r _ [12, 13, 2, 3, 14, 15, 16, 17, 18, 19, 20, 21, 22, 23, 24, 25, 26, 27, 28, 32, 33, 34, 35, 36, 37, 38, 39, 40, 41] (by decide +kernel) (by decide +kernel)
set_option maxRecDepth 20000 in
theorem gX4_init_X3_init : GoodIn wsX4_init (wsX3_init) := ggX4_init_X3_init
theorem dX4_init_0 : decode cX4_init 0 = .ok (.aload_n 0, 1) := by decide +kernel
theorem dX4_init_1 : decode cX4_init 1 = .ok (.invokespecial 3, 3) := by decide +kernel
theorem dX4_init_4 : decode cX4_init 4 = .ok (.aload_n 0, 1) := by decide +kernel
theorem dX4_init_5 : decode cX4_init 5 = .ok (.bipush 8, 2) := by decide +kernel
theorem dX4_init_7 : decode cX4_init 7 = .ok (.anewarray 9, 3) := by decide +kernel
theorem dX4_init_10 : decode cX4_init 10 = .ok (.putfield 11, 3) := by decide +kernel
theorem dX4_init_13 : decode cX4_init 13 = .ok (.aload_n 0, 1) := by decide +kernel
theorem dX4_init_14 : decode cX4_init 14 = .ok (.iconst 0, 1) := by decide +kernel
theorem dX4_init_15 : decode cX4_init 15 = .ok (.putfield 17, 3) := by decide +kernel
theorem dX4_init_18 : decode cX4_init 18 = .ok (.aload_n 0, 1) := by decide +kernel
theorem dX4_init_19 : decode cX4_init 19 = .ok (.iconst 0, 1) := by decide +kernel
theorem dX4_init_20 : decode cX4_init 20 = .ok (.putfield 21, 3) := by decide +kernel
theorem dX4_init_23 : decode cX4_init 23 = .ok (.iconst 0, 1) := by decide +kernel
theorem dX4_init_24 : decode cX4_init 24 = .ok (.istore_n 2, 1) := by decide +kernel
theorem dX4_init_25 : decode cX4_init 25 = .ok (.iload_n 2, 1) := by decide +kernel
theorem dX4_init_26 : decode cX4_init 26 = .ok (.bipush 8, 2) := by decide +kernel
theorem dX4_init_28 : decode cX4_init 28 = .ok (.if_icmp .ge 23, 3) := by decide +kernel
theorem dX4_init_31 : decode cX4_init 31 = .ok (.aload_n 0, 1) := by decide +kernel
theorem dX4_init_32 : decode cX4_init 32 = .ok (.getfield 11, 3) := by decide +kernel
theorem dX4_init_35 : decode cX4_init 35 = .ok (.iload_n 2, 1) := by decide +kernel
theorem dX4_init_36 : decode cX4_init 36 = .ok (.new 9, 3) := by decide +kernel
theorem dX4_init_39 : decode cX4_init 39 = .ok (.dup, 1) := by decide +kernel
theorem dX4_init_40 : decode cX4_init 40 = .ok (.aload_n 1, 1) := by decide +kernel
theorem dX4_init_41 : decode cX4_init 41 = .ok (.invokespecial 24, 3) := by decide +kernel
theorem dX4_init_44 : decode cX4_init 44 = .ok (.aastore, 1) := by decide +kernel
theorem dX4_init_45 : decode cX4_init 45 = .ok (.iinc 2 1, 3) := by decide +kernel
theorem dX4_init_48 : decode cX4_init 48 = .ok (.goto (-23), 3) := by decide +kernel
theorem dX4_init_51 : decode cX4_init 51 = .ok (.return_, 1) := by decide +kernel
theorem dX4_forget_0 : decode cX4_forget 0 = .ok (.aload_n 0, 1) := by decide +kernel
theorem dX4_forget_1 : decode cX4_forget 1 = .ok (.iconst 0, 1) := by decide +kernel
theorem dX4_forget_2 : decode cX4_forget 2 = .ok (.putfield 21, 3) := by decide +kernel
theorem dX4_forget_5 : decode cX4_forget 5 = .ok (.return_, 1) := by decide +kernel
set_option maxRecDepth 20000 in
theorem ggX4_keep_X3_copyFrom : GoodIn wsX4_keep wsX3_copyFrom := goodIn_r _ [12, 13, 14, 15, 16, 17, 18, 19, 20, 21, 22, 23, 24, 25, 29, 30, 31, 32, 33, 34, 35, 36, 37, 38] (by decide +kernel) (by decide +kernel)
set_option maxRecDepth 20000 in
theorem gX4_keep_X3_copyFrom : GoodIn wsX4_keep (wsV RX4 27 RX3 yX3_copyFrom wsX3_copyFrom) := goodIn_app (goodIn_of _ (by decide +kernel)) ggX4_keep_X3_copyFrom
theorem dX4_keep_0 : decode cX4_keep 0 = .ok (.aload_n 0, 1) := by decide +kernel
theorem dX4_keep_1 : decode cX4_keep 1 = .ok (.getfield 11, 3) := by decide +kernel
theorem dX4_keep_4 : decode cX4_keep 4 = .ok (.aload_n 0, 1) := by decide +kernel
theorem dX4_keep_5 : decode cX4_keep 5 = .ok (.getfield 17, 3) := by decide +kernel
theorem dX4_keep_8 : decode cX4_keep 8 = .ok (.aaload, 1) := by decide +kernel
theorem dX4_keep_9 : decode cX4_keep 9 = .ok (.aload_n 1, 1) := by decide +kernel
theorem dX4_keep_10 : decode cX4_keep 10 = .ok (.invokevirtual 27, 3) := by decide +kernel
theorem dX4_keep_13 : decode cX4_keep 13 = .ok (.aload_n 0, 1) := by decide +kernel
theorem dX4_keep_14 : decode cX4_keep 14 = .ok (.aload_n 0, 1) := by decide +kernel
theorem dX4_keep_15 : decode cX4_keep 15 = .ok (.getfield 17, 3) := by decide +kernel
theorem dX4_keep_18 : decode cX4_keep 18 = .ok (.iconst 1, 1) := by decide +kernel
theorem dX4_keep_19 : decode cX4_keep 19 = .ok (.iadd, 1) := by decide +kernel
theorem dX4_keep_20 : decode cX4_keep 20 = .ok (.bipush 8, 2) := by decide +kernel
theorem dX4_keep_22 : decode cX4_keep 22 = .ok (.irem, 1) := by decide +kernel
theorem dX4_keep_23 : decode cX4_keep 23 = .ok (.putfield 17, 3) := by decide +kernel
theorem dX4_keep_26 : decode cX4_keep 26 = .ok (.aload_n 0, 1) := by decide +kernel
theorem dX4_keep_27 : decode cX4_keep 27 = .ok (.aload_n 0, 1) := by decide +kernel
theorem dX4_keep_28 : decode cX4_keep 28 = .ok (.getfield 21, 3) := by decide +kernel
theorem dX4_keep_31 : decode cX4_keep 31 = .ok (.iconst 1, 1) := by decide +kernel
theorem dX4_keep_32 : decode cX4_keep 32 = .ok (.iadd, 1) := by decide +kernel
theorem dX4_keep_33 : decode cX4_keep 33 = .ok (.bipush 8, 2) := by decide +kernel
theorem dX4_keep_35 : decode cX4_keep 35 = .ok (.invokestatic 31, 3) := by decide +kernel
theorem dX4_keep_38 : decode cX4_keep 38 = .ok (.putfield 21, 3) := by decide +kernel
theorem dX4_keep_41 : decode cX4_keep 41 = .ok (.return_, 1) := by decide +kernel
set_option maxRecDepth 20000 in
theorem ggX4_takeBack_X3_copyFrom : GoodIn wsX4_takeBack wsX3_copyFrom := goodIn_r _ [8, 9, 10, 11, 12, 13, 14, 15, 16, 17, 18, 19, 20, 21, 25, 26, 27, 28, 29, 30, 31, 32, 33, 34] (by decide +kernel) (by decide +kernel)
set_option maxRecDepth 20000 in
theorem gX4_takeBack_X3_copyFrom : GoodIn wsX4_takeBack (wsV RX4 27 RX3 yX3_copyFrom wsX3_copyFrom) := goodIn_app (goodIn_of _ (by decide +kernel)) ggX4_takeBack_X3_copyFrom
theorem dX4_takeBack_0 : decode cX4_takeBack 0 = .ok (.aload_n 0, 1) := by decide +kernel
theorem dX4_takeBack_1 : decode cX4_takeBack 1 = .ok (.getfield 21, 3) := by decide +kernel
theorem dX4_takeBack_4 : decode cX4_takeBack 4 = .ok (.ifCond .ne 5, 3) := by decide +kernel
theorem dX4_takeBack_7 : decode cX4_takeBack 7 = .ok (.iconst (-1), 1) := by decide +kernel
theorem dX4_takeBack_8 : decode cX4_takeBack 8 = .ok (.ireturn, 1) := by decide +kernel
theorem dX4_takeBack_9 : decode cX4_takeBack 9 = .ok (.aload_n 0, 1) := by decide +kernel
theorem dX4_takeBack_10 : decode cX4_takeBack 10 = .ok (.aload_n 0, 1) := by decide +kernel
theorem dX4_takeBack_11 : decode cX4_takeBack 11 = .ok (.getfield 17, 3) := by decide +kernel
theorem dX4_takeBack_14 : decode cX4_takeBack 14 = .ok (.bipush 8, 2) := by decide +kernel
theorem dX4_takeBack_16 : decode cX4_takeBack 16 = .ok (.iadd, 1) := by decide +kernel
theorem dX4_takeBack_17 : decode cX4_takeBack 17 = .ok (.iconst 1, 1) := by decide +kernel
theorem dX4_takeBack_18 : decode cX4_takeBack 18 = .ok (.isub, 1) := by decide +kernel
theorem dX4_takeBack_19 : decode cX4_takeBack 19 = .ok (.bipush 8, 2) := by decide +kernel
theorem dX4_takeBack_21 : decode cX4_takeBack 21 = .ok (.irem, 1) := by decide +kernel
theorem dX4_takeBack_22 : decode cX4_takeBack 22 = .ok (.putfield 17, 3) := by decide +kernel
theorem dX4_takeBack_25 : decode cX4_takeBack 25 = .ok (.aload_n 1, 1) := by decide +kernel
theorem dX4_takeBack_26 : decode cX4_takeBack 26 = .ok (.aload_n 0, 1) := by decide +kernel
theorem dX4_takeBack_27 : decode cX4_takeBack 27 = .ok (.getfield 11, 3) := by decide +kernel
theorem dX4_takeBack_30 : decode cX4_takeBack 30 = .ok (.aload_n 0, 1) := by decide +kernel
theorem dX4_takeBack_31 : decode cX4_takeBack 31 = .ok (.getfield 17, 3) := by decide +kernel
theorem dX4_takeBack_34 : decode cX4_takeBack 34 = .ok (.aaload, 1) := by decide +kernel
theorem dX4_takeBack_35 : decode cX4_takeBack 35 = .ok (.invokevirtual 27, 3) := by decide +kernel
theorem dX4_takeBack_38 : decode cX4_takeBack 38 = .ok (.aload_n 0, 1) := by decide +kernel
theorem dX4_takeBack_39 : decode cX4_takeBack 39 = .ok (.dup, 1) := by decide +kernel
theorem dX4_takeBack_40 : decode cX4_takeBack 40 = .ok (.getfield 21, 3) := by decide +kernel
theorem dX4_takeBack_43 : decode cX4_takeBack 43 = .ok (.iconst 1, 1) := by decide +kernel
theorem dX4_takeBack_44 : decode cX4_takeBack 44 = .ok (.isub, 1) := by decide +kernel
theorem dX4_takeBack_45 : decode cX4_takeBack 45 = .ok (.putfield 21, 3) := by decide +kernel
theorem dX4_takeBack_48 : decode cX4_takeBack 48 = .ok (.aload_n 0, 1) := by decide +kernel
theorem dX4_takeBack_49 : decode cX4_takeBack 49 = .ok (.getfield 21, 3) := by decide +kernel
theorem dX4_takeBack_52 : decode cX4_takeBack 52 = .ok (.ireturn, 1) := by decide +kernel
theorem dX5_init_0 : decode cX5_init 0 = .ok (.aload_n 0, 1) := by decide +kernel
theorem dX5_init_1 : decode cX5_init 1 = .ok (.invokespecial 3, 3) := by decide +kernel
theorem dX5_init_4 : decode cX5_init 4 = .ok (.aload_n 0, 1) := by decide +kernel
theorem dX5_init_5 : decode cX5_init 5 = .ok (.iconst 0, 1) := by decide +kernel
theorem dX5_init_6 : decode cX5_init 6 = .ok (.putfield 9, 3) := by decide +kernel
theorem dX5_init_9 : decode cX5_init 9 = .ok (.aload_n 0, 1) := by decide +kernel
theorem dX5_init_10 : decode cX5_init 10 = .ok (.bipush 40, 2) := by decide +kernel
theorem dX5_init_12 : decode cX5_init 12 = .ok (.newarray .int, 2) := by decide +kernel
theorem dX5_init_14 : decode cX5_init 14 = .ok (.putfield 15, 3) := by decide +kernel
theorem dX5_init_17 : decode cX5_init 17 = .ok (.aload_n 0, 1) := by decide +kernel
theorem dX5_init_18 : decode cX5_init 18 = .ok (.bipush 20, 2) := by decide +kernel
theorem dX5_init_20 : decode cX5_init 20 = .ok (.newarray .int, 2) := by decide +kernel
theorem dX5_init_22 : decode cX5_init 22 = .ok (.putfield 19, 3) := by decide +kernel
theorem dX5_init_25 : decode cX5_init 25 = .ok (.return_, 1) := by decide +kernel
theorem dX5_clear_0 : decode cX5_clear 0 = .ok (.aload_n 0, 1) := by decide +kernel
theorem dX5_clear_1 : decode cX5_clear 1 = .ok (.iconst 0, 1) := by decide +kernel
theorem dX5_clear_2 : decode cX5_clear 2 = .ok (.putfield 9, 3) := by decide +kernel
theorem dX5_clear_5 : decode cX5_clear 5 = .ok (.return_, 1) := by decide +kernel
theorem dX5_copyFrom_0 : decode cX5_copyFrom 0 = .ok (.aload_n 0, 1) := by decide +kernel
theorem dX5_copyFrom_1 : decode cX5_copyFrom 1 = .ok (.aload_n 1, 1) := by decide +kernel
theorem dX5_copyFrom_2 : decode cX5_copyFrom 2 = .ok (.getfield 9, 3) := by decide +kernel
theorem dX5_copyFrom_5 : decode cX5_copyFrom 5 = .ok (.putfield 9, 3) := by decide +kernel
theorem dX5_copyFrom_8 : decode cX5_copyFrom 8 = .ok (.aload_n 1, 1) := by decide +kernel
theorem dX5_copyFrom_9 : decode cX5_copyFrom 9 = .ok (.getfield 15, 3) := by decide +kernel
theorem dX5_copyFrom_12 : decode cX5_copyFrom 12 = .ok (.iconst 0, 1) := by decide +kernel
theorem dX5_copyFrom_13 : decode cX5_copyFrom 13 = .ok (.aload_n 0, 1) := by decide +kernel
theorem dX5_copyFrom_14 : decode cX5_copyFrom 14 = .ok (.getfield 15, 3) := by decide +kernel
theorem dX5_copyFrom_17 : decode cX5_copyFrom 17 = .ok (.iconst 0, 1) := by decide +kernel
theorem dX5_copyFrom_18 : decode cX5_copyFrom 18 = .ok (.aload_n 0, 1) := by decide +kernel
theorem dX5_copyFrom_19 : decode cX5_copyFrom 19 = .ok (.getfield 15, 3) := by decide +kernel
theorem dX5_copyFrom_22 : decode cX5_copyFrom 22 = .ok (.arraylength, 1) := by decide +kernel
theorem dX5_copyFrom_23 : decode cX5_copyFrom 23 = .ok (.invokestatic 22, 3) := by decide +kernel
theorem dX5_copyFrom_26 : decode cX5_copyFrom 26 = .ok (.return_, 1) := by decide +kernel
theorem dX5_put_0 : decode cX5_put 0 = .ok (.aload_n 0, 1) := by decide +kernel
theorem dX5_put_1 : decode cX5_put 1 = .ok (.getfield 9, 3) := by decide +kernel
theorem dX5_put_4 : decode cX5_put 4 = .ok (.aload_n 0, 1) := by decide +kernel
theorem dX5_put_5 : decode cX5_put 5 = .ok (.getfield 15, 3) := by decide +kernel
theorem dX5_put_8 : decode cX5_put 8 = .ok (.arraylength, 1) := by decide +kernel
theorem dX5_put_9 : decode cX5_put 9 = .ok (.if_icmp .ge 38, 3) := by decide +kernel
theorem dX5_put_12 : decode cX5_put 12 = .ok (.aload_n 0, 1) := by decide +kernel
theorem dX5_put_13 : decode cX5_put 13 = .ok (.getfield 15, 3) := by decide +kernel
theorem dX5_put_16 : decode cX5_put 16 = .ok (.aload_n 0, 1) := by decide +kernel
theorem dX5_put_17 : decode cX5_put 17 = .ok (.getfield 9, 3) := by decide +kernel
theorem dX5_put_20 : decode cX5_put 20 = .ok (.iload_n 1, 1) := by decide +kernel
theorem dX5_put_21 : decode cX5_put 21 = .ok (.sipush 8192, 3) := by decide +kernel
theorem dX5_put_24 : decode cX5_put 24 = .ok (.imul, 1) := by decide +kernel
theorem dX5_put_25 : decode cX5_put 25 = .ok (.iload_n 2, 1) := by decide +kernel
theorem dX5_put_26 : decode cX5_put 26 = .ok (.bipush 60, 2) := by decide +kernel
theorem dX5_put_28 : decode cX5_put 28 = .ok (.isub, 1) := by decide +kernel
theorem dX5_put_29 : decode cX5_put 29 = .ok (.sipush 1024, 3) := by decide +kernel
theorem dX5_put_32 : decode cX5_put 32 = .ok (.imul, 1) := by decide +kernel
theorem dX5_put_33 : decode cX5_put 33 = .ok (.iadd, 1) := by decide +kernel
theorem dX5_put_34 : decode cX5_put 34 = .ok (.iload_n 3, 1) := by decide +kernel
theorem dX5_put_35 : decode cX5_put 35 = .ok (.iadd, 1) := by decide +kernel
theorem dX5_put_36 : decode cX5_put 36 = .ok (.iastore, 1) := by decide +kernel
theorem dX5_put_37 : decode cX5_put 37 = .ok (.aload_n 0, 1) := by decide +kernel
theorem dX5_put_38 : decode cX5_put 38 = .ok (.dup, 1) := by decide +kernel
theorem dX5_put_39 : decode cX5_put 39 = .ok (.getfield 9, 3) := by decide +kernel
theorem dX5_put_42 : decode cX5_put 42 = .ok (.iconst 1, 1) := by decide +kernel
theorem dX5_put_43 : decode cX5_put 43 = .ok (.iadd, 1) := by decide +kernel
theorem dX5_put_44 : decode cX5_put 44 = .ok (.putfield 9, 3) := by decide +kernel
theorem dX5_put_47 : decode cX5_put 47 = .ok (.return_, 1) := by decide +kernel
set_option maxRecDepth 20000 in
theorem ggX5_mastersSaid_X5_mastersFor : GoodIn wsX5_mastersSaid wsX5_mastersFor := goodIn_r _ [9, 4, 5, 10, 11, 8, 12, 13, 14, 15, 16, 17, 18, 19, 20, 21, 22, 23, 24, 25, 26, 27, 28, 29, 30, 31, 32, 33, 34, 35, 36, 37, 38, 39, 40, 41, 42, 43, 44, 45, 46, 47, 48, 49, 50, 51, 52, 53, 54, 55, 56, 57, 58, 59, 60, 61, 62, 63, 64, 65, 66, 67, 68, 72, 73, 74, 75, 76, 77, 78, 79, 80, 81, 82, 83, 84, 85, 86, 87, 88, 89, 90, 91, 92, 93, 94, 95, 96] (by decide +kernel) (by decide +kernel)
set_option maxRecDepth 20000 in
theorem gX5_mastersSaid_X5_mastersFor : GoodIn wsX5_mastersSaid (va_wsS RX5 28 yX5_mastersFor wsX5_mastersFor) := goodIn_app (goodIn_of _ (by decide +kernel)) ggX5_mastersSaid_X5_mastersFor
theorem dX5_mastersSaid_0 : decode cX5_mastersSaid 0 = .ok (.iconst 0, 1) := by decide +kernel
theorem dX5_mastersSaid_1 : decode cX5_mastersSaid 1 = .ok (.istore_n 2, 1) := by decide +kernel
theorem dX5_mastersSaid_2 : decode cX5_mastersSaid 2 = .ok (.iconst 0, 1) := by decide +kernel
theorem dX5_mastersSaid_3 : decode cX5_mastersSaid 3 = .ok (.istore_n 3, 1) := by decide +kernel
theorem dX5_mastersSaid_4 : decode cX5_mastersSaid 4 = .ok (.iload_n 3, 1) := by decide +kernel
theorem dX5_mastersSaid_5 : decode cX5_mastersSaid 5 = .ok (.aload_n 0, 1) := by decide +kernel
theorem dX5_mastersSaid_6 : decode cX5_mastersSaid 6 = .ok (.getfield 9, 3) := by decide +kernel
theorem dX5_mastersSaid_9 : decode cX5_mastersSaid 9 = .ok (.if_icmp .ge 151, 3) := by decide +kernel
theorem dX5_mastersSaid_12 : decode cX5_mastersSaid 12 = .ok (.aload_n 0, 1) := by decide +kernel
theorem dX5_mastersSaid_13 : decode cX5_mastersSaid 13 = .ok (.getfield 15, 3) := by decide +kernel
theorem dX5_mastersSaid_16 : decode cX5_mastersSaid 16 = .ok (.iload_n 3, 1) := by decide +kernel
theorem dX5_mastersSaid_17 : decode cX5_mastersSaid 17 = .ok (.iaload, 1) := by decide +kernel
theorem dX5_mastersSaid_18 : decode cX5_mastersSaid 18 = .ok (.sipush 8192, 3) := by decide +kernel
theorem dX5_mastersSaid_21 : decode cX5_mastersSaid 21 = .ok (.idiv, 1) := by decide +kernel
theorem dX5_mastersSaid_22 : decode cX5_mastersSaid 22 = .ok (.istore 4, 2) := by decide +kernel
theorem dX5_mastersSaid_24 : decode cX5_mastersSaid 24 = .ok (.iload 4, 2) := by decide +kernel
theorem dX5_mastersSaid_26 : decode cX5_mastersSaid 26 = .ok (.bipush 16, 2) := by decide +kernel
theorem dX5_mastersSaid_28 : decode cX5_mastersSaid 28 = .ok (.if_icmp .ne 28, 3) := by decide +kernel
theorem dX5_mastersSaid_31 : decode cX5_mastersSaid 31 = .ok (.iload_n 2, 1) := by decide +kernel
theorem dX5_mastersSaid_32 : decode cX5_mastersSaid 32 = .ok (.ifCond .le 24, 3) := by decide +kernel
theorem dX5_mastersSaid_35 : decode cX5_mastersSaid 35 = .ok (.aload_n 0, 1) := by decide +kernel
theorem dX5_mastersSaid_36 : decode cX5_mastersSaid 36 = .ok (.getfield 19, 3) := by decide +kernel
theorem dX5_mastersSaid_39 : decode cX5_mastersSaid 39 = .ok (.iload_n 2, 1) := by decide +kernel
theorem dX5_mastersSaid_40 : decode cX5_mastersSaid 40 = .ok (.iconst 1, 1) := by decide +kernel
theorem dX5_mastersSaid_41 : decode cX5_mastersSaid 41 = .ok (.isub, 1) := by decide +kernel
theorem dX5_mastersSaid_42 : decode cX5_mastersSaid 42 = .ok (.aload_n 0, 1) := by decide +kernel
theorem dX5_mastersSaid_43 : decode cX5_mastersSaid 43 = .ok (.getfield 19, 3) := by decide +kernel
theorem dX5_mastersSaid_46 : decode cX5_mastersSaid 46 = .ok (.iload_n 2, 1) := by decide +kernel
theorem dX5_mastersSaid_47 : decode cX5_mastersSaid 47 = .ok (.iconst 1, 1) := by decide +kernel
theorem dX5_mastersSaid_48 : decode cX5_mastersSaid 48 = .ok (.isub, 1) := by decide +kernel
theorem dX5_mastersSaid_49 : decode cX5_mastersSaid 49 = .ok (.iaload, 1) := by decide +kernel
theorem dX5_mastersSaid_50 : decode cX5_mastersSaid 50 = .ok (.iconst (-1), 1) := by decide +kernel
theorem dX5_mastersSaid_51 : decode cX5_mastersSaid 51 = .ok (.ixor, 1) := by decide +kernel
theorem dX5_mastersSaid_52 : decode cX5_mastersSaid 52 = .ok (.iastore, 1) := by decide +kernel
theorem dX5_mastersSaid_53 : decode cX5_mastersSaid 53 = .ok (.goto 101, 3) := by decide +kernel
theorem dX5_mastersSaid_56 : decode cX5_mastersSaid 56 = .ok (.iload 4, 2) := by decide +kernel
theorem dX5_mastersSaid_58 : decode cX5_mastersSaid 58 = .ok (.bipush 15, 2) := by decide +kernel
theorem dX5_mastersSaid_60 : decode cX5_mastersSaid 60 = .ok (.if_icmp .ne 31, 3) := by decide +kernel
theorem dX5_mastersSaid_63 : decode cX5_mastersSaid 63 = .ok (.iload_n 2, 1) := by decide +kernel
theorem dX5_mastersSaid_64 : decode cX5_mastersSaid 64 = .ok (.iconst 1, 1) := by decide +kernel
theorem dX5_mastersSaid_65 : decode cX5_mastersSaid 65 = .ok (.if_icmp .le 26, 3) := by decide +kernel
theorem dX5_mastersSaid_68 : decode cX5_mastersSaid 68 = .ok (.iinc 2 (-1), 3) := by decide +kernel
theorem dX5_mastersSaid_71 : decode cX5_mastersSaid 71 = .ok (.aload_n 0, 1) := by decide +kernel
theorem dX5_mastersSaid_72 : decode cX5_mastersSaid 72 = .ok (.getfield 19, 3) := by decide +kernel
theorem dX5_mastersSaid_75 : decode cX5_mastersSaid 75 = .ok (.iload_n 2, 1) := by decide +kernel
theorem dX5_mastersSaid_76 : decode cX5_mastersSaid 76 = .ok (.iconst 1, 1) := by decide +kernel
theorem dX5_mastersSaid_77 : decode cX5_mastersSaid 77 = .ok (.isub, 1) := by decide +kernel
theorem dX5_mastersSaid_78 : decode cX5_mastersSaid 78 = .ok (.dup2, 1) := by decide +kernel
theorem dX5_mastersSaid_79 : decode cX5_mastersSaid 79 = .ok (.iaload, 1) := by decide +kernel
theorem dX5_mastersSaid_80 : decode cX5_mastersSaid 80 = .ok (.aload_n 0, 1) := by decide +kernel
theorem dX5_mastersSaid_81 : decode cX5_mastersSaid 81 = .ok (.getfield 19, 3) := by decide +kernel
theorem dX5_mastersSaid_84 : decode cX5_mastersSaid 84 = .ok (.iload_n 2, 1) := by decide +kernel
theorem dX5_mastersSaid_85 : decode cX5_mastersSaid 85 = .ok (.iaload, 1) := by decide +kernel
theorem dX5_mastersSaid_86 : decode cX5_mastersSaid 86 = .ok (.iand, 1) := by decide +kernel
theorem dX5_mastersSaid_87 : decode cX5_mastersSaid 87 = .ok (.iastore, 1) := by decide +kernel
theorem dX5_mastersSaid_88 : decode cX5_mastersSaid 88 = .ok (.goto 66, 3) := by decide +kernel
theorem dX5_mastersSaid_91 : decode cX5_mastersSaid 91 = .ok (.iload 4, 2) := by decide +kernel
theorem dX5_mastersSaid_93 : decode cX5_mastersSaid 93 = .ok (.bipush 14, 2) := by decide +kernel
theorem dX5_mastersSaid_95 : decode cX5_mastersSaid 95 = .ok (.if_icmp .ne 31, 3) := by decide +kernel
theorem dX5_mastersSaid_98 : decode cX5_mastersSaid 98 = .ok (.iload_n 2, 1) := by decide +kernel
theorem dX5_mastersSaid_99 : decode cX5_mastersSaid 99 = .ok (.iconst 1, 1) := by decide +kernel
