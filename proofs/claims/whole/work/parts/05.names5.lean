theorem dX12_goesTo_46 : decode cX12_goesTo 46 = .ok (.iload 4, 2) := by decide +kernel
theorem dX12_goesTo_48 : decode cX12_goesTo 48 = .ok (.invokevirtual 256, 3) := by decide +kernel
theorem dX12_goesTo_51 : decode cX12_goesTo 51 = .ok (.aload_n 0, 1) := by decide +kernel
theorem dX12_goesTo_52 : decode cX12_goesTo 52 = .ok (.getfield 33, 3) := by decide +kernel
theorem dX12_goesTo_55 : decode cX12_goesTo 55 = .ok (.bipush 75, 2) := by decide +kernel
theorem dX12_goesTo_57 : decode cX12_goesTo 57 = .ok (.iload_n 2, 1) := by decide +kernel
theorem dX12_goesTo_58 : decode cX12_goesTo 58 = .ok (.iadd, 1) := by decide +kernel
theorem dX12_goesTo_59 : decode cX12_goesTo 59 = .ok (.iaload, 1) := by decide +kernel
theorem dX12_goesTo_60 : decode cX12_goesTo 60 = .ok (.aload_n 0, 1) := by decide +kernel
theorem dX12_goesTo_61 : decode cX12_goesTo 61 = .ok (.getfield 33, 3) := by decide +kernel
theorem dX12_goesTo_64 : decode cX12_goesTo 64 = .ok (.bipush 28, 2) := by decide +kernel
theorem dX12_goesTo_66 : decode cX12_goesTo 66 = .ok (.iload_n 1, 1) := by decide +kernel
theorem dX12_goesTo_67 : decode cX12_goesTo 67 = .ok (.iadd, 1) := by decide +kernel
theorem dX12_goesTo_68 : decode cX12_goesTo 68 = .ok (.iaload, 1) := by decide +kernel
theorem dX12_goesTo_69 : decode cX12_goesTo 69 = .ok (.iadd, 1) := by decide +kernel
theorem dX12_goesTo_70 : decode cX12_goesTo 70 = .ok (.if_icmp .lt 16, 3) := by decide +kernel
theorem dX12_goesTo_73 : decode cX12_goesTo 73 = .ok (.aload_n 0, 1) := by decide +kernel
theorem dX12_goesTo_74 : decode cX12_goesTo 74 = .ok (.getfield 33, 3) := by decide +kernel
theorem dX12_goesTo_77 : decode cX12_goesTo 77 = .ok (.bipush 81, 2) := by decide +kernel
theorem dX12_goesTo_79 : decode cX12_goesTo 79 = .ok (.iload_n 3, 1) := by decide +kernel
theorem dX12_goesTo_80 : decode cX12_goesTo 80 = .ok (.iadd, 1) := by decide +kernel
theorem dX12_goesTo_81 : decode cX12_goesTo 81 = .ok (.iload 4, 2) := by decide +kernel
theorem dX12_goesTo_83 : decode cX12_goesTo 83 = .ok (.iconst 1, 1) := by decide +kernel
theorem dX12_goesTo_84 : decode cX12_goesTo 84 = .ok (.iadd, 1) := by decide +kernel
theorem dX12_goesTo_85 : decode cX12_goesTo 85 = .ok (.iastore, 1) := by decide +kernel
theorem dX12_goesTo_86 : decode cX12_goesTo 86 = .ok (.aload_n 0, 1) := by decide +kernel
theorem dX12_goesTo_87 : decode cX12_goesTo 87 = .ok (.getfield 33, 3) := by decide +kernel
theorem dX12_goesTo_90 : decode cX12_goesTo 90 = .ok (.bipush 81, 2) := by decide +kernel
theorem dX12_goesTo_92 : decode cX12_goesTo 92 = .ok (.iload_n 3, 1) := by decide +kernel
theorem dX12_goesTo_93 : decode cX12_goesTo 93 = .ok (.iadd, 1) := by decide +kernel
theorem dX12_goesTo_94 : decode cX12_goesTo 94 = .ok (.iaload, 1) := by decide +kernel
theorem dX12_goesTo_95 : decode cX12_goesTo 95 = .ok (.ifCond .eq 29, 3) := by decide +kernel
theorem dX12_goesTo_98 : decode cX12_goesTo 98 = .ok (.aload_n 0, 1) := by decide +kernel
theorem dX12_goesTo_99 : decode cX12_goesTo 99 = .ok (.getfield 33, 3) := by decide +kernel
theorem dX12_goesTo_102 : decode cX12_goesTo 102 = .ok (.bipush 81, 2) := by decide +kernel
theorem dX12_goesTo_104 : decode cX12_goesTo 104 = .ok (.iload_n 3, 1) := by decide +kernel
theorem dX12_goesTo_105 : decode cX12_goesTo 105 = .ok (.iadd, 1) := by decide +kernel
theorem dX12_goesTo_106 : decode cX12_goesTo 106 = .ok (.iaload, 1) := by decide +kernel
theorem dX12_goesTo_107 : decode cX12_goesTo 107 = .ok (.aload_n 0, 1) := by decide +kernel
theorem dX12_goesTo_108 : decode cX12_goesTo 108 = .ok (.getfield 33, 3) := by decide +kernel
theorem dX12_goesTo_111 : decode cX12_goesTo 111 = .ok (.bipush 22, 2) := by decide +kernel
theorem dX12_goesTo_113 : decode cX12_goesTo 113 = .ok (.iload_n 1, 1) := by decide +kernel
theorem dX12_goesTo_114 : decode cX12_goesTo 114 = .ok (.iadd, 1) := by decide +kernel
theorem dX12_goesTo_115 : decode cX12_goesTo 115 = .ok (.iaload, 1) := by decide +kernel
theorem dX12_goesTo_116 : decode cX12_goesTo 116 = .ok (.iadd, 1) := by decide +kernel
theorem dX12_goesTo_117 : decode cX12_goesTo 117 = .ok (.iload 4, 2) := by decide +kernel
theorem dX12_goesTo_119 : decode cX12_goesTo 119 = .ok (.iconst 1, 1) := by decide +kernel
theorem dX12_goesTo_120 : decode cX12_goesTo 120 = .ok (.iadd, 1) := by decide +kernel
theorem dX12_goesTo_121 : decode cX12_goesTo 121 = .ok (.if_icmp .eq 4, 3) := by decide +kernel
theorem dX12_goesTo_124 : decode cX12_goesTo 124 = .ok (.return_, 1) := by decide +kernel
theorem dX12_goesTo_125 : decode cX12_goesTo 125 = .ok (.aload_n 0, 1) := by decide +kernel
theorem dX12_goesTo_126 : decode cX12_goesTo 126 = .ok (.getfield 33, 3) := by decide +kernel
theorem dX12_goesTo_129 : decode cX12_goesTo 129 = .ok (.bipush 117, 2) := by decide +kernel
theorem dX12_goesTo_131 : decode cX12_goesTo 131 = .ok (.iload_n 3, 1) := by decide +kernel
theorem dX12_goesTo_132 : decode cX12_goesTo 132 = .ok (.iadd, 1) := by decide +kernel
theorem dX12_goesTo_133 : decode cX12_goesTo 133 = .ok (.iload 4, 2) := by decide +kernel
theorem dX12_goesTo_135 : decode cX12_goesTo 135 = .ok (.iconst 1, 1) := by decide +kernel
theorem dX12_goesTo_136 : decode cX12_goesTo 136 = .ok (.iadd, 1) := by decide +kernel
theorem dX12_goesTo_137 : decode cX12_goesTo 137 = .ok (.iastore, 1) := by decide +kernel
theorem dX12_goesTo_138 : decode cX12_goesTo 138 = .ok (.aload_n 0, 1) := by decide +kernel
theorem dX12_goesTo_139 : decode cX12_goesTo 139 = .ok (.getfield 33, 3) := by decide +kernel
theorem dX12_goesTo_142 : decode cX12_goesTo 142 = .ok (.bipush 55, 2) := by decide +kernel
theorem dX12_goesTo_144 : decode cX12_goesTo 144 = .ok (.dup2, 1) := by decide +kernel
theorem dX12_goesTo_145 : decode cX12_goesTo 145 = .ok (.iaload, 1) := by decide +kernel
theorem dX12_goesTo_146 : decode cX12_goesTo 146 = .ok (.iconst 1, 1) := by decide +kernel
theorem dX12_goesTo_147 : decode cX12_goesTo 147 = .ok (.iadd, 1) := by decide +kernel
theorem dX12_goesTo_148 : decode cX12_goesTo 148 = .ok (.iastore, 1) := by decide +kernel
theorem dX12_goesTo_149 : decode cX12_goesTo 149 = .ok (.aload_n 0, 1) := by decide +kernel
theorem dX12_goesTo_150 : decode cX12_goesTo 150 = .ok (.getfield 33, 3) := by decide +kernel
theorem dX12_goesTo_153 : decode cX12_goesTo 153 = .ok (.bipush 56, 2) := by decide +kernel
theorem dX12_goesTo_155 : decode cX12_goesTo 155 = .ok (.dup2, 1) := by decide +kernel
theorem dX12_goesTo_156 : decode cX12_goesTo 156 = .ok (.iaload, 1) := by decide +kernel
theorem dX12_goesTo_157 : decode cX12_goesTo 157 = .ok (.iconst 0, 1) := by decide +kernel
theorem dX12_goesTo_158 : decode cX12_goesTo 158 = .ok (.iload 4, 2) := by decide +kernel
theorem dX12_goesTo_160 : decode cX12_goesTo 160 = .ok (.aload_n 0, 1) := by decide +kernel
theorem dX12_goesTo_161 : decode cX12_goesTo 161 = .ok (.getfield 33, 3) := by decide +kernel
theorem dX12_goesTo_164 : decode cX12_goesTo 164 = .ok (.bipush 75, 2) := by decide +kernel
theorem dX12_goesTo_166 : decode cX12_goesTo 166 = .ok (.iload_n 2, 1) := by decide +kernel
theorem dX12_goesTo_167 : decode cX12_goesTo 167 = .ok (.iadd, 1) := by decide +kernel
theorem dX12_goesTo_168 : decode cX12_goesTo 168 = .ok (.iaload, 1) := by decide +kernel
theorem dX12_goesTo_169 : decode cX12_goesTo 169 = .ok (.isub, 1) := by decide +kernel
theorem dX12_goesTo_170 : decode cX12_goesTo 170 = .ok (.invokestatic 294, 3) := by decide +kernel
theorem dX12_goesTo_173 : decode cX12_goesTo 173 = .ok (.iadd, 1) := by decide +kernel
theorem dX12_goesTo_174 : decode cX12_goesTo 174 = .ok (.iastore, 1) := by decide +kernel
theorem dX12_goesTo_175 : decode cX12_goesTo 175 = .ok (.iload 4, 2) := by decide +kernel
theorem dX12_goesTo_177 : decode cX12_goesTo 177 = .ok (.aload_n 0, 1) := by decide +kernel
theorem dX12_goesTo_178 : decode cX12_goesTo 178 = .ok (.getfield 33, 3) := by decide +kernel
theorem dX12_goesTo_181 : decode cX12_goesTo 181 = .ok (.bipush 75, 2) := by decide +kernel
theorem dX12_goesTo_183 : decode cX12_goesTo 183 = .ok (.iload_n 2, 1) := by decide +kernel
theorem dX12_goesTo_184 : decode cX12_goesTo 184 = .ok (.iadd, 1) := by decide +kernel
theorem dX12_goesTo_185 : decode cX12_goesTo 185 = .ok (.iaload, 1) := by decide +kernel
theorem dX12_goesTo_186 : decode cX12_goesTo 186 = .ok (.if_icmp .gt 16, 3) := by decide +kernel
theorem dX12_goesTo_189 : decode cX12_goesTo 189 = .ok (.aload_n 0, 1) := by decide +kernel
theorem dX12_goesTo_190 : decode cX12_goesTo 190 = .ok (.getfield 33, 3) := by decide +kernel
theorem dX12_goesTo_193 : decode cX12_goesTo 193 = .ok (.bipush 53, 2) := by decide +kernel
theorem dX12_goesTo_195 : decode cX12_goesTo 195 = .ok (.dup2, 1) := by decide +kernel
theorem dX12_goesTo_196 : decode cX12_goesTo 196 = .ok (.iaload, 1) := by decide +kernel
theorem dX12_goesTo_197 : decode cX12_goesTo 197 = .ok (.iconst 1, 1) := by decide +kernel
theorem dX12_goesTo_198 : decode cX12_goesTo 198 = .ok (.iload_n 1, 1) := by decide +kernel
theorem dX12_goesTo_199 : decode cX12_goesTo 199 = .ok (.ishl, 1) := by decide +kernel
theorem dX12_goesTo_200 : decode cX12_goesTo 200 = .ok (.ior, 1) := by decide +kernel
theorem dX12_goesTo_201 : decode cX12_goesTo 201 = .ok (.iastore, 1) := by decide +kernel
theorem dX12_goesTo_202 : decode cX12_goesTo 202 = .ok (.return_, 1) := by decide +kernel
set_option maxRecDepth 20000 in
theorem ggX12_minute_X12_isDueTo : GoodIn wsX12_minute wsX12_isDueTo := goodIn_r _ [6, 1, 7, 8, 5, 9, 29, 30, 31, 32, 33, 34, 35, 36, 37, 38, 39, 40, 41, 42, 43, 44, 45, 46, 47, 48, 49, 50, 51, 52, 53, 54, 55, 56, 57, 58, 59, 60, 61, 62, 63, 64, 65, 66, 67, 68, 69, 70, 71, 72, 73, 74] (by decide +kernel) (by decide +kernel)
set_option maxRecDepth 20000 in
theorem gX12_minute_X12_isDueTo : GoodIn wsX12_minute (wsV RX12 259 RX12 yX12_isDueTo wsX12_isDueTo) := goodIn_app (goodIn_of _ (by decide +kernel)) ggX12_minute_X12_isDueTo
set_option maxRecDepth 20000 in
theorem ggX12_minute_X12_goesTo : GoodIn wsX12_minute wsX12_goesTo := goodIn_r _ [13, 1, 14, 15, 16, 5, 17, 7, 8, 9, 18, 19, 20, 21, 22, 23, 24, 25, 26, 27, 28, 29, 30, 31, 32, 33, 34, 35, 36, 37, 38, 39, 40, 41, 42, 43, 44, 45, 46, 47, 48, 49, 50, 51, 52, 53, 54, 55, 56, 57, 58, 59, 60, 61, 62, 63, 64, 65, 66, 67, 68, 69, 70, 71, 72, 73, 74] (by decide +kernel) (by decide +kernel)
set_option maxRecDepth 20000 in
theorem gX12_minute_X12_goesTo : GoodIn wsX12_minute (wsV RX12 297 RX12 yX12_goesTo wsX12_goesTo) := goodIn_app (goodIn_of _ (by decide +kernel)) ggX12_minute_X12_goesTo
theorem dX12_minute_0 : decode cX12_minute 0 = .ok (.iconst 0, 1) := by decide +kernel
theorem dX12_minute_1 : decode cX12_minute 1 = .ok (.istore_n 1, 1) := by decide +kernel
theorem dX12_minute_2 : decode cX12_minute 2 = .ok (.iload_n 1, 1) := by decide +kernel
theorem dX12_minute_3 : decode cX12_minute 3 = .ok (.aload_n 0, 1) := by decide +kernel
theorem dX12_minute_4 : decode cX12_minute 4 = .ok (.getfield 33, 3) := by decide +kernel
theorem dX12_minute_7 : decode cX12_minute 7 = .ok (.iconst 2, 1) := by decide +kernel
theorem dX12_minute_8 : decode cX12_minute 8 = .ok (.iaload, 1) := by decide +kernel
theorem dX12_minute_9 : decode cX12_minute 9 = .ok (.if_icmp .ge 42, 3) := by decide +kernel
theorem dX12_minute_12 : decode cX12_minute 12 = .ok (.iconst 0, 1) := by decide +kernel
theorem dX12_minute_13 : decode cX12_minute 13 = .ok (.istore_n 2, 1) := by decide +kernel
theorem dX12_minute_14 : decode cX12_minute 14 = .ok (.iload_n 2, 1) := by decide +kernel
theorem dX12_minute_15 : decode cX12_minute 15 = .ok (.aload_n 0, 1) := by decide +kernel
theorem dX12_minute_16 : decode cX12_minute 16 = .ok (.getfield 33, 3) := by decide +kernel
theorem dX12_minute_19 : decode cX12_minute 19 = .ok (.iconst 1, 1) := by decide +kernel
theorem dX12_minute_20 : decode cX12_minute 20 = .ok (.iaload, 1) := by decide +kernel
theorem dX12_minute_21 : decode cX12_minute 21 = .ok (.if_icmp .ge 24, 3) := by decide +kernel
theorem dX12_minute_24 : decode cX12_minute 24 = .ok (.aload_n 0, 1) := by decide +kernel
theorem dX12_minute_25 : decode cX12_minute 25 = .ok (.iload_n 2, 1) := by decide +kernel
theorem dX12_minute_26 : decode cX12_minute 26 = .ok (.iload_n 1, 1) := by decide +kernel
theorem dX12_minute_27 : decode cX12_minute 27 = .ok (.invokevirtual 259, 3) := by decide +kernel
theorem dX12_minute_30 : decode cX12_minute 30 = .ok (.ifCond .eq 9, 3) := by decide +kernel
theorem dX12_minute_33 : decode cX12_minute 33 = .ok (.aload_n 0, 1) := by decide +kernel
theorem dX12_minute_34 : decode cX12_minute 34 = .ok (.iload_n 2, 1) := by decide +kernel
theorem dX12_minute_35 : decode cX12_minute 35 = .ok (.iload_n 1, 1) := by decide +kernel
theorem dX12_minute_36 : decode cX12_minute 36 = .ok (.invokevirtual 297, 3) := by decide +kernel
theorem dX12_minute_39 : decode cX12_minute 39 = .ok (.iinc 2 1, 3) := by decide +kernel
theorem dX12_minute_42 : decode cX12_minute 42 = .ok (.goto (-28), 3) := by decide +kernel
theorem dX12_minute_45 : decode cX12_minute 45 = .ok (.iinc 1 1, 3) := by decide +kernel
theorem dX12_minute_48 : decode cX12_minute 48 = .ok (.goto (-46), 3) := by decide +kernel
theorem dX12_minute_51 : decode cX12_minute 51 = .ok (.aload_n 0, 1) := by decide +kernel
theorem dX12_minute_52 : decode cX12_minute 52 = .ok (.getfield 33, 3) := by decide +kernel
theorem dX12_minute_55 : decode cX12_minute 55 = .ok (.bipush 52, 2) := by decide +kernel
theorem dX12_minute_57 : decode cX12_minute 57 = .ok (.dup2, 1) := by decide +kernel
theorem dX12_minute_58 : decode cX12_minute 58 = .ok (.iaload, 1) := by decide +kernel
theorem dX12_minute_59 : decode cX12_minute 59 = .ok (.iconst 1, 1) := by decide +kernel
theorem dX12_minute_60 : decode cX12_minute 60 = .ok (.iadd, 1) := by decide +kernel
theorem dX12_minute_61 : decode cX12_minute 61 = .ok (.iastore, 1) := by decide +kernel
theorem dX12_minute_62 : decode cX12_minute 62 = .ok (.return_, 1) := by decide +kernel
set_option maxRecDepth 20000 in
theorem ggX12_goesOn_X12_minute : GoodIn wsX12_goesOn wsX12_minute := goodIn_r _ [6, 1, 7, 8, 9, 5, 10, 11, 12, 13, 14, 15, 16, 17, 18, 19, 20, 21, 22, 23, 24, 25, 26, 27, 28, 29, 30, 31, 32, 33, 34, 35, 36, 37, 38, 39, 40, 41, 42, 43, 44, 45, 46, 47, 48, 49, 50, 51, 52, 53, 54, 55, 56, 57, 58, 59, 60, 61, 62, 63, 64, 65, 66, 67, 68, 69, 70, 71, 72, 73, 74, 75, 76, 77, 78] (by decide +kernel) (by decide +kernel)
set_option maxRecDepth 20000 in
theorem gX12_goesOn_X12_minute : GoodIn wsX12_goesOn (wsV RX12 301 RX12 yX12_minute wsX12_minute) := goodIn_app (goodIn_of _ (by decide +kernel)) ggX12_goesOn_X12_minute
theorem dX12_goesOn_0 : decode cX12_goesOn 0 = .ok (.iconst 0, 1) := by decide +kernel
theorem dX12_goesOn_1 : decode cX12_goesOn 1 = .ok (.istore_n 2, 1) := by decide +kernel
theorem dX12_goesOn_2 : decode cX12_goesOn 2 = .ok (.iload_n 2, 1) := by decide +kernel
theorem dX12_goesOn_3 : decode cX12_goesOn 3 = .ok (.iload_n 1, 1) := by decide +kernel
theorem dX12_goesOn_4 : decode cX12_goesOn 4 = .ok (.if_icmp .ge 26, 3) := by decide +kernel
theorem dX12_goesOn_7 : decode cX12_goesOn 7 = .ok (.aload_n 0, 1) := by decide +kernel
theorem dX12_goesOn_8 : decode cX12_goesOn 8 = .ok (.getfield 33, 3) := by decide +kernel
theorem dX12_goesOn_11 : decode cX12_goesOn 11 = .ok (.bipush 52, 2) := by decide +kernel
theorem dX12_goesOn_13 : decode cX12_goesOn 13 = .ok (.iaload, 1) := by decide +kernel
theorem dX12_goesOn_14 : decode cX12_goesOn 14 = .ok (.sipush 2000, 3) := by decide +kernel
theorem dX12_goesOn_17 : decode cX12_goesOn 17 = .ok (.if_icmp .ge 13, 3) := by decide +kernel
theorem dX12_goesOn_20 : decode cX12_goesOn 20 = .ok (.aload_n 0, 1) := by decide +kernel
theorem dX12_goesOn_21 : decode cX12_goesOn 21 = .ok (.invokevirtual 301, 3) := by decide +kernel
theorem dX12_goesOn_24 : decode cX12_goesOn 24 = .ok (.iinc 2 1, 3) := by decide +kernel
theorem dX12_goesOn_27 : decode cX12_goesOn 27 = .ok (.goto (-25), 3) := by decide +kernel
theorem dX12_goesOn_30 : decode cX12_goesOn 30 = .ok (.iload_n 2, 1) := by decide +kernel
theorem dX12_goesOn_31 : decode cX12_goesOn 31 = .ok (.ireturn, 1) := by decide +kernel
set_option maxRecDepth 20000 in
theorem ggX12_set_X12_isMaster : GoodIn wsX12_set wsX12_isMaster := goodIn_r _ [7, 2, 8, 9, 6, 10, 40, 41, 42, 43, 44, 45, 46, 47, 48, 49, 50, 51, 52, 53, 54, 55, 56, 57, 58, 59, 60, 61, 62, 63, 64, 65, 66, 67, 68, 69, 70, 71, 72, 73, 74, 75, 76, 77, 78, 79, 80, 81, 82, 83, 84, 85] (by decide +kernel) (by decide +kernel)
set_option maxRecDepth 20000 in
theorem gX12_set_X12_isMaster : GoodIn wsX12_set (wsV RX12 276 RX12 yX12_isMaster wsX12_isMaster) := goodIn_app (goodIn_of _ (by decide +kernel)) ggX12_set_X12_isMaster
set_option maxRecDepth 20000 in
theorem ggX12_set_X12_isClock : GoodIn wsX12_set wsX12_isClock := goodIn_r _ [14, 2, 8, 9, 6, 10, 40, 41, 42, 43, 44, 45, 46, 47, 48, 49, 50, 51, 52, 53, 54, 55, 56, 57, 58, 59, 60, 61, 62, 63, 64, 65, 66, 67, 68, 69, 70, 71, 72, 73, 74, 75, 76, 77, 78, 79, 80, 81, 82, 83, 84, 85] (by decide +kernel) (by decide +kernel)
set_option maxRecDepth 20000 in
theorem gX12_set_X12_isClock : GoodIn wsX12_set (wsV RX12 262 RX12 yX12_isClock wsX12_isClock) := goodIn_app (goodIn_of _ (by decide +kernel)) ggX12_set_X12_isClock
set_option maxRecDepth 20000 in
theorem ggX12_set_X12_whySet : GoodIn wsX12_set wsX12_whySet := goodIn_r _ [18, 19, 20, 21, 6, 22, 2, 23, 24, 25, 26, 27, 28, 29, 40, 41, 42, 43, 44, 45, 46, 47, 48, 49, 50, 51, 52, 53, 54, 55, 56, 57, 58, 59, 60, 61, 62, 63, 64, 65, 66, 67, 68, 69, 70, 71, 72, 73, 74, 75, 76, 77, 78, 79, 80, 81, 82, 83, 84, 85] (by decide +kernel) (by decide +kernel)
set_option maxRecDepth 20000 in
theorem gX12_set_X12_whySet : GoodIn wsX12_set (wsV RX12 304 RX12 yX12_whySet wsX12_whySet) := goodIn_app (goodIn_of _ (by decide +kernel)) ggX12_set_X12_whySet
set_option maxRecDepth 20000 in
theorem ggX12_set_X12_keep : GoodIn wsX12_set wsX12_keep := goodIn_r _ [33, 34, 35, 2, 40, 41, 42, 43, 44, 45, 46, 47, 48, 49, 50, 51, 52, 53, 54, 55, 56, 57, 58, 59, 60, 61, 62, 63, 64, 65, 66, 67, 68, 69, 70, 71, 72, 73, 74, 75, 76, 77, 78, 79, 80, 81, 82, 83, 84, 85] (by decide +kernel) (by decide +kernel)
set_option maxRecDepth 20000 in
theorem gX12_set_X12_keep : GoodIn wsX12_set (wsV RX12 307 RX12 yX12_keep wsX12_keep) := goodIn_app (goodIn_of _ (by decide +kernel)) ggX12_set_X12_keep
set_option maxRecDepth 20000 in
theorem ggX12_set_X12_runsFrom : GoodIn wsX12_set wsX12_runsFrom := goodIn_r _ [39, 2, 40, 41, 42, 43, 44, 45, 46, 47, 48, 49, 50, 51, 52, 53, 54, 55, 56, 57, 58, 59, 60, 61, 62, 63, 64, 65, 66, 67, 68, 69, 70, 71, 72, 73, 74, 75, 76, 77, 78, 79, 80, 81, 82, 83, 84, 85] (by decide +kernel) (by decide +kernel)
set_option maxRecDepth 20000 in
theorem gX12_set_X12_runsFrom : GoodIn wsX12_set (wsV RX12 310 RX12 yX12_runsFrom wsX12_runsFrom) := goodIn_app (goodIn_of _ (by decide +kernel)) ggX12_set_X12_runsFrom
theorem dX12_set_0 : decode cX12_set 0 = .ok (.aload_n 0, 1) := by decide +kernel
theorem dX12_set_1 : decode cX12_set 1 = .ok (.iconst 0, 1) := by decide +kernel
theorem dX12_set_2 : decode cX12_set 2 = .ok (.putfield 1, 3) := by decide +kernel
theorem dX12_set_5 : decode cX12_set 5 = .ok (.aload_n 0, 1) := by decide +kernel
theorem dX12_set_6 : decode cX12_set 6 = .ok (.iload_n 1, 1) := by decide +kernel
theorem dX12_set_7 : decode cX12_set 7 = .ok (.invokevirtual 276, 3) := by decide +kernel
theorem dX12_set_10 : decode cX12_set 10 = .ok (.ifCond .eq 11, 3) := by decide +kernel
theorem dX12_set_13 : decode cX12_set 13 = .ok (.aload_n 0, 1) := by decide +kernel
theorem dX12_set_14 : decode cX12_set 14 = .ok (.iload_n 2, 1) := by decide +kernel
theorem dX12_set_15 : decode cX12_set 15 = .ok (.invokevirtual 262, 3) := by decide +kernel
theorem dX12_set_18 : decode cX12_set 18 = .ok (.ifCond .ne 5, 3) := by decide +kernel
theorem dX12_set_21 : decode cX12_set 21 = .ok (.iconst (-1), 1) := by decide +kernel
theorem dX12_set_22 : decode cX12_set 22 = .ok (.ireturn, 1) := by decide +kernel
theorem dX12_set_23 : decode cX12_set 23 = .ok (.aload_n 0, 1) := by decide +kernel
theorem dX12_set_24 : decode cX12_set 24 = .ok (.iload_n 1, 1) := by decide +kernel
theorem dX12_set_25 : decode cX12_set 25 = .ok (.iload_n 2, 1) := by decide +kernel
theorem dX12_set_26 : decode cX12_set 26 = .ok (.invokevirtual 304, 3) := by decide +kernel
theorem dX12_set_29 : decode cX12_set 29 = .ok (.istore_n 3, 1) := by decide +kernel
theorem dX12_set_30 : decode cX12_set 30 = .ok (.iload_n 3, 1) := by decide +kernel
theorem dX12_set_31 : decode cX12_set 31 = .ok (.ifCond .le 5, 3) := by decide +kernel
theorem dX12_set_34 : decode cX12_set 34 = .ok (.iload_n 3, 1) := by decide +kernel
theorem dX12_set_35 : decode cX12_set 35 = .ok (.ireturn, 1) := by decide +kernel
theorem dX12_set_36 : decode cX12_set 36 = .ok (.aload_n 0, 1) := by decide +kernel
theorem dX12_set_37 : decode cX12_set 37 = .ok (.invokevirtual 307, 3) := by decide +kernel
theorem dX12_set_40 : decode cX12_set 40 = .ok (.aload_n 0, 1) := by decide +kernel
theorem dX12_set_41 : decode cX12_set 41 = .ok (.iload_n 2, 1) := by decide +kernel
theorem dX12_set_42 : decode cX12_set 42 = .ok (.aload_n 0, 1) := by decide +kernel
theorem dX12_set_43 : decode cX12_set 43 = .ok (.getfield 33, 3) := by decide +kernel
theorem dX12_set_46 : decode cX12_set 46 = .ok (.bipush 28, 2) := by decide +kernel
theorem dX12_set_48 : decode cX12_set 48 = .ok (.iload_n 1, 1) := by decide +kernel
theorem dX12_set_49 : decode cX12_set 49 = .ok (.iadd, 1) := by decide +kernel
theorem dX12_set_50 : decode cX12_set 50 = .ok (.iaload, 1) := by decide +kernel
theorem dX12_set_51 : decode cX12_set 51 = .ok (.ineg, 1) := by decide +kernel
theorem dX12_set_52 : decode cX12_set 52 = .ok (.invokevirtual 310, 3) := by decide +kernel
theorem dX12_set_55 : decode cX12_set 55 = .ok (.iconst 0, 1) := by decide +kernel
theorem dX12_set_56 : decode cX12_set 56 = .ok (.ireturn, 1) := by decide +kernel
set_option maxRecDepth 20000 in
theorem ggX12_stop_X12_isClock : GoodIn wsX12_stop wsX12_isClock := goodIn_r _ [6, 7, 8, 9, 5, 10, 32, 33, 34, 35, 36, 37, 38, 39, 40, 41, 42, 43, 44, 45, 46, 47, 48, 49, 50, 51, 52, 53, 54, 55, 56, 57, 58, 59, 60, 61, 62, 63, 64, 65, 66, 67, 68, 69, 70, 71, 72, 73, 74, 75, 76, 77] (by decide +kernel) (by decide +kernel)
set_option maxRecDepth 20000 in
theorem gX12_stop_X12_isClock : GoodIn wsX12_stop (wsV RX12 262 RX12 yX12_isClock wsX12_isClock) := goodIn_app (goodIn_of _ (by decide +kernel)) ggX12_stop_X12_isClock
set_option maxRecDepth 20000 in
theorem ggX12_stop_X12_isStopped : GoodIn wsX12_stop wsX12_isStopped := goodIn_r _ [14, 7, 15, 16, 5, 17, 32, 33, 34, 35, 36, 37, 38, 39, 40, 41, 42, 43, 44, 45, 46, 47, 48, 49, 50, 51, 52, 53, 54, 55, 56, 57, 58, 59, 60, 61, 62, 63, 64, 65, 66, 67, 68, 69, 70, 71, 72, 73, 74, 75, 76, 77] (by decide +kernel) (by decide +kernel)
set_option maxRecDepth 20000 in
theorem gX12_stop_X12_isStopped : GoodIn wsX12_stop (wsV RX12 253 RX12 yX12_isStopped wsX12_isStopped) := goodIn_app (goodIn_of _ (by decide +kernel)) ggX12_stop_X12_isStopped
set_option maxRecDepth 20000 in
theorem ggX12_stop_X12_keep : GoodIn wsX12_stop wsX12_keep := goodIn_r _ [21, 22, 23, 7, 32, 33, 34, 35, 36, 37, 38, 39, 40, 41, 42, 43, 44, 45, 46, 47, 48, 49, 50, 51, 52, 53, 54, 55, 56, 57, 58, 59, 60, 61, 62, 63, 64, 65, 66, 67, 68, 69, 70, 71, 72, 73, 74, 75, 76, 77] (by decide +kernel) (by decide +kernel)
set_option maxRecDepth 20000 in
theorem gX12_stop_X12_keep : GoodIn wsX12_stop (wsV RX12 307 RX12 yX12_keep wsX12_keep) := goodIn_app (goodIn_of _ (by decide +kernel)) ggX12_stop_X12_keep
set_option maxRecDepth 20000 in
theorem ggX12_stop_X12_stops : GoodIn wsX12_stop wsX12_stops := goodIn_r _ [27, 7, 28, 29, 30, 5, 31, 11, 12, 13, 14, 15, 16, 17, 32, 33, 34, 35, 36, 37, 38, 39, 40, 41, 42, 43, 44, 45, 46, 47, 48, 49, 50, 51, 52, 53, 54, 55, 56, 57, 58, 59, 60, 61, 62, 63, 64, 65, 66, 67, 68, 69, 70, 71, 72, 73, 74, 75, 76, 77] (by decide +kernel) (by decide +kernel)
set_option maxRecDepth 20000 in
theorem gX12_stop_X12_stops : GoodIn wsX12_stop (wsV RX12 313 RX12 yX12_stops wsX12_stops) := goodIn_app (goodIn_of _ (by decide +kernel)) ggX12_stop_X12_stops
theorem dX12_stop_0 : decode cX12_stop 0 = .ok (.aload_n 0, 1) := by decide +kernel
theorem dX12_stop_1 : decode cX12_stop 1 = .ok (.iconst 0, 1) := by decide +kernel
theorem dX12_stop_2 : decode cX12_stop 2 = .ok (.putfield 1, 3) := by decide +kernel
theorem dX12_stop_5 : decode cX12_stop 5 = .ok (.aload_n 0, 1) := by decide +kernel
theorem dX12_stop_6 : decode cX12_stop 6 = .ok (.iload_n 1, 1) := by decide +kernel
theorem dX12_stop_7 : decode cX12_stop 7 = .ok (.invokevirtual 262, 3) := by decide +kernel
theorem dX12_stop_10 : decode cX12_stop 10 = .ok (.ifCond .ne 5, 3) := by decide +kernel
theorem dX12_stop_13 : decode cX12_stop 13 = .ok (.iconst (-1), 1) := by decide +kernel
theorem dX12_stop_14 : decode cX12_stop 14 = .ok (.ireturn, 1) := by decide +kernel
theorem dX12_stop_15 : decode cX12_stop 15 = .ok (.aload_n 0, 1) := by decide +kernel
theorem dX12_stop_16 : decode cX12_stop 16 = .ok (.iload_n 1, 1) := by decide +kernel
theorem dX12_stop_17 : decode cX12_stop 17 = .ok (.invokevirtual 253, 3) := by decide +kernel
theorem dX12_stop_20 : decode cX12_stop 20 = .ok (.ifCond .eq 5, 3) := by decide +kernel
theorem dX12_stop_23 : decode cX12_stop 23 = .ok (.iconst 1, 1) := by decide +kernel
theorem dX12_stop_24 : decode cX12_stop 24 = .ok (.ireturn, 1) := by decide +kernel
theorem dX12_stop_25 : decode cX12_stop 25 = .ok (.aload_n 0, 1) := by decide +kernel
theorem dX12_stop_26 : decode cX12_stop 26 = .ok (.invokevirtual 307, 3) := by decide +kernel
theorem dX12_stop_29 : decode cX12_stop 29 = .ok (.aload_n 0, 1) := by decide +kernel
theorem dX12_stop_30 : decode cX12_stop 30 = .ok (.iload_n 1, 1) := by decide +kernel
theorem dX12_stop_31 : decode cX12_stop 31 = .ok (.invokevirtual 313, 3) := by decide +kernel
theorem dX12_stop_34 : decode cX12_stop 34 = .ok (.iconst 0, 1) := by decide +kernel
theorem dX12_stop_35 : decode cX12_stop 35 = .ok (.ireturn, 1) := by decide +kernel
set_option maxRecDepth 20000 in
theorem ggX12_start_X12_isClock : GoodIn wsX12_start wsX12_isClock := goodIn_r _ [6, 7, 8, 9, 5, 10, 36, 37, 38, 39, 40, 41, 42, 43, 44, 45, 46, 47, 48, 49, 50, 51, 52, 53, 54, 55, 56, 57, 58, 59, 60, 61, 62, 63, 64, 65, 66, 67, 68, 69, 70, 71, 72, 73, 74, 75, 76, 77, 78, 79, 80, 81] (by decide +kernel) (by decide +kernel)
set_option maxRecDepth 20000 in
theorem gX12_start_X12_isClock : GoodIn wsX12_start (wsV RX12 262 RX12 yX12_isClock wsX12_isClock) := goodIn_app (goodIn_of _ (by decide +kernel)) ggX12_start_X12_isClock
set_option maxRecDepth 20000 in
theorem ggX12_start_X12_isStopped : GoodIn wsX12_start wsX12_isStopped := goodIn_r _ [14, 7, 15, 16, 5, 17, 36, 37, 38, 39, 40, 41, 42, 43, 44, 45, 46, 47, 48, 49, 50, 51, 52, 53, 54, 55, 56, 57, 58, 59, 60, 61, 62, 63, 64, 65, 66, 67, 68, 69, 70, 71, 72, 73, 74, 75, 76, 77, 78, 79, 80, 81] (by decide +kernel) (by decide +kernel)
set_option maxRecDepth 20000 in
theorem gX12_start_X12_isStopped : GoodIn wsX12_start (wsV RX12 253 RX12 yX12_isStopped wsX12_isStopped) := goodIn_app (goodIn_of _ (by decide +kernel)) ggX12_start_X12_isStopped
set_option maxRecDepth 20000 in
theorem ggX12_start_X12_keep : GoodIn wsX12_start wsX12_keep := goodIn_r _ [21, 22, 23, 7, 36, 37, 38, 39, 40, 41, 42, 43, 44, 45, 46, 47, 48, 49, 50, 51, 52, 53, 54, 55, 56, 57, 58, 59, 60, 61, 62, 63, 64, 65, 66, 67, 68, 69, 70, 71, 72, 73, 74, 75, 76, 77, 78, 79, 80, 81] (by decide +kernel) (by decide +kernel)
set_option maxRecDepth 20000 in
theorem gX12_start_X12_keep : GoodIn wsX12_start (wsV RX12 307 RX12 yX12_keep wsX12_keep) := goodIn_app (goodIn_of _ (by decide +kernel)) ggX12_start_X12_keep
set_option maxRecDepth 20000 in
theorem ggX12_start_X12_wrongBy : GoodIn wsX12_start wsX12_wrongBy := goodIn_r _ [27, 7, 28, 29, 30, 5, 31, 11, 12, 13, 14, 15, 16, 17, 36, 37, 38, 39, 40, 41, 42, 43, 44, 45, 46, 47, 48, 49, 50, 51, 52, 53, 54, 55, 56, 57, 58, 59, 60, 61, 62, 63, 64, 65, 66, 67, 68, 69, 70, 71, 72, 73, 74, 75, 76, 77, 78, 79, 80, 81] (by decide +kernel) (by decide +kernel)
set_option maxRecDepth 20000 in
theorem gX12_start_X12_wrongBy : GoodIn wsX12_start (wsV RX12 272 RX12 yX12_wrongBy wsX12_wrongBy) := goodIn_app (goodIn_of _ (by decide +kernel)) ggX12_start_X12_wrongBy
set_option maxRecDepth 20000 in
theorem ggX12_start_X12_runsFrom : GoodIn wsX12_start wsX12_runsFrom := goodIn_r _ [35, 7, 36, 37, 38, 39, 40, 41, 42, 43, 44, 45, 46, 47, 48, 49, 50, 51, 52, 53, 54, 55, 56, 57, 58, 59, 60, 61, 62, 63, 64, 65, 66, 67, 68, 69, 70, 71, 72, 73, 74, 75, 76, 77, 78, 79, 80, 81] (by decide +kernel) (by decide +kernel)
set_option maxRecDepth 20000 in
theorem gX12_start_X12_runsFrom : GoodIn wsX12_start (wsV RX12 310 RX12 yX12_runsFrom wsX12_runsFrom) := goodIn_app (goodIn_of _ (by decide +kernel)) ggX12_start_X12_runsFrom
theorem dX12_start_0 : decode cX12_start 0 = .ok (.aload_n 0, 1) := by decide +kernel
theorem dX12_start_1 : decode cX12_start 1 = .ok (.iconst 0, 1) := by decide +kernel
theorem dX12_start_2 : decode cX12_start 2 = .ok (.putfield 1, 3) := by decide +kernel
theorem dX12_start_5 : decode cX12_start 5 = .ok (.aload_n 0, 1) := by decide +kernel
theorem dX12_start_6 : decode cX12_start 6 = .ok (.iload_n 1, 1) := by decide +kernel
theorem dX12_start_7 : decode cX12_start 7 = .ok (.invokevirtual 262, 3) := by decide +kernel
theorem dX12_start_10 : decode cX12_start 10 = .ok (.ifCond .ne 5, 3) := by decide +kernel
theorem dX12_start_13 : decode cX12_start 13 = .ok (.iconst (-1), 1) := by decide +kernel
theorem dX12_start_14 : decode cX12_start 14 = .ok (.ireturn, 1) := by decide +kernel
theorem dX12_start_15 : decode cX12_start 15 = .ok (.aload_n 0, 1) := by decide +kernel
theorem dX12_start_16 : decode cX12_start 16 = .ok (.iload_n 1, 1) := by decide +kernel
theorem dX12_start_17 : decode cX12_start 17 = .ok (.invokevirtual 253, 3) := by decide +kernel
theorem dX12_start_20 : decode cX12_start 20 = .ok (.ifCond .ne 5, 3) := by decide +kernel
theorem dX12_start_23 : decode cX12_start 23 = .ok (.iconst 1, 1) := by decide +kernel
theorem dX12_start_24 : decode cX12_start 24 = .ok (.ireturn, 1) := by decide +kernel
theorem dX12_start_25 : decode cX12_start 25 = .ok (.aload_n 0, 1) := by decide +kernel
theorem dX12_start_26 : decode cX12_start 26 = .ok (.invokevirtual 307, 3) := by decide +kernel
theorem dX12_start_29 : decode cX12_start 29 = .ok (.aload_n 0, 1) := by decide +kernel
theorem dX12_start_30 : decode cX12_start 30 = .ok (.iload_n 1, 1) := by decide +kernel
theorem dX12_start_31 : decode cX12_start 31 = .ok (.aload_n 0, 1) := by decide +kernel
theorem dX12_start_32 : decode cX12_start 32 = .ok (.iload_n 1, 1) := by decide +kernel
theorem dX12_start_33 : decode cX12_start 33 = .ok (.invokevirtual 272, 3) := by decide +kernel
theorem dX12_start_36 : decode cX12_start 36 = .ok (.invokevirtual 310, 3) := by decide +kernel
theorem dX12_start_39 : decode cX12_start 39 = .ok (.iconst 0, 1) := by decide +kernel
theorem dX12_start_40 : decode cX12_start 40 = .ok (.ireturn, 1) := by decide +kernel
set_option maxRecDepth 20000 in
theorem ggX12_move_X12_isMeet : GoodIn wsX12_move wsX12_isMeet := goodIn_r _ [7, 2, 8, 9, 6, 10, 25, 26, 27, 28, 29, 30, 31, 32, 33, 34, 35, 36, 37, 38, 39, 40, 41, 42, 43, 44, 45, 46, 47, 48, 49, 50, 51, 52, 53, 54, 55, 56, 57, 58, 59, 60, 61, 62, 63, 64, 65, 66, 67, 68, 69, 70] (by decide +kernel) (by decide +kernel)
set_option maxRecDepth 20000 in
theorem gX12_move_X12_isMeet : GoodIn wsX12_move (wsV RX12 288 RX12 yX12_isMeet wsX12_isMeet) := goodIn_app (goodIn_of _ (by decide +kernel)) ggX12_move_X12_isMeet
set_option maxRecDepth 20000 in
theorem ggX12_move_X12_isIn : GoodIn wsX12_move wsX12_isIn := goodIn_r _ [10] (by decide +kernel) (by decide +kernel)
set_option maxRecDepth 20000 in
theorem gX12_move_X12_isIn : GoodIn wsX12_move (va_wsS RX12 184 yX12_isIn wsX12_isIn) := goodIn_app (goodIn_of _ (by decide +kernel)) ggX12_move_X12_isIn
set_option maxRecDepth 20000 in
theorem ggX12_move_X12_whyMove : GoodIn wsX12_move wsX12_whyMove := goodIn_r _ [14, 2, 15, 16, 17, 6, 18, 25, 26, 27, 28, 29, 30, 31, 32, 33, 34, 35, 36, 37, 38, 39, 40, 41, 42, 43, 44, 45, 46, 47, 48, 49, 50, 51, 52, 53, 54, 55, 56, 57, 58, 59, 60, 61, 62, 63, 64, 65, 66, 67, 68, 69, 70] (by decide +kernel) (by decide +kernel)
set_option maxRecDepth 20000 in
theorem gX12_move_X12_whyMove : GoodIn wsX12_move (wsV RX12 316 RX12 yX12_whyMove wsX12_whyMove) := goodIn_app (goodIn_of _ (by decide +kernel)) ggX12_move_X12_whyMove
set_option maxRecDepth 20000 in
theorem ggX12_move_X12_keep : GoodIn wsX12_move wsX12_keep := goodIn_r _ [22, 23, 24, 2, 25, 26, 27, 28, 29, 30, 31, 32, 33, 34, 35, 36, 37, 38, 39, 40, 41, 42, 43, 44, 45, 46, 47, 48, 49, 50, 51, 52, 53, 54, 55, 56, 57, 58, 59, 60, 61, 62, 63, 64, 65, 66, 67, 68, 69, 70] (by decide +kernel) (by decide +kernel)
set_option maxRecDepth 20000 in
theorem gX12_move_X12_keep : GoodIn wsX12_move (wsV RX12 307 RX12 yX12_keep wsX12_keep) := goodIn_app (goodIn_of _ (by decide +kernel)) ggX12_move_X12_keep
theorem dX12_move_0 : decode cX12_move 0 = .ok (.aload_n 0, 1) := by decide +kernel
theorem dX12_move_1 : decode cX12_move 1 = .ok (.iconst 0, 1) := by decide +kernel
theorem dX12_move_2 : decode cX12_move 2 = .ok (.putfield 1, 3) := by decide +kernel
theorem dX12_move_5 : decode cX12_move 5 = .ok (.aload_n 0, 1) := by decide +kernel
theorem dX12_move_6 : decode cX12_move 6 = .ok (.iload_n 1, 1) := by decide +kernel
theorem dX12_move_7 : decode cX12_move 7 = .ok (.invokevirtual 288, 3) := by decide +kernel
theorem dX12_move_10 : decode cX12_move 10 = .ok (.ifCond .eq 14, 3) := by decide +kernel
theorem dX12_move_13 : decode cX12_move 13 = .ok (.iload_n 2, 1) := by decide +kernel
theorem dX12_move_14 : decode cX12_move 14 = .ok (.iconst 0, 1) := by decide +kernel
theorem dX12_move_15 : decode cX12_move 15 = .ok (.sipush 1999, 3) := by decide +kernel
theorem dX12_move_18 : decode cX12_move 18 = .ok (.invokestatic 184, 3) := by decide +kernel
theorem dX12_move_21 : decode cX12_move 21 = .ok (.ifCond .ne 5, 3) := by decide +kernel
theorem dX12_move_24 : decode cX12_move 24 = .ok (.iconst (-1), 1) := by decide +kernel
theorem dX12_move_25 : decode cX12_move 25 = .ok (.ireturn, 1) := by decide +kernel
theorem dX12_move_26 : decode cX12_move 26 = .ok (.aload_n 0, 1) := by decide +kernel
theorem dX12_move_27 : decode cX12_move 27 = .ok (.iload_n 1, 1) := by decide +kernel
theorem dX12_move_28 : decode cX12_move 28 = .ok (.iload_n 2, 1) := by decide +kernel
theorem dX12_move_29 : decode cX12_move 29 = .ok (.invokevirtual 316, 3) := by decide +kernel
theorem dX12_move_32 : decode cX12_move 32 = .ok (.istore_n 3, 1) := by decide +kernel
theorem dX12_move_33 : decode cX12_move 33 = .ok (.iload_n 3, 1) := by decide +kernel
theorem dX12_move_34 : decode cX12_move 34 = .ok (.ifCond .le 5, 3) := by decide +kernel
theorem dX12_move_37 : decode cX12_move 37 = .ok (.iload_n 3, 1) := by decide +kernel
theorem dX12_move_38 : decode cX12_move 38 = .ok (.ireturn, 1) := by decide +kernel
theorem dX12_move_39 : decode cX12_move 39 = .ok (.aload_n 0, 1) := by decide +kernel
theorem dX12_move_40 : decode cX12_move 40 = .ok (.invokevirtual 307, 3) := by decide +kernel
theorem dX12_move_43 : decode cX12_move 43 = .ok (.aload_n 0, 1) := by decide +kernel
theorem dX12_move_44 : decode cX12_move 44 = .ok (.getfield 33, 3) := by decide +kernel
theorem dX12_move_47 : decode cX12_move 47 = .ok (.bipush 75, 2) := by decide +kernel
theorem dX12_move_49 : decode cX12_move 49 = .ok (.iload_n 1, 1) := by decide +kernel
theorem dX12_move_50 : decode cX12_move 50 = .ok (.iadd, 1) := by decide +kernel
theorem dX12_move_51 : decode cX12_move 51 = .ok (.iload_n 2, 1) := by decide +kernel
theorem dX12_move_52 : decode cX12_move 52 = .ok (.iastore, 1) := by decide +kernel
theorem dX12_move_53 : decode cX12_move 53 = .ok (.iconst 0, 1) := by decide +kernel
theorem dX12_move_54 : decode cX12_move 54 = .ok (.ireturn, 1) := by decide +kernel
set_option maxRecDepth 20000 in
theorem ggX12_minutes_X12_isIn : GoodIn wsX12_minutes wsX12_isIn := goodIn_r _ [6] (by decide +kernel) (by decide +kernel)
set_option maxRecDepth 20000 in
theorem gX12_minutes_X12_isIn : GoodIn wsX12_minutes (va_wsS RX12 184 yX12_isIn wsX12_isIn) := goodIn_app (goodIn_of _ (by decide +kernel)) ggX12_minutes_X12_isIn
set_option maxRecDepth 20000 in
theorem ggX12_minutes_X12_keep : GoodIn wsX12_minutes wsX12_keep := goodIn_r _ [10, 11, 12, 2, 47, 48, 49, 50, 51, 52, 53, 54, 55, 56, 57, 58, 59, 60, 61, 62, 63, 64, 65, 66, 67, 68, 69, 70, 71, 72, 73, 74, 75, 76, 77, 78, 79, 80, 81, 82, 83, 84, 85, 86, 87, 88, 89, 90, 91, 92] (by decide +kernel) (by decide +kernel)
set_option maxRecDepth 20000 in
theorem gX12_minutes_X12_keep : GoodIn wsX12_minutes (wsV RX12 307 RX12 yX12_keep wsX12_keep) := goodIn_app (goodIn_of _ (by decide +kernel)) ggX12_minutes_X12_keep
set_option maxRecDepth 20000 in
theorem ggX12_minutes_X12_goesOn : GoodIn wsX12_minutes wsX12_goesOn := goodIn_r _ [16, 2, 17, 18, 19, 5, 20, 21, 22, 23, 24, 25, 26, 27, 28, 29, 30, 31, 32, 33, 34, 35, 36, 37, 38, 39, 40, 41, 42, 43, 44, 45, 46, 47, 48, 49, 50, 51, 52, 53, 54, 55, 56, 57, 58, 59, 60, 61, 62, 63, 64, 65, 66, 67, 68, 69, 70, 71, 72, 73, 74, 75, 76, 77, 78, 79, 80, 81, 82, 83, 84, 85, 86, 87, 88, 89, 90, 91, 92] (by decide +kernel) (by decide +kernel)
set_option maxRecDepth 20000 in
theorem gX12_minutes_X12_goesOn : GoodIn wsX12_minutes (wsV RX12 319 RX12 yX12_goesOn wsX12_goesOn) := goodIn_app (goodIn_of _ (by decide +kernel)) ggX12_minutes_X12_goesOn
theorem dX12_minutes_0 : decode cX12_minutes 0 = .ok (.aload_n 0, 1) := by decide +kernel
theorem dX12_minutes_1 : decode cX12_minutes 1 = .ok (.iconst 0, 1) := by decide +kernel
theorem dX12_minutes_2 : decode cX12_minutes 2 = .ok (.putfield 1, 3) := by decide +kernel
theorem dX12_minutes_5 : decode cX12_minutes 5 = .ok (.iload_n 1, 1) := by decide +kernel
theorem dX12_minutes_6 : decode cX12_minutes 6 = .ok (.iconst 1, 1) := by decide +kernel
theorem dX12_minutes_7 : decode cX12_minutes 7 = .ok (.sipush 999, 3) := by decide +kernel
theorem dX12_minutes_10 : decode cX12_minutes 10 = .ok (.invokestatic 184, 3) := by decide +kernel
theorem dX12_minutes_13 : decode cX12_minutes 13 = .ok (.ifCond .ne 5, 3) := by decide +kernel
theorem dX12_minutes_16 : decode cX12_minutes 16 = .ok (.iconst (-1), 1) := by decide +kernel
theorem dX12_minutes_17 : decode cX12_minutes 17 = .ok (.ireturn, 1) := by decide +kernel
theorem dX12_minutes_18 : decode cX12_minutes 18 = .ok (.aload_n 0, 1) := by decide +kernel
theorem dX12_minutes_19 : decode cX12_minutes 19 = .ok (.getfield 33, 3) := by decide +kernel
theorem dX12_minutes_22 : decode cX12_minutes 22 = .ok (.bipush 52, 2) := by decide +kernel
theorem dX12_minutes_24 : decode cX12_minutes 24 = .ok (.iaload, 1) := by decide +kernel
theorem dX12_minutes_25 : decode cX12_minutes 25 = .ok (.sipush 2000, 3) := by decide +kernel
theorem dX12_minutes_28 : decode cX12_minutes 28 = .ok (.if_icmp .ne 5, 3) := by decide +kernel
theorem dX12_minutes_31 : decode cX12_minutes 31 = .ok (.iconst 0, 1) := by decide +kernel
theorem dX12_minutes_32 : decode cX12_minutes 32 = .ok (.ireturn, 1) := by decide +kernel
theorem dX12_minutes_33 : decode cX12_minutes 33 = .ok (.aload_n 0, 1) := by decide +kernel
theorem dX12_minutes_34 : decode cX12_minutes 34 = .ok (.invokevirtual 307, 3) := by decide +kernel
theorem dX12_minutes_37 : decode cX12_minutes 37 = .ok (.aload_n 0, 1) := by decide +kernel
theorem dX12_minutes_38 : decode cX12_minutes 38 = .ok (.iload_n 1, 1) := by decide +kernel
theorem dX12_minutes_39 : decode cX12_minutes 39 = .ok (.invokevirtual 319, 3) := by decide +kernel
theorem dX12_minutes_42 : decode cX12_minutes 42 = .ok (.ireturn, 1) := by decide +kernel
theorem dX12_keep_0 : decode cX12_keep 0 = .ok (.aload_n 0, 1) := by decide +kernel
theorem dX12_keep_1 : decode cX12_keep 1 = .ok (.getfield 250, 3) := by decide +kernel
theorem dX12_keep_4 : decode cX12_keep 4 = .ok (.bipush 8, 2) := by decide +kernel
theorem dX12_keep_6 : decode cX12_keep 6 = .ok (.if_icmp .ne 39, 3) := by decide +kernel
theorem dX12_keep_9 : decode cX12_keep 9 = .ok (.iconst 0, 1) := by decide +kernel
theorem dX12_keep_10 : decode cX12_keep 10 = .ok (.istore_n 1, 1) := by decide +kernel
theorem dX12_keep_11 : decode cX12_keep 11 = .ok (.iload_n 1, 1) := by decide +kernel
theorem dX12_keep_12 : decode cX12_keep 12 = .ok (.sipush 707, 3) := by decide +kernel
theorem dX12_keep_15 : decode cX12_keep 15 = .ok (.if_icmp .ge 24, 3) := by decide +kernel
theorem dX12_keep_18 : decode cX12_keep 18 = .ok (.aload_n 0, 1) := by decide +kernel
theorem dX12_keep_19 : decode cX12_keep 19 = .ok (.getfield 50, 3) := by decide +kernel
theorem dX12_keep_22 : decode cX12_keep 22 = .ok (.iload_n 1, 1) := by decide +kernel
theorem dX12_keep_23 : decode cX12_keep 23 = .ok (.aload_n 0, 1) := by decide +kernel
theorem dX12_keep_24 : decode cX12_keep 24 = .ok (.getfield 50, 3) := by decide +kernel
theorem dX12_keep_27 : decode cX12_keep 27 = .ok (.iload_n 1, 1) := by decide +kernel
theorem dX12_keep_28 : decode cX12_keep 28 = .ok (.bipush 101, 2) := by decide +kernel
theorem dX12_keep_30 : decode cX12_keep 30 = .ok (.iadd, 1) := by decide +kernel
theorem dX12_keep_31 : decode cX12_keep 31 = .ok (.iaload, 1) := by decide +kernel
theorem dX12_keep_32 : decode cX12_keep 32 = .ok (.iastore, 1) := by decide +kernel
theorem dX12_keep_33 : decode cX12_keep 33 = .ok (.iinc 1 1, 3) := by decide +kernel
theorem dX12_keep_36 : decode cX12_keep 36 = .ok (.goto (-25), 3) := by decide +kernel
theorem dX12_keep_39 : decode cX12_keep 39 = .ok (.aload_n 0, 1) := by decide +kernel
theorem dX12_keep_40 : decode cX12_keep 40 = .ok (.bipush 7, 2) := by decide +kernel
theorem dX12_keep_42 : decode cX12_keep 42 = .ok (.putfield 250, 3) := by decide +kernel
theorem dX12_keep_45 : decode cX12_keep 45 = .ok (.iconst 0, 1) := by decide +kernel
theorem dX12_keep_46 : decode cX12_keep 46 = .ok (.istore_n 1, 1) := by decide +kernel
theorem dX12_keep_47 : decode cX12_keep 47 = .ok (.iload_n 1, 1) := by decide +kernel
theorem dX12_keep_48 : decode cX12_keep 48 = .ok (.bipush 101, 2) := by decide +kernel
theorem dX12_keep_50 : decode cX12_keep 50 = .ok (.if_icmp .ge 32, 3) := by decide +kernel
theorem dX12_keep_53 : decode cX12_keep 53 = .ok (.aload_n 0, 1) := by decide +kernel
theorem dX12_keep_54 : decode cX12_keep 54 = .ok (.getfield 50, 3) := by decide +kernel
theorem dX12_keep_57 : decode cX12_keep 57 = .ok (.bipush 101, 2) := by decide +kernel
theorem dX12_keep_59 : decode cX12_keep 59 = .ok (.aload_n 0, 1) := by decide +kernel
theorem dX12_keep_60 : decode cX12_keep 60 = .ok (.getfield 250, 3) := by decide +kernel
theorem dX12_keep_63 : decode cX12_keep 63 = .ok (.imul, 1) := by decide +kernel
theorem dX12_keep_64 : decode cX12_keep 64 = .ok (.iload_n 1, 1) := by decide +kernel
theorem dX12_keep_65 : decode cX12_keep 65 = .ok (.iadd, 1) := by decide +kernel
theorem dX12_keep_66 : decode cX12_keep 66 = .ok (.aload_n 0, 1) := by decide +kernel
theorem dX12_keep_67 : decode cX12_keep 67 = .ok (.getfield 33, 3) := by decide +kernel
theorem dX12_keep_70 : decode cX12_keep 70 = .ok (.bipush 52, 2) := by decide +kernel
theorem dX12_keep_72 : decode cX12_keep 72 = .ok (.iload_n 1, 1) := by decide +kernel
theorem dX12_keep_73 : decode cX12_keep 73 = .ok (.iadd, 1) := by decide +kernel
theorem dX12_keep_74 : decode cX12_keep 74 = .ok (.iaload, 1) := by decide +kernel
theorem dX12_keep_75 : decode cX12_keep 75 = .ok (.iastore, 1) := by decide +kernel
theorem dX12_keep_76 : decode cX12_keep 76 = .ok (.iinc 1 1, 3) := by decide +kernel
theorem dX12_keep_79 : decode cX12_keep 79 = .ok (.goto (-32), 3) := by decide +kernel
theorem dX12_keep_82 : decode cX12_keep 82 = .ok (.aload_n 0, 1) := by decide +kernel
theorem dX12_keep_83 : decode cX12_keep 83 = .ok (.dup, 1) := by decide +kernel
theorem dX12_keep_84 : decode cX12_keep 84 = .ok (.getfield 250, 3) := by decide +kernel
theorem dX12_keep_87 : decode cX12_keep 87 = .ok (.iconst 1, 1) := by decide +kernel
theorem dX12_keep_88 : decode cX12_keep 88 = .ok (.iadd, 1) := by decide +kernel
theorem dX12_keep_89 : decode cX12_keep 89 = .ok (.putfield 250, 3) := by decide +kernel
theorem dX12_keep_92 : decode cX12_keep 92 = .ok (.return_, 1) := by decide +kernel
theorem dX12_undo_0 : decode cX12_undo 0 = .ok (.aload_n 0, 1) := by decide +kernel
theorem dX12_undo_1 : decode cX12_undo 1 = .ok (.iconst 0, 1) := by decide +kernel
theorem dX12_undo_2 : decode cX12_undo 2 = .ok (.putfield 1, 3) := by decide +kernel
theorem dX12_undo_5 : decode cX12_undo 5 = .ok (.aload_n 0, 1) := by decide +kernel
theorem dX12_undo_6 : decode cX12_undo 6 = .ok (.getfield 250, 3) := by decide +kernel
theorem dX12_undo_9 : decode cX12_undo 9 = .ok (.ifCond .ne 5, 3) := by decide +kernel
theorem dX12_undo_12 : decode cX12_undo 12 = .ok (.iconst (-1), 1) := by decide +kernel
theorem dX12_undo_13 : decode cX12_undo 13 = .ok (.ireturn, 1) := by decide +kernel
theorem dX12_undo_14 : decode cX12_undo 14 = .ok (.aload_n 0, 1) := by decide +kernel
theorem dX12_undo_15 : decode cX12_undo 15 = .ok (.dup, 1) := by decide +kernel
theorem dX12_undo_16 : decode cX12_undo 16 = .ok (.getfield 250, 3) := by decide +kernel
theorem dX12_undo_19 : decode cX12_undo 19 = .ok (.iconst 1, 1) := by decide +kernel
theorem dX12_undo_20 : decode cX12_undo 20 = .ok (.isub, 1) := by decide +kernel
theorem dX12_undo_21 : decode cX12_undo 21 = .ok (.putfield 250, 3) := by decide +kernel
theorem dX12_undo_24 : decode cX12_undo 24 = .ok (.iconst 0, 1) := by decide +kernel
theorem dX12_undo_25 : decode cX12_undo 25 = .ok (.istore_n 1, 1) := by decide +kernel
theorem dX12_undo_26 : decode cX12_undo 26 = .ok (.iload_n 1, 1) := by decide +kernel
theorem dX12_undo_27 : decode cX12_undo 27 = .ok (.bipush 101, 2) := by decide +kernel
theorem dX12_undo_29 : decode cX12_undo 29 = .ok (.if_icmp .ge 32, 3) := by decide +kernel
theorem dX12_undo_32 : decode cX12_undo 32 = .ok (.aload_n 0, 1) := by decide +kernel
theorem dX12_undo_33 : decode cX12_undo 33 = .ok (.getfield 33, 3) := by decide +kernel
theorem dX12_undo_36 : decode cX12_undo 36 = .ok (.bipush 52, 2) := by decide +kernel
theorem dX12_undo_38 : decode cX12_undo 38 = .ok (.iload_n 1, 1) := by decide +kernel
theorem dX12_undo_39 : decode cX12_undo 39 = .ok (.iadd, 1) := by decide +kernel
theorem dX12_undo_40 : decode cX12_undo 40 = .ok (.aload_n 0, 1) := by decide +kernel
theorem dX12_undo_41 : decode cX12_undo 41 = .ok (.getfield 50, 3) := by decide +kernel
theorem dX12_undo_44 : decode cX12_undo 44 = .ok (.bipush 101, 2) := by decide +kernel
theorem dX12_undo_46 : decode cX12_undo 46 = .ok (.aload_n 0, 1) := by decide +kernel
theorem dX12_undo_47 : decode cX12_undo 47 = .ok (.getfield 250, 3) := by decide +kernel
theorem dX12_undo_50 : decode cX12_undo 50 = .ok (.imul, 1) := by decide +kernel
theorem dX12_undo_51 : decode cX12_undo 51 = .ok (.iload_n 1, 1) := by decide +kernel
theorem dX12_undo_52 : decode cX12_undo 52 = .ok (.iadd, 1) := by decide +kernel
theorem dX12_undo_53 : decode cX12_undo 53 = .ok (.iaload, 1) := by decide +kernel
theorem dX12_undo_54 : decode cX12_undo 54 = .ok (.iastore, 1) := by decide +kernel
theorem dX12_undo_55 : decode cX12_undo 55 = .ok (.iinc 1 1, 3) := by decide +kernel
theorem dX12_undo_58 : decode cX12_undo 58 = .ok (.goto (-32), 3) := by decide +kernel
theorem dX12_undo_61 : decode cX12_undo 61 = .ok (.aload_n 0, 1) := by decide +kernel
theorem dX12_undo_62 : decode cX12_undo 62 = .ok (.getfield 250, 3) := by decide +kernel
theorem dX12_undo_65 : decode cX12_undo 65 = .ok (.ireturn, 1) := by decide +kernel
theorem dX12_tries_0 : decode cX12_tries 0 = .ok (.iconst 0, 1) := by decide +kernel
theorem dX12_tries_1 : decode cX12_tries 1 = .ok (.istore_n 1, 1) := by decide +kernel
theorem dX12_tries_2 : decode cX12_tries 2 = .ok (.iload_n 1, 1) := by decide +kernel
theorem dX12_tries_3 : decode cX12_tries 3 = .ok (.bipush 101, 2) := by decide +kernel
theorem dX12_tries_5 : decode cX12_tries 5 = .ok (.if_icmp .ge 24, 3) := by decide +kernel
theorem dX12_tries_8 : decode cX12_tries 8 = .ok (.aload_n 0, 1) := by decide +kernel
theorem dX12_tries_9 : decode cX12_tries 9 = .ok (.getfield 53, 3) := by decide +kernel
theorem dX12_tries_12 : decode cX12_tries 12 = .ok (.iload_n 1, 1) := by decide +kernel
theorem dX12_tries_13 : decode cX12_tries 13 = .ok (.aload_n 0, 1) := by decide +kernel
theorem dX12_tries_14 : decode cX12_tries 14 = .ok (.getfield 33, 3) := by decide +kernel
theorem dX12_tries_17 : decode cX12_tries 17 = .ok (.bipush 52, 2) := by decide +kernel
theorem dX12_tries_19 : decode cX12_tries 19 = .ok (.iload_n 1, 1) := by decide +kernel
theorem dX12_tries_20 : decode cX12_tries 20 = .ok (.iadd, 1) := by decide +kernel
theorem dX12_tries_21 : decode cX12_tries 21 = .ok (.iaload, 1) := by decide +kernel
theorem dX12_tries_22 : decode cX12_tries 22 = .ok (.iastore, 1) := by decide +kernel
theorem dX12_tries_23 : decode cX12_tries 23 = .ok (.iinc 1 1, 3) := by decide +kernel
theorem dX12_tries_26 : decode cX12_tries 26 = .ok (.goto (-24), 3) := by decide +kernel
theorem dX12_tries_29 : decode cX12_tries 29 = .ok (.return_, 1) := by decide +kernel
theorem dX12_back_0 : decode cX12_back 0 = .ok (.iconst 0, 1) := by decide +kernel
theorem dX12_back_1 : decode cX12_back 1 = .ok (.istore_n 1, 1) := by decide +kernel
theorem dX12_back_2 : decode cX12_back 2 = .ok (.iload_n 1, 1) := by decide +kernel
theorem dX12_back_3 : decode cX12_back 3 = .ok (.bipush 101, 2) := by decide +kernel
theorem dX12_back_5 : decode cX12_back 5 = .ok (.if_icmp .ge 24, 3) := by decide +kernel
theorem dX12_back_8 : decode cX12_back 8 = .ok (.aload_n 0, 1) := by decide +kernel
theorem dX12_back_9 : decode cX12_back 9 = .ok (.getfield 33, 3) := by decide +kernel
theorem dX12_back_12 : decode cX12_back 12 = .ok (.bipush 52, 2) := by decide +kernel
theorem dX12_back_14 : decode cX12_back 14 = .ok (.iload_n 1, 1) := by decide +kernel
theorem dX12_back_15 : decode cX12_back 15 = .ok (.iadd, 1) := by decide +kernel
theorem dX12_back_16 : decode cX12_back 16 = .ok (.aload_n 0, 1) := by decide +kernel
theorem dX12_back_17 : decode cX12_back 17 = .ok (.getfield 53, 3) := by decide +kernel
theorem dX12_back_20 : decode cX12_back 20 = .ok (.iload_n 1, 1) := by decide +kernel
theorem dX12_back_21 : decode cX12_back 21 = .ok (.iaload, 1) := by decide +kernel
theorem dX12_back_22 : decode cX12_back 22 = .ok (.iastore, 1) := by decide +kernel
theorem dX12_back_23 : decode cX12_back 23 = .ok (.iinc 1 1, 3) := by decide +kernel
theorem dX12_back_26 : decode cX12_back 26 = .ok (.goto (-24), 3) := by decide +kernel
theorem dX12_back_29 : decode cX12_back 29 = .ok (.return_, 1) := by decide +kernel
set_option maxRecDepth 20000 in
theorem ggX12_laysCome_X12_tries : GoodIn wsX12_laysCome wsX12_tries := goodIn_r _ [7, 8, 2, 47, 48, 49, 50, 51, 52, 53, 54, 55, 56, 57, 58, 59, 60, 61, 62, 63, 64, 65, 66, 67, 68, 69, 70, 71, 72, 73, 74, 75, 76, 77, 78, 79, 80, 81, 82, 83, 84, 85, 86, 87, 88, 89, 90, 91, 92] (by decide +kernel) (by decide +kernel)
set_option maxRecDepth 20000 in
theorem gX12_laysCome_X12_tries : GoodIn wsX12_laysCome (wsV RX12 322 RX12 yX12_tries wsX12_tries) := goodIn_app (goodIn_of _ (by decide +kernel)) ggX12_laysCome_X12_tries
set_option maxRecDepth 20000 in
theorem ggX12_laysCome_X12_goesOn : GoodIn wsX12_laysCome wsX12_goesOn := goodIn_r _ [12, 2, 13, 14, 15, 6, 16, 17, 18, 19, 20, 21, 22, 23, 24, 25, 26, 27, 28, 29, 30, 31, 32, 33, 34, 35, 36, 37, 38, 39, 40, 41, 42, 47, 48, 49, 50, 51, 52, 53, 54, 55, 56, 57, 58, 59, 60, 61, 62, 63, 64, 65, 66, 67, 68, 69, 70, 71, 72, 73, 74, 75, 76, 77, 78, 79, 80, 81, 82, 83, 84, 85, 86, 87, 88, 89, 90, 91, 92] (by decide +kernel) (by decide +kernel)
set_option maxRecDepth 20000 in
theorem gX12_laysCome_X12_goesOn : GoodIn wsX12_laysCome (wsV RX12 319 RX12 yX12_goesOn wsX12_goesOn) := goodIn_app (goodIn_of _ (by decide +kernel)) ggX12_laysCome_X12_goesOn
set_option maxRecDepth 20000 in
theorem ggX12_laysCome_X12_back : GoodIn wsX12_laysCome wsX12_back := goodIn_r _ [46, 2, 8, 47, 48, 49, 50, 51, 52, 53, 54, 55, 56, 57, 58, 59, 60, 61, 62, 63, 64, 65, 66, 67, 68, 69, 70, 71, 72, 73, 74, 75, 76, 77, 78, 79, 80, 81, 82, 83, 84, 85, 86, 87, 88, 89, 90, 91, 92] (by decide +kernel) (by decide +kernel)
set_option maxRecDepth 20000 in
theorem gX12_laysCome_X12_back : GoodIn wsX12_laysCome (wsV RX12 325 RX12 yX12_back wsX12_back) := goodIn_app (goodIn_of _ (by decide +kernel)) ggX12_laysCome_X12_back
theorem dX12_laysCome_0 : decode cX12_laysCome 0 = .ok (.aload_n 0, 1) := by decide +kernel
theorem dX12_laysCome_1 : decode cX12_laysCome 1 = .ok (.invokevirtual 322, 3) := by decide +kernel
theorem dX12_laysCome_4 : decode cX12_laysCome 4 = .ok (.aload_n 0, 1) := by decide +kernel
theorem dX12_laysCome_5 : decode cX12_laysCome 5 = .ok (.iload_n 2, 1) := by decide +kernel
theorem dX12_laysCome_6 : decode cX12_laysCome 6 = .ok (.invokevirtual 319, 3) := by decide +kernel
theorem dX12_laysCome_9 : decode cX12_laysCome 9 = .ok (.pop, 1) := by decide +kernel
theorem dX12_laysCome_10 : decode cX12_laysCome 10 = .ok (.iconst 0, 1) := by decide +kernel
theorem dX12_laysCome_11 : decode cX12_laysCome 11 = .ok (.istore_n 3, 1) := by decide +kernel
theorem dX12_laysCome_12 : decode cX12_laysCome 12 = .ok (.iload_n 3, 1) := by decide +kernel
theorem dX12_laysCome_13 : decode cX12_laysCome 13 = .ok (.bipush 6, 2) := by decide +kernel
theorem dX12_laysCome_15 : decode cX12_laysCome 15 = .ok (.if_icmp .ge 31, 3) := by decide +kernel
theorem dX12_laysCome_18 : decode cX12_laysCome 18 = .ok (.aload_n 0, 1) := by decide +kernel
theorem dX12_laysCome_19 : decode cX12_laysCome 19 = .ok (.getfield 56, 3) := by decide +kernel
theorem dX12_laysCome_22 : decode cX12_laysCome 22 = .ok (.iload_n 3, 1) := by decide +kernel
theorem dX12_laysCome_23 : decode cX12_laysCome 23 = .ok (.aload_n 0, 1) := by decide +kernel
theorem dX12_laysCome_24 : decode cX12_laysCome 24 = .ok (.getfield 33, 3) := by decide +kernel
theorem dX12_laysCome_27 : decode cX12_laysCome 27 = .ok (.bipush 117, 2) := by decide +kernel
theorem dX12_laysCome_29 : decode cX12_laysCome 29 = .ok (.bipush 6, 2) := by decide +kernel
theorem dX12_laysCome_31 : decode cX12_laysCome 31 = .ok (.iload_n 1, 1) := by decide +kernel
theorem dX12_laysCome_32 : decode cX12_laysCome 32 = .ok (.imul, 1) := by decide +kernel
theorem dX12_laysCome_33 : decode cX12_laysCome 33 = .ok (.iadd, 1) := by decide +kernel
theorem dX12_laysCome_34 : decode cX12_laysCome 34 = .ok (.iload_n 3, 1) := by decide +kernel
theorem dX12_laysCome_35 : decode cX12_laysCome 35 = .ok (.iadd, 1) := by decide +kernel
theorem dX12_laysCome_36 : decode cX12_laysCome 36 = .ok (.iaload, 1) := by decide +kernel
theorem dX12_laysCome_37 : decode cX12_laysCome 37 = .ok (.iconst 1, 1) := by decide +kernel
theorem dX12_laysCome_38 : decode cX12_laysCome 38 = .ok (.isub, 1) := by decide +kernel
theorem dX12_laysCome_39 : decode cX12_laysCome 39 = .ok (.iastore, 1) := by decide +kernel
theorem dX12_laysCome_40 : decode cX12_laysCome 40 = .ok (.iinc 3 1, 3) := by decide +kernel
theorem dX12_laysCome_43 : decode cX12_laysCome 43 = .ok (.goto (-31), 3) := by decide +kernel
theorem dX12_laysCome_46 : decode cX12_laysCome 46 = .ok (.aload_n 0, 1) := by decide +kernel
theorem dX12_laysCome_47 : decode cX12_laysCome 47 = .ok (.invokevirtual 325, 3) := by decide +kernel
theorem dX12_laysCome_50 : decode cX12_laysCome 50 = .ok (.return_, 1) := by decide +kernel
set_option maxRecDepth 20000 in
theorem ggX12_comes_X12_isMaster : GoodIn wsX12_comes wsX12_isMaster := goodIn_r _ [7, 8, 9, 10, 6, 11, 63, 64, 65, 66, 67, 68, 69, 70, 71, 72, 73, 74, 75, 76, 77, 78, 79, 80, 81, 82, 83, 84, 85, 86, 87, 88, 89, 90, 91, 92, 93, 94, 95, 96, 97, 98, 99, 100, 101, 102, 103, 104, 105, 106, 107, 108] (by decide +kernel) (by decide +kernel)
set_option maxRecDepth 20000 in
theorem gX12_comes_X12_isMaster : GoodIn wsX12_comes (wsV RX12 276 RX12 yX12_isMaster wsX12_isMaster) := goodIn_app (goodIn_of _ (by decide +kernel)) ggX12_comes_X12_isMaster
set_option maxRecDepth 20000 in
theorem ggX12_comes_X12_isMeet : GoodIn wsX12_comes wsX12_isMeet := goodIn_r _ [15, 8, 9, 10, 6, 11, 63, 64, 65, 66, 67, 68, 69, 70, 71, 72, 73, 74, 75, 76, 77, 78, 79, 80, 81, 82, 83, 84, 85, 86, 87, 88, 89, 90, 91, 92, 93, 94, 95, 96, 97, 98, 99, 100, 101, 102, 103, 104, 105, 106, 107, 108] (by decide +kernel) (by decide +kernel)
set_option maxRecDepth 20000 in
theorem gX12_comes_X12_isMeet : GoodIn wsX12_comes (wsV RX12 288 RX12 yX12_isMeet wsX12_isMeet) := goodIn_app (goodIn_of _ (by decide +kernel)) ggX12_comes_X12_isMeet
set_option maxRecDepth 20000 in
theorem ggX12_comes_X12_laysCome : GoodIn wsX12_comes wsX12_laysCome := goodIn_r _ [19, 2, 8, 20, 21, 22, 6, 23, 24, 25, 26, 27, 28, 29, 30, 31, 32, 33, 34, 35, 36, 37, 38, 39, 40, 41, 42, 43, 44, 45, 46, 47, 48, 49, 50, 51, 52, 53, 54, 55, 56, 57, 58, 59, 60, 61, 62, 63, 64, 65, 66, 67, 68, 69, 70, 71, 72, 73, 74, 75, 76, 77, 78, 79, 80, 81, 82, 83, 84, 85, 86, 87, 88, 89, 90, 91, 92, 93, 94, 95, 96, 97, 98, 99, 100, 101, 102, 103, 104, 105, 106, 107, 108] (by decide +kernel) (by decide +kernel)
set_option maxRecDepth 20000 in
theorem gX12_comes_X12_laysCome : GoodIn wsX12_comes (wsV RX12 328 RX12 yX12_laysCome wsX12_laysCome) := goodIn_app (goodIn_of _ (by decide +kernel)) ggX12_comes_X12_laysCome
theorem dX12_comes_0 : decode cX12_comes 0 = .ok (.aload_n 0, 1) := by decide +kernel
theorem dX12_comes_1 : decode cX12_comes 1 = .ok (.iconst 0, 1) := by decide +kernel
theorem dX12_comes_2 : decode cX12_comes 2 = .ok (.putfield 1, 3) := by decide +kernel
theorem dX12_comes_5 : decode cX12_comes 5 = .ok (.aload_n 0, 1) := by decide +kernel
theorem dX12_comes_6 : decode cX12_comes 6 = .ok (.iload_n 1, 1) := by decide +kernel
theorem dX12_comes_7 : decode cX12_comes 7 = .ok (.invokevirtual 276, 3) := by decide +kernel
theorem dX12_comes_10 : decode cX12_comes 10 = .ok (.ifCond .eq 11, 3) := by decide +kernel
theorem dX12_comes_13 : decode cX12_comes 13 = .ok (.aload_n 0, 1) := by decide +kernel
theorem dX12_comes_14 : decode cX12_comes 14 = .ok (.iload_n 2, 1) := by decide +kernel
theorem dX12_comes_15 : decode cX12_comes 15 = .ok (.invokevirtual 288, 3) := by decide +kernel
theorem dX12_comes_18 : decode cX12_comes 18 = .ok (.ifCond .ne 5, 3) := by decide +kernel
theorem dX12_comes_21 : decode cX12_comes 21 = .ok (.iconst (-1), 1) := by decide +kernel
theorem dX12_comes_22 : decode cX12_comes 22 = .ok (.ireturn, 1) := by decide +kernel
theorem dX12_comes_23 : decode cX12_comes 23 = .ok (.aload_n 0, 1) := by decide +kernel
theorem dX12_comes_24 : decode cX12_comes 24 = .ok (.iload_n 2, 1) := by decide +kernel
theorem dX12_comes_25 : decode cX12_comes 25 = .ok (.sipush 2000, 3) := by decide +kernel
theorem dX12_comes_28 : decode cX12_comes 28 = .ok (.invokevirtual 328, 3) := by decide +kernel
theorem dX12_comes_31 : decode cX12_comes 31 = .ok (.aload_n 0, 1) := by decide +kernel
theorem dX12_comes_32 : decode cX12_comes 32 = .ok (.getfield 56, 3) := by decide +kernel
theorem dX12_comes_35 : decode cX12_comes 35 = .ok (.iload_n 1, 1) := by decide +kernel
theorem dX12_comes_36 : decode cX12_comes 36 = .ok (.iaload, 1) := by decide +kernel
theorem dX12_comes_37 : decode cX12_comes 37 = .ok (.ireturn, 1) := by decide +kernel
set_option maxRecDepth 20000 in
theorem ggX12_lastOf_X12_isDueTo : GoodIn wsX12_lastOf wsX12_isDueTo := goodIn_r _ [7, 1, 8, 9, 6, 10, 14, 15, 16, 17, 18, 19, 20, 21, 22, 23, 24, 25, 26, 27, 28, 29, 30, 31, 32, 33, 34, 35, 36, 37, 38, 39, 40, 41, 42, 43, 44, 45, 46, 47, 48, 49, 50, 51, 52, 53, 54, 55, 56, 57, 58, 59] (by decide +kernel) (by decide +kernel)
set_option maxRecDepth 20000 in
theorem gX12_lastOf_X12_isDueTo : GoodIn wsX12_lastOf (wsV RX12 259 RX12 yX12_isDueTo wsX12_isDueTo) := goodIn_app (goodIn_of _ (by decide +kernel)) ggX12_lastOf_X12_isDueTo
set_option maxRecDepth 20000 in
theorem ggX12_lastOf_X12_greater : GoodIn wsX12_lastOf wsX12_greater := goodIn_r _ [13] (by decide +kernel) (by decide +kernel)
set_option maxRecDepth 20000 in
theorem gX12_lastOf_X12_greater : GoodIn wsX12_lastOf (va_wsS RX12 294 yX12_greater wsX12_greater) := goodIn_app (goodIn_of _ (by decide +kernel)) ggX12_lastOf_X12_greater
theorem dX12_lastOf_0 : decode cX12_lastOf 0 = .ok (.iconst (-1), 1) := by decide +kernel
theorem dX12_lastOf_1 : decode cX12_lastOf 1 = .ok (.istore_n 2, 1) := by decide +kernel
theorem dX12_lastOf_2 : decode cX12_lastOf 2 = .ok (.iconst 0, 1) := by decide +kernel
theorem dX12_lastOf_3 : decode cX12_lastOf 3 = .ok (.istore_n 3, 1) := by decide +kernel
theorem dX12_lastOf_4 : decode cX12_lastOf 4 = .ok (.iload_n 3, 1) := by decide +kernel
theorem dX12_lastOf_5 : decode cX12_lastOf 5 = .ok (.aload_n 0, 1) := by decide +kernel
theorem dX12_lastOf_6 : decode cX12_lastOf 6 = .ok (.getfield 33, 3) := by decide +kernel
theorem dX12_lastOf_9 : decode cX12_lastOf 9 = .ok (.iconst 1, 1) := by decide +kernel
theorem dX12_lastOf_10 : decode cX12_lastOf 10 = .ok (.iaload, 1) := by decide +kernel
theorem dX12_lastOf_11 : decode cX12_lastOf 11 = .ok (.if_icmp .ge 43, 3) := by decide +kernel
theorem dX12_lastOf_14 : decode cX12_lastOf 14 = .ok (.aload_n 0, 1) := by decide +kernel
theorem dX12_lastOf_15 : decode cX12_lastOf 15 = .ok (.iload_n 3, 1) := by decide +kernel
theorem dX12_lastOf_16 : decode cX12_lastOf 16 = .ok (.iload_n 1, 1) := by decide +kernel
theorem dX12_lastOf_17 : decode cX12_lastOf 17 = .ok (.invokevirtual 259, 3) := by decide +kernel
theorem dX12_lastOf_20 : decode cX12_lastOf 20 = .ok (.ifCond .ne 6, 3) := by decide +kernel
theorem dX12_lastOf_23 : decode cX12_lastOf 23 = .ok (.goto 25, 3) := by decide +kernel
theorem dX12_lastOf_26 : decode cX12_lastOf 26 = .ok (.aload_n 0, 1) := by decide +kernel
theorem dX12_lastOf_27 : decode cX12_lastOf 27 = .ok (.getfield 56, 3) := by decide +kernel
theorem dX12_lastOf_30 : decode cX12_lastOf 30 = .ok (.iload_n 3, 1) := by decide +kernel
theorem dX12_lastOf_31 : decode cX12_lastOf 31 = .ok (.iaload, 1) := by decide +kernel
theorem dX12_lastOf_32 : decode cX12_lastOf 32 = .ok (.ifCond .ge 5, 3) := by decide +kernel
theorem dX12_lastOf_35 : decode cX12_lastOf 35 = .ok (.iconst (-1), 1) := by decide +kernel
theorem dX12_lastOf_36 : decode cX12_lastOf 36 = .ok (.ireturn, 1) := by decide +kernel
theorem dX12_lastOf_37 : decode cX12_lastOf 37 = .ok (.iload_n 2, 1) := by decide +kernel
theorem dX12_lastOf_38 : decode cX12_lastOf 38 = .ok (.aload_n 0, 1) := by decide +kernel
theorem dX12_lastOf_39 : decode cX12_lastOf 39 = .ok (.getfield 56, 3) := by decide +kernel
theorem dX12_lastOf_42 : decode cX12_lastOf 42 = .ok (.iload_n 3, 1) := by decide +kernel
theorem dX12_lastOf_43 : decode cX12_lastOf 43 = .ok (.iaload, 1) := by decide +kernel
theorem dX12_lastOf_44 : decode cX12_lastOf 44 = .ok (.invokestatic 294, 3) := by decide +kernel
theorem dX12_lastOf_47 : decode cX12_lastOf 47 = .ok (.istore_n 2, 1) := by decide +kernel
theorem dX12_lastOf_48 : decode cX12_lastOf 48 = .ok (.iinc 3 1, 3) := by decide +kernel
theorem dX12_lastOf_51 : decode cX12_lastOf 51 = .ok (.goto (-47), 3) := by decide +kernel
theorem dX12_lastOf_54 : decode cX12_lastOf 54 = .ok (.iload_n 2, 1) := by decide +kernel
theorem dX12_lastOf_55 : decode cX12_lastOf 55 = .ok (.ireturn, 1) := by decide +kernel
set_option maxRecDepth 20000 in
theorem ggX12_all_X12_isMeet : GoodIn wsX12_all wsX12_isMeet := goodIn_r _ [6, 7, 8, 9, 5, 10, 63, 64, 65, 66, 67, 68, 69, 70, 71, 72, 73, 74, 75, 76, 77, 78, 79, 80, 81, 82, 83, 84, 85, 86, 87, 88, 89, 90, 91, 92, 93, 94, 95, 96, 97, 98, 99, 100, 101, 102, 103, 104, 105, 106, 107, 108] (by decide +kernel) (by decide +kernel)
set_option maxRecDepth 20000 in
theorem gX12_all_X12_isMeet : GoodIn wsX12_all (wsV RX12 288 RX12 yX12_isMeet wsX12_isMeet) := goodIn_app (goodIn_of _ (by decide +kernel)) ggX12_all_X12_isMeet
set_option maxRecDepth 20000 in
theorem ggX12_all_X12_laysCome : GoodIn wsX12_all wsX12_laysCome := goodIn_r _ [14, 15, 7, 16, 17, 18, 5, 19, 20, 21, 22, 23, 24, 25, 26, 27, 28, 29, 30, 31, 32, 33, 34, 35, 36, 37, 38, 39, 40, 41, 42, 43, 44, 45, 46, 47, 48, 49, 50, 51, 52, 53, 54, 55, 56, 57, 58, 63, 64, 65, 66, 67, 68, 69, 70, 71, 72, 73, 74, 75, 76, 77, 78, 79, 80, 81, 82, 83, 84, 85, 86, 87, 88, 89, 90, 91, 92, 93, 94, 95, 96, 97, 98, 99, 100, 101, 102, 103, 104, 105, 106, 107, 108] (by decide +kernel) (by decide +kernel)
set_option maxRecDepth 20000 in
theorem gX12_all_X12_laysCome : GoodIn wsX12_all (wsV RX12 328 RX12 yX12_laysCome wsX12_laysCome) := goodIn_app (goodIn_of _ (by decide +kernel)) ggX12_all_X12_laysCome
set_option maxRecDepth 20000 in
theorem ggX12_all_X12_lastOf : GoodIn wsX12_all wsX12_lastOf := goodIn_r _ [62, 7, 15, 29, 30, 31, 5, 32, 33, 34, 35, 52, 53, 54, 63, 64, 65, 66, 67, 68, 69, 70, 71, 72, 73, 74, 75, 76, 77, 78, 79, 80, 81, 82, 83, 84, 85, 86, 87, 88, 89, 90, 91, 92, 93, 94, 95, 96, 97, 98, 99, 100, 101, 102, 103, 104, 105, 106, 107, 108] (by decide +kernel) (by decide +kernel)
set_option maxRecDepth 20000 in
theorem gX12_all_X12_lastOf : GoodIn wsX12_all (wsV RX12 331 RX12 yX12_lastOf wsX12_lastOf) := goodIn_app (goodIn_of _ (by decide +kernel)) ggX12_all_X12_lastOf
theorem dX12_all_0 : decode cX12_all 0 = .ok (.aload_n 0, 1) := by decide +kernel
theorem dX12_all_1 : decode cX12_all 1 = .ok (.iconst 0, 1) := by decide +kernel
theorem dX12_all_2 : decode cX12_all 2 = .ok (.putfield 1, 3) := by decide +kernel
theorem dX12_all_5 : decode cX12_all 5 = .ok (.aload_n 0, 1) := by decide +kernel
theorem dX12_all_6 : decode cX12_all 6 = .ok (.iload_n 1, 1) := by decide +kernel
theorem dX12_all_7 : decode cX12_all 7 = .ok (.invokevirtual 288, 3) := by decide +kernel
theorem dX12_all_10 : decode cX12_all 10 = .ok (.ifCond .ne 5, 3) := by decide +kernel
theorem dX12_all_13 : decode cX12_all 13 = .ok (.iconst (-1), 1) := by decide +kernel
theorem dX12_all_14 : decode cX12_all 14 = .ok (.ireturn, 1) := by decide +kernel
theorem dX12_all_15 : decode cX12_all 15 = .ok (.aload_n 0, 1) := by decide +kernel
theorem dX12_all_16 : decode cX12_all 16 = .ok (.iload_n 1, 1) := by decide +kernel
theorem dX12_all_17 : decode cX12_all 17 = .ok (.sipush 2000, 3) := by decide +kernel
theorem dX12_all_20 : decode cX12_all 20 = .ok (.invokevirtual 328, 3) := by decide +kernel
theorem dX12_all_23 : decode cX12_all 23 = .ok (.aload_n 0, 1) := by decide +kernel
theorem dX12_all_24 : decode cX12_all 24 = .ok (.iload_n 1, 1) := by decide +kernel
theorem dX12_all_25 : decode cX12_all 25 = .ok (.invokevirtual 331, 3) := by decide +kernel
theorem dX12_all_28 : decode cX12_all 28 = .ok (.ireturn, 1) := by decide +kernel
set_option maxRecDepth 20000 in
theorem ggX12_missed_X12_isMeet : GoodIn wsX12_missed wsX12_isMeet := goodIn_r _ [8, 2, 9, 10, 7, 11, 59, 60, 61, 62, 63, 64, 65, 66, 67, 68, 69, 70, 71, 72, 73, 74, 75, 76, 77, 78, 79, 80, 81, 82, 83, 84, 85, 86, 87, 88, 89, 90, 91, 92, 93, 94, 95, 96, 97, 98, 99, 100, 101, 102, 103, 104] (by decide +kernel) (by decide +kernel)
set_option maxRecDepth 20000 in
theorem gX12_missed_X12_isMeet : GoodIn wsX12_missed (wsV RX12 288 RX12 yX12_isMeet wsX12_isMeet) := goodIn_app (goodIn_of _ (by decide +kernel)) ggX12_missed_X12_isMeet
set_option maxRecDepth 20000 in
theorem ggX12_missed_X12_laysCome : GoodIn wsX12_missed wsX12_laysCome := goodIn_r _ [15, 3, 2, 16, 17, 18, 7, 19, 20, 21, 22, 23, 24, 25, 26, 27, 28, 29, 30, 31, 32, 33, 34, 35, 36, 37, 38, 39, 40, 41, 42, 43, 44, 45, 46, 47, 48, 49, 50, 51, 52, 53, 54, 55, 56, 57, 58, 59, 60, 61, 62, 63, 64, 65, 66, 67, 68, 69, 70, 71, 72, 73, 74, 75, 76, 77, 78, 79, 80, 81, 82, 83, 84, 85, 86, 87, 88, 89, 90, 91, 92, 93, 94, 95, 96, 97, 98, 99, 100, 101, 102, 103, 104] (by decide +kernel) (by decide +kernel)
set_option maxRecDepth 20000 in
theorem gX12_missed_X12_laysCome : GoodIn wsX12_missed (wsV RX12 328 RX12 yX12_laysCome wsX12_laysCome) := goodIn_app (goodIn_of _ (by decide +kernel)) ggX12_missed_X12_laysCome
set_option maxRecDepth 20000 in
theorem ggX12_missed_X12_isDueTo : GoodIn wsX12_missed wsX12_isDueTo := goodIn_r _ [32, 2, 33, 34, 7, 35, 59, 60, 61, 62, 63, 64, 65, 66, 67, 68, 69, 70, 71, 72, 73, 74, 75, 76, 77, 78, 79, 80, 81, 82, 83, 84, 85, 86, 87, 88, 89, 90, 91, 92, 93, 94, 95, 96, 97, 98, 99, 100, 101, 102, 103, 104] (by decide +kernel) (by decide +kernel)
set_option maxRecDepth 20000 in
theorem gX12_missed_X12_isDueTo : GoodIn wsX12_missed (wsV RX12 259 RX12 yX12_isDueTo wsX12_isDueTo) := goodIn_app (goodIn_of _ (by decide +kernel)) ggX12_missed_X12_isDueTo
theorem dX12_missed_0 : decode cX12_missed 0 = .ok (.aload_n 0, 1) := by decide +kernel
theorem dX12_missed_1 : decode cX12_missed 1 = .ok (.iconst 0, 1) := by decide +kernel
theorem dX12_missed_2 : decode cX12_missed 2 = .ok (.putfield 1, 3) := by decide +kernel
theorem dX12_missed_5 : decode cX12_missed 5 = .ok (.aload_n 0, 1) := by decide +kernel
theorem dX12_missed_6 : decode cX12_missed 6 = .ok (.iload_n 1, 1) := by decide +kernel
theorem dX12_missed_7 : decode cX12_missed 7 = .ok (.invokevirtual 288, 3) := by decide +kernel
theorem dX12_missed_10 : decode cX12_missed 10 = .ok (.ifCond .ne 5, 3) := by decide +kernel
theorem dX12_missed_13 : decode cX12_missed 13 = .ok (.iconst (-1), 1) := by decide +kernel
theorem dX12_missed_14 : decode cX12_missed 14 = .ok (.ireturn, 1) := by decide +kernel
theorem dX12_missed_15 : decode cX12_missed 15 = .ok (.aload_n 0, 1) := by decide +kernel
theorem dX12_missed_16 : decode cX12_missed 16 = .ok (.iload_n 1, 1) := by decide +kernel
theorem dX12_missed_17 : decode cX12_missed 17 = .ok (.sipush 2000, 3) := by decide +kernel
theorem dX12_missed_20 : decode cX12_missed 20 = .ok (.invokevirtual 328, 3) := by decide +kernel
theorem dX12_missed_23 : decode cX12_missed 23 = .ok (.iconst 0, 1) := by decide +kernel
theorem dX12_missed_24 : decode cX12_missed 24 = .ok (.istore_n 2, 1) := by decide +kernel
theorem dX12_missed_25 : decode cX12_missed 25 = .ok (.iconst 0, 1) := by decide +kernel
theorem dX12_missed_26 : decode cX12_missed 26 = .ok (.istore_n 3, 1) := by decide +kernel
theorem dX12_missed_27 : decode cX12_missed 27 = .ok (.iload_n 3, 1) := by decide +kernel
theorem dX12_missed_28 : decode cX12_missed 28 = .ok (.aload_n 0, 1) := by decide +kernel
theorem dX12_missed_29 : decode cX12_missed 29 = .ok (.getfield 33, 3) := by decide +kernel
theorem dX12_missed_32 : decode cX12_missed 32 = .ok (.iconst 1, 1) := by decide +kernel
theorem dX12_missed_33 : decode cX12_missed 33 = .ok (.iaload, 1) := by decide +kernel
theorem dX12_missed_34 : decode cX12_missed 34 = .ok (.if_icmp .ge 62, 3) := by decide +kernel
theorem dX12_missed_37 : decode cX12_missed 37 = .ok (.iload_n 2, 1) := by decide +kernel
theorem dX12_missed_38 : decode cX12_missed 38 = .ok (.aload_n 0, 1) := by decide +kernel
theorem dX12_missed_39 : decode cX12_missed 39 = .ok (.iload_n 3, 1) := by decide +kernel
theorem dX12_missed_40 : decode cX12_missed 40 = .ok (.iload_n 1, 1) := by decide +kernel
theorem dX12_missed_41 : decode cX12_missed 41 = .ok (.invokevirtual 259, 3) := by decide +kernel
theorem dX12_missed_44 : decode cX12_missed 44 = .ok (.ifCond .eq 43, 3) := by decide +kernel
theorem dX12_missed_47 : decode cX12_missed 47 = .ok (.aload_n 0, 1) := by decide +kernel
theorem dX12_missed_48 : decode cX12_missed 48 = .ok (.getfield 56, 3) := by decide +kernel
theorem dX12_missed_51 : decode cX12_missed 51 = .ok (.iload_n 3, 1) := by decide +kernel
theorem dX12_missed_52 : decode cX12_missed 52 = .ok (.iaload, 1) := by decide +kernel
theorem dX12_missed_53 : decode cX12_missed 53 = .ok (.ifCond .lt 28, 3) := by decide +kernel
theorem dX12_missed_56 : decode cX12_missed 56 = .ok (.aload_n 0, 1) := by decide +kernel
theorem dX12_missed_57 : decode cX12_missed 57 = .ok (.getfield 56, 3) := by decide +kernel
theorem dX12_missed_60 : decode cX12_missed 60 = .ok (.iload_n 3, 1) := by decide +kernel
theorem dX12_missed_61 : decode cX12_missed 61 = .ok (.iaload, 1) := by decide +kernel
theorem dX12_missed_62 : decode cX12_missed 62 = .ok (.aload_n 0, 1) := by decide +kernel
theorem dX12_missed_63 : decode cX12_missed 63 = .ok (.getfield 33, 3) := by decide +kernel
theorem dX12_missed_66 : decode cX12_missed 66 = .ok (.bipush 75, 2) := by decide +kernel
theorem dX12_missed_68 : decode cX12_missed 68 = .ok (.iload_n 1, 1) := by decide +kernel
theorem dX12_missed_69 : decode cX12_missed 69 = .ok (.iadd, 1) := by decide +kernel
theorem dX12_missed_70 : decode cX12_missed 70 = .ok (.iaload, 1) := by decide +kernel
theorem dX12_missed_71 : decode cX12_missed 71 = .ok (.aload_n 0, 1) := by decide +kernel
theorem dX12_missed_72 : decode cX12_missed 72 = .ok (.getfield 33, 3) := by decide +kernel
theorem dX12_missed_75 : decode cX12_missed 75 = .ok (.iconst 3, 1) := by decide +kernel
theorem dX12_missed_76 : decode cX12_missed 76 = .ok (.iaload, 1) := by decide +kernel
theorem dX12_missed_77 : decode cX12_missed 77 = .ok (.iadd, 1) := by decide +kernel
theorem dX12_missed_78 : decode cX12_missed 78 = .ok (.if_icmp .le 9, 3) := by decide +kernel
theorem dX12_missed_81 : decode cX12_missed 81 = .ok (.iconst 1, 1) := by decide +kernel
theorem dX12_missed_82 : decode cX12_missed 82 = .ok (.iload_n 3, 1) := by decide +kernel
theorem dX12_missed_83 : decode cX12_missed 83 = .ok (.ishl, 1) := by decide +kernel
theorem dX12_missed_84 : decode cX12_missed 84 = .ok (.goto 4, 3) := by decide +kernel
theorem dX12_missed_87 : decode cX12_missed 87 = .ok (.iconst 0, 1) := by decide +kernel
theorem dX12_missed_88 : decode cX12_missed 88 = .ok (.ior, 1) := by decide +kernel
theorem dX12_missed_89 : decode cX12_missed 89 = .ok (.istore_n 2, 1) := by decide +kernel
theorem dX12_missed_90 : decode cX12_missed 90 = .ok (.iinc 3 1, 3) := by decide +kernel
theorem dX12_missed_93 : decode cX12_missed 93 = .ok (.goto (-66), 3) := by decide +kernel
theorem dX12_missed_96 : decode cX12_missed 96 = .ok (.iload_n 2, 1) := by decide +kernel
theorem dX12_missed_97 : decode cX12_missed 97 = .ok (.ireturn, 1) := by decide +kernel
set_option maxRecDepth 20000 in
theorem ggX12_caught_X12_isMeet : GoodIn wsX12_caught wsX12_isMeet := goodIn_r _ [8, 2, 9, 10, 7, 11, 59, 60, 61, 62, 63, 64, 65, 66, 67, 68, 69, 70, 71, 72, 73, 74, 75, 76, 77, 78, 79, 80, 81, 82, 83, 84, 85, 86, 87, 88, 89, 90, 91, 92, 93, 94, 95, 96, 97, 98, 99, 100, 101, 102, 103, 104] (by decide +kernel) (by decide +kernel)
set_option maxRecDepth 20000 in
theorem gX12_caught_X12_isMeet : GoodIn wsX12_caught (wsV RX12 288 RX12 yX12_isMeet wsX12_isMeet) := goodIn_app (goodIn_of _ (by decide +kernel)) ggX12_caught_X12_isMeet
set_option maxRecDepth 20000 in
theorem ggX12_caught_X12_laysCome : GoodIn wsX12_caught wsX12_laysCome := goodIn_r _ [15, 3, 2, 16, 17, 18, 7, 19, 20, 21, 22, 23, 24, 25, 26, 27, 28, 29, 30, 31, 32, 33, 34, 35, 36, 37, 38, 39, 40, 41, 42, 43, 44, 45, 46, 47, 48, 49, 50, 51, 52, 53, 54, 55, 56, 57, 58, 59, 60, 61, 62, 63, 64, 65, 66, 67, 68, 69, 70, 71, 72, 73, 74, 75, 76, 77, 78, 79, 80, 81, 82, 83, 84, 85, 86, 87, 88, 89, 90, 91, 92, 93, 94, 95, 96, 97, 98, 99, 100, 101, 102, 103, 104] (by decide +kernel) (by decide +kernel)
set_option maxRecDepth 20000 in
theorem gX12_caught_X12_laysCome : GoodIn wsX12_caught (wsV RX12 328 RX12 yX12_laysCome wsX12_laysCome) := goodIn_app (goodIn_of _ (by decide +kernel)) ggX12_caught_X12_laysCome
set_option maxRecDepth 20000 in
theorem ggX12_caught_X12_isDueTo : GoodIn wsX12_caught wsX12_isDueTo := goodIn_r _ [32, 2, 33, 34, 7, 35, 59, 60, 61, 62, 63, 64, 65, 66, 67, 68, 69, 70, 71, 72, 73, 74, 75, 76, 77, 78, 79, 80, 81, 82, 83, 84, 85, 86, 87, 88, 89, 90, 91, 92, 93, 94, 95, 96, 97, 98, 99, 100, 101, 102, 103, 104] (by decide +kernel) (by decide +kernel)
set_option maxRecDepth 20000 in
theorem gX12_caught_X12_isDueTo : GoodIn wsX12_caught (wsV RX12 259 RX12 yX12_isDueTo wsX12_isDueTo) := goodIn_app (goodIn_of _ (by decide +kernel)) ggX12_caught_X12_isDueTo
set_option maxRecDepth 20000 in
theorem ggX12_caught_X12_isIn : GoodIn wsX12_caught wsX12_isIn := goodIn_r _ [11] (by decide +kernel) (by decide +kernel)
set_option maxRecDepth 20000 in
theorem gX12_caught_X12_isIn : GoodIn wsX12_caught (va_wsS RX12 184 yX12_isIn wsX12_isIn) := goodIn_app (goodIn_of _ (by decide +kernel)) ggX12_caught_X12_isIn
theorem dX12_caught_0 : decode cX12_caught 0 = .ok (.aload_n 0, 1) := by decide +kernel
theorem dX12_caught_1 : decode cX12_caught 1 = .ok (.iconst 0, 1) := by decide +kernel
theorem dX12_caught_2 : decode cX12_caught 2 = .ok (.putfield 1, 3) := by decide +kernel
theorem dX12_caught_5 : decode cX12_caught 5 = .ok (.aload_n 0, 1) := by decide +kernel
theorem dX12_caught_6 : decode cX12_caught 6 = .ok (.iload_n 1, 1) := by decide +kernel
theorem dX12_caught_7 : decode cX12_caught 7 = .ok (.invokevirtual 288, 3) := by decide +kernel
theorem dX12_caught_10 : decode cX12_caught 10 = .ok (.ifCond .ne 5, 3) := by decide +kernel
theorem dX12_caught_13 : decode cX12_caught 13 = .ok (.iconst (-1), 1) := by decide +kernel
theorem dX12_caught_14 : decode cX12_caught 14 = .ok (.ireturn, 1) := by decide +kernel
theorem dX12_caught_15 : decode cX12_caught 15 = .ok (.aload_n 0, 1) := by decide +kernel
theorem dX12_caught_16 : decode cX12_caught 16 = .ok (.iload_n 1, 1) := by decide +kernel
theorem dX12_caught_17 : decode cX12_caught 17 = .ok (.sipush 2000, 3) := by decide +kernel
theorem dX12_caught_20 : decode cX12_caught 20 = .ok (.invokevirtual 328, 3) := by decide +kernel
theorem dX12_caught_23 : decode cX12_caught 23 = .ok (.iconst 0, 1) := by decide +kernel
theorem dX12_caught_24 : decode cX12_caught 24 = .ok (.istore_n 2, 1) := by decide +kernel
theorem dX12_caught_25 : decode cX12_caught 25 = .ok (.iconst 0, 1) := by decide +kernel
theorem dX12_caught_26 : decode cX12_caught 26 = .ok (.istore_n 3, 1) := by decide +kernel
theorem dX12_caught_27 : decode cX12_caught 27 = .ok (.iload_n 3, 1) := by decide +kernel
theorem dX12_caught_28 : decode cX12_caught 28 = .ok (.aload_n 0, 1) := by decide +kernel
theorem dX12_caught_29 : decode cX12_caught 29 = .ok (.getfield 33, 3) := by decide +kernel
theorem dX12_caught_32 : decode cX12_caught 32 = .ok (.iconst 1, 1) := by decide +kernel
theorem dX12_caught_33 : decode cX12_caught 33 = .ok (.iaload, 1) := by decide +kernel
theorem dX12_caught_34 : decode cX12_caught 34 = .ok (.if_icmp .ge 50, 3) := by decide +kernel
theorem dX12_caught_37 : decode cX12_caught 37 = .ok (.iload_n 2, 1) := by decide +kernel
theorem dX12_caught_38 : decode cX12_caught 38 = .ok (.aload_n 0, 1) := by decide +kernel
theorem dX12_caught_39 : decode cX12_caught 39 = .ok (.iload_n 3, 1) := by decide +kernel
theorem dX12_caught_40 : decode cX12_caught 40 = .ok (.iload_n 1, 1) := by decide +kernel
theorem dX12_caught_41 : decode cX12_caught 41 = .ok (.invokevirtual 259, 3) := by decide +kernel
theorem dX12_caught_44 : decode cX12_caught 44 = .ok (.ifCond .eq 31, 3) := by decide +kernel
theorem dX12_caught_47 : decode cX12_caught 47 = .ok (.aload_n 0, 1) := by decide +kernel
theorem dX12_caught_48 : decode cX12_caught 48 = .ok (.getfield 56, 3) := by decide +kernel
theorem dX12_caught_51 : decode cX12_caught 51 = .ok (.iload_n 3, 1) := by decide +kernel
theorem dX12_caught_52 : decode cX12_caught 52 = .ok (.iaload, 1) := by decide +kernel
theorem dX12_caught_53 : decode cX12_caught 53 = .ok (.iconst 0, 1) := by decide +kernel
theorem dX12_caught_54 : decode cX12_caught 54 = .ok (.aload_n 0, 1) := by decide +kernel
theorem dX12_caught_55 : decode cX12_caught 55 = .ok (.getfield 33, 3) := by decide +kernel
theorem dX12_caught_58 : decode cX12_caught 58 = .ok (.bipush 75, 2) := by decide +kernel
theorem dX12_caught_60 : decode cX12_caught 60 = .ok (.iload_n 1, 1) := by decide +kernel
theorem dX12_caught_61 : decode cX12_caught 61 = .ok (.iadd, 1) := by decide +kernel
theorem dX12_caught_62 : decode cX12_caught 62 = .ok (.iaload, 1) := by decide +kernel
theorem dX12_caught_63 : decode cX12_caught 63 = .ok (.invokestatic 184, 3) := by decide +kernel
theorem dX12_caught_66 : decode cX12_caught 66 = .ok (.ifCond .eq 9, 3) := by decide +kernel
theorem dX12_caught_69 : decode cX12_caught 69 = .ok (.iconst 1, 1) := by decide +kernel
theorem dX12_caught_70 : decode cX12_caught 70 = .ok (.iload_n 3, 1) := by decide +kernel
theorem dX12_caught_71 : decode cX12_caught 71 = .ok (.ishl, 1) := by decide +kernel
theorem dX12_caught_72 : decode cX12_caught 72 = .ok (.goto 4, 3) := by decide +kernel
theorem dX12_caught_75 : decode cX12_caught 75 = .ok (.iconst 0, 1) := by decide +kernel
theorem dX12_caught_76 : decode cX12_caught 76 = .ok (.ior, 1) := by decide +kernel
theorem dX12_caught_77 : decode cX12_caught 77 = .ok (.istore_n 2, 1) := by decide +kernel
theorem dX12_caught_78 : decode cX12_caught 78 = .ok (.iinc 3 1, 3) := by decide +kernel
theorem dX12_caught_81 : decode cX12_caught 81 = .ok (.goto (-54), 3) := by decide +kernel
theorem dX12_caught_84 : decode cX12_caught 84 = .ok (.iload_n 2, 1) := by decide +kernel
theorem dX12_caught_85 : decode cX12_caught 85 = .ok (.ireturn, 1) := by decide +kernel
set_option maxRecDepth 20000 in
theorem ggX12_latestDue_X12_isDueTo : GoodIn wsX12_latestDue wsX12_isDueTo := goodIn_r _ [7, 1, 8, 9, 6, 10, 25, 26, 27, 28, 29, 30, 31, 32, 33, 34, 35, 36, 37, 38, 39, 40, 41, 42, 43, 44, 45, 46, 47, 48, 49, 50, 51, 52, 53, 54, 55, 56, 57, 58, 59, 60, 61, 62, 63, 64, 65, 66, 67, 68, 69, 70] (by decide +kernel) (by decide +kernel)
set_option maxRecDepth 20000 in
theorem gX12_latestDue_X12_isDueTo : GoodIn wsX12_latestDue (wsV RX12 259 RX12 yX12_isDueTo wsX12_isDueTo) := goodIn_app (goodIn_of _ (by decide +kernel)) ggX12_latestDue_X12_isDueTo
set_option maxRecDepth 20000 in
theorem ggX12_latestDue_X12_readsAt : GoodIn wsX12_latestDue wsX12_readsAt := goodIn_r _ [14, 1, 15, 16, 17, 6, 18, 8, 9, 10, 25, 26, 27, 28, 29, 30, 31, 32, 33, 34, 35, 36, 37, 38, 39, 40, 41, 42, 43, 44, 45, 46, 47, 48, 49, 50, 51, 52, 53, 54, 55, 56, 57, 58, 59, 60, 61, 62, 63, 64, 65, 66, 67, 68, 69, 70] (by decide +kernel) (by decide +kernel)
set_option maxRecDepth 20000 in
theorem gX12_latestDue_X12_readsAt : GoodIn wsX12_latestDue (wsV RX12 256 RX12 yX12_readsAt wsX12_readsAt) := goodIn_app (goodIn_of _ (by decide +kernel)) ggX12_latestDue_X12_readsAt
set_option maxRecDepth 20000 in
theorem ggX12_latestDue_X12_greater : GoodIn wsX12_latestDue wsX12_greater := goodIn_r _ [21] (by decide +kernel) (by decide +kernel)
set_option maxRecDepth 20000 in
theorem gX12_latestDue_X12_greater : GoodIn wsX12_latestDue (va_wsS RX12 294 yX12_greater wsX12_greater) := goodIn_app (goodIn_of _ (by decide +kernel)) ggX12_latestDue_X12_greater
set_option maxRecDepth 20000 in
theorem ggX12_latestDue_X12_lesser : GoodIn wsX12_latestDue wsX12_lesser := goodIn_r _ [24] (by decide +kernel) (by decide +kernel)
set_option maxRecDepth 20000 in
theorem gX12_latestDue_X12_lesser : GoodIn wsX12_latestDue (va_wsS RX12 335 yX12_lesser wsX12_lesser) := goodIn_app (goodIn_of _ (by decide +kernel)) ggX12_latestDue_X12_lesser
theorem dX12_latestDue_0 : decode cX12_latestDue 0 = .ok (.sipush 1999, 3) := by decide +kernel
theorem dX12_latestDue_3 : decode cX12_latestDue 3 = .ok (.istore_n 3, 1) := by decide +kernel
theorem dX12_latestDue_4 : decode cX12_latestDue 4 = .ok (.iconst 0, 1) := by decide +kernel
theorem dX12_latestDue_5 : decode cX12_latestDue 5 = .ok (.istore 4, 2) := by decide +kernel
theorem dX12_latestDue_7 : decode cX12_latestDue 7 = .ok (.iload 4, 2) := by decide +kernel
theorem dX12_latestDue_9 : decode cX12_latestDue 9 = .ok (.aload_n 0, 1) := by decide +kernel
theorem dX12_latestDue_10 : decode cX12_latestDue 10 = .ok (.getfield 33, 3) := by decide +kernel
theorem dX12_latestDue_13 : decode cX12_latestDue 13 = .ok (.iconst 1, 1) := by decide +kernel
theorem dX12_latestDue_14 : decode cX12_latestDue 14 = .ok (.iaload, 1) := by decide +kernel
theorem dX12_latestDue_15 : decode cX12_latestDue 15 = .ok (.if_icmp .ge 91, 3) := by decide +kernel
theorem dX12_latestDue_18 : decode cX12_latestDue 18 = .ok (.aload_n 0, 1) := by decide +kernel
theorem dX12_latestDue_19 : decode cX12_latestDue 19 = .ok (.iload 4, 2) := by decide +kernel
theorem dX12_latestDue_21 : decode cX12_latestDue 21 = .ok (.iload_n 1, 1) := by decide +kernel
theorem dX12_latestDue_22 : decode cX12_latestDue 22 = .ok (.invokevirtual 259, 3) := by decide +kernel
theorem dX12_latestDue_25 : decode cX12_latestDue 25 = .ok (.ifCond .ne 6, 3) := by decide +kernel
theorem dX12_latestDue_28 : decode cX12_latestDue 28 = .ok (.goto 72, 3) := by decide +kernel
theorem dX12_latestDue_31 : decode cX12_latestDue 31 = .ok (.ldc_w 334, 3) := by decide +kernel
theorem dX12_latestDue_34 : decode cX12_latestDue 34 = .ok (.istore 5, 2) := by decide +kernel
theorem dX12_latestDue_36 : decode cX12_latestDue 36 = .ok (.iconst 0, 1) := by decide +kernel
theorem dX12_latestDue_37 : decode cX12_latestDue 37 = .ok (.istore 6, 2) := by decide +kernel
theorem dX12_latestDue_39 : decode cX12_latestDue 39 = .ok (.iload 6, 2) := by decide +kernel
theorem dX12_latestDue_41 : decode cX12_latestDue 41 = .ok (.iload_n 2, 1) := by decide +kernel
theorem dX12_latestDue_42 : decode cX12_latestDue 42 = .ok (.if_icmp .gt 40, 3) := by decide +kernel
theorem dX12_latestDue_45 : decode cX12_latestDue 45 = .ok (.iload 5, 2) := by decide +kernel
theorem dX12_latestDue_47 : decode cX12_latestDue 47 = .ok (.aload_n 0, 1) := by decide +kernel
theorem dX12_latestDue_48 : decode cX12_latestDue 48 = .ok (.aload_n 0, 1) := by decide +kernel
theorem dX12_latestDue_49 : decode cX12_latestDue 49 = .ok (.getfield 33, 3) := by decide +kernel
theorem dX12_latestDue_52 : decode cX12_latestDue 52 = .ok (.bipush 34, 2) := by decide +kernel
theorem dX12_latestDue_54 : decode cX12_latestDue 54 = .ok (.iload 4, 2) := by decide +kernel
theorem dX12_latestDue_56 : decode cX12_latestDue 56 = .ok (.iadd, 1) := by decide +kernel
theorem dX12_latestDue_57 : decode cX12_latestDue 57 = .ok (.iaload, 1) := by decide +kernel
theorem dX12_latestDue_58 : decode cX12_latestDue 58 = .ok (.aload_n 0, 1) := by decide +kernel
theorem dX12_latestDue_59 : decode cX12_latestDue 59 = .ok (.getfield 33, 3) := by decide +kernel
theorem dX12_latestDue_62 : decode cX12_latestDue 62 = .ok (.bipush 52, 2) := by decide +kernel
theorem dX12_latestDue_64 : decode cX12_latestDue 64 = .ok (.iaload, 1) := by decide +kernel
theorem dX12_latestDue_65 : decode cX12_latestDue 65 = .ok (.iload 6, 2) := by decide +kernel
theorem dX12_latestDue_67 : decode cX12_latestDue 67 = .ok (.iadd, 1) := by decide +kernel
theorem dX12_latestDue_68 : decode cX12_latestDue 68 = .ok (.invokevirtual 256, 3) := by decide +kernel
theorem dX12_latestDue_71 : decode cX12_latestDue 71 = .ok (.invokestatic 294, 3) := by decide +kernel
theorem dX12_latestDue_74 : decode cX12_latestDue 74 = .ok (.istore 5, 2) := by decide +kernel
theorem dX12_latestDue_76 : decode cX12_latestDue 76 = .ok (.iinc 6 1, 3) := by decide +kernel
theorem dX12_latestDue_79 : decode cX12_latestDue 79 = .ok (.goto (-40), 3) := by decide +kernel
theorem dX12_latestDue_82 : decode cX12_latestDue 82 = .ok (.iload_n 3, 1) := by decide +kernel
theorem dX12_latestDue_83 : decode cX12_latestDue 83 = .ok (.iload 5, 2) := by decide +kernel
theorem dX12_latestDue_85 : decode cX12_latestDue 85 = .ok (.aload_n 0, 1) := by decide +kernel
theorem dX12_latestDue_86 : decode cX12_latestDue 86 = .ok (.getfield 33, 3) := by decide +kernel
theorem dX12_latestDue_89 : decode cX12_latestDue 89 = .ok (.bipush 28, 2) := by decide +kernel
theorem dX12_latestDue_91 : decode cX12_latestDue 91 = .ok (.iload 4, 2) := by decide +kernel
theorem dX12_latestDue_93 : decode cX12_latestDue 93 = .ok (.iadd, 1) := by decide +kernel
theorem dX12_latestDue_94 : decode cX12_latestDue 94 = .ok (.iaload, 1) := by decide +kernel
theorem dX12_latestDue_95 : decode cX12_latestDue 95 = .ok (.isub, 1) := by decide +kernel
theorem dX12_latestDue_96 : decode cX12_latestDue 96 = .ok (.invokestatic 335, 3) := by decide +kernel
theorem dX12_latestDue_99 : decode cX12_latestDue 99 = .ok (.istore_n 3, 1) := by decide +kernel
theorem dX12_latestDue_100 : decode cX12_latestDue 100 = .ok (.iinc 4 1, 3) := by decide +kernel
theorem dX12_latestDue_103 : decode cX12_latestDue 103 = .ok (.goto (-96), 3) := by decide +kernel
theorem dX12_latestDue_106 : decode cX12_latestDue 106 = .ok (.iload_n 3, 1) := by decide +kernel
theorem dX12_latestDue_107 : decode cX12_latestDue 107 = .ok (.ireturn, 1) := by decide +kernel
set_option maxRecDepth 20000 in
theorem ggX12_plan_X12_isMeet : GoodIn wsX12_plan wsX12_isMeet := goodIn_r _ [7, 2, 8, 9, 6, 10, 75, 76, 77, 78, 79, 80, 81, 82, 83, 84, 85, 86, 87, 88, 89, 90, 91, 92, 93, 94, 95, 96, 97, 98, 99, 100, 101, 102, 103, 104, 105, 106, 107, 108, 109, 110, 111, 112, 113, 114, 115, 116, 117, 118, 119, 120] (by decide +kernel) (by decide +kernel)
set_option maxRecDepth 20000 in
theorem gX12_plan_X12_isMeet : GoodIn wsX12_plan (wsV RX12 288 RX12 yX12_isMeet wsX12_isMeet) := goodIn_app (goodIn_of _ (by decide +kernel)) ggX12_plan_X12_isMeet
set_option maxRecDepth 20000 in
theorem ggX12_plan_X12_isIn : GoodIn wsX12_plan wsX12_isIn := goodIn_r _ [10] (by decide +kernel) (by decide +kernel)
set_option maxRecDepth 20000 in
theorem gX12_plan_X12_isIn : GoodIn wsX12_plan (va_wsS RX12 184 yX12_isIn wsX12_isIn) := goodIn_app (goodIn_of _ (by decide +kernel)) ggX12_plan_X12_isIn
set_option maxRecDepth 20000 in
theorem ggX12_plan_X12_rowOf : GoodIn wsX12_plan wsX12_rowOf := goodIn_r _ [14, 2, 75, 76, 77, 78, 79, 80, 81, 82, 83, 84, 85, 86, 87, 88, 89, 90, 91, 92, 93, 94, 95, 96, 97, 98, 99, 100, 101, 102, 103, 104, 105, 106, 107, 108, 109, 110, 111, 112, 113, 114, 115, 116, 117, 118, 119, 120] (by decide +kernel) (by decide +kernel)
set_option maxRecDepth 20000 in
theorem gX12_plan_X12_rowOf : GoodIn wsX12_plan (wsV RX12 291 RX12 yX12_rowOf wsX12_rowOf) := goodIn_app (goodIn_of _ (by decide +kernel)) ggX12_plan_X12_rowOf
set_option maxRecDepth 20000 in
theorem ggX12_plan_X12_latestDue : GoodIn wsX12_plan wsX12_latestDue := goodIn_r _ [18, 2, 19, 20, 21, 22, 6, 23, 24, 25, 26, 27, 28, 29, 30, 31, 32, 33, 34, 35, 36, 37, 38, 39, 40, 75, 76, 77, 78, 79, 80, 81, 82, 83, 84, 85, 86, 87, 88, 89, 90, 91, 92, 93, 94, 95, 96, 97, 98, 99, 100, 101, 102, 103, 104, 105, 106, 107, 108, 109, 110, 111, 112, 113, 114, 115, 116, 117, 118, 119, 120] (by decide +kernel) (by decide +kernel)
set_option maxRecDepth 20000 in
theorem gX12_plan_X12_latestDue : GoodIn wsX12_plan (wsV RX12 338 RX12 yX12_latestDue wsX12_latestDue) := goodIn_app (goodIn_of _ (by decide +kernel)) ggX12_plan_X12_latestDue
set_option maxRecDepth 20000 in
theorem ggX12_plan_X12_laysCome : GoodIn wsX12_plan wsX12_laysCome := goodIn_r _ [44, 45, 2, 46, 47, 48, 6, 49, 50, 51, 52, 53, 54, 55, 56, 57, 58, 20, 21, 22, 23, 24, 25, 26, 59, 60, 61, 62, 63, 64, 65, 66, 27, 28, 29, 30, 31, 32, 33, 34, 35, 36, 37, 67, 68, 69, 70, 75, 76, 77, 78, 79, 80, 81, 82, 83, 84, 85, 86, 87, 88, 89, 90, 91, 92, 93, 94, 95, 96, 97, 98, 99, 100, 101, 102, 103, 104, 105, 106, 107, 108, 109, 110, 111, 112, 113, 114, 115, 116, 117, 118, 119, 120] (by decide +kernel) (by decide +kernel)
set_option maxRecDepth 20000 in
theorem gX12_plan_X12_laysCome : GoodIn wsX12_plan (wsV RX12 328 RX12 yX12_laysCome wsX12_laysCome) := goodIn_app (goodIn_of _ (by decide +kernel)) ggX12_plan_X12_laysCome
set_option maxRecDepth 20000 in
theorem ggX12_plan_X12_lastOf : GoodIn wsX12_plan wsX12_lastOf := goodIn_r _ [74, 2, 45, 20, 21, 22, 6, 23, 24, 25, 26, 35, 36, 37, 75, 76, 77, 78, 79, 80, 81, 82, 83, 84, 85, 86, 87, 88, 89, 90, 91, 92, 93, 94, 95, 96, 97, 98, 99, 100, 101, 102, 103, 104, 105, 106, 107, 108, 109, 110, 111, 112, 113, 114, 115, 116, 117, 118, 119, 120] (by decide +kernel) (by decide +kernel)
set_option maxRecDepth 20000 in
theorem gX12_plan_X12_lastOf : GoodIn wsX12_plan (wsV RX12 331 RX12 yX12_lastOf wsX12_lastOf) := goodIn_app (goodIn_of _ (by decide +kernel)) ggX12_plan_X12_lastOf
theorem dX12_plan_0 : decode cX12_plan 0 = .ok (.aload_n 0, 1) := by decide +kernel
theorem dX12_plan_1 : decode cX12_plan 1 = .ok (.iconst 0, 1) := by decide +kernel
theorem dX12_plan_2 : decode cX12_plan 2 = .ok (.putfield 1, 3) := by decide +kernel
theorem dX12_plan_5 : decode cX12_plan 5 = .ok (.aload_n 0, 1) := by decide +kernel
theorem dX12_plan_6 : decode cX12_plan 6 = .ok (.iload_n 1, 1) := by decide +kernel
theorem dX12_plan_7 : decode cX12_plan 7 = .ok (.invokevirtual 288, 3) := by decide +kernel
theorem dX12_plan_10 : decode cX12_plan 10 = .ok (.ifCond .eq 36, 3) := by decide +kernel
theorem dX12_plan_13 : decode cX12_plan 13 = .ok (.iload_n 2, 1) := by decide +kernel
theorem dX12_plan_14 : decode cX12_plan 14 = .ok (.iconst 0, 1) := by decide +kernel
theorem dX12_plan_15 : decode cX12_plan 15 = .ok (.sipush 240, 3) := by decide +kernel
theorem dX12_plan_18 : decode cX12_plan 18 = .ok (.invokestatic 184, 3) := by decide +kernel
theorem dX12_plan_21 : decode cX12_plan 21 = .ok (.ifCond .eq 25, 3) := by decide +kernel
theorem dX12_plan_24 : decode cX12_plan 24 = .ok (.aload_n 0, 1) := by decide +kernel
theorem dX12_plan_25 : decode cX12_plan 25 = .ok (.getfield 33, 3) := by decide +kernel
theorem dX12_plan_28 : decode cX12_plan 28 = .ok (.bipush 46, 2) := by decide +kernel
theorem dX12_plan_30 : decode cX12_plan 30 = .ok (.iload_n 1, 1) := by decide +kernel
theorem dX12_plan_31 : decode cX12_plan 31 = .ok (.iadd, 1) := by decide +kernel
theorem dX12_plan_32 : decode cX12_plan 32 = .ok (.iaload, 1) := by decide +kernel
theorem dX12_plan_33 : decode cX12_plan 33 = .ok (.ifCond .eq 13, 3) := by decide +kernel
theorem dX12_plan_36 : decode cX12_plan 36 = .ok (.aload_n 0, 1) := by decide +kernel
theorem dX12_plan_37 : decode cX12_plan 37 = .ok (.bipush 81, 2) := by decide +kernel
theorem dX12_plan_39 : decode cX12_plan 39 = .ok (.iload_n 1, 1) := by decide +kernel
theorem dX12_plan_40 : decode cX12_plan 40 = .ok (.invokevirtual 291, 3) := by decide +kernel
theorem dX12_plan_43 : decode cX12_plan 43 = .ok (.ifCond .eq 5, 3) := by decide +kernel
theorem dX12_plan_46 : decode cX12_plan 46 = .ok (.iconst (-1), 1) := by decide +kernel
theorem dX12_plan_47 : decode cX12_plan 47 = .ok (.ireturn, 1) := by decide +kernel
theorem dX12_plan_48 : decode cX12_plan 48 = .ok (.aload_n 0, 1) := by decide +kernel
theorem dX12_plan_49 : decode cX12_plan 49 = .ok (.getfield 33, 3) := by decide +kernel
theorem dX12_plan_52 : decode cX12_plan 52 = .ok (.bipush 75, 2) := by decide +kernel
theorem dX12_plan_54 : decode cX12_plan 54 = .ok (.iload_n 1, 1) := by decide +kernel
theorem dX12_plan_55 : decode cX12_plan 55 = .ok (.iadd, 1) := by decide +kernel
theorem dX12_plan_56 : decode cX12_plan 56 = .ok (.iaload, 1) := by decide +kernel
theorem dX12_plan_57 : decode cX12_plan 57 = .ok (.istore_n 3, 1) := by decide +kernel
theorem dX12_plan_58 : decode cX12_plan 58 = .ok (.iconst (-1), 1) := by decide +kernel
theorem dX12_plan_59 : decode cX12_plan 59 = .ok (.istore 4, 2) := by decide +kernel
theorem dX12_plan_61 : decode cX12_plan 61 = .ok (.aload_n 0, 1) := by decide +kernel
theorem dX12_plan_62 : decode cX12_plan 62 = .ok (.iload_n 1, 1) := by decide +kernel
theorem dX12_plan_63 : decode cX12_plan 63 = .ok (.iload_n 2, 1) := by decide +kernel
theorem dX12_plan_64 : decode cX12_plan 64 = .ok (.invokevirtual 338, 3) := by decide +kernel
theorem dX12_plan_67 : decode cX12_plan 67 = .ok (.istore 5, 2) := by decide +kernel
theorem dX12_plan_69 : decode cX12_plan 69 = .ok (.iload 5, 2) := by decide +kernel
theorem dX12_plan_71 : decode cX12_plan 71 = .ok (.aload_n 0, 1) := by decide +kernel
theorem dX12_plan_72 : decode cX12_plan 72 = .ok (.getfield 33, 3) := by decide +kernel
theorem dX12_plan_75 : decode cX12_plan 75 = .ok (.bipush 52, 2) := by decide +kernel
theorem dX12_plan_77 : decode cX12_plan 77 = .ok (.iaload, 1) := by decide +kernel
theorem dX12_plan_78 : decode cX12_plan 78 = .ok (.if_icmp .le 45, 3) := by decide +kernel
theorem dX12_plan_81 : decode cX12_plan 81 = .ok (.iload 4, 2) := by decide +kernel
theorem dX12_plan_83 : decode cX12_plan 83 = .ok (.ifCond .ge 40, 3) := by decide +kernel
theorem dX12_plan_86 : decode cX12_plan 86 = .ok (.aload_n 0, 1) := by decide +kernel
theorem dX12_plan_87 : decode cX12_plan 87 = .ok (.getfield 33, 3) := by decide +kernel
theorem dX12_plan_90 : decode cX12_plan 90 = .ok (.bipush 75, 2) := by decide +kernel
theorem dX12_plan_92 : decode cX12_plan 92 = .ok (.iload_n 1, 1) := by decide +kernel
theorem dX12_plan_93 : decode cX12_plan 93 = .ok (.iadd, 1) := by decide +kernel
theorem dX12_plan_94 : decode cX12_plan 94 = .ok (.iload 5, 2) := by decide +kernel
theorem dX12_plan_96 : decode cX12_plan 96 = .ok (.iastore, 1) := by decide +kernel
theorem dX12_plan_97 : decode cX12_plan 97 = .ok (.aload_n 0, 1) := by decide +kernel
theorem dX12_plan_98 : decode cX12_plan 98 = .ok (.iload_n 1, 1) := by decide +kernel
theorem dX12_plan_99 : decode cX12_plan 99 = .ok (.iload_n 2, 1) := by decide +kernel
theorem dX12_plan_100 : decode cX12_plan 100 = .ok (.iconst 1, 1) := by decide +kernel
theorem dX12_plan_101 : decode cX12_plan 101 = .ok (.iadd, 1) := by decide +kernel
theorem dX12_plan_102 : decode cX12_plan 102 = .ok (.invokevirtual 328, 3) := by decide +kernel
theorem dX12_plan_105 : decode cX12_plan 105 = .ok (.aload_n 0, 1) := by decide +kernel
theorem dX12_plan_106 : decode cX12_plan 106 = .ok (.iload_n 1, 1) := by decide +kernel
theorem dX12_plan_107 : decode cX12_plan 107 = .ok (.invokevirtual 331, 3) := by decide +kernel
theorem dX12_plan_110 : decode cX12_plan 110 = .ok (.ifCond .lt 7, 3) := by decide +kernel
theorem dX12_plan_113 : decode cX12_plan 113 = .ok (.iload 5, 2) := by decide +kernel
theorem dX12_plan_115 : decode cX12_plan 115 = .ok (.istore 4, 2) := by decide +kernel
theorem dX12_plan_117 : decode cX12_plan 117 = .ok (.iinc 5 (-1), 3) := by decide +kernel
theorem dX12_plan_120 : decode cX12_plan 120 = .ok (.goto (-51), 3) := by decide +kernel
theorem dX12_plan_123 : decode cX12_plan 123 = .ok (.aload_n 0, 1) := by decide +kernel
theorem dX12_plan_124 : decode cX12_plan 124 = .ok (.getfield 33, 3) := by decide +kernel
theorem dX12_plan_127 : decode cX12_plan 127 = .ok (.bipush 75, 2) := by decide +kernel
theorem dX12_plan_129 : decode cX12_plan 129 = .ok (.iload_n 1, 1) := by decide +kernel
theorem dX12_plan_130 : decode cX12_plan 130 = .ok (.iadd, 1) := by decide +kernel
theorem dX12_plan_131 : decode cX12_plan 131 = .ok (.iload_n 3, 1) := by decide +kernel
theorem dX12_plan_132 : decode cX12_plan 132 = .ok (.iastore, 1) := by decide +kernel
theorem dX12_plan_133 : decode cX12_plan 133 = .ok (.iload 4, 2) := by decide +kernel
theorem dX12_plan_135 : decode cX12_plan 135 = .ok (.ireturn, 1) := by decide +kernel
set_option maxRecDepth 20000 in
theorem ggX12_isTime_X12_octet : GoodIn wsX12_isTime wsX12_octet := goodIn_r _ [6, 7, 24, 25, 26, 27, 28, 29, 30, 31, 32, 33, 34, 35, 36, 37, 38, 39, 40, 41, 42, 43, 44, 45, 46, 47, 48, 49, 50, 51, 52, 53, 54, 55, 56, 57, 58, 59, 60, 61, 62, 63, 64, 65, 66, 67, 68, 69] (by decide +kernel) (by decide +kernel)
set_option maxRecDepth 20000 in
theorem gX12_isTime_X12_octet : GoodIn wsX12_isTime (wsV RX12 341 RX12 yX12_octet wsX12_octet) := goodIn_app (goodIn_of _ (by decide +kernel)) ggX12_isTime_X12_octet
set_option maxRecDepth 20000 in
theorem ggX12_isTime_X12_showsAt : GoodIn wsX12_isTime wsX12_showsAt := goodIn_r _ [11, 12, 13, 14, 5, 15, 16, 17, 18, 19, 20, 21, 22, 23, 24, 25, 26, 27, 28, 29, 30, 31, 32, 33, 34, 35, 36, 37, 38, 39, 40, 41, 42, 43, 44, 45, 46, 47, 48, 49, 50, 51, 52, 53, 54, 55, 56, 57, 58, 59, 60, 61, 62, 63, 64, 65, 66, 67, 68, 69] (by decide +kernel) (by decide +kernel)
set_option maxRecDepth 20000 in
theorem gX12_isTime_X12_showsAt : GoodIn wsX12_isTime (wsV RX12 265 RX12 yX12_showsAt wsX12_showsAt) := goodIn_app (goodIn_of _ (by decide +kernel)) ggX12_isTime_X12_showsAt
theorem dX12_isTime_0 : decode cX12_isTime 0 = .ok (.iconst 1, 1) := by decide +kernel
theorem dX12_isTime_1 : decode cX12_isTime 1 = .ok (.istore_n 2, 1) := by decide +kernel
theorem dX12_isTime_2 : decode cX12_isTime 2 = .ok (.iconst 0, 1) := by decide +kernel
theorem dX12_isTime_3 : decode cX12_isTime 3 = .ok (.istore_n 3, 1) := by decide +kernel
theorem dX12_isTime_4 : decode cX12_isTime 4 = .ok (.iload_n 3, 1) := by decide +kernel
theorem dX12_isTime_5 : decode cX12_isTime 5 = .ok (.aload_n 0, 1) := by decide +kernel
theorem dX12_isTime_6 : decode cX12_isTime 6 = .ok (.getfield 18, 3) := by decide +kernel
theorem dX12_isTime_9 : decode cX12_isTime 9 = .ok (.if_icmp .ge 50, 3) := by decide +kernel
theorem dX12_isTime_12 : decode cX12_isTime 12 = .ok (.iload_n 2, 1) := by decide +kernel
theorem dX12_isTime_13 : decode cX12_isTime 13 = .ok (.ifCond .eq 38, 3) := by decide +kernel
theorem dX12_isTime_16 : decode cX12_isTime 16 = .ok (.aload_n 0, 1) := by decide +kernel
theorem dX12_isTime_17 : decode cX12_isTime 17 = .ok (.aload_n 0, 1) := by decide +kernel
theorem dX12_isTime_18 : decode cX12_isTime 18 = .ok (.iload_n 3, 1) := by decide +kernel
theorem dX12_isTime_19 : decode cX12_isTime 19 = .ok (.invokevirtual 341, 3) := by decide +kernel
theorem dX12_isTime_22 : decode cX12_isTime 22 = .ok (.iload_n 1, 1) := by decide +kernel
theorem dX12_isTime_23 : decode cX12_isTime 23 = .ok (.invokevirtual 265, 3) := by decide +kernel
theorem dX12_isTime_26 : decode cX12_isTime 26 = .ok (.bipush 60, 2) := by decide +kernel
theorem dX12_isTime_28 : decode cX12_isTime 28 = .ok (.aload_n 0, 1) := by decide +kernel
theorem dX12_isTime_29 : decode cX12_isTime 29 = .ok (.iload_n 3, 1) := by decide +kernel
theorem dX12_isTime_30 : decode cX12_isTime 30 = .ok (.iconst 1, 1) := by decide +kernel
theorem dX12_isTime_31 : decode cX12_isTime 31 = .ok (.iadd, 1) := by decide +kernel
theorem dX12_isTime_32 : decode cX12_isTime 32 = .ok (.invokevirtual 341, 3) := by decide +kernel
theorem dX12_isTime_35 : decode cX12_isTime 35 = .ok (.imul, 1) := by decide +kernel
theorem dX12_isTime_36 : decode cX12_isTime 36 = .ok (.aload_n 0, 1) := by decide +kernel
theorem dX12_isTime_37 : decode cX12_isTime 37 = .ok (.iload_n 3, 1) := by decide +kernel
theorem dX12_isTime_38 : decode cX12_isTime 38 = .ok (.iconst 2, 1) := by decide +kernel
theorem dX12_isTime_39 : decode cX12_isTime 39 = .ok (.iadd, 1) := by decide +kernel
theorem dX12_isTime_40 : decode cX12_isTime 40 = .ok (.invokevirtual 341, 3) := by decide +kernel
theorem dX12_isTime_43 : decode cX12_isTime 43 = .ok (.iadd, 1) := by decide +kernel
theorem dX12_isTime_44 : decode cX12_isTime 44 = .ok (.if_icmp .ne 7, 3) := by decide +kernel
theorem dX12_isTime_47 : decode cX12_isTime 47 = .ok (.iconst 1, 1) := by decide +kernel
theorem dX12_isTime_48 : decode cX12_isTime 48 = .ok (.goto 4, 3) := by decide +kernel
theorem dX12_isTime_51 : decode cX12_isTime 51 = .ok (.iconst 0, 1) := by decide +kernel
theorem dX12_isTime_52 : decode cX12_isTime 52 = .ok (.istore_n 2, 1) := by decide +kernel
theorem dX12_isTime_53 : decode cX12_isTime 53 = .ok (.iinc 3 3, 3) := by decide +kernel
theorem dX12_isTime_56 : decode cX12_isTime 56 = .ok (.goto (-52), 3) := by decide +kernel
theorem dX12_isTime_59 : decode cX12_isTime 59 = .ok (.iload_n 2, 1) := by decide +kernel
theorem dX12_isTime_60 : decode cX12_isTime 60 = .ok (.ireturn, 1) := by decide +kernel
set_option maxRecDepth 20000 in
theorem ggX12_leftBy_X12_isTime : GoodIn wsX12_leftBy wsX12_isTime := goodIn_r _ [7, 8, 9, 10, 11, 6, 12, 13, 14, 15, 16, 17, 18, 19, 20, 21, 2, 22, 23, 24, 25, 26, 27, 28, 32, 33, 34, 35, 36, 37, 38, 39, 40, 41, 42, 43, 44, 45, 46, 47, 48, 49, 50, 51, 52, 53, 54, 55, 56, 57, 58, 59, 60, 61, 62, 63, 64, 65, 66, 67, 68, 69, 70, 71, 72, 73, 74, 75, 76, 77] (by decide +kernel) (by decide +kernel)
set_option maxRecDepth 20000 in
theorem gX12_leftBy_X12_isTime : GoodIn wsX12_leftBy (wsV RX12 344 RX12 yX12_isTime wsX12_isTime) := goodIn_app (goodIn_of _ (by decide +kernel)) ggX12_leftBy_X12_isTime
set_option maxRecDepth 20000 in
theorem ggX12_leftBy_X12_showsAt : GoodIn wsX12_leftBy wsX12_showsAt := goodIn_r _ [17, 18, 19, 20, 6, 21, 2, 22, 23, 24, 25, 26, 27, 28, 32, 33, 34, 35, 36, 37, 38, 39, 40, 41, 42, 43, 44, 45, 46, 47, 48, 49, 50, 51, 52, 53, 54, 55, 56, 57, 58, 59, 60, 61, 62, 63, 64, 65, 66, 67, 68, 69, 70, 71, 72, 73, 74, 75, 76, 77] (by decide +kernel) (by decide +kernel)
set_option maxRecDepth 20000 in
theorem gX12_leftBy_X12_showsAt : GoodIn wsX12_leftBy (wsV RX12 265 RX12 yX12_showsAt wsX12_showsAt) := goodIn_app (goodIn_of _ (by decide +kernel)) ggX12_leftBy_X12_showsAt
set_option maxRecDepth 20000 in
theorem ggX12_leftBy_X12_greater : GoodIn wsX12_leftBy wsX12_greater := goodIn_r _ [31] (by decide +kernel) (by decide +kernel)
set_option maxRecDepth 20000 in
theorem gX12_leftBy_X12_greater : GoodIn wsX12_leftBy (va_wsS RX12 294 yX12_greater wsX12_greater) := goodIn_app (goodIn_of _ (by decide +kernel)) ggX12_leftBy_X12_greater
theorem dX12_leftBy_0 : decode cX12_leftBy 0 = .ok (.iconst 0, 1) := by decide +kernel
theorem dX12_leftBy_1 : decode cX12_leftBy 1 = .ok (.istore_n 2, 1) := by decide +kernel
theorem dX12_leftBy_2 : decode cX12_leftBy 2 = .ok (.iload_n 2, 1) := by decide +kernel
theorem dX12_leftBy_3 : decode cX12_leftBy 3 = .ok (.sipush 720, 3) := by decide +kernel
theorem dX12_leftBy_6 : decode cX12_leftBy 6 = .ok (.if_icmp .ge 16, 3) := by decide +kernel
theorem dX12_leftBy_9 : decode cX12_leftBy 9 = .ok (.aload_n 0, 1) := by decide +kernel
theorem dX12_leftBy_10 : decode cX12_leftBy 10 = .ok (.getfield 59, 3) := by decide +kernel
theorem dX12_leftBy_13 : decode cX12_leftBy 13 = .ok (.iload_n 2, 1) := by decide +kernel
theorem dX12_leftBy_14 : decode cX12_leftBy 14 = .ok (.iconst 0, 1) := by decide +kernel
theorem dX12_leftBy_15 : decode cX12_leftBy 15 = .ok (.iastore, 1) := by decide +kernel
theorem dX12_leftBy_16 : decode cX12_leftBy 16 = .ok (.iinc 2 1, 3) := by decide +kernel
theorem dX12_leftBy_19 : decode cX12_leftBy 19 = .ok (.goto (-17), 3) := by decide +kernel
theorem dX12_leftBy_22 : decode cX12_leftBy 22 = .ok (.iconst 0, 1) := by decide +kernel
theorem dX12_leftBy_23 : decode cX12_leftBy 23 = .ok (.istore_n 2, 1) := by decide +kernel
theorem dX12_leftBy_24 : decode cX12_leftBy 24 = .ok (.iconst 0, 1) := by decide +kernel
theorem dX12_leftBy_25 : decode cX12_leftBy 25 = .ok (.istore_n 3, 1) := by decide +kernel
theorem dX12_leftBy_26 : decode cX12_leftBy 26 = .ok (.iload_n 3, 1) := by decide +kernel
theorem dX12_leftBy_27 : decode cX12_leftBy 27 = .ok (.sipush 1440, 3) := by decide +kernel
theorem dX12_leftBy_30 : decode cX12_leftBy 30 = .ok (.if_icmp .ge 67, 3) := by decide +kernel
theorem dX12_leftBy_33 : decode cX12_leftBy 33 = .ok (.aload_n 0, 1) := by decide +kernel
theorem dX12_leftBy_34 : decode cX12_leftBy 34 = .ok (.aload_n 0, 1) := by decide +kernel
theorem dX12_leftBy_35 : decode cX12_leftBy 35 = .ok (.getfield 33, 3) := by decide +kernel
theorem dX12_leftBy_38 : decode cX12_leftBy 38 = .ok (.bipush 52, 2) := by decide +kernel
theorem dX12_leftBy_40 : decode cX12_leftBy 40 = .ok (.iaload, 1) := by decide +kernel
theorem dX12_leftBy_41 : decode cX12_leftBy 41 = .ok (.iload_n 3, 1) := by decide +kernel
theorem dX12_leftBy_42 : decode cX12_leftBy 42 = .ok (.iadd, 1) := by decide +kernel
theorem dX12_leftBy_43 : decode cX12_leftBy 43 = .ok (.invokevirtual 344, 3) := by decide +kernel
theorem dX12_leftBy_46 : decode cX12_leftBy 46 = .ok (.ifCond .ne 6, 3) := by decide +kernel
theorem dX12_leftBy_49 : decode cX12_leftBy 49 = .ok (.goto 42, 3) := by decide +kernel
theorem dX12_leftBy_52 : decode cX12_leftBy 52 = .ok (.aload_n 0, 1) := by decide +kernel
theorem dX12_leftBy_53 : decode cX12_leftBy 53 = .ok (.iload_n 1, 1) := by decide +kernel
theorem dX12_leftBy_54 : decode cX12_leftBy 54 = .ok (.aload_n 0, 1) := by decide +kernel
theorem dX12_leftBy_55 : decode cX12_leftBy 55 = .ok (.getfield 33, 3) := by decide +kernel
theorem dX12_leftBy_58 : decode cX12_leftBy 58 = .ok (.bipush 52, 2) := by decide +kernel
theorem dX12_leftBy_60 : decode cX12_leftBy 60 = .ok (.iaload, 1) := by decide +kernel
theorem dX12_leftBy_61 : decode cX12_leftBy 61 = .ok (.iload_n 3, 1) := by decide +kernel
theorem dX12_leftBy_62 : decode cX12_leftBy 62 = .ok (.iadd, 1) := by decide +kernel
theorem dX12_leftBy_63 : decode cX12_leftBy 63 = .ok (.invokevirtual 265, 3) := by decide +kernel
theorem dX12_leftBy_66 : decode cX12_leftBy 66 = .ok (.istore 4, 2) := by decide +kernel
theorem dX12_leftBy_68 : decode cX12_leftBy 68 = .ok (.aload_n 0, 1) := by decide +kernel
theorem dX12_leftBy_69 : decode cX12_leftBy 69 = .ok (.getfield 59, 3) := by decide +kernel
theorem dX12_leftBy_72 : decode cX12_leftBy 72 = .ok (.iload 4, 2) := by decide +kernel
theorem dX12_leftBy_74 : decode cX12_leftBy 74 = .ok (.dup2, 1) := by decide +kernel
theorem dX12_leftBy_75 : decode cX12_leftBy 75 = .ok (.iaload, 1) := by decide +kernel
theorem dX12_leftBy_76 : decode cX12_leftBy 76 = .ok (.iconst 1, 1) := by decide +kernel
theorem dX12_leftBy_77 : decode cX12_leftBy 77 = .ok (.iadd, 1) := by decide +kernel
theorem dX12_leftBy_78 : decode cX12_leftBy 78 = .ok (.iastore, 1) := by decide +kernel
theorem dX12_leftBy_79 : decode cX12_leftBy 79 = .ok (.iload_n 2, 1) := by decide +kernel
theorem dX12_leftBy_80 : decode cX12_leftBy 80 = .ok (.aload_n 0, 1) := by decide +kernel
theorem dX12_leftBy_81 : decode cX12_leftBy 81 = .ok (.getfield 59, 3) := by decide +kernel
theorem dX12_leftBy_84 : decode cX12_leftBy 84 = .ok (.iload 4, 2) := by decide +kernel
theorem dX12_leftBy_86 : decode cX12_leftBy 86 = .ok (.iaload, 1) := by decide +kernel
theorem dX12_leftBy_87 : decode cX12_leftBy 87 = .ok (.invokestatic 294, 3) := by decide +kernel
theorem dX12_leftBy_90 : decode cX12_leftBy 90 = .ok (.istore_n 2, 1) := by decide +kernel
theorem dX12_leftBy_91 : decode cX12_leftBy 91 = .ok (.iinc 3 1, 3) := by decide +kernel
theorem dX12_leftBy_94 : decode cX12_leftBy 94 = .ok (.goto (-68), 3) := by decide +kernel
theorem dX12_leftBy_97 : decode cX12_leftBy 97 = .ok (.iload_n 2, 1) := by decide +kernel
theorem dX12_leftBy_98 : decode cX12_leftBy 98 = .ok (.ireturn, 1) := by decide +kernel
set_option maxRecDepth 20000 in
theorem ggX12_time_X12_taken : GoodIn wsX12_time wsX12_taken := goodIn_r _ [12, 13, 2, 14, 15, 55, 56, 57, 58, 59, 60, 61, 62, 63, 64, 65, 66, 67, 68, 69, 70, 71, 72, 73, 74, 75, 76, 77, 78, 79, 80, 81, 82, 83, 84, 85, 86, 87, 88, 89, 90, 91, 92, 93, 94, 95, 96, 97, 98, 99, 100] (by decide +kernel) (by decide +kernel)
set_option maxRecDepth 20000 in
theorem gX12_time_X12_taken : GoodIn wsX12_time (wsV RX12 238 RX12 yX12_taken wsX12_taken) := goodIn_app (goodIn_of _ (by decide +kernel)) ggX12_time_X12_taken
set_option maxRecDepth 20000 in
theorem ggX12_time_X12_isIn : GoodIn wsX12_time wsX12_isIn := goodIn_r _ [18] (by decide +kernel) (by decide +kernel)
set_option maxRecDepth 20000 in
theorem gX12_time_X12_isIn : GoodIn wsX12_time (va_wsS RX12 184 yX12_isIn wsX12_isIn) := goodIn_app (goodIn_of _ (by decide +kernel)) ggX12_time_X12_isIn
set_option maxRecDepth 20000 in
theorem ggX12_time_X12_octet : GoodIn wsX12_time wsX12_octet := goodIn_r _ [22, 23, 55, 56, 57, 58, 59, 60, 61, 62, 63, 64, 65, 66, 67, 68, 69, 70, 71, 72, 73, 74, 75, 76, 77, 78, 79, 80, 81, 82, 83, 84, 85, 86, 87, 88, 89, 90, 91, 92, 93, 94, 95, 96, 97, 98, 99, 100] (by decide +kernel) (by decide +kernel)
set_option maxRecDepth 20000 in
theorem gX12_time_X12_octet : GoodIn wsX12_time (wsV RX12 341 RX12 yX12_octet wsX12_octet) := goodIn_app (goodIn_of _ (by decide +kernel)) ggX12_time_X12_octet
set_option maxRecDepth 20000 in
theorem ggX12_time_X12_isClock : GoodIn wsX12_time wsX12_isClock := goodIn_r _ [27, 3, 16, 17, 11, 18, 55, 56, 57, 58, 59, 60, 61, 62, 63, 64, 65, 66, 67, 68, 69, 70, 71, 72, 73, 74, 75, 76, 77, 78, 79, 80, 81, 82, 83, 84, 85, 86, 87, 88, 89, 90, 91, 92, 93, 94, 95, 96, 97, 98, 99, 100] (by decide +kernel) (by decide +kernel)
set_option maxRecDepth 20000 in
theorem gX12_time_X12_isClock : GoodIn wsX12_time (wsV RX12 262 RX12 yX12_isClock wsX12_isClock) := goodIn_app (goodIn_of _ (by decide +kernel)) ggX12_time_X12_isClock
set_option maxRecDepth 20000 in
theorem ggX12_time_X12_isTime : GoodIn wsX12_time wsX12_isTime := goodIn_r _ [31, 2, 19, 20, 21, 11, 22, 23, 32, 33, 34, 35, 36, 37, 38, 39, 3, 40, 41, 42, 43, 44, 45, 46, 55, 56, 57, 58, 59, 60, 61, 62, 63, 64, 65, 66, 67, 68, 69, 70, 71, 72, 73, 74, 75, 76, 77, 78, 79, 80, 81, 82, 83, 84, 85, 86, 87, 88, 89, 90, 91, 92, 93, 94, 95, 96, 97, 98, 99, 100] (by decide +kernel) (by decide +kernel)
set_option maxRecDepth 20000 in
theorem gX12_time_X12_isTime : GoodIn wsX12_time (wsV RX12 344 RX12 yX12_isTime wsX12_isTime) := goodIn_app (goodIn_of _ (by decide +kernel)) ggX12_time_X12_isTime
set_option maxRecDepth 20000 in
theorem ggX12_time_X12_leftBy : GoodIn wsX12_time wsX12_leftBy := goodIn_r _ [50, 51, 3, 28, 29, 30, 11, 31, 2, 19, 20, 21, 22, 23, 32, 33, 34, 35, 36, 37, 38, 39, 40, 41, 42, 43, 44, 45, 46, 52, 53, 54, 55, 56, 57, 58, 59, 60, 61, 62, 63, 64, 65, 66, 67, 68, 69, 70, 71, 72, 73, 74, 75, 76, 77, 78, 79, 80, 81, 82, 83, 84, 85, 86, 87, 88, 89, 90, 91, 92, 93, 94, 95, 96, 97, 98, 99, 100] (by decide +kernel) (by decide +kernel)
set_option maxRecDepth 20000 in
theorem gX12_time_X12_leftBy : GoodIn wsX12_time (wsV RX12 354 RX12 yX12_leftBy wsX12_leftBy) := goodIn_app (goodIn_of _ (by decide +kernel)) ggX12_time_X12_leftBy
theorem dX12_time_0 : decode cX12_time 0 = .ok (.aload_n 0, 1) := by decide +kernel
theorem dX12_time_1 : decode cX12_time 1 = .ok (.iconst 0, 1) := by decide +kernel
theorem dX12_time_2 : decode cX12_time 2 = .ok (.putfield 1, 3) := by decide +kernel
theorem dX12_time_5 : decode cX12_time 5 = .ok (.aload_n 0, 1) := by decide +kernel
theorem dX12_time_6 : decode cX12_time 6 = .ok (.sipush 940, 3) := by decide +kernel
theorem dX12_time_9 : decode cX12_time 9 = .ok (.invokevirtual 238, 3) := by decide +kernel
theorem dX12_time_12 : decode cX12_time 12 = .ok (.aload_n 0, 1) := by decide +kernel
theorem dX12_time_13 : decode cX12_time 13 = .ok (.getfield 18, 3) := by decide +kernel
theorem dX12_time_16 : decode cX12_time 16 = .ok (.iconst 3, 1) := by decide +kernel
theorem dX12_time_17 : decode cX12_time 17 = .ok (.bipush 15, 2) := by decide +kernel
theorem dX12_time_19 : decode cX12_time 19 = .ok (.invokestatic 184, 3) := by decide +kernel
theorem dX12_time_22 : decode cX12_time 22 = .ok (.ifCond .eq 12, 3) := by decide +kernel
theorem dX12_time_25 : decode cX12_time 25 = .ok (.aload_n 0, 1) := by decide +kernel
theorem dX12_time_26 : decode cX12_time 26 = .ok (.getfield 18, 3) := by decide +kernel
theorem dX12_time_29 : decode cX12_time 29 = .ok (.iconst 3, 1) := by decide +kernel
theorem dX12_time_30 : decode cX12_time 30 = .ok (.irem, 1) := by decide +kernel
theorem dX12_time_31 : decode cX12_time 31 = .ok (.ifCond .eq 5, 3) := by decide +kernel
theorem dX12_time_34 : decode cX12_time 34 = .ok (.iconst (-1), 1) := by decide +kernel
theorem dX12_time_35 : decode cX12_time 35 = .ok (.ireturn, 1) := by decide +kernel
theorem dX12_time_36 : decode cX12_time 36 = .ok (.iconst 0, 1) := by decide +kernel
theorem dX12_time_37 : decode cX12_time 37 = .ok (.istore_n 1, 1) := by decide +kernel
theorem dX12_time_38 : decode cX12_time 38 = .ok (.iload_n 1, 1) := by decide +kernel
theorem dX12_time_39 : decode cX12_time 39 = .ok (.aload_n 0, 1) := by decide +kernel
theorem dX12_time_40 : decode cX12_time 40 = .ok (.getfield 18, 3) := by decide +kernel
theorem dX12_time_43 : decode cX12_time 43 = .ok (.if_icmp .ge 47, 3) := by decide +kernel
theorem dX12_time_46 : decode cX12_time 46 = .ok (.aload_n 0, 1) := by decide +kernel
theorem dX12_time_47 : decode cX12_time 47 = .ok (.aload_n 0, 1) := by decide +kernel
theorem dX12_time_48 : decode cX12_time 48 = .ok (.iload_n 1, 1) := by decide +kernel
theorem dX12_time_49 : decode cX12_time 49 = .ok (.invokevirtual 341, 3) := by decide +kernel
theorem dX12_time_52 : decode cX12_time 52 = .ok (.invokevirtual 262, 3) := by decide +kernel
theorem dX12_time_55 : decode cX12_time 55 = .ok (.ifCond .eq 27, 3) := by decide +kernel
theorem dX12_time_58 : decode cX12_time 58 = .ok (.aload_n 0, 1) := by decide +kernel
theorem dX12_time_59 : decode cX12_time 59 = .ok (.iload_n 1, 1) := by decide +kernel
theorem dX12_time_60 : decode cX12_time 60 = .ok (.iconst 1, 1) := by decide +kernel
theorem dX12_time_61 : decode cX12_time 61 = .ok (.iadd, 1) := by decide +kernel
theorem dX12_time_62 : decode cX12_time 62 = .ok (.invokevirtual 341, 3) := by decide +kernel
theorem dX12_time_65 : decode cX12_time 65 = .ok (.bipush 11, 2) := by decide +kernel
theorem dX12_time_67 : decode cX12_time 67 = .ok (.if_icmp .gt 15, 3) := by decide +kernel
theorem dX12_time_70 : decode cX12_time 70 = .ok (.aload_n 0, 1) := by decide +kernel
theorem dX12_time_71 : decode cX12_time 71 = .ok (.iload_n 1, 1) := by decide +kernel
theorem dX12_time_72 : decode cX12_time 72 = .ok (.iconst 2, 1) := by decide +kernel
theorem dX12_time_73 : decode cX12_time 73 = .ok (.iadd, 1) := by decide +kernel
theorem dX12_time_74 : decode cX12_time 74 = .ok (.invokevirtual 341, 3) := by decide +kernel
theorem dX12_time_77 : decode cX12_time 77 = .ok (.bipush 59, 2) := by decide +kernel
theorem dX12_time_79 : decode cX12_time 79 = .ok (.if_icmp .le 5, 3) := by decide +kernel
theorem dX12_time_82 : decode cX12_time 82 = .ok (.iconst (-1), 1) := by decide +kernel
theorem dX12_time_83 : decode cX12_time 83 = .ok (.ireturn, 1) := by decide +kernel
theorem dX12_time_84 : decode cX12_time 84 = .ok (.iinc 1 3, 3) := by decide +kernel
theorem dX12_time_87 : decode cX12_time 87 = .ok (.goto (-49), 3) := by decide +kernel
theorem dX12_time_90 : decode cX12_time 90 = .ok (.iconst 0, 1) := by decide +kernel
theorem dX12_time_91 : decode cX12_time 91 = .ok (.istore_n 1, 1) := by decide +kernel
theorem dX12_time_92 : decode cX12_time 92 = .ok (.iconst 0, 1) := by decide +kernel
theorem dX12_time_93 : decode cX12_time 93 = .ok (.istore_n 2, 1) := by decide +kernel
theorem dX12_time_94 : decode cX12_time 94 = .ok (.sipush 1439, 3) := by decide +kernel
theorem dX12_time_97 : decode cX12_time 97 = .ok (.istore_n 3, 1) := by decide +kernel
theorem dX12_time_98 : decode cX12_time 98 = .ok (.iload_n 3, 1) := by decide +kernel
theorem dX12_time_99 : decode cX12_time 99 = .ok (.ifCond .lt 41, 3) := by decide +kernel
theorem dX12_time_102 : decode cX12_time 102 = .ok (.aload_n 0, 1) := by decide +kernel
theorem dX12_time_103 : decode cX12_time 103 = .ok (.aload_n 0, 1) := by decide +kernel
theorem dX12_time_104 : decode cX12_time 104 = .ok (.getfield 33, 3) := by decide +kernel
theorem dX12_time_107 : decode cX12_time 107 = .ok (.bipush 52, 2) := by decide +kernel
theorem dX12_time_109 : decode cX12_time 109 = .ok (.iaload, 1) := by decide +kernel
theorem dX12_time_110 : decode cX12_time 110 = .ok (.iload_n 3, 1) := by decide +kernel
theorem dX12_time_111 : decode cX12_time 111 = .ok (.iadd, 1) := by decide +kernel
theorem dX12_time_112 : decode cX12_time 112 = .ok (.invokevirtual 344, 3) := by decide +kernel
theorem dX12_time_115 : decode cX12_time 115 = .ok (.ifCond .ne 6, 3) := by decide +kernel
theorem dX12_time_118 : decode cX12_time 118 = .ok (.goto 16, 3) := by decide +kernel
theorem dX12_time_121 : decode cX12_time 121 = .ok (.iinc 1 1, 3) := by decide +kernel
theorem dX12_time_124 : decode cX12_time 124 = .ok (.aload_n 0, 1) := by decide +kernel
theorem dX12_time_125 : decode cX12_time 125 = .ok (.getfield 33, 3) := by decide +kernel
theorem dX12_time_128 : decode cX12_time 128 = .ok (.bipush 52, 2) := by decide +kernel
theorem dX12_time_130 : decode cX12_time 130 = .ok (.iaload, 1) := by decide +kernel
theorem dX12_time_131 : decode cX12_time 131 = .ok (.iload_n 3, 1) := by decide +kernel
theorem dX12_time_132 : decode cX12_time 132 = .ok (.iadd, 1) := by decide +kernel
theorem dX12_time_133 : decode cX12_time 133 = .ok (.istore_n 2, 1) := by decide +kernel
theorem dX12_time_134 : decode cX12_time 134 = .ok (.iinc 3 (-1), 3) := by decide +kernel
theorem dX12_time_137 : decode cX12_time 137 = .ok (.goto (-39), 3) := by decide +kernel
theorem dX12_time_140 : decode cX12_time 140 = .ok (.iload_n 1, 1) := by decide +kernel
theorem dX12_time_141 : decode cX12_time 141 = .ok (.ifCond .ne 5, 3) := by decide +kernel
theorem dX12_time_144 : decode cX12_time 144 = .ok (.iconst 0, 1) := by decide +kernel
theorem dX12_time_145 : decode cX12_time 145 = .ok (.ireturn, 1) := by decide +kernel
theorem dX12_time_146 : decode cX12_time 146 = .ok (.aload_n 0, 1) := by decide +kernel
theorem dX12_time_147 : decode cX12_time 147 = .ok (.iconst 1, 1) := by decide +kernel
theorem dX12_time_148 : decode cX12_time 148 = .ok (.putfield 347, 3) := by decide +kernel
theorem dX12_time_151 : decode cX12_time 151 = .ok (.aload_n 0, 1) := by decide +kernel
theorem dX12_time_152 : decode cX12_time 152 = .ok (.iload_n 2, 1) := by decide +kernel
theorem dX12_time_153 : decode cX12_time 153 = .ok (.putfield 350, 3) := by decide +kernel
theorem dX12_time_156 : decode cX12_time 156 = .ok (.ldc_w 353, 3) := by decide +kernel
theorem dX12_time_159 : decode cX12_time 159 = .ok (.istore_n 3, 1) := by decide +kernel
theorem dX12_time_160 : decode cX12_time 160 = .ok (.iconst 0, 1) := by decide +kernel
theorem dX12_time_161 : decode cX12_time 161 = .ok (.istore 4, 2) := by decide +kernel
theorem dX12_time_163 : decode cX12_time 163 = .ok (.iload 4, 2) := by decide +kernel
theorem dX12_time_165 : decode cX12_time 165 = .ok (.aload_n 0, 1) := by decide +kernel
theorem dX12_time_166 : decode cX12_time 166 = .ok (.getfield 33, 3) := by decide +kernel
theorem dX12_time_169 : decode cX12_time 169 = .ok (.iconst 0, 1) := by decide +kernel
theorem dX12_time_170 : decode cX12_time 170 = .ok (.iaload, 1) := by decide +kernel
theorem dX12_time_171 : decode cX12_time 171 = .ok (.if_icmp .ge 35, 3) := by decide +kernel
theorem dX12_time_174 : decode cX12_time 174 = .ok (.aload_n 0, 1) := by decide +kernel
theorem dX12_time_175 : decode cX12_time 175 = .ok (.iload 4, 2) := by decide +kernel
theorem dX12_time_177 : decode cX12_time 177 = .ok (.invokevirtual 354, 3) := by decide +kernel
theorem dX12_time_180 : decode cX12_time 180 = .ok (.istore 5, 2) := by decide +kernel
theorem dX12_time_182 : decode cX12_time 182 = .ok (.iload 5, 2) := by decide +kernel
theorem dX12_time_184 : decode cX12_time 184 = .ok (.iload_n 3, 1) := by decide +kernel
theorem dX12_time_185 : decode cX12_time 185 = .ok (.if_icmp .lt 6, 3) := by decide +kernel
theorem dX12_time_188 : decode cX12_time 188 = .ok (.goto 12, 3) := by decide +kernel
theorem dX12_time_191 : decode cX12_time 191 = .ok (.iload 5, 2) := by decide +kernel
theorem dX12_time_193 : decode cX12_time 193 = .ok (.istore_n 3, 1) := by decide +kernel
theorem dX12_time_194 : decode cX12_time 194 = .ok (.aload_n 0, 1) := by decide +kernel
theorem dX12_time_195 : decode cX12_time 195 = .ok (.iload 4, 2) := by decide +kernel
theorem dX12_time_197 : decode cX12_time 197 = .ok (.putfield 357, 3) := by decide +kernel
theorem dX12_time_200 : decode cX12_time 200 = .ok (.iinc 4 1, 3) := by decide +kernel
theorem dX12_time_203 : decode cX12_time 203 = .ok (.goto (-40), 3) := by decide +kernel
theorem dX12_time_206 : decode cX12_time 206 = .ok (.iload_n 1, 1) := by decide +kernel
theorem dX12_time_207 : decode cX12_time 207 = .ok (.ireturn, 1) := by decide +kernel
theorem dX12_timeFirst_0 : decode cX12_timeFirst 0 = .ok (.aload_n 0, 1) := by decide +kernel
theorem dX12_timeFirst_1 : decode cX12_timeFirst 1 = .ok (.iconst 0, 1) := by decide +kernel
theorem dX12_timeFirst_2 : decode cX12_timeFirst 2 = .ok (.putfield 1, 3) := by decide +kernel
theorem dX12_timeFirst_5 : decode cX12_timeFirst 5 = .ok (.aload_n 0, 1) := by decide +kernel
theorem dX12_timeFirst_6 : decode cX12_timeFirst 6 = .ok (.getfield 347, 3) := by decide +kernel
theorem dX12_timeFirst_9 : decode cX12_timeFirst 9 = .ok (.ifCond .eq 10, 3) := by decide +kernel
theorem dX12_timeFirst_12 : decode cX12_timeFirst 12 = .ok (.aload_n 0, 1) := by decide +kernel
theorem dX12_timeFirst_13 : decode cX12_timeFirst 13 = .ok (.getfield 350, 3) := by decide +kernel
theorem dX12_timeFirst_16 : decode cX12_timeFirst 16 = .ok (.goto 4, 3) := by decide +kernel
theorem dX12_timeFirst_19 : decode cX12_timeFirst 19 = .ok (.iconst (-1), 1) := by decide +kernel
theorem dX12_timeFirst_20 : decode cX12_timeFirst 20 = .ok (.ireturn, 1) := by decide +kernel
theorem dX12_look_0 : decode cX12_look 0 = .ok (.aload_n 0, 1) := by decide +kernel
theorem dX12_look_1 : decode cX12_look 1 = .ok (.iconst 0, 1) := by decide +kernel
theorem dX12_look_2 : decode cX12_look 2 = .ok (.putfield 1, 3) := by decide +kernel
theorem dX12_look_5 : decode cX12_look 5 = .ok (.aload_n 0, 1) := by decide +kernel
theorem dX12_look_6 : decode cX12_look 6 = .ok (.getfield 347, 3) := by decide +kernel
theorem dX12_look_9 : decode cX12_look 9 = .ok (.ifCond .eq 10, 3) := by decide +kernel
theorem dX12_look_12 : decode cX12_look 12 = .ok (.aload_n 0, 1) := by decide +kernel
theorem dX12_look_13 : decode cX12_look 13 = .ok (.getfield 357, 3) := by decide +kernel
theorem dX12_look_16 : decode cX12_look 16 = .ok (.goto 4, 3) := by decide +kernel
theorem dX12_look_19 : decode cX12_look 19 = .ok (.iconst (-1), 1) := by decide +kernel
theorem dX12_look_20 : decode cX12_look 20 = .ok (.ireturn, 1) := by decide +kernel
set_option maxRecDepth 20000 in
theorem ggX12_alike_X12_showsAt : GoodIn wsX12_alike wsX12_showsAt := goodIn_r _ [7, 8, 9, 10, 6, 11, 2, 12, 13, 14, 15, 16, 17, 18, 19, 20, 21, 22, 23, 24, 25, 26, 27, 28, 29, 30, 31, 32, 33, 34, 35, 36, 37, 38, 39, 40, 41, 42, 43, 44, 45, 46, 47, 48, 49, 50, 51, 52, 53, 54, 55, 56, 57, 58, 59, 60, 61, 62, 63, 64] (by decide +kernel) (by decide +kernel)
set_option maxRecDepth 20000 in
theorem gX12_alike_X12_showsAt : GoodIn wsX12_alike (wsV RX12 265 RX12 yX12_showsAt wsX12_showsAt) := goodIn_app (goodIn_of _ (by decide +kernel)) ggX12_alike_X12_showsAt
theorem dX12_alike_0 : decode cX12_alike 0 = .ok (.aload_n 0, 1) := by decide +kernel
theorem dX12_alike_1 : decode cX12_alike 1 = .ok (.iconst 0, 1) := by decide +kernel
theorem dX12_alike_2 : decode cX12_alike 2 = .ok (.putfield 1, 3) := by decide +kernel
theorem dX12_alike_5 : decode cX12_alike 5 = .ok (.iconst 0, 1) := by decide +kernel
theorem dX12_alike_6 : decode cX12_alike 6 = .ok (.istore_n 1, 1) := by decide +kernel
theorem dX12_alike_7 : decode cX12_alike 7 = .ok (.iload_n 1, 1) := by decide +kernel
theorem dX12_alike_8 : decode cX12_alike 8 = .ok (.sipush 1440, 3) := by decide +kernel
theorem dX12_alike_11 : decode cX12_alike 11 = .ok (.if_icmp .ge 85, 3) := by decide +kernel
theorem dX12_alike_14 : decode cX12_alike 14 = .ok (.aload_n 0, 1) := by decide +kernel
theorem dX12_alike_15 : decode cX12_alike 15 = .ok (.getfield 33, 3) := by decide +kernel
theorem dX12_alike_18 : decode cX12_alike 18 = .ok (.iconst 0, 1) := by decide +kernel
theorem dX12_alike_19 : decode cX12_alike 19 = .ok (.iaload, 1) := by decide +kernel
theorem dX12_alike_20 : decode cX12_alike 20 = .ok (.ifCond .le 76, 3) := by decide +kernel
theorem dX12_alike_23 : decode cX12_alike 23 = .ok (.iconst 1, 1) := by decide +kernel
theorem dX12_alike_24 : decode cX12_alike 24 = .ok (.istore_n 2, 1) := by decide +kernel
theorem dX12_alike_25 : decode cX12_alike 25 = .ok (.iconst 1, 1) := by decide +kernel
theorem dX12_alike_26 : decode cX12_alike 26 = .ok (.istore_n 3, 1) := by decide +kernel
theorem dX12_alike_27 : decode cX12_alike 27 = .ok (.iload_n 3, 1) := by decide +kernel
theorem dX12_alike_28 : decode cX12_alike 28 = .ok (.aload_n 0, 1) := by decide +kernel
theorem dX12_alike_29 : decode cX12_alike 29 = .ok (.getfield 33, 3) := by decide +kernel
theorem dX12_alike_32 : decode cX12_alike 32 = .ok (.iconst 0, 1) := by decide +kernel
theorem dX12_alike_33 : decode cX12_alike 33 = .ok (.iaload, 1) := by decide +kernel
theorem dX12_alike_34 : decode cX12_alike 34 = .ok (.if_icmp .ge 50, 3) := by decide +kernel
theorem dX12_alike_37 : decode cX12_alike 37 = .ok (.iload_n 2, 1) := by decide +kernel
theorem dX12_alike_38 : decode cX12_alike 38 = .ok (.ifCond .eq 38, 3) := by decide +kernel
theorem dX12_alike_41 : decode cX12_alike 41 = .ok (.aload_n 0, 1) := by decide +kernel
theorem dX12_alike_42 : decode cX12_alike 42 = .ok (.iload_n 3, 1) := by decide +kernel
theorem dX12_alike_43 : decode cX12_alike 43 = .ok (.aload_n 0, 1) := by decide +kernel
theorem dX12_alike_44 : decode cX12_alike 44 = .ok (.getfield 33, 3) := by decide +kernel
theorem dX12_alike_47 : decode cX12_alike 47 = .ok (.bipush 52, 2) := by decide +kernel
theorem dX12_alike_49 : decode cX12_alike 49 = .ok (.iaload, 1) := by decide +kernel
theorem dX12_alike_50 : decode cX12_alike 50 = .ok (.iload_n 1, 1) := by decide +kernel
theorem dX12_alike_51 : decode cX12_alike 51 = .ok (.iadd, 1) := by decide +kernel
theorem dX12_alike_52 : decode cX12_alike 52 = .ok (.invokevirtual 265, 3) := by decide +kernel
theorem dX12_alike_55 : decode cX12_alike 55 = .ok (.aload_n 0, 1) := by decide +kernel
theorem dX12_alike_56 : decode cX12_alike 56 = .ok (.iconst 0, 1) := by decide +kernel
theorem dX12_alike_57 : decode cX12_alike 57 = .ok (.aload_n 0, 1) := by decide +kernel
theorem dX12_alike_58 : decode cX12_alike 58 = .ok (.getfield 33, 3) := by decide +kernel
theorem dX12_alike_61 : decode cX12_alike 61 = .ok (.bipush 52, 2) := by decide +kernel
theorem dX12_alike_63 : decode cX12_alike 63 = .ok (.iaload, 1) := by decide +kernel
theorem dX12_alike_64 : decode cX12_alike 64 = .ok (.iload_n 1, 1) := by decide +kernel
theorem dX12_alike_65 : decode cX12_alike 65 = .ok (.iadd, 1) := by decide +kernel
theorem dX12_alike_66 : decode cX12_alike 66 = .ok (.invokevirtual 265, 3) := by decide +kernel
theorem dX12_alike_69 : decode cX12_alike 69 = .ok (.if_icmp .ne 7, 3) := by decide +kernel
theorem dX12_alike_72 : decode cX12_alike 72 = .ok (.iconst 1, 1) := by decide +kernel
theorem dX12_alike_73 : decode cX12_alike 73 = .ok (.goto 4, 3) := by decide +kernel
theorem dX12_alike_76 : decode cX12_alike 76 = .ok (.iconst 0, 1) := by decide +kernel
theorem dX12_alike_77 : decode cX12_alike 77 = .ok (.istore_n 2, 1) := by decide +kernel
theorem dX12_alike_78 : decode cX12_alike 78 = .ok (.iinc 3 1, 3) := by decide +kernel
theorem dX12_alike_81 : decode cX12_alike 81 = .ok (.goto (-54), 3) := by decide +kernel
theorem dX12_alike_84 : decode cX12_alike 84 = .ok (.iload_n 2, 1) := by decide +kernel
theorem dX12_alike_85 : decode cX12_alike 85 = .ok (.ifCond .eq 5, 3) := by decide +kernel
theorem dX12_alike_88 : decode cX12_alike 88 = .ok (.iload_n 1, 1) := by decide +kernel
theorem dX12_alike_89 : decode cX12_alike 89 = .ok (.ireturn, 1) := by decide +kernel
theorem dX12_alike_90 : decode cX12_alike 90 = .ok (.iinc 1 1, 3) := by decide +kernel
theorem dX12_alike_93 : decode cX12_alike 93 = .ok (.goto (-86), 3) := by decide +kernel
theorem dX12_alike_96 : decode cX12_alike 96 = .ok (.iconst (-1), 1) := by decide +kernel
theorem dX12_alike_97 : decode cX12_alike 97 = .ok (.ireturn, 1) := by decide +kernel
set_option maxRecDepth 20000 in
theorem ggX12_tend_X12_isMaster : GoodIn wsX12_tend wsX12_isMaster := goodIn_r _ [9, 4, 10, 11, 8, 12, 37, 38, 39, 40, 41, 42, 43, 44, 45, 46, 47, 48, 49, 50, 51, 52, 53, 54, 55, 56, 57, 58, 59, 60, 61, 62, 63, 64, 65, 66, 67, 68, 69, 70, 71, 72, 73, 74, 75, 76, 77, 78, 79, 80, 81, 82] (by decide +kernel) (by decide +kernel)
set_option maxRecDepth 20000 in
theorem gX12_tend_X12_isMaster : GoodIn wsX12_tend (wsV RX12 276 RX12 yX12_isMaster wsX12_isMaster) := goodIn_app (goodIn_of _ (by decide +kernel)) ggX12_tend_X12_isMaster
set_option maxRecDepth 20000 in
theorem ggX12_tend_X12_isIn : GoodIn wsX12_tend wsX12_isIn := goodIn_r _ [12] (by decide +kernel) (by decide +kernel)
set_option maxRecDepth 20000 in
theorem gX12_tend_X12_isIn : GoodIn wsX12_tend (va_wsS RX12 184 yX12_isIn wsX12_isIn) := goodIn_app (goodIn_of _ (by decide +kernel)) ggX12_tend_X12_isIn
set_option maxRecDepth 20000 in
theorem ggX12_tend_X12_wrongBy : GoodIn wsX12_tend wsX12_wrongBy := goodIn_r _ [16, 4, 17, 18, 19, 8, 20, 21, 22, 23, 24, 25, 26, 27, 37, 38, 39, 40, 41, 42, 43, 44, 45, 46, 47, 48, 49, 50, 51, 52, 53, 54, 55, 56, 57, 58, 59, 60, 61, 62, 63, 64, 65, 66, 67, 68, 69, 70, 71, 72, 73, 74, 75, 76, 77, 78, 79, 80, 81, 82] (by decide +kernel) (by decide +kernel)
set_option maxRecDepth 20000 in
theorem gX12_tend_X12_wrongBy : GoodIn wsX12_tend (wsV RX12 272 RX12 yX12_wrongBy wsX12_wrongBy) := goodIn_app (goodIn_of _ (by decide +kernel)) ggX12_tend_X12_wrongBy
set_option maxRecDepth 20000 in
theorem ggX12_tend_X12_absolute : GoodIn wsX12_tend wsX12_absolute := goodIn_r _ [30] (by decide +kernel) (by decide +kernel)
set_option maxRecDepth 20000 in
theorem gX12_tend_X12_absolute : GoodIn wsX12_tend (va_wsS RX12 360 yX12_absolute wsX12_absolute) := goodIn_app (goodIn_of _ (by decide +kernel)) ggX12_tend_X12_absolute
set_option maxRecDepth 20000 in
theorem ggX12_tend_X12_lesser : GoodIn wsX12_tend wsX12_lesser := goodIn_r _ [33] (by decide +kernel) (by decide +kernel)
set_option maxRecDepth 20000 in
theorem gX12_tend_X12_lesser : GoodIn wsX12_tend (va_wsS RX12 335 yX12_lesser wsX12_lesser) := goodIn_app (goodIn_of _ (by decide +kernel)) ggX12_tend_X12_lesser
set_option maxRecDepth 20000 in
theorem ggX12_tend_X12_greater : GoodIn wsX12_tend wsX12_greater := goodIn_r _ [36] (by decide +kernel) (by decide +kernel)
set_option maxRecDepth 20000 in
theorem gX12_tend_X12_greater : GoodIn wsX12_tend (va_wsS RX12 294 yX12_greater wsX12_greater) := goodIn_app (goodIn_of _ (by decide +kernel)) ggX12_tend_X12_greater
theorem dX12_tend_0 : decode cX12_tend 0 = .ok (.aload_n 0, 1) := by decide +kernel
theorem dX12_tend_1 : decode cX12_tend 1 = .ok (.iconst 0, 1) := by decide +kernel
theorem dX12_tend_2 : decode cX12_tend 2 = .ok (.putfield 1, 3) := by decide +kernel
theorem dX12_tend_5 : decode cX12_tend 5 = .ok (.aload_n 0, 1) := by decide +kernel
theorem dX12_tend_6 : decode cX12_tend 6 = .ok (.iload_n 1, 1) := by decide +kernel
theorem dX12_tend_7 : decode cX12_tend 7 = .ok (.invokevirtual 276, 3) := by decide +kernel
theorem dX12_tend_10 : decode cX12_tend 10 = .ok (.ifCond .eq 13, 3) := by decide +kernel
theorem dX12_tend_13 : decode cX12_tend 13 = .ok (.iload_n 2, 1) := by decide +kernel
theorem dX12_tend_14 : decode cX12_tend 14 = .ok (.iconst 0, 1) := by decide +kernel
theorem dX12_tend_15 : decode cX12_tend 15 = .ok (.bipush 99, 2) := by decide +kernel
theorem dX12_tend_17 : decode cX12_tend 17 = .ok (.invokestatic 184, 3) := by decide +kernel
theorem dX12_tend_20 : decode cX12_tend 20 = .ok (.ifCond .ne 5, 3) := by decide +kernel
theorem dX12_tend_23 : decode cX12_tend 23 = .ok (.iconst (-1), 1) := by decide +kernel
theorem dX12_tend_24 : decode cX12_tend 24 = .ok (.ireturn, 1) := by decide +kernel
theorem dX12_tend_25 : decode cX12_tend 25 = .ok (.ldc_w 353, 3) := by decide +kernel
theorem dX12_tend_28 : decode cX12_tend 28 = .ok (.istore_n 3, 1) := by decide +kernel
theorem dX12_tend_29 : decode cX12_tend 29 = .ok (.ldc_w 334, 3) := by decide +kernel
theorem dX12_tend_32 : decode cX12_tend 32 = .ok (.istore 4, 2) := by decide +kernel
theorem dX12_tend_34 : decode cX12_tend 34 = .ok (.iconst 0, 1) := by decide +kernel
theorem dX12_tend_35 : decode cX12_tend 35 = .ok (.istore 5, 2) := by decide +kernel
theorem dX12_tend_37 : decode cX12_tend 37 = .ok (.iload 5, 2) := by decide +kernel
theorem dX12_tend_39 : decode cX12_tend 39 = .ok (.aload_n 0, 1) := by decide +kernel
theorem dX12_tend_40 : decode cX12_tend 40 = .ok (.getfield 33, 3) := by decide +kernel
theorem dX12_tend_43 : decode cX12_tend 43 = .ok (.iconst 0, 1) := by decide +kernel
theorem dX12_tend_44 : decode cX12_tend 44 = .ok (.iaload, 1) := by decide +kernel
theorem dX12_tend_45 : decode cX12_tend 45 = .ok (.if_icmp .ge 55, 3) := by decide +kernel
theorem dX12_tend_48 : decode cX12_tend 48 = .ok (.aload_n 0, 1) := by decide +kernel
theorem dX12_tend_49 : decode cX12_tend 49 = .ok (.iload 5, 2) := by decide +kernel
theorem dX12_tend_51 : decode cX12_tend 51 = .ok (.invokevirtual 272, 3) := by decide +kernel
theorem dX12_tend_54 : decode cX12_tend 54 = .ok (.invokestatic 360, 3) := by decide +kernel
theorem dX12_tend_57 : decode cX12_tend 57 = .ok (.iload_n 2, 1) := by decide +kernel
theorem dX12_tend_58 : decode cX12_tend 58 = .ok (.if_icmp .gt 6, 3) := by decide +kernel
theorem dX12_tend_61 : decode cX12_tend 61 = .ok (.goto 33, 3) := by decide +kernel
theorem dX12_tend_64 : decode cX12_tend 64 = .ok (.iload_n 3, 1) := by decide +kernel
theorem dX12_tend_65 : decode cX12_tend 65 = .ok (.aload_n 0, 1) := by decide +kernel
theorem dX12_tend_66 : decode cX12_tend 66 = .ok (.getfield 33, 3) := by decide +kernel
theorem dX12_tend_69 : decode cX12_tend 69 = .ok (.iconst 4, 1) := by decide +kernel
theorem dX12_tend_70 : decode cX12_tend 70 = .ok (.iload 5, 2) := by decide +kernel
theorem dX12_tend_72 : decode cX12_tend 72 = .ok (.iadd, 1) := by decide +kernel
theorem dX12_tend_73 : decode cX12_tend 73 = .ok (.iaload, 1) := by decide +kernel
theorem dX12_tend_74 : decode cX12_tend 74 = .ok (.invokestatic 335, 3) := by decide +kernel
theorem dX12_tend_77 : decode cX12_tend 77 = .ok (.istore_n 3, 1) := by decide +kernel
theorem dX12_tend_78 : decode cX12_tend 78 = .ok (.iload 4, 2) := by decide +kernel
theorem dX12_tend_80 : decode cX12_tend 80 = .ok (.aload_n 0, 1) := by decide +kernel
theorem dX12_tend_81 : decode cX12_tend 81 = .ok (.getfield 33, 3) := by decide +kernel
theorem dX12_tend_84 : decode cX12_tend 84 = .ok (.iconst 4, 1) := by decide +kernel
theorem dX12_tend_85 : decode cX12_tend 85 = .ok (.iload 5, 2) := by decide +kernel
theorem dX12_tend_87 : decode cX12_tend 87 = .ok (.iadd, 1) := by decide +kernel
theorem dX12_tend_88 : decode cX12_tend 88 = .ok (.iaload, 1) := by decide +kernel
theorem dX12_tend_89 : decode cX12_tend 89 = .ok (.invokestatic 294, 3) := by decide +kernel
theorem dX12_tend_92 : decode cX12_tend 92 = .ok (.istore 4, 2) := by decide +kernel
theorem dX12_tend_94 : decode cX12_tend 94 = .ok (.iinc 5 1, 3) := by decide +kernel
theorem dX12_tend_97 : decode cX12_tend 97 = .ok (.goto (-60), 3) := by decide +kernel
theorem dX12_tend_100 : decode cX12_tend 100 = .ok (.iload_n 3, 1) := by decide +kernel
theorem dX12_tend_101 : decode cX12_tend 101 = .ok (.iload 4, 2) := by decide +kernel
theorem dX12_tend_103 : decode cX12_tend 103 = .ok (.if_icmp .le 5, 3) := by decide +kernel
theorem dX12_tend_106 : decode cX12_tend 106 = .ok (.iconst 0, 1) := by decide +kernel
theorem dX12_tend_107 : decode cX12_tend 107 = .ok (.ireturn, 1) := by decide +kernel
theorem dX12_tend_108 : decode cX12_tend 108 = .ok (.iload 4, 2) := by decide +kernel
theorem dX12_tend_110 : decode cX12_tend 110 = .ok (.iload_n 3, 1) := by decide +kernel
theorem dX12_tend_111 : decode cX12_tend 111 = .ok (.isub, 1) := by decide +kernel
theorem dX12_tend_112 : decode cX12_tend 112 = .ok (.aload_n 0, 1) := by decide +kernel
theorem dX12_tend_113 : decode cX12_tend 113 = .ok (.getfield 33, 3) := by decide +kernel
theorem dX12_tend_116 : decode cX12_tend 116 = .ok (.bipush 22, 2) := by decide +kernel
theorem dX12_tend_118 : decode cX12_tend 118 = .ok (.iload_n 1, 1) := by decide +kernel
theorem dX12_tend_119 : decode cX12_tend 119 = .ok (.iadd, 1) := by decide +kernel
theorem dX12_tend_120 : decode cX12_tend 120 = .ok (.iaload, 1) := by decide +kernel
theorem dX12_tend_121 : decode cX12_tend 121 = .ok (.iload_n 3, 1) := by decide +kernel
theorem dX12_tend_122 : decode cX12_tend 122 = .ok (.isub, 1) := by decide +kernel
theorem dX12_tend_123 : decode cX12_tend 123 = .ok (.invokestatic 360, 3) := by decide +kernel
theorem dX12_tend_126 : decode cX12_tend 126 = .ok (.aload_n 0, 1) := by decide +kernel
theorem dX12_tend_127 : decode cX12_tend 127 = .ok (.getfield 33, 3) := by decide +kernel
theorem dX12_tend_130 : decode cX12_tend 130 = .ok (.bipush 22, 2) := by decide +kernel
theorem dX12_tend_132 : decode cX12_tend 132 = .ok (.iload_n 1, 1) := by decide +kernel
theorem dX12_tend_133 : decode cX12_tend 133 = .ok (.iadd, 1) := by decide +kernel
theorem dX12_tend_134 : decode cX12_tend 134 = .ok (.iaload, 1) := by decide +kernel
theorem dX12_tend_135 : decode cX12_tend 135 = .ok (.iload 4, 2) := by decide +kernel
theorem dX12_tend_137 : decode cX12_tend 137 = .ok (.isub, 1) := by decide +kernel
theorem dX12_tend_138 : decode cX12_tend 138 = .ok (.invokestatic 360, 3) := by decide +kernel
theorem dX12_tend_141 : decode cX12_tend 141 = .ok (.invokestatic 335, 3) := by decide +kernel
theorem dX12_tend_144 : decode cX12_tend 144 = .ok (.iadd, 1) := by decide +kernel
theorem dX12_tend_145 : decode cX12_tend 145 = .ok (.ireturn, 1) := by decide +kernel
set_option maxRecDepth 20000 in
theorem ggX12_worst_X12_wrongBy : GoodIn wsX12_worst wsX12_wrongBy := goodIn_r _ [7, 2, 8, 9, 10, 6, 11, 12, 13, 14, 15, 16, 17, 18, 22, 23, 24, 25, 26, 27, 28, 29, 30, 31, 32, 33, 34, 35, 36, 37, 38, 39, 40, 41, 42, 43, 44, 45, 46, 47, 48, 49, 50, 51, 52, 53, 54, 55, 56, 57, 58, 59, 60, 61, 62, 63, 64, 65, 66, 67] (by decide +kernel) (by decide +kernel)
set_option maxRecDepth 20000 in
theorem gX12_worst_X12_wrongBy : GoodIn wsX12_worst (wsV RX12 272 RX12 yX12_wrongBy wsX12_wrongBy) := goodIn_app (goodIn_of _ (by decide +kernel)) ggX12_worst_X12_wrongBy
set_option maxRecDepth 20000 in
theorem ggX12_worst_X12_absolute : GoodIn wsX12_worst wsX12_absolute := goodIn_r _ [21] (by decide +kernel) (by decide +kernel)
set_option maxRecDepth 20000 in
theorem gX12_worst_X12_absolute : GoodIn wsX12_worst (va_wsS RX12 360 yX12_absolute wsX12_absolute) := goodIn_app (goodIn_of _ (by decide +kernel)) ggX12_worst_X12_absolute
theorem dX12_worst_0 : decode cX12_worst 0 = .ok (.aload_n 0, 1) := by decide +kernel
theorem dX12_worst_1 : decode cX12_worst 1 = .ok (.iconst 0, 1) := by decide +kernel
theorem dX12_worst_2 : decode cX12_worst 2 = .ok (.putfield 1, 3) := by decide +kernel
theorem dX12_worst_5 : decode cX12_worst 5 = .ok (.iconst (-1), 1) := by decide +kernel
theorem dX12_worst_6 : decode cX12_worst 6 = .ok (.istore_n 1, 1) := by decide +kernel
theorem dX12_worst_7 : decode cX12_worst 7 = .ok (.iconst 0, 1) := by decide +kernel
theorem dX12_worst_8 : decode cX12_worst 8 = .ok (.istore_n 2, 1) := by decide +kernel
theorem dX12_worst_9 : decode cX12_worst 9 = .ok (.iconst 0, 1) := by decide +kernel
theorem dX12_worst_10 : decode cX12_worst 10 = .ok (.istore_n 3, 1) := by decide +kernel
theorem dX12_worst_11 : decode cX12_worst 11 = .ok (.iload_n 3, 1) := by decide +kernel
theorem dX12_worst_12 : decode cX12_worst 12 = .ok (.aload_n 0, 1) := by decide +kernel
theorem dX12_worst_13 : decode cX12_worst 13 = .ok (.getfield 33, 3) := by decide +kernel
theorem dX12_worst_16 : decode cX12_worst 16 = .ok (.iconst 0, 1) := by decide +kernel
theorem dX12_worst_17 : decode cX12_worst 17 = .ok (.iaload, 1) := by decide +kernel
theorem dX12_worst_18 : decode cX12_worst 18 = .ok (.if_icmp .ge 35, 3) := by decide +kernel
theorem dX12_worst_21 : decode cX12_worst 21 = .ok (.aload_n 0, 1) := by decide +kernel
theorem dX12_worst_22 : decode cX12_worst 22 = .ok (.iload_n 3, 1) := by decide +kernel
theorem dX12_worst_23 : decode cX12_worst 23 = .ok (.invokevirtual 272, 3) := by decide +kernel
theorem dX12_worst_26 : decode cX12_worst 26 = .ok (.invokestatic 360, 3) := by decide +kernel
theorem dX12_worst_29 : decode cX12_worst 29 = .ok (.iload_n 2, 1) := by decide +kernel
theorem dX12_worst_30 : decode cX12_worst 30 = .ok (.if_icmp .gt 6, 3) := by decide +kernel
theorem dX12_worst_33 : decode cX12_worst 33 = .ok (.goto 14, 3) := by decide +kernel
theorem dX12_worst_36 : decode cX12_worst 36 = .ok (.aload_n 0, 1) := by decide +kernel
theorem dX12_worst_37 : decode cX12_worst 37 = .ok (.iload_n 3, 1) := by decide +kernel
theorem dX12_worst_38 : decode cX12_worst 38 = .ok (.invokevirtual 272, 3) := by decide +kernel
theorem dX12_worst_41 : decode cX12_worst 41 = .ok (.invokestatic 360, 3) := by decide +kernel
theorem dX12_worst_44 : decode cX12_worst 44 = .ok (.istore_n 2, 1) := by decide +kernel
theorem dX12_worst_45 : decode cX12_worst 45 = .ok (.iload_n 3, 1) := by decide +kernel
theorem dX12_worst_46 : decode cX12_worst 46 = .ok (.istore_n 1, 1) := by decide +kernel
theorem dX12_worst_47 : decode cX12_worst 47 = .ok (.iinc 3 1, 3) := by decide +kernel
theorem dX12_worst_50 : decode cX12_worst 50 = .ok (.goto (-39), 3) := by decide +kernel
theorem dX12_worst_53 : decode cX12_worst 53 = .ok (.iload_n 1, 1) := by decide +kernel
theorem dX12_worst_54 : decode cX12_worst 54 = .ok (.ireturn, 1) := by decide +kernel
theorem dX12_latest_0 : decode cX12_latest 0 = .ok (.aload_n 0, 1) := by decide +kernel
theorem dX12_latest_1 : decode cX12_latest 1 = .ok (.iconst 0, 1) := by decide +kernel
theorem dX12_latest_2 : decode cX12_latest 2 = .ok (.putfield 1, 3) := by decide +kernel
theorem dX12_latest_5 : decode cX12_latest 5 = .ok (.iconst (-1), 1) := by decide +kernel
theorem dX12_latest_6 : decode cX12_latest 6 = .ok (.istore_n 1, 1) := by decide +kernel
theorem dX12_latest_7 : decode cX12_latest 7 = .ok (.iconst 0, 1) := by decide +kernel
theorem dX12_latest_8 : decode cX12_latest 8 = .ok (.istore_n 2, 1) := by decide +kernel
theorem dX12_latest_9 : decode cX12_latest 9 = .ok (.iconst 0, 1) := by decide +kernel
theorem dX12_latest_10 : decode cX12_latest 10 = .ok (.istore_n 3, 1) := by decide +kernel
theorem dX12_latest_11 : decode cX12_latest 11 = .ok (.iload_n 3, 1) := by decide +kernel
theorem dX12_latest_12 : decode cX12_latest 12 = .ok (.aload_n 0, 1) := by decide +kernel
theorem dX12_latest_13 : decode cX12_latest 13 = .ok (.getfield 33, 3) := by decide +kernel
theorem dX12_latest_16 : decode cX12_latest 16 = .ok (.iconst 1, 1) := by decide +kernel
theorem dX12_latest_17 : decode cX12_latest 17 = .ok (.iaload, 1) := by decide +kernel
theorem dX12_latest_18 : decode cX12_latest 18 = .ok (.if_icmp .ge 95, 3) := by decide +kernel
theorem dX12_latest_21 : decode cX12_latest 21 = .ok (.iconst 0, 1) := by decide +kernel
theorem dX12_latest_22 : decode cX12_latest 22 = .ok (.istore 4, 2) := by decide +kernel
theorem dX12_latest_24 : decode cX12_latest 24 = .ok (.iload 4, 2) := by decide +kernel
theorem dX12_latest_26 : decode cX12_latest 26 = .ok (.aload_n 0, 1) := by decide +kernel
theorem dX12_latest_27 : decode cX12_latest 27 = .ok (.getfield 33, 3) := by decide +kernel
theorem dX12_latest_30 : decode cX12_latest 30 = .ok (.iconst 2, 1) := by decide +kernel
theorem dX12_latest_31 : decode cX12_latest 31 = .ok (.iaload, 1) := by decide +kernel
theorem dX12_latest_32 : decode cX12_latest 32 = .ok (.if_icmp .ge 75, 3) := by decide +kernel
theorem dX12_latest_35 : decode cX12_latest 35 = .ok (.aload_n 0, 1) := by decide +kernel
theorem dX12_latest_36 : decode cX12_latest 36 = .ok (.getfield 33, 3) := by decide +kernel
theorem dX12_latest_39 : decode cX12_latest 39 = .ok (.bipush 117, 2) := by decide +kernel
theorem dX12_latest_41 : decode cX12_latest 41 = .ok (.bipush 6, 2) := by decide +kernel
theorem dX12_latest_43 : decode cX12_latest 43 = .ok (.iload 4, 2) := by decide +kernel
theorem dX12_latest_45 : decode cX12_latest 45 = .ok (.imul, 1) := by decide +kernel
theorem dX12_latest_46 : decode cX12_latest 46 = .ok (.iadd, 1) := by decide +kernel
theorem dX12_latest_47 : decode cX12_latest 47 = .ok (.iload_n 3, 1) := by decide +kernel
theorem dX12_latest_48 : decode cX12_latest 48 = .ok (.iadd, 1) := by decide +kernel
theorem dX12_latest_49 : decode cX12_latest 49 = .ok (.iaload, 1) := by decide +kernel
theorem dX12_latest_50 : decode cX12_latest 50 = .ok (.ifCond .le 34, 3) := by decide +kernel
theorem dX12_latest_53 : decode cX12_latest 53 = .ok (.aload_n 0, 1) := by decide +kernel
theorem dX12_latest_54 : decode cX12_latest 54 = .ok (.getfield 33, 3) := by decide +kernel
theorem dX12_latest_57 : decode cX12_latest 57 = .ok (.bipush 117, 2) := by decide +kernel
theorem dX12_latest_59 : decode cX12_latest 59 = .ok (.bipush 6, 2) := by decide +kernel
theorem dX12_latest_61 : decode cX12_latest 61 = .ok (.iload 4, 2) := by decide +kernel
theorem dX12_latest_63 : decode cX12_latest 63 = .ok (.imul, 1) := by decide +kernel
theorem dX12_latest_64 : decode cX12_latest 64 = .ok (.iadd, 1) := by decide +kernel
theorem dX12_latest_65 : decode cX12_latest 65 = .ok (.iload_n 3, 1) := by decide +kernel
theorem dX12_latest_66 : decode cX12_latest 66 = .ok (.iadd, 1) := by decide +kernel
theorem dX12_latest_67 : decode cX12_latest 67 = .ok (.iaload, 1) := by decide +kernel
theorem dX12_latest_68 : decode cX12_latest 68 = .ok (.iconst 1, 1) := by decide +kernel
theorem dX12_latest_69 : decode cX12_latest 69 = .ok (.isub, 1) := by decide +kernel
theorem dX12_latest_70 : decode cX12_latest 70 = .ok (.aload_n 0, 1) := by decide +kernel
theorem dX12_latest_71 : decode cX12_latest 71 = .ok (.getfield 33, 3) := by decide +kernel
theorem dX12_latest_74 : decode cX12_latest 74 = .ok (.bipush 75, 2) := by decide +kernel
theorem dX12_latest_76 : decode cX12_latest 76 = .ok (.iload 4, 2) := by decide +kernel
theorem dX12_latest_78 : decode cX12_latest 78 = .ok (.iadd, 1) := by decide +kernel
theorem dX12_latest_79 : decode cX12_latest 79 = .ok (.iaload, 1) := by decide +kernel
theorem dX12_latest_80 : decode cX12_latest 80 = .ok (.isub, 1) := by decide +kernel
theorem dX12_latest_81 : decode cX12_latest 81 = .ok (.goto 4, 3) := by decide +kernel
theorem dX12_latest_84 : decode cX12_latest 84 = .ok (.iconst 0, 1) := by decide +kernel
theorem dX12_latest_85 : decode cX12_latest 85 = .ok (.istore 5, 2) := by decide +kernel
theorem dX12_latest_87 : decode cX12_latest 87 = .ok (.iload 5, 2) := by decide +kernel
theorem dX12_latest_89 : decode cX12_latest 89 = .ok (.iload_n 2, 1) := by decide +kernel
theorem dX12_latest_90 : decode cX12_latest 90 = .ok (.if_icmp .gt 6, 3) := by decide +kernel
theorem dX12_latest_93 : decode cX12_latest 93 = .ok (.goto 8, 3) := by decide +kernel
theorem dX12_latest_96 : decode cX12_latest 96 = .ok (.iload 5, 2) := by decide +kernel
theorem dX12_latest_98 : decode cX12_latest 98 = .ok (.istore_n 2, 1) := by decide +kernel
theorem dX12_latest_99 : decode cX12_latest 99 = .ok (.iload_n 3, 1) := by decide +kernel
theorem dX12_latest_100 : decode cX12_latest 100 = .ok (.istore_n 1, 1) := by decide +kernel
theorem dX12_latest_101 : decode cX12_latest 101 = .ok (.iinc 4 1, 3) := by decide +kernel
theorem dX12_latest_104 : decode cX12_latest 104 = .ok (.goto (-80), 3) := by decide +kernel
theorem dX12_latest_107 : decode cX12_latest 107 = .ok (.iinc 3 1, 3) := by decide +kernel
theorem dX12_latest_110 : decode cX12_latest 110 = .ok (.goto (-99), 3) := by decide +kernel
theorem dX12_latest_113 : decode cX12_latest 113 = .ok (.iload_n 1, 1) := by decide +kernel
theorem dX12_latest_114 : decode cX12_latest 114 = .ok (.ifCond .lt 8, 3) := by decide +kernel
theorem dX12_latest_117 : decode cX12_latest 117 = .ok (.aload_n 0, 1) := by decide +kernel
theorem dX12_latest_118 : decode cX12_latest 118 = .ok (.iload_n 2, 1) := by decide +kernel
theorem dX12_latest_119 : decode cX12_latest 119 = .ok (.putfield 62, 3) := by decide +kernel
theorem dX12_latest_122 : decode cX12_latest 122 = .ok (.iload_n 1, 1) := by decide +kernel
theorem dX12_latest_123 : decode cX12_latest 123 = .ok (.ireturn, 1) := by decide +kernel
theorem dX12_latestBy_0 : decode cX12_latestBy 0 = .ok (.aload_n 0, 1) := by decide +kernel
theorem dX12_latestBy_1 : decode cX12_latestBy 1 = .ok (.iconst 0, 1) := by decide +kernel
theorem dX12_latestBy_2 : decode cX12_latestBy 2 = .ok (.putfield 1, 3) := by decide +kernel
theorem dX12_latestBy_5 : decode cX12_latestBy 5 = .ok (.aload_n 0, 1) := by decide +kernel
theorem dX12_latestBy_6 : decode cX12_latestBy 6 = .ok (.getfield 62, 3) := by decide +kernel
theorem dX12_latestBy_9 : decode cX12_latestBy 9 = .ok (.ireturn, 1) := by decide +kernel
set_option maxRecDepth 20000 in
theorem ggX12_mean_X12_isIn : GoodIn wsX12_mean wsX12_isIn := goodIn_r _ [5] (by decide +kernel) (by decide +kernel)
set_option maxRecDepth 20000 in
theorem gX12_mean_X12_isIn : GoodIn wsX12_mean (va_wsS RX12 184 yX12_isIn wsX12_isIn) := goodIn_app (goodIn_of _ (by decide +kernel)) ggX12_mean_X12_isIn
set_option maxRecDepth 20000 in
theorem ggX12_mean_X12_throwsIf : GoodIn wsX12_mean wsX12_throwsIf := goodIn_r _ [9, 10, 11, 12, 13, 14, 15, 16, 17, 18, 19, 20, 21, 22, 23, 24, 25, 26, 27, 28, 29, 30, 31, 32, 33, 34, 35, 36, 37, 38, 39, 40, 41, 42, 43, 44, 45, 46, 47, 48, 49, 50, 51, 52, 53, 54, 55, 56] (by decide +kernel) (by decide +kernel)
set_option maxRecDepth 20000 in
theorem gX12_mean_X12_throwsIf : GoodIn wsX12_mean (wsV RX12 268 RX12 yX12_throwsIf wsX12_throwsIf) := goodIn_app (goodIn_of _ (by decide +kernel)) ggX12_mean_X12_throwsIf
theorem dX12_mean_0 : decode cX12_mean 0 = .ok (.aload_n 0, 1) := by decide +kernel
theorem dX12_mean_1 : decode cX12_mean 1 = .ok (.aload_n 0, 1) := by decide +kernel
theorem dX12_mean_2 : decode cX12_mean 2 = .ok (.getfield 33, 3) := by decide +kernel
theorem dX12_mean_5 : decode cX12_mean 5 = .ok (.bipush 55, 2) := by decide +kernel
theorem dX12_mean_7 : decode cX12_mean 7 = .ok (.iaload, 1) := by decide +kernel
theorem dX12_mean_8 : decode cX12_mean 8 = .ok (.ifCond .eq 12, 3) := by decide +kernel
theorem dX12_mean_11 : decode cX12_mean 11 = .ok (.iload_n 1, 1) := by decide +kernel
theorem dX12_mean_12 : decode cX12_mean 12 = .ok (.iconst 0, 1) := by decide +kernel
theorem dX12_mean_13 : decode cX12_mean 13 = .ok (.iconst 1, 1) := by decide +kernel
theorem dX12_mean_14 : decode cX12_mean 14 = .ok (.invokestatic 184, 3) := by decide +kernel
theorem dX12_mean_17 : decode cX12_mean 17 = .ok (.ifCond .ne 7, 3) := by decide +kernel
theorem dX12_mean_20 : decode cX12_mean 20 = .ok (.iconst 1, 1) := by decide +kernel
theorem dX12_mean_21 : decode cX12_mean 21 = .ok (.goto 4, 3) := by decide +kernel
theorem dX12_mean_24 : decode cX12_mean 24 = .ok (.iconst 0, 1) := by decide +kernel
theorem dX12_mean_25 : decode cX12_mean 25 = .ok (.invokevirtual 268, 3) := by decide +kernel
theorem dX12_mean_28 : decode cX12_mean 28 = .ok (.ifCond .eq 5, 3) := by decide +kernel
theorem dX12_mean_31 : decode cX12_mean 31 = .ok (.iconst 0, 1) := by decide +kernel
theorem dX12_mean_32 : decode cX12_mean 32 = .ok (.ireturn, 1) := by decide +kernel
theorem dX12_mean_33 : decode cX12_mean 33 = .ok (.aload_n 0, 1) := by decide +kernel
theorem dX12_mean_34 : decode cX12_mean 34 = .ok (.getfield 33, 3) := by decide +kernel
theorem dX12_mean_37 : decode cX12_mean 37 = .ok (.bipush 55, 2) := by decide +kernel
theorem dX12_mean_39 : decode cX12_mean 39 = .ok (.iaload, 1) := by decide +kernel
theorem dX12_mean_40 : decode cX12_mean 40 = .ok (.istore_n 2, 1) := by decide +kernel
theorem dX12_mean_41 : decode cX12_mean 41 = .ok (.aload_n 0, 1) := by decide +kernel
theorem dX12_mean_42 : decode cX12_mean 42 = .ok (.getfield 33, 3) := by decide +kernel
theorem dX12_mean_45 : decode cX12_mean 45 = .ok (.bipush 56, 2) := by decide +kernel
theorem dX12_mean_47 : decode cX12_mean 47 = .ok (.iaload, 1) := by decide +kernel
theorem dX12_mean_48 : decode cX12_mean 48 = .ok (.istore_n 3, 1) := by decide +kernel
theorem dX12_mean_49 : decode cX12_mean 49 = .ok (.iload_n 3, 1) := by decide +kernel
theorem dX12_mean_50 : decode cX12_mean 50 = .ok (.ifCond .eq 16, 3) := by decide +kernel
theorem dX12_mean_53 : decode cX12_mean 53 = .ok (.iload_n 2, 1) := by decide +kernel
theorem dX12_mean_54 : decode cX12_mean 54 = .ok (.iload_n 3, 1) := by decide +kernel
theorem dX12_mean_55 : decode cX12_mean 55 = .ok (.irem, 1) := by decide +kernel
theorem dX12_mean_56 : decode cX12_mean 56 = .ok (.istore 4, 2) := by decide +kernel
theorem dX12_mean_58 : decode cX12_mean 58 = .ok (.iload_n 3, 1) := by decide +kernel
theorem dX12_mean_59 : decode cX12_mean 59 = .ok (.istore_n 2, 1) := by decide +kernel
theorem dX12_mean_60 : decode cX12_mean 60 = .ok (.iload 4, 2) := by decide +kernel
theorem dX12_mean_62 : decode cX12_mean 62 = .ok (.istore_n 3, 1) := by decide +kernel
theorem dX12_mean_63 : decode cX12_mean 63 = .ok (.goto (-14), 3) := by decide +kernel
theorem dX12_mean_66 : decode cX12_mean 66 = .ok (.iload_n 1, 1) := by decide +kernel
theorem dX12_mean_67 : decode cX12_mean 67 = .ok (.ifCond .ne 13, 3) := by decide +kernel
theorem dX12_mean_70 : decode cX12_mean 70 = .ok (.aload_n 0, 1) := by decide +kernel
theorem dX12_mean_71 : decode cX12_mean 71 = .ok (.getfield 33, 3) := by decide +kernel
theorem dX12_mean_74 : decode cX12_mean 74 = .ok (.bipush 56, 2) := by decide +kernel
theorem dX12_mean_76 : decode cX12_mean 76 = .ok (.iaload, 1) := by decide +kernel
theorem dX12_mean_77 : decode cX12_mean 77 = .ok (.goto 10, 3) := by decide +kernel
theorem dX12_mean_80 : decode cX12_mean 80 = .ok (.aload_n 0, 1) := by decide +kernel
theorem dX12_mean_81 : decode cX12_mean 81 = .ok (.getfield 33, 3) := by decide +kernel
theorem dX12_mean_84 : decode cX12_mean 84 = .ok (.bipush 55, 2) := by decide +kernel
theorem dX12_mean_86 : decode cX12_mean 86 = .ok (.iaload, 1) := by decide +kernel
theorem dX12_mean_87 : decode cX12_mean 87 = .ok (.iload_n 2, 1) := by decide +kernel
theorem dX12_mean_88 : decode cX12_mean 88 = .ok (.idiv, 1) := by decide +kernel
theorem dX12_mean_89 : decode cX12_mean 89 = .ok (.ireturn, 1) := by decide +kernel
theorem dX12_lays_0 : decode cX12_lays 0 = .ok (.aload_n 0, 1) := by decide +kernel
theorem dX12_lays_1 : decode cX12_lays 1 = .ok (.getfield 65, 3) := by decide +kernel
theorem dX12_lays_4 : decode cX12_lays 4 = .ok (.aload_n 0, 1) := by decide +kernel
theorem dX12_lays_5 : decode cX12_lays 5 = .ok (.getfield 363, 3) := by decide +kernel
theorem dX12_lays_8 : decode cX12_lays 8 = .ok (.iload_n 1, 1) := by decide +kernel
theorem dX12_lays_9 : decode cX12_lays 9 = .ok (.i2b, 1) := by decide +kernel
theorem dX12_lays_10 : decode cX12_lays 10 = .ok (.bastore, 1) := by decide +kernel
theorem dX12_lays_11 : decode cX12_lays 11 = .ok (.aload_n 0, 1) := by decide +kernel
theorem dX12_lays_12 : decode cX12_lays 12 = .ok (.dup, 1) := by decide +kernel
theorem dX12_lays_13 : decode cX12_lays 13 = .ok (.getfield 363, 3) := by decide +kernel
theorem dX12_lays_16 : decode cX12_lays 16 = .ok (.iconst 1, 1) := by decide +kernel
theorem dX12_lays_17 : decode cX12_lays 17 = .ok (.iadd, 1) := by decide +kernel
theorem dX12_lays_18 : decode cX12_lays 18 = .ok (.putfield 363, 3) := by decide +kernel
theorem dX12_lays_21 : decode cX12_lays 21 = .ok (.return_, 1) := by decide +kernel
set_option maxRecDepth 20000 in
theorem ggX12_spells_X12_lays : GoodIn wsX12_spells wsX12_lays := goodIn_r _ [6, 7, 8, 9, 10, 11, 12, 13, 14, 15, 16, 17, 18, 19, 20, 21, 22, 23, 24, 25, 26, 27, 28, 29, 30, 31, 32, 33, 34, 35, 36, 37, 38, 39, 40, 41, 42, 43, 44, 45, 46, 47, 48, 49, 50, 51, 52, 53, 54] (by decide +kernel) (by decide +kernel)
set_option maxRecDepth 20000 in
theorem gX12_spells_X12_lays : GoodIn wsX12_spells (wsV RX12 368 RX12 yX12_lays wsX12_lays) := goodIn_app (goodIn_of _ (by decide +kernel)) ggX12_spells_X12_lays
theorem dX12_spells_0 : decode cX12_spells 0 = .ok (.bipush 56, 2) := by decide +kernel
theorem dX12_spells_2 : decode cX12_spells 2 = .ok (.istore_n 3, 1) := by decide +kernel
theorem dX12_spells_3 : decode cX12_spells 3 = .ok (.iload_n 3, 1) := by decide +kernel
theorem dX12_spells_4 : decode cX12_spells 4 = .ok (.ifCond .lt 33, 3) := by decide +kernel
theorem dX12_spells_7 : decode cX12_spells 7 = .ok (.lload_n 1, 1) := by decide +kernel
theorem dX12_spells_8 : decode cX12_spells 8 = .ok (.iload_n 3, 1) := by decide +kernel
theorem dX12_spells_9 : decode cX12_spells 9 = .ok (.lshr, 1) := by decide +kernel
theorem dX12_spells_10 : decode cX12_spells 10 = .ok (.ldc2_w 366, 3) := by decide +kernel
theorem dX12_spells_13 : decode cX12_spells 13 = .ok (.land, 1) := by decide +kernel
theorem dX12_spells_14 : decode cX12_spells 14 = .ok (.lconst 0, 1) := by decide +kernel
theorem dX12_spells_15 : decode cX12_spells 15 = .ok (.lcmp, 1) := by decide +kernel
theorem dX12_spells_16 : decode cX12_spells 16 = .ok (.ifCond .eq 15, 3) := by decide +kernel
theorem dX12_spells_19 : decode cX12_spells 19 = .ok (.aload_n 0, 1) := by decide +kernel
theorem dX12_spells_20 : decode cX12_spells 20 = .ok (.lload_n 1, 1) := by decide +kernel
theorem dX12_spells_21 : decode cX12_spells 21 = .ok (.iload_n 3, 1) := by decide +kernel
theorem dX12_spells_22 : decode cX12_spells 22 = .ok (.lshr, 1) := by decide +kernel
theorem dX12_spells_23 : decode cX12_spells 23 = .ok (.ldc2_w 366, 3) := by decide +kernel
theorem dX12_spells_26 : decode cX12_spells 26 = .ok (.land, 1) := by decide +kernel
theorem dX12_spells_27 : decode cX12_spells 27 = .ok (.l2i, 1) := by decide +kernel
theorem dX12_spells_28 : decode cX12_spells 28 = .ok (.invokevirtual 368, 3) := by decide +kernel
theorem dX12_spells_31 : decode cX12_spells 31 = .ok (.iinc 3 (-8), 3) := by decide +kernel
theorem dX12_spells_34 : decode cX12_spells 34 = .ok (.goto (-31), 3) := by decide +kernel
theorem dX12_spells_37 : decode cX12_spells 37 = .ok (.return_, 1) := by decide +kernel
set_option maxRecDepth 20000 in
theorem ggX12_says_X12_lays : GoodIn wsX12_says wsX12_lays := goodIn_r _ [5, 6, 7, 13, 14, 15, 16, 17, 18, 19, 20, 21, 22, 23, 24, 25, 26, 27, 28, 29, 30, 31, 32, 33, 34, 35, 36, 37, 38, 39, 40, 41, 42, 43, 44, 45, 46, 47, 48, 49, 50, 51, 52, 53, 54, 55, 56, 57, 58] (by decide +kernel) (by decide +kernel)
set_option maxRecDepth 20000 in
theorem gX12_says_X12_lays : GoodIn wsX12_says (wsV RX12 368 RX12 yX12_lays wsX12_lays) := goodIn_app (goodIn_of _ (by decide +kernel)) ggX12_says_X12_lays
set_option maxRecDepth 20000 in
theorem ggX12_says_X12_spells : GoodIn wsX12_says wsX12_spells := goodIn_r _ [11, 12, 1, 2, 3, 4, 5, 6, 7, 13, 14, 15, 16, 17, 18, 19, 20, 21, 22, 23, 24, 25, 26, 27, 28, 29, 30, 31, 32, 33, 34, 35, 36, 37, 38, 39, 40, 41, 42, 43, 44, 45, 46, 47, 48, 49, 50, 51, 52, 53, 54, 55, 56, 57, 58] (by decide +kernel) (by decide +kernel)
set_option maxRecDepth 20000 in
theorem gX12_says_X12_spells : GoodIn wsX12_says (wsV RX12 371 RX12 yX12_spells wsX12_spells) := goodIn_app (goodIn_of _ (by decide +kernel)) ggX12_says_X12_spells
theorem dX12_says_0 : decode cX12_says 0 = .ok (.aload_n 0, 1) := by decide +kernel
theorem dX12_says_1 : decode cX12_says 1 = .ok (.bipush 32, 2) := by decide +kernel
theorem dX12_says_3 : decode cX12_says 3 = .ok (.invokevirtual 368, 3) := by decide +kernel
theorem dX12_says_6 : decode cX12_says 6 = .ok (.aload_n 0, 1) := by decide +kernel
theorem dX12_says_7 : decode cX12_says 7 = .ok (.lload_n 1, 1) := by decide +kernel
theorem dX12_says_8 : decode cX12_says 8 = .ok (.invokevirtual 371, 3) := by decide +kernel
theorem dX12_says_11 : decode cX12_says 11 = .ok (.return_, 1) := by decide +kernel
set_option maxRecDepth 20000 in
theorem ggX12_face_X12_isClock : GoodIn wsX12_face wsX12_isClock := goodIn_r _ [11, 5, 12, 13, 10, 14, 44, 45, 46, 47, 48, 49, 50, 51, 52, 53, 54, 55, 56, 57, 58, 59, 60, 61, 62, 63, 64, 65, 66, 67, 68, 69, 70, 71, 72, 73, 74, 75, 76, 77, 78, 79, 80, 81, 82, 83, 84, 85, 86, 87, 88, 89] (by decide +kernel) (by decide +kernel)
set_option maxRecDepth 20000 in
theorem gX12_face_X12_isClock : GoodIn wsX12_face (wsV RX12 262 RX12 yX12_isClock wsX12_isClock) := goodIn_app (goodIn_of _ (by decide +kernel)) ggX12_face_X12_isClock
set_option maxRecDepth 20000 in
theorem ggX12_face_X12_spells : GoodIn wsX12_face wsX12_spells := goodIn_r _ [18, 19, 20, 21, 22, 10, 23, 24, 2, 44, 45, 46, 47, 48, 49, 50, 51, 52, 53, 54, 55, 56, 57, 58, 59, 60, 61, 62, 63, 64, 65, 66, 67, 68, 69, 70, 71, 72, 73, 74, 75, 76, 77, 78, 79, 80, 81, 82, 83, 84, 85, 86, 87, 88, 89] (by decide +kernel) (by decide +kernel)
set_option maxRecDepth 20000 in
theorem gX12_face_X12_spells : GoodIn wsX12_face (wsV RX12 371 RX12 yX12_spells wsX12_spells) := goodIn_app (goodIn_of _ (by decide +kernel)) ggX12_face_X12_spells
set_option maxRecDepth 20000 in
theorem ggX12_face_X12_says : GoodIn wsX12_face wsX12_says := goodIn_r _ [28, 20, 21, 22, 10, 23, 24, 2, 15, 16, 17, 18, 19, 44, 45, 46, 47, 48, 49, 50, 51, 52, 53, 54, 55, 56, 57, 58, 59, 60, 61, 62, 63, 64, 65, 66, 67, 68, 69, 70, 71, 72, 73, 74, 75, 76, 77, 78, 79, 80, 81, 82, 83, 84, 85, 86, 87, 88, 89] (by decide +kernel) (by decide +kernel)
set_option maxRecDepth 20000 in
theorem gX12_face_X12_says : GoodIn wsX12_face (wsV RX12 377 RX12 yX12_says wsX12_says) := goodIn_app (goodIn_of _ (by decide +kernel)) ggX12_face_X12_says
set_option maxRecDepth 20000 in
theorem ggX12_face_X12_lays : GoodIn wsX12_face wsX12_lays := goodIn_r _ [23, 24, 2, 44, 45, 46, 47, 48, 49, 50, 51, 52, 53, 54, 55, 56, 57, 58, 59, 60, 61, 62, 63, 64, 65, 66, 67, 68, 69, 70, 71, 72, 73, 74, 75, 76, 77, 78, 79, 80, 81, 82, 83, 84, 85, 86, 87, 88, 89] (by decide +kernel) (by decide +kernel)
set_option maxRecDepth 20000 in
theorem gX12_face_X12_lays : GoodIn wsX12_face (wsV RX12 368 RX12 yX12_lays wsX12_lays) := goodIn_app (goodIn_of _ (by decide +kernel)) ggX12_face_X12_lays
set_option maxRecDepth 20000 in
theorem ggX12_face_X12_showsAt : GoodIn wsX12_face wsX12_showsAt := goodIn_r _ [32, 33, 34, 35, 10, 36, 5, 37, 38, 39, 40, 41, 42, 43, 44, 45, 46, 47, 48, 49, 50, 51, 52, 53, 54, 55, 56, 57, 58, 59, 60, 61, 62, 63, 64, 65, 66, 67, 68, 69, 70, 71, 72, 73, 74, 75, 76, 77, 78, 79, 80, 81, 82, 83, 84, 85, 86, 87, 88, 89] (by decide +kernel) (by decide +kernel)
set_option maxRecDepth 20000 in
theorem gX12_face_X12_showsAt : GoodIn wsX12_face (wsV RX12 265 RX12 yX12_showsAt wsX12_showsAt) := goodIn_app (goodIn_of _ (by decide +kernel)) ggX12_face_X12_showsAt
set_option maxRecDepth 20000 in
theorem ggX12_face_X12_isStopped : GoodIn wsX12_face wsX12_isStopped := goodIn_r _ [40, 5, 41, 42, 10, 43, 44, 45, 46, 47, 48, 49, 50, 51, 52, 53, 54, 55, 56, 57, 58, 59, 60, 61, 62, 63, 64, 65, 66, 67, 68, 69, 70, 71, 72, 73, 74, 75, 76, 77, 78, 79, 80, 81, 82, 83, 84, 85, 86, 87, 88, 89] (by decide +kernel) (by decide +kernel)
set_option maxRecDepth 20000 in
theorem gX12_face_X12_isStopped : GoodIn wsX12_face (wsV RX12 253 RX12 yX12_isStopped wsX12_isStopped) := goodIn_app (goodIn_of _ (by decide +kernel)) ggX12_face_X12_isStopped
theorem dX12_face_0 : decode cX12_face 0 = .ok (.aload_n 0, 1) := by decide +kernel
theorem dX12_face_1 : decode cX12_face 1 = .ok (.iconst 0, 1) := by decide +kernel
theorem dX12_face_2 : decode cX12_face 2 = .ok (.putfield 1, 3) := by decide +kernel
theorem dX12_face_5 : decode cX12_face 5 = .ok (.aload_n 0, 1) := by decide +kernel
theorem dX12_face_6 : decode cX12_face 6 = .ok (.iload_n 1, 1) := by decide +kernel
theorem dX12_face_7 : decode cX12_face 7 = .ok (.invokevirtual 262, 3) := by decide +kernel
theorem dX12_face_10 : decode cX12_face 10 = .ok (.ifCond .ne 5, 3) := by decide +kernel
theorem dX12_face_13 : decode cX12_face 13 = .ok (.iconst (-1), 1) := by decide +kernel
theorem dX12_face_14 : decode cX12_face 14 = .ok (.ireturn, 1) := by decide +kernel
theorem dX12_face_15 : decode cX12_face 15 = .ok (.aload_n 0, 1) := by decide +kernel
theorem dX12_face_16 : decode cX12_face 16 = .ok (.iconst 0, 1) := by decide +kernel
theorem dX12_face_17 : decode cX12_face 17 = .ok (.putfield 363, 3) := by decide +kernel
theorem dX12_face_20 : decode cX12_face 20 = .ok (.aload_n 0, 1) := by decide +kernel
theorem dX12_face_21 : decode cX12_face 21 = .ok (.aload_n 0, 1) := by decide +kernel
theorem dX12_face_22 : decode cX12_face 22 = .ok (.getfield 43, 3) := by decide +kernel
theorem dX12_face_25 : decode cX12_face 25 = .ok (.iload_n 1, 1) := by decide +kernel
theorem dX12_face_26 : decode cX12_face 26 = .ok (.laload, 1) := by decide +kernel
theorem dX12_face_27 : decode cX12_face 27 = .ok (.invokevirtual 371, 3) := by decide +kernel
theorem dX12_face_30 : decode cX12_face 30 = .ok (.aload_n 0, 1) := by decide +kernel
theorem dX12_face_31 : decode cX12_face 31 = .ok (.ldc2_w 375, 3) := by decide +kernel
theorem dX12_face_34 : decode cX12_face 34 = .ok (.invokevirtual 377, 3) := by decide +kernel
theorem dX12_face_37 : decode cX12_face 37 = .ok (.aload_n 0, 1) := by decide +kernel
theorem dX12_face_38 : decode cX12_face 38 = .ok (.bipush 32, 2) := by decide +kernel
theorem dX12_face_40 : decode cX12_face 40 = .ok (.invokevirtual 368, 3) := by decide +kernel
theorem dX12_face_43 : decode cX12_face 43 = .ok (.aload_n 0, 1) := by decide +kernel
theorem dX12_face_44 : decode cX12_face 44 = .ok (.iload_n 1, 1) := by decide +kernel
theorem dX12_face_45 : decode cX12_face 45 = .ok (.aload_n 0, 1) := by decide +kernel
theorem dX12_face_46 : decode cX12_face 46 = .ok (.getfield 33, 3) := by decide +kernel
theorem dX12_face_49 : decode cX12_face 49 = .ok (.bipush 52, 2) := by decide +kernel
theorem dX12_face_51 : decode cX12_face 51 = .ok (.iaload, 1) := by decide +kernel
theorem dX12_face_52 : decode cX12_face 52 = .ok (.invokevirtual 265, 3) := by decide +kernel
theorem dX12_face_55 : decode cX12_face 55 = .ok (.istore_n 2, 1) := by decide +kernel
theorem dX12_face_56 : decode cX12_face 56 = .ok (.iload_n 2, 1) := by decide +kernel
theorem dX12_face_57 : decode cX12_face 57 = .ok (.sipush 600, 3) := by decide +kernel
theorem dX12_face_60 : decode cX12_face 60 = .ok (.if_icmp .lt 9, 3) := by decide +kernel
theorem dX12_face_63 : decode cX12_face 63 = .ok (.aload_n 0, 1) := by decide +kernel
theorem dX12_face_64 : decode cX12_face 64 = .ok (.bipush 49, 2) := by decide +kernel
theorem dX12_face_66 : decode cX12_face 66 = .ok (.invokevirtual 368, 3) := by decide +kernel
theorem dX12_face_69 : decode cX12_face 69 = .ok (.aload_n 0, 1) := by decide +kernel
theorem dX12_face_70 : decode cX12_face 70 = .ok (.bipush 48, 2) := by decide +kernel
theorem dX12_face_72 : decode cX12_face 72 = .ok (.iload_n 2, 1) := by decide +kernel
theorem dX12_face_73 : decode cX12_face 73 = .ok (.bipush 60, 2) := by decide +kernel
theorem dX12_face_75 : decode cX12_face 75 = .ok (.idiv, 1) := by decide +kernel
theorem dX12_face_76 : decode cX12_face 76 = .ok (.bipush 10, 2) := by decide +kernel
theorem dX12_face_78 : decode cX12_face 78 = .ok (.irem, 1) := by decide +kernel
theorem dX12_face_79 : decode cX12_face 79 = .ok (.iadd, 1) := by decide +kernel
theorem dX12_face_80 : decode cX12_face 80 = .ok (.invokevirtual 368, 3) := by decide +kernel
theorem dX12_face_83 : decode cX12_face 83 = .ok (.aload_n 0, 1) := by decide +kernel
theorem dX12_face_84 : decode cX12_face 84 = .ok (.bipush 46, 2) := by decide +kernel
theorem dX12_face_86 : decode cX12_face 86 = .ok (.invokevirtual 368, 3) := by decide +kernel
theorem dX12_face_89 : decode cX12_face 89 = .ok (.aload_n 0, 1) := by decide +kernel
theorem dX12_face_90 : decode cX12_face 90 = .ok (.bipush 48, 2) := by decide +kernel
theorem dX12_face_92 : decode cX12_face 92 = .ok (.iload_n 2, 1) := by decide +kernel
theorem dX12_face_93 : decode cX12_face 93 = .ok (.bipush 60, 2) := by decide +kernel
theorem dX12_face_95 : decode cX12_face 95 = .ok (.irem, 1) := by decide +kernel
theorem dX12_face_96 : decode cX12_face 96 = .ok (.bipush 10, 2) := by decide +kernel
theorem dX12_face_98 : decode cX12_face 98 = .ok (.idiv, 1) := by decide +kernel
theorem dX12_face_99 : decode cX12_face 99 = .ok (.iadd, 1) := by decide +kernel
theorem dX12_face_100 : decode cX12_face 100 = .ok (.invokevirtual 368, 3) := by decide +kernel
theorem dX12_face_103 : decode cX12_face 103 = .ok (.aload_n 0, 1) := by decide +kernel
theorem dX12_face_104 : decode cX12_face 104 = .ok (.bipush 48, 2) := by decide +kernel
theorem dX12_face_106 : decode cX12_face 106 = .ok (.iload_n 2, 1) := by decide +kernel
theorem dX12_face_107 : decode cX12_face 107 = .ok (.bipush 60, 2) := by decide +kernel
theorem dX12_face_109 : decode cX12_face 109 = .ok (.irem, 1) := by decide +kernel
theorem dX12_face_110 : decode cX12_face 110 = .ok (.bipush 10, 2) := by decide +kernel
theorem dX12_face_112 : decode cX12_face 112 = .ok (.irem, 1) := by decide +kernel
theorem dX12_face_113 : decode cX12_face 113 = .ok (.iadd, 1) := by decide +kernel
theorem dX12_face_114 : decode cX12_face 114 = .ok (.invokevirtual 368, 3) := by decide +kernel
theorem dX12_face_117 : decode cX12_face 117 = .ok (.aload_n 0, 1) := by decide +kernel
theorem dX12_face_118 : decode cX12_face 118 = .ok (.iload_n 1, 1) := by decide +kernel
theorem dX12_face_119 : decode cX12_face 119 = .ok (.invokevirtual 253, 3) := by decide +kernel
theorem dX12_face_122 : decode cX12_face 122 = .ok (.ifCond .eq 10, 3) := by decide +kernel
theorem dX12_face_125 : decode cX12_face 125 = .ok (.aload_n 0, 1) := by decide +kernel
theorem dX12_face_126 : decode cX12_face 126 = .ok (.ldc2_w 380, 3) := by decide +kernel
theorem dX12_face_129 : decode cX12_face 129 = .ok (.invokevirtual 377, 3) := by decide +kernel
theorem dX12_face_132 : decode cX12_face 132 = .ok (.aload_n 0, 1) := by decide +kernel
theorem dX12_face_133 : decode cX12_face 133 = .ok (.getfield 363, 3) := by decide +kernel
theorem dX12_face_136 : decode cX12_face 136 = .ok (.ireturn, 1) := by decide +kernel
set_option maxRecDepth 20000 in
theorem ggX12_byteAt_X12_isIn : GoodIn wsX12_byteAt wsX12_isIn := goodIn_r _ [7] (by decide +kernel) (by decide +kernel)
set_option maxRecDepth 20000 in
theorem gX12_byteAt_X12_isIn : GoodIn wsX12_byteAt (va_wsS RX12 184 yX12_isIn wsX12_isIn) := goodIn_app (goodIn_of _ (by decide +kernel)) ggX12_byteAt_X12_isIn
theorem dX12_byteAt_0 : decode cX12_byteAt 0 = .ok (.aload_n 0, 1) := by decide +kernel
theorem dX12_byteAt_1 : decode cX12_byteAt 1 = .ok (.iconst 0, 1) := by decide +kernel
theorem dX12_byteAt_2 : decode cX12_byteAt 2 = .ok (.putfield 1, 3) := by decide +kernel
theorem dX12_byteAt_5 : decode cX12_byteAt 5 = .ok (.iload_n 1, 1) := by decide +kernel
theorem dX12_byteAt_6 : decode cX12_byteAt 6 = .ok (.iconst 0, 1) := by decide +kernel
theorem dX12_byteAt_7 : decode cX12_byteAt 7 = .ok (.aload_n 0, 1) := by decide +kernel
theorem dX12_byteAt_8 : decode cX12_byteAt 8 = .ok (.getfield 363, 3) := by decide +kernel
theorem dX12_byteAt_11 : decode cX12_byteAt 11 = .ok (.iconst 1, 1) := by decide +kernel
theorem dX12_byteAt_12 : decode cX12_byteAt 12 = .ok (.isub, 1) := by decide +kernel
theorem dX12_byteAt_13 : decode cX12_byteAt 13 = .ok (.invokestatic 184, 3) := by decide +kernel
theorem dX12_byteAt_16 : decode cX12_byteAt 16 = .ok (.ifCond .eq 12, 3) := by decide +kernel
theorem dX12_byteAt_19 : decode cX12_byteAt 19 = .ok (.aload_n 0, 1) := by decide +kernel
theorem dX12_byteAt_20 : decode cX12_byteAt 20 = .ok (.getfield 65, 3) := by decide +kernel
theorem dX12_byteAt_23 : decode cX12_byteAt 23 = .ok (.iload_n 1, 1) := by decide +kernel
theorem dX12_byteAt_24 : decode cX12_byteAt 24 = .ok (.baload, 1) := by decide +kernel
theorem dX12_byteAt_25 : decode cX12_byteAt 25 = .ok (.goto 4, 3) := by decide +kernel
theorem dX12_byteAt_28 : decode cX12_byteAt 28 = .ok (.iconst (-1), 1) := by decide +kernel
theorem dX12_byteAt_29 : decode cX12_byteAt 29 = .ok (.ireturn, 1) := by decide +kernel
theorem dX12_draw_0 : decode cX12_draw 0 = .ok (.aload_n 0, 1) := by decide +kernel
theorem dX12_draw_1 : decode cX12_draw 1 = .ok (.aload_n 0, 1) := by decide +kernel
theorem dX12_draw_2 : decode cX12_draw 2 = .ok (.getfield 382, 3) := by decide +kernel
theorem dX12_draw_5 : decode cX12_draw 5 = .ok (.ldc_w 385, 3) := by decide +kernel
theorem dX12_draw_8 : decode cX12_draw 8 = .ok (.imul, 1) := by decide +kernel
theorem dX12_draw_9 : decode cX12_draw 9 = .ok (.sipush 12345, 3) := by decide +kernel
theorem dX12_draw_12 : decode cX12_draw 12 = .ok (.iadd, 1) := by decide +kernel
theorem dX12_draw_13 : decode cX12_draw 13 = .ok (.putfield 382, 3) := by decide +kernel
theorem dX12_draw_16 : decode cX12_draw 16 = .ok (.aload_n 0, 1) := by decide +kernel
theorem dX12_draw_17 : decode cX12_draw 17 = .ok (.getfield 382, 3) := by decide +kernel
theorem dX12_draw_20 : decode cX12_draw 20 = .ok (.bipush 8, 2) := by decide +kernel
theorem dX12_draw_22 : decode cX12_draw 22 = .ok (.iushr, 1) := by decide +kernel
theorem dX12_draw_23 : decode cX12_draw 23 = .ok (.iload_n 1, 1) := by decide +kernel
theorem dX12_draw_24 : decode cX12_draw 24 = .ok (.irem, 1) := by decide +kernel
theorem dX12_draw_25 : decode cX12_draw 25 = .ok (.ireturn, 1) := by decide +kernel
set_option maxRecDepth 20000 in
theorem ggX12_drawHour_X12_draw : GoodIn wsX12_drawHour wsX12_draw := goodIn_r _ [6, 7, 8, 40, 41, 42, 43, 44, 45, 46, 47, 48, 49, 50, 51, 52, 53, 54, 55, 56, 57, 58, 59, 60, 61, 62, 63, 64, 65, 66, 67, 68, 69, 70, 71, 72, 73, 74, 75, 76, 77, 78, 79, 80, 81, 82, 83, 84, 85] (by decide +kernel) (by decide +kernel)
set_option maxRecDepth 20000 in
theorem gX12_drawHour_X12_draw : GoodIn wsX12_drawHour (wsV RX12 386 RX12 yX12_draw wsX12_draw) := goodIn_app (goodIn_of _ (by decide +kernel)) ggX12_drawHour_X12_draw
set_option maxRecDepth 20000 in
theorem ggX12_drawHour_X12_isStopped : GoodIn wsX12_drawHour wsX12_isStopped := goodIn_r _ [12, 1, 13, 14, 5, 15, 40, 41, 42, 43, 44, 45, 46, 47, 48, 49, 50, 51, 52, 53, 54, 55, 56, 57, 58, 59, 60, 61, 62, 63, 64, 65, 66, 67, 68, 69, 70, 71, 72, 73, 74, 75, 76, 77, 78, 79, 80, 81, 82, 83, 84, 85] (by decide +kernel) (by decide +kernel)
set_option maxRecDepth 20000 in
theorem gX12_drawHour_X12_isStopped : GoodIn wsX12_drawHour (wsV RX12 253 RX12 yX12_isStopped wsX12_isStopped) := goodIn_app (goodIn_of _ (by decide +kernel)) ggX12_drawHour_X12_isStopped
set_option maxRecDepth 20000 in
theorem ggX12_drawHour_X12_wrongBy : GoodIn wsX12_drawHour wsX12_wrongBy := goodIn_r _ [19, 1, 20, 21, 22, 5, 23, 9, 10, 11, 12, 13, 14, 15, 40, 41, 42, 43, 44, 45, 46, 47, 48, 49, 50, 51, 52, 53, 54, 55, 56, 57, 58, 59, 60, 61, 62, 63, 64, 65, 66, 67, 68, 69, 70, 71, 72, 73, 74, 75, 76, 77, 78, 79, 80, 81, 82, 83, 84, 85] (by decide +kernel) (by decide +kernel)
set_option maxRecDepth 20000 in
theorem gX12_drawHour_X12_wrongBy : GoodIn wsX12_drawHour (wsV RX12 272 RX12 yX12_wrongBy wsX12_wrongBy) := goodIn_app (goodIn_of _ (by decide +kernel)) ggX12_drawHour_X12_wrongBy
set_option maxRecDepth 20000 in
theorem ggX12_drawHour_X12_runsFrom : GoodIn wsX12_drawHour wsX12_runsFrom := goodIn_r _ [27, 1, 40, 41, 42, 43, 44, 45, 46, 47, 48, 49, 50, 51, 52, 53, 54, 55, 56, 57, 58, 59, 60, 61, 62, 63, 64, 65, 66, 67, 68, 69, 70, 71, 72, 73, 74, 75, 76, 77, 78, 79, 80, 81, 82, 83, 84, 85] (by decide +kernel) (by decide +kernel)
set_option maxRecDepth 20000 in
theorem gX12_drawHour_X12_runsFrom : GoodIn wsX12_drawHour (wsV RX12 310 RX12 yX12_runsFrom wsX12_runsFrom) := goodIn_app (goodIn_of _ (by decide +kernel)) ggX12_drawHour_X12_runsFrom
set_option maxRecDepth 20000 in
theorem ggX12_drawHour_X12_stops : GoodIn wsX12_drawHour wsX12_stops := goodIn_r _ [31, 1, 20, 21, 22, 5, 23, 9, 10, 11, 12, 13, 14, 15, 40, 41, 42, 43, 44, 45, 46, 47, 48, 49, 50, 51, 52, 53, 54, 55, 56, 57, 58, 59, 60, 61, 62, 63, 64, 65, 66, 67, 68, 69, 70, 71, 72, 73, 74, 75, 76, 77, 78, 79, 80, 81, 82, 83, 84, 85] (by decide +kernel) (by decide +kernel)
set_option maxRecDepth 20000 in
theorem gX12_drawHour_X12_stops : GoodIn wsX12_drawHour (wsV RX12 313 RX12 yX12_stops wsX12_stops) := goodIn_app (goodIn_of _ (by decide +kernel)) ggX12_drawHour_X12_stops
set_option maxRecDepth 20000 in
theorem ggX12_drawHour_X12_whySet : GoodIn wsX12_drawHour wsX12_whySet := goodIn_r _ [35, 36, 37, 38, 5, 39, 1, 13, 14, 15, 9, 10, 11, 12, 40, 41, 42, 43, 44, 45, 46, 47, 48, 49, 50, 51, 52, 53, 54, 55, 56, 57, 58, 59, 60, 61, 62, 63, 64, 65, 66, 67, 68, 69, 70, 71, 72, 73, 74, 75, 76, 77, 78, 79, 80, 81, 82, 83, 84, 85] (by decide +kernel) (by decide +kernel)
set_option maxRecDepth 20000 in
theorem gX12_drawHour_X12_whySet : GoodIn wsX12_drawHour (wsV RX12 304 RX12 yX12_whySet wsX12_whySet) := goodIn_app (goodIn_of _ (by decide +kernel)) ggX12_drawHour_X12_whySet
theorem dX12_drawHour_0 : decode cX12_drawHour 0 = .ok (.aload_n 0, 1) := by decide +kernel
theorem dX12_drawHour_1 : decode cX12_drawHour 1 = .ok (.iconst 4, 1) := by decide +kernel
theorem dX12_drawHour_2 : decode cX12_drawHour 2 = .ok (.invokevirtual 386, 3) := by decide +kernel
theorem dX12_drawHour_5 : decode cX12_drawHour 5 = .ok (.istore_n 1, 1) := by decide +kernel
theorem dX12_drawHour_6 : decode cX12_drawHour 6 = .ok (.iload_n 1, 1) := by decide +kernel
theorem dX12_drawHour_7 : decode cX12_drawHour 7 = .ok (.ifCond .ne 49, 3) := by decide +kernel
theorem dX12_drawHour_10 : decode cX12_drawHour 10 = .ok (.aload_n 0, 1) := by decide +kernel
theorem dX12_drawHour_11 : decode cX12_drawHour 11 = .ok (.getfield 33, 3) := by decide +kernel
theorem dX12_drawHour_14 : decode cX12_drawHour 14 = .ok (.iconst 0, 1) := by decide +kernel
theorem dX12_drawHour_15 : decode cX12_drawHour 15 = .ok (.iaload, 1) := by decide +kernel
theorem dX12_drawHour_16 : decode cX12_drawHour 16 = .ok (.ifCond .le 40, 3) := by decide +kernel
theorem dX12_drawHour_19 : decode cX12_drawHour 19 = .ok (.aload_n 0, 1) := by decide +kernel
theorem dX12_drawHour_20 : decode cX12_drawHour 20 = .ok (.aload_n 0, 1) := by decide +kernel
theorem dX12_drawHour_21 : decode cX12_drawHour 21 = .ok (.getfield 33, 3) := by decide +kernel
theorem dX12_drawHour_24 : decode cX12_drawHour 24 = .ok (.iconst 0, 1) := by decide +kernel
theorem dX12_drawHour_25 : decode cX12_drawHour 25 = .ok (.iaload, 1) := by decide +kernel
theorem dX12_drawHour_26 : decode cX12_drawHour 26 = .ok (.invokevirtual 386, 3) := by decide +kernel
theorem dX12_drawHour_29 : decode cX12_drawHour 29 = .ok (.istore_n 2, 1) := by decide +kernel
theorem dX12_drawHour_30 : decode cX12_drawHour 30 = .ok (.aload_n 0, 1) := by decide +kernel
theorem dX12_drawHour_31 : decode cX12_drawHour 31 = .ok (.iload_n 2, 1) := by decide +kernel
theorem dX12_drawHour_32 : decode cX12_drawHour 32 = .ok (.invokevirtual 253, 3) := by decide +kernel
theorem dX12_drawHour_35 : decode cX12_drawHour 35 = .ok (.ifCond .eq 16, 3) := by decide +kernel
theorem dX12_drawHour_38 : decode cX12_drawHour 38 = .ok (.aload_n 0, 1) := by decide +kernel
theorem dX12_drawHour_39 : decode cX12_drawHour 39 = .ok (.iload_n 2, 1) := by decide +kernel
theorem dX12_drawHour_40 : decode cX12_drawHour 40 = .ok (.aload_n 0, 1) := by decide +kernel
theorem dX12_drawHour_41 : decode cX12_drawHour 41 = .ok (.iload_n 2, 1) := by decide +kernel
theorem dX12_drawHour_42 : decode cX12_drawHour 42 = .ok (.invokevirtual 272, 3) := by decide +kernel
theorem dX12_drawHour_45 : decode cX12_drawHour 45 = .ok (.invokevirtual 310, 3) := by decide +kernel
theorem dX12_drawHour_48 : decode cX12_drawHour 48 = .ok (.goto 8, 3) := by decide +kernel
theorem dX12_drawHour_51 : decode cX12_drawHour 51 = .ok (.aload_n 0, 1) := by decide +kernel
theorem dX12_drawHour_52 : decode cX12_drawHour 52 = .ok (.iload_n 2, 1) := by decide +kernel
theorem dX12_drawHour_53 : decode cX12_drawHour 53 = .ok (.invokevirtual 313, 3) := by decide +kernel
theorem dX12_drawHour_56 : decode cX12_drawHour 56 = .ok (.iload_n 1, 1) := by decide +kernel
theorem dX12_drawHour_57 : decode cX12_drawHour 57 = .ok (.iconst 1, 1) := by decide +kernel
theorem dX12_drawHour_58 : decode cX12_drawHour 58 = .ok (.if_icmp .ne 21, 3) := by decide +kernel
theorem dX12_drawHour_61 : decode cX12_drawHour 61 = .ok (.aload_n 0, 1) := by decide +kernel
theorem dX12_drawHour_62 : decode cX12_drawHour 62 = .ok (.getfield 33, 3) := by decide +kernel
theorem dX12_drawHour_65 : decode cX12_drawHour 65 = .ok (.iconst 0, 1) := by decide +kernel
theorem dX12_drawHour_66 : decode cX12_drawHour 66 = .ok (.iaload, 1) := by decide +kernel
theorem dX12_drawHour_67 : decode cX12_drawHour 67 = .ok (.ifCond .eq 12, 3) := by decide +kernel
theorem dX12_drawHour_70 : decode cX12_drawHour 70 = .ok (.aload_n 0, 1) := by decide +kernel
theorem dX12_drawHour_71 : decode cX12_drawHour 71 = .ok (.getfield 33, 3) := by decide +kernel
theorem dX12_drawHour_74 : decode cX12_drawHour 74 = .ok (.iconst 1, 1) := by decide +kernel
theorem dX12_drawHour_75 : decode cX12_drawHour 75 = .ok (.iaload, 1) := by decide +kernel
theorem dX12_drawHour_76 : decode cX12_drawHour 76 = .ok (.ifCond .ne 4, 3) := by decide +kernel
theorem dX12_drawHour_79 : decode cX12_drawHour 79 = .ok (.return_, 1) := by decide +kernel
theorem dX12_drawHour_80 : decode cX12_drawHour 80 = .ok (.aload_n 0, 1) := by decide +kernel
theorem dX12_drawHour_81 : decode cX12_drawHour 81 = .ok (.aload_n 0, 1) := by decide +kernel
theorem dX12_drawHour_82 : decode cX12_drawHour 82 = .ok (.getfield 33, 3) := by decide +kernel
theorem dX12_drawHour_85 : decode cX12_drawHour 85 = .ok (.iconst 1, 1) := by decide +kernel
theorem dX12_drawHour_86 : decode cX12_drawHour 86 = .ok (.iaload, 1) := by decide +kernel
theorem dX12_drawHour_87 : decode cX12_drawHour 87 = .ok (.invokevirtual 386, 3) := by decide +kernel
theorem dX12_drawHour_90 : decode cX12_drawHour 90 = .ok (.istore_n 2, 1) := by decide +kernel
theorem dX12_drawHour_91 : decode cX12_drawHour 91 = .ok (.aload_n 0, 1) := by decide +kernel
theorem dX12_drawHour_92 : decode cX12_drawHour 92 = .ok (.aload_n 0, 1) := by decide +kernel
theorem dX12_drawHour_93 : decode cX12_drawHour 93 = .ok (.getfield 33, 3) := by decide +kernel
theorem dX12_drawHour_96 : decode cX12_drawHour 96 = .ok (.iconst 0, 1) := by decide +kernel
theorem dX12_drawHour_97 : decode cX12_drawHour 97 = .ok (.iaload, 1) := by decide +kernel
theorem dX12_drawHour_98 : decode cX12_drawHour 98 = .ok (.invokevirtual 386, 3) := by decide +kernel
theorem dX12_drawHour_101 : decode cX12_drawHour 101 = .ok (.istore_n 3, 1) := by decide +kernel
theorem dX12_drawHour_102 : decode cX12_drawHour 102 = .ok (.aload_n 0, 1) := by decide +kernel
theorem dX12_drawHour_103 : decode cX12_drawHour 103 = .ok (.iload_n 2, 1) := by decide +kernel
theorem dX12_drawHour_104 : decode cX12_drawHour 104 = .ok (.iload_n 3, 1) := by decide +kernel
theorem dX12_drawHour_105 : decode cX12_drawHour 105 = .ok (.invokevirtual 304, 3) := by decide +kernel
theorem dX12_drawHour_108 : decode cX12_drawHour 108 = .ok (.ifCond .ne 18, 3) := by decide +kernel
theorem dX12_drawHour_111 : decode cX12_drawHour 111 = .ok (.aload_n 0, 1) := by decide +kernel
theorem dX12_drawHour_112 : decode cX12_drawHour 112 = .ok (.iload_n 3, 1) := by decide +kernel
theorem dX12_drawHour_113 : decode cX12_drawHour 113 = .ok (.aload_n 0, 1) := by decide +kernel
theorem dX12_drawHour_114 : decode cX12_drawHour 114 = .ok (.getfield 33, 3) := by decide +kernel
theorem dX12_drawHour_117 : decode cX12_drawHour 117 = .ok (.bipush 28, 2) := by decide +kernel
theorem dX12_drawHour_119 : decode cX12_drawHour 119 = .ok (.iload_n 2, 1) := by decide +kernel
theorem dX12_drawHour_120 : decode cX12_drawHour 120 = .ok (.iadd, 1) := by decide +kernel
theorem dX12_drawHour_121 : decode cX12_drawHour 121 = .ok (.iaload, 1) := by decide +kernel
theorem dX12_drawHour_122 : decode cX12_drawHour 122 = .ok (.ineg, 1) := by decide +kernel
theorem dX12_drawHour_123 : decode cX12_drawHour 123 = .ok (.invokevirtual 310, 3) := by decide +kernel
theorem dX12_drawHour_126 : decode cX12_drawHour 126 = .ok (.return_, 1) := by decide +kernel
set_option maxRecDepth 20000 in
theorem ggX12_draws_X12_drawHour : GoodIn wsX12_draws wsX12_drawHour := goodIn_r _ [7, 2, 8, 9, 10, 6, 11, 1, 12, 13, 14, 15, 16, 17, 18, 19, 20, 21, 22, 23, 24, 25, 26, 27, 28, 29, 30, 31, 32, 33, 34, 35, 36, 37, 38, 39, 40, 41, 42, 43, 63, 64, 65, 66, 67, 68, 69, 70, 71, 72, 73, 74, 75, 76, 77, 78, 79, 80, 81, 82, 83, 84, 85, 86, 87, 88, 89, 90, 91, 92, 93, 94, 95, 96, 97, 98, 99, 100, 101, 102, 103, 104, 105, 106, 107, 108] (by decide +kernel) (by decide +kernel)
set_option maxRecDepth 20000 in
theorem gX12_draws_X12_drawHour : GoodIn wsX12_draws (wsV RX12 389 RX12 yX12_drawHour wsX12_drawHour) := goodIn_app (goodIn_of _ (by decide +kernel)) ggX12_draws_X12_drawHour
set_option maxRecDepth 20000 in
theorem ggX12_draws_X12_goesOn : GoodIn wsX12_draws wsX12_goesOn := goodIn_r _ [47, 2, 48, 49, 50, 6, 51, 52, 53, 54, 55, 17, 18, 19, 56, 57, 58, 59, 40, 41, 42, 43, 24, 25, 26, 27, 13, 14, 15, 16, 60, 61, 62, 63, 64, 65, 66, 67, 68, 69, 70, 71, 72, 73, 74, 75, 76, 77, 78, 79, 80, 81, 82, 83, 84, 85, 86, 87, 88, 89, 90, 91, 92, 93, 94, 95, 96, 97, 98, 99, 100, 101, 102, 103, 104, 105, 106, 107, 108] (by decide +kernel) (by decide +kernel)
set_option maxRecDepth 20000 in
theorem gX12_draws_X12_goesOn : GoodIn wsX12_draws (wsV RX12 319 RX12 yX12_goesOn wsX12_goesOn) := goodIn_app (goodIn_of _ (by decide +kernel)) ggX12_draws_X12_goesOn
theorem dX12_draws_0 : decode cX12_draws 0 = .ok (.aload_n 0, 1) := by decide +kernel
theorem dX12_draws_1 : decode cX12_draws 1 = .ok (.iload_n 2, 1) := by decide +kernel
theorem dX12_draws_2 : decode cX12_draws 2 = .ok (.putfield 382, 3) := by decide +kernel
theorem dX12_draws_5 : decode cX12_draws 5 = .ok (.iconst 0, 1) := by decide +kernel
theorem dX12_draws_6 : decode cX12_draws 6 = .ok (.istore_n 3, 1) := by decide +kernel
theorem dX12_draws_7 : decode cX12_draws 7 = .ok (.iconst 0, 1) := by decide +kernel
theorem dX12_draws_8 : decode cX12_draws 8 = .ok (.istore 4, 2) := by decide +kernel
theorem dX12_draws_10 : decode cX12_draws 10 = .ok (.iload 4, 2) := by decide +kernel
theorem dX12_draws_12 : decode cX12_draws 12 = .ok (.iload_n 1, 1) := by decide +kernel
theorem dX12_draws_13 : decode cX12_draws 13 = .ok (.if_icmp .ge 35, 3) := by decide +kernel
theorem dX12_draws_16 : decode cX12_draws 16 = .ok (.aload_n 0, 1) := by decide +kernel
theorem dX12_draws_17 : decode cX12_draws 17 = .ok (.getfield 33, 3) := by decide +kernel
theorem dX12_draws_20 : decode cX12_draws 20 = .ok (.bipush 52, 2) := by decide +kernel
theorem dX12_draws_22 : decode cX12_draws 22 = .ok (.iaload, 1) := by decide +kernel
theorem dX12_draws_23 : decode cX12_draws 23 = .ok (.sipush 2000, 3) := by decide +kernel
theorem dX12_draws_26 : decode cX12_draws 26 = .ok (.if_icmp .ge 22, 3) := by decide +kernel
theorem dX12_draws_29 : decode cX12_draws 29 = .ok (.aload_n 0, 1) := by decide +kernel
theorem dX12_draws_30 : decode cX12_draws 30 = .ok (.invokevirtual 389, 3) := by decide +kernel
theorem dX12_draws_33 : decode cX12_draws 33 = .ok (.iload_n 3, 1) := by decide +kernel
theorem dX12_draws_34 : decode cX12_draws 34 = .ok (.aload_n 0, 1) := by decide +kernel
theorem dX12_draws_35 : decode cX12_draws 35 = .ok (.bipush 60, 2) := by decide +kernel
theorem dX12_draws_37 : decode cX12_draws 37 = .ok (.invokevirtual 319, 3) := by decide +kernel
theorem dX12_draws_40 : decode cX12_draws 40 = .ok (.iadd, 1) := by decide +kernel
theorem dX12_draws_41 : decode cX12_draws 41 = .ok (.istore_n 3, 1) := by decide +kernel
theorem dX12_draws_42 : decode cX12_draws 42 = .ok (.iinc 4 1, 3) := by decide +kernel
theorem dX12_draws_45 : decode cX12_draws 45 = .ok (.goto (-35), 3) := by decide +kernel
theorem dX12_draws_48 : decode cX12_draws 48 = .ok (.iload_n 3, 1) := by decide +kernel
theorem dX12_draws_49 : decode cX12_draws 49 = .ok (.ireturn, 1) := by decide +kernel
set_option maxRecDepth 20000 in
theorem ggX12_drawn_X12_isIn : GoodIn wsX12_drawn wsX12_isIn := goodIn_r _ [6] (by decide +kernel) (by decide +kernel)
set_option maxRecDepth 20000 in
theorem gX12_drawn_X12_isIn : GoodIn wsX12_drawn (va_wsS RX12 184 yX12_isIn wsX12_isIn) := goodIn_app (goodIn_of _ (by decide +kernel)) ggX12_drawn_X12_isIn
set_option maxRecDepth 20000 in
theorem ggX12_drawn_X12_keep : GoodIn wsX12_drawn wsX12_keep := goodIn_r _ [10, 11, 12, 2, 77, 78, 79, 80, 81, 82, 83, 84, 85, 86, 87, 88, 89, 90, 91, 92, 93, 94, 95, 96, 97, 98, 99, 100, 101, 102, 103, 104, 105, 106, 107, 108, 109, 110, 111, 112, 113, 114, 115, 116, 117, 118, 119, 120, 121, 122] (by decide +kernel) (by decide +kernel)
set_option maxRecDepth 20000 in
theorem gX12_drawn_X12_keep : GoodIn wsX12_drawn (wsV RX12 307 RX12 yX12_keep wsX12_keep) := goodIn_app (goodIn_of _ (by decide +kernel)) ggX12_drawn_X12_keep
set_option maxRecDepth 20000 in
theorem ggX12_drawn_X12_draws : GoodIn wsX12_drawn wsX12_draws := goodIn_r _ [16, 17, 2, 18, 19, 20, 5, 21, 22, 23, 24, 25, 26, 27, 28, 29, 30, 31, 32, 33, 34, 35, 36, 37, 38, 39, 40, 41, 42, 43, 44, 45, 46, 47, 48, 49, 50, 51, 52, 53, 54, 55, 56, 57, 58, 59, 60, 61, 62, 63, 64, 65, 66, 67, 68, 69, 70, 71, 72, 73, 74, 75, 76, 77, 78, 79, 80, 81, 82, 83, 84, 85, 86, 87, 88, 89, 90, 91, 92, 93, 94, 95, 96, 97, 98, 99, 100, 101, 102, 103, 104, 105, 106, 107, 108, 109, 110, 111, 112, 113, 114, 115, 116, 117, 118, 119, 120, 121, 122] (by decide +kernel) (by decide +kernel)
set_option maxRecDepth 20000 in
theorem gX12_drawn_X12_draws : GoodIn wsX12_drawn (wsV RX12 392 RX12 yX12_draws wsX12_draws) := goodIn_app (goodIn_of _ (by decide +kernel)) ggX12_drawn_X12_draws
theorem dX12_drawn_0 : decode cX12_drawn 0 = .ok (.aload_n 0, 1) := by decide +kernel
theorem dX12_drawn_1 : decode cX12_drawn 1 = .ok (.iconst 0, 1) := by decide +kernel
theorem dX12_drawn_2 : decode cX12_drawn 2 = .ok (.putfield 1, 3) := by decide +kernel
theorem dX12_drawn_5 : decode cX12_drawn 5 = .ok (.iload_n 1, 1) := by decide +kernel
theorem dX12_drawn_6 : decode cX12_drawn 6 = .ok (.iconst 1, 1) := by decide +kernel
theorem dX12_drawn_7 : decode cX12_drawn 7 = .ok (.bipush 24, 2) := by decide +kernel
theorem dX12_drawn_9 : decode cX12_drawn 9 = .ok (.invokestatic 184, 3) := by decide +kernel
theorem dX12_drawn_12 : decode cX12_drawn 12 = .ok (.ifCond .ne 5, 3) := by decide +kernel
theorem dX12_drawn_15 : decode cX12_drawn 15 = .ok (.iconst (-1), 1) := by decide +kernel
theorem dX12_drawn_16 : decode cX12_drawn 16 = .ok (.ireturn, 1) := by decide +kernel
theorem dX12_drawn_17 : decode cX12_drawn 17 = .ok (.aload_n 0, 1) := by decide +kernel
theorem dX12_drawn_18 : decode cX12_drawn 18 = .ok (.getfield 33, 3) := by decide +kernel
theorem dX12_drawn_21 : decode cX12_drawn 21 = .ok (.bipush 52, 2) := by decide +kernel
theorem dX12_drawn_23 : decode cX12_drawn 23 = .ok (.iaload, 1) := by decide +kernel
theorem dX12_drawn_24 : decode cX12_drawn 24 = .ok (.sipush 2000, 3) := by decide +kernel
theorem dX12_drawn_27 : decode cX12_drawn 27 = .ok (.if_icmp .ge 7, 3) := by decide +kernel
theorem dX12_drawn_30 : decode cX12_drawn 30 = .ok (.aload_n 0, 1) := by decide +kernel
theorem dX12_drawn_31 : decode cX12_drawn 31 = .ok (.invokevirtual 307, 3) := by decide +kernel
theorem dX12_drawn_34 : decode cX12_drawn 34 = .ok (.aload_n 0, 1) := by decide +kernel
theorem dX12_drawn_35 : decode cX12_drawn 35 = .ok (.iload_n 1, 1) := by decide +kernel
theorem dX12_drawn_36 : decode cX12_drawn 36 = .ok (.iload_n 2, 1) := by decide +kernel
theorem dX12_drawn_37 : decode cX12_drawn 37 = .ok (.invokevirtual 392, 3) := by decide +kernel
theorem dX12_drawn_40 : decode cX12_drawn 40 = .ok (.ireturn, 1) := by decide +kernel
set_option maxRecDepth 20000 in
theorem ggX12_odds_X12_isMaster : GoodIn wsX12_odds wsX12_isMaster := goodIn_r _ [6, 7, 8, 9, 5, 10, 84, 85, 86, 87, 88, 89, 90, 91, 92, 93, 94, 95, 96, 97, 98, 99, 100, 101, 102, 103, 104, 105, 106, 107, 108, 109, 110, 111, 112, 113, 114, 115, 116, 117, 118, 119, 120, 121, 122, 123, 124, 125, 126, 127, 128, 129] (by decide +kernel) (by decide +kernel)
set_option maxRecDepth 20000 in
theorem gX12_odds_X12_isMaster : GoodIn wsX12_odds (wsV RX12 276 RX12 yX12_isMaster wsX12_isMaster) := goodIn_app (goodIn_of _ (by decide +kernel)) ggX12_odds_X12_isMaster
set_option maxRecDepth 20000 in
theorem ggX12_odds_X12_isIn : GoodIn wsX12_odds wsX12_isIn := goodIn_r _ [10] (by decide +kernel) (by decide +kernel)
set_option maxRecDepth 20000 in
theorem gX12_odds_X12_isIn : GoodIn wsX12_odds (va_wsS RX12 184 yX12_isIn wsX12_isIn) := goodIn_app (goodIn_of _ (by decide +kernel)) ggX12_odds_X12_isIn
set_option maxRecDepth 20000 in
theorem ggX12_odds_X12_tries : GoodIn wsX12_odds wsX12_tries := goodIn_r _ [14, 15, 7, 84, 85, 86, 87, 88, 89, 90, 91, 92, 93, 94, 95, 96, 97, 98, 99, 100, 101, 102, 103, 104, 105, 106, 107, 108, 109, 110, 111, 112, 113, 114, 115, 116, 117, 118, 119, 120, 121, 122, 123, 124, 125, 126, 127, 128, 129] (by decide +kernel) (by decide +kernel)
set_option maxRecDepth 20000 in
theorem gX12_odds_X12_tries : GoodIn wsX12_odds (wsV RX12 322 RX12 yX12_tries wsX12_tries) := goodIn_app (goodIn_of _ (by decide +kernel)) ggX12_odds_X12_tries
set_option maxRecDepth 20000 in
theorem ggX12_odds_X12_draws : GoodIn wsX12_odds wsX12_draws := goodIn_r _ [19, 20, 7, 21, 22, 23, 5, 24, 25, 26, 27, 28, 29, 30, 31, 32, 33, 34, 35, 36, 37, 38, 39, 40, 41, 42, 43, 44, 45, 46, 47, 48, 49, 50, 51, 52, 53, 54, 55, 56, 57, 58, 59, 60, 61, 62, 63, 64, 65, 66, 67, 68, 69, 70, 71, 72, 73, 74, 75, 76, 77, 78, 79, 84, 85, 86, 87, 88, 89, 90, 91, 92, 93, 94, 95, 96, 97, 98, 99, 100, 101, 102, 103, 104, 105, 106, 107, 108, 109, 110, 111, 112, 113, 114, 115, 116, 117, 118, 119, 120, 121, 122, 123, 124, 125, 126, 127, 128, 129] (by decide +kernel) (by decide +kernel)
set_option maxRecDepth 20000 in
theorem gX12_odds_X12_draws : GoodIn wsX12_odds (wsV RX12 392 RX12 yX12_draws wsX12_draws) := goodIn_app (goodIn_of _ (by decide +kernel)) ggX12_odds_X12_draws
set_option maxRecDepth 20000 in
theorem ggX12_odds_X12_isOut : GoodIn wsX12_odds wsX12_isOut := goodIn_r _ [60, 7, 34, 35, 5, 36, 84, 85, 86, 87, 88, 89, 90, 91, 92, 93, 94, 95, 96, 97, 98, 99, 100, 101, 102, 103, 104, 105, 106, 107, 108, 109, 110, 111, 112, 113, 114, 115, 116, 117, 118, 119, 120, 121, 122, 123, 124, 125, 126, 127, 128, 129] (by decide +kernel) (by decide +kernel)
set_option maxRecDepth 20000 in
theorem gX12_odds_X12_isOut : GoodIn wsX12_odds (wsV RX12 279 RX12 yX12_isOut wsX12_isOut) := goodIn_app (goodIn_of _ (by decide +kernel)) ggX12_odds_X12_isOut
set_option maxRecDepth 20000 in
theorem ggX12_odds_X12_back : GoodIn wsX12_odds wsX12_back := goodIn_r _ [83, 7, 15, 84, 85, 86, 87, 88, 89, 90, 91, 92, 93, 94, 95, 96, 97, 98, 99, 100, 101, 102, 103, 104, 105, 106, 107, 108, 109, 110, 111, 112, 113, 114, 115, 116, 117, 118, 119, 120, 121, 122, 123, 124, 125, 126, 127, 128, 129] (by decide +kernel) (by decide +kernel)
set_option maxRecDepth 20000 in
theorem gX12_odds_X12_back : GoodIn wsX12_odds (wsV RX12 325 RX12 yX12_back wsX12_back) := goodIn_app (goodIn_of _ (by decide +kernel)) ggX12_odds_X12_back
theorem dX12_odds_0 : decode cX12_odds 0 = .ok (.aload_n 0, 1) := by decide +kernel
theorem dX12_odds_1 : decode cX12_odds 1 = .ok (.iconst 0, 1) := by decide +kernel
theorem dX12_odds_2 : decode cX12_odds 2 = .ok (.putfield 1, 3) := by decide +kernel
theorem dX12_odds_5 : decode cX12_odds 5 = .ok (.aload_n 0, 1) := by decide +kernel
theorem dX12_odds_6 : decode cX12_odds 6 = .ok (.iload_n 1, 1) := by decide +kernel
theorem dX12_odds_7 : decode cX12_odds 7 = .ok (.invokevirtual 276, 3) := by decide +kernel
theorem dX12_odds_10 : decode cX12_odds 10 = .ok (.ifCond .eq 13, 3) := by decide +kernel
theorem dX12_odds_13 : decode cX12_odds 13 = .ok (.iload_n 2, 1) := by decide +kernel
theorem dX12_odds_14 : decode cX12_odds 14 = .ok (.iconst 1, 1) := by decide +kernel
theorem dX12_odds_15 : decode cX12_odds 15 = .ok (.bipush 20, 2) := by decide +kernel
theorem dX12_odds_17 : decode cX12_odds 17 = .ok (.invokestatic 184, 3) := by decide +kernel
theorem dX12_odds_20 : decode cX12_odds 20 = .ok (.ifCond .ne 5, 3) := by decide +kernel
theorem dX12_odds_23 : decode cX12_odds 23 = .ok (.iconst (-1), 1) := by decide +kernel
theorem dX12_odds_24 : decode cX12_odds 24 = .ok (.ireturn, 1) := by decide +kernel
theorem dX12_odds_25 : decode cX12_odds 25 = .ok (.aload_n 0, 1) := by decide +kernel
theorem dX12_odds_26 : decode cX12_odds 26 = .ok (.invokevirtual 322, 3) := by decide +kernel
theorem dX12_odds_29 : decode cX12_odds 29 = .ok (.iconst 0, 1) := by decide +kernel
theorem dX12_odds_30 : decode cX12_odds 30 = .ok (.istore 4, 2) := by decide +kernel
theorem dX12_odds_32 : decode cX12_odds 32 = .ok (.iconst 0, 1) := by decide +kernel
theorem dX12_odds_33 : decode cX12_odds 33 = .ok (.istore 5, 2) := by decide +kernel
theorem dX12_odds_35 : decode cX12_odds 35 = .ok (.iload 5, 2) := by decide +kernel
theorem dX12_odds_37 : decode cX12_odds 37 = .ok (.iload_n 2, 1) := by decide +kernel
theorem dX12_odds_38 : decode cX12_odds 38 = .ok (.if_icmp .ge 42, 3) := by decide +kernel
theorem dX12_odds_41 : decode cX12_odds 41 = .ok (.aload_n 0, 1) := by decide +kernel
theorem dX12_odds_42 : decode cX12_odds 42 = .ok (.bipush 6, 2) := by decide +kernel
theorem dX12_odds_44 : decode cX12_odds 44 = .ok (.iload_n 3, 1) := by decide +kernel
theorem dX12_odds_45 : decode cX12_odds 45 = .ok (.iload 5, 2) := by decide +kernel
theorem dX12_odds_47 : decode cX12_odds 47 = .ok (.iadd, 1) := by decide +kernel
theorem dX12_odds_48 : decode cX12_odds 48 = .ok (.invokevirtual 392, 3) := by decide +kernel
theorem dX12_odds_51 : decode cX12_odds 51 = .ok (.pop, 1) := by decide +kernel
theorem dX12_odds_52 : decode cX12_odds 52 = .ok (.iload 4, 2) := by decide +kernel
theorem dX12_odds_54 : decode cX12_odds 54 = .ok (.aload_n 0, 1) := by decide +kernel
theorem dX12_odds_55 : decode cX12_odds 55 = .ok (.iload_n 1, 1) := by decide +kernel
theorem dX12_odds_56 : decode cX12_odds 56 = .ok (.invokevirtual 279, 3) := by decide +kernel
theorem dX12_odds_59 : decode cX12_odds 59 = .ok (.ifCond .eq 7, 3) := by decide +kernel
theorem dX12_odds_62 : decode cX12_odds 62 = .ok (.iconst 1, 1) := by decide +kernel
theorem dX12_odds_63 : decode cX12_odds 63 = .ok (.goto 4, 3) := by decide +kernel
theorem dX12_odds_66 : decode cX12_odds 66 = .ok (.iconst 0, 1) := by decide +kernel
theorem dX12_odds_67 : decode cX12_odds 67 = .ok (.iadd, 1) := by decide +kernel
theorem dX12_odds_68 : decode cX12_odds 68 = .ok (.istore 4, 2) := by decide +kernel
theorem dX12_odds_70 : decode cX12_odds 70 = .ok (.aload_n 0, 1) := by decide +kernel
theorem dX12_odds_71 : decode cX12_odds 71 = .ok (.invokevirtual 325, 3) := by decide +kernel
theorem dX12_odds_74 : decode cX12_odds 74 = .ok (.iinc 5 1, 3) := by decide +kernel
theorem dX12_odds_77 : decode cX12_odds 77 = .ok (.goto (-42), 3) := by decide +kernel
theorem dX12_odds_80 : decode cX12_odds 80 = .ok (.iload 4, 2) := by decide +kernel
theorem dX12_odds_82 : decode cX12_odds 82 = .ok (.ireturn, 1) := by decide +kernel
set_option maxRecDepth 20000 in
theorem ggX12_bookLine_X12_isWord : GoodIn wsX12_bookLine wsX12_isWord := goodIn_r _ [14, 15, 16, 69, 70, 71, 72, 73, 74, 75, 76, 77, 78, 79, 80, 81, 82, 83, 84, 85, 86, 87, 88, 89, 90, 91, 92, 93, 94, 95, 96, 97, 98, 99, 100, 101, 102, 103, 104, 105, 106, 107, 108, 109, 110, 111, 112, 113, 114] (by decide +kernel) (by decide +kernel)
set_option maxRecDepth 20000 in
theorem gX12_bookLine_X12_isWord : GoodIn wsX12_bookLine (wsV RX12 206 RX12 yX12_isWord wsX12_isWord) := goodIn_app (goodIn_of _ (by decide +kernel)) ggX12_bookLine_X12_isWord
set_option maxRecDepth 20000 in
theorem ggX12_bookLine_X12_looksAt : GoodIn wsX12_bookLine wsX12_looksAt := goodIn_r _ [20, 7, 21, 22, 23, 13, 24, 15, 16, 25, 26, 27, 28, 29, 30, 31, 32, 33, 34, 35, 36, 37, 69, 70, 71, 72, 73, 74, 75, 76, 77, 78, 79, 80, 81, 82, 83, 84, 85, 86, 87, 88, 89, 90, 91, 92, 93, 94, 95, 96, 97, 98, 99, 100, 101, 102, 103, 104, 105, 106, 107, 108, 109, 110, 111, 112, 113, 114] (by decide +kernel) (by decide +kernel)
set_option maxRecDepth 20000 in
theorem gX12_bookLine_X12_looksAt : GoodIn wsX12_bookLine (wsV RX12 203 RX12 yX12_looksAt wsX12_looksAt) := goodIn_app (goodIn_of _ (by decide +kernel)) ggX12_bookLine_X12_looksAt
set_option maxRecDepth 20000 in
theorem ggX12_bookLine_X12_bad : GoodIn wsX12_bookLine wsX12_bad := goodIn_r _ [29, 30, 31, 32, 69, 70, 71, 72, 73, 74, 75, 76, 77, 78, 79, 80, 81, 82, 83, 84, 85, 86, 87, 88, 89, 90, 91, 92, 93, 94, 95, 96, 97, 98, 99, 100, 101, 102, 103, 104, 105, 106, 107, 108, 109, 110, 111, 112, 113, 114] (by decide +kernel) (by decide +kernel)
set_option maxRecDepth 20000 in
theorem gX12_bookLine_X12_bad : GoodIn wsX12_bookLine (wsV RX12 178 RX12 yX12_bad wsX12_bad) := goodIn_app (goodIn_of _ (by decide +kernel)) ggX12_bookLine_X12_bad
set_option maxRecDepth 20000 in
theorem ggX12_bookLine_X12_next : GoodIn wsX12_bookLine wsX12_next := goodIn_r _ [41, 42, 31, 43, 44, 45, 15, 46, 16, 47, 48, 49, 13, 50, 51, 52, 53, 54, 55, 56, 57, 69, 70, 71, 72, 73, 74, 75, 76, 77, 78, 79, 80, 81, 82, 83, 84, 85, 86, 87, 88, 89, 90, 91, 92, 93, 94, 95, 96, 97, 98, 99, 100, 101, 102, 103, 104, 105, 106, 107, 108, 109, 110, 111, 112, 113, 114] (by decide +kernel) (by decide +kernel)
set_option maxRecDepth 20000 in
theorem gX12_bookLine_X12_next : GoodIn wsX12_bookLine (wsV RX12 181 RX12 yX12_next wsX12_next) := goodIn_app (goodIn_of _ (by decide +kernel)) ggX12_bookLine_X12_next
set_option maxRecDepth 20000 in
theorem ggX12_bookLine_X12_takesName : GoodIn wsX12_bookLine wsX12_takesName := goodIn_r _ [61, 17, 18, 19, 13, 20, 7, 21, 22, 23, 24, 15, 16, 25, 26, 27, 28, 29, 30, 31, 32, 33, 34, 35, 36, 37, 38, 39, 40, 41, 42, 43, 44, 45, 46, 47, 48, 49, 50, 51, 52, 53, 54, 55, 56, 57, 69, 70, 71, 72, 73, 74, 75, 76, 77, 78, 79, 80, 81, 82, 83, 84, 85, 86, 87, 88, 89, 90, 91, 92, 93, 94, 95, 96, 97, 98, 99, 100, 101, 102, 103, 104, 105, 106, 107, 108, 109, 110, 111, 112, 113, 114] (by decide +kernel) (by decide +kernel)
set_option maxRecDepth 20000 in
theorem gX12_bookLine_X12_takesName : GoodIn wsX12_bookLine (wsV RX12 232 RX12 yX12_takesName wsX12_takesName) := goodIn_app (goodIn_of _ (by decide +kernel)) ggX12_bookLine_X12_takesName
set_option maxRecDepth 20000 in
theorem ggX12_bookLine_X12_takes : GoodIn wsX12_bookLine wsX12_takes := goodIn_r _ [65, 15, 46, 7, 26, 27, 28, 13, 29, 30, 31, 32, 66, 67, 68, 38, 39, 40, 41, 42, 43, 44, 45, 16, 47, 48, 49, 50, 51, 52, 53, 54, 55, 56, 57, 69, 70, 71, 72, 73, 74, 75, 76, 77, 78, 79, 80, 81, 82, 83, 84, 85, 86, 87, 88, 89, 90, 91, 92, 93, 94, 95, 96, 97, 98, 99, 100, 101, 102, 103, 104, 105, 106, 107, 108, 109, 110, 111, 112, 113, 114] (by decide +kernel) (by decide +kernel)
set_option maxRecDepth 20000 in
theorem gX12_bookLine_X12_takes : GoodIn wsX12_bookLine (wsV RX12 191 RX12 yX12_takes wsX12_takes) := goodIn_app (goodIn_of _ (by decide +kernel)) ggX12_bookLine_X12_takes
theorem dX12_bookLine_0 : decode cX12_bookLine 0 = .ok (.iconst 3, 1) := by decide +kernel
theorem dX12_bookLine_1 : decode cX12_bookLine 1 = .ok (.aload_n 0, 1) := by decide +kernel
theorem dX12_bookLine_2 : decode cX12_bookLine 2 = .ok (.getfield 395, 3) := by decide +kernel
theorem dX12_bookLine_5 : decode cX12_bookLine 5 = .ok (.imul, 1) := by decide +kernel
theorem dX12_bookLine_6 : decode cX12_bookLine 6 = .ok (.istore_n 1, 1) := by decide +kernel
theorem dX12_bookLine_7 : decode cX12_bookLine 7 = .ok (.aload_n 0, 1) := by decide +kernel
theorem dX12_bookLine_8 : decode cX12_bookLine 8 = .ok (.ldc2_w 107, 3) := by decide +kernel
theorem dX12_bookLine_11 : decode cX12_bookLine 11 = .ok (.invokevirtual 206, 3) := by decide +kernel
theorem dX12_bookLine_14 : decode cX12_bookLine 14 = .ok (.ifCond .eq 7, 3) := by decide +kernel
theorem dX12_bookLine_17 : decode cX12_bookLine 17 = .ok (.iconst 1, 1) := by decide +kernel
theorem dX12_bookLine_18 : decode cX12_bookLine 18 = .ok (.goto 46, 3) := by decide +kernel
theorem dX12_bookLine_21 : decode cX12_bookLine 21 = .ok (.aload_n 0, 1) := by decide +kernel
theorem dX12_bookLine_22 : decode cX12_bookLine 22 = .ok (.ldc2_w 109, 3) := by decide +kernel
theorem dX12_bookLine_25 : decode cX12_bookLine 25 = .ok (.invokevirtual 206, 3) := by decide +kernel
theorem dX12_bookLine_28 : decode cX12_bookLine 28 = .ok (.ifCond .eq 7, 3) := by decide +kernel
theorem dX12_bookLine_31 : decode cX12_bookLine 31 = .ok (.iconst 2, 1) := by decide +kernel
theorem dX12_bookLine_32 : decode cX12_bookLine 32 = .ok (.goto 32, 3) := by decide +kernel
theorem dX12_bookLine_35 : decode cX12_bookLine 35 = .ok (.aload_n 0, 1) := by decide +kernel
theorem dX12_bookLine_36 : decode cX12_bookLine 36 = .ok (.ldc2_w 111, 3) := by decide +kernel
theorem dX12_bookLine_39 : decode cX12_bookLine 39 = .ok (.invokevirtual 206, 3) := by decide +kernel
theorem dX12_bookLine_42 : decode cX12_bookLine 42 = .ok (.ifCond .eq 7, 3) := by decide +kernel
theorem dX12_bookLine_45 : decode cX12_bookLine 45 = .ok (.iconst 3, 1) := by decide +kernel
theorem dX12_bookLine_46 : decode cX12_bookLine 46 = .ok (.goto 18, 3) := by decide +kernel
theorem dX12_bookLine_49 : decode cX12_bookLine 49 = .ok (.aload_n 0, 1) := by decide +kernel
theorem dX12_bookLine_50 : decode cX12_bookLine 50 = .ok (.ldc2_w 113, 3) := by decide +kernel
theorem dX12_bookLine_53 : decode cX12_bookLine 53 = .ok (.invokevirtual 206, 3) := by decide +kernel
theorem dX12_bookLine_56 : decode cX12_bookLine 56 = .ok (.ifCond .eq 7, 3) := by decide +kernel
theorem dX12_bookLine_59 : decode cX12_bookLine 59 = .ok (.iconst 4, 1) := by decide +kernel
theorem dX12_bookLine_60 : decode cX12_bookLine 60 = .ok (.goto 4, 3) := by decide +kernel
theorem dX12_bookLine_63 : decode cX12_bookLine 63 = .ok (.iconst 0, 1) := by decide +kernel
theorem dX12_bookLine_64 : decode cX12_bookLine 64 = .ok (.istore_n 2, 1) := by decide +kernel
theorem dX12_bookLine_65 : decode cX12_bookLine 65 = .ok (.iload_n 2, 1) := by decide +kernel
theorem dX12_bookLine_66 : decode cX12_bookLine 66 = .ok (.ifCond .ne 20, 3) := by decide +kernel
theorem dX12_bookLine_69 : decode cX12_bookLine 69 = .ok (.aload_n 0, 1) := by decide +kernel
theorem dX12_bookLine_70 : decode cX12_bookLine 70 = .ok (.bipush 6, 2) := by decide +kernel
theorem dX12_bookLine_72 : decode cX12_bookLine 72 = .ok (.aload_n 0, 1) := by decide +kernel
theorem dX12_bookLine_73 : decode cX12_bookLine 73 = .ok (.getfield 33, 3) := by decide +kernel
theorem dX12_bookLine_76 : decode cX12_bookLine 76 = .ok (.iconst 1, 1) := by decide +kernel
theorem dX12_bookLine_77 : decode cX12_bookLine 77 = .ok (.iaload, 1) := by decide +kernel
theorem dX12_bookLine_78 : decode cX12_bookLine 78 = .ok (.invokevirtual 203, 3) := by decide +kernel
theorem dX12_bookLine_81 : decode cX12_bookLine 81 = .ok (.ifCond .ne 5, 3) := by decide +kernel
theorem dX12_bookLine_84 : decode cX12_bookLine 84 = .ok (.iconst 0, 1) := by decide +kernel
theorem dX12_bookLine_85 : decode cX12_bookLine 85 = .ok (.ireturn, 1) := by decide +kernel
theorem dX12_bookLine_86 : decode cX12_bookLine 86 = .ok (.aload_n 0, 1) := by decide +kernel
theorem dX12_bookLine_87 : decode cX12_bookLine 87 = .ok (.getfield 395, 3) := by decide +kernel
theorem dX12_bookLine_90 : decode cX12_bookLine 90 = .ok (.bipush 40, 2) := by decide +kernel
theorem dX12_bookLine_92 : decode cX12_bookLine 92 = .ok (.if_icmp .ne 9, 3) := by decide +kernel
theorem dX12_bookLine_95 : decode cX12_bookLine 95 = .ok (.aload_n 0, 1) := by decide +kernel
theorem dX12_bookLine_96 : decode cX12_bookLine 96 = .ok (.iconst 4, 1) := by decide +kernel
theorem dX12_bookLine_97 : decode cX12_bookLine 97 = .ok (.invokevirtual 178, 3) := by decide +kernel
theorem dX12_bookLine_100 : decode cX12_bookLine 100 = .ok (.ireturn, 1) := by decide +kernel
theorem dX12_bookLine_101 : decode cX12_bookLine 101 = .ok (.aload_n 0, 1) := by decide +kernel
theorem dX12_bookLine_102 : decode cX12_bookLine 102 = .ok (.getfield 188, 3) := by decide +kernel
theorem dX12_bookLine_105 : decode cX12_bookLine 105 = .ok (.istore_n 3, 1) := by decide +kernel
theorem dX12_bookLine_106 : decode cX12_bookLine 106 = .ok (.aload_n 0, 1) := by decide +kernel
theorem dX12_bookLine_107 : decode cX12_bookLine 107 = .ok (.invokevirtual 181, 3) := by decide +kernel
theorem dX12_bookLine_110 : decode cX12_bookLine 110 = .ok (.aload_n 0, 1) := by decide +kernel
theorem dX12_bookLine_111 : decode cX12_bookLine 111 = .ok (.getfield 40, 3) := by decide +kernel
theorem dX12_bookLine_114 : decode cX12_bookLine 114 = .ok (.iload_n 1, 1) := by decide +kernel
theorem dX12_bookLine_115 : decode cX12_bookLine 115 = .ok (.iload_n 2, 1) := by decide +kernel
theorem dX12_bookLine_116 : decode cX12_bookLine 116 = .ok (.iastore, 1) := by decide +kernel
theorem dX12_bookLine_117 : decode cX12_bookLine 117 = .ok (.aload_n 0, 1) := by decide +kernel
theorem dX12_bookLine_118 : decode cX12_bookLine 118 = .ok (.getfield 40, 3) := by decide +kernel
theorem dX12_bookLine_121 : decode cX12_bookLine 121 = .ok (.iload_n 1, 1) := by decide +kernel
theorem dX12_bookLine_122 : decode cX12_bookLine 122 = .ok (.iconst 1, 1) := by decide +kernel
theorem dX12_bookLine_123 : decode cX12_bookLine 123 = .ok (.iadd, 1) := by decide +kernel
theorem dX12_bookLine_124 : decode cX12_bookLine 124 = .ok (.iload_n 3, 1) := by decide +kernel
theorem dX12_bookLine_125 : decode cX12_bookLine 125 = .ok (.iastore, 1) := by decide +kernel
theorem dX12_bookLine_126 : decode cX12_bookLine 126 = .ok (.iload_n 2, 1) := by decide +kernel
theorem dX12_bookLine_127 : decode cX12_bookLine 127 = .ok (.ifCond .ne 53, 3) := by decide +kernel
theorem dX12_bookLine_130 : decode cX12_bookLine 130 = .ok (.aload_n 0, 1) := by decide +kernel
theorem dX12_bookLine_131 : decode cX12_bookLine 131 = .ok (.ldc2_w 105, 3) := by decide +kernel
theorem dX12_bookLine_134 : decode cX12_bookLine 134 = .ok (.invokevirtual 206, 3) := by decide +kernel
theorem dX12_bookLine_137 : decode cX12_bookLine 137 = .ok (.ifCond .ne 9, 3) := by decide +kernel
theorem dX12_bookLine_140 : decode cX12_bookLine 140 = .ok (.aload_n 0, 1) := by decide +kernel
theorem dX12_bookLine_141 : decode cX12_bookLine 141 = .ok (.iconst 1, 1) := by decide +kernel
theorem dX12_bookLine_142 : decode cX12_bookLine 142 = .ok (.invokevirtual 178, 3) := by decide +kernel
theorem dX12_bookLine_145 : decode cX12_bookLine 145 = .ok (.ireturn, 1) := by decide +kernel
theorem dX12_bookLine_146 : decode cX12_bookLine 146 = .ok (.aload_n 0, 1) := by decide +kernel
theorem dX12_bookLine_147 : decode cX12_bookLine 147 = .ok (.invokevirtual 181, 3) := by decide +kernel
theorem dX12_bookLine_150 : decode cX12_bookLine 150 = .ok (.aload_n 0, 1) := by decide +kernel
theorem dX12_bookLine_151 : decode cX12_bookLine 151 = .ok (.iconst 0, 1) := by decide +kernel
theorem dX12_bookLine_152 : decode cX12_bookLine 152 = .ok (.aload_n 0, 1) := by decide +kernel
theorem dX12_bookLine_153 : decode cX12_bookLine 153 = .ok (.getfield 33, 3) := by decide +kernel
theorem dX12_bookLine_156 : decode cX12_bookLine 156 = .ok (.iconst 0, 1) := by decide +kernel
theorem dX12_bookLine_157 : decode cX12_bookLine 157 = .ok (.iaload, 1) := by decide +kernel
theorem dX12_bookLine_158 : decode cX12_bookLine 158 = .ok (.invokevirtual 232, 3) := by decide +kernel
theorem dX12_bookLine_161 : decode cX12_bookLine 161 = .ok (.ifCond .ne 5, 3) := by decide +kernel
theorem dX12_bookLine_164 : decode cX12_bookLine 164 = .ok (.iconst 0, 1) := by decide +kernel
theorem dX12_bookLine_165 : decode cX12_bookLine 165 = .ok (.ireturn, 1) := by decide +kernel
theorem dX12_bookLine_166 : decode cX12_bookLine 166 = .ok (.aload_n 0, 1) := by decide +kernel
theorem dX12_bookLine_167 : decode cX12_bookLine 167 = .ok (.getfield 40, 3) := by decide +kernel
theorem dX12_bookLine_170 : decode cX12_bookLine 170 = .ok (.iload_n 1, 1) := by decide +kernel
theorem dX12_bookLine_171 : decode cX12_bookLine 171 = .ok (.iconst 2, 1) := by decide +kernel
theorem dX12_bookLine_172 : decode cX12_bookLine 172 = .ok (.iadd, 1) := by decide +kernel
theorem dX12_bookLine_173 : decode cX12_bookLine 173 = .ok (.aload_n 0, 1) := by decide +kernel
theorem dX12_bookLine_174 : decode cX12_bookLine 174 = .ok (.getfield 188, 3) := by decide +kernel
theorem dX12_bookLine_177 : decode cX12_bookLine 177 = .ok (.iastore, 1) := by decide +kernel
theorem dX12_bookLine_178 : decode cX12_bookLine 178 = .ok (.iconst 1, 1) := by decide +kernel
theorem dX12_bookLine_179 : decode cX12_bookLine 179 = .ok (.ireturn, 1) := by decide +kernel
theorem dX12_bookLine_180 : decode cX12_bookLine 180 = .ok (.iload_n 2, 1) := by decide +kernel
theorem dX12_bookLine_181 : decode cX12_bookLine 181 = .ok (.iconst 4, 1) := by decide +kernel
theorem dX12_bookLine_182 : decode cX12_bookLine 182 = .ok (.if_icmp .ne 14, 3) := by decide +kernel
theorem dX12_bookLine_185 : decode cX12_bookLine 185 = .ok (.aload_n 0, 1) := by decide +kernel
theorem dX12_bookLine_186 : decode cX12_bookLine 186 = .ok (.iconst 1, 1) := by decide +kernel
theorem dX12_bookLine_187 : decode cX12_bookLine 187 = .ok (.sipush 999, 3) := by decide +kernel
theorem dX12_bookLine_190 : decode cX12_bookLine 190 = .ok (.invokevirtual 191, 3) := by decide +kernel
theorem dX12_bookLine_193 : decode cX12_bookLine 193 = .ok (.goto 34, 3) := by decide +kernel
theorem dX12_bookLine_196 : decode cX12_bookLine 196 = .ok (.iload_n 2, 1) := by decide +kernel
theorem dX12_bookLine_197 : decode cX12_bookLine 197 = .ok (.iconst 3, 1) := by decide +kernel
theorem dX12_bookLine_198 : decode cX12_bookLine 198 = .ok (.if_icmp .ne 18, 3) := by decide +kernel
theorem dX12_bookLine_201 : decode cX12_bookLine 201 = .ok (.aload_n 0, 1) := by decide +kernel
theorem dX12_bookLine_202 : decode cX12_bookLine 202 = .ok (.bipush 12, 2) := by decide +kernel
theorem dX12_bookLine_204 : decode cX12_bookLine 204 = .ok (.aload_n 0, 1) := by decide +kernel
theorem dX12_bookLine_205 : decode cX12_bookLine 205 = .ok (.getfield 33, 3) := by decide +kernel
theorem dX12_bookLine_208 : decode cX12_bookLine 208 = .ok (.iconst 2, 1) := by decide +kernel
theorem dX12_bookLine_209 : decode cX12_bookLine 209 = .ok (.iaload, 1) := by decide +kernel
theorem dX12_bookLine_210 : decode cX12_bookLine 210 = .ok (.invokevirtual 232, 3) := by decide +kernel
theorem dX12_bookLine_213 : decode cX12_bookLine 213 = .ok (.goto 14, 3) := by decide +kernel
theorem dX12_bookLine_216 : decode cX12_bookLine 216 = .ok (.aload_n 0, 1) := by decide +kernel
theorem dX12_bookLine_217 : decode cX12_bookLine 217 = .ok (.iconst 0, 1) := by decide +kernel
theorem dX12_bookLine_218 : decode cX12_bookLine 218 = .ok (.aload_n 0, 1) := by decide +kernel
theorem dX12_bookLine_219 : decode cX12_bookLine 219 = .ok (.getfield 33, 3) := by decide +kernel
theorem dX12_bookLine_222 : decode cX12_bookLine 222 = .ok (.iconst 0, 1) := by decide +kernel
theorem dX12_bookLine_223 : decode cX12_bookLine 223 = .ok (.iaload, 1) := by decide +kernel
theorem dX12_bookLine_224 : decode cX12_bookLine 224 = .ok (.invokevirtual 232, 3) := by decide +kernel
theorem dX12_bookLine_227 : decode cX12_bookLine 227 = .ok (.istore 4, 2) := by decide +kernel
theorem dX12_bookLine_229 : decode cX12_bookLine 229 = .ok (.aload_n 0, 1) := by decide +kernel
theorem dX12_bookLine_230 : decode cX12_bookLine 230 = .ok (.getfield 40, 3) := by decide +kernel
theorem dX12_bookLine_233 : decode cX12_bookLine 233 = .ok (.iload_n 1, 1) := by decide +kernel
theorem dX12_bookLine_234 : decode cX12_bookLine 234 = .ok (.iconst 1, 1) := by decide +kernel
theorem dX12_bookLine_235 : decode cX12_bookLine 235 = .ok (.iadd, 1) := by decide +kernel
theorem dX12_bookLine_236 : decode cX12_bookLine 236 = .ok (.aload_n 0, 1) := by decide +kernel
theorem dX12_bookLine_237 : decode cX12_bookLine 237 = .ok (.getfield 188, 3) := by decide +kernel
theorem dX12_bookLine_240 : decode cX12_bookLine 240 = .ok (.iastore, 1) := by decide +kernel
theorem dX12_bookLine_241 : decode cX12_bookLine 241 = .ok (.iload 4, 2) := by decide +kernel
theorem dX12_bookLine_243 : decode cX12_bookLine 243 = .ok (.ifCond .eq 8, 3) := by decide +kernel
theorem dX12_bookLine_246 : decode cX12_bookLine 246 = .ok (.iload_n 2, 1) := by decide +kernel
theorem dX12_bookLine_247 : decode cX12_bookLine 247 = .ok (.iconst 3, 1) := by decide +kernel
theorem dX12_bookLine_248 : decode cX12_bookLine 248 = .ok (.if_icmp .eq 6, 3) := by decide +kernel
theorem dX12_bookLine_251 : decode cX12_bookLine 251 = .ok (.iload 4, 2) := by decide +kernel
theorem dX12_bookLine_253 : decode cX12_bookLine 253 = .ok (.ireturn, 1) := by decide +kernel
theorem dX12_bookLine_254 : decode cX12_bookLine 254 = .ok (.aload_n 0, 1) := by decide +kernel
theorem dX12_bookLine_255 : decode cX12_bookLine 255 = .ok (.iconst 0, 1) := by decide +kernel
theorem dX12_bookLine_256 : decode cX12_bookLine 256 = .ok (.sipush 999, 3) := by decide +kernel
theorem dX12_bookLine_259 : decode cX12_bookLine 259 = .ok (.invokevirtual 191, 3) := by decide +kernel
theorem dX12_bookLine_262 : decode cX12_bookLine 262 = .ok (.istore 4, 2) := by decide +kernel
theorem dX12_bookLine_264 : decode cX12_bookLine 264 = .ok (.aload_n 0, 1) := by decide +kernel
theorem dX12_bookLine_265 : decode cX12_bookLine 265 = .ok (.getfield 40, 3) := by decide +kernel
theorem dX12_bookLine_268 : decode cX12_bookLine 268 = .ok (.iload_n 1, 1) := by decide +kernel
theorem dX12_bookLine_269 : decode cX12_bookLine 269 = .ok (.iconst 2, 1) := by decide +kernel
theorem dX12_bookLine_270 : decode cX12_bookLine 270 = .ok (.iadd, 1) := by decide +kernel
theorem dX12_bookLine_271 : decode cX12_bookLine 271 = .ok (.aload_n 0, 1) := by decide +kernel
theorem dX12_bookLine_272 : decode cX12_bookLine 272 = .ok (.getfield 188, 3) := by decide +kernel
theorem dX12_bookLine_275 : decode cX12_bookLine 275 = .ok (.iastore, 1) := by decide +kernel
theorem dX12_bookLine_276 : decode cX12_bookLine 276 = .ok (.iload 4, 2) := by decide +kernel
theorem dX12_bookLine_278 : decode cX12_bookLine 278 = .ok (.ireturn, 1) := by decide +kernel
set_option maxRecDepth 20000 in
theorem ggX12_does_X12_whySet : GoodIn wsX12_does wsX12_whySet := goodIn_r _ [6, 7, 8, 9, 5, 10, 1, 11, 12, 13, 14, 15, 16, 17, 61, 62, 63, 64, 65, 66, 67, 68, 69, 70, 71, 72, 73, 74, 75, 76, 77, 78, 79, 80, 81, 82, 83, 84, 85, 86, 87, 88, 89, 90, 91, 92, 93, 94, 95, 96, 97, 98, 99, 100, 101, 102, 103, 104, 105, 106] (by decide +kernel) (by decide +kernel)
set_option maxRecDepth 20000 in
theorem gX12_does_X12_whySet : GoodIn wsX12_does (wsV RX12 304 RX12 yX12_whySet wsX12_whySet) := goodIn_app (goodIn_of _ (by decide +kernel)) ggX12_does_X12_whySet
set_option maxRecDepth 20000 in
theorem ggX12_does_X12_runsFrom : GoodIn wsX12_does wsX12_runsFrom := goodIn_r _ [21, 1, 61, 62, 63, 64, 65, 66, 67, 68, 69, 70, 71, 72, 73, 74, 75, 76, 77, 78, 79, 80, 81, 82, 83, 84, 85, 86, 87, 88, 89, 90, 91, 92, 93, 94, 95, 96, 97, 98, 99, 100, 101, 102, 103, 104, 105, 106] (by decide +kernel) (by decide +kernel)
set_option maxRecDepth 20000 in
theorem gX12_does_X12_runsFrom : GoodIn wsX12_does (wsV RX12 310 RX12 yX12_runsFrom wsX12_runsFrom) := goodIn_app (goodIn_of _ (by decide +kernel)) ggX12_does_X12_runsFrom
set_option maxRecDepth 20000 in
theorem ggX12_does_X12_isStopped : GoodIn wsX12_does wsX12_isStopped := goodIn_r _ [17, 1, 11, 12, 5, 13, 61, 62, 63, 64, 65, 66, 67, 68, 69, 70, 71, 72, 73, 74, 75, 76, 77, 78, 79, 80, 81, 82, 83, 84, 85, 86, 87, 88, 89, 90, 91, 92, 93, 94, 95, 96, 97, 98, 99, 100, 101, 102, 103, 104, 105, 106] (by decide +kernel) (by decide +kernel)
set_option maxRecDepth 20000 in
theorem gX12_does_X12_isStopped : GoodIn wsX12_does (wsV RX12 253 RX12 yX12_isStopped wsX12_isStopped) := goodIn_app (goodIn_of _ (by decide +kernel)) ggX12_does_X12_isStopped
set_option maxRecDepth 20000 in
theorem ggX12_does_X12_stops : GoodIn wsX12_does wsX12_stops := goodIn_r _ [25, 1, 26, 27, 28, 5, 29, 14, 15, 16, 17, 11, 12, 13, 61, 62, 63, 64, 65, 66, 67, 68, 69, 70, 71, 72, 73, 74, 75, 76, 77, 78, 79, 80, 81, 82, 83, 84, 85, 86, 87, 88, 89, 90, 91, 92, 93, 94, 95, 96, 97, 98, 99, 100, 101, 102, 103, 104, 105, 106] (by decide +kernel) (by decide +kernel)
set_option maxRecDepth 20000 in
theorem gX12_does_X12_stops : GoodIn wsX12_does (wsV RX12 313 RX12 yX12_stops wsX12_stops) := goodIn_app (goodIn_of _ (by decide +kernel)) ggX12_does_X12_stops
set_option maxRecDepth 20000 in
theorem ggX12_does_X12_wrongBy : GoodIn wsX12_does wsX12_wrongBy := goodIn_r _ [33, 1, 26, 27, 28, 5, 29, 14, 15, 16, 17, 11, 12, 13, 61, 62, 63, 64, 65, 66, 67, 68, 69, 70, 71, 72, 73, 74, 75, 76, 77, 78, 79, 80, 81, 82, 83, 84, 85, 86, 87, 88, 89, 90, 91, 92, 93, 94, 95, 96, 97, 98, 99, 100, 101, 102, 103, 104, 105, 106] (by decide +kernel) (by decide +kernel)
set_option maxRecDepth 20000 in
theorem gX12_does_X12_wrongBy : GoodIn wsX12_does (wsV RX12 272 RX12 yX12_wrongBy wsX12_wrongBy) := goodIn_app (goodIn_of _ (by decide +kernel)) ggX12_does_X12_wrongBy
set_option maxRecDepth 20000 in
theorem ggX12_does_X12_whyMove : GoodIn wsX12_does wsX12_whyMove := goodIn_r _ [37, 1, 38, 39, 40, 5, 41, 61, 62, 63, 64, 65, 66, 67, 68, 69, 70, 71, 72, 73, 74, 75, 76, 77, 78, 79, 80, 81, 82, 83, 84, 85, 86, 87, 88, 89, 90, 91, 92, 93, 94, 95, 96, 97, 98, 99, 100, 101, 102, 103, 104, 105, 106] (by decide +kernel) (by decide +kernel)
set_option maxRecDepth 20000 in
theorem gX12_does_X12_whyMove : GoodIn wsX12_does (wsV RX12 316 RX12 yX12_whyMove wsX12_whyMove) := goodIn_app (goodIn_of _ (by decide +kernel)) ggX12_does_X12_whyMove
set_option maxRecDepth 20000 in
theorem ggX12_does_X12_goesOn : GoodIn wsX12_does wsX12_goesOn := goodIn_r _ [45, 1, 46, 47, 48, 5, 49, 50, 51, 52, 53, 11, 12, 13, 54, 55, 56, 57, 7, 8, 9, 10, 26, 27, 28, 29, 14, 15, 16, 17, 58, 59, 60, 61, 62, 63, 64, 65, 66, 67, 68, 69, 70, 71, 72, 73, 74, 75, 76, 77, 78, 79, 80, 81, 82, 83, 84, 85, 86, 87, 88, 89, 90, 91, 92, 93, 94, 95, 96, 97, 98, 99, 100, 101, 102, 103, 104, 105, 106] (by decide +kernel) (by decide +kernel)
set_option maxRecDepth 20000 in
theorem gX12_does_X12_goesOn : GoodIn wsX12_does (wsV RX12 319 RX12 yX12_goesOn wsX12_goesOn) := goodIn_app (goodIn_of _ (by decide +kernel)) ggX12_does_X12_goesOn
theorem dX12_does_0 : decode cX12_does 0 = .ok (.iconst 0, 1) := by decide +kernel
theorem dX12_does_1 : decode cX12_does 1 = .ok (.istore 4, 2) := by decide +kernel
theorem dX12_does_3 : decode cX12_does 3 = .ok (.iload_n 1, 1) := by decide +kernel
theorem dX12_does_4 : decode cX12_does 4 = .ok (.tableswitch 150 0 3 #[32, 63, 91, 124], 32) := by decide +kernel
theorem dX12_does_36 : decode cX12_does 36 = .ok (.aload_n 0, 1) := by decide +kernel
theorem dX12_does_37 : decode cX12_does 37 = .ok (.iload_n 2, 1) := by decide +kernel
theorem dX12_does_38 : decode cX12_does 38 = .ok (.iload_n 3, 1) := by decide +kernel
theorem dX12_does_39 : decode cX12_does 39 = .ok (.invokevirtual 304, 3) := by decide +kernel
theorem dX12_does_42 : decode cX12_does 42 = .ok (.istore 4, 2) := by decide +kernel
theorem dX12_does_44 : decode cX12_does 44 = .ok (.iload 4, 2) := by decide +kernel
theorem dX12_does_46 : decode cX12_does 46 = .ok (.ifCond .ne 141, 3) := by decide +kernel
theorem dX12_does_49 : decode cX12_does 49 = .ok (.aload_n 0, 1) := by decide +kernel
theorem dX12_does_50 : decode cX12_does 50 = .ok (.iload_n 3, 1) := by decide +kernel
theorem dX12_does_51 : decode cX12_does 51 = .ok (.aload_n 0, 1) := by decide +kernel
theorem dX12_does_52 : decode cX12_does 52 = .ok (.getfield 33, 3) := by decide +kernel
theorem dX12_does_55 : decode cX12_does 55 = .ok (.bipush 28, 2) := by decide +kernel
theorem dX12_does_57 : decode cX12_does 57 = .ok (.iload_n 2, 1) := by decide +kernel
theorem dX12_does_58 : decode cX12_does 58 = .ok (.iadd, 1) := by decide +kernel
theorem dX12_does_59 : decode cX12_does 59 = .ok (.iaload, 1) := by decide +kernel
theorem dX12_does_60 : decode cX12_does 60 = .ok (.ineg, 1) := by decide +kernel
theorem dX12_does_61 : decode cX12_does 61 = .ok (.invokevirtual 310, 3) := by decide +kernel
theorem dX12_does_64 : decode cX12_does 64 = .ok (.goto 123, 3) := by decide +kernel
theorem dX12_does_67 : decode cX12_does 67 = .ok (.aload_n 0, 1) := by decide +kernel
theorem dX12_does_68 : decode cX12_does 68 = .ok (.iload_n 2, 1) := by decide +kernel
theorem dX12_does_69 : decode cX12_does 69 = .ok (.invokevirtual 253, 3) := by decide +kernel
theorem dX12_does_72 : decode cX12_does 72 = .ok (.ifCond .eq 7, 3) := by decide +kernel
theorem dX12_does_75 : decode cX12_does 75 = .ok (.iconst 1, 1) := by decide +kernel
theorem dX12_does_76 : decode cX12_does 76 = .ok (.goto 4, 3) := by decide +kernel
theorem dX12_does_79 : decode cX12_does 79 = .ok (.iconst 0, 1) := by decide +kernel
theorem dX12_does_80 : decode cX12_does 80 = .ok (.istore 4, 2) := by decide +kernel
theorem dX12_does_82 : decode cX12_does 82 = .ok (.iload 4, 2) := by decide +kernel
theorem dX12_does_84 : decode cX12_does 84 = .ok (.ifCond .ne 103, 3) := by decide +kernel
theorem dX12_does_87 : decode cX12_does 87 = .ok (.aload_n 0, 1) := by decide +kernel
theorem dX12_does_88 : decode cX12_does 88 = .ok (.iload_n 2, 1) := by decide +kernel
theorem dX12_does_89 : decode cX12_does 89 = .ok (.invokevirtual 313, 3) := by decide +kernel
theorem dX12_does_92 : decode cX12_does 92 = .ok (.goto 95, 3) := by decide +kernel
theorem dX12_does_95 : decode cX12_does 95 = .ok (.aload_n 0, 1) := by decide +kernel
theorem dX12_does_96 : decode cX12_does 96 = .ok (.iload_n 2, 1) := by decide +kernel
theorem dX12_does_97 : decode cX12_does 97 = .ok (.invokevirtual 253, 3) := by decide +kernel
theorem dX12_does_100 : decode cX12_does 100 = .ok (.ifCond .eq 7, 3) := by decide +kernel
theorem dX12_does_103 : decode cX12_does 103 = .ok (.iconst 0, 1) := by decide +kernel
theorem dX12_does_104 : decode cX12_does 104 = .ok (.goto 4, 3) := by decide +kernel
theorem dX12_does_107 : decode cX12_does 107 = .ok (.iconst 1, 1) := by decide +kernel
theorem dX12_does_108 : decode cX12_does 108 = .ok (.istore 4, 2) := by decide +kernel
theorem dX12_does_110 : decode cX12_does 110 = .ok (.iload 4, 2) := by decide +kernel
theorem dX12_does_112 : decode cX12_does 112 = .ok (.ifCond .ne 75, 3) := by decide +kernel
theorem dX12_does_115 : decode cX12_does 115 = .ok (.aload_n 0, 1) := by decide +kernel
theorem dX12_does_116 : decode cX12_does 116 = .ok (.iload_n 2, 1) := by decide +kernel
theorem dX12_does_117 : decode cX12_does 117 = .ok (.aload_n 0, 1) := by decide +kernel
theorem dX12_does_118 : decode cX12_does 118 = .ok (.iload_n 2, 1) := by decide +kernel
theorem dX12_does_119 : decode cX12_does 119 = .ok (.invokevirtual 272, 3) := by decide +kernel
theorem dX12_does_122 : decode cX12_does 122 = .ok (.invokevirtual 310, 3) := by decide +kernel
theorem dX12_does_125 : decode cX12_does 125 = .ok (.goto 62, 3) := by decide +kernel
theorem dX12_does_128 : decode cX12_does 128 = .ok (.aload_n 0, 1) := by decide +kernel
theorem dX12_does_129 : decode cX12_does 129 = .ok (.iload_n 2, 1) := by decide +kernel
theorem dX12_does_130 : decode cX12_does 130 = .ok (.iload_n 3, 1) := by decide +kernel
theorem dX12_does_131 : decode cX12_does 131 = .ok (.invokevirtual 316, 3) := by decide +kernel
theorem dX12_does_134 : decode cX12_does 134 = .ok (.istore 4, 2) := by decide +kernel
theorem dX12_does_136 : decode cX12_does 136 = .ok (.iload 4, 2) := by decide +kernel
theorem dX12_does_138 : decode cX12_does 138 = .ok (.ifCond .ne 49, 3) := by decide +kernel
theorem dX12_does_141 : decode cX12_does 141 = .ok (.aload_n 0, 1) := by decide +kernel
theorem dX12_does_142 : decode cX12_does 142 = .ok (.getfield 33, 3) := by decide +kernel
theorem dX12_does_145 : decode cX12_does 145 = .ok (.bipush 75, 2) := by decide +kernel
theorem dX12_does_147 : decode cX12_does 147 = .ok (.iload_n 2, 1) := by decide +kernel
theorem dX12_does_148 : decode cX12_does 148 = .ok (.iadd, 1) := by decide +kernel
theorem dX12_does_149 : decode cX12_does 149 = .ok (.iload_n 3, 1) := by decide +kernel
theorem dX12_does_150 : decode cX12_does 150 = .ok (.iastore, 1) := by decide +kernel
theorem dX12_does_151 : decode cX12_does 151 = .ok (.goto 36, 3) := by decide +kernel
theorem dX12_does_154 : decode cX12_does 154 = .ok (.aload_n 0, 1) := by decide +kernel
theorem dX12_does_155 : decode cX12_does 155 = .ok (.getfield 33, 3) := by decide +kernel
theorem dX12_does_158 : decode cX12_does 158 = .ok (.bipush 52, 2) := by decide +kernel
theorem dX12_does_160 : decode cX12_does 160 = .ok (.iaload, 1) := by decide +kernel
theorem dX12_does_161 : decode cX12_does 161 = .ok (.iload_n 2, 1) := by decide +kernel
theorem dX12_does_162 : decode cX12_does 162 = .ok (.iadd, 1) := by decide +kernel
theorem dX12_does_163 : decode cX12_does 163 = .ok (.sipush 2000, 3) := by decide +kernel
theorem dX12_does_166 : decode cX12_does 166 = .ok (.if_icmp .le 7, 3) := by decide +kernel
theorem dX12_does_169 : decode cX12_does 169 = .ok (.iconst 1, 1) := by decide +kernel
theorem dX12_does_170 : decode cX12_does 170 = .ok (.goto 4, 3) := by decide +kernel
theorem dX12_does_173 : decode cX12_does 173 = .ok (.iconst 0, 1) := by decide +kernel
theorem dX12_does_174 : decode cX12_does 174 = .ok (.istore 4, 2) := by decide +kernel
theorem dX12_does_176 : decode cX12_does 176 = .ok (.iload 4, 2) := by decide +kernel
theorem dX12_does_178 : decode cX12_does 178 = .ok (.ifCond .ne 9, 3) := by decide +kernel
theorem dX12_does_181 : decode cX12_does 181 = .ok (.aload_n 0, 1) := by decide +kernel
theorem dX12_does_182 : decode cX12_does 182 = .ok (.iload_n 2, 1) := by decide +kernel
theorem dX12_does_183 : decode cX12_does 183 = .ok (.invokevirtual 319, 3) := by decide +kernel
theorem dX12_does_186 : decode cX12_does 186 = .ok (.pop, 1) := by decide +kernel
theorem dX12_does_187 : decode cX12_does 187 = .ok (.iload 4, 2) := by decide +kernel
theorem dX12_does_189 : decode cX12_does 189 = .ok (.ifCond .le 13, 3) := by decide +kernel
theorem dX12_does_192 : decode cX12_does 192 = .ok (.bipush 10, 2) := by decide +kernel
theorem dX12_does_194 : decode cX12_does 194 = .ok (.iload_n 1, 1) := by decide +kernel
theorem dX12_does_195 : decode cX12_does 195 = .ok (.imul, 1) := by decide +kernel
theorem dX12_does_196 : decode cX12_does 196 = .ok (.iload 4, 2) := by decide +kernel
theorem dX12_does_198 : decode cX12_does 198 = .ok (.iadd, 1) := by decide +kernel
theorem dX12_does_199 : decode cX12_does 199 = .ok (.goto 4, 3) := by decide +kernel
theorem dX12_does_202 : decode cX12_does 202 = .ok (.iconst 0, 1) := by decide +kernel
theorem dX12_does_203 : decode cX12_does 203 = .ok (.ireturn, 1) := by decide +kernel
set_option maxRecDepth 20000 in
theorem ggX12_book_X12_isIn : GoodIn wsX12_book wsX12_isIn := goodIn_r _ [16] (by decide +kernel) (by decide +kernel)
set_option maxRecDepth 20000 in
theorem gX12_book_X12_isIn : GoodIn wsX12_book (va_wsS RX12 184 yX12_isIn wsX12_isIn) := goodIn_app (goodIn_of _ (by decide +kernel)) ggX12_book_X12_isIn
set_option maxRecDepth 20000 in
theorem ggX12_book_X12_taken : GoodIn wsX12_book wsX12_taken := goodIn_r _ [20, 21, 22, 23, 24, 166, 167, 168, 169, 170, 171, 172, 173, 174, 175, 176, 177, 178, 179, 180, 181, 182, 183, 184, 185, 186, 187, 188, 189, 190, 191, 192, 193, 194, 195, 196, 197, 198, 199, 200, 201, 202, 203, 204, 205, 206, 207, 208, 209, 210, 211] (by decide +kernel) (by decide +kernel)
set_option maxRecDepth 20000 in
theorem gX12_book_X12_taken : GoodIn wsX12_book (wsV RX12 238 RX12 yX12_taken wsX12_taken) := goodIn_app (goodIn_of _ (by decide +kernel)) ggX12_book_X12_taken
set_option maxRecDepth 20000 in
theorem ggX12_book_X12_next : GoodIn wsX12_book wsX12_next := goodIn_r _ [28, 23, 29, 30, 22, 24, 4, 31, 32, 33, 34, 35, 15, 36, 37, 38, 39, 40, 41, 42, 43, 166, 167, 168, 169, 170, 171, 172, 173, 174, 175, 176, 177, 178, 179, 180, 181, 182, 183, 184, 185, 186, 187, 188, 189, 190, 191, 192, 193, 194, 195, 196, 197, 198, 199, 200, 201, 202, 203, 204, 205, 206, 207, 208, 209, 210, 211] (by decide +kernel) (by decide +kernel)
set_option maxRecDepth 20000 in
theorem gX12_book_X12_next : GoodIn wsX12_book (wsV RX12 181 RX12 yX12_next wsX12_next) := goodIn_app (goodIn_of _ (by decide +kernel)) ggX12_book_X12_next
set_option maxRecDepth 20000 in
theorem ggX12_book_X12_bookLine : GoodIn wsX12_book wsX12_bookLine := goodIn_r _ [47, 3, 48, 49, 50, 51, 8, 52, 7, 53, 54, 55, 56, 15, 57, 4, 32, 58, 59, 60, 61, 62, 63, 64, 65, 66, 67, 68, 69, 70, 2, 29, 5, 71, 72, 73, 74, 75, 25, 26, 27, 28, 23, 30, 22, 24, 31, 33, 34, 35, 36, 37, 38, 39, 40, 41, 42, 43, 76, 77, 78, 79, 80, 81, 82, 83, 13, 14, 16, 166, 167, 168, 169, 170, 171, 172, 173, 174, 175, 176, 177, 178, 179, 180, 181, 182, 183, 184, 185, 186, 187, 188, 189, 190, 191, 192, 193, 194, 195, 196, 197, 198, 199, 200, 201, 202, 203, 204, 205, 206, 207, 208, 209, 210, 211] (by decide +kernel) (by decide +kernel)
set_option maxRecDepth 20000 in
theorem gX12_book_X12_bookLine : GoodIn wsX12_book (wsV RX12 398 RX12 yX12_bookLine wsX12_bookLine) := goodIn_app (goodIn_of _ (by decide +kernel)) ggX12_book_X12_bookLine
set_option maxRecDepth 20000 in
theorem ggX12_book_X12_sign : GoodIn wsX12_book wsX12_sign := goodIn_r _ [87, 88, 89, 90, 15, 91, 4, 31, 67, 68, 69, 70, 2, 29, 5, 25, 26, 27, 28, 23, 30, 22, 24, 32, 33, 34, 35, 36, 37, 38, 39, 40, 41, 42, 43, 166, 167, 168, 169, 170, 171, 172, 173, 174, 175, 176, 177, 178, 179, 180, 181, 182, 183, 184, 185, 186, 187, 188, 189, 190, 191, 192, 193, 194, 195, 196, 197, 198, 199, 200, 201, 202, 203, 204, 205, 206, 207, 208, 209, 210, 211] (by decide +kernel) (by decide +kernel)
set_option maxRecDepth 20000 in
theorem gX12_book_X12_sign : GoodIn wsX12_book (wsV RX12 247 RX12 yX12_sign wsX12_sign) := goodIn_app (goodIn_of _ (by decide +kernel)) ggX12_book_X12_sign
set_option maxRecDepth 20000 in
theorem ggX12_book_X12_tries : GoodIn wsX12_book wsX12_tries := goodIn_r _ [95, 12, 8, 166, 167, 168, 169, 170, 171, 172, 173, 174, 175, 176, 177, 178, 179, 180, 181, 182, 183, 184, 185, 186, 187, 188, 189, 190, 191, 192, 193, 194, 195, 196, 197, 198, 199, 200, 201, 202, 203, 204, 205, 206, 207, 208, 209, 210, 211] (by decide +kernel) (by decide +kernel)
set_option maxRecDepth 20000 in
theorem gX12_book_X12_tries : GoodIn wsX12_book (wsV RX12 322 RX12 yX12_tries wsX12_tries) := goodIn_app (goodIn_of _ (by decide +kernel)) ggX12_book_X12_tries
set_option maxRecDepth 20000 in
theorem ggX12_book_X12_does : GoodIn wsX12_book wsX12_does := goodIn_r _ [99, 8, 100, 101, 102, 15, 103, 104, 105, 106, 107, 108, 109, 110, 111, 112, 113, 114, 115, 116, 117, 118, 119, 120, 121, 122, 123, 124, 125, 126, 127, 128, 129, 130, 131, 132, 133, 134, 135, 136, 137, 138, 139, 140, 141, 142, 143, 144, 145, 146, 147, 148, 149, 150, 151, 152, 153, 154, 155, 156, 157, 166, 167, 168, 169, 170, 171, 172, 173, 174, 175, 176, 177, 178, 179, 180, 181, 182, 183, 184, 185, 186, 187, 188, 189, 190, 191, 192, 193, 194, 195, 196, 197, 198, 199, 200, 201, 202, 203, 204, 205, 206, 207, 208, 209, 210, 211] (by decide +kernel) (by decide +kernel)
set_option maxRecDepth 20000 in
theorem gX12_book_X12_does : GoodIn wsX12_book (wsV RX12 401 RX12 yX12_does wsX12_does) := goodIn_app (goodIn_of _ (by decide +kernel)) ggX12_book_X12_does
set_option maxRecDepth 20000 in
theorem ggX12_book_X12_keep : GoodIn wsX12_book wsX12_keep := goodIn_r _ [161, 11, 10, 8, 166, 167, 168, 169, 170, 171, 172, 173, 174, 175, 176, 177, 178, 179, 180, 181, 182, 183, 184, 185, 186, 187, 188, 189, 190, 191, 192, 193, 194, 195, 196, 197, 198, 199, 200, 201, 202, 203, 204, 205, 206, 207, 208, 209, 210, 211] (by decide +kernel) (by decide +kernel)
set_option maxRecDepth 20000 in
theorem gX12_book_X12_keep : GoodIn wsX12_book (wsV RX12 307 RX12 yX12_keep wsX12_keep) := goodIn_app (goodIn_of _ (by decide +kernel)) ggX12_book_X12_keep
set_option maxRecDepth 20000 in
theorem ggX12_book_X12_back : GoodIn wsX12_book wsX12_back := goodIn_r _ [165, 8, 12, 166, 167, 168, 169, 170, 171, 172, 173, 174, 175, 176, 177, 178, 179, 180, 181, 182, 183, 184, 185, 186, 187, 188, 189, 190, 191, 192, 193, 194, 195, 196, 197, 198, 199, 200, 201, 202, 203, 204, 205, 206, 207, 208, 209, 210, 211] (by decide +kernel) (by decide +kernel)
set_option maxRecDepth 20000 in
theorem gX12_book_X12_back : GoodIn wsX12_book (wsV RX12 325 RX12 yX12_back wsX12_back) := goodIn_app (goodIn_of _ (by decide +kernel)) ggX12_book_X12_back
theorem dX12_book_0 : decode cX12_book 0 = .ok (.aload_n 0, 1) := by decide +kernel
theorem dX12_book_1 : decode cX12_book 1 = .ok (.iconst 0, 1) := by decide +kernel
theorem dX12_book_2 : decode cX12_book 2 = .ok (.putfield 1, 3) := by decide +kernel
theorem dX12_book_5 : decode cX12_book 5 = .ok (.iload_n 1, 1) := by decide +kernel
theorem dX12_book_6 : decode cX12_book 6 = .ok (.iconst 0, 1) := by decide +kernel
theorem dX12_book_7 : decode cX12_book 7 = .ok (.iconst 1, 1) := by decide +kernel
theorem dX12_book_8 : decode cX12_book 8 = .ok (.invokestatic 184, 3) := by decide +kernel
theorem dX12_book_11 : decode cX12_book 11 = .ok (.ifCond .ne 7, 3) := by decide +kernel
theorem dX12_book_14 : decode cX12_book 14 = .ok (.sipush (-1000), 3) := by decide +kernel
theorem dX12_book_17 : decode cX12_book 17 = .ok (.ireturn, 1) := by decide +kernel
theorem dX12_book_18 : decode cX12_book 18 = .ok (.aload_n 0, 1) := by decide +kernel
theorem dX12_book_19 : decode cX12_book 19 = .ok (.sipush 400, 3) := by decide +kernel
theorem dX12_book_22 : decode cX12_book 22 = .ok (.invokevirtual 238, 3) := by decide +kernel
theorem dX12_book_25 : decode cX12_book 25 = .ok (.aload_n 0, 1) := by decide +kernel
theorem dX12_book_26 : decode cX12_book 26 = .ok (.iconst 0, 1) := by decide +kernel
theorem dX12_book_27 : decode cX12_book 27 = .ok (.putfield 169, 3) := by decide +kernel
theorem dX12_book_30 : decode cX12_book 30 = .ok (.aload_n 0, 1) := by decide +kernel
theorem dX12_book_31 : decode cX12_book 31 = .ok (.iconst 0, 1) := by decide +kernel
theorem dX12_book_32 : decode cX12_book 32 = .ok (.putfield 395, 3) := by decide +kernel
theorem dX12_book_35 : decode cX12_book 35 = .ok (.aload_n 0, 1) := by decide +kernel
theorem dX12_book_36 : decode cX12_book 36 = .ok (.invokevirtual 181, 3) := by decide +kernel
theorem dX12_book_39 : decode cX12_book 39 = .ok (.aload_n 0, 1) := by decide +kernel
theorem dX12_book_40 : decode cX12_book 40 = .ok (.getfield 152, 3) := by decide +kernel
theorem dX12_book_43 : decode cX12_book 43 = .ok (.ifCond .eq 40, 3) := by decide +kernel
theorem dX12_book_46 : decode cX12_book 46 = .ok (.aload_n 0, 1) := by decide +kernel
theorem dX12_book_47 : decode cX12_book 47 = .ok (.invokevirtual 398, 3) := by decide +kernel
theorem dX12_book_50 : decode cX12_book 50 = .ok (.ifCond .eq 12, 3) := by decide +kernel
theorem dX12_book_53 : decode cX12_book 53 = .ok (.aload_n 0, 1) := by decide +kernel
theorem dX12_book_54 : decode cX12_book 54 = .ok (.bipush 59, 2) := by decide +kernel
theorem dX12_book_56 : decode cX12_book 56 = .ok (.invokevirtual 247, 3) := by decide +kernel
theorem dX12_book_59 : decode cX12_book 59 = .ok (.ifCond .ne 11, 3) := by decide +kernel
theorem dX12_book_62 : decode cX12_book 62 = .ok (.bipush (-2), 2) := by decide +kernel
theorem dX12_book_64 : decode cX12_book 64 = .ok (.aload_n 0, 1) := by decide +kernel
theorem dX12_book_65 : decode cX12_book 65 = .ok (.getfield 172, 3) := by decide +kernel
theorem dX12_book_68 : decode cX12_book 68 = .ok (.isub, 1) := by decide +kernel
theorem dX12_book_69 : decode cX12_book 69 = .ok (.ireturn, 1) := by decide +kernel
theorem dX12_book_70 : decode cX12_book 70 = .ok (.aload_n 0, 1) := by decide +kernel
theorem dX12_book_71 : decode cX12_book 71 = .ok (.dup, 1) := by decide +kernel
theorem dX12_book_72 : decode cX12_book 72 = .ok (.getfield 395, 3) := by decide +kernel
theorem dX12_book_75 : decode cX12_book 75 = .ok (.iconst 1, 1) := by decide +kernel
theorem dX12_book_76 : decode cX12_book 76 = .ok (.iadd, 1) := by decide +kernel
theorem dX12_book_77 : decode cX12_book 77 = .ok (.putfield 395, 3) := by decide +kernel
theorem dX12_book_80 : decode cX12_book 80 = .ok (.goto (-41), 3) := by decide +kernel
theorem dX12_book_83 : decode cX12_book 83 = .ok (.aload_n 0, 1) := by decide +kernel
theorem dX12_book_84 : decode cX12_book 84 = .ok (.invokevirtual 322, 3) := by decide +kernel
theorem dX12_book_87 : decode cX12_book 87 = .ok (.iconst 0, 1) := by decide +kernel
theorem dX12_book_88 : decode cX12_book 88 = .ok (.istore_n 2, 1) := by decide +kernel
theorem dX12_book_89 : decode cX12_book 89 = .ok (.iload_n 2, 1) := by decide +kernel
theorem dX12_book_90 : decode cX12_book 90 = .ok (.iconst 4, 1) := by decide +kernel
theorem dX12_book_91 : decode cX12_book 91 = .ok (.if_icmp .ge 16, 3) := by decide +kernel
theorem dX12_book_94 : decode cX12_book 94 = .ok (.aload_n 0, 1) := by decide +kernel
theorem dX12_book_95 : decode cX12_book 95 = .ok (.getfield 68, 3) := by decide +kernel
theorem dX12_book_98 : decode cX12_book 98 = .ok (.iload_n 2, 1) := by decide +kernel
theorem dX12_book_99 : decode cX12_book 99 = .ok (.iconst 0, 1) := by decide +kernel
theorem dX12_book_100 : decode cX12_book 100 = .ok (.iastore, 1) := by decide +kernel
theorem dX12_book_101 : decode cX12_book 101 = .ok (.iinc 2 1, 3) := by decide +kernel
theorem dX12_book_104 : decode cX12_book 104 = .ok (.goto (-15), 3) := by decide +kernel
theorem dX12_book_107 : decode cX12_book 107 = .ok (.iconst (-1), 1) := by decide +kernel
theorem dX12_book_108 : decode cX12_book 108 = .ok (.istore_n 2, 1) := by decide +kernel
theorem dX12_book_109 : decode cX12_book 109 = .ok (.iconst 0, 1) := by decide +kernel
theorem dX12_book_110 : decode cX12_book 110 = .ok (.istore_n 3, 1) := by decide +kernel
theorem dX12_book_111 : decode cX12_book 111 = .ok (.iload_n 3, 1) := by decide +kernel
theorem dX12_book_112 : decode cX12_book 112 = .ok (.aload_n 0, 1) := by decide +kernel
theorem dX12_book_113 : decode cX12_book 113 = .ok (.getfield 395, 3) := by decide +kernel
theorem dX12_book_116 : decode cX12_book 116 = .ok (.if_icmp .ge 75, 3) := by decide +kernel
theorem dX12_book_119 : decode cX12_book 119 = .ok (.iload_n 2, 1) := by decide +kernel
theorem dX12_book_120 : decode cX12_book 120 = .ok (.ifCond .ge 71, 3) := by decide +kernel
theorem dX12_book_123 : decode cX12_book 123 = .ok (.aload_n 0, 1) := by decide +kernel
theorem dX12_book_124 : decode cX12_book 124 = .ok (.getfield 68, 3) := by decide +kernel
theorem dX12_book_127 : decode cX12_book 127 = .ok (.iconst 0, 1) := by decide +kernel
theorem dX12_book_128 : decode cX12_book 128 = .ok (.aload_n 0, 1) := by decide +kernel
theorem dX12_book_129 : decode cX12_book 129 = .ok (.aload_n 0, 1) := by decide +kernel
theorem dX12_book_130 : decode cX12_book 130 = .ok (.getfield 40, 3) := by decide +kernel
theorem dX12_book_133 : decode cX12_book 133 = .ok (.iconst 3, 1) := by decide +kernel
theorem dX12_book_134 : decode cX12_book 134 = .ok (.iload_n 3, 1) := by decide +kernel
theorem dX12_book_135 : decode cX12_book 135 = .ok (.imul, 1) := by decide +kernel
theorem dX12_book_136 : decode cX12_book 136 = .ok (.iaload, 1) := by decide +kernel
theorem dX12_book_137 : decode cX12_book 137 = .ok (.aload_n 0, 1) := by decide +kernel
theorem dX12_book_138 : decode cX12_book 138 = .ok (.getfield 40, 3) := by decide +kernel
theorem dX12_book_141 : decode cX12_book 141 = .ok (.iconst 3, 1) := by decide +kernel
theorem dX12_book_142 : decode cX12_book 142 = .ok (.iload_n 3, 1) := by decide +kernel
theorem dX12_book_143 : decode cX12_book 143 = .ok (.imul, 1) := by decide +kernel
theorem dX12_book_144 : decode cX12_book 144 = .ok (.iconst 1, 1) := by decide +kernel
theorem dX12_book_145 : decode cX12_book 145 = .ok (.iadd, 1) := by decide +kernel
theorem dX12_book_146 : decode cX12_book 146 = .ok (.iaload, 1) := by decide +kernel
theorem dX12_book_147 : decode cX12_book 147 = .ok (.aload_n 0, 1) := by decide +kernel
theorem dX12_book_148 : decode cX12_book 148 = .ok (.getfield 40, 3) := by decide +kernel
theorem dX12_book_151 : decode cX12_book 151 = .ok (.iconst 3, 1) := by decide +kernel
theorem dX12_book_152 : decode cX12_book 152 = .ok (.iload_n 3, 1) := by decide +kernel
theorem dX12_book_153 : decode cX12_book 153 = .ok (.imul, 1) := by decide +kernel
theorem dX12_book_154 : decode cX12_book 154 = .ok (.iconst 2, 1) := by decide +kernel
theorem dX12_book_155 : decode cX12_book 155 = .ok (.iadd, 1) := by decide +kernel
theorem dX12_book_156 : decode cX12_book 156 = .ok (.iaload, 1) := by decide +kernel
theorem dX12_book_157 : decode cX12_book 157 = .ok (.invokevirtual 401, 3) := by decide +kernel
theorem dX12_book_160 : decode cX12_book 160 = .ok (.iastore, 1) := by decide +kernel
theorem dX12_book_161 : decode cX12_book 161 = .ok (.aload_n 0, 1) := by decide +kernel
theorem dX12_book_162 : decode cX12_book 162 = .ok (.getfield 68, 3) := by decide +kernel
theorem dX12_book_165 : decode cX12_book 165 = .ok (.iconst 0, 1) := by decide +kernel
theorem dX12_book_166 : decode cX12_book 166 = .ok (.iaload, 1) := by decide +kernel
theorem dX12_book_167 : decode cX12_book 167 = .ok (.ifCond .le 8, 3) := by decide +kernel
theorem dX12_book_170 : decode cX12_book 170 = .ok (.iload_n 3, 1) := by decide +kernel
theorem dX12_book_171 : decode cX12_book 171 = .ok (.istore_n 2, 1) := by decide +kernel
theorem dX12_book_172 : decode cX12_book 172 = .ok (.goto 13, 3) := by decide +kernel
theorem dX12_book_175 : decode cX12_book 175 = .ok (.aload_n 0, 1) := by decide +kernel
theorem dX12_book_176 : decode cX12_book 176 = .ok (.getfield 68, 3) := by decide +kernel
theorem dX12_book_179 : decode cX12_book 179 = .ok (.iconst 1, 1) := by decide +kernel
theorem dX12_book_180 : decode cX12_book 180 = .ok (.dup2, 1) := by decide +kernel
theorem dX12_book_181 : decode cX12_book 181 = .ok (.iaload, 1) := by decide +kernel
theorem dX12_book_182 : decode cX12_book 182 = .ok (.iconst 1, 1) := by decide +kernel
theorem dX12_book_183 : decode cX12_book 183 = .ok (.iadd, 1) := by decide +kernel
theorem dX12_book_184 : decode cX12_book 184 = .ok (.iastore, 1) := by decide +kernel
theorem dX12_book_185 : decode cX12_book 185 = .ok (.iinc 3 1, 3) := by decide +kernel
theorem dX12_book_188 : decode cX12_book 188 = .ok (.goto (-77), 3) := by decide +kernel
theorem dX12_book_191 : decode cX12_book 191 = .ok (.aload_n 0, 1) := by decide +kernel
theorem dX12_book_192 : decode cX12_book 192 = .ok (.getfield 68, 3) := by decide +kernel
theorem dX12_book_195 : decode cX12_book 195 = .ok (.iconst 2, 1) := by decide +kernel
theorem dX12_book_196 : decode cX12_book 196 = .ok (.aload_n 0, 1) := by decide +kernel
theorem dX12_book_197 : decode cX12_book 197 = .ok (.getfield 33, 3) := by decide +kernel
theorem dX12_book_200 : decode cX12_book 200 = .ok (.bipush 52, 2) := by decide +kernel
theorem dX12_book_202 : decode cX12_book 202 = .ok (.iaload, 1) := by decide +kernel
theorem dX12_book_203 : decode cX12_book 203 = .ok (.iastore, 1) := by decide +kernel
theorem dX12_book_204 : decode cX12_book 204 = .ok (.aload_n 0, 1) := by decide +kernel
theorem dX12_book_205 : decode cX12_book 205 = .ok (.getfield 68, 3) := by decide +kernel
theorem dX12_book_208 : decode cX12_book 208 = .ok (.iconst 3, 1) := by decide +kernel
theorem dX12_book_209 : decode cX12_book 209 = .ok (.aload_n 0, 1) := by decide +kernel
theorem dX12_book_210 : decode cX12_book 210 = .ok (.getfield 33, 3) := by decide +kernel
theorem dX12_book_213 : decode cX12_book 213 = .ok (.bipush 53, 2) := by decide +kernel
theorem dX12_book_215 : decode cX12_book 215 = .ok (.iaload, 1) := by decide +kernel
theorem dX12_book_216 : decode cX12_book 216 = .ok (.iastore, 1) := by decide +kernel
theorem dX12_book_217 : decode cX12_book 217 = .ok (.aload_n 0, 1) := by decide +kernel
theorem dX12_book_218 : decode cX12_book 218 = .ok (.iconst 1, 1) := by decide +kernel
theorem dX12_book_219 : decode cX12_book 219 = .ok (.putfield 405, 3) := by decide +kernel
theorem dX12_book_222 : decode cX12_book 222 = .ok (.iload_n 1, 1) := by decide +kernel
theorem dX12_book_223 : decode cX12_book 223 = .ok (.iconst 1, 1) := by decide +kernel
theorem dX12_book_224 : decode cX12_book 224 = .ok (.if_icmp .ne 52, 3) := by decide +kernel
theorem dX12_book_227 : decode cX12_book 227 = .ok (.aload_n 0, 1) := by decide +kernel
theorem dX12_book_228 : decode cX12_book 228 = .ok (.getfield 68, 3) := by decide +kernel
theorem dX12_book_231 : decode cX12_book 231 = .ok (.iconst 1, 1) := by decide +kernel
theorem dX12_book_232 : decode cX12_book 232 = .ok (.iaload, 1) := by decide +kernel
theorem dX12_book_233 : decode cX12_book 233 = .ok (.ifCond .le 43, 3) := by decide +kernel
theorem dX12_book_236 : decode cX12_book 236 = .ok (.aload_n 0, 1) := by decide +kernel
theorem dX12_book_237 : decode cX12_book 237 = .ok (.invokevirtual 307, 3) := by decide +kernel
theorem dX12_book_240 : decode cX12_book 240 = .ok (.iconst 0, 1) := by decide +kernel
theorem dX12_book_241 : decode cX12_book 241 = .ok (.istore_n 3, 1) := by decide +kernel
theorem dX12_book_242 : decode cX12_book 242 = .ok (.iload_n 3, 1) := by decide +kernel
theorem dX12_book_243 : decode cX12_book 243 = .ok (.bipush 101, 2) := by decide +kernel
theorem dX12_book_245 : decode cX12_book 245 = .ok (.if_icmp .ge 31, 3) := by decide +kernel
theorem dX12_book_248 : decode cX12_book 248 = .ok (.aload_n 0, 1) := by decide +kernel
theorem dX12_book_249 : decode cX12_book 249 = .ok (.getfield 50, 3) := by decide +kernel
theorem dX12_book_252 : decode cX12_book 252 = .ok (.bipush 101, 2) := by decide +kernel
theorem dX12_book_254 : decode cX12_book 254 = .ok (.aload_n 0, 1) := by decide +kernel
theorem dX12_book_255 : decode cX12_book 255 = .ok (.getfield 250, 3) := by decide +kernel
theorem dX12_book_258 : decode cX12_book 258 = .ok (.iconst 1, 1) := by decide +kernel
theorem dX12_book_259 : decode cX12_book 259 = .ok (.isub, 1) := by decide +kernel
theorem dX12_book_260 : decode cX12_book 260 = .ok (.imul, 1) := by decide +kernel
theorem dX12_book_261 : decode cX12_book 261 = .ok (.iload_n 3, 1) := by decide +kernel
theorem dX12_book_262 : decode cX12_book 262 = .ok (.iadd, 1) := by decide +kernel
theorem dX12_book_263 : decode cX12_book 263 = .ok (.aload_n 0, 1) := by decide +kernel
theorem dX12_book_264 : decode cX12_book 264 = .ok (.getfield 53, 3) := by decide +kernel
theorem dX12_book_267 : decode cX12_book 267 = .ok (.iload_n 3, 1) := by decide +kernel
theorem dX12_book_268 : decode cX12_book 268 = .ok (.iaload, 1) := by decide +kernel
theorem dX12_book_269 : decode cX12_book 269 = .ok (.iastore, 1) := by decide +kernel
theorem dX12_book_270 : decode cX12_book 270 = .ok (.iinc 3 1, 3) := by decide +kernel
theorem dX12_book_273 : decode cX12_book 273 = .ok (.goto (-31), 3) := by decide +kernel
theorem dX12_book_276 : decode cX12_book 276 = .ok (.iload_n 1, 1) := by decide +kernel
theorem dX12_book_277 : decode cX12_book 277 = .ok (.ifCond .ne 7, 3) := by decide +kernel
theorem dX12_book_280 : decode cX12_book 280 = .ok (.aload_n 0, 1) := by decide +kernel
theorem dX12_book_281 : decode cX12_book 281 = .ok (.invokevirtual 325, 3) := by decide +kernel
theorem dX12_book_284 : decode cX12_book 284 = .ok (.iload_n 2, 1) := by decide +kernel
theorem dX12_book_285 : decode cX12_book 285 = .ok (.ireturn, 1) := by decide +kernel
set_option maxRecDepth 20000 in
theorem ggX12_told_X12_isIn : GoodIn wsX12_told wsX12_isIn := goodIn_r _ [7] (by decide +kernel) (by decide +kernel)
set_option maxRecDepth 20000 in
theorem gX12_told_X12_isIn : GoodIn wsX12_told (va_wsS RX12 184 yX12_isIn wsX12_isIn) := goodIn_app (goodIn_of _ (by decide +kernel)) ggX12_told_X12_isIn
theorem dX12_told_0 : decode cX12_told 0 = .ok (.aload_n 0, 1) := by decide +kernel
theorem dX12_told_1 : decode cX12_told 1 = .ok (.iconst 0, 1) := by decide +kernel
theorem dX12_told_2 : decode cX12_told 2 = .ok (.putfield 1, 3) := by decide +kernel
theorem dX12_told_5 : decode cX12_told 5 = .ok (.aload_n 0, 1) := by decide +kernel
theorem dX12_told_6 : decode cX12_told 6 = .ok (.getfield 405, 3) := by decide +kernel
theorem dX12_told_9 : decode cX12_told 9 = .ok (.ifCond .eq 21, 3) := by decide +kernel
theorem dX12_told_12 : decode cX12_told 12 = .ok (.iload_n 1, 1) := by decide +kernel
theorem dX12_told_13 : decode cX12_told 13 = .ok (.iconst 0, 1) := by decide +kernel
theorem dX12_told_14 : decode cX12_told 14 = .ok (.iconst 3, 1) := by decide +kernel
theorem dX12_told_15 : decode cX12_told 15 = .ok (.invokestatic 184, 3) := by decide +kernel
theorem dX12_told_18 : decode cX12_told 18 = .ok (.ifCond .eq 12, 3) := by decide +kernel
theorem dX12_told_21 : decode cX12_told 21 = .ok (.aload_n 0, 1) := by decide +kernel
theorem dX12_told_22 : decode cX12_told 22 = .ok (.getfield 68, 3) := by decide +kernel
theorem dX12_told_25 : decode cX12_told 25 = .ok (.iload_n 1, 1) := by decide +kernel
theorem dX12_told_26 : decode cX12_told 26 = .ok (.iaload, 1) := by decide +kernel
theorem dX12_told_27 : decode cX12_told 27 = .ok (.goto 4, 3) := by decide +kernel
theorem dX12_told_30 : decode cX12_told 30 = .ok (.iconst (-1), 1) := by decide +kernel
theorem dX12_told_31 : decode cX12_told 31 = .ok (.ireturn, 1) := by decide +kernel
theorem dX12_code_0 : decode cX12_code 0 = .ok (.aload_n 0, 1) := by decide +kernel
theorem dX12_code_1 : decode cX12_code 1 = .ok (.getfield 40, 3) := by decide +kernel
theorem dX12_code_4 : decode cX12_code 4 = .ok (.iconst 3, 1) := by decide +kernel
theorem dX12_code_5 : decode cX12_code 5 = .ok (.aload_n 0, 1) := by decide +kernel
theorem dX12_code_6 : decode cX12_code 6 = .ok (.getfield 408, 3) := by decide +kernel
theorem dX12_code_9 : decode cX12_code 9 = .ok (.imul, 1) := by decide +kernel
theorem dX12_code_10 : decode cX12_code 10 = .ok (.iload_n 1, 1) := by decide +kernel
theorem dX12_code_11 : decode cX12_code 11 = .ok (.iastore, 1) := by decide +kernel
theorem dX12_code_12 : decode cX12_code 12 = .ok (.aload_n 0, 1) := by decide +kernel
theorem dX12_code_13 : decode cX12_code 13 = .ok (.getfield 40, 3) := by decide +kernel
theorem dX12_code_16 : decode cX12_code 16 = .ok (.iconst 3, 1) := by decide +kernel
theorem dX12_code_17 : decode cX12_code 17 = .ok (.aload_n 0, 1) := by decide +kernel
theorem dX12_code_18 : decode cX12_code 18 = .ok (.getfield 408, 3) := by decide +kernel
theorem dX12_code_21 : decode cX12_code 21 = .ok (.imul, 1) := by decide +kernel
theorem dX12_code_22 : decode cX12_code 22 = .ok (.iconst 1, 1) := by decide +kernel
theorem dX12_code_23 : decode cX12_code 23 = .ok (.iadd, 1) := by decide +kernel
theorem dX12_code_24 : decode cX12_code 24 = .ok (.iload_n 2, 1) := by decide +kernel
theorem dX12_code_25 : decode cX12_code 25 = .ok (.iastore, 1) := by decide +kernel
theorem dX12_code_26 : decode cX12_code 26 = .ok (.aload_n 0, 1) := by decide +kernel
theorem dX12_code_27 : decode cX12_code 27 = .ok (.getfield 40, 3) := by decide +kernel
theorem dX12_code_30 : decode cX12_code 30 = .ok (.iconst 3, 1) := by decide +kernel
theorem dX12_code_31 : decode cX12_code 31 = .ok (.aload_n 0, 1) := by decide +kernel
theorem dX12_code_32 : decode cX12_code 32 = .ok (.getfield 408, 3) := by decide +kernel
theorem dX12_code_35 : decode cX12_code 35 = .ok (.imul, 1) := by decide +kernel
theorem dX12_code_36 : decode cX12_code 36 = .ok (.iconst 2, 1) := by decide +kernel
theorem dX12_code_37 : decode cX12_code 37 = .ok (.iadd, 1) := by decide +kernel
theorem dX12_code_38 : decode cX12_code 38 = .ok (.iload_n 3, 1) := by decide +kernel
theorem dX12_code_39 : decode cX12_code 39 = .ok (.iastore, 1) := by decide +kernel
theorem dX12_code_40 : decode cX12_code 40 = .ok (.aload_n 0, 1) := by decide +kernel
theorem dX12_code_41 : decode cX12_code 41 = .ok (.dup, 1) := by decide +kernel
theorem dX12_code_42 : decode cX12_code 42 = .ok (.getfield 408, 3) := by decide +kernel
theorem dX12_code_45 : decode cX12_code 45 = .ok (.iconst 1, 1) := by decide +kernel
theorem dX12_code_46 : decode cX12_code 46 = .ok (.iadd, 1) := by decide +kernel
theorem dX12_code_47 : decode cX12_code 47 = .ok (.putfield 408, 3) := by decide +kernel
theorem dX12_code_50 : decode cX12_code 50 = .ok (.return_, 1) := by decide +kernel
set_option maxRecDepth 20000 in
theorem ggX12_joins_X12_code : GoodIn wsX12_joins wsX12_code := goodIn_r _ [7, 8, 9, 10, 11, 12, 13, 14, 15, 16, 17, 18, 19, 20, 21, 22, 23, 24, 25, 26, 27, 28, 29, 30, 31, 32, 33, 34, 35, 36, 37, 38, 39, 40, 41, 42, 43, 44, 45, 46, 47, 48, 49, 50, 51, 52, 53, 54, 55] (by decide +kernel) (by decide +kernel)
set_option maxRecDepth 20000 in
theorem gX12_joins_X12_code : GoodIn wsX12_joins (wsV RX12 414 RX12 yX12_code wsX12_code) := goodIn_app (goodIn_of _ (by decide +kernel)) ggX12_joins_X12_code
theorem dX12_joins_0 : decode cX12_joins 0 = .ok (.aload_n 0, 1) := by decide +kernel
theorem dX12_joins_1 : decode cX12_joins 1 = .ok (.getfield 411, 3) := by decide +kernel
theorem dX12_joins_4 : decode cX12_joins 4 = .ok (.ifCond .le 69, 3) := by decide +kernel
theorem dX12_joins_7 : decode cX12_joins 7 = .ok (.aload_n 0, 1) := by decide +kernel
theorem dX12_joins_8 : decode cX12_joins 8 = .ok (.getfield 71, 3) := by decide +kernel
theorem dX12_joins_11 : decode cX12_joins 11 = .ok (.aload_n 0, 1) := by decide +kernel
theorem dX12_joins_12 : decode cX12_joins 12 = .ok (.getfield 411, 3) := by decide +kernel
theorem dX12_joins_15 : decode cX12_joins 15 = .ok (.iconst 1, 1) := by decide +kernel
theorem dX12_joins_16 : decode cX12_joins 16 = .ok (.isub, 1) := by decide +kernel
theorem dX12_joins_17 : decode cX12_joins 17 = .ok (.iaload, 1) := by decide +kernel
theorem dX12_joins_18 : decode cX12_joins 18 = .ok (.bipush 21, 2) := by decide +kernel
theorem dX12_joins_20 : decode cX12_joins 20 = .ok (.if_icmp .eq 25, 3) := by decide +kernel
theorem dX12_joins_23 : decode cX12_joins 23 = .ok (.aload_n 0, 1) := by decide +kernel
theorem dX12_joins_24 : decode cX12_joins 24 = .ok (.getfield 71, 3) := by decide +kernel
theorem dX12_joins_27 : decode cX12_joins 27 = .ok (.aload_n 0, 1) := by decide +kernel
theorem dX12_joins_28 : decode cX12_joins 28 = .ok (.getfield 411, 3) := by decide +kernel
theorem dX12_joins_31 : decode cX12_joins 31 = .ok (.iconst 1, 1) := by decide +kernel
theorem dX12_joins_32 : decode cX12_joins 32 = .ok (.isub, 1) := by decide +kernel
theorem dX12_joins_33 : decode cX12_joins 33 = .ok (.iaload, 1) := by decide +kernel
theorem dX12_joins_34 : decode cX12_joins 34 = .ok (.bipush 22, 2) := by decide +kernel
theorem dX12_joins_36 : decode cX12_joins 36 = .ok (.if_icmp .ne 37, 3) := by decide +kernel
theorem dX12_joins_39 : decode cX12_joins 39 = .ok (.iload_n 1, 1) := by decide +kernel
theorem dX12_joins_40 : decode cX12_joins 40 = .ok (.bipush 22, 2) := by decide +kernel
theorem dX12_joins_42 : decode cX12_joins 42 = .ok (.if_icmp .ne 31, 3) := by decide +kernel
theorem dX12_joins_45 : decode cX12_joins 45 = .ok (.aload_n 0, 1) := by decide +kernel
theorem dX12_joins_46 : decode cX12_joins 46 = .ok (.dup, 1) := by decide +kernel
theorem dX12_joins_47 : decode cX12_joins 47 = .ok (.getfield 411, 3) := by decide +kernel
theorem dX12_joins_50 : decode cX12_joins 50 = .ok (.iconst 1, 1) := by decide +kernel
theorem dX12_joins_51 : decode cX12_joins 51 = .ok (.isub, 1) := by decide +kernel
theorem dX12_joins_52 : decode cX12_joins 52 = .ok (.putfield 411, 3) := by decide +kernel
theorem dX12_joins_55 : decode cX12_joins 55 = .ok (.aload_n 0, 1) := by decide +kernel
theorem dX12_joins_56 : decode cX12_joins 56 = .ok (.aload_n 0, 1) := by decide +kernel
theorem dX12_joins_57 : decode cX12_joins 57 = .ok (.getfield 71, 3) := by decide +kernel
theorem dX12_joins_60 : decode cX12_joins 60 = .ok (.aload_n 0, 1) := by decide +kernel
theorem dX12_joins_61 : decode cX12_joins 61 = .ok (.getfield 411, 3) := by decide +kernel
theorem dX12_joins_64 : decode cX12_joins 64 = .ok (.iaload, 1) := by decide +kernel
theorem dX12_joins_65 : decode cX12_joins 65 = .ok (.iconst 0, 1) := by decide +kernel
theorem dX12_joins_66 : decode cX12_joins 66 = .ok (.iconst 0, 1) := by decide +kernel
theorem dX12_joins_67 : decode cX12_joins 67 = .ok (.invokevirtual 414, 3) := by decide +kernel
theorem dX12_joins_70 : decode cX12_joins 70 = .ok (.goto (-70), 3) := by decide +kernel
theorem dX12_joins_73 : decode cX12_joins 73 = .ok (.return_, 1) := by decide +kernel
set_option maxRecDepth 20000 in
theorem ggX12_nots_X12_code : GoodIn wsX12_nots wsX12_code := goodIn_r _ [8, 9, 10, 11, 12, 13, 14, 15, 16, 17, 18, 19, 20, 21, 22, 23, 24, 25, 26, 27, 28, 29, 30, 31, 32, 33, 34, 35, 36, 37, 38, 39, 40, 41, 42, 43, 44, 45, 46, 47, 48, 49, 50, 51, 52, 53, 54, 55, 56] (by decide +kernel) (by decide +kernel)
set_option maxRecDepth 20000 in
theorem gX12_nots_X12_code : GoodIn wsX12_nots (wsV RX12 414 RX12 yX12_code wsX12_code) := goodIn_app (goodIn_of _ (by decide +kernel)) ggX12_nots_X12_code
theorem dX12_nots_0 : decode cX12_nots 0 = .ok (.aload_n 0, 1) := by decide +kernel
theorem dX12_nots_1 : decode cX12_nots 1 = .ok (.getfield 411, 3) := by decide +kernel
theorem dX12_nots_4 : decode cX12_nots 4 = .ok (.ifCond .le 50, 3) := by decide +kernel
theorem dX12_nots_7 : decode cX12_nots 7 = .ok (.aload_n 0, 1) := by decide +kernel
theorem dX12_nots_8 : decode cX12_nots 8 = .ok (.getfield 71, 3) := by decide +kernel
theorem dX12_nots_11 : decode cX12_nots 11 = .ok (.aload_n 0, 1) := by decide +kernel
theorem dX12_nots_12 : decode cX12_nots 12 = .ok (.getfield 411, 3) := by decide +kernel
theorem dX12_nots_15 : decode cX12_nots 15 = .ok (.iconst 1, 1) := by decide +kernel
theorem dX12_nots_16 : decode cX12_nots 16 = .ok (.isub, 1) := by decide +kernel
theorem dX12_nots_17 : decode cX12_nots 17 = .ok (.iaload, 1) := by decide +kernel
theorem dX12_nots_18 : decode cX12_nots 18 = .ok (.bipush 20, 2) := by decide +kernel
theorem dX12_nots_20 : decode cX12_nots 20 = .ok (.if_icmp .ne 34, 3) := by decide +kernel
theorem dX12_nots_23 : decode cX12_nots 23 = .ok (.aload_n 0, 1) := by decide +kernel
theorem dX12_nots_24 : decode cX12_nots 24 = .ok (.dup, 1) := by decide +kernel
theorem dX12_nots_25 : decode cX12_nots 25 = .ok (.getfield 411, 3) := by decide +kernel
theorem dX12_nots_28 : decode cX12_nots 28 = .ok (.iconst 1, 1) := by decide +kernel
theorem dX12_nots_29 : decode cX12_nots 29 = .ok (.isub, 1) := by decide +kernel
theorem dX12_nots_30 : decode cX12_nots 30 = .ok (.putfield 411, 3) := by decide +kernel
theorem dX12_nots_33 : decode cX12_nots 33 = .ok (.aload_n 0, 1) := by decide +kernel
theorem dX12_nots_34 : decode cX12_nots 34 = .ok (.dup, 1) := by decide +kernel
theorem dX12_nots_35 : decode cX12_nots 35 = .ok (.getfield 418, 3) := by decide +kernel
theorem dX12_nots_38 : decode cX12_nots 38 = .ok (.iconst 1, 1) := by decide +kernel
theorem dX12_nots_39 : decode cX12_nots 39 = .ok (.isub, 1) := by decide +kernel
theorem dX12_nots_40 : decode cX12_nots 40 = .ok (.putfield 418, 3) := by decide +kernel
theorem dX12_nots_43 : decode cX12_nots 43 = .ok (.aload_n 0, 1) := by decide +kernel
theorem dX12_nots_44 : decode cX12_nots 44 = .ok (.bipush 20, 2) := by decide +kernel
theorem dX12_nots_46 : decode cX12_nots 46 = .ok (.iconst 0, 1) := by decide +kernel
theorem dX12_nots_47 : decode cX12_nots 47 = .ok (.iconst 0, 1) := by decide +kernel
theorem dX12_nots_48 : decode cX12_nots 48 = .ok (.invokevirtual 414, 3) := by decide +kernel
theorem dX12_nots_51 : decode cX12_nots 51 = .ok (.goto (-51), 3) := by decide +kernel
theorem dX12_nots_54 : decode cX12_nots 54 = .ok (.return_, 1) := by decide +kernel
set_option maxRecDepth 20000 in
theorem ggX12_leafOf_X12_isWord : GoodIn wsX12_leafOf wsX12_isWord := goodIn_r _ [14, 15, 16, 17, 18, 19, 20, 21, 22, 23, 24, 25, 26, 27, 28, 29, 30, 31, 32, 33, 34, 35, 36, 37, 38, 39, 40, 41, 42, 43, 44, 45, 46, 47, 48, 49, 50, 51, 52, 53, 54, 55, 56, 57, 58, 59, 60, 61, 62] (by decide +kernel) (by decide +kernel)
set_option maxRecDepth 20000 in
theorem gX12_leafOf_X12_isWord : GoodIn wsX12_leafOf (wsV RX12 206 RX12 yX12_isWord wsX12_isWord) := goodIn_app (goodIn_of _ (by decide +kernel)) ggX12_leafOf_X12_isWord
theorem dX12_leafOf_0 : decode cX12_leafOf 0 = .ok (.aload_n 0, 1) := by decide +kernel
theorem dX12_leafOf_1 : decode cX12_leafOf 1 = .ok (.ldc2_w 121, 3) := by decide +kernel
theorem dX12_leafOf_4 : decode cX12_leafOf 4 = .ok (.invokevirtual 206, 3) := by decide +kernel
theorem dX12_leafOf_7 : decode cX12_leafOf 7 = .ok (.ifCond .eq 7, 3) := by decide +kernel
theorem dX12_leafOf_10 : decode cX12_leafOf 10 = .ok (.iconst 0, 1) := by decide +kernel
theorem dX12_leafOf_11 : decode cX12_leafOf 11 = .ok (.goto 119, 3) := by decide +kernel
theorem dX12_leafOf_14 : decode cX12_leafOf 14 = .ok (.aload_n 0, 1) := by decide +kernel
theorem dX12_leafOf_15 : decode cX12_leafOf 15 = .ok (.ldc2_w 123, 3) := by decide +kernel
theorem dX12_leafOf_18 : decode cX12_leafOf 18 = .ok (.invokevirtual 206, 3) := by decide +kernel
theorem dX12_leafOf_21 : decode cX12_leafOf 21 = .ok (.ifCond .eq 7, 3) := by decide +kernel
theorem dX12_leafOf_24 : decode cX12_leafOf 24 = .ok (.iconst 1, 1) := by decide +kernel
theorem dX12_leafOf_25 : decode cX12_leafOf 25 = .ok (.goto 105, 3) := by decide +kernel
theorem dX12_leafOf_28 : decode cX12_leafOf 28 = .ok (.aload_n 0, 1) := by decide +kernel
theorem dX12_leafOf_29 : decode cX12_leafOf 29 = .ok (.ldc2_w 125, 3) := by decide +kernel
theorem dX12_leafOf_32 : decode cX12_leafOf 32 = .ok (.invokevirtual 206, 3) := by decide +kernel
theorem dX12_leafOf_35 : decode cX12_leafOf 35 = .ok (.ifCond .eq 7, 3) := by decide +kernel
theorem dX12_leafOf_38 : decode cX12_leafOf 38 = .ok (.iconst 2, 1) := by decide +kernel
theorem dX12_leafOf_39 : decode cX12_leafOf 39 = .ok (.goto 91, 3) := by decide +kernel
theorem dX12_leafOf_42 : decode cX12_leafOf 42 = .ok (.aload_n 0, 1) := by decide +kernel
theorem dX12_leafOf_43 : decode cX12_leafOf 43 = .ok (.ldc2_w 127, 3) := by decide +kernel
theorem dX12_leafOf_46 : decode cX12_leafOf 46 = .ok (.invokevirtual 206, 3) := by decide +kernel
theorem dX12_leafOf_49 : decode cX12_leafOf 49 = .ok (.ifCond .eq 7, 3) := by decide +kernel
theorem dX12_leafOf_52 : decode cX12_leafOf 52 = .ok (.iconst 3, 1) := by decide +kernel
theorem dX12_leafOf_53 : decode cX12_leafOf 53 = .ok (.goto 77, 3) := by decide +kernel
theorem dX12_leafOf_56 : decode cX12_leafOf 56 = .ok (.aload_n 0, 1) := by decide +kernel
theorem dX12_leafOf_57 : decode cX12_leafOf 57 = .ok (.ldc2_w 129, 3) := by decide +kernel
theorem dX12_leafOf_60 : decode cX12_leafOf 60 = .ok (.invokevirtual 206, 3) := by decide +kernel
theorem dX12_leafOf_63 : decode cX12_leafOf 63 = .ok (.ifCond .eq 7, 3) := by decide +kernel
theorem dX12_leafOf_66 : decode cX12_leafOf 66 = .ok (.iconst 4, 1) := by decide +kernel
theorem dX12_leafOf_67 : decode cX12_leafOf 67 = .ok (.goto 63, 3) := by decide +kernel
theorem dX12_leafOf_70 : decode cX12_leafOf 70 = .ok (.aload_n 0, 1) := by decide +kernel
theorem dX12_leafOf_71 : decode cX12_leafOf 71 = .ok (.ldc2_w 131, 3) := by decide +kernel
theorem dX12_leafOf_74 : decode cX12_leafOf 74 = .ok (.invokevirtual 206, 3) := by decide +kernel
theorem dX12_leafOf_77 : decode cX12_leafOf 77 = .ok (.ifCond .eq 7, 3) := by decide +kernel
theorem dX12_leafOf_80 : decode cX12_leafOf 80 = .ok (.iconst 5, 1) := by decide +kernel
theorem dX12_leafOf_81 : decode cX12_leafOf 81 = .ok (.goto 49, 3) := by decide +kernel
theorem dX12_leafOf_84 : decode cX12_leafOf 84 = .ok (.aload_n 0, 1) := by decide +kernel
theorem dX12_leafOf_85 : decode cX12_leafOf 85 = .ok (.ldc2_w 133, 3) := by decide +kernel
theorem dX12_leafOf_88 : decode cX12_leafOf 88 = .ok (.invokevirtual 206, 3) := by decide +kernel
theorem dX12_leafOf_91 : decode cX12_leafOf 91 = .ok (.ifCond .eq 8, 3) := by decide +kernel
theorem dX12_leafOf_94 : decode cX12_leafOf 94 = .ok (.bipush 6, 2) := by decide +kernel
theorem dX12_leafOf_96 : decode cX12_leafOf 96 = .ok (.goto 34, 3) := by decide +kernel
theorem dX12_leafOf_99 : decode cX12_leafOf 99 = .ok (.aload_n 0, 1) := by decide +kernel
theorem dX12_leafOf_100 : decode cX12_leafOf 100 = .ok (.ldc2_w 135, 3) := by decide +kernel
theorem dX12_leafOf_103 : decode cX12_leafOf 103 = .ok (.invokevirtual 206, 3) := by decide +kernel
theorem dX12_leafOf_106 : decode cX12_leafOf 106 = .ok (.ifCond .eq 8, 3) := by decide +kernel
theorem dX12_leafOf_109 : decode cX12_leafOf 109 = .ok (.bipush 7, 2) := by decide +kernel
theorem dX12_leafOf_111 : decode cX12_leafOf 111 = .ok (.goto 19, 3) := by decide +kernel
theorem dX12_leafOf_114 : decode cX12_leafOf 114 = .ok (.aload_n 0, 1) := by decide +kernel
theorem dX12_leafOf_115 : decode cX12_leafOf 115 = .ok (.ldc2_w 137, 3) := by decide +kernel
theorem dX12_leafOf_118 : decode cX12_leafOf 118 = .ok (.invokevirtual 206, 3) := by decide +kernel
theorem dX12_leafOf_121 : decode cX12_leafOf 121 = .ok (.ifCond .eq 8, 3) := by decide +kernel
theorem dX12_leafOf_124 : decode cX12_leafOf 124 = .ok (.bipush 8, 2) := by decide +kernel
theorem dX12_leafOf_126 : decode cX12_leafOf 126 = .ok (.goto 4, 3) := by decide +kernel
theorem dX12_leafOf_129 : decode cX12_leafOf 129 = .ok (.iconst (-1), 1) := by decide +kernel
theorem dX12_leafOf_130 : decode cX12_leafOf 130 = .ok (.ireturn, 1) := by decide +kernel
set_option maxRecDepth 20000 in
theorem ggX12_operand_X12_isWord : GoodIn wsX12_operand wsX12_isWord := goodIn_r _ [15, 9, 16, 80, 81, 82, 83, 84, 85, 86, 87, 88, 89, 90, 91, 92, 93, 94, 95, 96, 97, 98, 99, 100, 101, 102, 103, 104, 105, 106, 107, 108, 109, 110, 111, 112, 113, 114, 115, 116, 117, 118, 119, 120, 121, 122, 123, 124, 125] (by decide +kernel) (by decide +kernel)
set_option maxRecDepth 20000 in
theorem gX12_operand_X12_isWord : GoodIn wsX12_operand (wsV RX12 206 RX12 yX12_isWord wsX12_isWord) := goodIn_app (goodIn_of _ (by decide +kernel)) ggX12_operand_X12_isWord
set_option maxRecDepth 20000 in
theorem ggX12_operand_X12_isSign : GoodIn wsX12_operand wsX12_isSign := goodIn_r _ [20, 9, 10, 80, 81, 82, 83, 84, 85, 86, 87, 88, 89, 90, 91, 92, 93, 94, 95, 96, 97, 98, 99, 100, 101, 102, 103, 104, 105, 106, 107, 108, 109, 110, 111, 112, 113, 114, 115, 116, 117, 118, 119, 120, 121, 122, 123, 124, 125] (by decide +kernel) (by decide +kernel)
set_option maxRecDepth 20000 in
theorem gX12_operand_X12_isSign : GoodIn wsX12_operand (wsV RX12 175 RX12 yX12_isSign wsX12_isSign) := goodIn_app (goodIn_of _ (by decide +kernel)) ggX12_operand_X12_isSign
set_option maxRecDepth 20000 in
theorem ggX12_operand_X12_leafOf : GoodIn wsX12_operand wsX12_leafOf := goodIn_r _ [24, 25, 26, 27, 28, 29, 30, 31, 32, 33, 11, 12, 13, 14, 15, 9, 16, 80, 81, 82, 83, 84, 85, 86, 87, 88, 89, 90, 91, 92, 93, 94, 95, 96, 97, 98, 99, 100, 101, 102, 103, 104, 105, 106, 107, 108, 109, 110, 111, 112, 113, 114, 115, 116, 117, 118, 119, 120, 121, 122, 123, 124, 125] (by decide +kernel) (by decide +kernel)
set_option maxRecDepth 20000 in
theorem gX12_operand_X12_leafOf : GoodIn wsX12_operand (wsV RX12 421 RX12 yX12_leafOf wsX12_leafOf) := goodIn_app (goodIn_of _ (by decide +kernel)) ggX12_operand_X12_leafOf
set_option maxRecDepth 20000 in
theorem ggX12_operand_X12_bad : GoodIn wsX12_operand wsX12_bad := goodIn_r _ [37, 38, 39, 40, 80, 81, 82, 83, 84, 85, 86, 87, 88, 89, 90, 91, 92, 93, 94, 95, 96, 97, 98, 99, 100, 101, 102, 103, 104, 105, 106, 107, 108, 109, 110, 111, 112, 113, 114, 115, 116, 117, 118, 119, 120, 121, 122, 123, 124, 125] (by decide +kernel) (by decide +kernel)
set_option maxRecDepth 20000 in
theorem gX12_operand_X12_bad : GoodIn wsX12_operand (wsV RX12 178 RX12 yX12_bad wsX12_bad) := goodIn_app (goodIn_of _ (by decide +kernel)) ggX12_operand_X12_bad
set_option maxRecDepth 20000 in
theorem ggX12_operand_X12_next : GoodIn wsX12_operand wsX12_next := goodIn_r _ [44, 45, 39, 46, 47, 48, 9, 10, 16, 49, 50, 51, 14, 52, 53, 54, 55, 56, 57, 58, 59, 80, 81, 82, 83, 84, 85, 86, 87, 88, 89, 90, 91, 92, 93, 94, 95, 96, 97, 98, 99, 100, 101, 102, 103, 104, 105, 106, 107, 108, 109, 110, 111, 112, 113, 114, 115, 116, 117, 118, 119, 120, 121, 122, 123, 124, 125] (by decide +kernel) (by decide +kernel)
set_option maxRecDepth 20000 in
theorem gX12_operand_X12_next : GoodIn wsX12_operand (wsV RX12 181 RX12 yX12_next wsX12_next) := goodIn_app (goodIn_of _ (by decide +kernel)) ggX12_operand_X12_next
set_option maxRecDepth 20000 in
theorem ggX12_operand_X12_code : GoodIn wsX12_operand wsX12_code := goodIn_r _ [63, 64, 65, 80, 81, 82, 83, 84, 85, 86, 87, 88, 89, 90, 91, 92, 93, 94, 95, 96, 97, 98, 99, 100, 101, 102, 103, 104, 105, 106, 107, 108, 109, 110, 111, 112, 113, 114, 115, 116, 117, 118, 119, 120, 121, 122, 123, 124, 125] (by decide +kernel) (by decide +kernel)
set_option maxRecDepth 20000 in
theorem gX12_operand_X12_code : GoodIn wsX12_operand (wsV RX12 414 RX12 yX12_code wsX12_code) := goodIn_app (goodIn_of _ (by decide +kernel)) ggX12_operand_X12_code
set_option maxRecDepth 20000 in
theorem ggX12_operand_X12_looksAt : GoodIn wsX12_operand wsX12_looksAt := goodIn_r _ [69, 8, 70, 71, 72, 14, 73, 9, 16, 74, 34, 35, 36, 37, 38, 39, 40, 75, 76, 77, 78, 79, 80, 81, 82, 83, 84, 85, 86, 87, 88, 89, 90, 91, 92, 93, 94, 95, 96, 97, 98, 99, 100, 101, 102, 103, 104, 105, 106, 107, 108, 109, 110, 111, 112, 113, 114, 115, 116, 117, 118, 119, 120, 121, 122, 123, 124, 125] (by decide +kernel) (by decide +kernel)
set_option maxRecDepth 20000 in
theorem gX12_operand_X12_looksAt : GoodIn wsX12_operand (wsV RX12 203 RX12 yX12_looksAt wsX12_looksAt) := goodIn_app (goodIn_of _ (by decide +kernel)) ggX12_operand_X12_looksAt
theorem dX12_operand_0 : decode cX12_operand 0 = .ok (.aload_n 0, 1) := by decide +kernel
theorem dX12_operand_1 : decode cX12_operand 1 = .ok (.ldc2_w 119, 3) := by decide +kernel
theorem dX12_operand_4 : decode cX12_operand 4 = .ok (.invokevirtual 206, 3) := by decide +kernel
theorem dX12_operand_7 : decode cX12_operand 7 = .ok (.istore_n 1, 1) := by decide +kernel
theorem dX12_operand_8 : decode cX12_operand 8 = .ok (.aload_n 0, 1) := by decide +kernel
theorem dX12_operand_9 : decode cX12_operand 9 = .ok (.bipush 40, 2) := by decide +kernel
theorem dX12_operand_11 : decode cX12_operand 11 = .ok (.invokevirtual 175, 3) := by decide +kernel
theorem dX12_operand_14 : decode cX12_operand 14 = .ok (.istore_n 2, 1) := by decide +kernel
theorem dX12_operand_15 : decode cX12_operand 15 = .ok (.aload_n 0, 1) := by decide +kernel
theorem dX12_operand_16 : decode cX12_operand 16 = .ok (.invokevirtual 421, 3) := by decide +kernel
theorem dX12_operand_19 : decode cX12_operand 19 = .ok (.istore_n 3, 1) := by decide +kernel
theorem dX12_operand_20 : decode cX12_operand 20 = .ok (.iload_n 1, 1) := by decide +kernel
theorem dX12_operand_21 : decode cX12_operand 21 = .ok (.ifCond .ne 17, 3) := by decide +kernel
theorem dX12_operand_24 : decode cX12_operand 24 = .ok (.iload_n 2, 1) := by decide +kernel
theorem dX12_operand_25 : decode cX12_operand 25 = .ok (.ifCond .ne 13, 3) := by decide +kernel
theorem dX12_operand_28 : decode cX12_operand 28 = .ok (.iload_n 3, 1) := by decide +kernel
theorem dX12_operand_29 : decode cX12_operand 29 = .ok (.ifCond .ge 9, 3) := by decide +kernel
theorem dX12_operand_32 : decode cX12_operand 32 = .ok (.aload_n 0, 1) := by decide +kernel
theorem dX12_operand_33 : decode cX12_operand 33 = .ok (.iconst 1, 1) := by decide +kernel
theorem dX12_operand_34 : decode cX12_operand 34 = .ok (.invokevirtual 178, 3) := by decide +kernel
theorem dX12_operand_37 : decode cX12_operand 37 = .ok (.ireturn, 1) := by decide +kernel
theorem dX12_operand_38 : decode cX12_operand 38 = .ok (.aload_n 0, 1) := by decide +kernel
theorem dX12_operand_39 : decode cX12_operand 39 = .ok (.getfield 424, 3) := by decide +kernel
theorem dX12_operand_42 : decode cX12_operand 42 = .ok (.bipush 20, 2) := by decide +kernel
theorem dX12_operand_44 : decode cX12_operand 44 = .ok (.if_icmp .eq 12, 3) := by decide +kernel
theorem dX12_operand_47 : decode cX12_operand 47 = .ok (.aload_n 0, 1) := by decide +kernel
theorem dX12_operand_48 : decode cX12_operand 48 = .ok (.getfield 418, 3) := by decide +kernel
theorem dX12_operand_51 : decode cX12_operand 51 = .ok (.bipush 8, 2) := by decide +kernel
theorem dX12_operand_53 : decode cX12_operand 53 = .ok (.if_icmp .le 9, 3) := by decide +kernel
theorem dX12_operand_56 : decode cX12_operand 56 = .ok (.aload_n 0, 1) := by decide +kernel
theorem dX12_operand_57 : decode cX12_operand 57 = .ok (.iconst 4, 1) := by decide +kernel
theorem dX12_operand_58 : decode cX12_operand 58 = .ok (.invokevirtual 178, 3) := by decide +kernel
theorem dX12_operand_61 : decode cX12_operand 61 = .ok (.ireturn, 1) := by decide +kernel
theorem dX12_operand_62 : decode cX12_operand 62 = .ok (.aload_n 0, 1) := by decide +kernel
theorem dX12_operand_63 : decode cX12_operand 63 = .ok (.dup, 1) := by decide +kernel
theorem dX12_operand_64 : decode cX12_operand 64 = .ok (.getfield 424, 3) := by decide +kernel
theorem dX12_operand_67 : decode cX12_operand 67 = .ok (.iconst 1, 1) := by decide +kernel
theorem dX12_operand_68 : decode cX12_operand 68 = .ok (.iadd, 1) := by decide +kernel
theorem dX12_operand_69 : decode cX12_operand 69 = .ok (.putfield 424, 3) := by decide +kernel
theorem dX12_operand_72 : decode cX12_operand 72 = .ok (.aload_n 0, 1) := by decide +kernel
theorem dX12_operand_73 : decode cX12_operand 73 = .ok (.invokevirtual 181, 3) := by decide +kernel
theorem dX12_operand_76 : decode cX12_operand 76 = .ok (.iload_n 1, 1) := by decide +kernel
theorem dX12_operand_77 : decode cX12_operand 77 = .ok (.ifCond .ne 7, 3) := by decide +kernel
theorem dX12_operand_80 : decode cX12_operand 80 = .ok (.iload_n 2, 1) := by decide +kernel
theorem dX12_operand_81 : decode cX12_operand 81 = .ok (.ifCond .eq 45, 3) := by decide +kernel
theorem dX12_operand_84 : decode cX12_operand 84 = .ok (.aload_n 0, 1) := by decide +kernel
theorem dX12_operand_85 : decode cX12_operand 85 = .ok (.getfield 71, 3) := by decide +kernel
theorem dX12_operand_88 : decode cX12_operand 88 = .ok (.aload_n 0, 1) := by decide +kernel
theorem dX12_operand_89 : decode cX12_operand 89 = .ok (.getfield 411, 3) := by decide +kernel
theorem dX12_operand_92 : decode cX12_operand 92 = .ok (.iload_n 1, 1) := by decide +kernel
theorem dX12_operand_93 : decode cX12_operand 93 = .ok (.ifCond .eq 8, 3) := by decide +kernel
theorem dX12_operand_96 : decode cX12_operand 96 = .ok (.bipush 20, 2) := by decide +kernel
theorem dX12_operand_98 : decode cX12_operand 98 = .ok (.goto 5, 3) := by decide +kernel
theorem dX12_operand_101 : decode cX12_operand 101 = .ok (.bipush 23, 2) := by decide +kernel
theorem dX12_operand_103 : decode cX12_operand 103 = .ok (.iastore, 1) := by decide +kernel
theorem dX12_operand_104 : decode cX12_operand 104 = .ok (.aload_n 0, 1) := by decide +kernel
theorem dX12_operand_105 : decode cX12_operand 105 = .ok (.dup, 1) := by decide +kernel
theorem dX12_operand_106 : decode cX12_operand 106 = .ok (.getfield 411, 3) := by decide +kernel
theorem dX12_operand_109 : decode cX12_operand 109 = .ok (.iconst 1, 1) := by decide +kernel
theorem dX12_operand_110 : decode cX12_operand 110 = .ok (.iadd, 1) := by decide +kernel
theorem dX12_operand_111 : decode cX12_operand 111 = .ok (.putfield 411, 3) := by decide +kernel
theorem dX12_operand_114 : decode cX12_operand 114 = .ok (.aload_n 0, 1) := by decide +kernel
theorem dX12_operand_115 : decode cX12_operand 115 = .ok (.dup, 1) := by decide +kernel
theorem dX12_operand_116 : decode cX12_operand 116 = .ok (.getfield 418, 3) := by decide +kernel
theorem dX12_operand_119 : decode cX12_operand 119 = .ok (.iconst 1, 1) := by decide +kernel
theorem dX12_operand_120 : decode cX12_operand 120 = .ok (.iadd, 1) := by decide +kernel
theorem dX12_operand_121 : decode cX12_operand 121 = .ok (.putfield 418, 3) := by decide +kernel
theorem dX12_operand_124 : decode cX12_operand 124 = .ok (.iconst 1, 1) := by decide +kernel
theorem dX12_operand_125 : decode cX12_operand 125 = .ok (.ireturn, 1) := by decide +kernel
theorem dX12_operand_126 : decode cX12_operand 126 = .ok (.aload_n 0, 1) := by decide +kernel
theorem dX12_operand_127 : decode cX12_operand 127 = .ok (.iconst 1, 1) := by decide +kernel
theorem dX12_operand_128 : decode cX12_operand 128 = .ok (.putfield 427, 3) := by decide +kernel
theorem dX12_operand_131 : decode cX12_operand 131 = .ok (.iload_n 3, 1) := by decide +kernel
theorem dX12_operand_132 : decode cX12_operand 132 = .ok (.iconst 3, 1) := by decide +kernel
theorem dX12_operand_133 : decode cX12_operand 133 = .ok (.if_icmp .ge 12, 3) := by decide +kernel
theorem dX12_operand_136 : decode cX12_operand 136 = .ok (.aload_n 0, 1) := by decide +kernel
theorem dX12_operand_137 : decode cX12_operand 137 = .ok (.iload_n 3, 1) := by decide +kernel
theorem dX12_operand_138 : decode cX12_operand 138 = .ok (.iconst 0, 1) := by decide +kernel
theorem dX12_operand_139 : decode cX12_operand 139 = .ok (.iconst 0, 1) := by decide +kernel
theorem dX12_operand_140 : decode cX12_operand 140 = .ok (.invokevirtual 414, 3) := by decide +kernel
