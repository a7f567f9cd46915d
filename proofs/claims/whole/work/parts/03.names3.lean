theorem dX5_mastersSaid_100 : decode cX5_mastersSaid 100 = .ok (.if_icmp .le 26, 3) := by decide +kernel
theorem dX5_mastersSaid_103 : decode cX5_mastersSaid 103 = .ok (.iinc 2 (-1), 3) := by decide +kernel
theorem dX5_mastersSaid_106 : decode cX5_mastersSaid 106 = .ok (.aload_n 0, 1) := by decide +kernel
theorem dX5_mastersSaid_107 : decode cX5_mastersSaid 107 = .ok (.getfield 19, 3) := by decide +kernel
theorem dX5_mastersSaid_110 : decode cX5_mastersSaid 110 = .ok (.iload_n 2, 1) := by decide +kernel
theorem dX5_mastersSaid_111 : decode cX5_mastersSaid 111 = .ok (.iconst 1, 1) := by decide +kernel
theorem dX5_mastersSaid_112 : decode cX5_mastersSaid 112 = .ok (.isub, 1) := by decide +kernel
theorem dX5_mastersSaid_113 : decode cX5_mastersSaid 113 = .ok (.dup2, 1) := by decide +kernel
theorem dX5_mastersSaid_114 : decode cX5_mastersSaid 114 = .ok (.iaload, 1) := by decide +kernel
theorem dX5_mastersSaid_115 : decode cX5_mastersSaid 115 = .ok (.aload_n 0, 1) := by decide +kernel
theorem dX5_mastersSaid_116 : decode cX5_mastersSaid 116 = .ok (.getfield 19, 3) := by decide +kernel
theorem dX5_mastersSaid_119 : decode cX5_mastersSaid 119 = .ok (.iload_n 2, 1) := by decide +kernel
theorem dX5_mastersSaid_120 : decode cX5_mastersSaid 120 = .ok (.iaload, 1) := by decide +kernel
theorem dX5_mastersSaid_121 : decode cX5_mastersSaid 121 = .ok (.ior, 1) := by decide +kernel
theorem dX5_mastersSaid_122 : decode cX5_mastersSaid 122 = .ok (.iastore, 1) := by decide +kernel
theorem dX5_mastersSaid_123 : decode cX5_mastersSaid 123 = .ok (.goto 31, 3) := by decide +kernel
theorem dX5_mastersSaid_126 : decode cX5_mastersSaid 126 = .ok (.iload_n 2, 1) := by decide +kernel
theorem dX5_mastersSaid_127 : decode cX5_mastersSaid 127 = .ok (.aload_n 0, 1) := by decide +kernel
theorem dX5_mastersSaid_128 : decode cX5_mastersSaid 128 = .ok (.getfield 19, 3) := by decide +kernel
theorem dX5_mastersSaid_131 : decode cX5_mastersSaid 131 = .ok (.arraylength, 1) := by decide +kernel
theorem dX5_mastersSaid_132 : decode cX5_mastersSaid 132 = .ok (.if_icmp .ge 22, 3) := by decide +kernel
theorem dX5_mastersSaid_135 : decode cX5_mastersSaid 135 = .ok (.aload_n 0, 1) := by decide +kernel
theorem dX5_mastersSaid_136 : decode cX5_mastersSaid 136 = .ok (.getfield 19, 3) := by decide +kernel
theorem dX5_mastersSaid_139 : decode cX5_mastersSaid 139 = .ok (.iload_n 2, 1) := by decide +kernel
theorem dX5_mastersSaid_140 : decode cX5_mastersSaid 140 = .ok (.aload_n 0, 1) := by decide +kernel
theorem dX5_mastersSaid_141 : decode cX5_mastersSaid 141 = .ok (.getfield 15, 3) := by decide +kernel
theorem dX5_mastersSaid_144 : decode cX5_mastersSaid 144 = .ok (.iload_n 3, 1) := by decide +kernel
theorem dX5_mastersSaid_145 : decode cX5_mastersSaid 145 = .ok (.iaload, 1) := by decide +kernel
theorem dX5_mastersSaid_146 : decode cX5_mastersSaid 146 = .ok (.aload_n 1, 1) := by decide +kernel
theorem dX5_mastersSaid_147 : decode cX5_mastersSaid 147 = .ok (.invokestatic 28, 3) := by decide +kernel
theorem dX5_mastersSaid_150 : decode cX5_mastersSaid 150 = .ok (.iastore, 1) := by decide +kernel
theorem dX5_mastersSaid_151 : decode cX5_mastersSaid 151 = .ok (.iinc 2 1, 3) := by decide +kernel
theorem dX5_mastersSaid_154 : decode cX5_mastersSaid 154 = .ok (.iinc 3 1, 3) := by decide +kernel
theorem dX5_mastersSaid_157 : decode cX5_mastersSaid 157 = .ok (.goto (-153), 3) := by decide +kernel
theorem dX5_mastersSaid_160 : decode cX5_mastersSaid 160 = .ok (.iload_n 2, 1) := by decide +kernel
theorem dX5_mastersSaid_161 : decode cX5_mastersSaid 161 = .ok (.ifCond .le 24, 3) := by decide +kernel
theorem dX5_mastersSaid_164 : decode cX5_mastersSaid 164 = .ok (.aload_n 0, 1) := by decide +kernel
theorem dX5_mastersSaid_165 : decode cX5_mastersSaid 165 = .ok (.getfield 19, 3) := by decide +kernel
theorem dX5_mastersSaid_168 : decode cX5_mastersSaid 168 = .ok (.iconst 0, 1) := by decide +kernel
theorem dX5_mastersSaid_169 : decode cX5_mastersSaid 169 = .ok (.iaload, 1) := by decide +kernel
theorem dX5_mastersSaid_170 : decode cX5_mastersSaid 170 = .ok (.iconst 1, 1) := by decide +kernel
theorem dX5_mastersSaid_171 : decode cX5_mastersSaid 171 = .ok (.aload_n 1, 1) := by decide +kernel
theorem dX5_mastersSaid_172 : decode cX5_mastersSaid 172 = .ok (.getfield 32, 3) := by decide +kernel
theorem dX5_mastersSaid_175 : decode cX5_mastersSaid 175 = .ok (.getfield 38, 3) := by decide +kernel
theorem dX5_mastersSaid_178 : decode cX5_mastersSaid 178 = .ok (.ishl, 1) := by decide +kernel
theorem dX5_mastersSaid_179 : decode cX5_mastersSaid 179 = .ok (.iconst 1, 1) := by decide +kernel
theorem dX5_mastersSaid_180 : decode cX5_mastersSaid 180 = .ok (.isub, 1) := by decide +kernel
theorem dX5_mastersSaid_181 : decode cX5_mastersSaid 181 = .ok (.iand, 1) := by decide +kernel
theorem dX5_mastersSaid_182 : decode cX5_mastersSaid 182 = .ok (.goto 4, 3) := by decide +kernel
theorem dX5_mastersSaid_185 : decode cX5_mastersSaid 185 = .ok (.iconst 0, 1) := by decide +kernel
theorem dX5_mastersSaid_186 : decode cX5_mastersSaid 186 = .ok (.ireturn, 1) := by decide +kernel
set_option maxRecDepth 20000 in
theorem ggX5_mastersFor_X5_holds : GoodIn wsX5_mastersFor wsX5_holds := goodIn_r _ [6, 7, 8, 1, 9, 10, 11, 12, 13, 14, 15, 16, 17, 18, 19, 20, 21, 22, 23, 24, 25, 26, 27, 28, 29, 30, 31, 32, 33, 34, 35, 36, 37, 38, 39, 40, 41, 42, 43, 44, 45, 46, 47, 48, 49, 50, 51, 52, 53, 54, 5, 55, 56, 57, 58, 59, 60, 61, 62, 63, 64, 65, 66, 67, 68, 69, 70, 71, 72, 73, 74, 75, 76, 77, 78, 79, 80, 81, 82, 83, 84, 85, 86, 87] (by decide +kernel) (by decide +kernel)
set_option maxRecDepth 20000 in
theorem gX5_mastersFor_X5_holds : GoodIn wsX5_mastersFor (va_wsS RX5 43 yX5_holds wsX5_holds) := goodIn_app (goodIn_of _ (by decide +kernel)) ggX5_mastersFor_X5_holds
theorem dX5_mastersFor_0 : decode cX5_mastersFor 0 = .ok (.iconst 0, 1) := by decide +kernel
theorem dX5_mastersFor_1 : decode cX5_mastersFor 1 = .ok (.istore_n 2, 1) := by decide +kernel
theorem dX5_mastersFor_2 : decode cX5_mastersFor 2 = .ok (.iconst 0, 1) := by decide +kernel
theorem dX5_mastersFor_3 : decode cX5_mastersFor 3 = .ok (.istore_n 3, 1) := by decide +kernel
theorem dX5_mastersFor_4 : decode cX5_mastersFor 4 = .ok (.iload_n 3, 1) := by decide +kernel
theorem dX5_mastersFor_5 : decode cX5_mastersFor 5 = .ok (.aload_n 1, 1) := by decide +kernel
theorem dX5_mastersFor_6 : decode cX5_mastersFor 6 = .ok (.getfield 32, 3) := by decide +kernel
theorem dX5_mastersFor_9 : decode cX5_mastersFor 9 = .ok (.getfield 38, 3) := by decide +kernel
theorem dX5_mastersFor_12 : decode cX5_mastersFor 12 = .ok (.if_icmp .ge 24, 3) := by decide +kernel
theorem dX5_mastersFor_15 : decode cX5_mastersFor 15 = .ok (.iload_n 0, 1) := by decide +kernel
theorem dX5_mastersFor_16 : decode cX5_mastersFor 16 = .ok (.aload_n 1, 1) := by decide +kernel
theorem dX5_mastersFor_17 : decode cX5_mastersFor 17 = .ok (.iload_n 3, 1) := by decide +kernel
theorem dX5_mastersFor_18 : decode cX5_mastersFor 18 = .ok (.invokestatic 43, 3) := by decide +kernel
theorem dX5_mastersFor_21 : decode cX5_mastersFor 21 = .ok (.ifCond .eq 9, 3) := by decide +kernel
theorem dX5_mastersFor_24 : decode cX5_mastersFor 24 = .ok (.iload_n 2, 1) := by decide +kernel
theorem dX5_mastersFor_25 : decode cX5_mastersFor 25 = .ok (.iconst 1, 1) := by decide +kernel
theorem dX5_mastersFor_26 : decode cX5_mastersFor 26 = .ok (.iload_n 3, 1) := by decide +kernel
theorem dX5_mastersFor_27 : decode cX5_mastersFor 27 = .ok (.ishl, 1) := by decide +kernel
theorem dX5_mastersFor_28 : decode cX5_mastersFor 28 = .ok (.ior, 1) := by decide +kernel
theorem dX5_mastersFor_29 : decode cX5_mastersFor 29 = .ok (.istore_n 2, 1) := by decide +kernel
theorem dX5_mastersFor_30 : decode cX5_mastersFor 30 = .ok (.iinc 3 1, 3) := by decide +kernel
theorem dX5_mastersFor_33 : decode cX5_mastersFor 33 = .ok (.goto (-29), 3) := by decide +kernel
theorem dX5_mastersFor_36 : decode cX5_mastersFor 36 = .ok (.iload_n 2, 1) := by decide +kernel
theorem dX5_mastersFor_37 : decode cX5_mastersFor 37 = .ok (.ireturn, 1) := by decide +kernel
set_option maxRecDepth 20000 in
theorem ggX5_holds_X3_isOut : GoodIn wsX5_holds wsX3_isOut := goodIn_r _ [11, 12, 59, 60, 61, 62, 63, 64, 65, 66, 67, 68] (by decide +kernel) (by decide +kernel)
set_option maxRecDepth 20000 in
theorem gX5_holds_X3_isOut : GoodIn wsX5_holds (wsV RX5 47 RX3 yX3_isOut wsX3_isOut) := goodIn_app (goodIn_of _ (by decide +kernel)) ggX5_holds_X3_isOut
set_option maxRecDepth 20000 in
theorem ggX5_holds_X3_meetsIn : GoodIn wsX5_holds wsX3_meetsIn := goodIn_r _ [16, 17, 18, 19, 20, 21, 59, 60, 61, 62, 63, 64, 65, 66, 67, 68, 69, 70, 71, 72, 73, 74, 75, 76, 77, 78, 79, 80, 81, 82, 83] (by decide +kernel) (by decide +kernel)
set_option maxRecDepth 20000 in
theorem gX5_holds_X3_meetsIn : GoodIn wsX5_holds (wsV RX5 54 RX3 yX3_meetsIn wsX3_meetsIn) := goodIn_app (goodIn_of _ (by decide +kernel)) ggX5_holds_X3_meetsIn
set_option maxRecDepth 20000 in
theorem ggX5_holds_X3_wrongBy : GoodIn wsX5_holds wsX3_wrongBy := goodIn_r _ [25, 26, 27, 28, 29, 10, 30, 31, 32, 17, 33, 34, 35, 36, 37, 38, 39, 59, 60, 61, 62, 63, 64, 65, 66, 67, 68, 69, 70, 71, 72, 73, 74, 75, 76, 77, 78, 79, 80, 81, 82, 83] (by decide +kernel) (by decide +kernel)
set_option maxRecDepth 20000 in
theorem gX5_holds_X3_wrongBy : GoodIn wsX5_holds (wsV RX5 64 RX3 yX3_wrongBy wsX3_wrongBy) := goodIn_app (goodIn_of _ (by decide +kernel)) ggX5_holds_X3_wrongBy
set_option maxRecDepth 20000 in
theorem ggX5_holds_X1_isToCome : GoodIn wsX5_holds wsX1_isToCome := goodIn_r _ [44, 45, 46, 20, 47, 69, 70, 71, 72, 73, 74, 75, 76, 77, 78, 79, 80, 81, 82, 83] (by decide +kernel) (by decide +kernel)
set_option maxRecDepth 20000 in
theorem gX5_holds_X1_isToCome : GoodIn wsX5_holds (wsV RX5 68 RX1 yX1_isToCome wsX1_isToCome) := goodIn_app (goodIn_of _ (by decide +kernel)) ggX5_holds_X1_isToCome
set_option maxRecDepth 20000 in
theorem ggX5_holds_X5_compares : GoodIn wsX5_holds wsX5_compares := goodIn_r _ [51] (by decide +kernel) (by decide +kernel)
set_option maxRecDepth 20000 in
theorem gX5_holds_X5_compares : GoodIn wsX5_holds (va_wsS RX5 75 yX5_compares wsX5_compares) := goodIn_app (goodIn_of _ (by decide +kernel)) ggX5_holds_X5_compares
set_option maxRecDepth 20000 in
theorem ggX5_holds_J6_bitCount_0f7a4 : GoodIn wsX5_holds wsJ6_bitCount_0f7a4 := goodIn_r _ [55, 56, 57, 58] (by decide +kernel) (by decide +kernel)
set_option maxRecDepth 20000 in
theorem gX5_holds_J6_bitCount_0f7a4 : GoodIn wsX5_holds (va_wsS RX5 82 yJ6_bitCount_0f7a4 wsJ6_bitCount_0f7a4) := goodIn_app (goodIn_of _ (by decide +kernel)) ggX5_holds_J6_bitCount_0f7a4
theorem dX5_holds_0 : decode cX5_holds 0 = .ok (.iload_n 0, 1) := by decide +kernel
theorem dX5_holds_1 : decode cX5_holds 1 = .ok (.sipush 1024, 3) := by decide +kernel
theorem dX5_holds_4 : decode cX5_holds 4 = .ok (.irem, 1) := by decide +kernel
theorem dX5_holds_5 : decode cX5_holds 5 = .ok (.istore_n 3, 1) := by decide +kernel
theorem dX5_holds_6 : decode cX5_holds 6 = .ok (.iload_n 0, 1) := by decide +kernel
theorem dX5_holds_7 : decode cX5_holds 7 = .ok (.sipush 8192, 3) := by decide +kernel
theorem dX5_holds_10 : decode cX5_holds 10 = .ok (.irem, 1) := by decide +kernel
theorem dX5_holds_11 : decode cX5_holds 11 = .ok (.sipush 1024, 3) := by decide +kernel
theorem dX5_holds_14 : decode cX5_holds 14 = .ok (.idiv, 1) := by decide +kernel
theorem dX5_holds_15 : decode cX5_holds 15 = .ok (.bipush 60, 2) := by decide +kernel
theorem dX5_holds_17 : decode cX5_holds 17 = .ok (.iadd, 1) := by decide +kernel
theorem dX5_holds_18 : decode cX5_holds 18 = .ok (.istore 4, 2) := by decide +kernel
theorem dX5_holds_20 : decode cX5_holds 20 = .ok (.iload_n 0, 1) := by decide +kernel
theorem dX5_holds_21 : decode cX5_holds 21 = .ok (.sipush 8192, 3) := by decide +kernel
theorem dX5_holds_24 : decode cX5_holds 24 = .ok (.idiv, 1) := by decide +kernel
theorem dX5_holds_25 : decode cX5_holds 25 = .ok (.tableswitch 182 17 24 #[47, 53, 80, 102, 121, 131, 147, 163], 47) := by decide +kernel
theorem dX5_holds_72 : decode cX5_holds 72 = .ok (.aload_n 1, 1) := by decide +kernel
theorem dX5_holds_73 : decode cX5_holds 73 = .ok (.iload_n 2, 1) := by decide +kernel
theorem dX5_holds_74 : decode cX5_holds 74 = .ok (.invokevirtual 47, 3) := by decide +kernel
theorem dX5_holds_77 : decode cX5_holds 77 = .ok (.ireturn, 1) := by decide +kernel
theorem dX5_holds_78 : decode cX5_holds 78 = .ok (.aload_n 1, 1) := by decide +kernel
theorem dX5_holds_79 : decode cX5_holds 79 = .ok (.aload_n 1, 1) := by decide +kernel
theorem dX5_holds_80 : decode cX5_holds 80 = .ok (.getfield 51, 3) := by decide +kernel
theorem dX5_holds_83 : decode cX5_holds 83 = .ok (.iload_n 2, 1) := by decide +kernel
theorem dX5_holds_84 : decode cX5_holds 84 = .ok (.invokevirtual 54, 3) := by decide +kernel
theorem dX5_holds_87 : decode cX5_holds 87 = .ok (.aload_n 1, 1) := by decide +kernel
theorem dX5_holds_88 : decode cX5_holds 88 = .ok (.aload_n 1, 1) := by decide +kernel
theorem dX5_holds_89 : decode cX5_holds 89 = .ok (.getfield 58, 3) := by decide +kernel
theorem dX5_holds_92 : decode cX5_holds 92 = .ok (.iload_n 2, 1) := by decide +kernel
theorem dX5_holds_93 : decode cX5_holds 93 = .ok (.invokevirtual 54, 3) := by decide +kernel
theorem dX5_holds_96 : decode cX5_holds 96 = .ok (.if_icmp .eq 7, 3) := by decide +kernel
theorem dX5_holds_99 : decode cX5_holds 99 = .ok (.iconst 1, 1) := by decide +kernel
theorem dX5_holds_100 : decode cX5_holds 100 = .ok (.goto 4, 3) := by decide +kernel
theorem dX5_holds_103 : decode cX5_holds 103 = .ok (.iconst 0, 1) := by decide +kernel
theorem dX5_holds_104 : decode cX5_holds 104 = .ok (.ireturn, 1) := by decide +kernel
theorem dX5_holds_105 : decode cX5_holds 105 = .ok (.aload_n 1, 1) := by decide +kernel
theorem dX5_holds_106 : decode cX5_holds 106 = .ok (.aload_n 1, 1) := by decide +kernel
theorem dX5_holds_107 : decode cX5_holds 107 = .ok (.getfield 32, 3) := by decide +kernel
theorem dX5_holds_110 : decode cX5_holds 110 = .ok (.getfield 61, 3) := by decide +kernel
theorem dX5_holds_113 : decode cX5_holds 113 = .ok (.iload_n 2, 1) := by decide +kernel
theorem dX5_holds_114 : decode cX5_holds 114 = .ok (.iaload, 1) := by decide +kernel
theorem dX5_holds_115 : decode cX5_holds 115 = .ok (.invokevirtual 64, 3) := by decide +kernel
theorem dX5_holds_118 : decode cX5_holds 118 = .ok (.ifCond .ne 7, 3) := by decide +kernel
theorem dX5_holds_121 : decode cX5_holds 121 = .ok (.iconst 1, 1) := by decide +kernel
theorem dX5_holds_122 : decode cX5_holds 122 = .ok (.goto 4, 3) := by decide +kernel
theorem dX5_holds_125 : decode cX5_holds 125 = .ok (.iconst 0, 1) := by decide +kernel
theorem dX5_holds_126 : decode cX5_holds 126 = .ok (.ireturn, 1) := by decide +kernel
theorem dX5_holds_127 : decode cX5_holds 127 = .ok (.aload_n 1, 1) := by decide +kernel
theorem dX5_holds_128 : decode cX5_holds 128 = .ok (.getfield 32, 3) := by decide +kernel
theorem dX5_holds_131 : decode cX5_holds 131 = .ok (.getfield 61, 3) := by decide +kernel
theorem dX5_holds_134 : decode cX5_holds 134 = .ok (.iload_n 2, 1) := by decide +kernel
theorem dX5_holds_135 : decode cX5_holds 135 = .ok (.iaload, 1) := by decide +kernel
theorem dX5_holds_136 : decode cX5_holds 136 = .ok (.iload_n 3, 1) := by decide +kernel
theorem dX5_holds_137 : decode cX5_holds 137 = .ok (.if_icmp .ne 7, 3) := by decide +kernel
theorem dX5_holds_140 : decode cX5_holds 140 = .ok (.iconst 1, 1) := by decide +kernel
theorem dX5_holds_141 : decode cX5_holds 141 = .ok (.goto 4, 3) := by decide +kernel
theorem dX5_holds_144 : decode cX5_holds 144 = .ok (.iconst 0, 1) := by decide +kernel
theorem dX5_holds_145 : decode cX5_holds 145 = .ok (.ireturn, 1) := by decide +kernel
theorem dX5_holds_146 : decode cX5_holds 146 = .ok (.aload_n 1, 1) := by decide +kernel
theorem dX5_holds_147 : decode cX5_holds 147 = .ok (.getfield 32, 3) := by decide +kernel
theorem dX5_holds_150 : decode cX5_holds 150 = .ok (.iload_n 2, 1) := by decide +kernel
theorem dX5_holds_151 : decode cX5_holds 151 = .ok (.iload_n 3, 1) := by decide +kernel
theorem dX5_holds_152 : decode cX5_holds 152 = .ok (.invokevirtual 68, 3) := by decide +kernel
theorem dX5_holds_155 : decode cX5_holds 155 = .ok (.ireturn, 1) := by decide +kernel
theorem dX5_holds_156 : decode cX5_holds 156 = .ok (.aload_n 1, 1) := by decide +kernel
theorem dX5_holds_157 : decode cX5_holds 157 = .ok (.getfield 32, 3) := by decide +kernel
theorem dX5_holds_160 : decode cX5_holds 160 = .ok (.getfield 72, 3) := by decide +kernel
theorem dX5_holds_163 : decode cX5_holds 163 = .ok (.iload_n 2, 1) := by decide +kernel
theorem dX5_holds_164 : decode cX5_holds 164 = .ok (.iaload, 1) := by decide +kernel
theorem dX5_holds_165 : decode cX5_holds 165 = .ok (.iload 4, 2) := by decide +kernel
theorem dX5_holds_167 : decode cX5_holds 167 = .ok (.iload_n 3, 1) := by decide +kernel
theorem dX5_holds_168 : decode cX5_holds 168 = .ok (.invokestatic 75, 3) := by decide +kernel
theorem dX5_holds_171 : decode cX5_holds 171 = .ok (.ireturn, 1) := by decide +kernel
theorem dX5_holds_172 : decode cX5_holds 172 = .ok (.aload_n 1, 1) := by decide +kernel
theorem dX5_holds_173 : decode cX5_holds 173 = .ok (.getfield 32, 3) := by decide +kernel
theorem dX5_holds_176 : decode cX5_holds 176 = .ok (.getfield 79, 3) := by decide +kernel
theorem dX5_holds_179 : decode cX5_holds 179 = .ok (.iload_n 2, 1) := by decide +kernel
theorem dX5_holds_180 : decode cX5_holds 180 = .ok (.iaload, 1) := by decide +kernel
theorem dX5_holds_181 : decode cX5_holds 181 = .ok (.iload 4, 2) := by decide +kernel
theorem dX5_holds_183 : decode cX5_holds 183 = .ok (.iload_n 3, 1) := by decide +kernel
theorem dX5_holds_184 : decode cX5_holds 184 = .ok (.invokestatic 75, 3) := by decide +kernel
theorem dX5_holds_187 : decode cX5_holds 187 = .ok (.ireturn, 1) := by decide +kernel
theorem dX5_holds_188 : decode cX5_holds 188 = .ok (.aload_n 1, 1) := by decide +kernel
theorem dX5_holds_189 : decode cX5_holds 189 = .ok (.aload_n 1, 1) := by decide +kernel
theorem dX5_holds_190 : decode cX5_holds 190 = .ok (.getfield 58, 3) := by decide +kernel
theorem dX5_holds_193 : decode cX5_holds 193 = .ok (.iload_n 2, 1) := by decide +kernel
theorem dX5_holds_194 : decode cX5_holds 194 = .ok (.invokevirtual 54, 3) := by decide +kernel
theorem dX5_holds_197 : decode cX5_holds 197 = .ok (.invokestatic 82, 3) := by decide +kernel
theorem dX5_holds_200 : decode cX5_holds 200 = .ok (.iload 4, 2) := by decide +kernel
theorem dX5_holds_202 : decode cX5_holds 202 = .ok (.iload_n 3, 1) := by decide +kernel
theorem dX5_holds_203 : decode cX5_holds 203 = .ok (.invokestatic 75, 3) := by decide +kernel
theorem dX5_holds_206 : decode cX5_holds 206 = .ok (.ireturn, 1) := by decide +kernel
theorem dX5_holds_207 : decode cX5_holds 207 = .ok (.iload_n 2, 1) := by decide +kernel
theorem dX5_holds_208 : decode cX5_holds 208 = .ok (.iload 4, 2) := by decide +kernel
theorem dX5_holds_210 : decode cX5_holds 210 = .ok (.iload_n 3, 1) := by decide +kernel
theorem dX5_holds_211 : decode cX5_holds 211 = .ok (.invokestatic 75, 3) := by decide +kernel
theorem dX5_holds_214 : decode cX5_holds 214 = .ok (.ireturn, 1) := by decide +kernel
theorem dX5_compares_0 : decode cX5_compares 0 = .ok (.iload_n 1, 1) := by decide +kernel
theorem dX5_compares_1 : decode cX5_compares 1 = .ok (.bipush 60, 2) := by decide +kernel
theorem dX5_compares_3 : decode cX5_compares 3 = .ok (.if_icmp .ne 14, 3) := by decide +kernel
theorem dX5_compares_6 : decode cX5_compares 6 = .ok (.iload_n 0, 1) := by decide +kernel
theorem dX5_compares_7 : decode cX5_compares 7 = .ok (.iload_n 2, 1) := by decide +kernel
theorem dX5_compares_8 : decode cX5_compares 8 = .ok (.if_icmp .ge 7, 3) := by decide +kernel
theorem dX5_compares_11 : decode cX5_compares 11 = .ok (.iconst 1, 1) := by decide +kernel
theorem dX5_compares_12 : decode cX5_compares 12 = .ok (.goto 4, 3) := by decide +kernel
theorem dX5_compares_15 : decode cX5_compares 15 = .ok (.iconst 0, 1) := by decide +kernel
theorem dX5_compares_16 : decode cX5_compares 16 = .ok (.ireturn, 1) := by decide +kernel
theorem dX5_compares_17 : decode cX5_compares 17 = .ok (.iload_n 1, 1) := by decide +kernel
theorem dX5_compares_18 : decode cX5_compares 18 = .ok (.bipush 61, 2) := by decide +kernel
theorem dX5_compares_20 : decode cX5_compares 20 = .ok (.if_icmp .ne 16, 3) := by decide +kernel
theorem dX5_compares_23 : decode cX5_compares 23 = .ok (.iload_n 0, 1) := by decide +kernel
theorem dX5_compares_24 : decode cX5_compares 24 = .ok (.iload_n 2, 1) := by decide +kernel
theorem dX5_compares_25 : decode cX5_compares 25 = .ok (.if_icmp .ne 7, 3) := by decide +kernel
theorem dX5_compares_28 : decode cX5_compares 28 = .ok (.iconst 1, 1) := by decide +kernel
theorem dX5_compares_29 : decode cX5_compares 29 = .ok (.goto 17, 3) := by decide +kernel
theorem dX5_compares_32 : decode cX5_compares 32 = .ok (.iconst 0, 1) := by decide +kernel
theorem dX5_compares_33 : decode cX5_compares 33 = .ok (.goto 13, 3) := by decide +kernel
theorem dX5_compares_36 : decode cX5_compares 36 = .ok (.iload_n 0, 1) := by decide +kernel
theorem dX5_compares_37 : decode cX5_compares 37 = .ok (.iload_n 2, 1) := by decide +kernel
theorem dX5_compares_38 : decode cX5_compares 38 = .ok (.if_icmp .le 7, 3) := by decide +kernel
theorem dX5_compares_41 : decode cX5_compares 41 = .ok (.iconst 1, 1) := by decide +kernel
theorem dX5_compares_42 : decode cX5_compares 42 = .ok (.goto 4, 3) := by decide +kernel
theorem dX5_compares_45 : decode cX5_compares 45 = .ok (.iconst 0, 1) := by decide +kernel
theorem dX5_compares_46 : decode cX5_compares 46 = .ok (.ireturn, 1) := by decide +kernel
set_option maxRecDepth 20000 in
theorem ggX6_init_X5_init : GoodIn wsX6_init wsX5_init := goodIn_r _ [12, 13, 2, 3, 14, 15, 16, 17, 18, 19, 20] (by decide +kernel) (by decide +kernel)
set_option maxRecDepth 20000 in
theorem gX6_init_X5_init_n11 : GoodIn wsX6_init (wsX5_init) := ggX6_init_X5_init
theorem dX6_init_0 : decode cX6_init 0 = .ok (.aload_n 0, 1) := by decide +kernel
theorem dX6_init_1 : decode cX6_init 1 = .ok (.invokespecial 3, 3) := by decide +kernel
theorem dX6_init_4 : decode cX6_init 4 = .ok (.aload_n 0, 1) := by decide +kernel
theorem dX6_init_5 : decode cX6_init 5 = .ok (.new 9, 3) := by decide +kernel
theorem dX6_init_8 : decode cX6_init 8 = .ok (.dup, 1) := by decide +kernel
theorem dX6_init_9 : decode cX6_init 9 = .ok (.invokespecial 11, 3) := by decide +kernel
theorem dX6_init_12 : decode cX6_init 12 = .ok (.putfield 12, 3) := by decide +kernel
theorem dX6_init_15 : decode cX6_init 15 = .ok (.aload_n 0, 1) := by decide +kernel
theorem dX6_init_16 : decode cX6_init 16 = .ok (.iconst 0, 1) := by decide +kernel
theorem dX6_init_17 : decode cX6_init 17 = .ok (.putfield 18, 3) := by decide +kernel
theorem dX6_init_20 : decode cX6_init 20 = .ok (.aload_n 0, 1) := by decide +kernel
theorem dX6_init_21 : decode cX6_init 21 = .ok (.aload_n 1, 1) := by decide +kernel
theorem dX6_init_22 : decode cX6_init 22 = .ok (.putfield 22, 3) := by decide +kernel
theorem dX6_init_25 : decode cX6_init 25 = .ok (.aload_n 0, 1) := by decide +kernel
theorem dX6_init_26 : decode cX6_init 26 = .ok (.aload_n 2, 1) := by decide +kernel
theorem dX6_init_27 : decode cX6_init 27 = .ok (.putfield 26, 3) := by decide +kernel
theorem dX6_init_30 : decode cX6_init 30 = .ok (.return_, 1) := by decide +kernel
set_option maxRecDepth 20000 in
theorem ggX6_read_X5_clear : GoodIn wsX6_read wsX5_clear := goodIn_r _ [8, 9, 193, 194, 195] (by decide +kernel) (by decide +kernel)
set_option maxRecDepth 20000 in
theorem gX6_read_X5_clear : GoodIn wsX6_read (wsV RX6 30 RX5 yX5_clear wsX5_clear) := goodIn_app (goodIn_of _ (by decide +kernel)) ggX6_read_X5_clear
set_option maxRecDepth 20000 in
theorem ggX6_read_X8_open : GoodIn wsX6_read wsX8_open := goodIn_r _ [14, 15, 16, 17, 18, 19, 20, 21, 22, 23, 24, 25, 26, 27, 28, 29, 30, 13, 31, 32, 33, 34, 35, 36, 37, 38, 39, 40, 41, 42, 43, 44, 45, 46, 47, 48, 49, 50, 51, 52, 53, 54, 55, 56, 57, 58, 59, 60, 61, 62, 63, 64, 65, 66, 67, 68, 69, 70, 71, 72, 73, 74, 75, 76, 77, 78, 79, 80, 81, 82, 83, 84, 85, 86, 87, 88, 89, 90, 91, 92, 93, 94, 95, 96, 97, 98, 99, 100, 101, 102, 103, 104, 105, 106, 107, 108, 109, 110, 111, 112, 113, 114, 115, 116, 117, 118, 119, 196, 197, 198, 199, 200, 201, 202, 203, 204, 205, 206, 207, 208, 209, 210] (by decide +kernel) (by decide +kernel)
set_option maxRecDepth 20000 in
theorem gX6_read_X8_open : GoodIn wsX6_read (wsV RX6 33 RX8 yX8_open wsX8_open) := goodIn_app (goodIn_of _ (by decide +kernel)) ggX6_read_X8_open
set_option maxRecDepth 20000 in
theorem ggX6_read_X6_readCondition : GoodIn wsX6_read wsX6_readCondition := goodIn_r _ [124, 3, 1, 125, 126, 127, 123, 128, 129, 130, 13, 131, 116, 118, 132, 113, 114, 115, 27, 21, 105, 106, 117, 107, 108, 119, 133, 134, 135, 7, 136, 9, 137, 138, 139, 140, 141, 142, 143, 144, 2, 145, 146, 147, 148, 149, 150, 151, 152, 25, 26, 120, 121, 122, 153, 154, 155, 156, 157, 158, 112, 159, 160, 161, 162, 163, 23, 19, 24, 164, 165, 166, 167, 168, 169, 170, 171, 172, 173, 174, 175, 176, 177, 178, 179, 180, 181, 182, 183, 184, 189, 190, 191, 192, 196, 197, 198, 199, 200, 201, 202, 203, 204, 205, 206, 207, 208, 193, 194, 195, 211, 212, 213, 214, 215, 216, 217, 218, 219, 220, 221, 222, 223, 224, 225] (by decide +kernel) (by decide +kernel)
set_option maxRecDepth 20000 in
theorem gX6_read_X6_readCondition : GoodIn wsX6_read (wsV RX6 39 RX6 yX6_readCondition wsX6_readCondition) := goodIn_app (goodIn_of _ (by decide +kernel)) ggX6_read_X6_readCondition
set_option maxRecDepth 20000 in
theorem ggX6_read_X8_isAtEnd : GoodIn wsX6_read wsX8_isAtEnd := goodIn_r _ [188, 116, 196, 197, 198, 199, 200, 201, 202, 203, 204, 205, 206, 207, 208] (by decide +kernel) (by decide +kernel)
set_option maxRecDepth 20000 in
theorem gX6_read_X8_isAtEnd : GoodIn wsX6_read (wsV RX6 43 RX8 yX8_isAtEnd wsX8_isAtEnd) := goodIn_app (goodIn_of _ (by decide +kernel)) ggX6_read_X8_isAtEnd
set_option maxRecDepth 20000 in
theorem ggX6_read_X8_refuse : GoodIn wsX6_read wsX8_refuse := goodIn_r _ [152, 25, 117, 26, 196, 197, 198, 199, 200, 201, 202, 203, 204, 205, 206, 207, 208] (by decide +kernel) (by decide +kernel)
set_option maxRecDepth 20000 in
theorem gX6_read_X8_refuse : GoodIn wsX6_read (wsV RX6 47 RX8 yX8_refuse wsX8_refuse) := goodIn_app (goodIn_of _ (by decide +kernel)) ggX6_read_X8_refuse
theorem dX6_read_0 : decode cX6_read 0 = .ok (.aload_n 0, 1) := by decide +kernel
theorem dX6_read_1 : decode cX6_read 1 = .ok (.getfield 12, 3) := by decide +kernel
theorem dX6_read_4 : decode cX6_read 4 = .ok (.invokevirtual 30, 3) := by decide +kernel
theorem dX6_read_7 : decode cX6_read 7 = .ok (.aload_n 0, 1) := by decide +kernel
theorem dX6_read_8 : decode cX6_read 8 = .ok (.iconst 0, 1) := by decide +kernel
theorem dX6_read_9 : decode cX6_read 9 = .ok (.putfield 18, 3) := by decide +kernel
theorem dX6_read_12 : decode cX6_read 12 = .ok (.aload_n 0, 1) := by decide +kernel
theorem dX6_read_13 : decode cX6_read 13 = .ok (.getfield 22, 3) := by decide +kernel
theorem dX6_read_16 : decode cX6_read 16 = .ok (.sipush 200, 3) := by decide +kernel
theorem dX6_read_19 : decode cX6_read 19 = .ok (.invokevirtual 33, 3) := by decide +kernel
theorem dX6_read_22 : decode cX6_read 22 = .ok (.aload_n 0, 1) := by decide +kernel
theorem dX6_read_23 : decode cX6_read 23 = .ok (.iconst 0, 1) := by decide +kernel
theorem dX6_read_24 : decode cX6_read 24 = .ok (.invokevirtual 39, 3) := by decide +kernel
theorem dX6_read_27 : decode cX6_read 27 = .ok (.ifCond .eq 22, 3) := by decide +kernel
theorem dX6_read_30 : decode cX6_read 30 = .ok (.aload_n 0, 1) := by decide +kernel
theorem dX6_read_31 : decode cX6_read 31 = .ok (.getfield 22, 3) := by decide +kernel
theorem dX6_read_34 : decode cX6_read 34 = .ok (.invokevirtual 43, 3) := by decide +kernel
theorem dX6_read_37 : decode cX6_read 37 = .ok (.ifCond .ne 12, 3) := by decide +kernel
theorem dX6_read_40 : decode cX6_read 40 = .ok (.aload_n 0, 1) := by decide +kernel
theorem dX6_read_41 : decode cX6_read 41 = .ok (.getfield 22, 3) := by decide +kernel
theorem dX6_read_44 : decode cX6_read 44 = .ok (.iconst 1, 1) := by decide +kernel
theorem dX6_read_45 : decode cX6_read 45 = .ok (.invokevirtual 47, 3) := by decide +kernel
theorem dX6_read_48 : decode cX6_read 48 = .ok (.pop, 1) := by decide +kernel
theorem dX6_read_49 : decode cX6_read 49 = .ok (.aload_n 0, 1) := by decide +kernel
theorem dX6_read_50 : decode cX6_read 50 = .ok (.getfield 18, 3) := by decide +kernel
theorem dX6_read_53 : decode cX6_read 53 = .ok (.ireturn, 1) := by decide +kernel
set_option maxRecDepth 20000 in
theorem ggX6_readCondition_X6_readConjunction : GoodIn wsX6_readCondition wsX6_readConjunction := goodIn_r _ [33, 1, 2, 34, 35, 36, 6, 7, 8, 9, 10, 11, 12, 13, 14, 15, 16, 17, 18, 19, 20, 21, 22, 23, 24, 25, 26, 27, 28, 29, 30, 31, 32, 0, 3, 4, 5, 37, 38, 39, 40, 41, 42, 43, 44, 45, 46, 47, 48, 49, 50, 51, 52, 53, 54, 55, 56, 57, 58, 59, 60, 61, 62, 63, 64, 65, 66, 67, 68, 69, 70, 71, 72, 73, 74, 75, 76, 77, 78, 79, 80, 81, 82, 83, 84, 85, 86, 87, 88, 89, 90, 91, 92, 93, 94, 95, 96, 97, 98, 99, 100, 101, 102, 103, 104, 105, 106, 107, 108, 109, 110, 111, 112, 113, 114, 115, 116, 117, 118, 119, 120, 121, 122, 123, 124] (by decide +kernel) (by decide +kernel)
set_option maxRecDepth 20000 in
theorem gX6_readCondition_X6_readConjunction : GoodIn wsX6_readCondition (wsV RX6 50 RX6 yX6_readConjunction wsX6_readConjunction) := goodIn_app (goodIn_of _ (by decide +kernel)) ggX6_readCondition_X6_readConjunction
set_option maxRecDepth 20000 in
theorem ggX6_readCondition_X8_isKeyword : GoodIn wsX6_readCondition wsX8_isKeyword := goodIn_r _ [11, 12, 13, 94, 95, 96, 97, 98, 99, 100, 101, 102, 103, 104, 105, 106] (by decide +kernel) (by decide +kernel)
set_option maxRecDepth 20000 in
theorem gX6_readCondition_X8_isKeyword : GoodIn wsX6_readCondition (wsV RX6 53 RX8 yX8_isKeyword wsX8_isKeyword) := goodIn_app (goodIn_of _ (by decide +kernel)) ggX6_readCondition_X8_isKeyword
set_option maxRecDepth 20000 in
theorem ggX6_readCondition_X8_advance : GoodIn wsX6_readCondition wsX8_advance := goodIn_r _ [17, 18, 19, 20, 12, 21, 22, 23, 13, 24, 25, 94, 95, 96, 97, 98, 99, 100, 101, 102, 103, 104, 105, 106] (by decide +kernel) (by decide +kernel)
set_option maxRecDepth 20000 in
theorem gX6_readCondition_X8_advance : GoodIn wsX6_readCondition (wsV RX6 56 RX8 yX8_advance wsX8_advance) := goodIn_app (goodIn_of _ (by decide +kernel)) ggX6_readCondition_X8_advance
set_option maxRecDepth 20000 in
theorem ggX6_readCondition_X5_put : GoodIn wsX6_readCondition wsX5_put := goodIn_r _ [30, 31, 32, 107, 108, 109] (by decide +kernel) (by decide +kernel)
set_option maxRecDepth 20000 in
theorem gX6_readCondition_X5_put : GoodIn wsX6_readCondition (wsV RX6 59 RX5 yX5_put wsX5_put) := goodIn_app (goodIn_of _ (by decide +kernel)) ggX6_readCondition_X5_put
theorem dX6_readCondition_0 : decode cX6_readCondition 0 = .ok (.aload_n 0, 1) := by decide +kernel
theorem dX6_readCondition_1 : decode cX6_readCondition 1 = .ok (.iload_n 1, 1) := by decide +kernel
theorem dX6_readCondition_2 : decode cX6_readCondition 2 = .ok (.invokevirtual 50, 3) := by decide +kernel
theorem dX6_readCondition_5 : decode cX6_readCondition 5 = .ok (.istore_n 2, 1) := by decide +kernel
theorem dX6_readCondition_6 : decode cX6_readCondition 6 = .ok (.iconst 0, 1) := by decide +kernel
theorem dX6_readCondition_7 : decode cX6_readCondition 7 = .ok (.istore_n 3, 1) := by decide +kernel
theorem dX6_readCondition_8 : decode cX6_readCondition 8 = .ok (.iload_n 3, 1) := by decide +kernel
theorem dX6_readCondition_9 : decode cX6_readCondition 9 = .ok (.bipush 20, 2) := by decide +kernel
theorem dX6_readCondition_11 : decode cX6_readCondition 11 = .ok (.if_icmp .gt 50, 3) := by decide +kernel
theorem dX6_readCondition_14 : decode cX6_readCondition 14 = .ok (.iload_n 2, 1) := by decide +kernel
theorem dX6_readCondition_15 : decode cX6_readCondition 15 = .ok (.ifCond .eq 46, 3) := by decide +kernel
theorem dX6_readCondition_18 : decode cX6_readCondition 18 = .ok (.aload_n 0, 1) := by decide +kernel
theorem dX6_readCondition_19 : decode cX6_readCondition 19 = .ok (.getfield 22, 3) := by decide +kernel
theorem dX6_readCondition_22 : decode cX6_readCondition 22 = .ok (.bipush 14, 2) := by decide +kernel
theorem dX6_readCondition_24 : decode cX6_readCondition 24 = .ok (.invokevirtual 53, 3) := by decide +kernel
theorem dX6_readCondition_27 : decode cX6_readCondition 27 = .ok (.ifCond .eq 34, 3) := by decide +kernel
theorem dX6_readCondition_30 : decode cX6_readCondition 30 = .ok (.aload_n 0, 1) := by decide +kernel
theorem dX6_readCondition_31 : decode cX6_readCondition 31 = .ok (.getfield 22, 3) := by decide +kernel
theorem dX6_readCondition_34 : decode cX6_readCondition 34 = .ok (.invokevirtual 56, 3) := by decide +kernel
theorem dX6_readCondition_37 : decode cX6_readCondition 37 = .ok (.aload_n 0, 1) := by decide +kernel
theorem dX6_readCondition_38 : decode cX6_readCondition 38 = .ok (.iload_n 1, 1) := by decide +kernel
theorem dX6_readCondition_39 : decode cX6_readCondition 39 = .ok (.invokevirtual 50, 3) := by decide +kernel
theorem dX6_readCondition_42 : decode cX6_readCondition 42 = .ok (.istore_n 2, 1) := by decide +kernel
theorem dX6_readCondition_43 : decode cX6_readCondition 43 = .ok (.aload_n 0, 1) := by decide +kernel
theorem dX6_readCondition_44 : decode cX6_readCondition 44 = .ok (.getfield 12, 3) := by decide +kernel
theorem dX6_readCondition_47 : decode cX6_readCondition 47 = .ok (.bipush 14, 2) := by decide +kernel
theorem dX6_readCondition_49 : decode cX6_readCondition 49 = .ok (.bipush 60, 2) := by decide +kernel
theorem dX6_readCondition_51 : decode cX6_readCondition 51 = .ok (.iconst 0, 1) := by decide +kernel
theorem dX6_readCondition_52 : decode cX6_readCondition 52 = .ok (.invokevirtual 59, 3) := by decide +kernel
theorem dX6_readCondition_55 : decode cX6_readCondition 55 = .ok (.iinc 3 1, 3) := by decide +kernel
theorem dX6_readCondition_58 : decode cX6_readCondition 58 = .ok (.goto (-50), 3) := by decide +kernel
theorem dX6_readCondition_61 : decode cX6_readCondition 61 = .ok (.iload_n 2, 1) := by decide +kernel
theorem dX6_readCondition_62 : decode cX6_readCondition 62 = .ok (.ireturn, 1) := by decide +kernel
set_option maxRecDepth 20000 in
theorem ggX6_readConjunction_X6_readOne : GoodIn wsX6_readConjunction wsX6_readOne := goodIn_r _ [37, 1, 38, 39, 40, 2, 41, 42, 43, 10, 44, 12, 13, 45, 46, 47, 48, 49, 22, 50, 14, 15, 16, 17, 18, 19, 20, 21, 23, 24, 25, 51, 52, 53, 6, 54, 55, 56, 57, 58, 59, 60, 3, 4, 5, 26, 27, 28, 29, 30, 31, 32, 61, 62, 63, 64, 65, 66, 67, 68, 69, 70, 71, 72, 73, 74, 75, 76, 77, 78, 79, 80, 81, 82, 83, 84, 85, 86, 87, 88, 89, 33, 34, 35, 36, 7, 8, 9, 11, 0, 90, 91, 92, 93, 94, 95, 96, 97, 98, 99, 100, 101, 102, 103, 104, 105, 106, 107, 108, 109, 110, 111, 112, 113, 114, 115, 116, 117, 118, 119, 120, 121, 122, 123, 124] (by decide +kernel) (by decide +kernel)
set_option maxRecDepth 20000 in
theorem gX6_readConjunction_X6_readOne : GoodIn wsX6_readConjunction (wsV RX6 63 RX6 yX6_readOne wsX6_readOne) := goodIn_app (goodIn_of _ (by decide +kernel)) ggX6_readConjunction_X6_readOne
set_option maxRecDepth 20000 in
theorem ggX6_readConjunction_X8_isKeyword : GoodIn wsX6_readConjunction wsX8_isKeyword := goodIn_r _ [11, 12, 13, 94, 95, 96, 97, 98, 99, 100, 101, 102, 103, 104, 105, 106] (by decide +kernel) (by decide +kernel)
set_option maxRecDepth 20000 in
theorem gX6_readConjunction_X8_isKeyword : GoodIn wsX6_readConjunction (wsV RX6 53 RX8 yX8_isKeyword wsX8_isKeyword) := goodIn_app (goodIn_of _ (by decide +kernel)) ggX6_readConjunction_X8_isKeyword
set_option maxRecDepth 20000 in
theorem ggX6_readConjunction_X8_advance : GoodIn wsX6_readConjunction wsX8_advance := goodIn_r _ [17, 18, 19, 20, 12, 21, 22, 23, 13, 24, 25, 94, 95, 96, 97, 98, 99, 100, 101, 102, 103, 104, 105, 106] (by decide +kernel) (by decide +kernel)
set_option maxRecDepth 20000 in
theorem gX6_readConjunction_X8_advance : GoodIn wsX6_readConjunction (wsV RX6 56 RX8 yX8_advance wsX8_advance) := goodIn_app (goodIn_of _ (by decide +kernel)) ggX6_readConjunction_X8_advance
set_option maxRecDepth 20000 in
theorem ggX6_readConjunction_X5_put : GoodIn wsX6_readConjunction wsX5_put := goodIn_r _ [30, 31, 32, 107, 108, 109] (by decide +kernel) (by decide +kernel)
set_option maxRecDepth 20000 in
theorem gX6_readConjunction_X5_put : GoodIn wsX6_readConjunction (wsV RX6 59 RX5 yX5_put wsX5_put) := goodIn_app (goodIn_of _ (by decide +kernel)) ggX6_readConjunction_X5_put
theorem dX6_readConjunction_0 : decode cX6_readConjunction 0 = .ok (.aload_n 0, 1) := by decide +kernel
theorem dX6_readConjunction_1 : decode cX6_readConjunction 1 = .ok (.iload_n 1, 1) := by decide +kernel
theorem dX6_readConjunction_2 : decode cX6_readConjunction 2 = .ok (.invokevirtual 63, 3) := by decide +kernel
theorem dX6_readConjunction_5 : decode cX6_readConjunction 5 = .ok (.istore_n 2, 1) := by decide +kernel
theorem dX6_readConjunction_6 : decode cX6_readConjunction 6 = .ok (.iconst 0, 1) := by decide +kernel
theorem dX6_readConjunction_7 : decode cX6_readConjunction 7 = .ok (.istore_n 3, 1) := by decide +kernel
theorem dX6_readConjunction_8 : decode cX6_readConjunction 8 = .ok (.iload_n 3, 1) := by decide +kernel
theorem dX6_readConjunction_9 : decode cX6_readConjunction 9 = .ok (.bipush 20, 2) := by decide +kernel
theorem dX6_readConjunction_11 : decode cX6_readConjunction 11 = .ok (.if_icmp .gt 50, 3) := by decide +kernel
theorem dX6_readConjunction_14 : decode cX6_readConjunction 14 = .ok (.iload_n 2, 1) := by decide +kernel
theorem dX6_readConjunction_15 : decode cX6_readConjunction 15 = .ok (.ifCond .eq 46, 3) := by decide +kernel
theorem dX6_readConjunction_18 : decode cX6_readConjunction 18 = .ok (.aload_n 0, 1) := by decide +kernel
theorem dX6_readConjunction_19 : decode cX6_readConjunction 19 = .ok (.getfield 22, 3) := by decide +kernel
theorem dX6_readConjunction_22 : decode cX6_readConjunction 22 = .ok (.bipush 15, 2) := by decide +kernel
theorem dX6_readConjunction_24 : decode cX6_readConjunction 24 = .ok (.invokevirtual 53, 3) := by decide +kernel
theorem dX6_readConjunction_27 : decode cX6_readConjunction 27 = .ok (.ifCond .eq 34, 3) := by decide +kernel
theorem dX6_readConjunction_30 : decode cX6_readConjunction 30 = .ok (.aload_n 0, 1) := by decide +kernel
theorem dX6_readConjunction_31 : decode cX6_readConjunction 31 = .ok (.getfield 22, 3) := by decide +kernel
theorem dX6_readConjunction_34 : decode cX6_readConjunction 34 = .ok (.invokevirtual 56, 3) := by decide +kernel
theorem dX6_readConjunction_37 : decode cX6_readConjunction 37 = .ok (.aload_n 0, 1) := by decide +kernel
theorem dX6_readConjunction_38 : decode cX6_readConjunction 38 = .ok (.iload_n 1, 1) := by decide +kernel
theorem dX6_readConjunction_39 : decode cX6_readConjunction 39 = .ok (.invokevirtual 63, 3) := by decide +kernel
theorem dX6_readConjunction_42 : decode cX6_readConjunction 42 = .ok (.istore_n 2, 1) := by decide +kernel
theorem dX6_readConjunction_43 : decode cX6_readConjunction 43 = .ok (.aload_n 0, 1) := by decide +kernel
theorem dX6_readConjunction_44 : decode cX6_readConjunction 44 = .ok (.getfield 12, 3) := by decide +kernel
theorem dX6_readConjunction_47 : decode cX6_readConjunction 47 = .ok (.bipush 15, 2) := by decide +kernel
theorem dX6_readConjunction_49 : decode cX6_readConjunction 49 = .ok (.bipush 60, 2) := by decide +kernel
theorem dX6_readConjunction_51 : decode cX6_readConjunction 51 = .ok (.iconst 0, 1) := by decide +kernel
theorem dX6_readConjunction_52 : decode cX6_readConjunction 52 = .ok (.invokevirtual 59, 3) := by decide +kernel
theorem dX6_readConjunction_55 : decode cX6_readConjunction 55 = .ok (.iinc 3 1, 3) := by decide +kernel
theorem dX6_readConjunction_58 : decode cX6_readConjunction 58 = .ok (.goto (-50), 3) := by decide +kernel
theorem dX6_readConjunction_61 : decode cX6_readConjunction 61 = .ok (.iload_n 2, 1) := by decide +kernel
theorem dX6_readConjunction_62 : decode cX6_readConjunction 62 = .ok (.ireturn, 1) := by decide +kernel
set_option maxRecDepth 20000 in
theorem ggX6_readOne_X8_isSymbol : GoodIn wsX6_readOne wsX8_isSymbol := goodIn_r _ [10, 11, 12, 94, 95, 96, 97, 98, 99, 100, 101, 102, 103, 104, 105, 106] (by decide +kernel) (by decide +kernel)
set_option maxRecDepth 20000 in
theorem gX6_readOne_X8_isSymbol : GoodIn wsX6_readOne (wsV RX6 66 RX8 yX8_isSymbol wsX8_isSymbol) := goodIn_app (goodIn_of _ (by decide +kernel)) ggX6_readOne_X8_isSymbol
set_option maxRecDepth 20000 in
theorem ggX6_readOne_X8_refuse : GoodIn wsX6_readOne wsX8_refuse := goodIn_r _ [16, 17, 18, 19, 94, 95, 96, 97, 98, 99, 100, 101, 102, 103, 104, 105, 106] (by decide +kernel) (by decide +kernel)
set_option maxRecDepth 20000 in
theorem gX6_readOne_X8_refuse : GoodIn wsX6_readOne (wsV RX6 47 RX8 yX8_refuse wsX8_refuse) := goodIn_app (goodIn_of _ (by decide +kernel)) ggX6_readOne_X8_refuse
set_option maxRecDepth 20000 in
theorem ggX6_readOne_X8_advance : GoodIn wsX6_readOne wsX8_advance := goodIn_r _ [23, 24, 25, 26, 11, 27, 18, 28, 12, 29, 30, 94, 95, 96, 97, 98, 99, 100, 101, 102, 103, 104, 105, 106] (by decide +kernel) (by decide +kernel)
set_option maxRecDepth 20000 in
theorem gX6_readOne_X8_advance : GoodIn wsX6_readOne (wsV RX6 56 RX8 yX8_advance wsX8_advance) := goodIn_app (goodIn_of _ (by decide +kernel)) ggX6_readOne_X8_advance
set_option maxRecDepth 20000 in
theorem ggX6_readOne_X6_readCondition : GoodIn wsX6_readOne wsX6_readCondition := goodIn_r _ [81, 1, 5, 82, 83, 84, 34, 85, 86, 87, 9, 88, 11, 12, 20, 21, 22, 23, 24, 25, 26, 27, 18, 28, 29, 30, 45, 46, 47, 48, 49, 50, 51, 89, 42, 43, 44, 0, 2, 3, 4, 6, 7, 8, 10, 13, 14, 15, 16, 17, 19, 31, 32, 33, 35, 36, 37, 38, 39, 40, 41, 52, 53, 54, 55, 56, 57, 58, 59, 60, 61, 62, 63, 64, 65, 66, 67, 68, 69, 70, 71, 72, 73, 74, 75, 76, 77, 78, 79, 80, 90, 91, 92, 93, 94, 95, 96, 97, 98, 99, 100, 101, 102, 103, 104, 105, 106, 107, 108, 109, 110, 111, 112, 113, 114, 115, 116, 117, 118, 119, 120, 121, 122, 123, 124] (by decide +kernel) (by decide +kernel)
set_option maxRecDepth 20000 in
theorem gX6_readOne_X6_readCondition : GoodIn wsX6_readOne (wsV RX6 39 RX6 yX6_readCondition wsX6_readCondition) := goodIn_app (goodIn_of _ (by decide +kernel)) ggX6_readOne_X6_readCondition
set_option maxRecDepth 20000 in
theorem ggX6_readOne_X8_takeSymbol : GoodIn wsX6_readOne wsX8_takeSymbol := goodIn_r _ [38, 39, 7, 8, 9, 10, 11, 12, 40, 14, 15, 16, 17, 18, 19, 41, 21, 22, 23, 24, 25, 26, 27, 28, 29, 30, 94, 95, 96, 97, 98, 99, 100, 101, 102, 103, 104, 105, 106] (by decide +kernel) (by decide +kernel)
set_option maxRecDepth 20000 in
theorem gX6_readOne_X8_takeSymbol : GoodIn wsX6_readOne (wsV RX6 75 RX8 yX8_takeSymbol wsX8_takeSymbol) := goodIn_app (goodIn_of _ (by decide +kernel)) ggX6_readOne_X8_takeSymbol
set_option maxRecDepth 20000 in
theorem ggX6_readOne_X6_readOne : GoodIn wsX6_readOne wsX6_readOne := goodIn_r _ [0, 1, 2, 3, 4, 5, 6, 7, 8, 9, 10, 11, 12, 13, 14, 15, 16, 17, 18, 19, 20, 21, 22, 23, 24, 25, 26, 27, 28, 29, 30, 31, 32, 33, 34, 35, 36, 37, 38, 39, 40, 41, 42, 43, 44, 45, 46, 47, 48, 49, 50, 51, 52, 53, 54, 55, 56, 57, 58, 59, 60, 61, 62, 63, 64, 65, 66, 67, 68, 69, 70, 71, 72, 73, 74, 75, 76, 77, 78, 79, 80, 81, 82, 83, 84, 85, 86, 87, 88, 89, 90, 91, 92, 93, 94, 95, 96, 97, 98, 99, 100, 101, 102, 103, 104, 105, 106, 107, 108, 109, 110, 111, 112, 113, 114, 115, 116, 117, 118, 119, 120, 121, 122, 123, 124] (by decide +kernel) (by decide +kernel)
set_option maxRecDepth 20000 in
theorem gX6_readOne_X6_readOne : GoodIn wsX6_readOne (wsV RX6 63 RX6 yX6_readOne wsX6_readOne) := goodIn_app (goodIn_of _ (by decide +kernel)) ggX6_readOne_X6_readOne
set_option maxRecDepth 20000 in
theorem ggX6_readOne_X5_put : GoodIn wsX6_readOne wsX5_put := goodIn_r _ [49, 50, 51, 107, 108, 109] (by decide +kernel) (by decide +kernel)
set_option maxRecDepth 20000 in
theorem gX6_readOne_X5_put : GoodIn wsX6_readOne (wsV RX6 59 RX5 yX5_put wsX5_put) := goodIn_app (goodIn_of _ (by decide +kernel)) ggX6_readOne_X5_put
set_option maxRecDepth 20000 in
theorem ggX6_readOne_X6_readComparison : GoodIn wsX6_readOne wsX6_readComparison := goodIn_r _ [55, 1, 3, 5, 56, 57, 58, 59, 6, 7, 8, 9, 10, 11, 12, 13, 14, 15, 16, 17, 18, 19, 20, 21, 22, 23, 24, 25, 26, 27, 28, 29, 30, 60, 61, 62, 63, 40, 41, 45, 46, 47, 48, 49, 50, 51, 90, 91, 92, 93, 94, 95, 96, 97, 98, 99, 100, 101, 102, 103, 104, 105, 106, 107, 108, 109] (by decide +kernel) (by decide +kernel)
set_option maxRecDepth 20000 in
theorem gX6_readOne_X6_readComparison : GoodIn wsX6_readOne (wsV RX6 78 RX6 yX6_readComparison wsX6_readComparison) := goodIn_app (goodIn_of _ (by decide +kernel)) ggX6_readOne_X6_readComparison
set_option maxRecDepth 20000 in
theorem ggX6_readOne_X6_readSingle : GoodIn wsX6_readOne wsX6_readSingle := goodIn_r _ [67, 1, 68, 69, 70, 71, 72, 5, 56, 57, 58, 59, 73, 74, 75, 9, 76, 11, 30, 40, 14, 15, 16, 17, 18, 19, 77, 78, 79, 80, 20, 21, 22, 23, 24, 25, 26, 27, 28, 12, 29, 45, 46, 47, 48, 49, 50, 51, 90, 91, 92, 93, 110, 111, 112, 113, 114, 115, 116, 117, 118, 119, 120, 121, 122, 123, 124, 94, 95, 96, 97, 98, 99, 100, 101, 102, 103, 104, 105, 106, 107, 108, 109] (by decide +kernel) (by decide +kernel)
set_option maxRecDepth 20000 in
theorem gX6_readOne_X6_readSingle : GoodIn wsX6_readOne (wsV RX6 81 RX6 yX6_readSingle wsX6_readSingle) := goodIn_app (goodIn_of _ (by decide +kernel)) ggX6_readOne_X6_readSingle
theorem dX6_readOne_0 : decode cX6_readOne 0 = .ok (.aload_n 0, 1) := by decide +kernel
theorem dX6_readOne_1 : decode cX6_readOne 1 = .ok (.getfield 22, 3) := by decide +kernel
theorem dX6_readOne_4 : decode cX6_readOne 4 = .ok (.bipush 40, 2) := by decide +kernel
theorem dX6_readOne_6 : decode cX6_readOne 6 = .ok (.invokevirtual 66, 3) := by decide +kernel
theorem dX6_readOne_9 : decode cX6_readOne 9 = .ok (.istore_n 2, 1) := by decide +kernel
theorem dX6_readOne_10 : decode cX6_readOne 10 = .ok (.iload_n 2, 1) := by decide +kernel
theorem dX6_readOne_11 : decode cX6_readOne 11 = .ok (.ifCond .ne 47, 3) := by decide +kernel
theorem dX6_readOne_14 : decode cX6_readOne 14 = .ok (.aload_n 0, 1) := by decide +kernel
theorem dX6_readOne_15 : decode cX6_readOne 15 = .ok (.getfield 22, 3) := by decide +kernel
theorem dX6_readOne_18 : decode cX6_readOne 18 = .ok (.getfield 69, 3) := by decide +kernel
theorem dX6_readOne_21 : decode cX6_readOne 21 = .ok (.iconst 3, 1) := by decide +kernel
theorem dX6_readOne_22 : decode cX6_readOne 22 = .ok (.if_icmp .ne 27, 3) := by decide +kernel
theorem dX6_readOne_25 : decode cX6_readOne 25 = .ok (.aload_n 0, 1) := by decide +kernel
theorem dX6_readOne_26 : decode cX6_readOne 26 = .ok (.getfield 22, 3) := by decide +kernel
theorem dX6_readOne_29 : decode cX6_readOne 29 = .ok (.getfield 72, 3) := by decide +kernel
theorem dX6_readOne_32 : decode cX6_readOne 32 = .ok (.bipush 16, 2) := by decide +kernel
theorem dX6_readOne_34 : decode cX6_readOne 34 = .ok (.if_icmp .lt 15, 3) := by decide +kernel
theorem dX6_readOne_37 : decode cX6_readOne 37 = .ok (.aload_n 0, 1) := by decide +kernel
theorem dX6_readOne_38 : decode cX6_readOne 38 = .ok (.getfield 22, 3) := by decide +kernel
theorem dX6_readOne_41 : decode cX6_readOne 41 = .ok (.getfield 72, 3) := by decide +kernel
theorem dX6_readOne_44 : decode cX6_readOne 44 = .ok (.bipush 25, 2) := by decide +kernel
theorem dX6_readOne_46 : decode cX6_readOne 46 = .ok (.if_icmp .le 12, 3) := by decide +kernel
theorem dX6_readOne_49 : decode cX6_readOne 49 = .ok (.aload_n 0, 1) := by decide +kernel
theorem dX6_readOne_50 : decode cX6_readOne 50 = .ok (.getfield 22, 3) := by decide +kernel
theorem dX6_readOne_53 : decode cX6_readOne 53 = .ok (.iconst 1, 1) := by decide +kernel
theorem dX6_readOne_54 : decode cX6_readOne 54 = .ok (.invokevirtual 47, 3) := by decide +kernel
theorem dX6_readOne_57 : decode cX6_readOne 57 = .ok (.ireturn, 1) := by decide +kernel
theorem dX6_readOne_58 : decode cX6_readOne 58 = .ok (.aload_n 0, 1) := by decide +kernel
theorem dX6_readOne_59 : decode cX6_readOne 59 = .ok (.getfield 18, 3) := by decide +kernel
theorem dX6_readOne_62 : decode cX6_readOne 62 = .ok (.bipush 20, 2) := by decide +kernel
theorem dX6_readOne_64 : decode cX6_readOne 64 = .ok (.if_icmp .ge 9, 3) := by decide +kernel
theorem dX6_readOne_67 : decode cX6_readOne 67 = .ok (.iload_n 1, 1) := by decide +kernel
theorem dX6_readOne_68 : decode cX6_readOne 68 = .ok (.bipush 8, 2) := by decide +kernel
theorem dX6_readOne_70 : decode cX6_readOne 70 = .ok (.if_icmp .lt 12, 3) := by decide +kernel
theorem dX6_readOne_73 : decode cX6_readOne 73 = .ok (.aload_n 0, 1) := by decide +kernel
theorem dX6_readOne_74 : decode cX6_readOne 74 = .ok (.getfield 22, 3) := by decide +kernel
theorem dX6_readOne_77 : decode cX6_readOne 77 = .ok (.iconst 4, 1) := by decide +kernel
theorem dX6_readOne_78 : decode cX6_readOne 78 = .ok (.invokevirtual 47, 3) := by decide +kernel
theorem dX6_readOne_81 : decode cX6_readOne 81 = .ok (.ireturn, 1) := by decide +kernel
theorem dX6_readOne_82 : decode cX6_readOne 82 = .ok (.aload_n 0, 1) := by decide +kernel
theorem dX6_readOne_83 : decode cX6_readOne 83 = .ok (.dup, 1) := by decide +kernel
theorem dX6_readOne_84 : decode cX6_readOne 84 = .ok (.getfield 18, 3) := by decide +kernel
theorem dX6_readOne_87 : decode cX6_readOne 87 = .ok (.iconst 1, 1) := by decide +kernel
theorem dX6_readOne_88 : decode cX6_readOne 88 = .ok (.iadd, 1) := by decide +kernel
theorem dX6_readOne_89 : decode cX6_readOne 89 = .ok (.putfield 18, 3) := by decide +kernel
theorem dX6_readOne_92 : decode cX6_readOne 92 = .ok (.aload_n 0, 1) := by decide +kernel
theorem dX6_readOne_93 : decode cX6_readOne 93 = .ok (.getfield 22, 3) := by decide +kernel
theorem dX6_readOne_96 : decode cX6_readOne 96 = .ok (.getfield 72, 3) := by decide +kernel
theorem dX6_readOne_99 : decode cX6_readOne 99 = .ok (.istore_n 3, 1) := by decide +kernel
theorem dX6_readOne_100 : decode cX6_readOne 100 = .ok (.aload_n 0, 1) := by decide +kernel
theorem dX6_readOne_101 : decode cX6_readOne 101 = .ok (.getfield 22, 3) := by decide +kernel
theorem dX6_readOne_104 : decode cX6_readOne 104 = .ok (.invokevirtual 56, 3) := by decide +kernel
theorem dX6_readOne_107 : decode cX6_readOne 107 = .ok (.iload_n 2, 1) := by decide +kernel
theorem dX6_readOne_108 : decode cX6_readOne 108 = .ok (.ifCond .eq 31, 3) := by decide +kernel
theorem dX6_readOne_111 : decode cX6_readOne 111 = .ok (.aload_n 0, 1) := by decide +kernel
theorem dX6_readOne_112 : decode cX6_readOne 112 = .ok (.iload_n 1, 1) := by decide +kernel
theorem dX6_readOne_113 : decode cX6_readOne 113 = .ok (.iconst 1, 1) := by decide +kernel
theorem dX6_readOne_114 : decode cX6_readOne 114 = .ok (.iadd, 1) := by decide +kernel
theorem dX6_readOne_115 : decode cX6_readOne 115 = .ok (.invokevirtual 39, 3) := by decide +kernel
theorem dX6_readOne_118 : decode cX6_readOne 118 = .ok (.ifCond .eq 19, 3) := by decide +kernel
theorem dX6_readOne_121 : decode cX6_readOne 121 = .ok (.aload_n 0, 1) := by decide +kernel
theorem dX6_readOne_122 : decode cX6_readOne 122 = .ok (.getfield 22, 3) := by decide +kernel
theorem dX6_readOne_125 : decode cX6_readOne 125 = .ok (.bipush 41, 2) := by decide +kernel
theorem dX6_readOne_127 : decode cX6_readOne 127 = .ok (.invokevirtual 75, 3) := by decide +kernel
theorem dX6_readOne_130 : decode cX6_readOne 130 = .ok (.ifCond .eq 7, 3) := by decide +kernel
theorem dX6_readOne_133 : decode cX6_readOne 133 = .ok (.iconst 1, 1) := by decide +kernel
theorem dX6_readOne_134 : decode cX6_readOne 134 = .ok (.goto 4, 3) := by decide +kernel
theorem dX6_readOne_137 : decode cX6_readOne 137 = .ok (.iconst 0, 1) := by decide +kernel
theorem dX6_readOne_138 : decode cX6_readOne 138 = .ok (.ireturn, 1) := by decide +kernel
theorem dX6_readOne_139 : decode cX6_readOne 139 = .ok (.iload_n 3, 1) := by decide +kernel
theorem dX6_readOne_140 : decode cX6_readOne 140 = .ok (.bipush 16, 2) := by decide +kernel
theorem dX6_readOne_142 : decode cX6_readOne 142 = .ok (.if_icmp .ne 27, 3) := by decide +kernel
theorem dX6_readOne_145 : decode cX6_readOne 145 = .ok (.aload_n 0, 1) := by decide +kernel
theorem dX6_readOne_146 : decode cX6_readOne 146 = .ok (.iload_n 1, 1) := by decide +kernel
theorem dX6_readOne_147 : decode cX6_readOne 147 = .ok (.iconst 1, 1) := by decide +kernel
theorem dX6_readOne_148 : decode cX6_readOne 148 = .ok (.iadd, 1) := by decide +kernel
theorem dX6_readOne_149 : decode cX6_readOne 149 = .ok (.invokevirtual 63, 3) := by decide +kernel
theorem dX6_readOne_152 : decode cX6_readOne 152 = .ok (.istore 4, 2) := by decide +kernel
theorem dX6_readOne_154 : decode cX6_readOne 154 = .ok (.aload_n 0, 1) := by decide +kernel
theorem dX6_readOne_155 : decode cX6_readOne 155 = .ok (.getfield 12, 3) := by decide +kernel
theorem dX6_readOne_158 : decode cX6_readOne 158 = .ok (.bipush 16, 2) := by decide +kernel
theorem dX6_readOne_160 : decode cX6_readOne 160 = .ok (.bipush 60, 2) := by decide +kernel
theorem dX6_readOne_162 : decode cX6_readOne 162 = .ok (.iconst 0, 1) := by decide +kernel
theorem dX6_readOne_163 : decode cX6_readOne 163 = .ok (.invokevirtual 59, 3) := by decide +kernel
theorem dX6_readOne_166 : decode cX6_readOne 166 = .ok (.iload 4, 2) := by decide +kernel
theorem dX6_readOne_168 : decode cX6_readOne 168 = .ok (.ireturn, 1) := by decide +kernel
theorem dX6_readOne_169 : decode cX6_readOne 169 = .ok (.iload_n 3, 1) := by decide +kernel
theorem dX6_readOne_170 : decode cX6_readOne 170 = .ok (.bipush 22, 2) := by decide +kernel
theorem dX6_readOne_172 : decode cX6_readOne 172 = .ok (.if_icmp .lt 9, 3) := by decide +kernel
theorem dX6_readOne_175 : decode cX6_readOne 175 = .ok (.aload_n 0, 1) := by decide +kernel
theorem dX6_readOne_176 : decode cX6_readOne 176 = .ok (.iload_n 3, 1) := by decide +kernel
theorem dX6_readOne_177 : decode cX6_readOne 177 = .ok (.invokevirtual 78, 3) := by decide +kernel
theorem dX6_readOne_180 : decode cX6_readOne 180 = .ok (.ireturn, 1) := by decide +kernel
theorem dX6_readOne_181 : decode cX6_readOne 181 = .ok (.aload_n 0, 1) := by decide +kernel
theorem dX6_readOne_182 : decode cX6_readOne 182 = .ok (.iload_n 3, 1) := by decide +kernel
theorem dX6_readOne_183 : decode cX6_readOne 183 = .ok (.invokevirtual 81, 3) := by decide +kernel
theorem dX6_readOne_186 : decode cX6_readOne 186 = .ok (.ireturn, 1) := by decide +kernel
set_option maxRecDepth 20000 in
theorem ggX6_readSingle_X8_findName : GoodIn wsX6_readSingle wsX8_findName := goodIn_r _ [16, 17, 18, 19, 20, 21, 15, 22, 23, 24, 25, 26, 27, 28, 29, 67, 68, 69, 70, 71, 72, 73, 74, 75, 76, 77, 78, 79] (by decide +kernel) (by decide +kernel)
set_option maxRecDepth 20000 in
theorem gX6_readSingle_X8_findName : GoodIn wsX6_readSingle (wsV RX6 93 RX8 yX8_findName wsX8_findName) := goodIn_app (goodIn_of _ (by decide +kernel)) ggX6_readSingle_X8_findName
set_option maxRecDepth 20000 in
theorem ggX6_readSingle_X8_advance : GoodIn wsX6_readSingle wsX8_advance := goodIn_r _ [33, 34, 35, 36, 17, 37, 24, 38, 39, 40, 18, 67, 68, 69, 70, 71, 72, 73, 74, 75, 76, 77, 78, 79] (by decide +kernel) (by decide +kernel)
set_option maxRecDepth 20000 in
theorem gX6_readSingle_X8_advance : GoodIn wsX6_readSingle (wsV RX6 56 RX8 yX8_advance wsX8_advance) := goodIn_app (goodIn_of _ (by decide +kernel)) ggX6_readSingle_X8_advance
set_option maxRecDepth 20000 in
theorem ggX6_readSingle_X5_put : GoodIn wsX6_readSingle wsX5_put := goodIn_r _ [45, 46, 47, 80, 81, 82] (by decide +kernel) (by decide +kernel)
set_option maxRecDepth 20000 in
theorem gX6_readSingle_X5_put : GoodIn wsX6_readSingle (wsV RX6 59 RX5 yX5_put wsX5_put) := goodIn_app (goodIn_of _ (by decide +kernel)) ggX6_readSingle_X5_put
theorem dX6_readSingle_0 : decode cX6_readSingle 0 = .ok (.iconst 0, 1) := by decide +kernel
theorem dX6_readSingle_1 : decode cX6_readSingle 1 = .ok (.istore_n 2, 1) := by decide +kernel
theorem dX6_readSingle_2 : decode cX6_readSingle 2 = .ok (.iload_n 1, 1) := by decide +kernel
theorem dX6_readSingle_3 : decode cX6_readSingle 3 = .ok (.bipush 20, 2) := by decide +kernel
theorem dX6_readSingle_5 : decode cX6_readSingle 5 = .ok (.if_icmp .ne 35, 3) := by decide +kernel
theorem dX6_readSingle_8 : decode cX6_readSingle 8 = .ok (.aload_n 0, 1) := by decide +kernel
theorem dX6_readSingle_9 : decode cX6_readSingle 9 = .ok (.getfield 22, 3) := by decide +kernel
theorem dX6_readSingle_12 : decode cX6_readSingle 12 = .ok (.aload_n 0, 1) := by decide +kernel
theorem dX6_readSingle_13 : decode cX6_readSingle 13 = .ok (.getfield 26, 3) := by decide +kernel
theorem dX6_readSingle_16 : decode cX6_readSingle 16 = .ok (.getfield 84, 3) := by decide +kernel
theorem dX6_readSingle_19 : decode cX6_readSingle 19 = .ok (.aload_n 0, 1) := by decide +kernel
theorem dX6_readSingle_20 : decode cX6_readSingle 20 = .ok (.getfield 26, 3) := by decide +kernel
theorem dX6_readSingle_23 : decode cX6_readSingle 23 = .ok (.getfield 90, 3) := by decide +kernel
theorem dX6_readSingle_26 : decode cX6_readSingle 26 = .ok (.invokevirtual 93, 3) := by decide +kernel
theorem dX6_readSingle_29 : decode cX6_readSingle 29 = .ok (.istore_n 2, 1) := by decide +kernel
theorem dX6_readSingle_30 : decode cX6_readSingle 30 = .ok (.aload_n 0, 1) := by decide +kernel
theorem dX6_readSingle_31 : decode cX6_readSingle 31 = .ok (.getfield 22, 3) := by decide +kernel
theorem dX6_readSingle_34 : decode cX6_readSingle 34 = .ok (.invokevirtual 56, 3) := by decide +kernel
theorem dX6_readSingle_37 : decode cX6_readSingle 37 = .ok (.goto 38, 3) := by decide +kernel
theorem dX6_readSingle_40 : decode cX6_readSingle 40 = .ok (.iload_n 1, 1) := by decide +kernel
theorem dX6_readSingle_41 : decode cX6_readSingle 41 = .ok (.bipush 21, 2) := by decide +kernel
theorem dX6_readSingle_43 : decode cX6_readSingle 43 = .ok (.if_icmp .ne 32, 3) := by decide +kernel
theorem dX6_readSingle_46 : decode cX6_readSingle 46 = .ok (.aload_n 0, 1) := by decide +kernel
theorem dX6_readSingle_47 : decode cX6_readSingle 47 = .ok (.getfield 22, 3) := by decide +kernel
theorem dX6_readSingle_50 : decode cX6_readSingle 50 = .ok (.aload_n 0, 1) := by decide +kernel
theorem dX6_readSingle_51 : decode cX6_readSingle 51 = .ok (.getfield 26, 3) := by decide +kernel
theorem dX6_readSingle_54 : decode cX6_readSingle 54 = .ok (.getfield 97, 3) := by decide +kernel
theorem dX6_readSingle_57 : decode cX6_readSingle 57 = .ok (.aload_n 0, 1) := by decide +kernel
theorem dX6_readSingle_58 : decode cX6_readSingle 58 = .ok (.getfield 26, 3) := by decide +kernel
theorem dX6_readSingle_61 : decode cX6_readSingle 61 = .ok (.getfield 100, 3) := by decide +kernel
theorem dX6_readSingle_64 : decode cX6_readSingle 64 = .ok (.invokevirtual 93, 3) := by decide +kernel
theorem dX6_readSingle_67 : decode cX6_readSingle 67 = .ok (.istore_n 2, 1) := by decide +kernel
theorem dX6_readSingle_68 : decode cX6_readSingle 68 = .ok (.aload_n 0, 1) := by decide +kernel
theorem dX6_readSingle_69 : decode cX6_readSingle 69 = .ok (.getfield 22, 3) := by decide +kernel
theorem dX6_readSingle_72 : decode cX6_readSingle 72 = .ok (.invokevirtual 56, 3) := by decide +kernel
theorem dX6_readSingle_75 : decode cX6_readSingle 75 = .ok (.aload_n 0, 1) := by decide +kernel
theorem dX6_readSingle_76 : decode cX6_readSingle 76 = .ok (.getfield 12, 3) := by decide +kernel
theorem dX6_readSingle_79 : decode cX6_readSingle 79 = .ok (.iload_n 1, 1) := by decide +kernel
theorem dX6_readSingle_80 : decode cX6_readSingle 80 = .ok (.bipush 60, 2) := by decide +kernel
theorem dX6_readSingle_82 : decode cX6_readSingle 82 = .ok (.iload_n 2, 1) := by decide +kernel
theorem dX6_readSingle_83 : decode cX6_readSingle 83 = .ok (.iconst 0, 1) := by decide +kernel
theorem dX6_readSingle_84 : decode cX6_readSingle 84 = .ok (.invokestatic 103, 3) := by decide +kernel
theorem dX6_readSingle_87 : decode cX6_readSingle 87 = .ok (.invokevirtual 59, 3) := by decide +kernel
theorem dX6_readSingle_90 : decode cX6_readSingle 90 = .ok (.iload_n 2, 1) := by decide +kernel
theorem dX6_readSingle_91 : decode cX6_readSingle 91 = .ok (.iconst (-1), 1) := by decide +kernel
theorem dX6_readSingle_92 : decode cX6_readSingle 92 = .ok (.if_icmp .eq 7, 3) := by decide +kernel
theorem dX6_readSingle_95 : decode cX6_readSingle 95 = .ok (.iconst 1, 1) := by decide +kernel
theorem dX6_readSingle_96 : decode cX6_readSingle 96 = .ok (.goto 4, 3) := by decide +kernel
theorem dX6_readSingle_99 : decode cX6_readSingle 99 = .ok (.iconst 0, 1) := by decide +kernel
theorem dX6_readSingle_100 : decode cX6_readSingle 100 = .ok (.ireturn, 1) := by decide +kernel
set_option maxRecDepth 20000 in
theorem ggX6_readComparison_X8_isSymbol : GoodIn wsX6_readComparison wsX8_isSymbol := goodIn_r _ [12, 13, 14, 50, 51, 52, 53, 54, 55, 56, 57, 58, 59, 60, 61, 62] (by decide +kernel) (by decide +kernel)
set_option maxRecDepth 20000 in
theorem gX6_readComparison_X8_isSymbol : GoodIn wsX6_readComparison (wsV RX6 66 RX8 yX8_isSymbol wsX8_isSymbol) := goodIn_app (goodIn_of _ (by decide +kernel)) ggX6_readComparison_X8_isSymbol
set_option maxRecDepth 20000 in
theorem ggX6_readComparison_X8_refuse : GoodIn wsX6_readComparison wsX8_refuse := goodIn_r _ [18, 19, 20, 21, 50, 51, 52, 53, 54, 55, 56, 57, 58, 59, 60, 61, 62] (by decide +kernel) (by decide +kernel)
set_option maxRecDepth 20000 in
theorem gX6_readComparison_X8_refuse : GoodIn wsX6_readComparison (wsV RX6 47 RX8 yX8_refuse wsX8_refuse) := goodIn_app (goodIn_of _ (by decide +kernel)) ggX6_readComparison_X8_refuse
set_option maxRecDepth 20000 in
theorem ggX6_readComparison_X8_advance : GoodIn wsX6_readComparison wsX8_advance := goodIn_r _ [25, 26, 27, 28, 13, 29, 20, 30, 14, 31, 32, 50, 51, 52, 53, 54, 55, 56, 57, 58, 59, 60, 61, 62] (by decide +kernel) (by decide +kernel)
set_option maxRecDepth 20000 in
theorem gX6_readComparison_X8_advance : GoodIn wsX6_readComparison (wsV RX6 56 RX8 yX8_advance wsX8_advance) := goodIn_app (goodIn_of _ (by decide +kernel)) ggX6_readComparison_X8_advance
set_option maxRecDepth 20000 in
theorem ggX6_readComparison_X8_takeNumber : GoodIn wsX6_readComparison wsX8_takeNumber := goodIn_r _ [36, 14, 13, 37, 16, 17, 11, 18, 19, 20, 21, 38, 23, 24, 25, 26, 27, 28, 29, 30, 31, 32, 50, 51, 52, 53, 54, 55, 56, 57, 58, 59, 60, 61, 62] (by decide +kernel) (by decide +kernel)
set_option maxRecDepth 20000 in
theorem gX6_readComparison_X8_takeNumber : GoodIn wsX6_readComparison (wsV RX6 109 RX8 yX8_takeNumber wsX8_takeNumber) := goodIn_app (goodIn_of _ (by decide +kernel)) ggX6_readComparison_X8_takeNumber
set_option maxRecDepth 20000 in
theorem ggX6_readComparison_X5_put : GoodIn wsX6_readComparison wsX5_put := goodIn_r _ [43, 44, 45, 63, 64, 65] (by decide +kernel) (by decide +kernel)
set_option maxRecDepth 20000 in
theorem gX6_readComparison_X5_put : GoodIn wsX6_readComparison (wsV RX6 59 RX5 yX5_put wsX5_put) := goodIn_app (goodIn_of _ (by decide +kernel)) ggX6_readComparison_X5_put
theorem dX6_readComparison_0 : decode cX6_readComparison 0 = .ok (.aload_n 0, 1) := by decide +kernel
theorem dX6_readComparison_1 : decode cX6_readComparison 1 = .ok (.getfield 22, 3) := by decide +kernel
theorem dX6_readComparison_4 : decode cX6_readComparison 4 = .ok (.getfield 72, 3) := by decide +kernel
theorem dX6_readComparison_7 : decode cX6_readComparison 7 = .ok (.istore_n 2, 1) := by decide +kernel
theorem dX6_readComparison_8 : decode cX6_readComparison 8 = .ok (.aload_n 0, 1) := by decide +kernel
theorem dX6_readComparison_9 : decode cX6_readComparison 9 = .ok (.getfield 22, 3) := by decide +kernel
theorem dX6_readComparison_12 : decode cX6_readComparison 12 = .ok (.bipush 60, 2) := by decide +kernel
theorem dX6_readComparison_14 : decode cX6_readComparison 14 = .ok (.invokevirtual 66, 3) := by decide +kernel
theorem dX6_readComparison_17 : decode cX6_readComparison 17 = .ok (.ifCond .ne 36, 3) := by decide +kernel
theorem dX6_readComparison_20 : decode cX6_readComparison 20 = .ok (.aload_n 0, 1) := by decide +kernel
theorem dX6_readComparison_21 : decode cX6_readComparison 21 = .ok (.getfield 22, 3) := by decide +kernel
theorem dX6_readComparison_24 : decode cX6_readComparison 24 = .ok (.bipush 61, 2) := by decide +kernel
theorem dX6_readComparison_26 : decode cX6_readComparison 26 = .ok (.invokevirtual 66, 3) := by decide +kernel
theorem dX6_readComparison_29 : decode cX6_readComparison 29 = .ok (.ifCond .ne 24, 3) := by decide +kernel
theorem dX6_readComparison_32 : decode cX6_readComparison 32 = .ok (.aload_n 0, 1) := by decide +kernel
theorem dX6_readComparison_33 : decode cX6_readComparison 33 = .ok (.getfield 22, 3) := by decide +kernel
theorem dX6_readComparison_36 : decode cX6_readComparison 36 = .ok (.bipush 62, 2) := by decide +kernel
theorem dX6_readComparison_38 : decode cX6_readComparison 38 = .ok (.invokevirtual 66, 3) := by decide +kernel
theorem dX6_readComparison_41 : decode cX6_readComparison 41 = .ok (.ifCond .ne 12, 3) := by decide +kernel
theorem dX6_readComparison_44 : decode cX6_readComparison 44 = .ok (.aload_n 0, 1) := by decide +kernel
theorem dX6_readComparison_45 : decode cX6_readComparison 45 = .ok (.getfield 22, 3) := by decide +kernel
theorem dX6_readComparison_48 : decode cX6_readComparison 48 = .ok (.iconst 1, 1) := by decide +kernel
theorem dX6_readComparison_49 : decode cX6_readComparison 49 = .ok (.invokevirtual 47, 3) := by decide +kernel
theorem dX6_readComparison_52 : decode cX6_readComparison 52 = .ok (.ireturn, 1) := by decide +kernel
theorem dX6_readComparison_53 : decode cX6_readComparison 53 = .ok (.aload_n 0, 1) := by decide +kernel
theorem dX6_readComparison_54 : decode cX6_readComparison 54 = .ok (.getfield 22, 3) := by decide +kernel
theorem dX6_readComparison_57 : decode cX6_readComparison 57 = .ok (.invokevirtual 56, 3) := by decide +kernel
theorem dX6_readComparison_60 : decode cX6_readComparison 60 = .ok (.aload_n 0, 1) := by decide +kernel
theorem dX6_readComparison_61 : decode cX6_readComparison 61 = .ok (.getfield 22, 3) := by decide +kernel
theorem dX6_readComparison_64 : decode cX6_readComparison 64 = .ok (.iconst 0, 1) := by decide +kernel
theorem dX6_readComparison_65 : decode cX6_readComparison 65 = .ok (.sipush 999, 3) := by decide +kernel
theorem dX6_readComparison_68 : decode cX6_readComparison 68 = .ok (.invokevirtual 109, 3) := by decide +kernel
theorem dX6_readComparison_71 : decode cX6_readComparison 71 = .ok (.istore_n 3, 1) := by decide +kernel
theorem dX6_readComparison_72 : decode cX6_readComparison 72 = .ok (.aload_n 0, 1) := by decide +kernel
theorem dX6_readComparison_73 : decode cX6_readComparison 73 = .ok (.getfield 12, 3) := by decide +kernel
theorem dX6_readComparison_76 : decode cX6_readComparison 76 = .ok (.iload_n 1, 1) := by decide +kernel
theorem dX6_readComparison_77 : decode cX6_readComparison 77 = .ok (.iload_n 2, 1) := by decide +kernel
theorem dX6_readComparison_78 : decode cX6_readComparison 78 = .ok (.iload_n 3, 1) := by decide +kernel
theorem dX6_readComparison_79 : decode cX6_readComparison 79 = .ok (.iconst 0, 1) := by decide +kernel
theorem dX6_readComparison_80 : decode cX6_readComparison 80 = .ok (.invokestatic 103, 3) := by decide +kernel
theorem dX6_readComparison_83 : decode cX6_readComparison 83 = .ok (.invokevirtual 59, 3) := by decide +kernel
theorem dX6_readComparison_86 : decode cX6_readComparison 86 = .ok (.iload_n 3, 1) := by decide +kernel
theorem dX6_readComparison_87 : decode cX6_readComparison 87 = .ok (.iconst (-1), 1) := by decide +kernel
theorem dX6_readComparison_88 : decode cX6_readComparison 88 = .ok (.if_icmp .eq 7, 3) := by decide +kernel
theorem dX6_readComparison_91 : decode cX6_readComparison 91 = .ok (.iconst 1, 1) := by decide +kernel
theorem dX6_readComparison_92 : decode cX6_readComparison 92 = .ok (.goto 4, 3) := by decide +kernel
theorem dX6_readComparison_95 : decode cX6_readComparison 95 = .ok (.iconst 0, 1) := by decide +kernel
theorem dX6_readComparison_96 : decode cX6_readComparison 96 = .ok (.ireturn, 1) := by decide +kernel
theorem dX7_init_0 : decode cX7_init 0 = .ok (.aload_n 0, 1) := by decide +kernel
theorem dX7_init_1 : decode cX7_init 1 = .ok (.invokespecial 3, 3) := by decide +kernel
theorem dX7_init_4 : decode cX7_init 4 = .ok (.aload_n 0, 1) := by decide +kernel
theorem dX7_init_5 : decode cX7_init 5 = .ok (.sipush 940, 3) := by decide +kernel
theorem dX7_init_8 : decode cX7_init 8 = .ok (.newarray .byte, 2) := by decide +kernel
theorem dX7_init_10 : decode cX7_init 10 = .ok (.putfield 9, 3) := by decide +kernel
theorem dX7_init_13 : decode cX7_init 13 = .ok (.aload_n 0, 1) := by decide +kernel
theorem dX7_init_14 : decode cX7_init 14 = .ok (.iconst 0, 1) := by decide +kernel
theorem dX7_init_15 : decode cX7_init 15 = .ok (.putfield 15, 3) := by decide +kernel
theorem dX7_init_18 : decode cX7_init 18 = .ok (.return_, 1) := by decide +kernel
theorem dX7_append_0 : decode cX7_append 0 = .ok (.bipush 24, 2) := by decide +kernel
theorem dX7_append_2 : decode cX7_append 2 = .ok (.istore_n 2, 1) := by decide +kernel
theorem dX7_append_3 : decode cX7_append 3 = .ok (.iload_n 2, 1) := by decide +kernel
theorem dX7_append_4 : decode cX7_append 4 = .ok (.ifCond .lt 44, 3) := by decide +kernel
theorem dX7_append_7 : decode cX7_append 7 = .ok (.aload_n 0, 1) := by decide +kernel
theorem dX7_append_8 : decode cX7_append 8 = .ok (.getfield 15, 3) := by decide +kernel
theorem dX7_append_11 : decode cX7_append 11 = .ok (.aload_n 0, 1) := by decide +kernel
theorem dX7_append_12 : decode cX7_append 12 = .ok (.getfield 9, 3) := by decide +kernel
theorem dX7_append_15 : decode cX7_append 15 = .ok (.arraylength, 1) := by decide +kernel
theorem dX7_append_16 : decode cX7_append 16 = .ok (.if_icmp .ge 26, 3) := by decide +kernel
theorem dX7_append_19 : decode cX7_append 19 = .ok (.aload_n 0, 1) := by decide +kernel
theorem dX7_append_20 : decode cX7_append 20 = .ok (.getfield 9, 3) := by decide +kernel
theorem dX7_append_23 : decode cX7_append 23 = .ok (.aload_n 0, 1) := by decide +kernel
theorem dX7_append_24 : decode cX7_append 24 = .ok (.getfield 15, 3) := by decide +kernel
theorem dX7_append_27 : decode cX7_append 27 = .ok (.iload_n 1, 1) := by decide +kernel
theorem dX7_append_28 : decode cX7_append 28 = .ok (.iload_n 2, 1) := by decide +kernel
theorem dX7_append_29 : decode cX7_append 29 = .ok (.ishr, 1) := by decide +kernel
theorem dX7_append_30 : decode cX7_append 30 = .ok (.i2b, 1) := by decide +kernel
theorem dX7_append_31 : decode cX7_append 31 = .ok (.bastore, 1) := by decide +kernel
theorem dX7_append_32 : decode cX7_append 32 = .ok (.aload_n 0, 1) := by decide +kernel
theorem dX7_append_33 : decode cX7_append 33 = .ok (.dup, 1) := by decide +kernel
theorem dX7_append_34 : decode cX7_append 34 = .ok (.getfield 15, 3) := by decide +kernel
theorem dX7_append_37 : decode cX7_append 37 = .ok (.iconst 1, 1) := by decide +kernel
theorem dX7_append_38 : decode cX7_append 38 = .ok (.iadd, 1) := by decide +kernel
theorem dX7_append_39 : decode cX7_append 39 = .ok (.putfield 15, 3) := by decide +kernel
theorem dX7_append_42 : decode cX7_append 42 = .ok (.iinc 2 (-8), 3) := by decide +kernel
theorem dX7_append_45 : decode cX7_append 45 = .ok (.goto (-42), 3) := by decide +kernel
theorem dX7_append_48 : decode cX7_append 48 = .ok (.return_, 1) := by decide +kernel
theorem dX7_at_0 : decode cX7_at 0 = .ok (.iload_n 1, 1) := by decide +kernel
theorem dX7_at_1 : decode cX7_at 1 = .ok (.ifCond .lt 11, 3) := by decide +kernel
theorem dX7_at_4 : decode cX7_at 4 = .ok (.iload_n 1, 1) := by decide +kernel
theorem dX7_at_5 : decode cX7_at 5 = .ok (.aload_n 0, 1) := by decide +kernel
theorem dX7_at_6 : decode cX7_at 6 = .ok (.getfield 15, 3) := by decide +kernel
theorem dX7_at_9 : decode cX7_at 9 = .ok (.if_icmp .lt 7, 3) := by decide +kernel
theorem dX7_at_12 : decode cX7_at 12 = .ok (.iconst (-1), 1) := by decide +kernel
theorem dX7_at_13 : decode cX7_at 13 = .ok (.goto 13, 3) := by decide +kernel
theorem dX7_at_16 : decode cX7_at 16 = .ok (.aload_n 0, 1) := by decide +kernel
theorem dX7_at_17 : decode cX7_at 17 = .ok (.getfield 9, 3) := by decide +kernel
theorem dX7_at_20 : decode cX7_at 20 = .ok (.iload_n 1, 1) := by decide +kernel
theorem dX7_at_21 : decode cX7_at 21 = .ok (.baload, 1) := by decide +kernel
theorem dX7_at_22 : decode cX7_at 22 = .ok (.sipush 255, 3) := by decide +kernel
theorem dX7_at_25 : decode cX7_at 25 = .ok (.iand, 1) := by decide +kernel
theorem dX7_at_26 : decode cX7_at 26 = .ok (.ireturn, 1) := by decide +kernel
theorem dX8_init_0 : decode cX8_init 0 = .ok (.aload_n 0, 1) := by decide +kernel
theorem dX8_init_1 : decode cX8_init 1 = .ok (.invokespecial 3, 3) := by decide +kernel
theorem dX8_init_4 : decode cX8_init 4 = .ok (.aload_n 0, 1) := by decide +kernel
theorem dX8_init_5 : decode cX8_init 5 = .ok (.iconst 0, 1) := by decide +kernel
theorem dX8_init_6 : decode cX8_init 6 = .ok (.putfield 11, 3) := by decide +kernel
theorem dX8_init_9 : decode cX8_init 9 = .ok (.aload_n 0, 1) := by decide +kernel
theorem dX8_init_10 : decode cX8_init 10 = .ok (.iconst 0, 1) := by decide +kernel
theorem dX8_init_11 : decode cX8_init 11 = .ok (.putfield 15, 3) := by decide +kernel
theorem dX8_init_14 : decode cX8_init 14 = .ok (.aload_n 0, 1) := by decide +kernel
theorem dX8_init_15 : decode cX8_init 15 = .ok (.iconst 0, 1) := by decide +kernel
theorem dX8_init_16 : decode cX8_init 16 = .ok (.putfield 18, 3) := by decide +kernel
theorem dX8_init_19 : decode cX8_init 19 = .ok (.aload_n 0, 1) := by decide +kernel
theorem dX8_init_20 : decode cX8_init 20 = .ok (.lconst 0, 1) := by decide +kernel
theorem dX8_init_21 : decode cX8_init 21 = .ok (.putfield 21, 3) := by decide +kernel
theorem dX8_init_24 : decode cX8_init 24 = .ok (.aload_n 0, 1) := by decide +kernel
theorem dX8_init_25 : decode cX8_init 25 = .ok (.iconst 0, 1) := by decide +kernel
theorem dX8_init_26 : decode cX8_init 26 = .ok (.putfield 25, 3) := by decide +kernel
theorem dX8_init_29 : decode cX8_init 29 = .ok (.aload_n 0, 1) := by decide +kernel
theorem dX8_init_30 : decode cX8_init 30 = .ok (.iconst 0, 1) := by decide +kernel
theorem dX8_init_31 : decode cX8_init 31 = .ok (.putfield 28, 3) := by decide +kernel
theorem dX8_init_34 : decode cX8_init 34 = .ok (.aload_n 0, 1) := by decide +kernel
theorem dX8_init_35 : decode cX8_init 35 = .ok (.iconst 0, 1) := by decide +kernel
theorem dX8_init_36 : decode cX8_init 36 = .ok (.putfield 31, 3) := by decide +kernel
theorem dX8_init_39 : decode cX8_init 39 = .ok (.aload_n 0, 1) := by decide +kernel
theorem dX8_init_40 : decode cX8_init 40 = .ok (.iconst 0, 1) := by decide +kernel
theorem dX8_init_41 : decode cX8_init 41 = .ok (.putfield 34, 3) := by decide +kernel
theorem dX8_init_44 : decode cX8_init 44 = .ok (.aload_n 0, 1) := by decide +kernel
theorem dX8_init_45 : decode cX8_init 45 = .ok (.sipush 901, 3) := by decide +kernel
theorem dX8_init_48 : decode cX8_init 48 = .ok (.newarray .int, 2) := by decide +kernel
theorem dX8_init_50 : decode cX8_init 50 = .ok (.putfield 37, 3) := by decide +kernel
theorem dX8_init_53 : decode cX8_init 53 = .ok (.aload_n 0, 1) := by decide +kernel
theorem dX8_init_54 : decode cX8_init 54 = .ok (.sipush 901, 3) := by decide +kernel
theorem dX8_init_57 : decode cX8_init 57 = .ok (.newarray .int, 2) := by decide +kernel
theorem dX8_init_59 : decode cX8_init 59 = .ok (.putfield 41, 3) := by decide +kernel
theorem dX8_init_62 : decode cX8_init 62 = .ok (.aload_n 0, 1) := by decide +kernel
theorem dX8_init_63 : decode cX8_init 63 = .ok (.sipush 901, 3) := by decide +kernel
theorem dX8_init_66 : decode cX8_init 66 = .ok (.newarray .int, 2) := by decide +kernel
theorem dX8_init_68 : decode cX8_init 68 = .ok (.putfield 44, 3) := by decide +kernel
theorem dX8_init_71 : decode cX8_init 71 = .ok (.aload_n 0, 1) := by decide +kernel
theorem dX8_init_72 : decode cX8_init 72 = .ok (.sipush 901, 3) := by decide +kernel
theorem dX8_init_75 : decode cX8_init 75 = .ok (.newarray .long, 2) := by decide +kernel
theorem dX8_init_77 : decode cX8_init 77 = .ok (.putfield 47, 3) := by decide +kernel
theorem dX8_init_80 : decode cX8_init 80 = .ok (.aload_n 0, 1) := by decide +kernel
theorem dX8_init_81 : decode cX8_init 81 = .ok (.aload_n 1, 1) := by decide +kernel
theorem dX8_init_82 : decode cX8_init 82 = .ok (.putfield 51, 3) := by decide +kernel
theorem dX8_init_85 : decode cX8_init 85 = .ok (.return_, 1) := by decide +kernel
set_option maxRecDepth 20000 in
theorem ggX8_open_X8_readAt : GoodIn wsX8_open wsX8_readAt := goodIn_r _ [18, 1, 19, 20, 21, 22, 23, 24, 25, 26, 27, 17, 28, 29, 30, 31, 32, 33, 34, 35, 2, 36, 37, 38, 39, 40, 41, 42, 43, 44, 45, 46, 47, 48, 49, 50, 51, 52, 53, 54, 55, 56, 57, 58, 59, 60, 61, 62, 63, 64, 65, 66, 67, 68, 69, 70, 71, 72, 73, 74, 75, 76, 77, 78, 79, 80, 81, 82, 83, 84, 85, 86, 87, 88, 89, 90, 91, 7, 92, 93, 94, 95, 96, 97, 98, 107, 108, 109, 110, 111, 112, 113, 114, 115, 116, 117, 118, 119, 120, 121] (by decide +kernel) (by decide +kernel)
set_option maxRecDepth 20000 in
theorem gX8_open_X8_readAt : GoodIn wsX8_open (wsV RX8 66 RX8 yX8_readAt wsX8_readAt) := goodIn_app (goodIn_of _ (by decide +kernel)) ggX8_open_X8_readAt
set_option maxRecDepth 20000 in
theorem ggX8_open_X8_put : GoodIn wsX8_open wsX8_put := goodIn_r _ [91, 7, 92, 93, 94, 95, 107, 108, 109, 110, 111, 112, 113, 114, 115, 116, 117, 118, 119] (by decide +kernel) (by decide +kernel)
set_option maxRecDepth 20000 in
theorem gX8_open_X8_put : GoodIn wsX8_open (wsV RX8 73 RX8 yX8_put wsX8_put) := goodIn_app (goodIn_of _ (by decide +kernel)) ggX8_open_X8_put
set_option maxRecDepth 20000 in
theorem ggX8_open_X8_advance : GoodIn wsX8_open wsX8_advance := goodIn_r _ [102, 13, 7, 92, 103, 93, 104, 94, 105, 95, 106, 107, 108, 109, 110, 111, 112, 113, 114, 115, 116, 117, 118, 119] (by decide +kernel) (by decide +kernel)
set_option maxRecDepth 20000 in
theorem gX8_open_X8_advance : GoodIn wsX8_open (wsV RX8 77 RX8 yX8_advance wsX8_advance) := goodIn_app (goodIn_of _ (by decide +kernel)) ggX8_open_X8_advance
theorem dX8_open_0 : decode cX8_open 0 = .ok (.aload_n 0, 1) := by decide +kernel
theorem dX8_open_1 : decode cX8_open 1 = .ok (.getfield 51, 3) := by decide +kernel
theorem dX8_open_4 : decode cX8_open 4 = .ok (.getfield 55, 3) := by decide +kernel
theorem dX8_open_7 : decode cX8_open 7 = .ok (.iload_n 1, 1) := by decide +kernel
theorem dX8_open_8 : decode cX8_open 8 = .ok (.invokestatic 60, 3) := by decide +kernel
theorem dX8_open_11 : decode cX8_open 11 = .ok (.istore_n 2, 1) := by decide +kernel
theorem dX8_open_12 : decode cX8_open 12 = .ok (.aload_n 0, 1) := by decide +kernel
theorem dX8_open_13 : decode cX8_open 13 = .ok (.iconst 0, 1) := by decide +kernel
theorem dX8_open_14 : decode cX8_open 14 = .ok (.putfield 31, 3) := by decide +kernel
theorem dX8_open_17 : decode cX8_open 17 = .ok (.iconst 0, 1) := by decide +kernel
theorem dX8_open_18 : decode cX8_open 18 = .ok (.istore_n 3, 1) := by decide +kernel
theorem dX8_open_19 : decode cX8_open 19 = .ok (.iload_n 3, 1) := by decide +kernel
theorem dX8_open_20 : decode cX8_open 20 = .ok (.iload_n 2, 1) := by decide +kernel
theorem dX8_open_21 : decode cX8_open 21 = .ok (.if_icmp .ge 18, 3) := by decide +kernel
theorem dX8_open_24 : decode cX8_open 24 = .ok (.iload_n 3, 1) := by decide +kernel
theorem dX8_open_25 : decode cX8_open 25 = .ok (.iconst 1, 1) := by decide +kernel
theorem dX8_open_26 : decode cX8_open 26 = .ok (.aload_n 0, 1) := by decide +kernel
theorem dX8_open_27 : decode cX8_open 27 = .ok (.iload_n 3, 1) := by decide +kernel
theorem dX8_open_28 : decode cX8_open 28 = .ok (.invokevirtual 66, 3) := by decide +kernel
theorem dX8_open_31 : decode cX8_open 31 = .ok (.invokestatic 70, 3) := by decide +kernel
theorem dX8_open_34 : decode cX8_open 34 = .ok (.iadd, 1) := by decide +kernel
theorem dX8_open_35 : decode cX8_open 35 = .ok (.istore_n 3, 1) := by decide +kernel
theorem dX8_open_36 : decode cX8_open 36 = .ok (.goto (-17), 3) := by decide +kernel
theorem dX8_open_39 : decode cX8_open 39 = .ok (.aload_n 0, 1) := by decide +kernel
theorem dX8_open_40 : decode cX8_open 40 = .ok (.aload_n 0, 1) := by decide +kernel
theorem dX8_open_41 : decode cX8_open 41 = .ok (.getfield 51, 3) := by decide +kernel
theorem dX8_open_44 : decode cX8_open 44 = .ok (.getfield 55, 3) := by decide +kernel
theorem dX8_open_47 : decode cX8_open 47 = .ok (.iload_n 1, 1) := by decide +kernel
theorem dX8_open_48 : decode cX8_open 48 = .ok (.if_icmp .le 7, 3) := by decide +kernel
theorem dX8_open_51 : decode cX8_open 51 = .ok (.iconst 1, 1) := by decide +kernel
theorem dX8_open_52 : decode cX8_open 52 = .ok (.goto 4, 3) := by decide +kernel
theorem dX8_open_55 : decode cX8_open 55 = .ok (.iconst 0, 1) := by decide +kernel
theorem dX8_open_56 : decode cX8_open 56 = .ok (.iload_n 2, 1) := by decide +kernel
theorem dX8_open_57 : decode cX8_open 57 = .ok (.iconst 0, 1) := by decide +kernel
theorem dX8_open_58 : decode cX8_open 58 = .ok (.lconst 0, 1) := by decide +kernel
theorem dX8_open_59 : decode cX8_open 59 = .ok (.invokevirtual 73, 3) := by decide +kernel
theorem dX8_open_62 : decode cX8_open 62 = .ok (.aload_n 0, 1) := by decide +kernel
theorem dX8_open_63 : decode cX8_open 63 = .ok (.iconst 0, 1) := by decide +kernel
theorem dX8_open_64 : decode cX8_open 64 = .ok (.putfield 25, 3) := by decide +kernel
theorem dX8_open_67 : decode cX8_open 67 = .ok (.aload_n 0, 1) := by decide +kernel
theorem dX8_open_68 : decode cX8_open 68 = .ok (.iconst 0, 1) := by decide +kernel
theorem dX8_open_69 : decode cX8_open 69 = .ok (.putfield 28, 3) := by decide +kernel
theorem dX8_open_72 : decode cX8_open 72 = .ok (.aload_n 0, 1) := by decide +kernel
theorem dX8_open_73 : decode cX8_open 73 = .ok (.iconst 0, 1) := by decide +kernel
theorem dX8_open_74 : decode cX8_open 74 = .ok (.putfield 34, 3) := by decide +kernel
theorem dX8_open_77 : decode cX8_open 77 = .ok (.aload_n 0, 1) := by decide +kernel
theorem dX8_open_78 : decode cX8_open 78 = .ok (.invokevirtual 77, 3) := by decide +kernel
theorem dX8_open_81 : decode cX8_open 81 = .ok (.return_, 1) := by decide +kernel
theorem dX8_advance_0 : decode cX8_advance 0 = .ok (.aload_n 0, 1) := by decide +kernel
theorem dX8_advance_1 : decode cX8_advance 1 = .ok (.getfield 34, 3) := by decide +kernel
theorem dX8_advance_4 : decode cX8_advance 4 = .ok (.aload_n 0, 1) := by decide +kernel
theorem dX8_advance_5 : decode cX8_advance 5 = .ok (.getfield 31, 3) := by decide +kernel
theorem dX8_advance_8 : decode cX8_advance 8 = .ok (.if_icmp .ge 65, 3) := by decide +kernel
theorem dX8_advance_11 : decode cX8_advance 11 = .ok (.aload_n 0, 1) := by decide +kernel
theorem dX8_advance_12 : decode cX8_advance 12 = .ok (.aload_n 0, 1) := by decide +kernel
theorem dX8_advance_13 : decode cX8_advance 13 = .ok (.getfield 37, 3) := by decide +kernel
theorem dX8_advance_16 : decode cX8_advance 16 = .ok (.aload_n 0, 1) := by decide +kernel
theorem dX8_advance_17 : decode cX8_advance 17 = .ok (.getfield 34, 3) := by decide +kernel
theorem dX8_advance_20 : decode cX8_advance 20 = .ok (.iaload, 1) := by decide +kernel
theorem dX8_advance_21 : decode cX8_advance 21 = .ok (.putfield 11, 3) := by decide +kernel
theorem dX8_advance_24 : decode cX8_advance 24 = .ok (.aload_n 0, 1) := by decide +kernel
theorem dX8_advance_25 : decode cX8_advance 25 = .ok (.aload_n 0, 1) := by decide +kernel
theorem dX8_advance_26 : decode cX8_advance 26 = .ok (.getfield 41, 3) := by decide +kernel
theorem dX8_advance_29 : decode cX8_advance 29 = .ok (.aload_n 0, 1) := by decide +kernel
theorem dX8_advance_30 : decode cX8_advance 30 = .ok (.getfield 34, 3) := by decide +kernel
theorem dX8_advance_33 : decode cX8_advance 33 = .ok (.iaload, 1) := by decide +kernel
theorem dX8_advance_34 : decode cX8_advance 34 = .ok (.putfield 15, 3) := by decide +kernel
theorem dX8_advance_37 : decode cX8_advance 37 = .ok (.aload_n 0, 1) := by decide +kernel
theorem dX8_advance_38 : decode cX8_advance 38 = .ok (.aload_n 0, 1) := by decide +kernel
theorem dX8_advance_39 : decode cX8_advance 39 = .ok (.getfield 44, 3) := by decide +kernel
theorem dX8_advance_42 : decode cX8_advance 42 = .ok (.aload_n 0, 1) := by decide +kernel
theorem dX8_advance_43 : decode cX8_advance 43 = .ok (.getfield 34, 3) := by decide +kernel
theorem dX8_advance_46 : decode cX8_advance 46 = .ok (.iaload, 1) := by decide +kernel
theorem dX8_advance_47 : decode cX8_advance 47 = .ok (.putfield 18, 3) := by decide +kernel
theorem dX8_advance_50 : decode cX8_advance 50 = .ok (.aload_n 0, 1) := by decide +kernel
theorem dX8_advance_51 : decode cX8_advance 51 = .ok (.aload_n 0, 1) := by decide +kernel
theorem dX8_advance_52 : decode cX8_advance 52 = .ok (.getfield 47, 3) := by decide +kernel
theorem dX8_advance_55 : decode cX8_advance 55 = .ok (.aload_n 0, 1) := by decide +kernel
theorem dX8_advance_56 : decode cX8_advance 56 = .ok (.getfield 34, 3) := by decide +kernel
theorem dX8_advance_59 : decode cX8_advance 59 = .ok (.laload, 1) := by decide +kernel
theorem dX8_advance_60 : decode cX8_advance 60 = .ok (.putfield 21, 3) := by decide +kernel
theorem dX8_advance_63 : decode cX8_advance 63 = .ok (.aload_n 0, 1) := by decide +kernel
theorem dX8_advance_64 : decode cX8_advance 64 = .ok (.dup, 1) := by decide +kernel
theorem dX8_advance_65 : decode cX8_advance 65 = .ok (.getfield 34, 3) := by decide +kernel
theorem dX8_advance_68 : decode cX8_advance 68 = .ok (.iconst 1, 1) := by decide +kernel
theorem dX8_advance_69 : decode cX8_advance 69 = .ok (.iadd, 1) := by decide +kernel
theorem dX8_advance_70 : decode cX8_advance 70 = .ok (.putfield 34, 3) := by decide +kernel
theorem dX8_advance_73 : decode cX8_advance 73 = .ok (.return_, 1) := by decide +kernel
theorem dX8_refuse_0 : decode cX8_refuse 0 = .ok (.aload_n 0, 1) := by decide +kernel
theorem dX8_refuse_1 : decode cX8_refuse 1 = .ok (.getfield 25, 3) := by decide +kernel
theorem dX8_refuse_4 : decode cX8_refuse 4 = .ok (.ifCond .ne 16, 3) := by decide +kernel
theorem dX8_refuse_7 : decode cX8_refuse 7 = .ok (.aload_n 0, 1) := by decide +kernel
theorem dX8_refuse_8 : decode cX8_refuse 8 = .ok (.iload_n 1, 1) := by decide +kernel
theorem dX8_refuse_9 : decode cX8_refuse 9 = .ok (.putfield 25, 3) := by decide +kernel
theorem dX8_refuse_12 : decode cX8_refuse 12 = .ok (.aload_n 0, 1) := by decide +kernel
theorem dX8_refuse_13 : decode cX8_refuse 13 = .ok (.aload_n 0, 1) := by decide +kernel
theorem dX8_refuse_14 : decode cX8_refuse 14 = .ok (.getfield 15, 3) := by decide +kernel
theorem dX8_refuse_17 : decode cX8_refuse 17 = .ok (.putfield 28, 3) := by decide +kernel
theorem dX8_refuse_20 : decode cX8_refuse 20 = .ok (.iconst 0, 1) := by decide +kernel
theorem dX8_refuse_21 : decode cX8_refuse 21 = .ok (.ireturn, 1) := by decide +kernel
theorem dX8_isAtEnd_0 : decode cX8_isAtEnd 0 = .ok (.aload_n 0, 1) := by decide +kernel
theorem dX8_isAtEnd_1 : decode cX8_isAtEnd 1 = .ok (.getfield 11, 3) := by decide +kernel
theorem dX8_isAtEnd_4 : decode cX8_isAtEnd 4 = .ok (.ifCond .ne 7, 3) := by decide +kernel
theorem dX8_isAtEnd_7 : decode cX8_isAtEnd 7 = .ok (.iconst 1, 1) := by decide +kernel
theorem dX8_isAtEnd_8 : decode cX8_isAtEnd 8 = .ok (.goto 4, 3) := by decide +kernel
theorem dX8_isAtEnd_11 : decode cX8_isAtEnd 11 = .ok (.iconst 0, 1) := by decide +kernel
theorem dX8_isAtEnd_12 : decode cX8_isAtEnd 12 = .ok (.ireturn, 1) := by decide +kernel
theorem dX8_isKeyword_0 : decode cX8_isKeyword 0 = .ok (.aload_n 0, 1) := by decide +kernel
theorem dX8_isKeyword_1 : decode cX8_isKeyword 1 = .ok (.getfield 11, 3) := by decide +kernel
theorem dX8_isKeyword_4 : decode cX8_isKeyword 4 = .ok (.iconst 3, 1) := by decide +kernel
theorem dX8_isKeyword_5 : decode cX8_isKeyword 5 = .ok (.if_icmp .ne 15, 3) := by decide +kernel
theorem dX8_isKeyword_8 : decode cX8_isKeyword 8 = .ok (.aload_n 0, 1) := by decide +kernel
theorem dX8_isKeyword_9 : decode cX8_isKeyword 9 = .ok (.getfield 18, 3) := by decide +kernel
theorem dX8_isKeyword_12 : decode cX8_isKeyword 12 = .ok (.iload_n 1, 1) := by decide +kernel
theorem dX8_isKeyword_13 : decode cX8_isKeyword 13 = .ok (.if_icmp .ne 7, 3) := by decide +kernel
theorem dX8_isKeyword_16 : decode cX8_isKeyword 16 = .ok (.iconst 1, 1) := by decide +kernel
theorem dX8_isKeyword_17 : decode cX8_isKeyword 17 = .ok (.goto 4, 3) := by decide +kernel
theorem dX8_isKeyword_20 : decode cX8_isKeyword 20 = .ok (.iconst 0, 1) := by decide +kernel
theorem dX8_isKeyword_21 : decode cX8_isKeyword 21 = .ok (.ireturn, 1) := by decide +kernel
theorem dX8_isSymbol_0 : decode cX8_isSymbol 0 = .ok (.aload_n 0, 1) := by decide +kernel
theorem dX8_isSymbol_1 : decode cX8_isSymbol 1 = .ok (.getfield 11, 3) := by decide +kernel
theorem dX8_isSymbol_4 : decode cX8_isSymbol 4 = .ok (.iconst 5, 1) := by decide +kernel
theorem dX8_isSymbol_5 : decode cX8_isSymbol 5 = .ok (.if_icmp .ne 15, 3) := by decide +kernel
theorem dX8_isSymbol_8 : decode cX8_isSymbol 8 = .ok (.aload_n 0, 1) := by decide +kernel
theorem dX8_isSymbol_9 : decode cX8_isSymbol 9 = .ok (.getfield 18, 3) := by decide +kernel
theorem dX8_isSymbol_12 : decode cX8_isSymbol 12 = .ok (.iload_n 1, 1) := by decide +kernel
theorem dX8_isSymbol_13 : decode cX8_isSymbol 13 = .ok (.if_icmp .ne 7, 3) := by decide +kernel
theorem dX8_isSymbol_16 : decode cX8_isSymbol 16 = .ok (.iconst 1, 1) := by decide +kernel
theorem dX8_isSymbol_17 : decode cX8_isSymbol 17 = .ok (.goto 4, 3) := by decide +kernel
theorem dX8_isSymbol_20 : decode cX8_isSymbol 20 = .ok (.iconst 0, 1) := by decide +kernel
theorem dX8_isSymbol_21 : decode cX8_isSymbol 21 = .ok (.ireturn, 1) := by decide +kernel
set_option maxRecDepth 20000 in
theorem ggX8_takeSymbol_X8_isSymbol : GoodIn wsX8_takeSymbol wsX8_isSymbol := goodIn_r _ [5, 6, 7, 26, 27, 28, 29, 30, 31, 32, 33, 34, 35, 36, 37, 38] (by decide +kernel) (by decide +kernel)
set_option maxRecDepth 20000 in
theorem gX8_takeSymbol_X8_isSymbol : GoodIn wsX8_takeSymbol (wsV RX8 80 RX8 yX8_isSymbol wsX8_isSymbol) := goodIn_app (goodIn_of _ (by decide +kernel)) ggX8_takeSymbol_X8_isSymbol
set_option maxRecDepth 20000 in
theorem ggX8_takeSymbol_X8_refuse : GoodIn wsX8_takeSymbol wsX8_refuse := goodIn_r _ [11, 12, 13, 14, 26, 27, 28, 29, 30, 31, 32, 33, 34, 35, 36, 37, 38] (by decide +kernel) (by decide +kernel)
set_option maxRecDepth 20000 in
theorem gX8_takeSymbol_X8_refuse : GoodIn wsX8_takeSymbol (wsV RX8 84 RX8 yX8_refuse wsX8_refuse) := goodIn_app (goodIn_of _ (by decide +kernel)) ggX8_takeSymbol_X8_refuse
set_option maxRecDepth 20000 in
theorem ggX8_takeSymbol_X8_advance : GoodIn wsX8_takeSymbol wsX8_advance := goodIn_r _ [18, 19, 20, 21, 6, 22, 13, 23, 7, 24, 25, 26, 27, 28, 29, 30, 31, 32, 33, 34, 35, 36, 37, 38] (by decide +kernel) (by decide +kernel)
set_option maxRecDepth 20000 in
theorem gX8_takeSymbol_X8_advance : GoodIn wsX8_takeSymbol (wsV RX8 77 RX8 yX8_advance wsX8_advance) := goodIn_app (goodIn_of _ (by decide +kernel)) ggX8_takeSymbol_X8_advance
theorem dX8_takeSymbol_0 : decode cX8_takeSymbol 0 = .ok (.aload_n 0, 1) := by decide +kernel
theorem dX8_takeSymbol_1 : decode cX8_takeSymbol 1 = .ok (.iload_n 1, 1) := by decide +kernel
theorem dX8_takeSymbol_2 : decode cX8_takeSymbol 2 = .ok (.invokevirtual 80, 3) := by decide +kernel
theorem dX8_takeSymbol_5 : decode cX8_takeSymbol 5 = .ok (.ifCond .ne 9, 3) := by decide +kernel
theorem dX8_takeSymbol_8 : decode cX8_takeSymbol 8 = .ok (.aload_n 0, 1) := by decide +kernel
theorem dX8_takeSymbol_9 : decode cX8_takeSymbol 9 = .ok (.iconst 1, 1) := by decide +kernel
theorem dX8_takeSymbol_10 : decode cX8_takeSymbol 10 = .ok (.invokevirtual 84, 3) := by decide +kernel
theorem dX8_takeSymbol_13 : decode cX8_takeSymbol 13 = .ok (.ireturn, 1) := by decide +kernel
theorem dX8_takeSymbol_14 : decode cX8_takeSymbol 14 = .ok (.aload_n 0, 1) := by decide +kernel
theorem dX8_takeSymbol_15 : decode cX8_takeSymbol 15 = .ok (.invokevirtual 77, 3) := by decide +kernel
theorem dX8_takeSymbol_18 : decode cX8_takeSymbol 18 = .ok (.iconst 1, 1) := by decide +kernel
theorem dX8_takeSymbol_19 : decode cX8_takeSymbol 19 = .ok (.ireturn, 1) := by decide +kernel
set_option maxRecDepth 20000 in
theorem ggX8_takeNumber_X8_refuse : GoodIn wsX8_takeNumber wsX8_refuse := goodIn_r _ [7, 8, 9, 10, 22, 23, 24, 25, 26, 27, 28, 29, 30, 31, 32, 33, 34] (by decide +kernel) (by decide +kernel)
set_option maxRecDepth 20000 in
theorem gX8_takeNumber_X8_refuse : GoodIn wsX8_takeNumber (wsV RX8 84 RX8 yX8_refuse wsX8_refuse) := goodIn_app (goodIn_of _ (by decide +kernel)) ggX8_takeNumber_X8_refuse
set_option maxRecDepth 20000 in
theorem ggX8_takeNumber_X8_advance : GoodIn wsX8_takeNumber wsX8_advance := goodIn_r _ [14, 15, 16, 17, 2, 18, 9, 19, 1, 20, 21, 22, 23, 24, 25, 26, 27, 28, 29, 30, 31, 32, 33, 34] (by decide +kernel) (by decide +kernel)
set_option maxRecDepth 20000 in
theorem gX8_takeNumber_X8_advance : GoodIn wsX8_takeNumber (wsV RX8 77 RX8 yX8_advance wsX8_advance) := goodIn_app (goodIn_of _ (by decide +kernel)) ggX8_takeNumber_X8_advance
theorem dX8_takeNumber_0 : decode cX8_takeNumber 0 = .ok (.aload_n 0, 1) := by decide +kernel
theorem dX8_takeNumber_1 : decode cX8_takeNumber 1 = .ok (.getfield 18, 3) := by decide +kernel
theorem dX8_takeNumber_4 : decode cX8_takeNumber 4 = .ok (.istore_n 3, 1) := by decide +kernel
theorem dX8_takeNumber_5 : decode cX8_takeNumber 5 = .ok (.aload_n 0, 1) := by decide +kernel
theorem dX8_takeNumber_6 : decode cX8_takeNumber 6 = .ok (.getfield 11, 3) := by decide +kernel
theorem dX8_takeNumber_9 : decode cX8_takeNumber 9 = .ok (.iconst 4, 1) := by decide +kernel
theorem dX8_takeNumber_10 : decode cX8_takeNumber 10 = .ok (.if_icmp .eq 11, 3) := by decide +kernel
theorem dX8_takeNumber_13 : decode cX8_takeNumber 13 = .ok (.aload_n 0, 1) := by decide +kernel
theorem dX8_takeNumber_14 : decode cX8_takeNumber 14 = .ok (.iconst 1, 1) := by decide +kernel
theorem dX8_takeNumber_15 : decode cX8_takeNumber 15 = .ok (.invokevirtual 84, 3) := by decide +kernel
theorem dX8_takeNumber_18 : decode cX8_takeNumber 18 = .ok (.pop, 1) := by decide +kernel
theorem dX8_takeNumber_19 : decode cX8_takeNumber 19 = .ok (.iconst (-1), 1) := by decide +kernel
theorem dX8_takeNumber_20 : decode cX8_takeNumber 20 = .ok (.ireturn, 1) := by decide +kernel
theorem dX8_takeNumber_21 : decode cX8_takeNumber 21 = .ok (.iload_n 3, 1) := by decide +kernel
theorem dX8_takeNumber_22 : decode cX8_takeNumber 22 = .ok (.iload_n 1, 1) := by decide +kernel
theorem dX8_takeNumber_23 : decode cX8_takeNumber 23 = .ok (.if_icmp .lt 8, 3) := by decide +kernel
theorem dX8_takeNumber_26 : decode cX8_takeNumber 26 = .ok (.iload_n 3, 1) := by decide +kernel
theorem dX8_takeNumber_27 : decode cX8_takeNumber 27 = .ok (.iload_n 2, 1) := by decide +kernel
theorem dX8_takeNumber_28 : decode cX8_takeNumber 28 = .ok (.if_icmp .le 11, 3) := by decide +kernel
theorem dX8_takeNumber_31 : decode cX8_takeNumber 31 = .ok (.aload_n 0, 1) := by decide +kernel
theorem dX8_takeNumber_32 : decode cX8_takeNumber 32 = .ok (.iconst 2, 1) := by decide +kernel
theorem dX8_takeNumber_33 : decode cX8_takeNumber 33 = .ok (.invokevirtual 84, 3) := by decide +kernel
theorem dX8_takeNumber_36 : decode cX8_takeNumber 36 = .ok (.pop, 1) := by decide +kernel
theorem dX8_takeNumber_37 : decode cX8_takeNumber 37 = .ok (.iconst (-1), 1) := by decide +kernel
theorem dX8_takeNumber_38 : decode cX8_takeNumber 38 = .ok (.ireturn, 1) := by decide +kernel
theorem dX8_takeNumber_39 : decode cX8_takeNumber 39 = .ok (.aload_n 0, 1) := by decide +kernel
theorem dX8_takeNumber_40 : decode cX8_takeNumber 40 = .ok (.invokevirtual 77, 3) := by decide +kernel
theorem dX8_takeNumber_43 : decode cX8_takeNumber 43 = .ok (.iload_n 3, 1) := by decide +kernel
theorem dX8_takeNumber_44 : decode cX8_takeNumber 44 = .ok (.ireturn, 1) := by decide +kernel
set_option maxRecDepth 20000 in
theorem ggX8_findName_X8_refuse : GoodIn wsX8_findName wsX8_refuse := goodIn_r _ [7, 8, 9, 10, 15, 16, 17, 18, 19, 20, 21, 22, 23, 24, 25, 26, 27] (by decide +kernel) (by decide +kernel)
set_option maxRecDepth 20000 in
theorem gX8_findName_X8_refuse : GoodIn wsX8_findName (wsV RX8 84 RX8 yX8_refuse wsX8_refuse) := goodIn_app (goodIn_of _ (by decide +kernel)) ggX8_findName_X8_refuse
set_option maxRecDepth 20000 in
theorem ggX8_findName_X1_indexOf : GoodIn wsX8_findName wsX1_indexOf := goodIn_r _ [14] (by decide +kernel) (by decide +kernel)
set_option maxRecDepth 20000 in
theorem gX8_findName_X1_indexOf : GoodIn wsX8_findName (va_wsS RX8 87 yX1_indexOf wsX1_indexOf) := goodIn_app (goodIn_of _ (by decide +kernel)) ggX8_findName_X1_indexOf
theorem dX8_findName_0 : decode cX8_findName 0 = .ok (.aload_n 0, 1) := by decide +kernel
theorem dX8_findName_1 : decode cX8_findName 1 = .ok (.getfield 11, 3) := by decide +kernel
theorem dX8_findName_4 : decode cX8_findName 4 = .ok (.iconst 2, 1) := by decide +kernel
theorem dX8_findName_5 : decode cX8_findName 5 = .ok (.if_icmp .eq 11, 3) := by decide +kernel
theorem dX8_findName_8 : decode cX8_findName 8 = .ok (.aload_n 0, 1) := by decide +kernel
theorem dX8_findName_9 : decode cX8_findName 9 = .ok (.iconst 1, 1) := by decide +kernel
theorem dX8_findName_10 : decode cX8_findName 10 = .ok (.invokevirtual 84, 3) := by decide +kernel
theorem dX8_findName_13 : decode cX8_findName 13 = .ok (.pop, 1) := by decide +kernel
theorem dX8_findName_14 : decode cX8_findName 14 = .ok (.iconst (-1), 1) := by decide +kernel
theorem dX8_findName_15 : decode cX8_findName 15 = .ok (.ireturn, 1) := by decide +kernel
theorem dX8_findName_16 : decode cX8_findName 16 = .ok (.aload_n 1, 1) := by decide +kernel
theorem dX8_findName_17 : decode cX8_findName 17 = .ok (.iload_n 2, 1) := by decide +kernel
theorem dX8_findName_18 : decode cX8_findName 18 = .ok (.aload_n 0, 1) := by decide +kernel
theorem dX8_findName_19 : decode cX8_findName 19 = .ok (.getfield 21, 3) := by decide +kernel
theorem dX8_findName_22 : decode cX8_findName 22 = .ok (.invokestatic 87, 3) := by decide +kernel
theorem dX8_findName_25 : decode cX8_findName 25 = .ok (.istore_n 3, 1) := by decide +kernel
theorem dX8_findName_26 : decode cX8_findName 26 = .ok (.iload_n 3, 1) := by decide +kernel
theorem dX8_findName_27 : decode cX8_findName 27 = .ok (.iconst (-1), 1) := by decide +kernel
theorem dX8_findName_28 : decode cX8_findName 28 = .ok (.if_icmp .ne 9, 3) := by decide +kernel
theorem dX8_findName_31 : decode cX8_findName 31 = .ok (.aload_n 0, 1) := by decide +kernel
theorem dX8_findName_32 : decode cX8_findName 32 = .ok (.iconst 3, 1) := by decide +kernel
theorem dX8_findName_33 : decode cX8_findName 33 = .ok (.invokevirtual 84, 3) := by decide +kernel
theorem dX8_findName_36 : decode cX8_findName 36 = .ok (.pop, 1) := by decide +kernel
theorem dX8_findName_37 : decode cX8_findName 37 = .ok (.iload_n 3, 1) := by decide +kernel
theorem dX8_findName_38 : decode cX8_findName 38 = .ok (.ireturn, 1) := by decide +kernel
set_option maxRecDepth 20000 in
theorem ggX8_readAt_X7_at : GoodIn wsX8_readAt wsX7_at := goodIn_r _ [6, 7, 8, 98, 99] (by decide +kernel) (by decide +kernel)
set_option maxRecDepth 20000 in
theorem gX8_readAt_X7_at : GoodIn wsX8_readAt (wsV RX8 93 RX7 yX7_at wsX7_at) := goodIn_app (goodIn_of _ (by decide +kernel)) ggX8_readAt_X7_at
set_option maxRecDepth 20000 in
theorem ggX8_readAt_X8_isLetter : GoodIn wsX8_readAt wsX8_isLetter := goodIn_r _ [12] (by decide +kernel) (by decide +kernel)
set_option maxRecDepth 20000 in
theorem gX8_readAt_X8_isLetter : GoodIn wsX8_readAt (va_wsS RX8 96 yX8_isLetter wsX8_isLetter) := goodIn_app (goodIn_of _ (by decide +kernel)) ggX8_readAt_X8_isLetter
set_option maxRecDepth 20000 in
theorem ggX8_readAt_X8_isDigit : GoodIn wsX8_readAt wsX8_isDigit := goodIn_r _ [15] (by decide +kernel) (by decide +kernel)
set_option maxRecDepth 20000 in
theorem gX8_readAt_X8_isDigit : GoodIn wsX8_readAt (va_wsS RX8 99 yX8_isDigit wsX8_isDigit) := goodIn_app (goodIn_of _ (by decide +kernel)) ggX8_readAt_X8_isDigit
set_option maxRecDepth 20000 in
theorem ggX8_readAt_X8_readRun : GoodIn wsX8_readAt wsX8_readRun := goodIn_r _ [19, 1, 20, 2, 3, 4, 5, 6, 7, 8, 9, 10, 11, 12, 13, 14, 15, 21, 22, 23, 24, 25, 26, 27, 28, 29, 30, 31, 32, 33, 34, 35, 36, 37, 38, 39, 40, 41, 42, 43, 44, 45, 46, 47, 48, 49, 50, 51, 52, 53, 54, 55, 56, 57, 58, 59, 60, 61, 62, 63, 64, 65, 66, 67, 68, 69, 70, 71, 72, 73, 74, 75, 76, 77, 78, 79, 80, 81, 85, 86, 87, 88, 89, 90, 91, 92, 93, 94, 95, 96, 97, 98, 99] (by decide +kernel) (by decide +kernel)
set_option maxRecDepth 20000 in
theorem gX8_readAt_X8_readRun : GoodIn wsX8_readAt (wsV RX8 102 RX8 yX8_readRun wsX8_readRun) := goodIn_app (goodIn_of _ (by decide +kernel)) ggX8_readAt_X8_readRun
set_option maxRecDepth 20000 in
theorem ggX8_readAt_X8_isMark : GoodIn wsX8_readAt wsX8_isMark := goodIn_r _ [84] (by decide +kernel) (by decide +kernel)
set_option maxRecDepth 20000 in
theorem gX8_readAt_X8_isMark : GoodIn wsX8_readAt (va_wsS RX8 105 yX8_isMark wsX8_isMark) := goodIn_app (goodIn_of _ (by decide +kernel)) ggX8_readAt_X8_isMark
set_option maxRecDepth 20000 in
theorem ggX8_readAt_X8_put : GoodIn wsX8_readAt wsX8_put := goodIn_r _ [76, 77, 78, 79, 80, 81, 85, 86, 87, 88, 89, 90, 91, 92, 93, 94, 95, 96, 97] (by decide +kernel) (by decide +kernel)
set_option maxRecDepth 20000 in
theorem gX8_readAt_X8_put : GoodIn wsX8_readAt (wsV RX8 73 RX8 yX8_put wsX8_put) := goodIn_app (goodIn_of _ (by decide +kernel)) ggX8_readAt_X8_put
theorem dX8_readAt_0 : decode cX8_readAt 0 = .ok (.aload_n 0, 1) := by decide +kernel
theorem dX8_readAt_1 : decode cX8_readAt 1 = .ok (.getfield 51, 3) := by decide +kernel
theorem dX8_readAt_4 : decode cX8_readAt 4 = .ok (.iload_n 1, 1) := by decide +kernel
theorem dX8_readAt_5 : decode cX8_readAt 5 = .ok (.invokevirtual 93, 3) := by decide +kernel
theorem dX8_readAt_8 : decode cX8_readAt 8 = .ok (.istore_n 2, 1) := by decide +kernel
theorem dX8_readAt_9 : decode cX8_readAt 9 = .ok (.iload_n 2, 1) := by decide +kernel
theorem dX8_readAt_10 : decode cX8_readAt 10 = .ok (.invokestatic 96, 3) := by decide +kernel
theorem dX8_readAt_13 : decode cX8_readAt 13 = .ok (.ifCond .ne 10, 3) := by decide +kernel
theorem dX8_readAt_16 : decode cX8_readAt 16 = .ok (.iload_n 2, 1) := by decide +kernel
theorem dX8_readAt_17 : decode cX8_readAt 17 = .ok (.invokestatic 99, 3) := by decide +kernel
theorem dX8_readAt_20 : decode cX8_readAt 20 = .ok (.ifCond .eq 9, 3) := by decide +kernel
theorem dX8_readAt_23 : decode cX8_readAt 23 = .ok (.aload_n 0, 1) := by decide +kernel
theorem dX8_readAt_24 : decode cX8_readAt 24 = .ok (.iload_n 1, 1) := by decide +kernel
theorem dX8_readAt_25 : decode cX8_readAt 25 = .ok (.invokevirtual 102, 3) := by decide +kernel
theorem dX8_readAt_28 : decode cX8_readAt 28 = .ok (.ireturn, 1) := by decide +kernel
theorem dX8_readAt_29 : decode cX8_readAt 29 = .ok (.iload_n 2, 1) := by decide +kernel
theorem dX8_readAt_30 : decode cX8_readAt 30 = .ok (.bipush 32, 2) := by decide +kernel
theorem dX8_readAt_32 : decode cX8_readAt 32 = .ok (.if_icmp .eq 28, 3) := by decide +kernel
theorem dX8_readAt_35 : decode cX8_readAt 35 = .ok (.iload_n 2, 1) := by decide +kernel
theorem dX8_readAt_36 : decode cX8_readAt 36 = .ok (.bipush 10, 2) := by decide +kernel
theorem dX8_readAt_38 : decode cX8_readAt 38 = .ok (.if_icmp .eq 22, 3) := by decide +kernel
theorem dX8_readAt_41 : decode cX8_readAt 41 = .ok (.aload_n 0, 1) := by decide +kernel
theorem dX8_readAt_42 : decode cX8_readAt 42 = .ok (.iload_n 2, 1) := by decide +kernel
theorem dX8_readAt_43 : decode cX8_readAt 43 = .ok (.invokestatic 105, 3) := by decide +kernel
theorem dX8_readAt_46 : decode cX8_readAt 46 = .ok (.ifCond .eq 7, 3) := by decide +kernel
theorem dX8_readAt_49 : decode cX8_readAt 49 = .ok (.iconst 5, 1) := by decide +kernel
theorem dX8_readAt_50 : decode cX8_readAt 50 = .ok (.goto 4, 3) := by decide +kernel
theorem dX8_readAt_53 : decode cX8_readAt 53 = .ok (.iconst 1, 1) := by decide +kernel
theorem dX8_readAt_54 : decode cX8_readAt 54 = .ok (.iload_n 1, 1) := by decide +kernel
theorem dX8_readAt_55 : decode cX8_readAt 55 = .ok (.iload_n 2, 1) := by decide +kernel
theorem dX8_readAt_56 : decode cX8_readAt 56 = .ok (.lconst 0, 1) := by decide +kernel
theorem dX8_readAt_57 : decode cX8_readAt 57 = .ok (.invokevirtual 73, 3) := by decide +kernel
theorem dX8_readAt_60 : decode cX8_readAt 60 = .ok (.iconst 1, 1) := by decide +kernel
theorem dX8_readAt_61 : decode cX8_readAt 61 = .ok (.ireturn, 1) := by decide +kernel
set_option maxRecDepth 20000 in
theorem ggX8_readRun_X7_at : GoodIn wsX8_readRun wsX7_at := goodIn_r _ [7, 8, 9, 91, 92] (by decide +kernel) (by decide +kernel)
set_option maxRecDepth 20000 in
theorem gX8_readRun_X7_at : GoodIn wsX8_readRun (wsV RX8 93 RX7 yX7_at wsX7_at) := goodIn_app (goodIn_of _ (by decide +kernel)) ggX8_readRun_X7_at
set_option maxRecDepth 20000 in
theorem ggX8_readRun_X8_isLetter : GoodIn wsX8_readRun wsX8_isLetter := goodIn_r _ [13] (by decide +kernel) (by decide +kernel)
set_option maxRecDepth 20000 in
theorem gX8_readRun_X8_isLetter : GoodIn wsX8_readRun (va_wsS RX8 96 yX8_isLetter wsX8_isLetter) := goodIn_app (goodIn_of _ (by decide +kernel)) ggX8_readRun_X8_isLetter
set_option maxRecDepth 20000 in
theorem ggX8_readRun_X8_isDigit : GoodIn wsX8_readRun wsX8_isDigit := goodIn_r _ [16] (by decide +kernel) (by decide +kernel)
set_option maxRecDepth 20000 in
theorem gX8_readRun_X8_isDigit : GoodIn wsX8_readRun (va_wsS RX8 99 yX8_isDigit wsX8_isDigit) := goodIn_app (goodIn_of _ (by decide +kernel)) ggX8_readRun_X8_isDigit
set_option maxRecDepth 20000 in
theorem ggX8_readRun_X8_keywordOf : GoodIn wsX8_readRun wsX8_keywordOf := goodIn_r _ [19, 20, 21, 22, 23, 24, 25, 26, 27, 28, 29, 30, 31, 32, 33, 34, 35, 36, 37, 38, 39, 40, 41, 42, 43, 44, 45, 46, 47, 48, 49, 50, 51, 52, 53, 54, 55, 56, 57, 58, 59, 60, 61, 62, 63, 64, 65, 66, 67, 68] (by decide +kernel) (by decide +kernel)
set_option maxRecDepth 20000 in
theorem gX8_readRun_X8_keywordOf : GoodIn wsX8_readRun (va_wsS RX8 108 yX8_keywordOf wsX8_keywordOf) := goodIn_app (goodIn_of _ (by decide +kernel)) ggX8_readRun_X8_keywordOf
set_option maxRecDepth 20000 in
theorem ggX8_readRun_X8_put : GoodIn wsX8_readRun wsX8_put := goodIn_r _ [72, 73, 74, 75, 76, 77, 78, 79, 80, 81, 82, 83, 84, 85, 86, 87, 88, 89, 90] (by decide +kernel) (by decide +kernel)
set_option maxRecDepth 20000 in
theorem gX8_readRun_X8_put : GoodIn wsX8_readRun (wsV RX8 73 RX8 yX8_put wsX8_put) := goodIn_app (goodIn_of _ (by decide +kernel)) ggX8_readRun_X8_put
theorem dX8_readRun_0 : decode cX8_readRun 0 = .ok (.iconst 0, 1) := by decide +kernel
theorem dX8_readRun_1 : decode cX8_readRun 1 = .ok (.istore_n 2, 1) := by decide +kernel
theorem dX8_readRun_2 : decode cX8_readRun 2 = .ok (.iconst 0, 1) := by decide +kernel
theorem dX8_readRun_3 : decode cX8_readRun 3 = .ok (.istore_n 3, 1) := by decide +kernel
theorem dX8_readRun_4 : decode cX8_readRun 4 = .ok (.lconst 0, 1) := by decide +kernel
theorem dX8_readRun_5 : decode cX8_readRun 5 = .ok (.lstore 4, 2) := by decide +kernel
theorem dX8_readRun_7 : decode cX8_readRun 7 = .ok (.iload_n 1, 1) := by decide +kernel
theorem dX8_readRun_8 : decode cX8_readRun 8 = .ok (.istore 6, 2) := by decide +kernel
theorem dX8_readRun_10 : decode cX8_readRun 10 = .ok (.iload 6, 2) := by decide +kernel
theorem dX8_readRun_12 : decode cX8_readRun 12 = .ok (.aload_n 0, 1) := by decide +kernel
theorem dX8_readRun_13 : decode cX8_readRun 13 = .ok (.getfield 51, 3) := by decide +kernel
theorem dX8_readRun_16 : decode cX8_readRun 16 = .ok (.getfield 55, 3) := by decide +kernel
theorem dX8_readRun_19 : decode cX8_readRun 19 = .ok (.if_icmp .ge 88, 3) := by decide +kernel
theorem dX8_readRun_22 : decode cX8_readRun 22 = .ok (.aload_n 0, 1) := by decide +kernel
theorem dX8_readRun_23 : decode cX8_readRun 23 = .ok (.getfield 51, 3) := by decide +kernel
theorem dX8_readRun_26 : decode cX8_readRun 26 = .ok (.iload 6, 2) := by decide +kernel
theorem dX8_readRun_28 : decode cX8_readRun 28 = .ok (.invokevirtual 93, 3) := by decide +kernel
theorem dX8_readRun_31 : decode cX8_readRun 31 = .ok (.invokestatic 96, 3) := by decide +kernel
theorem dX8_readRun_34 : decode cX8_readRun 34 = .ok (.ifCond .ne 18, 3) := by decide +kernel
theorem dX8_readRun_37 : decode cX8_readRun 37 = .ok (.aload_n 0, 1) := by decide +kernel
theorem dX8_readRun_38 : decode cX8_readRun 38 = .ok (.getfield 51, 3) := by decide +kernel
theorem dX8_readRun_41 : decode cX8_readRun 41 = .ok (.iload 6, 2) := by decide +kernel
theorem dX8_readRun_43 : decode cX8_readRun 43 = .ok (.invokevirtual 93, 3) := by decide +kernel
theorem dX8_readRun_46 : decode cX8_readRun 46 = .ok (.invokestatic 99, 3) := by decide +kernel
theorem dX8_readRun_49 : decode cX8_readRun 49 = .ok (.ifCond .eq 58, 3) := by decide +kernel
theorem dX8_readRun_52 : decode cX8_readRun 52 = .ok (.aload_n 0, 1) := by decide +kernel
theorem dX8_readRun_53 : decode cX8_readRun 53 = .ok (.getfield 51, 3) := by decide +kernel
theorem dX8_readRun_56 : decode cX8_readRun 56 = .ok (.iload 6, 2) := by decide +kernel
theorem dX8_readRun_58 : decode cX8_readRun 58 = .ok (.invokevirtual 93, 3) := by decide +kernel
theorem dX8_readRun_61 : decode cX8_readRun 61 = .ok (.istore 7, 2) := by decide +kernel
theorem dX8_readRun_63 : decode cX8_readRun 63 = .ok (.iload_n 2, 1) := by decide +kernel
theorem dX8_readRun_64 : decode cX8_readRun 64 = .ok (.iload 7, 2) := by decide +kernel
theorem dX8_readRun_66 : decode cX8_readRun 66 = .ok (.invokestatic 96, 3) := by decide +kernel
theorem dX8_readRun_69 : decode cX8_readRun 69 = .ok (.ifCond .eq 7, 3) := by decide +kernel
theorem dX8_readRun_72 : decode cX8_readRun 72 = .ok (.iconst 1, 1) := by decide +kernel
theorem dX8_readRun_73 : decode cX8_readRun 73 = .ok (.goto 4, 3) := by decide +kernel
theorem dX8_readRun_76 : decode cX8_readRun 76 = .ok (.iconst 0, 1) := by decide +kernel
theorem dX8_readRun_77 : decode cX8_readRun 77 = .ok (.iadd, 1) := by decide +kernel
theorem dX8_readRun_78 : decode cX8_readRun 78 = .ok (.istore_n 2, 1) := by decide +kernel
theorem dX8_readRun_79 : decode cX8_readRun 79 = .ok (.iload_n 3, 1) := by decide +kernel
theorem dX8_readRun_80 : decode cX8_readRun 80 = .ok (.bipush 10, 2) := by decide +kernel
theorem dX8_readRun_82 : decode cX8_readRun 82 = .ok (.imul, 1) := by decide +kernel
theorem dX8_readRun_83 : decode cX8_readRun 83 = .ok (.iload 7, 2) := by decide +kernel
theorem dX8_readRun_85 : decode cX8_readRun 85 = .ok (.iadd, 1) := by decide +kernel
theorem dX8_readRun_86 : decode cX8_readRun 86 = .ok (.bipush 48, 2) := by decide +kernel
theorem dX8_readRun_88 : decode cX8_readRun 88 = .ok (.isub, 1) := by decide +kernel
theorem dX8_readRun_89 : decode cX8_readRun 89 = .ok (.istore_n 3, 1) := by decide +kernel
theorem dX8_readRun_90 : decode cX8_readRun 90 = .ok (.lload 4, 2) := by decide +kernel
theorem dX8_readRun_92 : decode cX8_readRun 92 = .ok (.bipush 8, 2) := by decide +kernel
theorem dX8_readRun_94 : decode cX8_readRun 94 = .ok (.lshl, 1) := by decide +kernel
theorem dX8_readRun_95 : decode cX8_readRun 95 = .ok (.iload 7, 2) := by decide +kernel
theorem dX8_readRun_97 : decode cX8_readRun 97 = .ok (.i2l, 1) := by decide +kernel
theorem dX8_readRun_98 : decode cX8_readRun 98 = .ok (.lor, 1) := by decide +kernel
theorem dX8_readRun_99 : decode cX8_readRun 99 = .ok (.lstore 4, 2) := by decide +kernel
theorem dX8_readRun_101 : decode cX8_readRun 101 = .ok (.iinc 6 1, 3) := by decide +kernel
theorem dX8_readRun_104 : decode cX8_readRun 104 = .ok (.goto (-94), 3) := by decide +kernel
theorem dX8_readRun_107 : decode cX8_readRun 107 = .ok (.iload 6, 2) := by decide +kernel
theorem dX8_readRun_109 : decode cX8_readRun 109 = .ok (.iload_n 1, 1) := by decide +kernel
theorem dX8_readRun_110 : decode cX8_readRun 110 = .ok (.isub, 1) := by decide +kernel
theorem dX8_readRun_111 : decode cX8_readRun 111 = .ok (.istore 7, 2) := by decide +kernel
theorem dX8_readRun_113 : decode cX8_readRun 113 = .ok (.iload_n 2, 1) := by decide +kernel
theorem dX8_readRun_114 : decode cX8_readRun 114 = .ok (.iload 7, 2) := by decide +kernel
theorem dX8_readRun_116 : decode cX8_readRun 116 = .ok (.if_icmp .ne 40, 3) := by decide +kernel
theorem dX8_readRun_119 : decode cX8_readRun 119 = .ok (.iload 7, 2) := by decide +kernel
theorem dX8_readRun_121 : decode cX8_readRun 121 = .ok (.bipush 7, 2) := by decide +kernel
theorem dX8_readRun_123 : decode cX8_readRun 123 = .ok (.if_icmp .gt 33, 3) := by decide +kernel
theorem dX8_readRun_126 : decode cX8_readRun 126 = .ok (.lload 4, 2) := by decide +kernel
theorem dX8_readRun_128 : decode cX8_readRun 128 = .ok (.invokestatic 108, 3) := by decide +kernel
theorem dX8_readRun_131 : decode cX8_readRun 131 = .ok (.istore 8, 2) := by decide +kernel
theorem dX8_readRun_133 : decode cX8_readRun 133 = .ok (.aload_n 0, 1) := by decide +kernel
theorem dX8_readRun_134 : decode cX8_readRun 134 = .ok (.iload 8, 2) := by decide +kernel
theorem dX8_readRun_136 : decode cX8_readRun 136 = .ok (.iconst (-1), 1) := by decide +kernel
theorem dX8_readRun_137 : decode cX8_readRun 137 = .ok (.if_icmp .ne 7, 3) := by decide +kernel
theorem dX8_readRun_140 : decode cX8_readRun 140 = .ok (.iconst 2, 1) := by decide +kernel
theorem dX8_readRun_141 : decode cX8_readRun 141 = .ok (.goto 4, 3) := by decide +kernel
theorem dX8_readRun_144 : decode cX8_readRun 144 = .ok (.iconst 3, 1) := by decide +kernel
theorem dX8_readRun_145 : decode cX8_readRun 145 = .ok (.iload_n 1, 1) := by decide +kernel
theorem dX8_readRun_146 : decode cX8_readRun 146 = .ok (.iload 8, 2) := by decide +kernel
theorem dX8_readRun_148 : decode cX8_readRun 148 = .ok (.lload 4, 2) := by decide +kernel
theorem dX8_readRun_150 : decode cX8_readRun 150 = .ok (.invokevirtual 73, 3) := by decide +kernel
theorem dX8_readRun_153 : decode cX8_readRun 153 = .ok (.goto 25, 3) := by decide +kernel
theorem dX8_readRun_156 : decode cX8_readRun 156 = .ok (.aload_n 0, 1) := by decide +kernel
theorem dX8_readRun_157 : decode cX8_readRun 157 = .ok (.iload_n 2, 1) := by decide +kernel
theorem dX8_readRun_158 : decode cX8_readRun 158 = .ok (.ifCond .ne 13, 3) := by decide +kernel
theorem dX8_readRun_161 : decode cX8_readRun 161 = .ok (.iload 7, 2) := by decide +kernel
theorem dX8_readRun_163 : decode cX8_readRun 163 = .ok (.iconst 3, 1) := by decide +kernel
theorem dX8_readRun_164 : decode cX8_readRun 164 = .ok (.if_icmp .gt 7, 3) := by decide +kernel
theorem dX8_readRun_167 : decode cX8_readRun 167 = .ok (.iconst 4, 1) := by decide +kernel
theorem dX8_readRun_168 : decode cX8_readRun 168 = .ok (.goto 4, 3) := by decide +kernel
theorem dX8_readRun_171 : decode cX8_readRun 171 = .ok (.iconst 1, 1) := by decide +kernel
theorem dX8_readRun_172 : decode cX8_readRun 172 = .ok (.iload_n 1, 1) := by decide +kernel
theorem dX8_readRun_173 : decode cX8_readRun 173 = .ok (.iload_n 3, 1) := by decide +kernel
theorem dX8_readRun_174 : decode cX8_readRun 174 = .ok (.lconst 0, 1) := by decide +kernel
theorem dX8_readRun_175 : decode cX8_readRun 175 = .ok (.invokevirtual 73, 3) := by decide +kernel
theorem dX8_readRun_178 : decode cX8_readRun 178 = .ok (.iload 7, 2) := by decide +kernel
theorem dX8_readRun_180 : decode cX8_readRun 180 = .ok (.ireturn, 1) := by decide +kernel
theorem dX8_put_0 : decode cX8_put 0 = .ok (.aload_n 0, 1) := by decide +kernel
theorem dX8_put_1 : decode cX8_put 1 = .ok (.getfield 31, 3) := by decide +kernel
theorem dX8_put_4 : decode cX8_put 4 = .ok (.aload_n 0, 1) := by decide +kernel
theorem dX8_put_5 : decode cX8_put 5 = .ok (.getfield 37, 3) := by decide +kernel
theorem dX8_put_8 : decode cX8_put 8 = .ok (.arraylength, 1) := by decide +kernel
theorem dX8_put_9 : decode cX8_put 9 = .ok (.if_icmp .ge 54, 3) := by decide +kernel
theorem dX8_put_12 : decode cX8_put 12 = .ok (.aload_n 0, 1) := by decide +kernel
theorem dX8_put_13 : decode cX8_put 13 = .ok (.getfield 37, 3) := by decide +kernel
theorem dX8_put_16 : decode cX8_put 16 = .ok (.aload_n 0, 1) := by decide +kernel
theorem dX8_put_17 : decode cX8_put 17 = .ok (.getfield 31, 3) := by decide +kernel
theorem dX8_put_20 : decode cX8_put 20 = .ok (.iload_n 1, 1) := by decide +kernel
theorem dX8_put_21 : decode cX8_put 21 = .ok (.iastore, 1) := by decide +kernel
theorem dX8_put_22 : decode cX8_put 22 = .ok (.aload_n 0, 1) := by decide +kernel
theorem dX8_put_23 : decode cX8_put 23 = .ok (.getfield 41, 3) := by decide +kernel
theorem dX8_put_26 : decode cX8_put 26 = .ok (.aload_n 0, 1) := by decide +kernel
theorem dX8_put_27 : decode cX8_put 27 = .ok (.getfield 31, 3) := by decide +kernel
theorem dX8_put_30 : decode cX8_put 30 = .ok (.iload_n 2, 1) := by decide +kernel
theorem dX8_put_31 : decode cX8_put 31 = .ok (.iastore, 1) := by decide +kernel
theorem dX8_put_32 : decode cX8_put 32 = .ok (.aload_n 0, 1) := by decide +kernel
theorem dX8_put_33 : decode cX8_put 33 = .ok (.getfield 44, 3) := by decide +kernel
theorem dX8_put_36 : decode cX8_put 36 = .ok (.aload_n 0, 1) := by decide +kernel
theorem dX8_put_37 : decode cX8_put 37 = .ok (.getfield 31, 3) := by decide +kernel
theorem dX8_put_40 : decode cX8_put 40 = .ok (.iload_n 3, 1) := by decide +kernel
theorem dX8_put_41 : decode cX8_put 41 = .ok (.iastore, 1) := by decide +kernel
theorem dX8_put_42 : decode cX8_put 42 = .ok (.aload_n 0, 1) := by decide +kernel
theorem dX8_put_43 : decode cX8_put 43 = .ok (.getfield 47, 3) := by decide +kernel
theorem dX8_put_46 : decode cX8_put 46 = .ok (.aload_n 0, 1) := by decide +kernel
theorem dX8_put_47 : decode cX8_put 47 = .ok (.getfield 31, 3) := by decide +kernel
theorem dX8_put_50 : decode cX8_put 50 = .ok (.lload 4, 2) := by decide +kernel
theorem dX8_put_52 : decode cX8_put 52 = .ok (.lastore, 1) := by decide +kernel
theorem dX8_put_53 : decode cX8_put 53 = .ok (.aload_n 0, 1) := by decide +kernel
theorem dX8_put_54 : decode cX8_put 54 = .ok (.dup, 1) := by decide +kernel
theorem dX8_put_55 : decode cX8_put 55 = .ok (.getfield 31, 3) := by decide +kernel
theorem dX8_put_58 : decode cX8_put 58 = .ok (.iconst 1, 1) := by decide +kernel
theorem dX8_put_59 : decode cX8_put 59 = .ok (.iadd, 1) := by decide +kernel
theorem dX8_put_60 : decode cX8_put 60 = .ok (.putfield 31, 3) := by decide +kernel
theorem dX8_put_63 : decode cX8_put 63 = .ok (.return_, 1) := by decide +kernel
set_option maxRecDepth 20000 in
theorem ggX8_keywordOf_J0_length_8abf5 : GoodIn wsX8_keywordOf wsJ0_length_8abf5 := goodIn_r _ [5, 6, 7, 8, 9, 4, 10, 11, 12] (by decide +kernel) (by decide +kernel)
set_option maxRecDepth 20000 in
theorem gX8_keywordOf_J0_length_8abf5 : GoodIn wsX8_keywordOf (wsV RX8 114 RJ0 yJ0_length_8abf5 wsJ0_length_8abf5) := goodIn_app (goodIn_of _ (by decide +kernel)) ggX8_keywordOf_J0_length_8abf5
set_option maxRecDepth 20000 in
theorem ggX8_keywordOf_J0_charAt_5068e : GoodIn wsX8_keywordOf wsJ0_charAt_5068e := goodIn_r _ [16, 6, 17, 18, 19, 4, 20, 11, 12, 21, 22, 23, 24, 25, 26, 27, 28, 29, 30, 31, 32, 33, 34, 35, 36, 37, 38, 39, 40, 41, 42, 43, 44, 45, 46, 47, 48, 49] (by decide +kernel) (by decide +kernel)
set_option maxRecDepth 20000 in
theorem gX8_keywordOf_J0_charAt_5068e : GoodIn wsX8_keywordOf (wsV RX8 119 RJ0 yJ0_charAt_5068e wsJ0_charAt_5068e) := goodIn_app (goodIn_of _ (by decide +kernel)) ggX8_keywordOf_J0_charAt_5068e
theorem dX8_keywordOf_0 : decode cX8_keywordOf 0 = .ok (.lconst 0, 1) := by decide +kernel
theorem dX8_keywordOf_1 : decode cX8_keywordOf 1 = .ok (.lstore_n 2, 1) := by decide +kernel
theorem dX8_keywordOf_2 : decode cX8_keywordOf 2 = .ok (.iconst 0, 1) := by decide +kernel
theorem dX8_keywordOf_3 : decode cX8_keywordOf 3 = .ok (.istore 4, 2) := by decide +kernel
theorem dX8_keywordOf_5 : decode cX8_keywordOf 5 = .ok (.iconst 0, 1) := by decide +kernel
theorem dX8_keywordOf_6 : decode cX8_keywordOf 6 = .ok (.istore 5, 2) := by decide +kernel
theorem dX8_keywordOf_8 : decode cX8_keywordOf 8 = .ok (.iload 5, 2) := by decide +kernel
theorem dX8_keywordOf_10 : decode cX8_keywordOf 10 = .ok (.ldc 112, 2) := by decide +kernel
theorem dX8_keywordOf_12 : decode cX8_keywordOf 12 = .ok (.invokevirtual 114, 3) := by decide +kernel
theorem dX8_keywordOf_15 : decode cX8_keywordOf 15 = .ok (.if_icmp .ge 51, 3) := by decide +kernel
theorem dX8_keywordOf_18 : decode cX8_keywordOf 18 = .ok (.ldc 112, 2) := by decide +kernel
theorem dX8_keywordOf_20 : decode cX8_keywordOf 20 = .ok (.iload 5, 2) := by decide +kernel
theorem dX8_keywordOf_22 : decode cX8_keywordOf 22 = .ok (.invokevirtual 119, 3) := by decide +kernel
theorem dX8_keywordOf_25 : decode cX8_keywordOf 25 = .ok (.istore 6, 2) := by decide +kernel
theorem dX8_keywordOf_27 : decode cX8_keywordOf 27 = .ok (.iload 6, 2) := by decide +kernel
theorem dX8_keywordOf_29 : decode cX8_keywordOf 29 = .ok (.bipush 32, 2) := by decide +kernel
theorem dX8_keywordOf_31 : decode cX8_keywordOf 31 = .ok (.if_icmp .eq 15, 3) := by decide +kernel
theorem dX8_keywordOf_34 : decode cX8_keywordOf 34 = .ok (.lload_n 2, 1) := by decide +kernel
theorem dX8_keywordOf_35 : decode cX8_keywordOf 35 = .ok (.bipush 8, 2) := by decide +kernel
theorem dX8_keywordOf_37 : decode cX8_keywordOf 37 = .ok (.lshl, 1) := by decide +kernel
theorem dX8_keywordOf_38 : decode cX8_keywordOf 38 = .ok (.iload 6, 2) := by decide +kernel
theorem dX8_keywordOf_40 : decode cX8_keywordOf 40 = .ok (.i2l, 1) := by decide +kernel
theorem dX8_keywordOf_41 : decode cX8_keywordOf 41 = .ok (.lor, 1) := by decide +kernel
theorem dX8_keywordOf_42 : decode cX8_keywordOf 42 = .ok (.lstore_n 2, 1) := by decide +kernel
theorem dX8_keywordOf_43 : decode cX8_keywordOf 43 = .ok (.goto 17, 3) := by decide +kernel
theorem dX8_keywordOf_46 : decode cX8_keywordOf 46 = .ok (.lload_n 2, 1) := by decide +kernel
theorem dX8_keywordOf_47 : decode cX8_keywordOf 47 = .ok (.lload_n 0, 1) := by decide +kernel
theorem dX8_keywordOf_48 : decode cX8_keywordOf 48 = .ok (.lcmp, 1) := by decide +kernel
theorem dX8_keywordOf_49 : decode cX8_keywordOf 49 = .ok (.ifCond .ne 6, 3) := by decide +kernel
theorem dX8_keywordOf_52 : decode cX8_keywordOf 52 = .ok (.iload 4, 2) := by decide +kernel
theorem dX8_keywordOf_54 : decode cX8_keywordOf 54 = .ok (.ireturn, 1) := by decide +kernel
theorem dX8_keywordOf_55 : decode cX8_keywordOf 55 = .ok (.lconst 0, 1) := by decide +kernel
theorem dX8_keywordOf_56 : decode cX8_keywordOf 56 = .ok (.lstore_n 2, 1) := by decide +kernel
theorem dX8_keywordOf_57 : decode cX8_keywordOf 57 = .ok (.iinc 4 1, 3) := by decide +kernel
theorem dX8_keywordOf_60 : decode cX8_keywordOf 60 = .ok (.iinc 5 1, 3) := by decide +kernel
theorem dX8_keywordOf_63 : decode cX8_keywordOf 63 = .ok (.goto (-55), 3) := by decide +kernel
theorem dX8_keywordOf_66 : decode cX8_keywordOf 66 = .ok (.iconst (-1), 1) := by decide +kernel
theorem dX8_keywordOf_67 : decode cX8_keywordOf 67 = .ok (.ireturn, 1) := by decide +kernel
theorem dX8_isLetter_0 : decode cX8_isLetter 0 = .ok (.iload_n 0, 1) := by decide +kernel
theorem dX8_isLetter_1 : decode cX8_isLetter 1 = .ok (.bipush 97, 2) := by decide +kernel
theorem dX8_isLetter_3 : decode cX8_isLetter 3 = .ok (.if_icmp .lt 13, 3) := by decide +kernel
theorem dX8_isLetter_6 : decode cX8_isLetter 6 = .ok (.iload_n 0, 1) := by decide +kernel
theorem dX8_isLetter_7 : decode cX8_isLetter 7 = .ok (.bipush 122, 2) := by decide +kernel
theorem dX8_isLetter_9 : decode cX8_isLetter 9 = .ok (.if_icmp .gt 7, 3) := by decide +kernel
theorem dX8_isLetter_12 : decode cX8_isLetter 12 = .ok (.iconst 1, 1) := by decide +kernel
theorem dX8_isLetter_13 : decode cX8_isLetter 13 = .ok (.goto 4, 3) := by decide +kernel
theorem dX8_isLetter_16 : decode cX8_isLetter 16 = .ok (.iconst 0, 1) := by decide +kernel
theorem dX8_isLetter_17 : decode cX8_isLetter 17 = .ok (.ireturn, 1) := by decide +kernel
theorem dX8_isDigit_0 : decode cX8_isDigit 0 = .ok (.iload_n 0, 1) := by decide +kernel
theorem dX8_isDigit_1 : decode cX8_isDigit 1 = .ok (.bipush 48, 2) := by decide +kernel
theorem dX8_isDigit_3 : decode cX8_isDigit 3 = .ok (.if_icmp .lt 13, 3) := by decide +kernel
theorem dX8_isDigit_6 : decode cX8_isDigit 6 = .ok (.iload_n 0, 1) := by decide +kernel
theorem dX8_isDigit_7 : decode cX8_isDigit 7 = .ok (.bipush 57, 2) := by decide +kernel
theorem dX8_isDigit_9 : decode cX8_isDigit 9 = .ok (.if_icmp .gt 7, 3) := by decide +kernel
theorem dX8_isDigit_12 : decode cX8_isDigit 12 = .ok (.iconst 1, 1) := by decide +kernel
theorem dX8_isDigit_13 : decode cX8_isDigit 13 = .ok (.goto 4, 3) := by decide +kernel
theorem dX8_isDigit_16 : decode cX8_isDigit 16 = .ok (.iconst 0, 1) := by decide +kernel
theorem dX8_isDigit_17 : decode cX8_isDigit 17 = .ok (.ireturn, 1) := by decide +kernel
theorem dX8_isMark_0 : decode cX8_isMark 0 = .ok (.iload_n 0, 1) := by decide +kernel
theorem dX8_isMark_1 : decode cX8_isMark 1 = .ok (.bipush 59, 2) := by decide +kernel
theorem dX8_isMark_3 : decode cX8_isMark 3 = .ok (.if_icmp .eq 33, 3) := by decide +kernel
theorem dX8_isMark_6 : decode cX8_isMark 6 = .ok (.iload_n 0, 1) := by decide +kernel
theorem dX8_isMark_7 : decode cX8_isMark 7 = .ok (.bipush 40, 2) := by decide +kernel
theorem dX8_isMark_9 : decode cX8_isMark 9 = .ok (.if_icmp .eq 27, 3) := by decide +kernel
theorem dX8_isMark_12 : decode cX8_isMark 12 = .ok (.iload_n 0, 1) := by decide +kernel
theorem dX8_isMark_13 : decode cX8_isMark 13 = .ok (.bipush 41, 2) := by decide +kernel
theorem dX8_isMark_15 : decode cX8_isMark 15 = .ok (.if_icmp .eq 21, 3) := by decide +kernel
theorem dX8_isMark_18 : decode cX8_isMark 18 = .ok (.iload_n 0, 1) := by decide +kernel
theorem dX8_isMark_19 : decode cX8_isMark 19 = .ok (.bipush 60, 2) := by decide +kernel
theorem dX8_isMark_21 : decode cX8_isMark 21 = .ok (.if_icmp .eq 15, 3) := by decide +kernel
theorem dX8_isMark_24 : decode cX8_isMark 24 = .ok (.iload_n 0, 1) := by decide +kernel
theorem dX8_isMark_25 : decode cX8_isMark 25 = .ok (.bipush 61, 2) := by decide +kernel
theorem dX8_isMark_27 : decode cX8_isMark 27 = .ok (.if_icmp .eq 9, 3) := by decide +kernel
theorem dX8_isMark_30 : decode cX8_isMark 30 = .ok (.iload_n 0, 1) := by decide +kernel
theorem dX8_isMark_31 : decode cX8_isMark 31 = .ok (.bipush 62, 2) := by decide +kernel
theorem dX8_isMark_33 : decode cX8_isMark 33 = .ok (.if_icmp .ne 7, 3) := by decide +kernel
theorem dX8_isMark_36 : decode cX8_isMark 36 = .ok (.iconst 1, 1) := by decide +kernel
theorem dX8_isMark_37 : decode cX8_isMark 37 = .ok (.goto 4, 3) := by decide +kernel
theorem dX8_isMark_40 : decode cX8_isMark 40 = .ok (.iconst 0, 1) := by decide +kernel
theorem dX8_isMark_41 : decode cX8_isMark 41 = .ok (.ireturn, 1) := by decide +kernel
theorem dX9_init_0 : decode cX9_init 0 = .ok (.aload_n 0, 1) := by decide +kernel
theorem dX9_init_1 : decode cX9_init 1 = .ok (.invokespecial 3, 3) := by decide +kernel
theorem dX9_init_4 : decode cX9_init 4 = .ok (.aload_n 0, 1) := by decide +kernel
theorem dX9_init_5 : decode cX9_init 5 = .ok (.iconst (-1), 1) := by decide +kernel
theorem dX9_init_6 : decode cX9_init 6 = .ok (.putfield 9, 3) := by decide +kernel
theorem dX9_init_9 : decode cX9_init 9 = .ok (.aload_n 0, 1) := by decide +kernel
theorem dX9_init_10 : decode cX9_init 10 = .ok (.iconst (-1), 1) := by decide +kernel
theorem dX9_init_11 : decode cX9_init 11 = .ok (.putfield 15, 3) := by decide +kernel
theorem dX9_init_14 : decode cX9_init 14 = .ok (.aload_n 0, 1) := by decide +kernel
theorem dX9_init_15 : decode cX9_init 15 = .ok (.sipush 1440, 3) := by decide +kernel
theorem dX9_init_18 : decode cX9_init 18 = .ok (.newarray .int, 2) := by decide +kernel
theorem dX9_init_20 : decode cX9_init 20 = .ok (.putfield 18, 3) := by decide +kernel
theorem dX9_init_23 : decode cX9_init 23 = .ok (.aload_n 0, 1) := by decide +kernel
theorem dX9_init_24 : decode cX9_init 24 = .ok (.sipush 720, 3) := by decide +kernel
theorem dX9_init_27 : decode cX9_init 27 = .ok (.newarray .int, 2) := by decide +kernel
theorem dX9_init_29 : decode cX9_init 29 = .ok (.putfield 22, 3) := by decide +kernel
theorem dX9_init_32 : decode cX9_init 32 = .ok (.return_, 1) := by decide +kernel
set_option maxRecDepth 20000 in
theorem ggX9_search_X9_isAsTold : GoodIn wsX9_search wsX9_isAsTold := goodIn_r _ [8, 9, 10, 11, 12, 13, 14, 15, 16, 17, 18, 76, 77, 62, 63, 64, 65, 66, 67, 68, 69, 70, 71, 78, 79, 80, 81, 82, 83, 84, 85, 86, 87, 88, 89, 90, 91, 92] (by decide +kernel) (by decide +kernel)
set_option maxRecDepth 20000 in
theorem gX9_search_X9_isAsTold : GoodIn wsX9_search (va_wsS RX9 25 yX9_isAsTold wsX9_isAsTold) := goodIn_app (goodIn_of _ (by decide +kernel)) ggX9_search_X9_isAsTold
set_option maxRecDepth 20000 in
theorem ggX9_search_X9_allShow : GoodIn wsX9_search wsX9_allShow := goodIn_r _ [21, 9, 12, 13, 14, 15, 16, 17, 18, 22, 23, 24, 25, 26, 27, 28, 29, 30, 31, 32, 33, 34, 35, 36, 37, 38, 39, 40, 41, 42, 43, 44, 76, 77, 62, 63, 64, 65, 66, 67, 68, 69, 70, 71, 78, 79, 80, 81, 82, 83, 84, 85, 86, 87, 88, 89, 90, 91, 92] (by decide +kernel) (by decide +kernel)
set_option maxRecDepth 20000 in
theorem gX9_search_X9_allShow : GoodIn wsX9_search (va_wsS RX9 34 yX9_allShow wsX9_allShow) := goodIn_app (goodIn_of _ (by decide +kernel)) ggX9_search_X9_allShow
set_option maxRecDepth 20000 in
theorem ggX9_search_X9_clockToLookAt : GoodIn wsX9_search wsX9_clockToLookAt := goodIn_r _ [48, 10, 11, 49, 50, 51, 7, 52, 53, 2, 54, 55, 56, 57, 58, 59, 60, 61, 22, 23, 24, 25, 26, 27, 28, 29, 30, 31, 32, 33, 34, 35, 36, 37, 38, 39, 40, 41, 42, 43, 44, 62, 63, 64, 65, 66, 67, 68, 69, 70, 71, 78, 79, 80, 81, 82, 83, 84, 85, 86, 87, 88, 89, 90, 91, 92, 72, 73, 74, 75] (by decide +kernel) (by decide +kernel)
set_option maxRecDepth 20000 in
theorem gX9_search_X9_clockToLookAt : GoodIn wsX9_search (wsV RX9 38 RX9 yX9_clockToLookAt wsX9_clockToLookAt) := goodIn_app (goodIn_of _ (by decide +kernel)) ggX9_search_X9_clockToLookAt
theorem dX9_search_0 : decode cX9_search 0 = .ok (.aload_n 1, 1) := by decide +kernel
theorem dX9_search_1 : decode cX9_search 1 = .ok (.aload_n 2, 1) := by decide +kernel
theorem dX9_search_2 : decode cX9_search 2 = .ok (.invokestatic 25, 3) := by decide +kernel
theorem dX9_search_5 : decode cX9_search 5 = .ok (.ifCond .ne 5, 3) := by decide +kernel
theorem dX9_search_8 : decode cX9_search 8 = .ok (.iconst (-1), 1) := by decide +kernel
theorem dX9_search_9 : decode cX9_search 9 = .ok (.ireturn, 1) := by decide +kernel
theorem dX9_search_10 : decode cX9_search 10 = .ok (.iconst 0, 1) := by decide +kernel
theorem dX9_search_11 : decode cX9_search 11 = .ok (.istore_n 3, 1) := by decide +kernel
theorem dX9_search_12 : decode cX9_search 12 = .ok (.iconst 0, 1) := by decide +kernel
theorem dX9_search_13 : decode cX9_search 13 = .ok (.istore 4, 2) := by decide +kernel
theorem dX9_search_15 : decode cX9_search 15 = .ok (.iload 4, 2) := by decide +kernel
theorem dX9_search_17 : decode cX9_search 17 = .ok (.sipush 1440, 3) := by decide +kernel
theorem dX9_search_20 : decode cX9_search 20 = .ok (.if_icmp .ge 40, 3) := by decide +kernel
theorem dX9_search_23 : decode cX9_search 23 = .ok (.aload_n 1, 1) := by decide +kernel
theorem dX9_search_24 : decode cX9_search 24 = .ok (.aload_n 2, 1) := by decide +kernel
theorem dX9_search_25 : decode cX9_search 25 = .ok (.aload_n 1, 1) := by decide +kernel
theorem dX9_search_26 : decode cX9_search 26 = .ok (.getfield 29, 3) := by decide +kernel
theorem dX9_search_29 : decode cX9_search 29 = .ok (.iload 4, 2) := by decide +kernel
theorem dX9_search_31 : decode cX9_search 31 = .ok (.iadd, 1) := by decide +kernel
theorem dX9_search_32 : decode cX9_search 32 = .ok (.invokestatic 34, 3) := by decide +kernel
theorem dX9_search_35 : decode cX9_search 35 = .ok (.ifCond .eq 19, 3) := by decide +kernel
theorem dX9_search_38 : decode cX9_search 38 = .ok (.aload_n 0, 1) := by decide +kernel
theorem dX9_search_39 : decode cX9_search 39 = .ok (.getfield 18, 3) := by decide +kernel
theorem dX9_search_42 : decode cX9_search 42 = .ok (.iload_n 3, 1) := by decide +kernel
theorem dX9_search_43 : decode cX9_search 43 = .ok (.aload_n 1, 1) := by decide +kernel
theorem dX9_search_44 : decode cX9_search 44 = .ok (.getfield 29, 3) := by decide +kernel
theorem dX9_search_47 : decode cX9_search 47 = .ok (.iload 4, 2) := by decide +kernel
theorem dX9_search_49 : decode cX9_search 49 = .ok (.iadd, 1) := by decide +kernel
theorem dX9_search_50 : decode cX9_search 50 = .ok (.iastore, 1) := by decide +kernel
theorem dX9_search_51 : decode cX9_search 51 = .ok (.iinc 3 1, 3) := by decide +kernel
theorem dX9_search_54 : decode cX9_search 54 = .ok (.iinc 4 1, 3) := by decide +kernel
theorem dX9_search_57 : decode cX9_search 57 = .ok (.goto (-42), 3) := by decide +kernel
theorem dX9_search_60 : decode cX9_search 60 = .ok (.iload_n 3, 1) := by decide +kernel
theorem dX9_search_61 : decode cX9_search 61 = .ok (.ifCond .le 23, 3) := by decide +kernel
theorem dX9_search_64 : decode cX9_search 64 = .ok (.aload_n 0, 1) := by decide +kernel
theorem dX9_search_65 : decode cX9_search 65 = .ok (.aload_n 0, 1) := by decide +kernel
theorem dX9_search_66 : decode cX9_search 66 = .ok (.getfield 18, 3) := by decide +kernel
theorem dX9_search_69 : decode cX9_search 69 = .ok (.iconst 0, 1) := by decide +kernel
theorem dX9_search_70 : decode cX9_search 70 = .ok (.iaload, 1) := by decide +kernel
theorem dX9_search_71 : decode cX9_search 71 = .ok (.putfield 9, 3) := by decide +kernel
theorem dX9_search_74 : decode cX9_search 74 = .ok (.aload_n 0, 1) := by decide +kernel
theorem dX9_search_75 : decode cX9_search 75 = .ok (.aload_n 0, 1) := by decide +kernel
theorem dX9_search_76 : decode cX9_search 76 = .ok (.aload_n 1, 1) := by decide +kernel
theorem dX9_search_77 : decode cX9_search 77 = .ok (.iload_n 3, 1) := by decide +kernel
theorem dX9_search_78 : decode cX9_search 78 = .ok (.invokevirtual 38, 3) := by decide +kernel
theorem dX9_search_81 : decode cX9_search 81 = .ok (.putfield 15, 3) := by decide +kernel
theorem dX9_search_84 : decode cX9_search 84 = .ok (.iload_n 3, 1) := by decide +kernel
theorem dX9_search_85 : decode cX9_search 85 = .ok (.ireturn, 1) := by decide +kernel
set_option maxRecDepth 20000 in
theorem ggX9_isAsTold_X7_at : GoodIn wsX9_isAsTold wsX7_at := goodIn_r _ [8, 9, 10, 11, 12] (by decide +kernel) (by decide +kernel)
set_option maxRecDepth 20000 in
theorem gX9_isAsTold_X7_at : GoodIn wsX9_isAsTold (wsV RX9 47 RX7 yX7_at wsX7_at) := goodIn_app (goodIn_of _ (by decide +kernel)) ggX9_isAsTold_X7_at
theorem dX9_isAsTold_0 : decode cX9_isAsTold 0 = .ok (.aload_n 1, 1) := by decide +kernel
theorem dX9_isAsTold_1 : decode cX9_isAsTold 1 = .ok (.getfield 42, 3) := by decide +kernel
theorem dX9_isAsTold_4 : decode cX9_isAsTold 4 = .ok (.iconst 3, 1) := by decide +kernel
theorem dX9_isAsTold_5 : decode cX9_isAsTold 5 = .ok (.if_icmp .lt 21, 3) := by decide +kernel
theorem dX9_isAsTold_8 : decode cX9_isAsTold 8 = .ok (.aload_n 1, 1) := by decide +kernel
theorem dX9_isAsTold_9 : decode cX9_isAsTold 9 = .ok (.getfield 42, 3) := by decide +kernel
theorem dX9_isAsTold_12 : decode cX9_isAsTold 12 = .ok (.bipush 15, 2) := by decide +kernel
theorem dX9_isAsTold_14 : decode cX9_isAsTold 14 = .ok (.if_icmp .gt 12, 3) := by decide +kernel
theorem dX9_isAsTold_17 : decode cX9_isAsTold 17 = .ok (.aload_n 1, 1) := by decide +kernel
theorem dX9_isAsTold_18 : decode cX9_isAsTold 18 = .ok (.getfield 42, 3) := by decide +kernel
theorem dX9_isAsTold_21 : decode cX9_isAsTold 21 = .ok (.iconst 3, 1) := by decide +kernel
theorem dX9_isAsTold_22 : decode cX9_isAsTold 22 = .ok (.irem, 1) := by decide +kernel
theorem dX9_isAsTold_23 : decode cX9_isAsTold 23 = .ok (.ifCond .eq 5, 3) := by decide +kernel
theorem dX9_isAsTold_26 : decode cX9_isAsTold 26 = .ok (.iconst 0, 1) := by decide +kernel
theorem dX9_isAsTold_27 : decode cX9_isAsTold 27 = .ok (.ireturn, 1) := by decide +kernel
theorem dX9_isAsTold_28 : decode cX9_isAsTold 28 = .ok (.iconst 0, 1) := by decide +kernel
theorem dX9_isAsTold_29 : decode cX9_isAsTold 29 = .ok (.istore_n 2, 1) := by decide +kernel
theorem dX9_isAsTold_30 : decode cX9_isAsTold 30 = .ok (.iload_n 2, 1) := by decide +kernel
theorem dX9_isAsTold_31 : decode cX9_isAsTold 31 = .ok (.aload_n 1, 1) := by decide +kernel
theorem dX9_isAsTold_32 : decode cX9_isAsTold 32 = .ok (.getfield 42, 3) := by decide +kernel
theorem dX9_isAsTold_35 : decode cX9_isAsTold 35 = .ok (.if_icmp .ge 50, 3) := by decide +kernel
theorem dX9_isAsTold_38 : decode cX9_isAsTold 38 = .ok (.aload_n 1, 1) := by decide +kernel
theorem dX9_isAsTold_39 : decode cX9_isAsTold 39 = .ok (.iload_n 2, 1) := by decide +kernel
theorem dX9_isAsTold_40 : decode cX9_isAsTold 40 = .ok (.invokevirtual 47, 3) := by decide +kernel
theorem dX9_isAsTold_43 : decode cX9_isAsTold 43 = .ok (.aload_n 0, 1) := by decide +kernel
theorem dX9_isAsTold_44 : decode cX9_isAsTold 44 = .ok (.getfield 51, 3) := by decide +kernel
theorem dX9_isAsTold_47 : decode cX9_isAsTold 47 = .ok (.getfield 55, 3) := by decide +kernel
theorem dX9_isAsTold_50 : decode cX9_isAsTold 50 = .ok (.if_icmp .ge 27, 3) := by decide +kernel
theorem dX9_isAsTold_53 : decode cX9_isAsTold 53 = .ok (.aload_n 1, 1) := by decide +kernel
theorem dX9_isAsTold_54 : decode cX9_isAsTold 54 = .ok (.iload_n 2, 1) := by decide +kernel
theorem dX9_isAsTold_55 : decode cX9_isAsTold 55 = .ok (.iconst 1, 1) := by decide +kernel
theorem dX9_isAsTold_56 : decode cX9_isAsTold 56 = .ok (.iadd, 1) := by decide +kernel
theorem dX9_isAsTold_57 : decode cX9_isAsTold 57 = .ok (.invokevirtual 47, 3) := by decide +kernel
theorem dX9_isAsTold_60 : decode cX9_isAsTold 60 = .ok (.bipush 11, 2) := by decide +kernel
theorem dX9_isAsTold_62 : decode cX9_isAsTold 62 = .ok (.if_icmp .gt 15, 3) := by decide +kernel
theorem dX9_isAsTold_65 : decode cX9_isAsTold 65 = .ok (.aload_n 1, 1) := by decide +kernel
theorem dX9_isAsTold_66 : decode cX9_isAsTold 66 = .ok (.iload_n 2, 1) := by decide +kernel
theorem dX9_isAsTold_67 : decode cX9_isAsTold 67 = .ok (.iconst 2, 1) := by decide +kernel
theorem dX9_isAsTold_68 : decode cX9_isAsTold 68 = .ok (.iadd, 1) := by decide +kernel
theorem dX9_isAsTold_69 : decode cX9_isAsTold 69 = .ok (.invokevirtual 47, 3) := by decide +kernel
theorem dX9_isAsTold_72 : decode cX9_isAsTold 72 = .ok (.bipush 59, 2) := by decide +kernel
theorem dX9_isAsTold_74 : decode cX9_isAsTold 74 = .ok (.if_icmp .le 5, 3) := by decide +kernel
theorem dX9_isAsTold_77 : decode cX9_isAsTold 77 = .ok (.iconst 0, 1) := by decide +kernel
theorem dX9_isAsTold_78 : decode cX9_isAsTold 78 = .ok (.ireturn, 1) := by decide +kernel
theorem dX9_isAsTold_79 : decode cX9_isAsTold 79 = .ok (.iinc 2 3, 3) := by decide +kernel
theorem dX9_isAsTold_82 : decode cX9_isAsTold 82 = .ok (.goto (-52), 3) := by decide +kernel
theorem dX9_isAsTold_85 : decode cX9_isAsTold 85 = .ok (.iconst 1, 1) := by decide +kernel
theorem dX9_isAsTold_86 : decode cX9_isAsTold 86 = .ok (.ireturn, 1) := by decide +kernel
set_option maxRecDepth 20000 in
theorem ggX9_allShow_X7_at : GoodIn wsX9_allShow wsX7_at := goodIn_r _ [6, 7, 8, 32, 33] (by decide +kernel) (by decide +kernel)
set_option maxRecDepth 20000 in
theorem gX9_allShow_X7_at : GoodIn wsX9_allShow (wsV RX9 47 RX7 yX7_at wsX7_at) := goodIn_app (goodIn_of _ (by decide +kernel)) ggX9_allShow_X7_at
set_option maxRecDepth 20000 in
theorem ggX9_allShow_X3_shows : GoodIn wsX9_allShow wsX3_shows := goodIn_r _ [13, 14, 15, 16, 12, 17, 18, 19, 20, 21, 22, 23, 24, 25, 26, 27, 28, 29, 30, 31, 34, 35, 36, 37, 38, 39, 40, 41, 42, 43, 44, 45, 46, 47, 48, 49, 50, 51, 52, 53, 54, 55, 56, 57, 58] (by decide +kernel) (by decide +kernel)
set_option maxRecDepth 20000 in
theorem gX9_allShow_X3_shows : GoodIn wsX9_allShow (wsV RX9 60 RX3 yX3_shows wsX3_shows) := goodIn_app (goodIn_of _ (by decide +kernel)) ggX9_allShow_X3_shows
theorem dX9_allShow_0 : decode cX9_allShow 0 = .ok (.iconst 0, 1) := by decide +kernel
theorem dX9_allShow_1 : decode cX9_allShow 1 = .ok (.istore_n 3, 1) := by decide +kernel
theorem dX9_allShow_2 : decode cX9_allShow 2 = .ok (.iload_n 3, 1) := by decide +kernel
theorem dX9_allShow_3 : decode cX9_allShow 3 = .ok (.aload_n 1, 1) := by decide +kernel
theorem dX9_allShow_4 : decode cX9_allShow 4 = .ok (.getfield 42, 3) := by decide +kernel
theorem dX9_allShow_7 : decode cX9_allShow 7 = .ok (.if_icmp .ge 42, 3) := by decide +kernel
theorem dX9_allShow_10 : decode cX9_allShow 10 = .ok (.aload_n 0, 1) := by decide +kernel
theorem dX9_allShow_11 : decode cX9_allShow 11 = .ok (.aload_n 1, 1) := by decide +kernel
theorem dX9_allShow_12 : decode cX9_allShow 12 = .ok (.iload_n 3, 1) := by decide +kernel
theorem dX9_allShow_13 : decode cX9_allShow 13 = .ok (.invokevirtual 47, 3) := by decide +kernel
theorem dX9_allShow_16 : decode cX9_allShow 16 = .ok (.iload_n 2, 1) := by decide +kernel
theorem dX9_allShow_17 : decode cX9_allShow 17 = .ok (.invokevirtual 60, 3) := by decide +kernel
theorem dX9_allShow_20 : decode cX9_allShow 20 = .ok (.aload_n 1, 1) := by decide +kernel
theorem dX9_allShow_21 : decode cX9_allShow 21 = .ok (.iload_n 3, 1) := by decide +kernel
theorem dX9_allShow_22 : decode cX9_allShow 22 = .ok (.iconst 1, 1) := by decide +kernel
theorem dX9_allShow_23 : decode cX9_allShow 23 = .ok (.iadd, 1) := by decide +kernel
theorem dX9_allShow_24 : decode cX9_allShow 24 = .ok (.invokevirtual 47, 3) := by decide +kernel
theorem dX9_allShow_27 : decode cX9_allShow 27 = .ok (.bipush 60, 2) := by decide +kernel
theorem dX9_allShow_29 : decode cX9_allShow 29 = .ok (.imul, 1) := by decide +kernel
theorem dX9_allShow_30 : decode cX9_allShow 30 = .ok (.aload_n 1, 1) := by decide +kernel
theorem dX9_allShow_31 : decode cX9_allShow 31 = .ok (.iload_n 3, 1) := by decide +kernel
theorem dX9_allShow_32 : decode cX9_allShow 32 = .ok (.iconst 2, 1) := by decide +kernel
theorem dX9_allShow_33 : decode cX9_allShow 33 = .ok (.iadd, 1) := by decide +kernel
theorem dX9_allShow_34 : decode cX9_allShow 34 = .ok (.invokevirtual 47, 3) := by decide +kernel
theorem dX9_allShow_37 : decode cX9_allShow 37 = .ok (.iadd, 1) := by decide +kernel
theorem dX9_allShow_38 : decode cX9_allShow 38 = .ok (.if_icmp .eq 5, 3) := by decide +kernel
theorem dX9_allShow_41 : decode cX9_allShow 41 = .ok (.iconst 0, 1) := by decide +kernel
theorem dX9_allShow_42 : decode cX9_allShow 42 = .ok (.ireturn, 1) := by decide +kernel
theorem dX9_allShow_43 : decode cX9_allShow 43 = .ok (.iinc 3 3, 3) := by decide +kernel
theorem dX9_allShow_46 : decode cX9_allShow 46 = .ok (.goto (-44), 3) := by decide +kernel
theorem dX9_allShow_49 : decode cX9_allShow 49 = .ok (.iconst 1, 1) := by decide +kernel
theorem dX9_allShow_50 : decode cX9_allShow 50 = .ok (.ireturn, 1) := by decide +kernel
set_option maxRecDepth 20000 in
theorem ggX9_clockToLookAt_X9_mostLeft : GoodIn wsX9_clockToLookAt wsX9_mostLeft := goodIn_r _ [7, 8, 9, 10, 11, 12, 13, 14, 15, 16, 17, 18, 19, 20, 21, 22, 23, 24, 25, 26, 27, 28, 29, 30, 31, 32, 33, 34, 35, 36, 37, 38, 39, 40, 66, 67, 68, 69, 41, 42, 43, 44, 45, 46, 47, 48, 49, 50, 51, 52, 53, 54, 55, 56, 57, 58, 59, 60, 61, 62, 63, 64, 65] (by decide +kernel) (by decide +kernel)
set_option maxRecDepth 20000 in
theorem gX9_clockToLookAt_X9_mostLeft : GoodIn wsX9_clockToLookAt (wsV RX9 64 RX9 yX9_mostLeft wsX9_mostLeft) := goodIn_app (goodIn_of _ (by decide +kernel)) ggX9_clockToLookAt_X9_mostLeft
theorem dX9_clockToLookAt_0 : decode cX9_clockToLookAt 0 = .ok (.iconst (-1), 1) := by decide +kernel
theorem dX9_clockToLookAt_1 : decode cX9_clockToLookAt 1 = .ok (.istore_n 3, 1) := by decide +kernel
theorem dX9_clockToLookAt_2 : decode cX9_clockToLookAt 2 = .ok (.sipush 1441, 3) := by decide +kernel
theorem dX9_clockToLookAt_5 : decode cX9_clockToLookAt 5 = .ok (.istore 4, 2) := by decide +kernel
theorem dX9_clockToLookAt_7 : decode cX9_clockToLookAt 7 = .ok (.iconst 0, 1) := by decide +kernel
theorem dX9_clockToLookAt_8 : decode cX9_clockToLookAt 8 = .ok (.istore 5, 2) := by decide +kernel
theorem dX9_clockToLookAt_10 : decode cX9_clockToLookAt 10 = .ok (.iload 5, 2) := by decide +kernel
theorem dX9_clockToLookAt_12 : decode cX9_clockToLookAt 12 = .ok (.aload_n 1, 1) := by decide +kernel
theorem dX9_clockToLookAt_13 : decode cX9_clockToLookAt 13 = .ok (.getfield 51, 3) := by decide +kernel
theorem dX9_clockToLookAt_16 : decode cX9_clockToLookAt 16 = .ok (.getfield 55, 3) := by decide +kernel
theorem dX9_clockToLookAt_19 : decode cX9_clockToLookAt 19 = .ok (.if_icmp .ge 33, 3) := by decide +kernel
theorem dX9_clockToLookAt_22 : decode cX9_clockToLookAt 22 = .ok (.aload_n 0, 1) := by decide +kernel
theorem dX9_clockToLookAt_23 : decode cX9_clockToLookAt 23 = .ok (.aload_n 1, 1) := by decide +kernel
theorem dX9_clockToLookAt_24 : decode cX9_clockToLookAt 24 = .ok (.iload 5, 2) := by decide +kernel
theorem dX9_clockToLookAt_26 : decode cX9_clockToLookAt 26 = .ok (.iload_n 2, 1) := by decide +kernel
theorem dX9_clockToLookAt_27 : decode cX9_clockToLookAt 27 = .ok (.invokevirtual 64, 3) := by decide +kernel
theorem dX9_clockToLookAt_30 : decode cX9_clockToLookAt 30 = .ok (.istore 6, 2) := by decide +kernel
theorem dX9_clockToLookAt_32 : decode cX9_clockToLookAt 32 = .ok (.iload 6, 2) := by decide +kernel
theorem dX9_clockToLookAt_34 : decode cX9_clockToLookAt 34 = .ok (.iload 4, 2) := by decide +kernel
theorem dX9_clockToLookAt_36 : decode cX9_clockToLookAt 36 = .ok (.if_icmp .ge 10, 3) := by decide +kernel
theorem dX9_clockToLookAt_39 : decode cX9_clockToLookAt 39 = .ok (.iload 6, 2) := by decide +kernel
theorem dX9_clockToLookAt_41 : decode cX9_clockToLookAt 41 = .ok (.istore 4, 2) := by decide +kernel
theorem dX9_clockToLookAt_43 : decode cX9_clockToLookAt 43 = .ok (.iload 5, 2) := by decide +kernel
theorem dX9_clockToLookAt_45 : decode cX9_clockToLookAt 45 = .ok (.istore_n 3, 1) := by decide +kernel
theorem dX9_clockToLookAt_46 : decode cX9_clockToLookAt 46 = .ok (.iinc 5 1, 3) := by decide +kernel
theorem dX9_clockToLookAt_49 : decode cX9_clockToLookAt 49 = .ok (.goto (-39), 3) := by decide +kernel
theorem dX9_clockToLookAt_52 : decode cX9_clockToLookAt 52 = .ok (.iload_n 3, 1) := by decide +kernel
theorem dX9_clockToLookAt_53 : decode cX9_clockToLookAt 53 = .ok (.ireturn, 1) := by decide +kernel
set_option maxRecDepth 20000 in
theorem ggX9_mostLeft_J7_fill_53178 : GoodIn wsX9_mostLeft wsJ7_fill_53178 := goodIn_r _ [10] (by decide +kernel) (by decide +kernel)
set_option maxRecDepth 20000 in
theorem gX9_mostLeft_J7_fill_53178 : GoodIn wsX9_mostLeft (va_wsS RX9 68 yJ7_fill_53178 wsJ7_fill_53178) := goodIn_app (goodIn_of _ (by decide +kernel)) ggX9_mostLeft_J7_fill_53178
set_option maxRecDepth 20000 in
theorem ggX9_mostLeft_X3_shows : GoodIn wsX9_mostLeft wsX3_shows := goodIn_r _ [15, 16, 17, 18, 14, 19, 20, 21, 22, 23, 24, 25, 26, 27, 28, 29, 30, 31, 32, 33, 38, 39, 40, 41, 42, 43, 44, 45, 46, 47, 48, 49, 50, 51, 52, 53, 54, 55, 56, 57, 58, 59, 60, 61, 62] (by decide +kernel) (by decide +kernel)
set_option maxRecDepth 20000 in
theorem gX9_mostLeft_X3_shows : GoodIn wsX9_mostLeft (wsV RX9 60 RX3 yX3_shows wsX3_shows) := goodIn_app (goodIn_of _ (by decide +kernel)) ggX9_mostLeft_X3_shows
theorem dX9_mostLeft_0 : decode cX9_mostLeft 0 = .ok (.aload_n 0, 1) := by decide +kernel
theorem dX9_mostLeft_1 : decode cX9_mostLeft 1 = .ok (.getfield 22, 3) := by decide +kernel
theorem dX9_mostLeft_4 : decode cX9_mostLeft 4 = .ok (.iconst 0, 1) := by decide +kernel
theorem dX9_mostLeft_5 : decode cX9_mostLeft 5 = .ok (.invokestatic 68, 3) := by decide +kernel
theorem dX9_mostLeft_8 : decode cX9_mostLeft 8 = .ok (.iconst 0, 1) := by decide +kernel
theorem dX9_mostLeft_9 : decode cX9_mostLeft 9 = .ok (.istore 4, 2) := by decide +kernel
theorem dX9_mostLeft_11 : decode cX9_mostLeft 11 = .ok (.iconst 0, 1) := by decide +kernel
theorem dX9_mostLeft_12 : decode cX9_mostLeft 12 = .ok (.istore 5, 2) := by decide +kernel
theorem dX9_mostLeft_14 : decode cX9_mostLeft 14 = .ok (.iload 5, 2) := by decide +kernel
theorem dX9_mostLeft_16 : decode cX9_mostLeft 16 = .ok (.iload_n 3, 1) := by decide +kernel
theorem dX9_mostLeft_17 : decode cX9_mostLeft 17 = .ok (.if_icmp .ge 48, 3) := by decide +kernel
theorem dX9_mostLeft_20 : decode cX9_mostLeft 20 = .ok (.aload_n 1, 1) := by decide +kernel
theorem dX9_mostLeft_21 : decode cX9_mostLeft 21 = .ok (.iload_n 2, 1) := by decide +kernel
theorem dX9_mostLeft_22 : decode cX9_mostLeft 22 = .ok (.aload_n 0, 1) := by decide +kernel
theorem dX9_mostLeft_23 : decode cX9_mostLeft 23 = .ok (.getfield 18, 3) := by decide +kernel
theorem dX9_mostLeft_26 : decode cX9_mostLeft 26 = .ok (.iload 5, 2) := by decide +kernel
theorem dX9_mostLeft_28 : decode cX9_mostLeft 28 = .ok (.iaload, 1) := by decide +kernel
theorem dX9_mostLeft_29 : decode cX9_mostLeft 29 = .ok (.invokevirtual 60, 3) := by decide +kernel
theorem dX9_mostLeft_32 : decode cX9_mostLeft 32 = .ok (.istore 6, 2) := by decide +kernel
theorem dX9_mostLeft_34 : decode cX9_mostLeft 34 = .ok (.aload_n 0, 1) := by decide +kernel
theorem dX9_mostLeft_35 : decode cX9_mostLeft 35 = .ok (.getfield 22, 3) := by decide +kernel
theorem dX9_mostLeft_38 : decode cX9_mostLeft 38 = .ok (.iload 6, 2) := by decide +kernel
theorem dX9_mostLeft_40 : decode cX9_mostLeft 40 = .ok (.dup2, 1) := by decide +kernel
theorem dX9_mostLeft_41 : decode cX9_mostLeft 41 = .ok (.iaload, 1) := by decide +kernel
theorem dX9_mostLeft_42 : decode cX9_mostLeft 42 = .ok (.iconst 1, 1) := by decide +kernel
theorem dX9_mostLeft_43 : decode cX9_mostLeft 43 = .ok (.iadd, 1) := by decide +kernel
theorem dX9_mostLeft_44 : decode cX9_mostLeft 44 = .ok (.iastore, 1) := by decide +kernel
theorem dX9_mostLeft_45 : decode cX9_mostLeft 45 = .ok (.iload 4, 2) := by decide +kernel
theorem dX9_mostLeft_47 : decode cX9_mostLeft 47 = .ok (.aload_n 0, 1) := by decide +kernel
theorem dX9_mostLeft_48 : decode cX9_mostLeft 48 = .ok (.getfield 22, 3) := by decide +kernel
theorem dX9_mostLeft_51 : decode cX9_mostLeft 51 = .ok (.iload 6, 2) := by decide +kernel
theorem dX9_mostLeft_53 : decode cX9_mostLeft 53 = .ok (.iaload, 1) := by decide +kernel
theorem dX9_mostLeft_54 : decode cX9_mostLeft 54 = .ok (.invokestatic 74, 3) := by decide +kernel
theorem dX9_mostLeft_57 : decode cX9_mostLeft 57 = .ok (.istore 4, 2) := by decide +kernel
theorem dX9_mostLeft_59 : decode cX9_mostLeft 59 = .ok (.iinc 5 1, 3) := by decide +kernel
theorem dX9_mostLeft_62 : decode cX9_mostLeft 62 = .ok (.goto (-48), 3) := by decide +kernel
theorem dX9_mostLeft_65 : decode cX9_mostLeft 65 = .ok (.iload 4, 2) := by decide +kernel
theorem dX9_mostLeft_67 : decode cX9_mostLeft 67 = .ok (.ireturn, 1) := by decide +kernel
set_option maxRecDepth 20000 in
theorem ggX10_init_X1_init : GoodIn wsX10_init wsX1_init := goodIn_r _ [18, 19, 2, 3, 20, 21, 22, 23, 24, 25, 26, 27, 28, 29, 30, 31, 32, 33, 34, 35, 36, 61, 62, 63, 64, 65, 66, 67, 68, 69, 70, 71, 72, 73, 74, 75] (by decide +kernel) (by decide +kernel)
set_option maxRecDepth 20000 in
theorem gX10_init_X1_init_n9 : GoodIn wsX10_init (wsX1_init) := ggX10_init_X1_init
set_option maxRecDepth 20000 in
theorem ggX10_init_X3_init : GoodIn wsX10_init wsX3_init := goodIn_r _ [39, 40, 2, 3, 41, 42, 43, 26, 44, 45, 46, 47, 48, 49, 50, 51, 52, 53, 54, 80, 81, 82, 83, 84, 85, 86, 87, 88, 89] (by decide +kernel) (by decide +kernel)
set_option maxRecDepth 20000 in
theorem gX10_init_X3_init : GoodIn wsX10_init (wsX3_init) := ggX10_init_X3_init
set_option maxRecDepth 20000 in
theorem ggX10_init_X5_init : GoodIn wsX10_init wsX5_init := goodIn_r _ [56, 57, 2, 3, 58, 26, 59, 60, 90, 91, 92] (by decide +kernel) (by decide +kernel)
set_option maxRecDepth 20000 in
theorem gX10_init_X5_init_n27 : GoodIn wsX10_init (wsX5_init) := ggX10_init_X5_init
theorem dX10_init_0 : decode cX10_init 0 = .ok (.aload_n 0, 1) := by decide +kernel
theorem dX10_init_1 : decode cX10_init 1 = .ok (.invokespecial 1, 3) := by decide +kernel
theorem dX10_init_4 : decode cX10_init 4 = .ok (.aload_n 0, 1) := by decide +kernel
theorem dX10_init_5 : decode cX10_init 5 = .ok (.new 7, 3) := by decide +kernel
theorem dX10_init_8 : decode cX10_init 8 = .ok (.dup, 1) := by decide +kernel
theorem dX10_init_9 : decode cX10_init 9 = .ok (.invokespecial 9, 3) := by decide +kernel
theorem dX10_init_12 : decode cX10_init 12 = .ok (.putfield 10, 3) := by decide +kernel
theorem dX10_init_15 : decode cX10_init 15 = .ok (.aload_n 0, 1) := by decide +kernel
theorem dX10_init_16 : decode cX10_init 16 = .ok (.new 16, 3) := by decide +kernel
theorem dX10_init_19 : decode cX10_init 19 = .ok (.dup, 1) := by decide +kernel
theorem dX10_init_20 : decode cX10_init 20 = .ok (.aload_n 0, 1) := by decide +kernel
theorem dX10_init_21 : decode cX10_init 21 = .ok (.getfield 10, 3) := by decide +kernel
theorem dX10_init_24 : decode cX10_init 24 = .ok (.invokespecial 18, 3) := by decide +kernel
theorem dX10_init_27 : decode cX10_init 27 = .ok (.putfield 21, 3) := by decide +kernel
theorem dX10_init_30 : decode cX10_init 30 = .ok (.aload_n 0, 1) := by decide +kernel
theorem dX10_init_31 : decode cX10_init 31 = .ok (.new 25, 3) := by decide +kernel
theorem dX10_init_34 : decode cX10_init 34 = .ok (.dup, 1) := by decide +kernel
theorem dX10_init_35 : decode cX10_init 35 = .ok (.invokespecial 27, 3) := by decide +kernel
theorem dX10_init_38 : decode cX10_init 38 = .ok (.putfield 28, 3) := by decide +kernel
theorem dX10_init_41 : decode cX10_init 41 = .ok (.aload_n 0, 1) := by decide +kernel
theorem dX10_init_42 : decode cX10_init 42 = .ok (.iconst 0, 1) := by decide +kernel
theorem dX10_init_43 : decode cX10_init 43 = .ok (.putfield 32, 3) := by decide +kernel
theorem dX10_init_46 : decode cX10_init 46 = .ok (.return_, 1) := by decide +kernel
set_option maxRecDepth 20000 in
theorem ggX10_copyFrom_X1_copyFrom : GoodIn wsX10_copyFrom wsX1_copyFrom := goodIn_r _ [8, 9, 10, 11, 12, 13, 14, 15, 16, 17, 18, 19, 20, 21, 22, 23, 24, 25, 26, 27, 55, 56, 57, 58, 59, 60, 61, 62, 63, 64, 65, 66, 67, 68, 69] (by decide +kernel) (by decide +kernel)
set_option maxRecDepth 20000 in
theorem gX10_copyFrom_X1_copyFrom : GoodIn wsX10_copyFrom (wsV RX10 36 RX1 yX1_copyFrom wsX1_copyFrom) := goodIn_app (goodIn_of _ (by decide +kernel)) ggX10_copyFrom_X1_copyFrom
set_option maxRecDepth 20000 in
theorem ggX10_copyFrom_X3_copyFrom : GoodIn wsX10_copyFrom wsX3_copyFrom := goodIn_r _ [32, 33, 34, 35, 36, 37, 15, 16, 17, 38, 39, 40, 41, 42, 70, 71, 72, 73, 74, 75, 76, 77, 78, 79] (by decide +kernel) (by decide +kernel)
set_option maxRecDepth 20000 in
theorem gX10_copyFrom_X3_copyFrom : GoodIn wsX10_copyFrom (wsV RX10 39 RX3 yX3_copyFrom wsX3_copyFrom) := goodIn_app (goodIn_of _ (by decide +kernel)) ggX10_copyFrom_X3_copyFrom
set_option maxRecDepth 20000 in
theorem ggX10_copyFrom_X5_copyFrom : GoodIn wsX10_copyFrom wsX5_copyFrom := goodIn_r _ [47, 48, 49, 50, 15, 16, 17, 80, 81, 82] (by decide +kernel) (by decide +kernel)
set_option maxRecDepth 20000 in
theorem gX10_copyFrom_X5_copyFrom : GoodIn wsX10_copyFrom (wsV RX10 42 RX5 yX5_copyFrom wsX5_copyFrom) := goodIn_app (goodIn_of _ (by decide +kernel)) ggX10_copyFrom_X5_copyFrom
theorem dX10_copyFrom_0 : decode cX10_copyFrom 0 = .ok (.aload_n 0, 1) := by decide +kernel
theorem dX10_copyFrom_1 : decode cX10_copyFrom 1 = .ok (.getfield 10, 3) := by decide +kernel
theorem dX10_copyFrom_4 : decode cX10_copyFrom 4 = .ok (.aload_n 1, 1) := by decide +kernel
theorem dX10_copyFrom_5 : decode cX10_copyFrom 5 = .ok (.getfield 10, 3) := by decide +kernel
theorem dX10_copyFrom_8 : decode cX10_copyFrom 8 = .ok (.invokevirtual 36, 3) := by decide +kernel
theorem dX10_copyFrom_11 : decode cX10_copyFrom 11 = .ok (.aload_n 0, 1) := by decide +kernel
theorem dX10_copyFrom_12 : decode cX10_copyFrom 12 = .ok (.getfield 21, 3) := by decide +kernel
theorem dX10_copyFrom_15 : decode cX10_copyFrom 15 = .ok (.aload_n 1, 1) := by decide +kernel
theorem dX10_copyFrom_16 : decode cX10_copyFrom 16 = .ok (.getfield 21, 3) := by decide +kernel
theorem dX10_copyFrom_19 : decode cX10_copyFrom 19 = .ok (.invokevirtual 39, 3) := by decide +kernel
theorem dX10_copyFrom_22 : decode cX10_copyFrom 22 = .ok (.aload_n 0, 1) := by decide +kernel
theorem dX10_copyFrom_23 : decode cX10_copyFrom 23 = .ok (.getfield 28, 3) := by decide +kernel
theorem dX10_copyFrom_26 : decode cX10_copyFrom 26 = .ok (.aload_n 1, 1) := by decide +kernel
theorem dX10_copyFrom_27 : decode cX10_copyFrom 27 = .ok (.getfield 28, 3) := by decide +kernel
theorem dX10_copyFrom_30 : decode cX10_copyFrom 30 = .ok (.invokevirtual 42, 3) := by decide +kernel
theorem dX10_copyFrom_33 : decode cX10_copyFrom 33 = .ok (.return_, 1) := by decide +kernel
set_option maxRecDepth 20000 in
theorem ggX11_init_X7_init : GoodIn wsX11_init wsX7_init := goodIn_r _ [49, 50, 2, 3, 51, 52, 53, 197, 198] (by decide +kernel) (by decide +kernel)
set_option maxRecDepth 20000 in
theorem gX11_init_X7_init_n9 : GoodIn wsX11_init (wsX7_init) := ggX11_init_X7_init
set_option maxRecDepth 20000 in
theorem ggX11_init_X8_init : GoodIn wsX11_init wsX8_init := goodIn_r _ [56, 57, 2, 3, 58, 59, 60, 61, 62, 63, 64, 65, 66, 67, 68, 69, 70, 71, 72, 212, 213, 214, 215, 216, 217, 218, 219, 220, 221, 222, 223, 224] (by decide +kernel) (by decide +kernel)
set_option maxRecDepth 20000 in
theorem gX11_init_X8_init : GoodIn wsX11_init (wsX8_init) := ggX11_init_X8_init
set_option maxRecDepth 20000 in
theorem ggX11_init_X10_init : GoodIn wsX11_init wsX10_init := goodIn_r _ [74, 75, 2, 3, 76, 77, 78, 79, 80, 23, 24, 81, 82, 83, 84, 85, 86, 87, 88, 89, 90, 91, 92, 93, 70, 94, 66, 95, 96, 97, 98, 99, 100, 101, 102, 103, 104, 105, 106, 107, 108, 109, 110, 111, 112, 113, 114, 115, 116, 117, 118, 119, 120, 121, 122, 123, 124, 125, 126, 127, 128, 268, 269, 270, 271, 272, 273, 274, 275, 276, 277, 278, 279, 280, 281, 282, 225, 226, 227, 228, 232, 233, 234, 235, 236, 237, 238, 239, 240, 241, 283, 284, 285] (by decide +kernel) (by decide +kernel)
set_option maxRecDepth 20000 in
theorem gX11_init_X10_init_n27 : GoodIn wsX11_init (wsX10_init) := ggX11_init_X10_init
set_option maxRecDepth 20000 in
theorem ggX11_init_X4_init : GoodIn wsX11_init wsX4_init := goodIn_r _ [131, 132, 2, 3, 133, 134, 135, 136, 23, 24, 137, 106, 107, 108, 109, 110, 111, 66, 112, 113, 114, 115, 116, 117, 118, 119, 120, 121, 122, 229, 230, 231, 232, 233, 234, 235, 236, 237, 238, 239, 240, 241] (by decide +kernel) (by decide +kernel)
set_option maxRecDepth 20000 in
theorem gX11_init_X4_init : GoodIn wsX11_init (wsX4_init) := ggX11_init_X4_init
set_option maxRecDepth 20000 in
theorem ggX11_init_X3_init : GoodIn wsX11_init wsX3_init := goodIn_r _ [107, 108, 2, 3, 109, 110, 111, 66, 112, 113, 114, 115, 116, 117, 118, 119, 120, 121, 122, 232, 233, 234, 235, 236, 237, 238, 239, 240, 241] (by decide +kernel) (by decide +kernel)
set_option maxRecDepth 20000 in
theorem gX11_init_X3_init : GoodIn wsX11_init (wsX3_init) := ggX11_init_X3_init
set_option maxRecDepth 20000 in
theorem ggX11_init_X2_init : GoodIn wsX11_init wsX2_init := goodIn_r _ [141, 142, 2, 3, 143, 77, 78, 144, 145, 146, 87, 88, 89, 90, 91, 92, 93, 70, 94, 66, 95, 96, 97, 98, 99, 100, 101, 102, 103, 104, 268, 269, 270, 271, 272, 273, 274, 275, 276, 277, 278, 279, 280, 281, 282, 242, 243, 244] (by decide +kernel) (by decide +kernel)
set_option maxRecDepth 20000 in
theorem gX11_init_X2_init : GoodIn wsX11_init (wsX2_init) := ggX11_init_X2_init
set_option maxRecDepth 20000 in
theorem ggX11_init_X6_init : GoodIn wsX11_init wsX6_init := goodIn_r _ [149, 150, 2, 3, 151, 83, 84, 152, 153, 154, 155, 123, 124, 125, 126, 66, 127, 128, 283, 284, 285, 245, 246, 247, 248] (by decide +kernel) (by decide +kernel)
set_option maxRecDepth 20000 in
theorem gX11_init_X6_init : GoodIn wsX11_init (wsX6_init) := ggX11_init_X6_init
set_option maxRecDepth 20000 in
theorem ggX11_init_X0_init : GoodIn wsX11_init wsX0_init := goodIn_r _ [158, 159, 2, 3, 160, 66, 161, 162, 163, 164, 165, 166, 167, 168, 169, 170, 249, 250, 251, 252, 253, 254, 255, 256, 257, 258, 259] (by decide +kernel) (by decide +kernel)
set_option maxRecDepth 20000 in
theorem gX11_init_X0_init : GoodIn wsX11_init (wsX0_init) := ggX11_init_X0_init
set_option maxRecDepth 20000 in
theorem ggX11_init_X9_init : GoodIn wsX11_init wsX9_init := goodIn_r _ [172, 173, 2, 3, 174, 175, 66, 176, 177, 260, 261, 262, 263] (by decide +kernel) (by decide +kernel)
set_option maxRecDepth 20000 in
theorem gX11_init_X9_init_n83 : GoodIn wsX11_init (wsX9_init) := ggX11_init_X9_init
set_option maxRecDepth 20000 in
theorem ggX11_init_J4_init_da8c8 : GoodIn wsX11_init wsJ4_init_da8c8 := goodIn_r _ [180, 181, 182, 183, 184, 185, 2, 3, 186, 51, 187, 188, 189, 190, 191, 192, 193, 194, 195, 196, 264, 265, 266, 267] (by decide +kernel) (by decide +kernel)
set_option maxRecDepth 20000 in
theorem gX11_init_J4_init_da8c8 : GoodIn wsX11_init (wsJ4_init_da8c8) := ggX11_init_J4_init_da8c8
theorem dX11_init_0 : decode cX11_init 0 = .ok (.aload_n 0, 1) := by decide +kernel
theorem dX11_init_1 : decode cX11_init 1 = .ok (.invokespecial 1, 3) := by decide +kernel
theorem dX11_init_4 : decode cX11_init 4 = .ok (.aload_n 0, 1) := by decide +kernel
theorem dX11_init_5 : decode cX11_init 5 = .ok (.new 7, 3) := by decide +kernel
theorem dX11_init_8 : decode cX11_init 8 = .ok (.dup, 1) := by decide +kernel
theorem dX11_init_9 : decode cX11_init 9 = .ok (.invokespecial 9, 3) := by decide +kernel
theorem dX11_init_12 : decode cX11_init 12 = .ok (.putfield 10, 3) := by decide +kernel
theorem dX11_init_15 : decode cX11_init 15 = .ok (.aload_n 0, 1) := by decide +kernel
theorem dX11_init_16 : decode cX11_init 16 = .ok (.new 16, 3) := by decide +kernel
theorem dX11_init_19 : decode cX11_init 19 = .ok (.dup, 1) := by decide +kernel
theorem dX11_init_20 : decode cX11_init 20 = .ok (.aload_n 0, 1) := by decide +kernel
theorem dX11_init_21 : decode cX11_init 21 = .ok (.getfield 10, 3) := by decide +kernel
theorem dX11_init_24 : decode cX11_init 24 = .ok (.invokespecial 18, 3) := by decide +kernel
theorem dX11_init_27 : decode cX11_init 27 = .ok (.putfield 21, 3) := by decide +kernel
theorem dX11_init_30 : decode cX11_init 30 = .ok (.aload_n 0, 1) := by decide +kernel
theorem dX11_init_31 : decode cX11_init 31 = .ok (.new 25, 3) := by decide +kernel
theorem dX11_init_34 : decode cX11_init 34 = .ok (.dup, 1) := by decide +kernel
theorem dX11_init_35 : decode cX11_init 35 = .ok (.invokespecial 27, 3) := by decide +kernel
theorem dX11_init_38 : decode cX11_init 38 = .ok (.putfield 28, 3) := by decide +kernel
theorem dX11_init_41 : decode cX11_init 41 = .ok (.aload_n 0, 1) := by decide +kernel
theorem dX11_init_42 : decode cX11_init 42 = .ok (.iconst 2, 1) := by decide +kernel
theorem dX11_init_43 : decode cX11_init 43 = .ok (.anewarray 25, 3) := by decide +kernel
theorem dX11_init_46 : decode cX11_init 46 = .ok (.putfield 32, 3) := by decide +kernel
theorem dX11_init_49 : decode cX11_init 49 = .ok (.aload_n 0, 1) := by decide +kernel
theorem dX11_init_50 : decode cX11_init 50 = .ok (.new 36, 3) := by decide +kernel
theorem dX11_init_53 : decode cX11_init 53 = .ok (.dup, 1) := by decide +kernel
theorem dX11_init_54 : decode cX11_init 54 = .ok (.aload_n 0, 1) := by decide +kernel
theorem dX11_init_55 : decode cX11_init 55 = .ok (.getfield 28, 3) := by decide +kernel
theorem dX11_init_58 : decode cX11_init 58 = .ok (.getfield 38, 3) := by decide +kernel
theorem dX11_init_61 : decode cX11_init 61 = .ok (.invokespecial 42, 3) := by decide +kernel
theorem dX11_init_64 : decode cX11_init 64 = .ok (.putfield 45, 3) := by decide +kernel
theorem dX11_init_67 : decode cX11_init 67 = .ok (.aload_n 0, 1) := by decide +kernel
theorem dX11_init_68 : decode cX11_init 68 = .ok (.new 49, 3) := by decide +kernel
theorem dX11_init_71 : decode cX11_init 71 = .ok (.dup, 1) := by decide +kernel
theorem dX11_init_72 : decode cX11_init 72 = .ok (.aload_n 0, 1) := by decide +kernel
theorem dX11_init_73 : decode cX11_init 73 = .ok (.getfield 28, 3) := by decide +kernel
theorem dX11_init_76 : decode cX11_init 76 = .ok (.getfield 38, 3) := by decide +kernel
theorem dX11_init_79 : decode cX11_init 79 = .ok (.invokespecial 51, 3) := by decide +kernel
theorem dX11_init_82 : decode cX11_init 82 = .ok (.putfield 52, 3) := by decide +kernel
theorem dX11_init_85 : decode cX11_init 85 = .ok (.aload_n 0, 1) := by decide +kernel
theorem dX11_init_86 : decode cX11_init 86 = .ok (.new 56, 3) := by decide +kernel
theorem dX11_init_89 : decode cX11_init 89 = .ok (.dup, 1) := by decide +kernel
theorem dX11_init_90 : decode cX11_init 90 = .ok (.aload_n 0, 1) := by decide +kernel
theorem dX11_init_91 : decode cX11_init 91 = .ok (.getfield 21, 3) := by decide +kernel
theorem dX11_init_94 : decode cX11_init 94 = .ok (.invokespecial 58, 3) := by decide +kernel
theorem dX11_init_97 : decode cX11_init 97 = .ok (.putfield 61, 3) := by decide +kernel
theorem dX11_init_100 : decode cX11_init 100 = .ok (.aload_n 0, 1) := by decide +kernel
theorem dX11_init_101 : decode cX11_init 101 = .ok (.new 65, 3) := by decide +kernel
theorem dX11_init_104 : decode cX11_init 104 = .ok (.dup, 1) := by decide +kernel
theorem dX11_init_105 : decode cX11_init 105 = .ok (.aload_n 0, 1) := by decide +kernel
theorem dX11_init_106 : decode cX11_init 106 = .ok (.getfield 21, 3) := by decide +kernel
theorem dX11_init_109 : decode cX11_init 109 = .ok (.aload_n 0, 1) := by decide +kernel
theorem dX11_init_110 : decode cX11_init 110 = .ok (.getfield 28, 3) := by decide +kernel
theorem dX11_init_113 : decode cX11_init 113 = .ok (.getfield 38, 3) := by decide +kernel
theorem dX11_init_116 : decode cX11_init 116 = .ok (.invokespecial 67, 3) := by decide +kernel
theorem dX11_init_119 : decode cX11_init 119 = .ok (.putfield 70, 3) := by decide +kernel
theorem dX11_init_122 : decode cX11_init 122 = .ok (.aload_n 0, 1) := by decide +kernel
theorem dX11_init_123 : decode cX11_init 123 = .ok (.new 74, 3) := by decide +kernel
theorem dX11_init_126 : decode cX11_init 126 = .ok (.dup, 1) := by decide +kernel
theorem dX11_init_127 : decode cX11_init 127 = .ok (.aload_n 0, 1) := by decide +kernel
theorem dX11_init_128 : decode cX11_init 128 = .ok (.getfield 21, 3) := by decide +kernel
theorem dX11_init_131 : decode cX11_init 131 = .ok (.aload_n 0, 1) := by decide +kernel
theorem dX11_init_132 : decode cX11_init 132 = .ok (.getfield 28, 3) := by decide +kernel
theorem dX11_init_135 : decode cX11_init 135 = .ok (.getfield 38, 3) := by decide +kernel
theorem dX11_init_138 : decode cX11_init 138 = .ok (.invokespecial 76, 3) := by decide +kernel
theorem dX11_init_141 : decode cX11_init 141 = .ok (.putfield 77, 3) := by decide +kernel
theorem dX11_init_144 : decode cX11_init 144 = .ok (.aload_n 0, 1) := by decide +kernel
theorem dX11_init_145 : decode cX11_init 145 = .ok (.new 81, 3) := by decide +kernel
theorem dX11_init_148 : decode cX11_init 148 = .ok (.dup, 1) := by decide +kernel
theorem dX11_init_149 : decode cX11_init 149 = .ok (.invokespecial 83, 3) := by decide +kernel
theorem dX11_init_152 : decode cX11_init 152 = .ok (.putfield 84, 3) := by decide +kernel
theorem dX11_init_155 : decode cX11_init 155 = .ok (.aload_n 0, 1) := by decide +kernel
theorem dX11_init_156 : decode cX11_init 156 = .ok (.new 88, 3) := by decide +kernel
theorem dX11_init_159 : decode cX11_init 159 = .ok (.dup, 1) := by decide +kernel
theorem dX11_init_160 : decode cX11_init 160 = .ok (.invokespecial 90, 3) := by decide +kernel
theorem dX11_init_163 : decode cX11_init 163 = .ok (.putfield 91, 3) := by decide +kernel
theorem dX11_init_166 : decode cX11_init 166 = .ok (.aload_n 0, 1) := by decide +kernel
theorem dX11_init_167 : decode cX11_init 167 = .ok (.iconst 0, 1) := by decide +kernel
theorem dX11_init_168 : decode cX11_init 168 = .ok (.putfield 95, 3) := by decide +kernel
theorem dX11_init_171 : decode cX11_init 171 = .ok (.aload_n 0, 1) := by decide +kernel
theorem dX11_init_172 : decode cX11_init 172 = .ok (.iconst (-1), 1) := by decide +kernel
theorem dX11_init_173 : decode cX11_init 173 = .ok (.putfield 99, 3) := by decide +kernel
theorem dX11_init_176 : decode cX11_init 176 = .ok (.iconst 0, 1) := by decide +kernel
theorem dX11_init_177 : decode cX11_init 177 = .ok (.istore_n 1, 1) := by decide +kernel
theorem dX11_init_178 : decode cX11_init 178 = .ok (.iload_n 1, 1) := by decide +kernel
theorem dX11_init_179 : decode cX11_init 179 = .ok (.iconst 2, 1) := by decide +kernel
theorem dX11_init_180 : decode cX11_init 180 = .ok (.if_icmp .ge 22, 3) := by decide +kernel
theorem dX11_init_183 : decode cX11_init 183 = .ok (.aload_n 0, 1) := by decide +kernel
theorem dX11_init_184 : decode cX11_init 184 = .ok (.getfield 32, 3) := by decide +kernel
theorem dX11_init_187 : decode cX11_init 187 = .ok (.iload_n 1, 1) := by decide +kernel
theorem dX11_init_188 : decode cX11_init 188 = .ok (.new 25, 3) := by decide +kernel
theorem dX11_init_191 : decode cX11_init 191 = .ok (.dup, 1) := by decide +kernel
theorem dX11_init_192 : decode cX11_init 192 = .ok (.invokespecial 27, 3) := by decide +kernel
theorem dX11_init_195 : decode cX11_init 195 = .ok (.aastore, 1) := by decide +kernel
theorem dX11_init_196 : decode cX11_init 196 = .ok (.iinc 1 1, 3) := by decide +kernel
theorem dX11_init_199 : decode cX11_init 199 = .ok (.goto (-21), 3) := by decide +kernel
theorem dX11_init_202 : decode cX11_init 202 = .ok (.return_, 1) := by decide +kernel
set_option maxRecDepth 20000 in
theorem ggX11_feed_X7_append : GoodIn wsX11_feed wsX7_append := goodIn_r _ [7, 8, 9, 23, 24] (by decide +kernel) (by decide +kernel)
set_option maxRecDepth 20000 in
theorem gX11_feed_X7_append : GoodIn wsX11_feed (wsV RX11 105 RX7 yX7_append wsX7_append) := goodIn_app (goodIn_of _ (by decide +kernel)) ggX11_feed_X7_append
theorem dX11_feed_0 : decode cX11_feed 0 = .ok (.aload_n 0, 1) := by decide +kernel
theorem dX11_feed_1 : decode cX11_feed 1 = .ok (.getfield 10, 3) := by decide +kernel
theorem dX11_feed_4 : decode cX11_feed 4 = .ok (.getfield 102, 3) := by decide +kernel
theorem dX11_feed_7 : decode cX11_feed 7 = .ok (.bipush 20, 2) := by decide +kernel
theorem dX11_feed_9 : decode cX11_feed 9 = .ok (.iadd, 1) := by decide +kernel
theorem dX11_feed_10 : decode cX11_feed 10 = .ok (.sipush 940, 3) := by decide +kernel
theorem dX11_feed_13 : decode cX11_feed 13 = .ok (.if_icmp .le 5, 3) := by decide +kernel
theorem dX11_feed_16 : decode cX11_feed 16 = .ok (.iconst (-1), 1) := by decide +kernel
theorem dX11_feed_17 : decode cX11_feed 17 = .ok (.ireturn, 1) := by decide +kernel
theorem dX11_feed_18 : decode cX11_feed 18 = .ok (.aload_n 0, 1) := by decide +kernel
theorem dX11_feed_19 : decode cX11_feed 19 = .ok (.getfield 10, 3) := by decide +kernel
theorem dX11_feed_22 : decode cX11_feed 22 = .ok (.iload_n 1, 1) := by decide +kernel
theorem dX11_feed_23 : decode cX11_feed 23 = .ok (.invokevirtual 105, 3) := by decide +kernel
theorem dX11_feed_26 : decode cX11_feed 26 = .ok (.aload_n 0, 1) := by decide +kernel
theorem dX11_feed_27 : decode cX11_feed 27 = .ok (.getfield 10, 3) := by decide +kernel
theorem dX11_feed_30 : decode cX11_feed 30 = .ok (.iload_n 2, 1) := by decide +kernel
theorem dX11_feed_31 : decode cX11_feed 31 = .ok (.invokevirtual 105, 3) := by decide +kernel
theorem dX11_feed_34 : decode cX11_feed 34 = .ok (.aload_n 0, 1) := by decide +kernel
theorem dX11_feed_35 : decode cX11_feed 35 = .ok (.getfield 10, 3) := by decide +kernel
theorem dX11_feed_38 : decode cX11_feed 38 = .ok (.iload_n 3, 1) := by decide +kernel
theorem dX11_feed_39 : decode cX11_feed 39 = .ok (.invokevirtual 105, 3) := by decide +kernel
theorem dX11_feed_42 : decode cX11_feed 42 = .ok (.aload_n 0, 1) := by decide +kernel
theorem dX11_feed_43 : decode cX11_feed 43 = .ok (.getfield 10, 3) := by decide +kernel
theorem dX11_feed_46 : decode cX11_feed 46 = .ok (.iload 4, 2) := by decide +kernel
theorem dX11_feed_48 : decode cX11_feed 48 = .ok (.invokevirtual 105, 3) := by decide +kernel
theorem dX11_feed_51 : decode cX11_feed 51 = .ok (.aload_n 0, 1) := by decide +kernel
theorem dX11_feed_52 : decode cX11_feed 52 = .ok (.getfield 10, 3) := by decide +kernel
theorem dX11_feed_55 : decode cX11_feed 55 = .ok (.iload 5, 2) := by decide +kernel
theorem dX11_feed_57 : decode cX11_feed 57 = .ok (.invokevirtual 105, 3) := by decide +kernel
theorem dX11_feed_60 : decode cX11_feed 60 = .ok (.aload_n 0, 1) := by decide +kernel
theorem dX11_feed_61 : decode cX11_feed 61 = .ok (.getfield 10, 3) := by decide +kernel
theorem dX11_feed_64 : decode cX11_feed 64 = .ok (.getfield 102, 3) := by decide +kernel
theorem dX11_feed_67 : decode cX11_feed 67 = .ok (.ireturn, 1) := by decide +kernel
theorem dX11_end_0 : decode cX11_end 0 = .ok (.iload_n 1, 1) := by decide +kernel
theorem dX11_end_1 : decode cX11_end 1 = .ok (.ifCond .lt 14, 3) := by decide +kernel
theorem dX11_end_4 : decode cX11_end 4 = .ok (.iload_n 1, 1) := by decide +kernel
theorem dX11_end_5 : decode cX11_end 5 = .ok (.aload_n 0, 1) := by decide +kernel
theorem dX11_end_6 : decode cX11_end 6 = .ok (.getfield 10, 3) := by decide +kernel
theorem dX11_end_9 : decode cX11_end 9 = .ok (.getfield 102, 3) := by decide +kernel
theorem dX11_end_12 : decode cX11_end 12 = .ok (.if_icmp .le 5, 3) := by decide +kernel
theorem dX11_end_15 : decode cX11_end 15 = .ok (.iconst 0, 1) := by decide +kernel
theorem dX11_end_16 : decode cX11_end 16 = .ok (.ireturn, 1) := by decide +kernel
theorem dX11_end_17 : decode cX11_end 17 = .ok (.aload_n 0, 1) := by decide +kernel
theorem dX11_end_18 : decode cX11_end 18 = .ok (.getfield 10, 3) := by decide +kernel
theorem dX11_end_21 : decode cX11_end 21 = .ok (.iload_n 1, 1) := by decide +kernel
theorem dX11_end_22 : decode cX11_end 22 = .ok (.putfield 102, 3) := by decide +kernel
theorem dX11_end_25 : decode cX11_end 25 = .ok (.iconst 1, 1) := by decide +kernel
theorem dX11_end_26 : decode cX11_end 26 = .ok (.ireturn, 1) := by decide +kernel
set_option maxRecDepth 20000 in
theorem ggX11_burgh_X2_read : GoodIn wsX11_burgh wsX2_read := goodIn_r _ [15, 16, 17, 18, 19, 20, 21, 22, 23, 24, 25, 26, 27, 28, 29, 30, 31, 32, 33, 34, 35, 36, 37, 38, 39, 40, 41, 42, 43, 44, 45, 46, 47, 48, 49, 50, 51, 52, 53, 54, 55, 56, 57, 58, 59, 60, 61, 62, 63, 64, 65, 66, 67, 68, 69, 70, 71, 72, 73, 74, 75, 76, 77, 78, 79, 80, 81, 82, 83, 84, 85, 86, 87, 88, 89, 90, 91, 92, 93, 94, 95, 96, 97, 98, 99, 100, 101, 102, 103, 104, 105, 106, 107, 108, 109, 110, 111, 112, 113, 114, 115, 116, 117, 118, 119, 120, 121, 122, 123, 124, 125, 126, 127, 128, 129, 130, 131, 132, 133, 134, 135, 136, 137, 138, 139, 140, 141, 142, 143, 144, 14, 145, 146, 147, 148, 149, 150, 151, 152, 153, 154, 155, 156, 157, 158, 159, 160, 161, 162, 163, 164, 165, 166, 167, 168, 169, 170, 171, 172, 173, 174, 175, 176, 177, 178, 179, 180, 181, 182, 183, 184, 185, 186, 187, 188, 189, 190, 191, 192, 193, 194, 195, 196, 197, 198, 199, 200, 201, 202, 203, 204, 205, 206, 207, 208, 209, 210, 211, 212, 213, 214, 215, 216, 217, 218, 219, 220, 221, 222, 223, 224, 225, 226, 227, 228, 229, 230, 231, 232, 233, 234, 235, 236, 237, 324, 325, 326, 327, 328, 329, 330, 331, 332, 333, 334, 335, 336, 337, 338, 339, 340, 341, 307, 308, 309, 310, 311, 312, 313, 314, 315, 316, 317, 318, 319, 342, 343] (by decide +kernel) (by decide +kernel)
set_option maxRecDepth 20000 in
theorem gX11_burgh_X2_read : GoodIn wsX11_burgh (wsV RX11 109 RX2 yX2_read wsX2_read) := goodIn_app (goodIn_of _ (by decide +kernel)) ggX11_burgh_X2_read
set_option maxRecDepth 20000 in
theorem ggX11_burgh_X11_closeText : GoodIn wsX11_burgh wsX11_closeText := goodIn_r _ [241, 3, 242, 2, 243, 244, 294, 295, 296, 297, 298, 299, 300, 301, 302, 303, 304, 305, 306, 307, 308, 309, 310, 311, 312, 313, 314, 315, 316, 317, 318, 319, 342, 343] (by decide +kernel) (by decide +kernel)
set_option maxRecDepth 20000 in
theorem gX11_burgh_X11_closeText : GoodIn wsX11_burgh (wsV RX11 113 RX11 yX11_closeText wsX11_closeText) := goodIn_app (goodIn_of _ (by decide +kernel)) ggX11_burgh_X11_closeText
set_option maxRecDepth 20000 in
theorem ggX11_burgh_X1_copyFrom : GoodIn wsX11_burgh wsX1_copyFrom := goodIn_r _ [248, 24, 25, 26, 27, 175, 249, 250, 251, 252, 253, 254, 255, 176, 256, 257, 258, 221, 177, 259, 327, 328, 329, 330, 331, 332, 333, 334, 335, 336, 337, 338, 339, 340, 341] (by decide +kernel) (by decide +kernel)
set_option maxRecDepth 20000 in
theorem gX11_burgh_X1_copyFrom : GoodIn wsX11_burgh (wsV RX11 122 RX1 yX1_copyFrom wsX1_copyFrom) := goodIn_app (goodIn_of _ (by decide +kernel)) ggX11_burgh_X1_copyFrom
set_option maxRecDepth 20000 in
theorem ggX11_burgh_X3_begin : GoodIn wsX11_burgh wsX3_begin := goodIn_r _ [264, 265, 266, 267, 268, 269, 270, 271, 250, 251, 252, 272, 273, 274, 275, 276, 277, 278, 279, 280, 281, 344, 345, 346, 347, 348, 349, 350, 351, 352, 353, 327, 328, 329, 330, 331, 332, 333, 334, 335, 336, 337, 338, 339, 340, 341] (by decide +kernel) (by decide +kernel)
set_option maxRecDepth 20000 in
theorem gX11_burgh_X3_begin : GoodIn wsX11_burgh (wsV RX11 130 RX3 yX3_begin wsX3_begin) := goodIn_app (goodIn_of _ (by decide +kernel)) ggX11_burgh_X3_begin
set_option maxRecDepth 20000 in
theorem ggX11_burgh_X5_clear : GoodIn wsX11_burgh wsX5_clear := goodIn_r _ [286, 287, 354, 355, 356] (by decide +kernel) (by decide +kernel)
set_option maxRecDepth 20000 in
theorem gX11_burgh_X5_clear : GoodIn wsX11_burgh (wsV RX11 137 RX5 yX5_clear wsX5_clear) := goodIn_app (goodIn_of _ (by decide +kernel)) ggX11_burgh_X5_clear
set_option maxRecDepth 20000 in
theorem ggX11_burgh_X4_forget : GoodIn wsX11_burgh wsX4_forget := goodIn_r _ [292, 293, 357, 358, 359] (by decide +kernel) (by decide +kernel)
set_option maxRecDepth 20000 in
theorem gX11_burgh_X4_forget : GoodIn wsX11_burgh (wsV RX11 142 RX4 yX4_forget wsX4_forget) := goodIn_app (goodIn_of _ (by decide +kernel)) ggX11_burgh_X4_forget
theorem dX11_burgh_0 : decode cX11_burgh 0 = .ok (.aload_n 0, 1) := by decide +kernel
theorem dX11_burgh_1 : decode cX11_burgh 1 = .ok (.getfield 61, 3) := by decide +kernel
theorem dX11_burgh_4 : decode cX11_burgh 4 = .ok (.invokevirtual 109, 3) := by decide +kernel
theorem dX11_burgh_7 : decode cX11_burgh 7 = .ok (.istore_n 1, 1) := by decide +kernel
theorem dX11_burgh_8 : decode cX11_burgh 8 = .ok (.aload_n 0, 1) := by decide +kernel
theorem dX11_burgh_9 : decode cX11_burgh 9 = .ok (.invokevirtual 113, 3) := by decide +kernel
theorem dX11_burgh_12 : decode cX11_burgh 12 = .ok (.aload_n 0, 1) := by decide +kernel
theorem dX11_burgh_13 : decode cX11_burgh 13 = .ok (.getfield 95, 3) := by decide +kernel
theorem dX11_burgh_16 : decode cX11_burgh 16 = .ok (.ifCond .eq 13, 3) := by decide +kernel
theorem dX11_burgh_19 : decode cX11_burgh 19 = .ok (.iconst (-1), 1) := by decide +kernel
theorem dX11_burgh_20 : decode cX11_burgh 20 = .ok (.aload_n 0, 1) := by decide +kernel
theorem dX11_burgh_21 : decode cX11_burgh 21 = .ok (.getfield 21, 3) := by decide +kernel
theorem dX11_burgh_24 : decode cX11_burgh 24 = .ok (.getfield 116, 3) := by decide +kernel
theorem dX11_burgh_27 : decode cX11_burgh 27 = .ok (.isub, 1) := by decide +kernel
theorem dX11_burgh_28 : decode cX11_burgh 28 = .ok (.ireturn, 1) := by decide +kernel
theorem dX11_burgh_29 : decode cX11_burgh 29 = .ok (.aload_n 0, 1) := by decide +kernel
theorem dX11_burgh_30 : decode cX11_burgh 30 = .ok (.getfield 28, 3) := by decide +kernel
theorem dX11_burgh_33 : decode cX11_burgh 33 = .ok (.getfield 38, 3) := by decide +kernel
theorem dX11_burgh_36 : decode cX11_burgh 36 = .ok (.aload_n 0, 1) := by decide +kernel
theorem dX11_burgh_37 : decode cX11_burgh 37 = .ok (.getfield 61, 3) := by decide +kernel
theorem dX11_burgh_40 : decode cX11_burgh 40 = .ok (.getfield 119, 3) := by decide +kernel
theorem dX11_burgh_43 : decode cX11_burgh 43 = .ok (.invokevirtual 122, 3) := by decide +kernel
theorem dX11_burgh_46 : decode cX11_burgh 46 = .ok (.aload_n 0, 1) := by decide +kernel
theorem dX11_burgh_47 : decode cX11_burgh 47 = .ok (.getfield 28, 3) := by decide +kernel
theorem dX11_burgh_50 : decode cX11_burgh 50 = .ok (.getfield 127, 3) := by decide +kernel
theorem dX11_burgh_53 : decode cX11_burgh 53 = .ok (.invokevirtual 130, 3) := by decide +kernel
theorem dX11_burgh_56 : decode cX11_burgh 56 = .ok (.aload_n 0, 1) := by decide +kernel
theorem dX11_burgh_57 : decode cX11_burgh 57 = .ok (.getfield 28, 3) := by decide +kernel
theorem dX11_burgh_60 : decode cX11_burgh 60 = .ok (.getfield 133, 3) := by decide +kernel
theorem dX11_burgh_63 : decode cX11_burgh 63 = .ok (.invokevirtual 137, 3) := by decide +kernel
theorem dX11_burgh_66 : decode cX11_burgh 66 = .ok (.aload_n 0, 1) := by decide +kernel
theorem dX11_burgh_67 : decode cX11_burgh 67 = .ok (.getfield 45, 3) := by decide +kernel
theorem dX11_burgh_70 : decode cX11_burgh 70 = .ok (.invokevirtual 142, 3) := by decide +kernel
theorem dX11_burgh_73 : decode cX11_burgh 73 = .ok (.iload_n 1, 1) := by decide +kernel
theorem dX11_burgh_74 : decode cX11_burgh 74 = .ok (.ireturn, 1) := by decide +kernel
theorem dX11_fault_0 : decode cX11_fault 0 = .ok (.aload_n 0, 1) := by decide +kernel
theorem dX11_fault_1 : decode cX11_fault 1 = .ok (.getfield 95, 3) := by decide +kernel
theorem dX11_fault_4 : decode cX11_fault 4 = .ok (.ireturn, 1) := by decide +kernel
set_option maxRecDepth 20000 in
theorem ggX11_clock_X11_isClock : GoodIn wsX11_clock wsX11_isClock := goodIn_r _ [11, 1, 2, 12, 44, 45, 46, 47, 48, 49, 50, 51, 52, 53, 54, 55, 56, 57, 58, 59, 60, 61, 62, 63, 64, 65, 66, 67, 68, 69, 70, 71, 72, 73, 74, 75] (by decide +kernel) (by decide +kernel)
set_option maxRecDepth 20000 in
theorem gX11_clock_X11_isClock : GoodIn wsX11_clock (wsV RX11 145 RX11 yX11_isClock wsX11_isClock) := goodIn_app (goodIn_of _ (by decide +kernel)) ggX11_clock_X11_isClock
set_option maxRecDepth 20000 in
theorem ggX11_clock_X3_isStopped : GoodIn wsX11_clock wsX3_isStopped := goodIn_r _ [17, 18, 76, 77, 78, 79, 80, 81, 82, 83, 84, 85] (by decide +kernel) (by decide +kernel)
set_option maxRecDepth 20000 in
theorem gX11_clock_X3_isStopped : GoodIn wsX11_clock (wsV RX11 156 RX3 yX3_isStopped wsX3_isStopped) := goodIn_app (goodIn_of _ (by decide +kernel)) ggX11_clock_X3_isStopped
set_option maxRecDepth 20000 in
theorem ggX11_clock_X3_shows : GoodIn wsX11_clock wsX3_shows := goodIn_r _ [22, 23, 24, 25, 16, 26, 27, 28, 29, 30, 31, 32, 14, 15, 17, 18, 33, 34, 35, 36, 76, 77, 78, 79, 80, 81, 82, 83, 84, 85, 61, 62, 63, 64, 65, 66, 67, 68, 69, 70, 71, 72, 73, 74, 75] (by decide +kernel) (by decide +kernel)
set_option maxRecDepth 20000 in
theorem gX11_clock_X3_shows : GoodIn wsX11_clock (wsV RX11 162 RX3 yX3_shows wsX3_shows) := goodIn_app (goodIn_of _ (by decide +kernel)) ggX11_clock_X3_shows
set_option maxRecDepth 20000 in
theorem ggX11_clock_X1_mastersBy : GoodIn wsX11_clock wsX1_mastersBy := goodIn_r _ [41, 42, 43, 61, 62, 63, 64, 65, 66, 67, 68, 69, 70, 71, 72, 73, 74, 75] (by decide +kernel) (by decide +kernel)
set_option maxRecDepth 20000 in
theorem gX11_clock_X1_mastersBy : GoodIn wsX11_clock (wsV RX11 166 RX1 yX1_mastersBy wsX1_mastersBy) := goodIn_app (goodIn_of _ (by decide +kernel)) ggX11_clock_X1_mastersBy
theorem dX11_clock_0 : decode cX11_clock 0 = .ok (.aload_n 0, 1) := by decide +kernel
theorem dX11_clock_1 : decode cX11_clock 1 = .ok (.iload_n 1, 1) := by decide +kernel
theorem dX11_clock_2 : decode cX11_clock 2 = .ok (.invokevirtual 145, 3) := by decide +kernel
theorem dX11_clock_5 : decode cX11_clock 5 = .ok (.ifCond .ne 5, 3) := by decide +kernel
theorem dX11_clock_8 : decode cX11_clock 8 = .ok (.iconst (-1), 1) := by decide +kernel
theorem dX11_clock_9 : decode cX11_clock 9 = .ok (.ireturn, 1) := by decide +kernel
theorem dX11_clock_10 : decode cX11_clock 10 = .ok (.iload_n 2, 1) := by decide +kernel
theorem dX11_clock_11 : decode cX11_clock 11 = .ok (.tableswitch 113 0 4 #[33, 46, 59, 79, 101], 33) := by decide +kernel
theorem dX11_clock_44 : decode cX11_clock 44 = .ok (.aload_n 0, 1) := by decide +kernel
theorem dX11_clock_45 : decode cX11_clock 45 = .ok (.getfield 28, 3) := by decide +kernel
theorem dX11_clock_48 : decode cX11_clock 48 = .ok (.getfield 38, 3) := by decide +kernel
theorem dX11_clock_51 : decode cX11_clock 51 = .ok (.getfield 149, 3) := by decide +kernel
theorem dX11_clock_54 : decode cX11_clock 54 = .ok (.iload_n 1, 1) := by decide +kernel
theorem dX11_clock_55 : decode cX11_clock 55 = .ok (.iaload, 1) := by decide +kernel
theorem dX11_clock_56 : decode cX11_clock 56 = .ok (.ireturn, 1) := by decide +kernel
theorem dX11_clock_57 : decode cX11_clock 57 = .ok (.aload_n 0, 1) := by decide +kernel
theorem dX11_clock_58 : decode cX11_clock 58 = .ok (.getfield 28, 3) := by decide +kernel
theorem dX11_clock_61 : decode cX11_clock 61 = .ok (.getfield 38, 3) := by decide +kernel
theorem dX11_clock_64 : decode cX11_clock 64 = .ok (.getfield 153, 3) := by decide +kernel
theorem dX11_clock_67 : decode cX11_clock 67 = .ok (.iload_n 1, 1) := by decide +kernel
theorem dX11_clock_68 : decode cX11_clock 68 = .ok (.iaload, 1) := by decide +kernel
theorem dX11_clock_69 : decode cX11_clock 69 = .ok (.ireturn, 1) := by decide +kernel
theorem dX11_clock_70 : decode cX11_clock 70 = .ok (.aload_n 0, 1) := by decide +kernel
theorem dX11_clock_71 : decode cX11_clock 71 = .ok (.getfield 28, 3) := by decide +kernel
theorem dX11_clock_74 : decode cX11_clock 74 = .ok (.getfield 127, 3) := by decide +kernel
theorem dX11_clock_77 : decode cX11_clock 77 = .ok (.iload_n 1, 1) := by decide +kernel
theorem dX11_clock_78 : decode cX11_clock 78 = .ok (.invokevirtual 156, 3) := by decide +kernel
theorem dX11_clock_81 : decode cX11_clock 81 = .ok (.ifCond .eq 7, 3) := by decide +kernel
theorem dX11_clock_84 : decode cX11_clock 84 = .ok (.iconst 1, 1) := by decide +kernel
theorem dX11_clock_85 : decode cX11_clock 85 = .ok (.goto 4, 3) := by decide +kernel
theorem dX11_clock_88 : decode cX11_clock 88 = .ok (.iconst 0, 1) := by decide +kernel
theorem dX11_clock_89 : decode cX11_clock 89 = .ok (.ireturn, 1) := by decide +kernel
theorem dX11_clock_90 : decode cX11_clock 90 = .ok (.aload_n 0, 1) := by decide +kernel
theorem dX11_clock_91 : decode cX11_clock 91 = .ok (.getfield 28, 3) := by decide +kernel
theorem dX11_clock_94 : decode cX11_clock 94 = .ok (.getfield 127, 3) := by decide +kernel
theorem dX11_clock_97 : decode cX11_clock 97 = .ok (.iload_n 1, 1) := by decide +kernel
theorem dX11_clock_98 : decode cX11_clock 98 = .ok (.aload_n 0, 1) := by decide +kernel
theorem dX11_clock_99 : decode cX11_clock 99 = .ok (.getfield 28, 3) := by decide +kernel
theorem dX11_clock_102 : decode cX11_clock 102 = .ok (.getfield 127, 3) := by decide +kernel
theorem dX11_clock_105 : decode cX11_clock 105 = .ok (.getfield 159, 3) := by decide +kernel
theorem dX11_clock_108 : decode cX11_clock 108 = .ok (.invokevirtual 162, 3) := by decide +kernel
theorem dX11_clock_111 : decode cX11_clock 111 = .ok (.ireturn, 1) := by decide +kernel
theorem dX11_clock_112 : decode cX11_clock 112 = .ok (.aload_n 0, 1) := by decide +kernel
theorem dX11_clock_113 : decode cX11_clock 113 = .ok (.getfield 28, 3) := by decide +kernel
theorem dX11_clock_116 : decode cX11_clock 116 = .ok (.getfield 38, 3) := by decide +kernel
theorem dX11_clock_119 : decode cX11_clock 119 = .ok (.iload_n 1, 1) := by decide +kernel
theorem dX11_clock_120 : decode cX11_clock 120 = .ok (.invokevirtual 166, 3) := by decide +kernel
theorem dX11_clock_123 : decode cX11_clock 123 = .ok (.ireturn, 1) := by decide +kernel
theorem dX11_clock_124 : decode cX11_clock 124 = .ok (.iconst (-1), 1) := by decide +kernel
theorem dX11_clock_125 : decode cX11_clock 125 = .ok (.ireturn, 1) := by decide +kernel
set_option maxRecDepth 20000 in
theorem ggX11_wrong_X11_isClock : GoodIn wsX11_wrong wsX11_isClock := goodIn_r _ [9, 3, 10, 11, 32, 33, 34, 35, 36, 37, 38, 39, 40, 41, 42, 43, 44, 45, 46, 47, 48, 49, 50, 51, 52, 53, 54, 55, 56, 57, 58, 59, 60, 61, 62, 63] (by decide +kernel) (by decide +kernel)
set_option maxRecDepth 20000 in
theorem gX11_wrong_X11_isClock : GoodIn wsX11_wrong (wsV RX11 145 RX11 yX11_isClock wsX11_isClock) := goodIn_app (goodIn_of _ (by decide +kernel)) ggX11_wrong_X11_isClock
set_option maxRecDepth 20000 in
theorem ggX11_wrong_X3_wrongBy : GoodIn wsX11_wrong wsX3_wrongBy := goodIn_r _ [16, 17, 18, 19, 20, 15, 21, 22, 23, 24, 25, 26, 27, 28, 29, 30, 31, 64, 65, 66, 67, 68, 69, 70, 71, 72, 73, 49, 50, 51, 52, 53, 54, 55, 56, 57, 58, 59, 60, 61, 62, 63] (by decide +kernel) (by decide +kernel)
set_option maxRecDepth 20000 in
theorem gX11_wrong_X3_wrongBy : GoodIn wsX11_wrong (wsV RX11 177 RX3 yX3_wrongBy wsX3_wrongBy) := goodIn_app (goodIn_of _ (by decide +kernel)) ggX11_wrong_X3_wrongBy
theorem dX11_wrong_0 : decode cX11_wrong 0 = .ok (.aload_n 0, 1) := by decide +kernel
theorem dX11_wrong_1 : decode cX11_wrong 1 = .ok (.iload_n 1, 1) := by decide +kernel
theorem dX11_wrong_2 : decode cX11_wrong 2 = .ok (.invokevirtual 145, 3) := by decide +kernel
theorem dX11_wrong_5 : decode cX11_wrong 5 = .ok (.ifCond .ne 13, 3) := by decide +kernel
theorem dX11_wrong_8 : decode cX11_wrong 8 = .ok (.new 170, 3) := by decide +kernel
theorem dX11_wrong_11 : decode cX11_wrong 11 = .ok (.dup, 1) := by decide +kernel
theorem dX11_wrong_12 : decode cX11_wrong 12 = .ok (.ldc 172, 2) := by decide +kernel
theorem dX11_wrong_14 : decode cX11_wrong 14 = .ok (.invokespecial 174, 3) := by decide +kernel
theorem dX11_wrong_17 : decode cX11_wrong 17 = .ok (.athrow, 1) := by decide +kernel
theorem dX11_wrong_18 : decode cX11_wrong 18 = .ok (.aload_n 0, 1) := by decide +kernel
theorem dX11_wrong_19 : decode cX11_wrong 19 = .ok (.getfield 28, 3) := by decide +kernel
theorem dX11_wrong_22 : decode cX11_wrong 22 = .ok (.getfield 127, 3) := by decide +kernel
theorem dX11_wrong_25 : decode cX11_wrong 25 = .ok (.iload_n 1, 1) := by decide +kernel
theorem dX11_wrong_26 : decode cX11_wrong 26 = .ok (.invokevirtual 177, 3) := by decide +kernel
theorem dX11_wrong_29 : decode cX11_wrong 29 = .ok (.ireturn, 1) := by decide +kernel
set_option maxRecDepth 20000 in
theorem ggX11_master_X11_isMaster : GoodIn wsX11_master wsX11_isMaster := goodIn_r _ [16, 3, 4, 17, 32, 33, 34, 35, 36, 37, 38, 39, 40, 41, 42, 43, 44, 45, 46, 47, 48, 49, 50, 51, 52, 53, 54, 55, 56, 57, 58, 59, 60, 61, 62, 63] (by decide +kernel) (by decide +kernel)
set_option maxRecDepth 20000 in
theorem gX11_master_X11_isMaster : GoodIn wsX11_master (wsV RX11 180 RX11 yX11_isMaster wsX11_isMaster) := goodIn_app (goodIn_of _ (by decide +kernel)) ggX11_master_X11_isMaster
set_option maxRecDepth 20000 in
theorem ggX11_master_X3_isOut : GoodIn wsX11_master wsX3_isOut := goodIn_r _ [22, 23, 64, 65, 66, 67, 68, 69, 70, 71, 72, 73] (by decide +kernel) (by decide +kernel)
set_option maxRecDepth 20000 in
theorem gX11_master_X3_isOut : GoodIn wsX11_master (wsV RX11 194 RX3 yX3_isOut wsX3_isOut) := goodIn_app (goodIn_of _ (by decide +kernel)) ggX11_master_X3_isOut
set_option maxRecDepth 20000 in
theorem ggX11_master_X3_meetsIn : GoodIn wsX11_master wsX3_meetsIn := goodIn_r _ [27, 28, 29, 30, 15, 31, 64, 65, 66, 67, 68, 69, 70, 71, 72, 73, 49, 50, 51, 52, 53, 54, 55, 56, 57, 58, 59, 60, 61, 62, 63] (by decide +kernel) (by decide +kernel)
set_option maxRecDepth 20000 in
theorem gX11_master_X3_meetsIn : GoodIn wsX11_master (wsV RX11 203 RX3 yX3_meetsIn wsX3_meetsIn) := goodIn_app (goodIn_of _ (by decide +kernel)) ggX11_master_X3_meetsIn
theorem dX11_master_0 : decode cX11_master 0 = .ok (.aload_n 0, 1) := by decide +kernel
theorem dX11_master_1 : decode cX11_master 1 = .ok (.iload_n 1, 1) := by decide +kernel
theorem dX11_master_2 : decode cX11_master 2 = .ok (.invokevirtual 180, 3) := by decide +kernel
theorem dX11_master_5 : decode cX11_master 5 = .ok (.ifCond .eq 13, 3) := by decide +kernel
theorem dX11_master_8 : decode cX11_master 8 = .ok (.iload_n 2, 1) := by decide +kernel
theorem dX11_master_9 : decode cX11_master 9 = .ok (.ifCond .lt 9, 3) := by decide +kernel
theorem dX11_master_12 : decode cX11_master 12 = .ok (.iload_n 2, 1) := by decide +kernel
theorem dX11_master_13 : decode cX11_master 13 = .ok (.bipush 6, 2) := by decide +kernel
theorem dX11_master_15 : decode cX11_master 15 = .ok (.if_icmp .le 13, 3) := by decide +kernel
theorem dX11_master_18 : decode cX11_master 18 = .ok (.new 170, 3) := by decide +kernel
theorem dX11_master_21 : decode cX11_master 21 = .ok (.dup, 1) := by decide +kernel
theorem dX11_master_22 : decode cX11_master 22 = .ok (.ldc 183, 2) := by decide +kernel
theorem dX11_master_24 : decode cX11_master 24 = .ok (.invokespecial 174, 3) := by decide +kernel
theorem dX11_master_27 : decode cX11_master 27 = .ok (.athrow, 1) := by decide +kernel
theorem dX11_master_28 : decode cX11_master 28 = .ok (.iload_n 2, 1) := by decide +kernel
theorem dX11_master_29 : decode cX11_master 29 = .ok (.tableswitch 133 0 5 #[39, 52, 65, 78, 98, 111], 39) := by decide +kernel
theorem dX11_master_68 : decode cX11_master 68 = .ok (.aload_n 0, 1) := by decide +kernel
theorem dX11_master_69 : decode cX11_master 69 = .ok (.getfield 28, 3) := by decide +kernel
theorem dX11_master_72 : decode cX11_master 72 = .ok (.getfield 38, 3) := by decide +kernel
theorem dX11_master_75 : decode cX11_master 75 = .ok (.getfield 185, 3) := by decide +kernel
theorem dX11_master_78 : decode cX11_master 78 = .ok (.iload_n 1, 1) := by decide +kernel
theorem dX11_master_79 : decode cX11_master 79 = .ok (.iaload, 1) := by decide +kernel
theorem dX11_master_80 : decode cX11_master 80 = .ok (.ireturn, 1) := by decide +kernel
theorem dX11_master_81 : decode cX11_master 81 = .ok (.aload_n 0, 1) := by decide +kernel
theorem dX11_master_82 : decode cX11_master 82 = .ok (.getfield 28, 3) := by decide +kernel
theorem dX11_master_85 : decode cX11_master 85 = .ok (.getfield 38, 3) := by decide +kernel
theorem dX11_master_88 : decode cX11_master 88 = .ok (.getfield 188, 3) := by decide +kernel
theorem dX11_master_91 : decode cX11_master 91 = .ok (.iload_n 1, 1) := by decide +kernel
theorem dX11_master_92 : decode cX11_master 92 = .ok (.iaload, 1) := by decide +kernel
theorem dX11_master_93 : decode cX11_master 93 = .ok (.ireturn, 1) := by decide +kernel
theorem dX11_master_94 : decode cX11_master 94 = .ok (.aload_n 0, 1) := by decide +kernel
theorem dX11_master_95 : decode cX11_master 95 = .ok (.getfield 28, 3) := by decide +kernel
theorem dX11_master_98 : decode cX11_master 98 = .ok (.getfield 38, 3) := by decide +kernel
theorem dX11_master_101 : decode cX11_master 101 = .ok (.getfield 191, 3) := by decide +kernel
theorem dX11_master_104 : decode cX11_master 104 = .ok (.iload_n 1, 1) := by decide +kernel
theorem dX11_master_105 : decode cX11_master 105 = .ok (.iaload, 1) := by decide +kernel
theorem dX11_master_106 : decode cX11_master 106 = .ok (.ireturn, 1) := by decide +kernel
theorem dX11_master_107 : decode cX11_master 107 = .ok (.aload_n 0, 1) := by decide +kernel
theorem dX11_master_108 : decode cX11_master 108 = .ok (.getfield 28, 3) := by decide +kernel
theorem dX11_master_111 : decode cX11_master 111 = .ok (.getfield 127, 3) := by decide +kernel
theorem dX11_master_114 : decode cX11_master 114 = .ok (.iload_n 1, 1) := by decide +kernel
theorem dX11_master_115 : decode cX11_master 115 = .ok (.invokevirtual 194, 3) := by decide +kernel
theorem dX11_master_118 : decode cX11_master 118 = .ok (.ifCond .eq 7, 3) := by decide +kernel
theorem dX11_master_121 : decode cX11_master 121 = .ok (.iconst 1, 1) := by decide +kernel
theorem dX11_master_122 : decode cX11_master 122 = .ok (.goto 4, 3) := by decide +kernel
theorem dX11_master_125 : decode cX11_master 125 = .ok (.iconst 0, 1) := by decide +kernel
theorem dX11_master_126 : decode cX11_master 126 = .ok (.ireturn, 1) := by decide +kernel
theorem dX11_master_127 : decode cX11_master 127 = .ok (.aload_n 0, 1) := by decide +kernel
theorem dX11_master_128 : decode cX11_master 128 = .ok (.getfield 28, 3) := by decide +kernel
theorem dX11_master_131 : decode cX11_master 131 = .ok (.getfield 38, 3) := by decide +kernel
theorem dX11_master_134 : decode cX11_master 134 = .ok (.getfield 197, 3) := by decide +kernel
theorem dX11_master_137 : decode cX11_master 137 = .ok (.iload_n 1, 1) := by decide +kernel
theorem dX11_master_138 : decode cX11_master 138 = .ok (.iaload, 1) := by decide +kernel
theorem dX11_master_139 : decode cX11_master 139 = .ok (.ireturn, 1) := by decide +kernel
theorem dX11_master_140 : decode cX11_master 140 = .ok (.aload_n 0, 1) := by decide +kernel
theorem dX11_master_141 : decode cX11_master 141 = .ok (.getfield 28, 3) := by decide +kernel
theorem dX11_master_144 : decode cX11_master 144 = .ok (.getfield 127, 3) := by decide +kernel
theorem dX11_master_147 : decode cX11_master 147 = .ok (.aload_n 0, 1) := by decide +kernel
theorem dX11_master_148 : decode cX11_master 148 = .ok (.getfield 28, 3) := by decide +kernel
theorem dX11_master_151 : decode cX11_master 151 = .ok (.getfield 127, 3) := by decide +kernel
theorem dX11_master_154 : decode cX11_master 154 = .ok (.getfield 200, 3) := by decide +kernel
theorem dX11_master_157 : decode cX11_master 157 = .ok (.iload_n 1, 1) := by decide +kernel
theorem dX11_master_158 : decode cX11_master 158 = .ok (.invokevirtual 203, 3) := by decide +kernel
theorem dX11_master_161 : decode cX11_master 161 = .ok (.ireturn, 1) := by decide +kernel
theorem dX11_master_162 : decode cX11_master 162 = .ok (.aload_n 0, 1) := by decide +kernel
theorem dX11_master_163 : decode cX11_master 163 = .ok (.getfield 28, 3) := by decide +kernel
theorem dX11_master_166 : decode cX11_master 166 = .ok (.getfield 127, 3) := by decide +kernel
theorem dX11_master_169 : decode cX11_master 169 = .ok (.aload_n 0, 1) := by decide +kernel
theorem dX11_master_170 : decode cX11_master 170 = .ok (.getfield 28, 3) := by decide +kernel
theorem dX11_master_173 : decode cX11_master 173 = .ok (.getfield 127, 3) := by decide +kernel
theorem dX11_master_176 : decode cX11_master 176 = .ok (.getfield 207, 3) := by decide +kernel
theorem dX11_master_179 : decode cX11_master 179 = .ok (.iload_n 1, 1) := by decide +kernel
theorem dX11_master_180 : decode cX11_master 180 = .ok (.invokevirtual 203, 3) := by decide +kernel
theorem dX11_master_183 : decode cX11_master 183 = .ok (.ireturn, 1) := by decide +kernel
set_option maxRecDepth 20000 in
theorem ggX11_meet_X11_isMeet : GoodIn wsX11_meet wsX11_isMeet := goodIn_r _ [11, 1, 4, 12, 35, 36, 37, 38, 39, 40, 41, 42, 43, 44, 45, 46, 47, 48, 49, 50, 51, 62, 63, 64, 65, 66, 67, 68, 69, 70, 71, 72, 73, 74, 75, 76] (by decide +kernel) (by decide +kernel)
set_option maxRecDepth 20000 in
theorem gX11_meet_X11_isMeet : GoodIn wsX11_meet (wsV RX11 210 RX11 yX11_isMeet wsX11_isMeet) := goodIn_app (goodIn_of _ (by decide +kernel)) ggX11_meet_X11_isMeet
set_option maxRecDepth 20000 in
theorem ggX11_meet_X1_mastersTo : GoodIn wsX11_meet wsX1_mastersTo := goodIn_r _ [17, 18, 19, 20, 21, 16, 22, 23, 24, 10, 25, 62, 63, 64, 65, 66, 67, 68, 69, 70, 71, 72, 73, 74, 75, 76] (by decide +kernel) (by decide +kernel)
set_option maxRecDepth 20000 in
theorem gX11_meet_X1_mastersTo : GoodIn wsX11_meet (wsV RX11 216 RX1 yX1_mastersTo wsX1_mastersTo) := goodIn_app (goodIn_of _ (by decide +kernel)) ggX11_meet_X1_mastersTo
set_option maxRecDepth 20000 in
theorem ggX11_meet_X3_mastersIn : GoodIn wsX11_meet wsX3_mastersIn := goodIn_r _ [30, 31, 32, 33, 10, 34, 52, 53, 54, 55, 56, 57, 58, 59, 60, 61, 62, 63, 64, 65, 66, 67, 68, 69, 70, 71, 72, 73, 74, 75, 76] (by decide +kernel) (by decide +kernel)
set_option maxRecDepth 20000 in
theorem gX11_meet_X3_mastersIn : GoodIn wsX11_meet (wsV RX11 219 RX3 yX3_mastersIn wsX3_mastersIn) := goodIn_app (goodIn_of _ (by decide +kernel)) ggX11_meet_X3_mastersIn
theorem dX11_meet_0 : decode cX11_meet 0 = .ok (.aload_n 0, 1) := by decide +kernel
theorem dX11_meet_1 : decode cX11_meet 1 = .ok (.iload_n 1, 1) := by decide +kernel
theorem dX11_meet_2 : decode cX11_meet 2 = .ok (.invokevirtual 210, 3) := by decide +kernel
theorem dX11_meet_5 : decode cX11_meet 5 = .ok (.ifCond .ne 5, 3) := by decide +kernel
theorem dX11_meet_8 : decode cX11_meet 8 = .ok (.iconst (-1), 1) := by decide +kernel
theorem dX11_meet_9 : decode cX11_meet 9 = .ok (.ireturn, 1) := by decide +kernel
theorem dX11_meet_10 : decode cX11_meet 10 = .ok (.iload_n 2, 1) := by decide +kernel
theorem dX11_meet_11 : decode cX11_meet 11 = .ok (.tableswitch 98 0 3 #[29, 42, 54, 76], 29) := by decide +kernel
theorem dX11_meet_40 : decode cX11_meet 40 = .ok (.aload_n 0, 1) := by decide +kernel
theorem dX11_meet_41 : decode cX11_meet 41 = .ok (.getfield 28, 3) := by decide +kernel
theorem dX11_meet_44 : decode cX11_meet 44 = .ok (.getfield 127, 3) := by decide +kernel
theorem dX11_meet_47 : decode cX11_meet 47 = .ok (.getfield 213, 3) := by decide +kernel
theorem dX11_meet_50 : decode cX11_meet 50 = .ok (.iload_n 1, 1) := by decide +kernel
theorem dX11_meet_51 : decode cX11_meet 51 = .ok (.iaload, 1) := by decide +kernel
theorem dX11_meet_52 : decode cX11_meet 52 = .ok (.ireturn, 1) := by decide +kernel
theorem dX11_meet_53 : decode cX11_meet 53 = .ok (.aload_n 0, 1) := by decide +kernel
theorem dX11_meet_54 : decode cX11_meet 54 = .ok (.getfield 28, 3) := by decide +kernel
theorem dX11_meet_57 : decode cX11_meet 57 = .ok (.getfield 38, 3) := by decide +kernel
theorem dX11_meet_60 : decode cX11_meet 60 = .ok (.iload_n 1, 1) := by decide +kernel
theorem dX11_meet_61 : decode cX11_meet 61 = .ok (.invokevirtual 216, 3) := by decide +kernel
theorem dX11_meet_64 : decode cX11_meet 64 = .ok (.ireturn, 1) := by decide +kernel
theorem dX11_meet_65 : decode cX11_meet 65 = .ok (.aload_n 0, 1) := by decide +kernel
theorem dX11_meet_66 : decode cX11_meet 66 = .ok (.getfield 28, 3) := by decide +kernel
theorem dX11_meet_69 : decode cX11_meet 69 = .ok (.getfield 127, 3) := by decide +kernel
theorem dX11_meet_72 : decode cX11_meet 72 = .ok (.aload_n 0, 1) := by decide +kernel
theorem dX11_meet_73 : decode cX11_meet 73 = .ok (.getfield 28, 3) := by decide +kernel
theorem dX11_meet_76 : decode cX11_meet 76 = .ok (.getfield 127, 3) := by decide +kernel
theorem dX11_meet_79 : decode cX11_meet 79 = .ok (.getfield 200, 3) := by decide +kernel
theorem dX11_meet_82 : decode cX11_meet 82 = .ok (.iload_n 1, 1) := by decide +kernel
theorem dX11_meet_83 : decode cX11_meet 83 = .ok (.invokevirtual 219, 3) := by decide +kernel
theorem dX11_meet_86 : decode cX11_meet 86 = .ok (.ireturn, 1) := by decide +kernel
theorem dX11_meet_87 : decode cX11_meet 87 = .ok (.aload_n 0, 1) := by decide +kernel
theorem dX11_meet_88 : decode cX11_meet 88 = .ok (.getfield 28, 3) := by decide +kernel
theorem dX11_meet_91 : decode cX11_meet 91 = .ok (.getfield 127, 3) := by decide +kernel
theorem dX11_meet_94 : decode cX11_meet 94 = .ok (.aload_n 0, 1) := by decide +kernel
theorem dX11_meet_95 : decode cX11_meet 95 = .ok (.getfield 28, 3) := by decide +kernel
theorem dX11_meet_98 : decode cX11_meet 98 = .ok (.getfield 127, 3) := by decide +kernel
theorem dX11_meet_101 : decode cX11_meet 101 = .ok (.getfield 207, 3) := by decide +kernel
theorem dX11_meet_104 : decode cX11_meet 104 = .ok (.iload_n 1, 1) := by decide +kernel
theorem dX11_meet_105 : decode cX11_meet 105 = .ok (.invokevirtual 219, 3) := by decide +kernel
theorem dX11_meet_108 : decode cX11_meet 108 = .ok (.ireturn, 1) := by decide +kernel
theorem dX11_meet_109 : decode cX11_meet 109 = .ok (.iconst (-1), 1) := by decide +kernel
theorem dX11_meet_110 : decode cX11_meet 110 = .ok (.ireturn, 1) := by decide +kernel
set_option maxRecDepth 20000 in
theorem ggX11_now_X3_rightClocks : GoodIn wsX11_now wsX3_rightClocks := goodIn_r _ [10, 11, 12, 13, 14, 15, 9, 16, 17, 18, 19, 20, 21, 22, 23, 24, 25, 26, 27, 28, 29, 30, 82, 83, 84, 85, 86, 87, 88, 89, 90, 91, 92, 93, 94, 95, 96, 97, 98, 99, 100, 101, 102, 103, 104, 105, 106] (by decide +kernel) (by decide +kernel)
set_option maxRecDepth 20000 in
theorem gX11_now_X3_rightClocks : GoodIn wsX11_now (wsV RX11 228 RX3 yX3_rightClocks wsX3_rightClocks) := goodIn_app (goodIn_of _ (by decide +kernel)) ggX11_now_X3_rightClocks
set_option maxRecDepth 20000 in
theorem ggX11_now_X3_howOftenCame : GoodIn wsX11_now wsX3_howOftenCame := goodIn_r _ [34, 11, 35, 36, 37, 38, 39, 9, 40, 41, 42, 43, 44, 45, 46, 47, 48, 49, 50, 51, 82, 83, 84, 85, 86, 87, 88, 89, 90, 91, 92, 93, 94, 95, 96, 97, 98, 99, 100, 101, 102, 103, 104, 105, 106] (by decide +kernel) (by decide +kernel)
set_option maxRecDepth 20000 in
theorem gX11_now_X3_howOftenCame : GoodIn wsX11_now (wsV RX11 231 RX3 yX3_howOftenCame wsX3_howOftenCame) := goodIn_app (goodIn_of _ (by decide +kernel)) ggX11_now_X3_howOftenCame
set_option maxRecDepth 20000 in
theorem ggX11_now_X3_minutesBehind : GoodIn wsX11_now wsX3_minutesBehind := goodIn_r _ [55, 11, 41, 35, 56, 57, 58, 9, 59, 36, 60, 61, 62, 63, 64, 42, 43, 44, 82, 83, 84, 85, 86, 87, 88, 89, 90, 91, 92, 93, 94, 95, 96, 97, 98, 99, 100, 101, 102, 103, 104, 105, 106] (by decide +kernel) (by decide +kernel)
set_option maxRecDepth 20000 in
theorem gX11_now_X3_minutesBehind : GoodIn wsX11_now (wsV RX11 234 RX3 yX3_minutesBehind wsX3_minutesBehind) := goodIn_app (goodIn_of _ (by decide +kernel)) ggX11_now_X3_minutesBehind
theorem dX11_now_0 : decode cX11_now 0 = .ok (.iload_n 1, 1) := by decide +kernel
theorem dX11_now_1 : decode cX11_now 1 = .ok (.tableswitch 105 0 5 #[39, 50, 61, 72, 83, 94], 39) := by decide +kernel
theorem dX11_now_40 : decode cX11_now 40 = .ok (.aload_n 0, 1) := by decide +kernel
theorem dX11_now_41 : decode cX11_now 41 = .ok (.getfield 28, 3) := by decide +kernel
theorem dX11_now_44 : decode cX11_now 44 = .ok (.getfield 127, 3) := by decide +kernel
theorem dX11_now_47 : decode cX11_now 47 = .ok (.getfield 159, 3) := by decide +kernel
theorem dX11_now_50 : decode cX11_now 50 = .ok (.ireturn, 1) := by decide +kernel
theorem dX11_now_51 : decode cX11_now 51 = .ok (.aload_n 0, 1) := by decide +kernel
theorem dX11_now_52 : decode cX11_now 52 = .ok (.getfield 28, 3) := by decide +kernel
theorem dX11_now_55 : decode cX11_now 55 = .ok (.getfield 127, 3) := by decide +kernel
theorem dX11_now_58 : decode cX11_now 58 = .ok (.getfield 222, 3) := by decide +kernel
theorem dX11_now_61 : decode cX11_now 61 = .ok (.ireturn, 1) := by decide +kernel
theorem dX11_now_62 : decode cX11_now 62 = .ok (.aload_n 0, 1) := by decide +kernel
theorem dX11_now_63 : decode cX11_now 63 = .ok (.getfield 28, 3) := by decide +kernel
theorem dX11_now_66 : decode cX11_now 66 = .ok (.getfield 127, 3) := by decide +kernel
theorem dX11_now_69 : decode cX11_now 69 = .ok (.getfield 225, 3) := by decide +kernel
theorem dX11_now_72 : decode cX11_now 72 = .ok (.ireturn, 1) := by decide +kernel
theorem dX11_now_73 : decode cX11_now 73 = .ok (.aload_n 0, 1) := by decide +kernel
theorem dX11_now_74 : decode cX11_now 74 = .ok (.getfield 28, 3) := by decide +kernel
theorem dX11_now_77 : decode cX11_now 77 = .ok (.getfield 127, 3) := by decide +kernel
theorem dX11_now_80 : decode cX11_now 80 = .ok (.invokevirtual 228, 3) := by decide +kernel
theorem dX11_now_83 : decode cX11_now 83 = .ok (.ireturn, 1) := by decide +kernel
theorem dX11_now_84 : decode cX11_now 84 = .ok (.aload_n 0, 1) := by decide +kernel
theorem dX11_now_85 : decode cX11_now 85 = .ok (.getfield 28, 3) := by decide +kernel
theorem dX11_now_88 : decode cX11_now 88 = .ok (.getfield 127, 3) := by decide +kernel
theorem dX11_now_91 : decode cX11_now 91 = .ok (.invokevirtual 231, 3) := by decide +kernel
theorem dX11_now_94 : decode cX11_now 94 = .ok (.ireturn, 1) := by decide +kernel
theorem dX11_now_95 : decode cX11_now 95 = .ok (.aload_n 0, 1) := by decide +kernel
theorem dX11_now_96 : decode cX11_now 96 = .ok (.getfield 28, 3) := by decide +kernel
theorem dX11_now_99 : decode cX11_now 99 = .ok (.getfield 127, 3) := by decide +kernel
theorem dX11_now_102 : decode cX11_now 102 = .ok (.invokevirtual 234, 3) := by decide +kernel
theorem dX11_now_105 : decode cX11_now 105 = .ok (.ireturn, 1) := by decide +kernel
theorem dX11_now_106 : decode cX11_now 106 = .ok (.iconst (-1), 1) := by decide +kernel
theorem dX11_now_107 : decode cX11_now 107 = .ok (.ireturn, 1) := by decide +kernel
set_option maxRecDepth 20000 in
theorem ggX11_set_X11_isMaster : GoodIn wsX11_set wsX11_isMaster := goodIn_r _ [8, 1, 9, 10, 64, 65, 66, 67, 68, 69, 70, 71, 72, 73, 74, 75, 76, 77, 78, 79, 80, 81, 82, 83, 84, 85, 86, 87, 88, 89, 90, 91, 92, 93, 94, 95] (by decide +kernel) (by decide +kernel)
set_option maxRecDepth 20000 in
theorem gX11_set_X11_isMaster : GoodIn wsX11_set (wsV RX11 180 RX11 yX11_isMaster wsX11_isMaster) := goodIn_app (goodIn_of _ (by decide +kernel)) ggX11_set_X11_isMaster
set_option maxRecDepth 20000 in
theorem ggX11_set_X11_isClock : GoodIn wsX11_set wsX11_isClock := goodIn_r _ [14, 1, 9, 15, 64, 65, 66, 67, 68, 69, 70, 71, 72, 73, 74, 75, 76, 77, 78, 79, 80, 81, 82, 83, 84, 85, 86, 87, 88, 89, 90, 91, 92, 93, 94, 95] (by decide +kernel) (by decide +kernel)
set_option maxRecDepth 20000 in
theorem gX11_set_X11_isClock : GoodIn wsX11_set (wsV RX11 145 RX11 yX11_isClock wsX11_isClock) := goodIn_app (goodIn_of _ (by decide +kernel)) ggX11_set_X11_isClock
set_option maxRecDepth 20000 in
theorem ggX11_set_X3_whyNotSet : GoodIn wsX11_set wsX3_whyNotSet := goodIn_r _ [20, 21, 22, 23, 19, 24, 25, 26, 27, 28, 29, 30, 96, 97, 98, 99, 100, 101, 102, 103, 104, 105] (by decide +kernel) (by decide +kernel)
set_option maxRecDepth 20000 in
theorem gX11_set_X3_whyNotSet : GoodIn wsX11_set (wsV RX11 237 RX3 yX3_whyNotSet wsX3_whyNotSet) := goodIn_app (goodIn_of _ (by decide +kernel)) ggX11_set_X3_whyNotSet
set_option maxRecDepth 20000 in
theorem ggX11_set_X4_keep : GoodIn wsX11_set wsX4_keep := goodIn_r _ [35, 36, 37, 38, 39, 40, 41, 42, 43, 44, 45, 19, 46, 47, 25, 30, 48, 49, 50, 51, 52, 53, 54, 55, 56, 57, 106, 107, 108, 96, 97, 98, 99, 100, 101, 102, 103, 104, 105] (by decide +kernel) (by decide +kernel)
set_option maxRecDepth 20000 in
theorem gX11_set_X4_keep : GoodIn wsX11_set (wsV RX11 240 RX4 yX4_keep wsX4_keep) := goodIn_app (goodIn_of _ (by decide +kernel)) ggX11_set_X4_keep
set_option maxRecDepth 20000 in
theorem ggX11_set_X3_adjust : GoodIn wsX11_set wsX3_adjust := goodIn_r _ [61, 48, 62, 63, 53, 47, 96, 97, 98, 99, 100, 101, 102, 103, 104, 105, 81, 82, 83, 84, 85, 86, 87, 88, 89, 90, 91, 92, 93, 94, 95] (by decide +kernel) (by decide +kernel)
set_option maxRecDepth 20000 in
theorem gX11_set_X3_adjust : GoodIn wsX11_set (wsV RX11 244 RX3 yX3_adjust wsX3_adjust) := goodIn_app (goodIn_of _ (by decide +kernel)) ggX11_set_X3_adjust
theorem dX11_set_0 : decode cX11_set 0 = .ok (.aload_n 0, 1) := by decide +kernel
theorem dX11_set_1 : decode cX11_set 1 = .ok (.iload_n 1, 1) := by decide +kernel
theorem dX11_set_2 : decode cX11_set 2 = .ok (.invokevirtual 180, 3) := by decide +kernel
theorem dX11_set_5 : decode cX11_set 5 = .ok (.ifCond .eq 11, 3) := by decide +kernel
theorem dX11_set_8 : decode cX11_set 8 = .ok (.aload_n 0, 1) := by decide +kernel
theorem dX11_set_9 : decode cX11_set 9 = .ok (.iload_n 2, 1) := by decide +kernel
theorem dX11_set_10 : decode cX11_set 10 = .ok (.invokevirtual 145, 3) := by decide +kernel
theorem dX11_set_13 : decode cX11_set 13 = .ok (.ifCond .ne 5, 3) := by decide +kernel
theorem dX11_set_16 : decode cX11_set 16 = .ok (.iconst (-1), 1) := by decide +kernel
theorem dX11_set_17 : decode cX11_set 17 = .ok (.ireturn, 1) := by decide +kernel
theorem dX11_set_18 : decode cX11_set 18 = .ok (.aload_n 0, 1) := by decide +kernel
theorem dX11_set_19 : decode cX11_set 19 = .ok (.getfield 28, 3) := by decide +kernel
theorem dX11_set_22 : decode cX11_set 22 = .ok (.getfield 127, 3) := by decide +kernel
theorem dX11_set_25 : decode cX11_set 25 = .ok (.iload_n 1, 1) := by decide +kernel
theorem dX11_set_26 : decode cX11_set 26 = .ok (.iload_n 2, 1) := by decide +kernel
theorem dX11_set_27 : decode cX11_set 27 = .ok (.invokevirtual 237, 3) := by decide +kernel
theorem dX11_set_30 : decode cX11_set 30 = .ok (.istore_n 3, 1) := by decide +kernel
theorem dX11_set_31 : decode cX11_set 31 = .ok (.iload_n 3, 1) := by decide +kernel
theorem dX11_set_32 : decode cX11_set 32 = .ok (.ifCond .ne 29, 3) := by decide +kernel
theorem dX11_set_35 : decode cX11_set 35 = .ok (.aload_n 0, 1) := by decide +kernel
theorem dX11_set_36 : decode cX11_set 36 = .ok (.getfield 45, 3) := by decide +kernel
theorem dX11_set_39 : decode cX11_set 39 = .ok (.aload_n 0, 1) := by decide +kernel
theorem dX11_set_40 : decode cX11_set 40 = .ok (.getfield 28, 3) := by decide +kernel
theorem dX11_set_43 : decode cX11_set 43 = .ok (.getfield 127, 3) := by decide +kernel
theorem dX11_set_46 : decode cX11_set 46 = .ok (.invokevirtual 240, 3) := by decide +kernel
theorem dX11_set_49 : decode cX11_set 49 = .ok (.aload_n 0, 1) := by decide +kernel
theorem dX11_set_50 : decode cX11_set 50 = .ok (.getfield 28, 3) := by decide +kernel
theorem dX11_set_53 : decode cX11_set 53 = .ok (.getfield 127, 3) := by decide +kernel
theorem dX11_set_56 : decode cX11_set 56 = .ok (.iload_n 1, 1) := by decide +kernel
theorem dX11_set_57 : decode cX11_set 57 = .ok (.iload_n 2, 1) := by decide +kernel
theorem dX11_set_58 : decode cX11_set 58 = .ok (.invokevirtual 244, 3) := by decide +kernel
theorem dX11_set_61 : decode cX11_set 61 = .ok (.iload_n 3, 1) := by decide +kernel
theorem dX11_set_62 : decode cX11_set 62 = .ok (.ireturn, 1) := by decide +kernel
set_option maxRecDepth 20000 in
theorem ggX11_stop_X11_isClock : GoodIn wsX11_stop wsX11_isClock := goodIn_r _ [8, 1, 9, 10, 59, 60, 61, 62, 63, 64, 65, 66, 67, 68, 69, 70, 71, 72, 73, 74, 75, 76, 77, 78, 79, 80, 81, 82, 83, 84, 85, 86, 87, 88, 89, 90] (by decide +kernel) (by decide +kernel)
set_option maxRecDepth 20000 in
theorem gX11_stop_X11_isClock : GoodIn wsX11_stop (wsV RX11 145 RX11 yX11_isClock wsX11_isClock) := goodIn_app (goodIn_of _ (by decide +kernel)) ggX11_stop_X11_isClock
set_option maxRecDepth 20000 in
theorem ggX11_stop_X3_whyNotStop : GoodIn wsX11_stop wsX3_whyNotStop := goodIn_r _ [15, 16, 17, 18, 14, 19, 20, 91, 92, 93, 94, 95, 96, 97, 98, 99, 100] (by decide +kernel) (by decide +kernel)
set_option maxRecDepth 20000 in
theorem gX11_stop_X3_whyNotStop : GoodIn wsX11_stop (wsV RX11 248 RX3 yX3_whyNotStop wsX3_whyNotStop) := goodIn_app (goodIn_of _ (by decide +kernel)) ggX11_stop_X3_whyNotStop
set_option maxRecDepth 20000 in
theorem ggX11_stop_X4_keep : GoodIn wsX11_stop wsX4_keep := goodIn_r _ [25, 26, 27, 28, 29, 30, 31, 32, 33, 34, 35, 14, 36, 37, 38, 20, 39, 40, 41, 42, 43, 44, 45, 46, 47, 48, 101, 102, 103, 91, 92, 93, 94, 95, 96, 97, 98, 99, 100] (by decide +kernel) (by decide +kernel)
set_option maxRecDepth 20000 in
theorem gX11_stop_X4_keep : GoodIn wsX11_stop (wsV RX11 240 RX4 yX4_keep wsX4_keep) := goodIn_app (goodIn_of _ (by decide +kernel)) ggX11_stop_X4_keep
set_option maxRecDepth 20000 in
theorem ggX11_stop_X3_halt : GoodIn wsX11_stop wsX3_halt := goodIn_r _ [52, 45, 37, 20, 53, 54, 55, 14, 56, 39, 57, 58, 44, 16, 17, 18, 19, 91, 92, 93, 94, 95, 96, 97, 98, 99, 100, 76, 77, 78, 79, 80, 81, 82, 83, 84, 85, 86, 87, 88, 89, 90] (by decide +kernel) (by decide +kernel)
set_option maxRecDepth 20000 in
theorem gX11_stop_X3_halt : GoodIn wsX11_stop (wsV RX11 251 RX3 yX3_halt wsX3_halt) := goodIn_app (goodIn_of _ (by decide +kernel)) ggX11_stop_X3_halt
theorem dX11_stop_0 : decode cX11_stop 0 = .ok (.aload_n 0, 1) := by decide +kernel
theorem dX11_stop_1 : decode cX11_stop 1 = .ok (.iload_n 1, 1) := by decide +kernel
theorem dX11_stop_2 : decode cX11_stop 2 = .ok (.invokevirtual 145, 3) := by decide +kernel
theorem dX11_stop_5 : decode cX11_stop 5 = .ok (.ifCond .ne 5, 3) := by decide +kernel
theorem dX11_stop_8 : decode cX11_stop 8 = .ok (.iconst (-1), 1) := by decide +kernel
theorem dX11_stop_9 : decode cX11_stop 9 = .ok (.ireturn, 1) := by decide +kernel
theorem dX11_stop_10 : decode cX11_stop 10 = .ok (.aload_n 0, 1) := by decide +kernel
theorem dX11_stop_11 : decode cX11_stop 11 = .ok (.getfield 28, 3) := by decide +kernel
theorem dX11_stop_14 : decode cX11_stop 14 = .ok (.getfield 127, 3) := by decide +kernel
theorem dX11_stop_17 : decode cX11_stop 17 = .ok (.iload_n 1, 1) := by decide +kernel
theorem dX11_stop_18 : decode cX11_stop 18 = .ok (.invokevirtual 248, 3) := by decide +kernel
theorem dX11_stop_21 : decode cX11_stop 21 = .ok (.istore_n 2, 1) := by decide +kernel
theorem dX11_stop_22 : decode cX11_stop 22 = .ok (.iload_n 2, 1) := by decide +kernel
theorem dX11_stop_23 : decode cX11_stop 23 = .ok (.ifCond .ne 28, 3) := by decide +kernel
theorem dX11_stop_26 : decode cX11_stop 26 = .ok (.aload_n 0, 1) := by decide +kernel
theorem dX11_stop_27 : decode cX11_stop 27 = .ok (.getfield 45, 3) := by decide +kernel
theorem dX11_stop_30 : decode cX11_stop 30 = .ok (.aload_n 0, 1) := by decide +kernel
theorem dX11_stop_31 : decode cX11_stop 31 = .ok (.getfield 28, 3) := by decide +kernel
theorem dX11_stop_34 : decode cX11_stop 34 = .ok (.getfield 127, 3) := by decide +kernel
theorem dX11_stop_37 : decode cX11_stop 37 = .ok (.invokevirtual 240, 3) := by decide +kernel
theorem dX11_stop_40 : decode cX11_stop 40 = .ok (.aload_n 0, 1) := by decide +kernel
theorem dX11_stop_41 : decode cX11_stop 41 = .ok (.getfield 28, 3) := by decide +kernel
theorem dX11_stop_44 : decode cX11_stop 44 = .ok (.getfield 127, 3) := by decide +kernel
theorem dX11_stop_47 : decode cX11_stop 47 = .ok (.iload_n 1, 1) := by decide +kernel
theorem dX11_stop_48 : decode cX11_stop 48 = .ok (.invokevirtual 251, 3) := by decide +kernel
theorem dX11_stop_51 : decode cX11_stop 51 = .ok (.iload_n 2, 1) := by decide +kernel
theorem dX11_stop_52 : decode cX11_stop 52 = .ok (.ireturn, 1) := by decide +kernel
set_option maxRecDepth 20000 in
theorem ggX11_start_X11_isClock : GoodIn wsX11_start wsX11_isClock := goodIn_r _ [8, 1, 9, 10, 63, 64, 65, 66, 67, 68, 69, 70, 71, 72, 73, 74, 75, 76, 77, 78, 79, 80, 81, 82, 83, 84, 85, 86, 87, 88, 89, 90, 91, 92, 93, 94] (by decide +kernel) (by decide +kernel)
set_option maxRecDepth 20000 in
theorem gX11_start_X11_isClock : GoodIn wsX11_start (wsV RX11 145 RX11 yX11_isClock wsX11_isClock) := goodIn_app (goodIn_of _ (by decide +kernel)) ggX11_start_X11_isClock
set_option maxRecDepth 20000 in
theorem ggX11_start_X3_whyNotStart : GoodIn wsX11_start wsX3_whyNotStart := goodIn_r _ [15, 16, 17, 18, 14, 19, 20, 95, 96, 97, 98, 99, 100, 101, 102, 103, 104] (by decide +kernel) (by decide +kernel)
set_option maxRecDepth 20000 in
theorem gX11_start_X3_whyNotStart : GoodIn wsX11_start (wsV RX11 254 RX3 yX3_whyNotStart wsX3_whyNotStart) := goodIn_app (goodIn_of _ (by decide +kernel)) ggX11_start_X3_whyNotStart
set_option maxRecDepth 20000 in
theorem ggX11_start_X4_keep : GoodIn wsX11_start wsX4_keep := goodIn_r _ [25, 26, 27, 28, 29, 30, 31, 32, 33, 34, 35, 14, 36, 37, 38, 20, 39, 40, 41, 42, 43, 44, 45, 46, 47, 48, 105, 106, 107, 95, 96, 97, 98, 99, 100, 101, 102, 103, 104] (by decide +kernel) (by decide +kernel)
set_option maxRecDepth 20000 in
theorem gX11_start_X4_keep : GoodIn wsX11_start (wsV RX11 240 RX4 yX4_keep wsX4_keep) := goodIn_app (goodIn_of _ (by decide +kernel)) ggX11_start_X4_keep
set_option maxRecDepth 20000 in
theorem ggX11_start_X3_resume : GoodIn wsX11_start wsX3_resume := goodIn_r _ [52, 39, 44, 37, 20, 53, 54, 55, 14, 56, 57, 58, 59, 60, 45, 61, 62, 16, 17, 18, 19, 95, 96, 97, 98, 99, 100, 101, 102, 103, 104, 80, 81, 82, 83, 84, 85, 86, 87, 88, 89, 90, 91, 92, 93, 94] (by decide +kernel) (by decide +kernel)
set_option maxRecDepth 20000 in
theorem gX11_start_X3_resume : GoodIn wsX11_start (wsV RX11 257 RX3 yX3_resume wsX3_resume) := goodIn_app (goodIn_of _ (by decide +kernel)) ggX11_start_X3_resume
theorem dX11_start_0 : decode cX11_start 0 = .ok (.aload_n 0, 1) := by decide +kernel
theorem dX11_start_1 : decode cX11_start 1 = .ok (.iload_n 1, 1) := by decide +kernel
theorem dX11_start_2 : decode cX11_start 2 = .ok (.invokevirtual 145, 3) := by decide +kernel
theorem dX11_start_5 : decode cX11_start 5 = .ok (.ifCond .ne 5, 3) := by decide +kernel
theorem dX11_start_8 : decode cX11_start 8 = .ok (.iconst (-1), 1) := by decide +kernel
theorem dX11_start_9 : decode cX11_start 9 = .ok (.ireturn, 1) := by decide +kernel
theorem dX11_start_10 : decode cX11_start 10 = .ok (.aload_n 0, 1) := by decide +kernel
theorem dX11_start_11 : decode cX11_start 11 = .ok (.getfield 28, 3) := by decide +kernel
theorem dX11_start_14 : decode cX11_start 14 = .ok (.getfield 127, 3) := by decide +kernel
theorem dX11_start_17 : decode cX11_start 17 = .ok (.iload_n 1, 1) := by decide +kernel
theorem dX11_start_18 : decode cX11_start 18 = .ok (.invokevirtual 254, 3) := by decide +kernel
theorem dX11_start_21 : decode cX11_start 21 = .ok (.istore_n 2, 1) := by decide +kernel
theorem dX11_start_22 : decode cX11_start 22 = .ok (.iload_n 2, 1) := by decide +kernel
theorem dX11_start_23 : decode cX11_start 23 = .ok (.ifCond .ne 28, 3) := by decide +kernel
theorem dX11_start_26 : decode cX11_start 26 = .ok (.aload_n 0, 1) := by decide +kernel
theorem dX11_start_27 : decode cX11_start 27 = .ok (.getfield 45, 3) := by decide +kernel
theorem dX11_start_30 : decode cX11_start 30 = .ok (.aload_n 0, 1) := by decide +kernel
theorem dX11_start_31 : decode cX11_start 31 = .ok (.getfield 28, 3) := by decide +kernel
theorem dX11_start_34 : decode cX11_start 34 = .ok (.getfield 127, 3) := by decide +kernel
theorem dX11_start_37 : decode cX11_start 37 = .ok (.invokevirtual 240, 3) := by decide +kernel
theorem dX11_start_40 : decode cX11_start 40 = .ok (.aload_n 0, 1) := by decide +kernel
theorem dX11_start_41 : decode cX11_start 41 = .ok (.getfield 28, 3) := by decide +kernel
theorem dX11_start_44 : decode cX11_start 44 = .ok (.getfield 127, 3) := by decide +kernel
theorem dX11_start_47 : decode cX11_start 47 = .ok (.iload_n 1, 1) := by decide +kernel
theorem dX11_start_48 : decode cX11_start 48 = .ok (.invokevirtual 257, 3) := by decide +kernel
theorem dX11_start_51 : decode cX11_start 51 = .ok (.iload_n 2, 1) := by decide +kernel
theorem dX11_start_52 : decode cX11_start 52 = .ok (.ireturn, 1) := by decide +kernel
set_option maxRecDepth 20000 in
theorem ggX11_move_X11_isMeet : GoodIn wsX11_move wsX11_isMeet := goodIn_r _ [9, 1, 10, 11, 54, 55, 56, 57, 58, 59, 60, 61, 62, 63, 64, 65, 66, 67, 68, 69, 70, 81, 82, 83, 84, 85, 86, 87, 88, 89, 90, 91, 92, 93, 94, 95] (by decide +kernel) (by decide +kernel)
set_option maxRecDepth 20000 in
theorem gX11_move_X11_isMeet : GoodIn wsX11_move (wsV RX11 210 RX11 yX11_isMeet wsX11_isMeet) := goodIn_app (goodIn_of _ (by decide +kernel)) ggX11_move_X11_isMeet
set_option maxRecDepth 20000 in
theorem ggX11_move_X3_whyNotMove : GoodIn wsX11_move wsX3_whyNotMove := goodIn_r _ [16, 17, 18, 19, 20, 21, 15, 22, 23, 24, 25, 8, 26, 71, 72, 73, 74, 75, 76, 77, 78, 79, 80, 81, 82, 83, 84, 85, 86, 87, 88, 89, 90, 91, 92, 93, 94, 95] (by decide +kernel) (by decide +kernel)
set_option maxRecDepth 20000 in
theorem gX11_move_X3_whyNotMove : GoodIn wsX11_move (wsV RX11 260 RX3 yX3_whyNotMove wsX3_whyNotMove) := goodIn_app (goodIn_of _ (by decide +kernel)) ggX11_move_X3_whyNotMove
set_option maxRecDepth 20000 in
theorem ggX11_move_X4_keep : GoodIn wsX11_move wsX4_keep := goodIn_r _ [31, 32, 33, 34, 35, 36, 37, 38, 39, 40, 41, 15, 42, 18, 43, 44, 45, 46, 47, 48, 49, 50, 51, 52, 17, 53, 96, 97, 98, 71, 72, 73, 74, 75, 76, 77, 78, 79, 80] (by decide +kernel) (by decide +kernel)
set_option maxRecDepth 20000 in
theorem gX11_move_X4_keep : GoodIn wsX11_move (wsV RX11 240 RX4 yX4_keep wsX4_keep) := goodIn_app (goodIn_of _ (by decide +kernel)) ggX11_move_X4_keep
theorem dX11_move_0 : decode cX11_move 0 = .ok (.aload_n 0, 1) := by decide +kernel
theorem dX11_move_1 : decode cX11_move 1 = .ok (.iload_n 1, 1) := by decide +kernel
theorem dX11_move_2 : decode cX11_move 2 = .ok (.invokevirtual 210, 3) := by decide +kernel
theorem dX11_move_5 : decode cX11_move 5 = .ok (.ifCond .eq 14, 3) := by decide +kernel
theorem dX11_move_8 : decode cX11_move 8 = .ok (.iload_n 2, 1) := by decide +kernel
theorem dX11_move_9 : decode cX11_move 9 = .ok (.ifCond .lt 10, 3) := by decide +kernel
theorem dX11_move_12 : decode cX11_move 12 = .ok (.iload_n 2, 1) := by decide +kernel
theorem dX11_move_13 : decode cX11_move 13 = .ok (.sipush 2000, 3) := by decide +kernel
theorem dX11_move_16 : decode cX11_move 16 = .ok (.if_icmp .lt 5, 3) := by decide +kernel
theorem dX11_move_19 : decode cX11_move 19 = .ok (.iconst (-1), 1) := by decide +kernel
theorem dX11_move_20 : decode cX11_move 20 = .ok (.ireturn, 1) := by decide +kernel
theorem dX11_move_21 : decode cX11_move 21 = .ok (.aload_n 0, 1) := by decide +kernel
theorem dX11_move_22 : decode cX11_move 22 = .ok (.getfield 28, 3) := by decide +kernel
theorem dX11_move_25 : decode cX11_move 25 = .ok (.getfield 127, 3) := by decide +kernel
theorem dX11_move_28 : decode cX11_move 28 = .ok (.iload_n 1, 1) := by decide +kernel
theorem dX11_move_29 : decode cX11_move 29 = .ok (.iload_n 2, 1) := by decide +kernel
theorem dX11_move_30 : decode cX11_move 30 = .ok (.invokevirtual 260, 3) := by decide +kernel
theorem dX11_move_33 : decode cX11_move 33 = .ok (.istore_n 3, 1) := by decide +kernel
theorem dX11_move_34 : decode cX11_move 34 = .ok (.iload_n 3, 1) := by decide +kernel
theorem dX11_move_35 : decode cX11_move 35 = .ok (.ifCond .ne 30, 3) := by decide +kernel
theorem dX11_move_38 : decode cX11_move 38 = .ok (.aload_n 0, 1) := by decide +kernel
theorem dX11_move_39 : decode cX11_move 39 = .ok (.getfield 45, 3) := by decide +kernel
theorem dX11_move_42 : decode cX11_move 42 = .ok (.aload_n 0, 1) := by decide +kernel
theorem dX11_move_43 : decode cX11_move 43 = .ok (.getfield 28, 3) := by decide +kernel
theorem dX11_move_46 : decode cX11_move 46 = .ok (.getfield 127, 3) := by decide +kernel
theorem dX11_move_49 : decode cX11_move 49 = .ok (.invokevirtual 240, 3) := by decide +kernel
theorem dX11_move_52 : decode cX11_move 52 = .ok (.aload_n 0, 1) := by decide +kernel
theorem dX11_move_53 : decode cX11_move 53 = .ok (.getfield 28, 3) := by decide +kernel
theorem dX11_move_56 : decode cX11_move 56 = .ok (.getfield 127, 3) := by decide +kernel
theorem dX11_move_59 : decode cX11_move 59 = .ok (.getfield 213, 3) := by decide +kernel
theorem dX11_move_62 : decode cX11_move 62 = .ok (.iload_n 1, 1) := by decide +kernel
theorem dX11_move_63 : decode cX11_move 63 = .ok (.iload_n 2, 1) := by decide +kernel
theorem dX11_move_64 : decode cX11_move 64 = .ok (.iastore, 1) := by decide +kernel
theorem dX11_move_65 : decode cX11_move 65 = .ok (.iload_n 3, 1) := by decide +kernel
theorem dX11_move_66 : decode cX11_move 66 = .ok (.ireturn, 1) := by decide +kernel
set_option maxRecDepth 20000 in
theorem ggX11_minutes_X3_minutesLeft : GoodIn wsX11_minutes wsX3_minutesLeft := goodIn_r _ [8, 9, 110, 111, 112, 113, 114, 115, 116, 117, 118, 119] (by decide +kernel) (by decide +kernel)
set_option maxRecDepth 20000 in
theorem gX11_minutes_X3_minutesLeft : GoodIn wsX11_minutes (wsV RX11 263 RX3 yX3_minutesLeft wsX3_minutesLeft) := goodIn_app (goodIn_of _ (by decide +kernel)) ggX11_minutes_X3_minutesLeft
set_option maxRecDepth 20000 in
theorem ggX11_minutes_X4_keep : GoodIn wsX11_minutes wsX4_keep := goodIn_r _ [14, 15, 16, 17, 18, 19, 20, 21, 22, 23, 24, 7, 25, 9, 26, 27, 28, 29, 30, 31, 32, 33, 34, 35, 36, 37, 120, 121, 122, 110, 111, 112, 113, 114, 115, 116, 117, 118, 119] (by decide +kernel) (by decide +kernel)
set_option maxRecDepth 20000 in
theorem gX11_minutes_X4_keep : GoodIn wsX11_minutes (wsV RX11 240 RX4 yX4_keep wsX4_keep) := goodIn_app (goodIn_of _ (by decide +kernel)) ggX11_minutes_X4_keep
set_option maxRecDepth 20000 in
theorem ggX11_minutes_X3_pass : GoodIn wsX11_minutes wsX3_pass := goodIn_r _ [41, 42, 19, 20, 21, 9, 43, 44, 45, 46, 5, 6, 7, 8, 47, 48, 49, 50, 51, 52, 53, 54, 55, 56, 57, 58, 59, 60, 61, 62, 63, 64, 65, 66, 37, 36, 67, 68, 35, 69, 33, 70, 71, 72, 73, 74, 75, 26, 76, 77, 78, 79, 34, 28, 80, 81, 82, 83, 84, 27, 85, 86, 87, 88, 89, 90, 91, 92, 110, 111, 112, 113, 114, 115, 116, 117, 118, 119, 123, 124, 125, 126, 127, 128, 129, 130, 131, 132, 133, 134, 135, 136, 137] (by decide +kernel) (by decide +kernel)
set_option maxRecDepth 20000 in
theorem gX11_minutes_X3_pass : GoodIn wsX11_minutes (wsV RX11 266 RX3 yX3_pass wsX3_pass) := goodIn_app (goodIn_of _ (by decide +kernel)) ggX11_minutes_X3_pass
theorem dX11_minutes_0 : decode cX11_minutes 0 = .ok (.iload_n 1, 1) := by decide +kernel
theorem dX11_minutes_1 : decode cX11_minutes 1 = .ok (.iconst 1, 1) := by decide +kernel
theorem dX11_minutes_2 : decode cX11_minutes 2 = .ok (.if_icmp .lt 10, 3) := by decide +kernel
theorem dX11_minutes_5 : decode cX11_minutes 5 = .ok (.iload_n 1, 1) := by decide +kernel
theorem dX11_minutes_6 : decode cX11_minutes 6 = .ok (.sipush 999, 3) := by decide +kernel
theorem dX11_minutes_9 : decode cX11_minutes 9 = .ok (.if_icmp .le 5, 3) := by decide +kernel
theorem dX11_minutes_12 : decode cX11_minutes 12 = .ok (.iconst (-1), 1) := by decide +kernel
theorem dX11_minutes_13 : decode cX11_minutes 13 = .ok (.ireturn, 1) := by decide +kernel
theorem dX11_minutes_14 : decode cX11_minutes 14 = .ok (.aload_n 0, 1) := by decide +kernel
theorem dX11_minutes_15 : decode cX11_minutes 15 = .ok (.getfield 28, 3) := by decide +kernel
theorem dX11_minutes_18 : decode cX11_minutes 18 = .ok (.getfield 127, 3) := by decide +kernel
theorem dX11_minutes_21 : decode cX11_minutes 21 = .ok (.invokevirtual 263, 3) := by decide +kernel
theorem dX11_minutes_24 : decode cX11_minutes 24 = .ok (.ifCond .le 17, 3) := by decide +kernel
theorem dX11_minutes_27 : decode cX11_minutes 27 = .ok (.aload_n 0, 1) := by decide +kernel
theorem dX11_minutes_28 : decode cX11_minutes 28 = .ok (.getfield 45, 3) := by decide +kernel
theorem dX11_minutes_31 : decode cX11_minutes 31 = .ok (.aload_n 0, 1) := by decide +kernel
theorem dX11_minutes_32 : decode cX11_minutes 32 = .ok (.getfield 28, 3) := by decide +kernel
theorem dX11_minutes_35 : decode cX11_minutes 35 = .ok (.getfield 127, 3) := by decide +kernel
theorem dX11_minutes_38 : decode cX11_minutes 38 = .ok (.invokevirtual 240, 3) := by decide +kernel
theorem dX11_minutes_41 : decode cX11_minutes 41 = .ok (.aload_n 0, 1) := by decide +kernel
theorem dX11_minutes_42 : decode cX11_minutes 42 = .ok (.getfield 28, 3) := by decide +kernel
theorem dX11_minutes_45 : decode cX11_minutes 45 = .ok (.getfield 127, 3) := by decide +kernel
theorem dX11_minutes_48 : decode cX11_minutes 48 = .ok (.iload_n 1, 1) := by decide +kernel
theorem dX11_minutes_49 : decode cX11_minutes 49 = .ok (.invokevirtual 266, 3) := by decide +kernel
theorem dX11_minutes_52 : decode cX11_minutes 52 = .ok (.ireturn, 1) := by decide +kernel
set_option maxRecDepth 20000 in
theorem ggX11_undo_X4_takeBack : GoodIn wsX11_undo wsX4_takeBack := goodIn_r _ [8, 9, 10, 11, 12, 13, 14, 15, 16, 17, 18, 19, 20, 21, 22, 23, 24, 25, 26, 27, 28, 29, 47, 48, 49, 50, 51, 52, 53, 54, 55, 56, 57, 58, 59] (by decide +kernel) (by decide +kernel)
set_option maxRecDepth 20000 in
theorem gX11_undo_X4_takeBack : GoodIn wsX11_undo (wsV RX11 269 RX4 yX4_takeBack wsX4_takeBack) := goodIn_app (goodIn_of _ (by decide +kernel)) ggX11_undo_X4_takeBack
theorem dX11_undo_0 : decode cX11_undo 0 = .ok (.aload_n 0, 1) := by decide +kernel
theorem dX11_undo_1 : decode cX11_undo 1 = .ok (.getfield 45, 3) := by decide +kernel
theorem dX11_undo_4 : decode cX11_undo 4 = .ok (.aload_n 0, 1) := by decide +kernel
theorem dX11_undo_5 : decode cX11_undo 5 = .ok (.getfield 28, 3) := by decide +kernel
theorem dX11_undo_8 : decode cX11_undo 8 = .ok (.getfield 127, 3) := by decide +kernel
theorem dX11_undo_11 : decode cX11_undo 11 = .ok (.invokevirtual 269, 3) := by decide +kernel
theorem dX11_undo_14 : decode cX11_undo 14 = .ok (.ireturn, 1) := by decide +kernel
set_option maxRecDepth 20000 in
theorem ggX11_comes_X11_isMaster : GoodIn wsX11_comes wsX11_isMaster := goodIn_r _ [7, 8, 9, 10, 100, 101, 102, 103, 104, 105, 106, 107, 108, 109, 110, 111, 112, 123, 124, 125, 126, 127, 128, 129, 130, 131, 132, 133, 134, 135, 136, 137, 138, 139, 140, 141] (by decide +kernel) (by decide +kernel)
set_option maxRecDepth 20000 in
theorem gX11_comes_X11_isMaster : GoodIn wsX11_comes (wsV RX11 180 RX11 yX11_isMaster wsX11_isMaster) := goodIn_app (goodIn_of _ (by decide +kernel)) ggX11_comes_X11_isMaster
set_option maxRecDepth 20000 in
theorem ggX11_comes_X11_isMeet : GoodIn wsX11_comes wsX11_isMeet := goodIn_r _ [14, 8, 9, 15, 100, 101, 102, 103, 104, 105, 106, 107, 108, 109, 110, 111, 112, 123, 124, 125, 126, 127, 128, 129, 130, 131, 132, 133, 134, 135, 136, 137, 138, 139, 140, 141] (by decide +kernel) (by decide +kernel)
set_option maxRecDepth 20000 in
theorem gX11_comes_X11_isMeet : GoodIn wsX11_comes (wsV RX11 210 RX11 yX11_isMeet wsX11_isMeet) := goodIn_app (goodIn_of _ (by decide +kernel)) ggX11_comes_X11_isMeet
set_option maxRecDepth 20000 in
theorem ggX11_comes_X11_foresee : GoodIn wsX11_comes wsX11_foresee := goodIn_r _ [19, 1, 8, 20, 21, 22, 23, 24, 25, 26, 27, 28, 29, 30, 31, 32, 33, 34, 35, 36, 37, 38, 39, 40, 41, 42, 43, 44, 45, 46, 47, 48, 49, 50, 51, 52, 53, 54, 55, 56, 57, 58, 59, 60, 61, 62, 63, 64, 65, 66, 67, 6, 68, 69, 70, 71, 72, 73, 74, 75, 76, 77, 78, 79, 80, 81, 82, 83, 84, 85, 86, 87, 88, 89, 90, 91, 92, 93, 94, 95, 96, 97, 98, 100, 101, 102, 103, 104, 105, 106, 107, 108, 109, 110, 111, 112, 123, 124, 125, 126, 113, 114, 115, 116, 117, 118, 119, 120, 121, 122, 127, 128, 129, 130, 131, 132, 133, 134, 135, 136, 137, 138, 139, 140, 141] (by decide +kernel) (by decide +kernel)
set_option maxRecDepth 20000 in
theorem gX11_comes_X11_foresee : GoodIn wsX11_comes (wsV RX11 273 RX11 yX11_foresee wsX11_foresee) := goodIn_app (goodIn_of _ (by decide +kernel)) ggX11_comes_X11_foresee
set_option maxRecDepth 20000 in
theorem ggX11_comes_X11_slot : GoodIn wsX11_comes wsX11_slot := goodIn_r _ [77] (by decide +kernel) (by decide +kernel)
set_option maxRecDepth 20000 in
theorem gX11_comes_X11_slot : GoodIn wsX11_comes (va_wsS RX11 276 yX11_slot wsX11_slot) := goodIn_app (goodIn_of _ (by decide +kernel)) ggX11_comes_X11_slot
theorem dX11_comes_0 : decode cX11_comes 0 = .ok (.aload_n 0, 1) := by decide +kernel
theorem dX11_comes_1 : decode cX11_comes 1 = .ok (.iload_n 1, 1) := by decide +kernel
theorem dX11_comes_2 : decode cX11_comes 2 = .ok (.invokevirtual 180, 3) := by decide +kernel
theorem dX11_comes_5 : decode cX11_comes 5 = .ok (.ifCond .eq 11, 3) := by decide +kernel
theorem dX11_comes_8 : decode cX11_comes 8 = .ok (.aload_n 0, 1) := by decide +kernel
theorem dX11_comes_9 : decode cX11_comes 9 = .ok (.iload_n 2, 1) := by decide +kernel
theorem dX11_comes_10 : decode cX11_comes 10 = .ok (.invokevirtual 210, 3) := by decide +kernel
theorem dX11_comes_13 : decode cX11_comes 13 = .ok (.ifCond .ne 5, 3) := by decide +kernel
theorem dX11_comes_16 : decode cX11_comes 16 = .ok (.iconst (-1), 1) := by decide +kernel
theorem dX11_comes_17 : decode cX11_comes 17 = .ok (.ireturn, 1) := by decide +kernel
theorem dX11_comes_18 : decode cX11_comes 18 = .ok (.aload_n 0, 1) := by decide +kernel
theorem dX11_comes_19 : decode cX11_comes 19 = .ok (.invokevirtual 273, 3) := by decide +kernel
theorem dX11_comes_22 : decode cX11_comes 22 = .ok (.aload_n 0, 1) := by decide +kernel
theorem dX11_comes_23 : decode cX11_comes 23 = .ok (.getfield 52, 3) := by decide +kernel
theorem dX11_comes_26 : decode cX11_comes 26 = .ok (.getfield 207, 3) := by decide +kernel
theorem dX11_comes_29 : decode cX11_comes 29 = .ok (.iload_n 1, 1) := by decide +kernel
theorem dX11_comes_30 : decode cX11_comes 30 = .ok (.iload_n 2, 1) := by decide +kernel
theorem dX11_comes_31 : decode cX11_comes 31 = .ok (.invokestatic 276, 3) := by decide +kernel
theorem dX11_comes_34 : decode cX11_comes 34 = .ok (.iaload, 1) := by decide +kernel
theorem dX11_comes_35 : decode cX11_comes 35 = .ok (.ireturn, 1) := by decide +kernel
set_option maxRecDepth 20000 in
theorem ggX11_all_X11_isMeet : GoodIn wsX11_all wsX11_isMeet := goodIn_r _ [6, 7, 8, 9, 97, 98, 99, 100, 101, 102, 103, 104, 105, 106, 107, 108, 109, 110, 111, 112, 113, 114, 115, 116, 117, 118, 119, 120, 121, 122, 123, 124, 125, 126, 127, 128] (by decide +kernel) (by decide +kernel)
set_option maxRecDepth 20000 in
theorem gX11_all_X11_isMeet : GoodIn wsX11_all (wsV RX11 210 RX11 yX11_isMeet wsX11_isMeet) := goodIn_app (goodIn_of _ (by decide +kernel)) ggX11_all_X11_isMeet
set_option maxRecDepth 20000 in
theorem ggX11_all_X11_foresee : GoodIn wsX11_all wsX11_foresee := goodIn_r _ [13, 1, 7, 14, 15, 16, 17, 18, 19, 20, 21, 22, 23, 24, 25, 26, 27, 28, 29, 30, 31, 32, 33, 34, 35, 36, 37, 38, 39, 40, 41, 42, 43, 44, 45, 46, 47, 48, 49, 50, 51, 52, 53, 54, 55, 56, 57, 58, 59, 60, 61, 5, 62, 63, 64, 65, 66, 67, 68, 69, 70, 71, 72, 73, 74, 75, 76, 77, 78, 79, 80, 81, 82, 83, 84, 85, 86, 87, 88, 89, 90, 91, 92, 97, 98, 99, 100, 101, 102, 103, 104, 105, 106, 107, 108, 109, 110, 111, 112, 113, 129, 130, 131, 132, 133, 134, 135, 136, 137, 138, 114, 115, 116, 117, 118, 119, 120, 121, 122, 123, 124, 125, 126, 127, 128] (by decide +kernel) (by decide +kernel)
set_option maxRecDepth 20000 in
theorem gX11_all_X11_foresee : GoodIn wsX11_all (wsV RX11 273 RX11 yX11_foresee wsX11_foresee) := goodIn_app (goodIn_of _ (by decide +kernel)) ggX11_all_X11_foresee
set_option maxRecDepth 20000 in
theorem ggX11_all_X3_lastComes : GoodIn wsX11_all wsX3_lastComes := goodIn_r _ [96, 52, 53, 32, 41, 42, 39, 43, 55, 56, 57, 58, 59, 60, 61, 5, 62, 70, 71, 129, 130, 131, 132, 133, 134, 135, 136, 137, 138, 114, 115, 116, 117, 118, 119, 120, 121, 122, 123, 124, 125, 126, 127, 128] (by decide +kernel) (by decide +kernel)
set_option maxRecDepth 20000 in
theorem gX11_all_X3_lastComes : GoodIn wsX11_all (wsV RX11 279 RX3 yX3_lastComes wsX3_lastComes) := goodIn_app (goodIn_of _ (by decide +kernel)) ggX11_all_X3_lastComes
theorem dX11_all_0 : decode cX11_all 0 = .ok (.aload_n 0, 1) := by decide +kernel
theorem dX11_all_1 : decode cX11_all 1 = .ok (.iload_n 1, 1) := by decide +kernel
theorem dX11_all_2 : decode cX11_all 2 = .ok (.invokevirtual 210, 3) := by decide +kernel
theorem dX11_all_5 : decode cX11_all 5 = .ok (.ifCond .ne 5, 3) := by decide +kernel
theorem dX11_all_8 : decode cX11_all 8 = .ok (.iconst (-1), 1) := by decide +kernel
theorem dX11_all_9 : decode cX11_all 9 = .ok (.ireturn, 1) := by decide +kernel
theorem dX11_all_10 : decode cX11_all 10 = .ok (.aload_n 0, 1) := by decide +kernel
theorem dX11_all_11 : decode cX11_all 11 = .ok (.invokevirtual 273, 3) := by decide +kernel
theorem dX11_all_14 : decode cX11_all 14 = .ok (.aload_n 0, 1) := by decide +kernel
theorem dX11_all_15 : decode cX11_all 15 = .ok (.getfield 52, 3) := by decide +kernel
theorem dX11_all_18 : decode cX11_all 18 = .ok (.iload_n 1, 1) := by decide +kernel
theorem dX11_all_19 : decode cX11_all 19 = .ok (.invokevirtual 279, 3) := by decide +kernel
theorem dX11_all_22 : decode cX11_all 22 = .ok (.ireturn, 1) := by decide +kernel
set_option maxRecDepth 20000 in
theorem ggX11_missed_X11_isMeet : GoodIn wsX11_missed wsX11_isMeet := goodIn_r _ [10, 1, 2, 11, 105, 106, 107, 108, 109, 110, 111, 112, 113, 114, 115, 116, 117, 118, 119, 120, 121, 132, 133, 134, 135, 136, 137, 138, 139, 140, 141, 142, 143, 144, 145, 146] (by decide +kernel) (by decide +kernel)
set_option maxRecDepth 20000 in
theorem gX11_missed_X11_isMeet : GoodIn wsX11_missed (wsV RX11 210 RX11 yX11_isMeet wsX11_isMeet) := goodIn_app (goodIn_of _ (by decide +kernel)) ggX11_missed_X11_isMeet
set_option maxRecDepth 20000 in
theorem ggX11_missed_X11_foresee : GoodIn wsX11_missed wsX11_foresee := goodIn_r _ [15, 3, 1, 16, 17, 18, 19, 20, 21, 22, 23, 24, 25, 26, 27, 28, 29, 30, 31, 32, 33, 34, 35, 36, 37, 38, 39, 40, 41, 42, 43, 44, 45, 46, 47, 48, 49, 50, 51, 52, 53, 54, 55, 56, 57, 58, 59, 60, 61, 62, 63, 9, 64, 65, 66, 67, 68, 69, 70, 71, 72, 73, 74, 75, 76, 77, 78, 79, 80, 81, 82, 83, 84, 85, 86, 87, 88, 89, 90, 91, 92, 93, 94, 105, 106, 107, 108, 109, 110, 111, 112, 113, 114, 115, 116, 117, 118, 119, 120, 121, 122, 123, 124, 125, 126, 127, 128, 129, 130, 131, 132, 133, 134, 135, 136, 137, 138, 139, 140, 141, 142, 143, 144, 145, 146] (by decide +kernel) (by decide +kernel)
set_option maxRecDepth 20000 in
theorem gX11_missed_X11_foresee : GoodIn wsX11_missed (wsV RX11 273 RX11 yX11_foresee wsX11_foresee) := goodIn_app (goodIn_of _ (by decide +kernel)) ggX11_missed_X11_foresee
set_option maxRecDepth 20000 in
theorem ggX11_missed_X1_mastersTo : GoodIn wsX11_missed wsX1_mastersTo := goodIn_r _ [98, 99, 100, 58, 59, 60, 61, 62, 63, 9, 64, 132, 133, 134, 135, 136, 137, 138, 139, 140, 141, 142, 143, 144, 145, 146] (by decide +kernel) (by decide +kernel)
set_option maxRecDepth 20000 in
theorem gX11_missed_X1_mastersTo : GoodIn wsX11_missed (wsV RX11 216 RX1 yX1_mastersTo wsX1_mastersTo) := goodIn_app (goodIn_of _ (by decide +kernel)) ggX11_missed_X1_mastersTo
set_option maxRecDepth 20000 in
theorem ggX11_missed_X3_cameBy : GoodIn wsX11_missed wsX3_cameBy := goodIn_r _ [104, 54, 55, 34, 72, 9, 73, 122, 123, 124, 125, 126, 127, 128, 129, 130, 131, 132, 133, 134, 135, 136, 137, 138, 139, 140, 141, 142, 143, 144, 145, 146] (by decide +kernel) (by decide +kernel)
set_option maxRecDepth 20000 in
theorem gX11_missed_X3_cameBy : GoodIn wsX11_missed (wsV RX11 285 RX3 yX3_cameBy wsX3_cameBy) := goodIn_app (goodIn_of _ (by decide +kernel)) ggX11_missed_X3_cameBy
theorem dX11_missed_0 : decode cX11_missed 0 = .ok (.aload_n 0, 1) := by decide +kernel
theorem dX11_missed_1 : decode cX11_missed 1 = .ok (.iload_n 1, 1) := by decide +kernel
theorem dX11_missed_2 : decode cX11_missed 2 = .ok (.invokevirtual 210, 3) := by decide +kernel
theorem dX11_missed_5 : decode cX11_missed 5 = .ok (.ifCond .ne 5, 3) := by decide +kernel
theorem dX11_missed_8 : decode cX11_missed 8 = .ok (.iconst (-1), 1) := by decide +kernel
theorem dX11_missed_9 : decode cX11_missed 9 = .ok (.ireturn, 1) := by decide +kernel
theorem dX11_missed_10 : decode cX11_missed 10 = .ok (.aload_n 0, 1) := by decide +kernel
theorem dX11_missed_11 : decode cX11_missed 11 = .ok (.invokevirtual 273, 3) := by decide +kernel
theorem dX11_missed_14 : decode cX11_missed 14 = .ok (.aload_n 0, 1) := by decide +kernel
theorem dX11_missed_15 : decode cX11_missed 15 = .ok (.getfield 28, 3) := by decide +kernel
theorem dX11_missed_18 : decode cX11_missed 18 = .ok (.getfield 38, 3) := by decide +kernel
theorem dX11_missed_21 : decode cX11_missed 21 = .ok (.iload_n 1, 1) := by decide +kernel
theorem dX11_missed_22 : decode cX11_missed 22 = .ok (.invokevirtual 216, 3) := by decide +kernel
theorem dX11_missed_25 : decode cX11_missed 25 = .ok (.aload_n 0, 1) := by decide +kernel
theorem dX11_missed_26 : decode cX11_missed 26 = .ok (.getfield 52, 3) := by decide +kernel
theorem dX11_missed_29 : decode cX11_missed 29 = .ok (.iload_n 1, 1) := by decide +kernel
theorem dX11_missed_30 : decode cX11_missed 30 = .ok (.aload_n 0, 1) := by decide +kernel
theorem dX11_missed_31 : decode cX11_missed 31 = .ok (.getfield 52, 3) := by decide +kernel
theorem dX11_missed_34 : decode cX11_missed 34 = .ok (.getfield 213, 3) := by decide +kernel
theorem dX11_missed_37 : decode cX11_missed 37 = .ok (.iload_n 1, 1) := by decide +kernel
theorem dX11_missed_38 : decode cX11_missed 38 = .ok (.iaload, 1) := by decide +kernel
theorem dX11_missed_39 : decode cX11_missed 39 = .ok (.aload_n 0, 1) := by decide +kernel
theorem dX11_missed_40 : decode cX11_missed 40 = .ok (.getfield 28, 3) := by decide +kernel
theorem dX11_missed_43 : decode cX11_missed 43 = .ok (.getfield 38, 3) := by decide +kernel
theorem dX11_missed_46 : decode cX11_missed 46 = .ok (.getfield 282, 3) := by decide +kernel
theorem dX11_missed_49 : decode cX11_missed 49 = .ok (.iadd, 1) := by decide +kernel
theorem dX11_missed_50 : decode cX11_missed 50 = .ok (.invokevirtual 285, 3) := by decide +kernel
theorem dX11_missed_53 : decode cX11_missed 53 = .ok (.iconst (-1), 1) := by decide +kernel
theorem dX11_missed_54 : decode cX11_missed 54 = .ok (.ixor, 1) := by decide +kernel
theorem dX11_missed_55 : decode cX11_missed 55 = .ok (.iand, 1) := by decide +kernel
theorem dX11_missed_56 : decode cX11_missed 56 = .ok (.ireturn, 1) := by decide +kernel
set_option maxRecDepth 20000 in
theorem ggX11_caught_X11_isMeet : GoodIn wsX11_caught wsX11_isMeet := goodIn_r _ [7, 8, 9, 10, 98, 99, 100, 101, 102, 103, 104, 105, 106, 107, 108, 109, 110, 121, 122, 123, 124, 125, 126, 127, 128, 129, 130, 131, 132, 133, 134, 135, 136, 137, 138, 139] (by decide +kernel) (by decide +kernel)
set_option maxRecDepth 20000 in
theorem gX11_caught_X11_isMeet : GoodIn wsX11_caught (wsV RX11 210 RX11 yX11_isMeet wsX11_isMeet) := goodIn_app (goodIn_of _ (by decide +kernel)) ggX11_caught_X11_isMeet
set_option maxRecDepth 20000 in
theorem ggX11_caught_X11_foresee : GoodIn wsX11_caught wsX11_foresee := goodIn_r _ [14, 1, 8, 15, 16, 17, 18, 19, 20, 21, 22, 23, 24, 25, 26, 27, 28, 29, 30, 31, 32, 33, 34, 35, 36, 37, 38, 39, 40, 41, 42, 43, 44, 45, 46, 47, 48, 49, 50, 51, 52, 53, 54, 55, 56, 57, 58, 59, 60, 61, 62, 6, 63, 64, 65, 66, 67, 68, 69, 70, 71, 72, 73, 74, 75, 76, 77, 78, 79, 80, 81, 82, 83, 84, 85, 86, 87, 88, 89, 90, 91, 92, 93, 98, 99, 100, 101, 102, 103, 104, 105, 106, 107, 108, 109, 110, 121, 122, 123, 124, 111, 112, 113, 114, 115, 116, 117, 118, 119, 120, 125, 126, 127, 128, 129, 130, 131, 132, 133, 134, 135, 136, 137, 138, 139] (by decide +kernel) (by decide +kernel)
set_option maxRecDepth 20000 in
theorem gX11_caught_X11_foresee : GoodIn wsX11_caught (wsV RX11 273 RX11 yX11_foresee wsX11_foresee) := goodIn_app (goodIn_of _ (by decide +kernel)) ggX11_caught_X11_foresee
set_option maxRecDepth 20000 in
theorem ggX11_caught_X3_cameBy : GoodIn wsX11_caught wsX3_cameBy := goodIn_r _ [97, 53, 54, 33, 71, 6, 72, 111, 112, 113, 114, 115, 116, 117, 118, 119, 120, 125, 126, 127, 128, 129, 130, 131, 132, 133, 134, 135, 136, 137, 138, 139] (by decide +kernel) (by decide +kernel)
set_option maxRecDepth 20000 in
theorem gX11_caught_X3_cameBy : GoodIn wsX11_caught (wsV RX11 285 RX3 yX3_cameBy wsX3_cameBy) := goodIn_app (goodIn_of _ (by decide +kernel)) ggX11_caught_X3_cameBy
theorem dX11_caught_0 : decode cX11_caught 0 = .ok (.aload_n 0, 1) := by decide +kernel
theorem dX11_caught_1 : decode cX11_caught 1 = .ok (.iload_n 1, 1) := by decide +kernel
theorem dX11_caught_2 : decode cX11_caught 2 = .ok (.invokevirtual 210, 3) := by decide +kernel
theorem dX11_caught_5 : decode cX11_caught 5 = .ok (.ifCond .ne 5, 3) := by decide +kernel
theorem dX11_caught_8 : decode cX11_caught 8 = .ok (.iconst (-1), 1) := by decide +kernel
theorem dX11_caught_9 : decode cX11_caught 9 = .ok (.ireturn, 1) := by decide +kernel
theorem dX11_caught_10 : decode cX11_caught 10 = .ok (.aload_n 0, 1) := by decide +kernel
theorem dX11_caught_11 : decode cX11_caught 11 = .ok (.invokevirtual 273, 3) := by decide +kernel
theorem dX11_caught_14 : decode cX11_caught 14 = .ok (.aload_n 0, 1) := by decide +kernel
theorem dX11_caught_15 : decode cX11_caught 15 = .ok (.getfield 52, 3) := by decide +kernel
theorem dX11_caught_18 : decode cX11_caught 18 = .ok (.iload_n 1, 1) := by decide +kernel
theorem dX11_caught_19 : decode cX11_caught 19 = .ok (.aload_n 0, 1) := by decide +kernel
theorem dX11_caught_20 : decode cX11_caught 20 = .ok (.getfield 52, 3) := by decide +kernel
theorem dX11_caught_23 : decode cX11_caught 23 = .ok (.getfield 213, 3) := by decide +kernel
theorem dX11_caught_26 : decode cX11_caught 26 = .ok (.iload_n 1, 1) := by decide +kernel
theorem dX11_caught_27 : decode cX11_caught 27 = .ok (.iaload, 1) := by decide +kernel
theorem dX11_caught_28 : decode cX11_caught 28 = .ok (.invokevirtual 285, 3) := by decide +kernel
theorem dX11_caught_31 : decode cX11_caught 31 = .ok (.ireturn, 1) := by decide +kernel
set_option maxRecDepth 20000 in
theorem ggX11_plan_X11_isMeet : GoodIn wsX11_plan wsX11_isMeet := goodIn_r _ [10, 1, 2, 11, 110, 111, 112, 113, 114, 115, 116, 117, 118, 119, 120, 121, 122, 123, 124, 125, 126, 137, 138, 139, 140, 141, 142, 143, 144, 145, 146, 147, 148, 149, 150, 151] (by decide +kernel) (by decide +kernel)
set_option maxRecDepth 20000 in
theorem gX11_plan_X11_isMeet : GoodIn wsX11_plan (wsV RX11 210 RX11 yX11_isMeet wsX11_isMeet) := goodIn_app (goodIn_of _ (by decide +kernel)) ggX11_plan_X11_isMeet
set_option maxRecDepth 20000 in
theorem ggX11_plan_X1_mastersTo : GoodIn wsX11_plan wsX1_mastersTo := goodIn_r _ [16, 17, 18, 19, 20, 15, 21, 22, 23, 9, 24, 137, 138, 139, 140, 141, 142, 143, 144, 145, 146, 147, 148, 149, 150, 151] (by decide +kernel) (by decide +kernel)
set_option maxRecDepth 20000 in
theorem gX11_plan_X1_mastersTo : GoodIn wsX11_plan (wsV RX11 216 RX1 yX1_mastersTo wsX1_mastersTo) := goodIn_app (goodIn_of _ (by decide +kernel)) ggX11_plan_X1_mastersTo
set_option maxRecDepth 20000 in
theorem ggX11_plan_X3_mastersIn : GoodIn wsX11_plan wsX3_mastersIn := goodIn_r _ [29, 30, 31, 32, 9, 33, 127, 128, 129, 130, 131, 132, 133, 134, 135, 136, 137, 138, 139, 140, 141, 142, 143, 144, 145, 146, 147, 148, 149, 150, 151] (by decide +kernel) (by decide +kernel)
set_option maxRecDepth 20000 in
theorem gX11_plan_X3_mastersIn : GoodIn wsX11_plan (wsV RX11 219 RX3 yX3_mastersIn wsX3_mastersIn) := goodIn_app (goodIn_of _ (by decide +kernel)) ggX11_plan_X3_mastersIn
set_option maxRecDepth 20000 in
theorem ggX11_plan_X11_allWouldCome : GoodIn wsX11_plan wsX11_allWouldCome := goodIn_r _ [37, 38, 1, 3, 39, 40, 41, 42, 28, 43, 44, 45, 46, 47, 48, 49, 50, 51, 52, 53, 54, 55, 56, 57, 58, 59, 60, 61, 62, 63, 64, 65, 66, 67, 68, 69, 70, 71, 72, 73, 74, 75, 30, 31, 76, 77, 19, 20, 15, 21, 22, 23, 9, 24, 78, 79, 80, 81, 82, 83, 84, 32, 33, 85, 86, 87, 88, 89, 90, 91, 92, 93, 94, 95, 96, 97, 98, 99, 100, 101, 102, 103, 104, 105, 106, 107, 108, 109, 110, 111, 112, 113, 114, 115, 116, 117, 118, 119, 120, 121, 122, 123, 124, 125, 126, 127, 128, 129, 130, 131, 132, 133, 134, 135, 136, 137, 138, 139, 140, 141, 142, 143, 144, 145, 146, 147, 148, 149, 150, 151] (by decide +kernel) (by decide +kernel)
set_option maxRecDepth 20000 in
theorem gX11_plan_X11_allWouldCome : GoodIn wsX11_plan (wsV RX11 288 RX11 yX11_allWouldCome wsX11_allWouldCome) := goodIn_app (goodIn_of _ (by decide +kernel)) ggX11_plan_X11_allWouldCome
theorem dX11_plan_0 : decode cX11_plan 0 = .ok (.aload_n 0, 1) := by decide +kernel
theorem dX11_plan_1 : decode cX11_plan 1 = .ok (.iload_n 1, 1) := by decide +kernel
theorem dX11_plan_2 : decode cX11_plan 2 = .ok (.invokevirtual 210, 3) := by decide +kernel
theorem dX11_plan_5 : decode cX11_plan 5 = .ok (.ifCond .eq 14, 3) := by decide +kernel
theorem dX11_plan_8 : decode cX11_plan 8 = .ok (.iload_n 2, 1) := by decide +kernel
theorem dX11_plan_9 : decode cX11_plan 9 = .ok (.ifCond .lt 10, 3) := by decide +kernel
theorem dX11_plan_12 : decode cX11_plan 12 = .ok (.iload_n 2, 1) := by decide +kernel
theorem dX11_plan_13 : decode cX11_plan 13 = .ok (.sipush 240, 3) := by decide +kernel
theorem dX11_plan_16 : decode cX11_plan 16 = .ok (.if_icmp .le 5, 3) := by decide +kernel
theorem dX11_plan_19 : decode cX11_plan 19 = .ok (.iconst (-1), 1) := by decide +kernel
theorem dX11_plan_20 : decode cX11_plan 20 = .ok (.ireturn, 1) := by decide +kernel
theorem dX11_plan_21 : decode cX11_plan 21 = .ok (.aload_n 0, 1) := by decide +kernel
theorem dX11_plan_22 : decode cX11_plan 22 = .ok (.getfield 28, 3) := by decide +kernel
theorem dX11_plan_25 : decode cX11_plan 25 = .ok (.getfield 38, 3) := by decide +kernel
theorem dX11_plan_28 : decode cX11_plan 28 = .ok (.iload_n 1, 1) := by decide +kernel
theorem dX11_plan_29 : decode cX11_plan 29 = .ok (.invokevirtual 216, 3) := by decide +kernel
theorem dX11_plan_32 : decode cX11_plan 32 = .ok (.ifCond .eq 27, 3) := by decide +kernel
theorem dX11_plan_35 : decode cX11_plan 35 = .ok (.aload_n 0, 1) := by decide +kernel
theorem dX11_plan_36 : decode cX11_plan 36 = .ok (.getfield 28, 3) := by decide +kernel
theorem dX11_plan_39 : decode cX11_plan 39 = .ok (.getfield 127, 3) := by decide +kernel
theorem dX11_plan_42 : decode cX11_plan 42 = .ok (.aload_n 0, 1) := by decide +kernel
theorem dX11_plan_43 : decode cX11_plan 43 = .ok (.getfield 28, 3) := by decide +kernel
theorem dX11_plan_46 : decode cX11_plan 46 = .ok (.getfield 127, 3) := by decide +kernel
theorem dX11_plan_49 : decode cX11_plan 49 = .ok (.getfield 200, 3) := by decide +kernel
theorem dX11_plan_52 : decode cX11_plan 52 = .ok (.iload_n 1, 1) := by decide +kernel
theorem dX11_plan_53 : decode cX11_plan 53 = .ok (.invokevirtual 219, 3) := by decide +kernel
theorem dX11_plan_56 : decode cX11_plan 56 = .ok (.ifCond .eq 5, 3) := by decide +kernel
theorem dX11_plan_59 : decode cX11_plan 59 = .ok (.iconst (-1), 1) := by decide +kernel
theorem dX11_plan_60 : decode cX11_plan 60 = .ok (.ireturn, 1) := by decide +kernel
theorem dX11_plan_61 : decode cX11_plan 61 = .ok (.iconst (-1), 1) := by decide +kernel
theorem dX11_plan_62 : decode cX11_plan 62 = .ok (.istore_n 3, 1) := by decide +kernel
theorem dX11_plan_63 : decode cX11_plan 63 = .ok (.aload_n 0, 1) := by decide +kernel
theorem dX11_plan_64 : decode cX11_plan 64 = .ok (.getfield 28, 3) := by decide +kernel
theorem dX11_plan_67 : decode cX11_plan 67 = .ok (.getfield 127, 3) := by decide +kernel
theorem dX11_plan_70 : decode cX11_plan 70 = .ok (.getfield 159, 3) := by decide +kernel
theorem dX11_plan_73 : decode cX11_plan 73 = .ok (.iconst 1, 1) := by decide +kernel
theorem dX11_plan_74 : decode cX11_plan 74 = .ok (.iadd, 1) := by decide +kernel
theorem dX11_plan_75 : decode cX11_plan 75 = .ok (.istore 4, 2) := by decide +kernel
theorem dX11_plan_77 : decode cX11_plan 77 = .ok (.sipush 1999, 3) := by decide +kernel
theorem dX11_plan_80 : decode cX11_plan 80 = .ok (.istore 5, 2) := by decide +kernel
theorem dX11_plan_82 : decode cX11_plan 82 = .ok (.iconst 0, 1) := by decide +kernel
theorem dX11_plan_83 : decode cX11_plan 83 = .ok (.istore 6, 2) := by decide +kernel
theorem dX11_plan_85 : decode cX11_plan 85 = .ok (.iload 6, 2) := by decide +kernel
theorem dX11_plan_87 : decode cX11_plan 87 = .ok (.sipush 2000, 3) := by decide +kernel
theorem dX11_plan_90 : decode cX11_plan 90 = .ok (.if_icmp .ge 54, 3) := by decide +kernel
theorem dX11_plan_93 : decode cX11_plan 93 = .ok (.iload 4, 2) := by decide +kernel
theorem dX11_plan_95 : decode cX11_plan 95 = .ok (.iload 5, 2) := by decide +kernel
theorem dX11_plan_97 : decode cX11_plan 97 = .ok (.if_icmp .gt 47, 3) := by decide +kernel
theorem dX11_plan_100 : decode cX11_plan 100 = .ok (.iload 4, 2) := by decide +kernel
theorem dX11_plan_102 : decode cX11_plan 102 = .ok (.iload 5, 2) := by decide +kernel
theorem dX11_plan_104 : decode cX11_plan 104 = .ok (.iadd, 1) := by decide +kernel
theorem dX11_plan_105 : decode cX11_plan 105 = .ok (.iconst 2, 1) := by decide +kernel
theorem dX11_plan_106 : decode cX11_plan 106 = .ok (.idiv, 1) := by decide +kernel
theorem dX11_plan_107 : decode cX11_plan 107 = .ok (.istore 7, 2) := by decide +kernel
theorem dX11_plan_109 : decode cX11_plan 109 = .ok (.aload_n 0, 1) := by decide +kernel
theorem dX11_plan_110 : decode cX11_plan 110 = .ok (.iload_n 1, 1) := by decide +kernel
theorem dX11_plan_111 : decode cX11_plan 111 = .ok (.iload 7, 2) := by decide +kernel
theorem dX11_plan_113 : decode cX11_plan 113 = .ok (.iload_n 2, 1) := by decide +kernel
theorem dX11_plan_114 : decode cX11_plan 114 = .ok (.invokevirtual 288, 3) := by decide +kernel
theorem dX11_plan_117 : decode cX11_plan 117 = .ok (.ifCond .eq 15, 3) := by decide +kernel
theorem dX11_plan_120 : decode cX11_plan 120 = .ok (.iload 7, 2) := by decide +kernel
theorem dX11_plan_122 : decode cX11_plan 122 = .ok (.istore_n 3, 1) := by decide +kernel
theorem dX11_plan_123 : decode cX11_plan 123 = .ok (.iload 7, 2) := by decide +kernel
theorem dX11_plan_125 : decode cX11_plan 125 = .ok (.iconst 1, 1) := by decide +kernel
theorem dX11_plan_126 : decode cX11_plan 126 = .ok (.iadd, 1) := by decide +kernel
theorem dX11_plan_127 : decode cX11_plan 127 = .ok (.istore 4, 2) := by decide +kernel
theorem dX11_plan_129 : decode cX11_plan 129 = .ok (.goto 9, 3) := by decide +kernel
theorem dX11_plan_132 : decode cX11_plan 132 = .ok (.iload 7, 2) := by decide +kernel
theorem dX11_plan_134 : decode cX11_plan 134 = .ok (.iconst 1, 1) := by decide +kernel
theorem dX11_plan_135 : decode cX11_plan 135 = .ok (.isub, 1) := by decide +kernel
theorem dX11_plan_136 : decode cX11_plan 136 = .ok (.istore 5, 2) := by decide +kernel
theorem dX11_plan_138 : decode cX11_plan 138 = .ok (.iinc 6 1, 3) := by decide +kernel
theorem dX11_plan_141 : decode cX11_plan 141 = .ok (.goto (-56), 3) := by decide +kernel
theorem dX11_plan_144 : decode cX11_plan 144 = .ok (.iload_n 3, 1) := by decide +kernel
theorem dX11_plan_145 : decode cX11_plan 145 = .ok (.ireturn, 1) := by decide +kernel
set_option maxRecDepth 20000 in
theorem ggX11_time_X9_search : GoodIn wsX11_time wsX9_search := goodIn_r _ [10, 11, 12, 13, 14, 15, 16, 9, 17, 18, 19, 20, 21, 22, 23, 24, 25, 26, 27, 28, 29, 30, 31, 32, 33, 34, 35, 36, 37, 38, 39, 40, 41, 42, 43, 44, 45, 46, 47, 48, 49, 50, 51, 52, 53, 54, 55, 56, 57, 58, 59, 60, 61, 62, 63, 64, 65, 66, 67, 68, 69, 70, 90, 91, 92, 93, 94, 95, 96, 97, 98, 99, 100, 101, 102, 103, 88, 89, 104, 105, 106, 107, 108, 109, 110, 111, 112, 113, 114, 115, 116, 117, 118] (by decide +kernel) (by decide +kernel)
set_option maxRecDepth 20000 in
theorem gX11_time_X9_search : GoodIn wsX11_time (wsV RX11 292 RX9 yX9_search wsX9_search) := goodIn_app (goodIn_of _ (by decide +kernel)) ggX11_time_X9_search
theorem dX11_time_0 : decode cX11_time 0 = .ok (.aload_n 0, 1) := by decide +kernel
theorem dX11_time_1 : decode cX11_time 1 = .ok (.getfield 84, 3) := by decide +kernel
theorem dX11_time_4 : decode cX11_time 4 = .ok (.aload_n 0, 1) := by decide +kernel
theorem dX11_time_5 : decode cX11_time 5 = .ok (.getfield 28, 3) := by decide +kernel
theorem dX11_time_8 : decode cX11_time 8 = .ok (.getfield 127, 3) := by decide +kernel
theorem dX11_time_11 : decode cX11_time 11 = .ok (.aload_n 0, 1) := by decide +kernel
theorem dX11_time_12 : decode cX11_time 12 = .ok (.getfield 10, 3) := by decide +kernel
theorem dX11_time_15 : decode cX11_time 15 = .ok (.invokevirtual 292, 3) := by decide +kernel
theorem dX11_time_18 : decode cX11_time 18 = .ok (.istore_n 1, 1) := by decide +kernel
theorem dX11_time_19 : decode cX11_time 19 = .ok (.aload_n 0, 1) := by decide +kernel
theorem dX11_time_20 : decode cX11_time 20 = .ok (.getfield 10, 3) := by decide +kernel
theorem dX11_time_23 : decode cX11_time 23 = .ok (.iconst 0, 1) := by decide +kernel
theorem dX11_time_24 : decode cX11_time 24 = .ok (.putfield 102, 3) := by decide +kernel
theorem dX11_time_27 : decode cX11_time 27 = .ok (.iload_n 1, 1) := by decide +kernel
theorem dX11_time_28 : decode cX11_time 28 = .ok (.ireturn, 1) := by decide +kernel
theorem dX11_timeFirst_0 : decode cX11_timeFirst 0 = .ok (.aload_n 0, 1) := by decide +kernel
theorem dX11_timeFirst_1 : decode cX11_timeFirst 1 = .ok (.getfield 84, 3) := by decide +kernel
theorem dX11_timeFirst_4 : decode cX11_timeFirst 4 = .ok (.getfield 296, 3) := by decide +kernel
theorem dX11_timeFirst_7 : decode cX11_timeFirst 7 = .ok (.ireturn, 1) := by decide +kernel
theorem dX11_look_0 : decode cX11_look 0 = .ok (.aload_n 0, 1) := by decide +kernel
theorem dX11_look_1 : decode cX11_look 1 = .ok (.getfield 84, 3) := by decide +kernel
theorem dX11_look_4 : decode cX11_look 4 = .ok (.getfield 299, 3) := by decide +kernel
theorem dX11_look_7 : decode cX11_look 7 = .ok (.ireturn, 1) := by decide +kernel
set_option maxRecDepth 20000 in
theorem ggX11_alike_X3_showAlike : GoodIn wsX11_alike wsX3_showAlike := goodIn_r _ [10, 11, 12, 13, 14, 15, 9, 16, 17, 18, 19, 20, 21, 22, 23, 24, 25, 26, 27, 28, 29, 30, 31, 32, 33, 66, 67, 68, 69, 70, 71, 72, 73, 74, 75, 51, 52, 53, 54, 55, 56, 57, 58, 59, 60, 61, 62, 63, 64, 65] (by decide +kernel) (by decide +kernel)
set_option maxRecDepth 20000 in
theorem gX11_alike_X3_showAlike : GoodIn wsX11_alike (wsV RX11 305 RX3 yX3_showAlike wsX3_showAlike) := goodIn_app (goodIn_of _ (by decide +kernel)) ggX11_alike_X3_showAlike
theorem dX11_alike_0 : decode cX11_alike 0 = .ok (.aload_n 0, 1) := by decide +kernel
theorem dX11_alike_1 : decode cX11_alike 1 = .ok (.getfield 28, 3) := by decide +kernel
theorem dX11_alike_4 : decode cX11_alike 4 = .ok (.getfield 38, 3) := by decide +kernel
theorem dX11_alike_7 : decode cX11_alike 7 = .ok (.getfield 302, 3) := by decide +kernel
theorem dX11_alike_10 : decode cX11_alike 10 = .ok (.ifCond .ne 5, 3) := by decide +kernel
theorem dX11_alike_13 : decode cX11_alike 13 = .ok (.iconst (-1), 1) := by decide +kernel
theorem dX11_alike_14 : decode cX11_alike 14 = .ok (.ireturn, 1) := by decide +kernel
theorem dX11_alike_15 : decode cX11_alike 15 = .ok (.iconst 0, 1) := by decide +kernel
theorem dX11_alike_16 : decode cX11_alike 16 = .ok (.istore_n 1, 1) := by decide +kernel
theorem dX11_alike_17 : decode cX11_alike 17 = .ok (.iload_n 1, 1) := by decide +kernel
theorem dX11_alike_18 : decode cX11_alike 18 = .ok (.sipush 1440, 3) := by decide +kernel
theorem dX11_alike_21 : decode cX11_alike 21 = .ok (.if_icmp .ge 36, 3) := by decide +kernel
theorem dX11_alike_24 : decode cX11_alike 24 = .ok (.aload_n 0, 1) := by decide +kernel
theorem dX11_alike_25 : decode cX11_alike 25 = .ok (.getfield 28, 3) := by decide +kernel
theorem dX11_alike_28 : decode cX11_alike 28 = .ok (.getfield 127, 3) := by decide +kernel
theorem dX11_alike_31 : decode cX11_alike 31 = .ok (.aload_n 0, 1) := by decide +kernel
theorem dX11_alike_32 : decode cX11_alike 32 = .ok (.getfield 28, 3) := by decide +kernel
theorem dX11_alike_35 : decode cX11_alike 35 = .ok (.getfield 127, 3) := by decide +kernel
theorem dX11_alike_38 : decode cX11_alike 38 = .ok (.getfield 159, 3) := by decide +kernel
theorem dX11_alike_41 : decode cX11_alike 41 = .ok (.iload_n 1, 1) := by decide +kernel
theorem dX11_alike_42 : decode cX11_alike 42 = .ok (.iadd, 1) := by decide +kernel
theorem dX11_alike_43 : decode cX11_alike 43 = .ok (.invokevirtual 305, 3) := by decide +kernel
theorem dX11_alike_46 : decode cX11_alike 46 = .ok (.ifCond .eq 5, 3) := by decide +kernel
theorem dX11_alike_49 : decode cX11_alike 49 = .ok (.iload_n 1, 1) := by decide +kernel
theorem dX11_alike_50 : decode cX11_alike 50 = .ok (.ireturn, 1) := by decide +kernel
theorem dX11_alike_51 : decode cX11_alike 51 = .ok (.iinc 1 1, 3) := by decide +kernel
theorem dX11_alike_54 : decode cX11_alike 54 = .ok (.goto (-37), 3) := by decide +kernel
theorem dX11_alike_57 : decode cX11_alike 57 = .ok (.iconst (-1), 1) := by decide +kernel
theorem dX11_alike_58 : decode cX11_alike 58 = .ok (.ireturn, 1) := by decide +kernel
set_option maxRecDepth 20000 in
theorem ggX11_tend_X11_isMaster : GoodIn wsX11_tend wsX11_isMaster := goodIn_r _ [21, 1, 2, 22, 43, 44, 45, 46, 47, 48, 49, 50, 51, 52, 53, 54, 55, 56, 57, 58, 59, 60, 61, 62, 63, 64, 65, 66, 67, 68, 69, 70, 71, 72, 73, 74] (by decide +kernel) (by decide +kernel)
set_option maxRecDepth 20000 in
theorem gX11_tend_X11_isMaster : GoodIn wsX11_tend (wsV RX11 180 RX11 yX11_isMaster wsX11_isMaster) := goodIn_app (goodIn_of _ (by decide +kernel)) ggX11_tend_X11_isMaster
set_option maxRecDepth 20000 in
theorem ggX11_tend_X3_wrongBy : GoodIn wsX11_tend wsX3_wrongBy := goodIn_r _ [27, 28, 29, 30, 31, 26, 32, 33, 34, 35, 36, 37, 38, 39, 40, 41, 42, 75, 76, 77, 78, 79, 80, 81, 82, 83, 84, 60, 61, 62, 63, 64, 65, 66, 67, 68, 69, 70, 71, 72, 73, 74] (by decide +kernel) (by decide +kernel)
set_option maxRecDepth 20000 in
theorem gX11_tend_X3_wrongBy : GoodIn wsX11_tend (wsV RX11 177 RX3 yX3_wrongBy wsX3_wrongBy) := goodIn_app (goodIn_of _ (by decide +kernel)) ggX11_tend_X3_wrongBy
theorem dX11_tend_0 : decode cX11_tend 0 = .ok (.aload_n 0, 1) := by decide +kernel
theorem dX11_tend_1 : decode cX11_tend 1 = .ok (.iload_n 1, 1) := by decide +kernel
theorem dX11_tend_2 : decode cX11_tend 2 = .ok (.invokevirtual 180, 3) := by decide +kernel
theorem dX11_tend_5 : decode cX11_tend 5 = .ok (.ifCond .eq 13, 3) := by decide +kernel
theorem dX11_tend_8 : decode cX11_tend 8 = .ok (.iload_n 2, 1) := by decide +kernel
theorem dX11_tend_9 : decode cX11_tend 9 = .ok (.ifCond .lt 9, 3) := by decide +kernel
theorem dX11_tend_12 : decode cX11_tend 12 = .ok (.iload_n 2, 1) := by decide +kernel
theorem dX11_tend_13 : decode cX11_tend 13 = .ok (.bipush 99, 2) := by decide +kernel
theorem dX11_tend_15 : decode cX11_tend 15 = .ok (.if_icmp .le 5, 3) := by decide +kernel
theorem dX11_tend_18 : decode cX11_tend 18 = .ok (.iconst (-1), 1) := by decide +kernel
theorem dX11_tend_19 : decode cX11_tend 19 = .ok (.ireturn, 1) := by decide +kernel
theorem dX11_tend_20 : decode cX11_tend 20 = .ok (.aload_n 0, 1) := by decide +kernel
theorem dX11_tend_21 : decode cX11_tend 21 = .ok (.getfield 28, 3) := by decide +kernel
theorem dX11_tend_24 : decode cX11_tend 24 = .ok (.getfield 38, 3) := by decide +kernel
theorem dX11_tend_27 : decode cX11_tend 27 = .ok (.getfield 185, 3) := by decide +kernel
theorem dX11_tend_30 : decode cX11_tend 30 = .ok (.iload_n 1, 1) := by decide +kernel
theorem dX11_tend_31 : decode cX11_tend 31 = .ok (.iaload, 1) := by decide +kernel
theorem dX11_tend_32 : decode cX11_tend 32 = .ok (.istore_n 3, 1) := by decide +kernel
theorem dX11_tend_33 : decode cX11_tend 33 = .ok (.iconst (-1), 1) := by decide +kernel
theorem dX11_tend_34 : decode cX11_tend 34 = .ok (.istore 4, 2) := by decide +kernel
theorem dX11_tend_36 : decode cX11_tend 36 = .ok (.iconst (-1), 1) := by decide +kernel
theorem dX11_tend_37 : decode cX11_tend 37 = .ok (.istore 5, 2) := by decide +kernel
theorem dX11_tend_39 : decode cX11_tend 39 = .ok (.iconst 0, 1) := by decide +kernel
theorem dX11_tend_40 : decode cX11_tend 40 = .ok (.istore 6, 2) := by decide +kernel
theorem dX11_tend_42 : decode cX11_tend 42 = .ok (.iload 6, 2) := by decide +kernel
theorem dX11_tend_44 : decode cX11_tend 44 = .ok (.aload_n 0, 1) := by decide +kernel
theorem dX11_tend_45 : decode cX11_tend 45 = .ok (.getfield 28, 3) := by decide +kernel
theorem dX11_tend_48 : decode cX11_tend 48 = .ok (.getfield 38, 3) := by decide +kernel
theorem dX11_tend_51 : decode cX11_tend 51 = .ok (.getfield 302, 3) := by decide +kernel
theorem dX11_tend_54 : decode cX11_tend 54 = .ok (.if_icmp .ge 72, 3) := by decide +kernel
theorem dX11_tend_57 : decode cX11_tend 57 = .ok (.aload_n 0, 1) := by decide +kernel
theorem dX11_tend_58 : decode cX11_tend 58 = .ok (.getfield 28, 3) := by decide +kernel
theorem dX11_tend_61 : decode cX11_tend 61 = .ok (.getfield 127, 3) := by decide +kernel
theorem dX11_tend_64 : decode cX11_tend 64 = .ok (.iload 6, 2) := by decide +kernel
theorem dX11_tend_66 : decode cX11_tend 66 = .ok (.invokevirtual 177, 3) := by decide +kernel
theorem dX11_tend_69 : decode cX11_tend 69 = .ok (.invokestatic 308, 3) := by decide +kernel
theorem dX11_tend_72 : decode cX11_tend 72 = .ok (.iload_n 2, 1) := by decide +kernel
theorem dX11_tend_73 : decode cX11_tend 73 = .ok (.if_icmp .le 47, 3) := by decide +kernel
theorem dX11_tend_76 : decode cX11_tend 76 = .ok (.aload_n 0, 1) := by decide +kernel
theorem dX11_tend_77 : decode cX11_tend 77 = .ok (.getfield 28, 3) := by decide +kernel
theorem dX11_tend_80 : decode cX11_tend 80 = .ok (.getfield 38, 3) := by decide +kernel
theorem dX11_tend_83 : decode cX11_tend 83 = .ok (.getfield 149, 3) := by decide +kernel
theorem dX11_tend_86 : decode cX11_tend 86 = .ok (.iload 6, 2) := by decide +kernel
theorem dX11_tend_88 : decode cX11_tend 88 = .ok (.iaload, 1) := by decide +kernel
theorem dX11_tend_89 : decode cX11_tend 89 = .ok (.istore 7, 2) := by decide +kernel
theorem dX11_tend_91 : decode cX11_tend 91 = .ok (.iload 4, 2) := by decide +kernel
theorem dX11_tend_93 : decode cX11_tend 93 = .ok (.iconst (-1), 1) := by decide +kernel
theorem dX11_tend_94 : decode cX11_tend 94 = .ok (.if_icmp .ne 8, 3) := by decide +kernel
theorem dX11_tend_97 : decode cX11_tend 97 = .ok (.iload 7, 2) := by decide +kernel
theorem dX11_tend_99 : decode cX11_tend 99 = .ok (.goto 10, 3) := by decide +kernel
theorem dX11_tend_102 : decode cX11_tend 102 = .ok (.iload 4, 2) := by decide +kernel
theorem dX11_tend_104 : decode cX11_tend 104 = .ok (.iload 7, 2) := by decide +kernel
theorem dX11_tend_106 : decode cX11_tend 106 = .ok (.invokestatic 313, 3) := by decide +kernel
theorem dX11_tend_109 : decode cX11_tend 109 = .ok (.istore 4, 2) := by decide +kernel
theorem dX11_tend_111 : decode cX11_tend 111 = .ok (.iload 5, 2) := by decide +kernel
theorem dX11_tend_113 : decode cX11_tend 113 = .ok (.iload 7, 2) := by decide +kernel
theorem dX11_tend_115 : decode cX11_tend 115 = .ok (.invokestatic 316, 3) := by decide +kernel
theorem dX11_tend_118 : decode cX11_tend 118 = .ok (.istore 5, 2) := by decide +kernel
theorem dX11_tend_120 : decode cX11_tend 120 = .ok (.iinc 6 1, 3) := by decide +kernel
theorem dX11_tend_123 : decode cX11_tend 123 = .ok (.goto (-81), 3) := by decide +kernel
theorem dX11_tend_126 : decode cX11_tend 126 = .ok (.iload 4, 2) := by decide +kernel
theorem dX11_tend_128 : decode cX11_tend 128 = .ok (.iconst (-1), 1) := by decide +kernel
theorem dX11_tend_129 : decode cX11_tend 129 = .ok (.if_icmp .ne 5, 3) := by decide +kernel
theorem dX11_tend_132 : decode cX11_tend 132 = .ok (.iconst 0, 1) := by decide +kernel
theorem dX11_tend_133 : decode cX11_tend 133 = .ok (.ireturn, 1) := by decide +kernel
theorem dX11_tend_134 : decode cX11_tend 134 = .ok (.iload 5, 2) := by decide +kernel
theorem dX11_tend_136 : decode cX11_tend 136 = .ok (.iload 4, 2) := by decide +kernel
theorem dX11_tend_138 : decode cX11_tend 138 = .ok (.isub, 1) := by decide +kernel
theorem dX11_tend_139 : decode cX11_tend 139 = .ok (.iload_n 3, 1) := by decide +kernel
theorem dX11_tend_140 : decode cX11_tend 140 = .ok (.iload 4, 2) := by decide +kernel
theorem dX11_tend_142 : decode cX11_tend 142 = .ok (.isub, 1) := by decide +kernel
theorem dX11_tend_143 : decode cX11_tend 143 = .ok (.invokestatic 308, 3) := by decide +kernel
theorem dX11_tend_146 : decode cX11_tend 146 = .ok (.iload_n 3, 1) := by decide +kernel
theorem dX11_tend_147 : decode cX11_tend 147 = .ok (.iload 5, 2) := by decide +kernel
theorem dX11_tend_149 : decode cX11_tend 149 = .ok (.isub, 1) := by decide +kernel
theorem dX11_tend_150 : decode cX11_tend 150 = .ok (.invokestatic 308, 3) := by decide +kernel
theorem dX11_tend_153 : decode cX11_tend 153 = .ok (.invokestatic 313, 3) := by decide +kernel
theorem dX11_tend_156 : decode cX11_tend 156 = .ok (.iadd, 1) := by decide +kernel
theorem dX11_tend_157 : decode cX11_tend 157 = .ok (.ireturn, 1) := by decide +kernel
set_option maxRecDepth 20000 in
theorem ggX11_worst_X3_wrongBy : GoodIn wsX11_worst wsX3_wrongBy := goodIn_r _ [13, 14, 15, 16, 17, 12, 18, 19, 20, 21, 22, 23, 24, 25, 26, 27, 28, 61, 62, 63, 64, 65, 66, 67, 68, 69, 70, 46, 47, 48, 49, 50, 51, 52, 53, 54, 55, 56, 57, 58, 59, 60] (by decide +kernel) (by decide +kernel)
set_option maxRecDepth 20000 in
theorem gX11_worst_X3_wrongBy : GoodIn wsX11_worst (wsV RX11 177 RX3 yX3_wrongBy wsX3_wrongBy) := goodIn_app (goodIn_of _ (by decide +kernel)) ggX11_worst_X3_wrongBy
theorem dX11_worst_0 : decode cX11_worst 0 = .ok (.iconst (-1), 1) := by decide +kernel
theorem dX11_worst_1 : decode cX11_worst 1 = .ok (.istore_n 1, 1) := by decide +kernel
theorem dX11_worst_2 : decode cX11_worst 2 = .ok (.iconst 0, 1) := by decide +kernel
theorem dX11_worst_3 : decode cX11_worst 3 = .ok (.istore_n 2, 1) := by decide +kernel
theorem dX11_worst_4 : decode cX11_worst 4 = .ok (.iconst 0, 1) := by decide +kernel
theorem dX11_worst_5 : decode cX11_worst 5 = .ok (.istore_n 3, 1) := by decide +kernel
theorem dX11_worst_6 : decode cX11_worst 6 = .ok (.iload_n 3, 1) := by decide +kernel
theorem dX11_worst_7 : decode cX11_worst 7 = .ok (.aload_n 0, 1) := by decide +kernel
theorem dX11_worst_8 : decode cX11_worst 8 = .ok (.getfield 28, 3) := by decide +kernel
theorem dX11_worst_11 : decode cX11_worst 11 = .ok (.getfield 38, 3) := by decide +kernel
theorem dX11_worst_14 : decode cX11_worst 14 = .ok (.getfield 302, 3) := by decide +kernel
theorem dX11_worst_17 : decode cX11_worst 17 = .ok (.if_icmp .ge 36, 3) := by decide +kernel
theorem dX11_worst_20 : decode cX11_worst 20 = .ok (.aload_n 0, 1) := by decide +kernel
theorem dX11_worst_21 : decode cX11_worst 21 = .ok (.getfield 28, 3) := by decide +kernel
theorem dX11_worst_24 : decode cX11_worst 24 = .ok (.getfield 127, 3) := by decide +kernel
theorem dX11_worst_27 : decode cX11_worst 27 = .ok (.iload_n 3, 1) := by decide +kernel
theorem dX11_worst_28 : decode cX11_worst 28 = .ok (.invokevirtual 177, 3) := by decide +kernel
theorem dX11_worst_31 : decode cX11_worst 31 = .ok (.invokestatic 308, 3) := by decide +kernel
theorem dX11_worst_34 : decode cX11_worst 34 = .ok (.istore 4, 2) := by decide +kernel
theorem dX11_worst_36 : decode cX11_worst 36 = .ok (.iload 4, 2) := by decide +kernel
theorem dX11_worst_38 : decode cX11_worst 38 = .ok (.iload_n 2, 1) := by decide +kernel
theorem dX11_worst_39 : decode cX11_worst 39 = .ok (.if_icmp .le 8, 3) := by decide +kernel
theorem dX11_worst_42 : decode cX11_worst 42 = .ok (.iload 4, 2) := by decide +kernel
theorem dX11_worst_44 : decode cX11_worst 44 = .ok (.istore_n 2, 1) := by decide +kernel
theorem dX11_worst_45 : decode cX11_worst 45 = .ok (.iload_n 3, 1) := by decide +kernel
theorem dX11_worst_46 : decode cX11_worst 46 = .ok (.istore_n 1, 1) := by decide +kernel
theorem dX11_worst_47 : decode cX11_worst 47 = .ok (.iinc 3 1, 3) := by decide +kernel
theorem dX11_worst_50 : decode cX11_worst 50 = .ok (.goto (-44), 3) := by decide +kernel
theorem dX11_worst_53 : decode cX11_worst 53 = .ok (.iload_n 1, 1) := by decide +kernel
theorem dX11_worst_54 : decode cX11_worst 54 = .ok (.ireturn, 1) := by decide +kernel
set_option maxRecDepth 20000 in
theorem ggX11_latest_X3_mostBehind : GoodIn wsX11_latest wsX3_mostBehind := goodIn_r _ [10, 11, 12, 13, 14, 15, 16, 17, 18, 19, 9, 20, 21, 22, 23, 24, 25, 58, 59, 60, 61, 62, 63, 64, 65, 66, 67, 43, 44, 45, 46, 47, 48, 49, 50, 51, 52, 53, 54, 55, 56, 57] (by decide +kernel) (by decide +kernel)
set_option maxRecDepth 20000 in
theorem gX11_latest_X3_mostBehind : GoodIn wsX11_latest (wsV RX11 322 RX3 yX3_mostBehind wsX3_mostBehind) := goodIn_app (goodIn_of _ (by decide +kernel)) ggX11_latest_X3_mostBehind
theorem dX11_latest_0 : decode cX11_latest 0 = .ok (.iconst (-1), 1) := by decide +kernel
theorem dX11_latest_1 : decode cX11_latest 1 = .ok (.istore_n 1, 1) := by decide +kernel
theorem dX11_latest_2 : decode cX11_latest 2 = .ok (.iconst 0, 1) := by decide +kernel
theorem dX11_latest_3 : decode cX11_latest 3 = .ok (.istore_n 2, 1) := by decide +kernel
theorem dX11_latest_4 : decode cX11_latest 4 = .ok (.iconst 0, 1) := by decide +kernel
theorem dX11_latest_5 : decode cX11_latest 5 = .ok (.istore_n 3, 1) := by decide +kernel
theorem dX11_latest_6 : decode cX11_latest 6 = .ok (.iload_n 3, 1) := by decide +kernel
theorem dX11_latest_7 : decode cX11_latest 7 = .ok (.aload_n 0, 1) := by decide +kernel
theorem dX11_latest_8 : decode cX11_latest 8 = .ok (.getfield 28, 3) := by decide +kernel
theorem dX11_latest_11 : decode cX11_latest 11 = .ok (.getfield 38, 3) := by decide +kernel
theorem dX11_latest_14 : decode cX11_latest 14 = .ok (.getfield 319, 3) := by decide +kernel
theorem dX11_latest_17 : decode cX11_latest 17 = .ok (.if_icmp .ge 33, 3) := by decide +kernel
theorem dX11_latest_20 : decode cX11_latest 20 = .ok (.aload_n 0, 1) := by decide +kernel
theorem dX11_latest_21 : decode cX11_latest 21 = .ok (.getfield 28, 3) := by decide +kernel
theorem dX11_latest_24 : decode cX11_latest 24 = .ok (.getfield 127, 3) := by decide +kernel
theorem dX11_latest_27 : decode cX11_latest 27 = .ok (.iload_n 3, 1) := by decide +kernel
theorem dX11_latest_28 : decode cX11_latest 28 = .ok (.invokevirtual 322, 3) := by decide +kernel
theorem dX11_latest_31 : decode cX11_latest 31 = .ok (.istore 4, 2) := by decide +kernel
theorem dX11_latest_33 : decode cX11_latest 33 = .ok (.iload 4, 2) := by decide +kernel
theorem dX11_latest_35 : decode cX11_latest 35 = .ok (.iload_n 2, 1) := by decide +kernel
theorem dX11_latest_36 : decode cX11_latest 36 = .ok (.if_icmp .le 8, 3) := by decide +kernel
theorem dX11_latest_39 : decode cX11_latest 39 = .ok (.iload 4, 2) := by decide +kernel
theorem dX11_latest_41 : decode cX11_latest 41 = .ok (.istore_n 2, 1) := by decide +kernel
theorem dX11_latest_42 : decode cX11_latest 42 = .ok (.iload_n 3, 1) := by decide +kernel
theorem dX11_latest_43 : decode cX11_latest 43 = .ok (.istore_n 1, 1) := by decide +kernel
theorem dX11_latest_44 : decode cX11_latest 44 = .ok (.iinc 3 1, 3) := by decide +kernel
theorem dX11_latest_47 : decode cX11_latest 47 = .ok (.goto (-41), 3) := by decide +kernel
theorem dX11_latest_50 : decode cX11_latest 50 = .ok (.iload_n 1, 1) := by decide +kernel
theorem dX11_latest_51 : decode cX11_latest 51 = .ok (.iconst (-1), 1) := by decide +kernel
theorem dX11_latest_52 : decode cX11_latest 52 = .ok (.if_icmp .eq 8, 3) := by decide +kernel
theorem dX11_latest_55 : decode cX11_latest 55 = .ok (.aload_n 0, 1) := by decide +kernel
theorem dX11_latest_56 : decode cX11_latest 56 = .ok (.iload_n 2, 1) := by decide +kernel
theorem dX11_latest_57 : decode cX11_latest 57 = .ok (.putfield 99, 3) := by decide +kernel
theorem dX11_latest_60 : decode cX11_latest 60 = .ok (.iload_n 1, 1) := by decide +kernel
theorem dX11_latest_61 : decode cX11_latest 61 = .ok (.ireturn, 1) := by decide +kernel
theorem dX11_latestBy_0 : decode cX11_latestBy 0 = .ok (.aload_n 0, 1) := by decide +kernel
theorem dX11_latestBy_1 : decode cX11_latestBy 1 = .ok (.getfield 99, 3) := by decide +kernel
theorem dX11_latestBy_4 : decode cX11_latestBy 4 = .ok (.ireturn, 1) := by decide +kernel
set_option maxRecDepth 20000 in
theorem ggX11_mean_X3_howOftenCame : GoodIn wsX11_mean wsX3_howOftenCame := goodIn_r _ [9, 10, 11, 12, 13, 14, 15, 8, 16, 17, 18, 19, 20, 21, 22, 23, 24, 25, 26, 27, 61, 62, 63, 64, 65, 66, 67, 68, 69, 70, 71, 72, 73, 74, 75, 76, 77, 78, 79, 80, 81, 82, 83, 84, 85] (by decide +kernel) (by decide +kernel)
set_option maxRecDepth 20000 in
theorem gX11_mean_X3_howOftenCame : GoodIn wsX11_mean (wsV RX11 231 RX3 yX3_howOftenCame wsX3_howOftenCame) := goodIn_app (goodIn_of _ (by decide +kernel)) ggX11_mean_X3_howOftenCame
set_option maxRecDepth 20000 in
theorem ggX11_mean_X3_minutesBehind : GoodIn wsX11_mean wsX3_minutesBehind := goodIn_r _ [31, 10, 17, 11, 32, 33, 34, 8, 35, 12, 36, 37, 38, 39, 40, 18, 19, 20, 61, 62, 63, 64, 65, 66, 67, 68, 69, 70, 71, 72, 73, 74, 75, 76, 77, 78, 79, 80, 81, 82, 83, 84, 85] (by decide +kernel) (by decide +kernel)
set_option maxRecDepth 20000 in
theorem gX11_mean_X3_minutesBehind : GoodIn wsX11_mean (wsV RX11 234 RX3 yX3_minutesBehind wsX3_minutesBehind) := goodIn_app (goodIn_of _ (by decide +kernel)) ggX11_mean_X3_minutesBehind
set_option maxRecDepth 20000 in
theorem ggX11_mean_X11_greatestCommon : GoodIn wsX11_mean wsX11_greatestCommon := goodIn_r _ [43] (by decide +kernel) (by decide +kernel)
set_option maxRecDepth 20000 in
theorem gX11_mean_X11_greatestCommon : GoodIn wsX11_mean (va_wsS RX11 327 yX11_greatestCommon wsX11_greatestCommon) := goodIn_app (goodIn_of _ (by decide +kernel)) ggX11_mean_X11_greatestCommon
theorem dX11_mean_0 : decode cX11_mean 0 = .ok (.aload_n 0, 1) := by decide +kernel
theorem dX11_mean_1 : decode cX11_mean 1 = .ok (.getfield 28, 3) := by decide +kernel
theorem dX11_mean_4 : decode cX11_mean 4 = .ok (.getfield 127, 3) := by decide +kernel
theorem dX11_mean_7 : decode cX11_mean 7 = .ok (.invokevirtual 231, 3) := by decide +kernel
theorem dX11_mean_10 : decode cX11_mean 10 = .ok (.istore_n 2, 1) := by decide +kernel
theorem dX11_mean_11 : decode cX11_mean 11 = .ok (.iload_n 2, 1) := by decide +kernel
theorem dX11_mean_12 : decode cX11_mean 12 = .ok (.ifCond .eq 12, 3) := by decide +kernel
theorem dX11_mean_15 : decode cX11_mean 15 = .ok (.iload_n 1, 1) := by decide +kernel
theorem dX11_mean_16 : decode cX11_mean 16 = .ok (.ifCond .lt 8, 3) := by decide +kernel
theorem dX11_mean_19 : decode cX11_mean 19 = .ok (.iload_n 1, 1) := by decide +kernel
theorem dX11_mean_20 : decode cX11_mean 20 = .ok (.iconst 1, 1) := by decide +kernel
theorem dX11_mean_21 : decode cX11_mean 21 = .ok (.if_icmp .le 14, 3) := by decide +kernel
theorem dX11_mean_24 : decode cX11_mean 24 = .ok (.new 170, 3) := by decide +kernel
theorem dX11_mean_27 : decode cX11_mean 27 = .ok (.dup, 1) := by decide +kernel
theorem dX11_mean_28 : decode cX11_mean 28 = .ok (.ldc_w 325, 3) := by decide +kernel
theorem dX11_mean_31 : decode cX11_mean 31 = .ok (.invokespecial 174, 3) := by decide +kernel
theorem dX11_mean_34 : decode cX11_mean 34 = .ok (.athrow, 1) := by decide +kernel
theorem dX11_mean_35 : decode cX11_mean 35 = .ok (.aload_n 0, 1) := by decide +kernel
theorem dX11_mean_36 : decode cX11_mean 36 = .ok (.getfield 28, 3) := by decide +kernel
theorem dX11_mean_39 : decode cX11_mean 39 = .ok (.getfield 127, 3) := by decide +kernel
theorem dX11_mean_42 : decode cX11_mean 42 = .ok (.invokevirtual 234, 3) := by decide +kernel
theorem dX11_mean_45 : decode cX11_mean 45 = .ok (.istore_n 3, 1) := by decide +kernel
theorem dX11_mean_46 : decode cX11_mean 46 = .ok (.iload_n 2, 1) := by decide +kernel
theorem dX11_mean_47 : decode cX11_mean 47 = .ok (.iload_n 3, 1) := by decide +kernel
theorem dX11_mean_48 : decode cX11_mean 48 = .ok (.invokestatic 327, 3) := by decide +kernel
theorem dX11_mean_51 : decode cX11_mean 51 = .ok (.istore 4, 2) := by decide +kernel
theorem dX11_mean_53 : decode cX11_mean 53 = .ok (.iload 4, 2) := by decide +kernel
theorem dX11_mean_55 : decode cX11_mean 55 = .ok (.ifCond .ne 5, 3) := by decide +kernel
theorem dX11_mean_58 : decode cX11_mean 58 = .ok (.iconst 0, 1) := by decide +kernel
theorem dX11_mean_59 : decode cX11_mean 59 = .ok (.ireturn, 1) := by decide +kernel
theorem dX11_mean_60 : decode cX11_mean 60 = .ok (.iload_n 1, 1) := by decide +kernel
theorem dX11_mean_61 : decode cX11_mean 61 = .ok (.ifCond .ne 7, 3) := by decide +kernel
theorem dX11_mean_64 : decode cX11_mean 64 = .ok (.iload_n 3, 1) := by decide +kernel
theorem dX11_mean_65 : decode cX11_mean 65 = .ok (.goto 4, 3) := by decide +kernel
theorem dX11_mean_68 : decode cX11_mean 68 = .ok (.iload_n 2, 1) := by decide +kernel
theorem dX11_mean_69 : decode cX11_mean 69 = .ok (.iload 4, 2) := by decide +kernel
theorem dX11_mean_71 : decode cX11_mean 71 = .ok (.idiv, 1) := by decide +kernel
theorem dX11_mean_72 : decode cX11_mean 72 = .ok (.ireturn, 1) := by decide +kernel
set_option maxRecDepth 20000 in
theorem ggX11_face_X11_isClock : GoodIn wsX11_face wsX11_isClock := goodIn_r _ [11, 1, 5, 12, 266, 267, 268, 269, 270, 271, 272, 273, 274, 275, 276, 277, 278, 279, 280, 281, 282, 293, 294, 295, 296, 297, 298, 299, 300, 301, 302, 303, 304, 305, 306, 307] (by decide +kernel) (by decide +kernel)
set_option maxRecDepth 20000 in
theorem gX11_face_X11_isClock : GoodIn wsX11_face (wsV RX11 145 RX11 yX11_isClock wsX11_isClock) := goodIn_app (goodIn_of _ (by decide +kernel)) ggX11_face_X11_isClock
set_option maxRecDepth 20000 in
theorem ggX11_face_X3_shows : GoodIn wsX11_face wsX3_shows := goodIn_r _ [17, 18, 19, 20, 16, 21, 22, 23, 24, 25, 26, 27, 28, 29, 30, 31, 32, 33, 34, 35, 283, 284, 285, 286, 287, 288, 289, 290, 291, 292, 293, 294, 295, 296, 297, 298, 299, 300, 301, 302, 303, 304, 305, 306, 307] (by decide +kernel) (by decide +kernel)
set_option maxRecDepth 20000 in
theorem gX11_face_X3_shows : GoodIn wsX11_face (wsV RX11 162 RX3 yX3_shows wsX3_shows) := goodIn_app (goodIn_of _ (by decide +kernel)) ggX11_face_X3_shows
set_option maxRecDepth 20000 in
theorem ggX11_face_J4_setLength_d00df : GoodIn wsX11_face wsJ4_setLength_d00df := goodIn_r _ [40, 41, 42, 43, 44, 45, 46, 47, 48, 49, 50, 51, 52, 53, 54, 55, 56, 57, 58, 59, 60, 61, 62, 63, 64, 65, 66, 67, 68, 69, 70, 71, 72, 73, 74, 75, 76, 77, 78, 79, 80, 81, 82, 83, 84, 85, 86, 87, 88, 89, 90, 91, 92, 93, 94, 95, 96, 97, 98, 99, 100, 101, 102, 103, 104, 105, 106, 107, 108, 109, 110, 111, 112, 308, 309, 310, 311] (by decide +kernel) (by decide +kernel)
set_option maxRecDepth 20000 in
theorem gX11_face_J4_setLength_d00df : GoodIn wsX11_face (wsV RX11 330 RJ4 yJ4_setLength_d00df wsJ4_setLength_d00df) := goodIn_app (goodIn_of _ (by decide +kernel)) ggX11_face_J4_setLength_d00df
set_option maxRecDepth 20000 in
theorem ggX11_face_X11_spell : GoodIn wsX11_face wsX11_spell := goodIn_r _ [116, 4, 117, 118, 119, 39, 120, 121, 122, 43, 123, 45, 124, 47, 48, 50, 51, 52, 53, 54, 55, 56, 57, 58, 59, 60, 61, 62, 63, 64, 65, 66, 67, 68, 69, 70, 71, 72, 73, 74, 75, 76, 77, 78, 79, 80, 81, 82, 83, 84, 85, 86, 87, 88, 89, 90, 91, 92, 93, 94, 95, 96, 97, 125, 126, 100, 127, 128, 129, 130, 131, 132, 133, 134, 110, 135, 136, 137, 138, 139, 140, 141, 142, 143, 144, 145, 146, 147, 148, 149, 150, 151, 152, 153, 154, 155, 156, 157, 158, 159, 160, 161, 162, 163, 164, 165, 166, 167, 168, 169, 170, 171, 172, 173, 174, 175, 176, 177, 178, 266, 267, 268, 269, 270, 271, 272, 273, 274, 275, 276, 277, 278, 308, 309, 310, 311] (by decide +kernel) (by decide +kernel)
set_option maxRecDepth 20000 in
theorem gX11_face_X11_spell : GoodIn wsX11_face (wsV RX11 337 RX11 yX11_spell wsX11_spell) := goodIn_app (goodIn_of _ (by decide +kernel)) ggX11_face_X11_spell
set_option maxRecDepth 20000 in
theorem ggX11_face_J4_append_15ec4 : GoodIn wsX11_face wsJ4_append_15ec4 := goodIn_r _ [182, 183, 184, 43, 185, 45, 186, 47, 187, 188, 189, 190, 191, 48, 50, 51, 52, 53, 54, 55, 56, 57, 58, 59, 60, 61, 62, 63, 64, 65, 66, 67, 68, 69, 70, 71, 72, 73, 74, 75, 76, 77, 78, 79, 80, 81, 82, 83, 84, 85, 86, 87, 88, 89, 90, 91, 92, 93, 94, 95, 96, 97, 192, 193, 110, 194, 164, 195, 196, 197, 149, 150, 151, 198, 199, 154, 200, 156, 201, 202, 159, 203, 161, 162, 163, 165, 166, 204, 205, 206, 207, 208, 209, 210, 211, 212, 213, 214, 215, 216, 217, 218, 219, 220, 221, 222, 223, 224, 225, 128, 129, 130, 131, 132, 133, 134, 135, 136, 137, 138, 139, 140, 141, 100, 142, 143, 144, 145, 146, 147, 148, 152, 153, 155, 157, 158, 160, 226, 227, 228, 229, 230, 231, 308, 309, 310, 311] (by decide +kernel) (by decide +kernel)
set_option maxRecDepth 20000 in
theorem gX11_face_J4_append_15ec4 : GoodIn wsX11_face (wsV RX11 343 RJ4 yJ4_append_15ec4 wsJ4_append_15ec4) := goodIn_app (goodIn_of _ (by decide +kernel)) ggX11_face_J4_append_15ec4
set_option maxRecDepth 20000 in
theorem ggX11_face_J4_append_bf812 : GoodIn wsX11_face wsJ4_append_bf812 := goodIn_r _ [235, 236, 237, 43, 238, 45, 239, 47, 48, 240, 241, 242, 243, 50, 51, 52, 53, 54, 55, 56, 57, 58, 59, 60, 61, 62, 63, 64, 65, 66, 67, 68, 69, 70, 71, 72, 73, 74, 75, 76, 77, 78, 79, 80, 81, 82, 83, 84, 85, 86, 87, 88, 89, 90, 91, 92, 93, 94, 95, 96, 97, 244, 245, 246, 247, 248, 249, 250, 110, 251, 164, 195, 196, 197, 149, 150, 151, 198, 199, 154, 200, 156, 201, 202, 159, 203, 252, 253, 254, 255, 256, 161, 162, 163, 165, 166, 308, 309, 310, 311] (by decide +kernel) (by decide +kernel)
set_option maxRecDepth 20000 in
theorem gX11_face_J4_append_bf812 : GoodIn wsX11_face (wsV RX11 346 RJ4 yJ4_append_bf812 wsJ4_append_bf812) := goodIn_app (goodIn_of _ (by decide +kernel)) ggX11_face_J4_append_bf812
set_option maxRecDepth 20000 in
theorem ggX11_face_J4_append_cf468 : GoodIn wsX11_face wsJ4_append_cf468 := goodIn_r _ [120, 121, 122, 43, 123, 45, 124, 47, 48, 50, 51, 52, 53, 54, 55, 56, 57, 58, 59, 60, 61, 62, 63, 64, 65, 66, 67, 68, 69, 70, 71, 72, 73, 74, 75, 76, 77, 78, 79, 80, 81, 82, 83, 84, 85, 86, 87, 88, 89, 90, 91, 92, 93, 94, 95, 96, 97, 125, 126, 100, 127, 128, 129, 130, 131, 132, 133, 134, 110, 135, 136, 137, 138, 139, 140, 141, 142, 143, 144, 145, 146, 147, 148, 149, 150, 151, 152, 153, 154, 155, 156, 157, 158, 159, 160, 161, 162, 163, 164, 165, 166, 167, 168, 169, 170, 171, 172, 173, 174, 175, 176, 177, 178, 308, 309, 310, 311] (by decide +kernel) (by decide +kernel)
set_option maxRecDepth 20000 in
theorem gX11_face_J4_append_cf468 : GoodIn wsX11_face (wsV RX11 349 RJ4 yJ4_append_cf468 wsJ4_append_cf468) := goodIn_app (goodIn_of _ (by decide +kernel)) ggX11_face_J4_append_cf468
set_option maxRecDepth 20000 in
theorem ggX11_face_X3_isStopped : GoodIn wsX11_face wsX3_isStopped := goodIn_r _ [30, 31, 283, 284, 285, 286, 287, 288, 289, 290, 291, 292] (by decide +kernel) (by decide +kernel)
set_option maxRecDepth 20000 in
theorem gX11_face_X3_isStopped : GoodIn wsX11_face (wsV RX11 156 RX3 yX3_isStopped wsX3_isStopped) := goodIn_app (goodIn_of _ (by decide +kernel)) ggX11_face_X3_isStopped
set_option maxRecDepth 20000 in
theorem ggX11_face_J4_length_8abf5 : GoodIn wsX11_face wsJ4_length_8abf5 := goodIn_r _ [261, 262, 263, 43, 264, 45, 265, 47, 308, 309, 310, 311] (by decide +kernel) (by decide +kernel)
set_option maxRecDepth 20000 in
theorem gX11_face_J4_length_8abf5 : GoodIn wsX11_face (wsV RX11 354 RJ4 yJ4_length_8abf5 wsJ4_length_8abf5) := goodIn_app (goodIn_of _ (by decide +kernel)) ggX11_face_J4_length_8abf5
theorem dX11_face_0 : decode cX11_face 0 = .ok (.aload_n 0, 1) := by decide +kernel
theorem dX11_face_1 : decode cX11_face 1 = .ok (.iload_n 1, 1) := by decide +kernel
theorem dX11_face_2 : decode cX11_face 2 = .ok (.invokevirtual 145, 3) := by decide +kernel
theorem dX11_face_5 : decode cX11_face 5 = .ok (.ifCond .ne 5, 3) := by decide +kernel
theorem dX11_face_8 : decode cX11_face 8 = .ok (.iconst (-1), 1) := by decide +kernel
theorem dX11_face_9 : decode cX11_face 9 = .ok (.ireturn, 1) := by decide +kernel
theorem dX11_face_10 : decode cX11_face 10 = .ok (.aload_n 0, 1) := by decide +kernel
theorem dX11_face_11 : decode cX11_face 11 = .ok (.getfield 28, 3) := by decide +kernel
theorem dX11_face_14 : decode cX11_face 14 = .ok (.getfield 127, 3) := by decide +kernel
theorem dX11_face_17 : decode cX11_face 17 = .ok (.iload_n 1, 1) := by decide +kernel
theorem dX11_face_18 : decode cX11_face 18 = .ok (.aload_n 0, 1) := by decide +kernel
theorem dX11_face_19 : decode cX11_face 19 = .ok (.getfield 28, 3) := by decide +kernel
theorem dX11_face_22 : decode cX11_face 22 = .ok (.getfield 127, 3) := by decide +kernel
theorem dX11_face_25 : decode cX11_face 25 = .ok (.getfield 159, 3) := by decide +kernel
theorem dX11_face_28 : decode cX11_face 28 = .ok (.invokevirtual 162, 3) := by decide +kernel
theorem dX11_face_31 : decode cX11_face 31 = .ok (.istore_n 2, 1) := by decide +kernel
theorem dX11_face_32 : decode cX11_face 32 = .ok (.aload_n 0, 1) := by decide +kernel
theorem dX11_face_33 : decode cX11_face 33 = .ok (.getfield 91, 3) := by decide +kernel
theorem dX11_face_36 : decode cX11_face 36 = .ok (.iconst 0, 1) := by decide +kernel
theorem dX11_face_37 : decode cX11_face 37 = .ok (.invokevirtual 330, 3) := by decide +kernel
theorem dX11_face_40 : decode cX11_face 40 = .ok (.aload_n 0, 1) := by decide +kernel
theorem dX11_face_41 : decode cX11_face 41 = .ok (.aload_n 0, 1) := by decide +kernel
theorem dX11_face_42 : decode cX11_face 42 = .ok (.getfield 28, 3) := by decide +kernel
theorem dX11_face_45 : decode cX11_face 45 = .ok (.getfield 38, 3) := by decide +kernel
theorem dX11_face_48 : decode cX11_face 48 = .ok (.getfield 333, 3) := by decide +kernel
theorem dX11_face_51 : decode cX11_face 51 = .ok (.iload_n 1, 1) := by decide +kernel
theorem dX11_face_52 : decode cX11_face 52 = .ok (.laload, 1) := by decide +kernel
theorem dX11_face_53 : decode cX11_face 53 = .ok (.invokevirtual 337, 3) := by decide +kernel
theorem dX11_face_56 : decode cX11_face 56 = .ok (.aload_n 0, 1) := by decide +kernel
